/-! the classes: their words, the types of their fields -/
def aRt : FieldType → Bool
  | .object _ => true
  | .array _ => true
  | _ => false
def aTyf : Nat → Nat → FieldType
  | 0 => tyX0
  | 1 => tyX1
  | 2 => tyX3
  | 3 => tyX4
  | 4 => tyX5
  | 5 => tyX6
  | 6 => tyX7
  | 7 => tyX8
  | 8 => tyX9
  | 9 => tyX10
  | 10 => tyX11
  | 11 => tyX12
  | _ => tyX0
def aFko (c k : Nat) : Bool := match aFk c k with
  | 0 => decide (aTyf c k = .int)
  | 1 => decide (aTyf c k = .long)
  | 2 => aRt (aTyf c k)
  | _ => false
def aClF (c : Nat) : Prop := vwCl[c]? = some (aCl c) ∧ (∀ w ∈ u_ws (aCl c).1 (aCl c).2.1 (aCl c).2.2, w ∈ gw) ∧ (∀ k, k < (aCl c).2.2 → parseFieldDescriptor ((aCl c).2.1 k).2.2.1 = some (aTyf c k)) ∧ (∀ a, a < (aCl c).2.2 → ∀ b, b < (aCl c).2.2 → a ≠ b → ((aCl c).2.1 a).2.1 ≠ ((aCl c).2.1 b).2.1) ∧ aNF c = (aCl c).2.2 ∧ (∀ k, k < (aCl c).2.2 → aFko c k = true) ∧ Jvm.Cond.instantiable (aCl c).1 (aCl c).2.2 ∈ gw ∧ Jvm.Cond.initialized (aCl c).1 ∈ gw
set_option maxRecDepth 100000 in
theorem aClF_0 : aClF 0 := ⟨rfl, inX0, tyX0_ok, nmX0, rfl, (by decide +kernel : ∀ k, k < 9 → aFko 0 k = true), vx_t 168 (by decide +kernel) (by decide +kernel), vx_t 7 (by decide +kernel) (by decide +kernel)⟩
set_option maxRecDepth 100000 in
theorem aClF_1 : aClF 1 := ⟨rfl, inX1, tyX1_ok, nmX1, rfl, (by decide +kernel : ∀ k, k < 8 → aFko 1 k = true), vx_t 194 (by decide +kernel) (by decide +kernel), vx_t 9 (by decide +kernel) (by decide +kernel)⟩
set_option maxRecDepth 100000 in
theorem aClF_2 : aClF 2 := ⟨rfl, inX3, tyX3_ok, nmX3, rfl, (by decide +kernel : ∀ k, k < 6 → aFko 2 k = true), vx_t 132 (by decide +kernel) (by decide +kernel), vx_t 5 (by decide +kernel) (by decide +kernel)⟩
set_option maxRecDepth 100000 in
theorem aClF_3 : aClF 3 := ⟨rfl, inX4, tyX4_ok, nmX4, rfl, (by decide +kernel : ∀ k, k < 6 → aFko 3 k = true), vx_t 54 (by decide +kernel) (by decide +kernel), vx_t 4 (by decide +kernel) (by decide +kernel)⟩
set_option maxRecDepth 100000 in
theorem aClF_4 : aClF 4 := ⟨rfl, inX5, tyX5_ok, nmX5, rfl, (by decide +kernel : ∀ k, k < 2 → aFko 4 k = true), vx_t 174 (by decide +kernel) (by decide +kernel), vx_t 8 (by decide +kernel) (by decide +kernel)⟩
set_option maxRecDepth 100000 in
theorem aClF_5 : aClF 5 := ⟨rfl, inX6, tyX6_ok, nmX6, rfl, (by decide +kernel : ∀ k, k < 3 → aFko 5 k = true), vx_t 275 (by decide +kernel) (by decide +kernel), vx_t 10 (by decide +kernel) (by decide +kernel)⟩
set_option maxRecDepth 100000 in
theorem aClF_6 : aClF 6 := ⟨rfl, inX7, tyX7_ok, nmX7, rfl, (by decide +kernel : ∀ k, k < 9 → aFko 6 k = true), vx_t 47 (by decide +kernel) (by decide +kernel), vx_t 3 (by decide +kernel) (by decide +kernel)⟩
set_option maxRecDepth 100000 in
theorem aClF_7 : aClF 7 := ⟨rfl, inX8, tyX8_ok, nmX8, rfl, (by decide +kernel : ∀ k, k < 3 → aFko 7 k = true), vx_t 362 (by decide +kernel) (by decide +kernel), vx_t 12 (by decide +kernel) (by decide +kernel)⟩
set_option maxRecDepth 100000 in
theorem aClF_8 : aClF 8 := ⟨rfl, inX9, tyX9_ok, nmX9, rfl, (by decide +kernel : ∀ k, k < 2 → aFko 8 k = true), vx_t 30 (by decide +kernel) (by decide +kernel), vx_t 2 (by decide +kernel) (by decide +kernel)⟩
set_option maxRecDepth 100000 in
theorem aClF_9 : aClF 9 := ⟨rfl, inX10, tyX10_ok, nmX10, rfl, (by decide +kernel : ∀ k, k < 17 → aFko 9 k = true), vx_t 293 (by decide +kernel) (by decide +kernel), vx_t 11 (by decide +kernel) (by decide +kernel)⟩
set_option maxRecDepth 100000 in
theorem aClF_10 : aClF 10 := ⟨rfl, inX11, tyX11_ok, nmX11, rfl, (by decide +kernel : ∀ k, k < 9 → aFko 10 k = true), vx_t 22 (by decide +kernel) (by decide +kernel), vx_t 1 (by decide +kernel) (by decide +kernel)⟩
set_option maxRecDepth 100000 in
theorem aClF_11 : aClF 11 := ⟨rfl, inX12, tyX12_ok, nmX12, rfl, (by decide +kernel : ∀ k, k < 60 → aFko 11 k = true), vx_t 1028 (by decide +kernel) (by decide +kernel), vx_t 13 (by decide +kernel) (by decide +kernel)⟩
theorem aClF_all : ∀ {c : Nat}, c < 12 → aClF c
  | 0, _ => aClF_0
  | 1, _ => aClF_1
  | 2, _ => aClF_2
  | 3, _ => aClF_3
  | 4, _ => aClF_4
  | 5, _ => aClF_5
  | 6, _ => aClF_6
  | 7, _ => aClF_7
  | 8, _ => aClF_8
  | 9, _ => aClF_9
  | 10, _ => aClF_10
  | 11, _ => aClF_11
  | n + 12, h => absurd h (by omega)
set_option maxRecDepth 100000 in
theorem aAc_int : Jvm.Cond.arrayClass .int ∈ gw := vx_t 166 (by decide +kernel) (by decide +kernel)
set_option maxRecDepth 100000 in
theorem aAc_byte : Jvm.Cond.arrayClass .byte ∈ gw := vx_t 45 (by decide +kernel) (by decide +kernel)
set_option maxRecDepth 100000 in
theorem aAc_long : Jvm.Cond.arrayClass .long ∈ gw := vx_t 358 (by decide +kernel) (by decide +kernel)
set_option maxRecDepth 100000 in
theorem aCl_Nets18 : Jvm.Cond.classLink RX3 18 "[[I" ∈ gw := vx_t 137 (by decide +kernel) (by decide +kernel)
set_option maxRecDepth 100000 in
theorem aObj_i : Jvm.Cond.instanceMethod objectInit ∈ gw := vx_t 27 (by decide +kernel) (by decide +kernel)
set_option maxRecDepth 100000 in
theorem aObj_c : Jvm.Cond.code objectInit ⟨#[0xb1]⟩ 1 none ∈ gw := vx_t 28 (by decide +kernel) (by decide +kernel)
set_option maxRecDepth 100000 in
theorem aMath_max : Jvm.Cond.static Lib.Math.max.name ∈ gw ∧ Jvm.Cond.code Lib.Math.max.name Lib.Math.max.code 2 (some .int) ∈ gw := ⟨vx_t 975 (by decide +kernel) (by decide +kernel), vx_t 976 (by decide +kernel) (by decide +kernel)⟩
set_option maxRecDepth 100000 in
theorem aMath_min : Jvm.Cond.static Lib.Math.min.name ∈ gw ∧ Jvm.Cond.code Lib.Math.min.name Lib.Math.min.code 2 (some .int) ∈ gw := ⟨vx_t 708 (by decide +kernel) (by decide +kernel), vx_t 709 (by decide +kernel) (by decide +kernel)⟩
set_option maxRecDepth 100000 in
theorem aMath_i : Jvm.Cond.initialized "java/lang/Math" ∈ gw := vx_t 20 (by decide +kernel) (by decide +kernel)
