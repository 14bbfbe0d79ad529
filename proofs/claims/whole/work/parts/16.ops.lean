/-! Java's operations by name; the reader's isName -/
def jshl (x y : Int32) : Int32 := x <<< (y &&& 31)
def jshr (x y : Int32) : Int32 := x >>> (y &&& 31)
def jushr (x y : Int32) : Int32 := (x.toUInt32 >>> (y.toUInt32 &&& Int32.toUInt32 31)).toInt32
def jlshl (x : Int64) (y : Int32) : Int64 := x <<< (y.toInt64 &&& 63)
def jlshr (x : Int64) (y : Int32) : Int64 := x >>> (y.toInt64 &&& 63)
def jlushr (x : Int64) (y : Int32) : Int64 := (x.toUInt64 >>> (y.toInt64.toUInt64 &&& Int64.toUInt64 63)).toInt64
def jmax (x y : Int32) : Int32 := if x < y then y else x
def jmin (x y : Int32) : Int32 := if y < x then y else x
def nmT (w : Nat) : List Int32 := aStr.getD w []
def nmC (M : wM) (w : Nat) : Prop := gi M 3 5 = 1 ∧ gi M 3 7 - gi M 3 6 = nI (nmT w).length ∧ ∀ j : Nat, j < (nmT w).length → gi M 2 ((gi M 3 6).toNatClampNeg + j) = (nmT w).getD j 0
noncomputable def nmX (M : wM) (w : Nat) : Int32 := (aNm [.ref 3, .ref (1000010 + w)] (mkX M)).elim 0 (fun r => match r.1 with | some (.int x) => x | _ => 0)
def nmP (M : wM) : Prop := 0 ≤ (gi M 3 6).toInt ∧ (gi M 3 6).toInt ≤ 240 ∧ 0 ≤ (gi M 3 7).toInt ∧ (gi M 3 7).toInt ≤ 240
theorem nm_val {M : wM} {w : Nat} (h : nmP M) (hw : w < 5) : ∃ x : Int32, aNm [.ref 3, .ref (1000010 + w)] (mkX M) = some (some (.int x), mkX M) ∧ ((nmC M w ∧ x = 1) ∨ (¬ nmC M w ∧ x = 0)) := by
  obtain ⟨h1, h2, h3, h4⟩ := h
  have e : 1000010 + w - 1000010 = w := by omega
  have b1 : Nat.ble 1000010 (1000010 + w) = true := by rw [Nat.ble_eq]; omega
  have b2 : Nat.blt (1000010 + w) 1000015 = true := by rw [Nat.blt_eq]; omega
  have c1 : decide (0 ≤ ((mkX M).2.1 3 6).toInt) = true := decide_eq_true h1
  have c2 : decide (((mkX M).2.1 3 6).toInt ≤ 240) = true := decide_eq_true h2
  have c3 : decide (0 ≤ ((mkX M).2.1 3 7).toInt) = true := decide_eq_true h3
  have c4 : decide (((mkX M).2.1 3 7).toInt ≤ 240) = true := decide_eq_true h4
  have c0 : decide ((mkX M).1[2]? = some (21, 240)) = true := rfl
  have hP : ((mkX M).2.1 3 5 = 1 ∧ (mkX M).2.1 3 7 - (mkX M).2.1 3 6 = nI (aStr.getD (1000010 + w - 1000010) []).length ∧ ∀ j : Nat, j < (aStr.getD (1000010 + w - 1000010) []).length → (mkX M).2.1 2 (((mkX M).2.1 3 6).toNatClampNeg + j) = (aStr.getD (1000010 + w - 1000010) []).getD j 0) ↔ nmC M w := by
    rw [e]
    exact Iff.rfl
  have key : aNm [.ref 3, .ref (1000010 + w)] (mkX M) = (bif decide ((mkX M).1[2]? = some (21, 240)) && Nat.ble 1000010 (1000010 + w) && Nat.blt (1000010 + w) 1000015 && decide (0 ≤ ((mkX M).2.1 3 6).toInt) && decide (((mkX M).2.1 3 6).toInt ≤ 240) && decide (0 ≤ ((mkX M).2.1 3 7).toInt) && decide (((mkX M).2.1 3 7).toInt ≤ 240) then some (some (Value.int (if (mkX M).2.1 3 5 = 1 ∧ (mkX M).2.1 3 7 - (mkX M).2.1 3 6 = nI (aStr.getD (1000010 + w - 1000010) []).length ∧ ∀ j : Nat, j < (aStr.getD (1000010 + w - 1000010) []).length → (mkX M).2.1 2 (((mkX M).2.1 3 6).toNatClampNeg + j) = (aStr.getD (1000010 + w - 1000010) []).getD j 0 then 1 else 0)), mkX M) else none) := rfl
  rw [key, c0, b1, b2, c1, c2, c3, c4]
  by_cases hc : nmC M w
  · exact ⟨1, by rw [if_pos (hP.mpr hc)]; rfl, Or.inl ⟨hc, rfl⟩⟩
  · exact ⟨0, by rw [if_neg (fun q => hc (hP.mp q))]; rfl, Or.inr ⟨hc, rfl⟩⟩
theorem nm_ok {M : wM} {w : Nat} (h : nmP M) (hw : w < 5) : aNm [.ref 3, .ref (1000010 + w)] (mkX M) = some (some (.int (nmX M w)), mkX M) := by
  obtain ⟨x, h1, -⟩ := nm_val h hw
  unfold nmX
  rw [h1]
  rfl
theorem lks_out {x : Int32} {d : Int} : ∀ {ps : List (Int × Int)}, (∀ q ∈ ps, 0 ≤ q.1 ∧ q.1 < 2147483648 ∧ ¬ x = nI q.1.toNat) → Op.lookupswitch.offset ps d x.toInt = d
  | [], _ => rfl
  | (a, o) :: r, h => by
    rw [Op.lookupswitch.offset_cons, if_neg, lks_out (fun q hq => h q (List.mem_cons_of_mem _ hq))]
    intro e
    obtain ⟨h1, h2, h3⟩ := h (a, o) List.mem_cons_self
    dsimp only at h1 h2 h3
    apply h3
    have hx : ¬ x < 0 := by rw [Int32.lt_iff_toInt_lt, Int32.toInt_zero]; omega
    obtain ⟨j, hj, rfl⟩ := nI_of hx
    rw [nI_toInt hj] at e
    rw [e]
    rfl
