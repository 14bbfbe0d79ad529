/-! the two worlds: shapes, references; the memory that a method sees -/
def shX : List (Nat × Nat) := [(10, 9), (8, 2), (21, 240), (6, 9), (23, 6), (3, 6), (3, 6), (3, 6), (3, 6), (3, 6), (3, 6), (23, 6), (2, 6), (20, 8), (20, 8), (26, 8), (20, 8), (20, 8), (20, 8), (20, 8), (20, 8), (20, 8), (20, 8), (20, 8), (20, 8), (20, 8), (0, 9), (4, 2), (20, 16), (20, 16), (24, 6), (20, 7), (20, 99), (3, 6), (1, 8), (20, 3), (20, 10), (1, 8), (20, 3), (20, 10), (1, 8), (20, 3), (20, 10), (1, 8), (20, 3), (20, 10), (1, 8), (20, 3), (20, 10), (1, 8), (20, 3), (20, 10), (5, 3), (20, 8), (9, 17), (20, 8), (20, 8), (20, 72), (22, 72), (20, 2556), (20, 2556), (20, 2556), (20, 2556), (20, 256), (25, 4), (3, 6), (3, 6), (3, 6), (3, 6), (3, 6), (3, 6), (7, 3), (20, 100), (7, 3), (20, 100), (7, 3), (20, 100), (7, 3), (20, 100)]
def rXt : List (List (Option Nat)) := [[some 1, some 3, some 11, none, some 12, some 26, some 52, some 54, some 64], [some 2, none], [], [some 1, some 4, none, none, none, none, none, none, none], [some 5, some 6, some 7, some 8, some 9, some 10], [], [], [], [], [], [], [some 65, some 66, some 67, some 68, some 69, some 70], [none, some 13, some 14, some 15, some 24, some 25], [], [], [some 16, some 17, some 18, some 19, some 20, some 21, some 22, some 23], [], [], [], [], [], [], [], [], [], [], [some 12, some 27, some 30, none, some 31, none, none, some 32, none], [some 28, some 29], [], [], [some 34, some 37, some 40, some 43, some 46, some 49], [], [], [], [none, some 33, none, none, none, some 35, none, some 36], [], [], [none, some 33, none, none, none, some 38, none, some 39], [], [], [none, some 33, none, none, none, some 41, none, some 42], [], [], [none, some 33, none, none, none, some 44, none, some 45], [], [], [none, some 33, none, none, none, some 47, none, some 48], [], [], [none, some 33, none, none, none, some 50, none, some 51], [], [], [some 26, some 53, none], [], [some 12, none, some 55, some 56, none, some 57, some 58, none, none, none, some 59, some 60, some 61, some 62, some 63, none, none], [], [], [], [], [], [], [], [], [], [some 71, some 73, some 75, some 77], [], [], [], [], [], [], [none, none, some 72], [], [none, none, some 74], [], [none, none, some 76], [], [none, none, some 78], []]
def aIsChip (a : Nat) : Bool := Nat.ble 34 a && Nat.ble a 49 && Nat.beq ((a - 34) % 3) 0
def rX (P : Nat → Nat) (a j : Nat) : Option Nat := bif Nat.beq j 1 && aIsChip a then some (P a) else (rXt.getD a []).getD j none
/-- ints, longs, the parts of the chips by their addresses -/
abbrev wM : Type := (Nat → Nat → Int32) × (Nat → Nat → Int64) × (Nat → Nat)
def mkX (M : wM) : aV := (shX, M.1, M.2.1, rX M.2.2)
def shM : List (Nat × Nat) := [(11, 60), (20, 6), (20, 6), (20, 6), (20, 6), (20, 6), (20, 6), (20, 6), (20, 6), (20, 6), (20, 6), (20, 6), (20, 6), (20, 240), (20, 6), (20, 6), (20, 6), (20, 6), (20, 6), (20, 6), (20, 6), (20, 6), (20, 7), (20, 60), (20, 6), (20, 100), (20, 8), (20, 8), (20, 64), (20, 8), (20, 8), (20, 64), (20, 8), (20, 2600), (20, 2600), (20, 20800), (20, 20800), (20, 8), (20, 576), (20, 256), (20, 4), (20, 4), (20, 400)]
def rMt : List (Option Nat) := [none, some 1, some 2, some 3, some 4, some 5, some 6, none, some 7, some 8, some 9, some 10, some 11, some 12, some 13, none, none, none, none, none, none, none, none, some 14, some 15, some 16, some 17, some 18, some 19, some 20, some 21, some 22, some 23, none, none, some 24, none, none, none, some 25, some 26, none, some 27, some 28, some 29, some 30, some 31, some 32, none, none, some 33, some 34, some 35, some 36, some 37, some 38, some 39, some 40, some 41, some 42]
def rM (a j : Nat) : Option Nat := bif Nat.beq a 0 then rMt.getD j none else none
def mkM (M : wM) : aV := (shM, M.1, M.2.1, rM)
def gi (M : wM) (a j : Nat) : Int32 := M.1 a j
def gl (M : wM) (a j : Nat) : Int64 := M.2.1 a j
def gp (M : wM) (c : Nat) : Nat := M.2.2 (34 + 3 * c)
def si (M : wM) (a j : Nat) (x : Int32) : wM := (aUp M.1 a j x, M.2)
def sl (M : wM) (a j : Nat) (x : Int64) : wM := (M.1, aUp M.2.1 a j x, M.2.2)
def sp (M : wM) (c t : Nat) : wM := (M.1, M.2.1, fun b => if b = 34 + 3 * c then t else M.2.2 b)
def ptX (t : Nat) : Prop := shX[t]? = some (3, 6)
def lnX (a : Nat) : Nat := (shX.getD a (0, 0)).2
def iaX (a : Nat) : Prop := shX[a]? = some (20, lnX a)
def lnM (a : Nat) : Nat := (shM.getD a (0, 0)).2
def iaM (a : Nat) : Prop := shM[a]? = some (20, lnM a)
theorem lt6 {P : Nat → Prop} (h0 : P 0) (h1 : P 1) (h2 : P 2) (h3 : P 3) (h4 : P 4) (h5 : P 5) {c : Nat} (h : c < 6) : P c := by
  match c, h with
  | 0, _ => exact h0
  | 1, _ => exact h1
  | 2, _ => exact h2
  | 3, _ => exact h3
  | 4, _ => exact h4
  | 5, _ => exact h5
  | n + 6, h => omega
theorem lt4 {P : Nat → Prop} (h0 : P 0) (h1 : P 1) (h2 : P 2) (h3 : P 3) {c : Nat} (h : c < 4) : P c := by
  match c, h with
  | 0, _ => exact h0
  | 1, _ => exact h1
  | 2, _ => exact h2
  | 3, _ => exact h3
  | n + 4, h => omega
theorem lt8 {P : Nat → Prop} (h0 : P 0) (h1 : P 1) (h2 : P 2) (h3 : P 3) (h4 : P 4) (h5 : P 5) (h6 : P 6) (h7 : P 7) {c : Nat} (h : c < 8) : P c := by
  match c, h with
  | 0, _ => exact h0
  | 1, _ => exact h1
  | 2, _ => exact h2
  | 3, _ => exact h3
  | 4, _ => exact h4
  | 5, _ => exact h5
  | 6, _ => exact h6
  | 7, _ => exact h7
  | n + 8, h => omega
theorem vin_lt {x : Int32} {n : Nat} (h : vp_in x n) : x.toNatClampNeg < n := Nat.not_le.mp fun q => h (Or.inr q)
theorem shX_chip {c : Nat} (h : c < 6) : shX[34 + 3 * c]? = some (1, 8) := lt6 (P := fun c => shX[34 + 3 * c]? = some (1, 8)) rfl rfl rfl rfl rfl rfl h
theorem shX_reg {c : Nat} (h : c < 6) : shX[35 + 3 * c]? = some (20, 3) := lt6 (P := fun c => shX[35 + 3 * c]? = some (20, 3)) rfl rfl rfl rfl rfl rfl h
theorem shX_nat {c : Nat} (h : c < 6) : shX[36 + 3 * c]? = some (20, 10) := lt6 (P := fun c => shX[36 + 3 * c]? = some (20, 10)) rfl rfl rfl rfl rfl rfl h
theorem shX_she {c : Nat} (h : c < 4) : shX[71 + 2 * c]? = some (7, 3) := lt4 (P := fun c => shX[71 + 2 * c]? = some (7, 3)) rfl rfl rfl rfl h
theorem shX_cel {c : Nat} (h : c < 4) : shX[72 + 2 * c]? = some (20, 100) := lt4 (P := fun c => shX[72 + 2 * c]? = some (20, 100)) rfl rfl rfl rfl h
theorem shX_row {c : Nat} (h : c < 8) : shX[16 + c]? = some (20, 8) := lt8 (P := fun c => shX[16 + c]? = some (20, 8)) rfl rfl rfl rfl rfl rfl rfl rfl h
theorem ptX_65 {c : Nat} (h : c < 6) : ptX (65 + c) := lt6 (P := fun c => ptX (65 + c)) rfl rfl rfl rfl rfl rfl h
theorem ptX_5 {c : Nat} (h : c < 6) : ptX (5 + c) := lt6 (P := fun c => ptX (5 + c)) rfl rfl rfl rfl rfl rfl h
section RX
variable {P : Nat → Nat} {c : Nat}
theorem rX_part (h : c < 6) : rX P (34 + 3 * c) 1 = some (P (34 + 3 * c)) := lt6 (P := fun c => rX P (34 + 3 * c) 1 = some (P (34 + 3 * c))) rfl rfl rfl rfl rfl rfl h
theorem rX_reg (h : c < 6) : rX P (34 + 3 * c) 5 = some (35 + 3 * c) := lt6 (P := fun c => rX P (34 + 3 * c) 5 = some (35 + 3 * c)) rfl rfl rfl rfl rfl rfl h
theorem rX_nat (h : c < 6) : rX P (34 + 3 * c) 7 = some (36 + 3 * c) := lt6 (P := fun c => rX P (34 + 3 * c) 7 = some (36 + 3 * c)) rfl rfl rfl rfl rfl rfl h
theorem rX_cel (h : c < 4) : rX P (71 + 2 * c) 2 = some (72 + 2 * c) := lt4 (P := fun c => rX P (71 + 2 * c) 2 = some (72 + 2 * c)) rfl rfl rfl rfl h
theorem rX_11 (h : c < 6) : rX P 11 c = some (65 + c) := lt6 (P := fun c => rX P 11 c = some (65 + c)) rfl rfl rfl rfl rfl rfl h
theorem rX_4 (h : c < 6) : rX P 4 c = some (5 + c) := lt6 (P := fun c => rX P 4 c = some (5 + c)) rfl rfl rfl rfl rfl rfl h
theorem rX_30 (h : c < 6) : rX P 30 c = some (34 + 3 * c) := lt6 (P := fun c => rX P 30 c = some (34 + 3 * c)) rfl rfl rfl rfl rfl rfl h
theorem rX_64 (h : c < 4) : rX P 64 c = some (71 + 2 * c) := lt4 (P := fun c => rX P 64 c = some (71 + 2 * c)) rfl rfl rfl rfl h
theorem rX_15 (h : c < 8) : rX P 15 c = some (16 + c) := lt8 (P := fun c => rX P 15 c = some (16 + c)) rfl rfl rfl rfl rfl rfl rfl rfl h
end RX
theorem mkX_sp {M : wM} {c t : Nat} (h : c < 6) : ((shX, M.1, M.2.1, aUp (rX M.2.2) (34 + 3 * c) 1 (some t)) : aV) = mkX (sp M c t) := by
  have e : aUp (rX M.2.2) (34 + 3 * c) 1 (some t) = rX (sp M c t).2.2 := by
    funext b k
    unfold aUp
    by_cases hb : b = 34 + 3 * c
    · subst hb
      by_cases hk : k = 1
      · subst hk
        rw [if_pos ⟨rfl, rfl⟩, rX_part h]
        show some t = some (if 34 + 3 * c = 34 + 3 * c then t else _)
        rw [if_pos rfl]
      · rw [if_neg (fun q => hk q.2)]
        have h1 : Nat.beq k 1 = false := by
          cases hq : Nat.beq k 1
          · rfl
          · exact absurd (Nat.eq_of_beq_eq_true hq) hk
        unfold rX
        simp only [h1, Bool.false_and, cond_false]
    · rw [if_neg (fun q => hb q.1)]
      unfold rX
      have : (sp M c t).2.2 b = M.2.2 b := by
        show (if b = 34 + 3 * c then t else M.2.2 b) = _
        rw [if_neg hb]
      rw [this]
  show _ = (shX, M.1, M.2.1, rX (sp M c t).2.2)
  rw [e]
def aPi (mk : wM → aV) (Q : Int32 → wM → Prop) : Option Value × aV → Prop := fun r => ∃ v M, r = (some (.int v), mk M) ∧ Q v M
def aPl (mk : wM → aV) (Q : Int64 → wM → Prop) : Option Value × aV → Prop := fun r => ∃ v M, r = (some (.long v), mk M) ∧ Q v M
def aPv (mk : wM → aV) (Q : wM → Prop) : Option Value × aV → Prop := fun r => ∃ M, r = (none, mk M) ∧ Q M
theorem aTne1 {x y : Int32} (h : ¬ x = y) : aT .ne x y = true := by simp [aT, h]
theorem aTne0 {x y : Int32} (h : x = y) : aT .ne x y = false := by simp [aT, h]
theorem tbl_out {x : Int32} (n : Nat) (h : ∀ k : Nat, k ≤ n → n < 1000 → ¬ x = nI k) (hn : n < 1000) : x.toInt < 0 ∨ (n : Int) < x.toInt := by
  by_cases h0 : x.toInt < 0
  · exact Or.inl h0
  · by_cases h1 : (n : Int) < x.toInt
    · exact Or.inr h1
    · exfalso
      have hx : ¬ x < 0 := by rw [Int32.lt_iff_toInt_lt, Int32.toInt_zero]; exact h0
      obtain ⟨j, hj, rfl⟩ := nI_of hx
      rw [nI_toInt hj] at h1
      exact h j (by omega) hn rfl
