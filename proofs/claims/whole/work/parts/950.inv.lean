/-! the invariant between the class's memory X and the reference's memory M -/
theorem gi_si (M : wM) (a j : Nat) (x : Int32) (a' j' : Nat) : gi (si M a j x) a' j' = if a' = a ∧ j' = j then x else gi M a' j' := rfl
theorem gi_eq (M : wM) (a j : Nat) (x : Int32) : gi (si M a j x) a j = x := by rw [gi_si, if_pos ⟨rfl, rfl⟩]
theorem gi_ne {M : wM} {a j a' j' : Nat} {x : Int32} (h : a' ≠ a ∨ j' ≠ j) : gi (si M a j x) a' j' = gi M a' j' := by
  rw [gi_si, if_neg (fun q => h.elim (fun z => z q.1) (fun z => z q.2))]
theorem gi_sl (M : wM) (a j : Nat) (x : Int64) (a' j' : Nat) : gi (sl M a j x) a' j' = gi M a' j' := rfl
theorem gi_sp (M : wM) (c t : Nat) (a' j' : Nat) : gi (sp M c t) a' j' = gi M a' j' := rfl
theorem gp_si (M : wM) (a j : Nat) (x : Int32) (c : Nat) : gp (si M a j x) c = gp M c := rfl
theorem gp_sl (M : wM) (a j : Nat) (x : Int64) (c : Nat) : gp (sl M a j x) c = gp M c := rfl
theorem gp_sp (M : wM) (c t c' : Nat) : gp (sp M c t) c' = if c' = c then t else gp M c' := by
  show (if 34 + 3 * c' = 34 + 3 * c then t else M.2.2 (34 + 3 * c')) = _
  by_cases h : c' = c
  · rw [if_pos (by omega), if_pos h]
  · rw [if_neg (by omega), if_neg h]; rfl
/-- where a number lies: a row, or a field of an object -/
def cX (a j : Nat) : Nat := if a = 0 ∨ a = 1 ∨ a = 3 ∨ a = 12 ∨ a = 26 then 1000 + 100 * a + j else a
def cM (a j : Nat) : Nat := if a = 0 then 1000 + j else a
def sX (T : List Nat) (A B : wM) : Prop := (∀ a j, cX a j ∉ T → gi B a j = gi A a j) ∧ ∀ c, gp B c = gp A c
def sM (T : List Nat) (A B : wM) : Prop := ∀ a j, cM a j ∉ T → gi B a j = gi A a j
theorem sX_refl {T : List Nat} {A : wM} : sX T A A := ⟨fun _ _ _ => rfl, fun _ => rfl⟩
theorem sM_refl {T : List Nat} {A : wM} : sM T A A := fun _ _ _ => rfl
theorem sX_trans {T : List Nat} {A B C : wM} (h : sX T A B) (k : sX T B C) : sX T A C := ⟨fun a j q => (k.1 a j q).trans (h.1 a j q), fun c => (k.2 c).trans (h.2 c)⟩
theorem sM_trans {T : List Nat} {A B C : wM} (h : sM T A B) (k : sM T B C) : sM T A C := fun a j q => (k a j q).trans (h a j q)
theorem sX_si {T : List Nat} {A : wM} {a j : Nat} {x : Int32} (h : cX a j ∈ T) : sX T A (si A a j x) := ⟨fun a' j' q => gi_ne (Classical.byContradiction fun z => by
  have h1 : a' = a := Classical.byContradiction fun y => z (Or.inl y)
  have h2 : j' = j := Classical.byContradiction fun y => z (Or.inr y)
  exact q (by rw [h1, h2]; exact h)), fun _ => rfl⟩
theorem sM_si {T : List Nat} {A : wM} {a j : Nat} {x : Int32} (h : cM a j ∈ T) : sM T A (si A a j x) := fun a' j' q => gi_ne (Classical.byContradiction fun z => by
  have h1 : a' = a := Classical.byContradiction fun y => z (Or.inl y)
  have h2 : j' = j := Classical.byContradiction fun y => z (Or.inr y)
  exact q (by rw [h1, h2]; exact h))
theorem sX_sl {T : List Nat} {A : wM} {a j : Nat} {x : Int64} : sX T A (sl A a j x) := ⟨fun _ _ _ => rfl, fun _ => rfl⟩
theorem sX_sub {T T' : List Nat} {A B : wM} (h : sX T A B) (k : ∀ x ∈ T, x ∈ T') : sX T' A B := ⟨fun a j q => h.1 a j (fun z => q (k _ z)), h.2⟩
theorem sM_sub {T T' : List Nat} {A B : wM} (h : sM T A B) (k : ∀ x ∈ T, x ∈ T') : sM T' A B := fun a j q => h a j (fun z => q (k _ z))
/-- nothing of R is in T -/
def dj (R T : List Nat) : Prop := ∀ x ∈ R, x ∉ T
theorem sX_at {R T : List Nat} {A B : wM} (h : sX T A B) (d : dj R T) {a j : Nat} (k : cX a j ∈ R) : gi B a j = gi A a j := h.1 a j (d _ k)
theorem sM_at {R T : List Nat} {A B : wM} (h : sM T A B) (d : dj R T) {a j : Nat} (k : cM a j ∈ R) : gi B a j = gi A a j := h a j (d _ k)
def iT (X M : wM) : Prop := ∃ n : Nat, n ≤ 240 ∧ gi X 1 1 = nI n ∧ gi M 0 15 = nI n ∧ ∀ j, j < n → ∃ k : Nat, k < 256 ∧ gi M 13 j = nI k ∧ gi X 2 j = (nI k).toInt8.toInt32
def iW (X M : wM) : Prop := gi X 3 3 = gi M 0 20
/-- a part's numbers: the length of its orders, its cells, its outs, its identity, its codes -/
def partR (L n o : Nat) (idv sa ex : Int32) : Prop := 2 ≤ L ∧ L ≤ 8 ∧ n ≤ 10 ∧ o < 2 ^ n ∧ (sa = -4 ∨ ∃ k : Nat, k + 2 ≤ 2 ^ L ∧ sa = nI k) ∧ (ex = -4 ∨ ∃ k : Nat, k + 2 ≤ 2 ^ L ∧ ex = nI k) ∧ (n = 0 → sa = -4 ∧ ex = -4) ∧ (0 < n → ex ≠ -4) ∧ (sa = -4 ∨ sa ≠ ex)
def partOk (X M : wM) (p : Nat) : Prop := ∃ (L n o : Nat) (idv sa ex : Int32), partR L n o idv sa ex ∧ (gi X (65 + p) 0 = nI L ∧ gi M 1 p = nI L) ∧ (gi X (65 + p) 1 = nI n ∧ gi M 5 p = nI n) ∧ (gi X (65 + p) 5 = nI o ∧ gi M 6 p = nI o) ∧ (gi X (65 + p) 2 = idv ∧ gi M 2 p = idv) ∧ (gi X (65 + p) 3 = sa ∧ gi M 3 p = sa) ∧ gi X (65 + p) 4 = ex ∧ gi M 4 p = ex
def iP (X M : wM) : Prop := ∃ np : Nat, np ≤ 6 ∧ gi X 0 3 = nI np ∧ gi M 0 0 = nI np ∧ ∀ p, p < np → partOk X M p
/-- a chip's numbers, given its part's length, cells, outs -/
def chipR (L n o : Nat) (ord : Nat) (orow lat opn br cr : Nat) : Prop := (2 ≤ L ∧ L ≤ 8 ∧ n ≤ 10 ∧ o < 2 ^ n) ∧ ord < 4 ∧ (2 ≤ ord → 0 < n) ∧ orow < 2 ^ L ∧ lat < 2 ^ n ∧ lat &&& o = lat ∧ opn < 2 ^ n ∧ br < 2 ∧ cr < 2 ^ n
def netR (nn n i : Nat) (v : Int32) : Prop := v = -4 ∨ ∃ k : Nat, k < nn ∧ i < n ∧ v = nI k
def chipOk (X M : wM) (np nn c : Nat) : Prop := ∃ (p L n o ord orow lat opn br cr : Nat), p < np ∧ gi X (65 + p) 0 = nI L ∧ gi X (65 + p) 1 = nI n ∧ gi X (65 + p) 5 = nI o ∧ chipR L n o ord orow lat opn br cr ∧ gp X c = 65 + p ∧ (gi X (34 + 3 * c) 0 = nI p ∧ gi M 14 c = nI p) ∧ (gi X (34 + 3 * c) 2 = nI ord ∧ gi M 15 c = nI ord) ∧ (gi X (34 + 3 * c) 3 = nI orow ∧ gi M 16 c = nI orow) ∧ (gi X (34 + 3 * c) 4 = nI lat ∧ gi M 20 c = nI lat) ∧ (gi X (34 + 3 * c) 6 = nI opn ∧ gi M 21 c = nI opn) ∧ (gi X (35 + 3 * c) 0 = nI br ∧ gi M 17 c = nI br) ∧ gi X (35 + 3 * c) 1 = gi M 18 c ∧ (gi X (35 + 3 * c) 2 = nI cr ∧ gi M 19 c = nI cr) ∧ ∀ i, i < 10 → gi X (36 + 3 * c) i = gi M 23 (10 * c + i) ∧ netR nn n i (gi X (36 + 3 * c) i)
/-- a chip not yet there -/
def chipNo (X : wM) (c : Nat) : Prop := gi X (34 + 3 * c) 3 = 0 ∧ gi X (34 + 3 * c) 4 = 0 ∧ gi X (34 + 3 * c) 6 = 0 ∧ (∀ i, i < 3 → gi X (35 + 3 * c) i = 0) ∧ ∀ i, i < 10 → gi X (36 + 3 * c) i = -4
def iC (X M : wM) : Prop := ∃ nc np nn : Nat, nc ≤ 6 ∧ np ≤ 6 ∧ nn ≤ 8 ∧ gi X 26 3 = nI nc ∧ gi M 0 22 = nI nc ∧ gi X 0 3 = nI np ∧ gi X 12 0 = nI nn ∧ (∀ c, c < nc → chipOk X M np nn c) ∧ ∀ c, nc ≤ c → c < 6 → chipNo X c
def lvl (v : Int32) : Prop := v = -4 ∨ v = nI 0 ∨ v = nI 1
def iK (X M : wM) : Prop := ∀ j, j < 7 → gi X 31 j = gi M 22 j ∧ lvl (gi X 31 j)
def iS (X M : wM) : Prop := gi X 26 6 = gi M 0 34 ∧ ∃ s : Nat, s < 16 ∧ gi X 26 5 = nI s ∧ gi M 0 33 = nI s
def iL (X M : wM) : Prop := ∃ n : Nat, n ≤ 99 ∧ gi X 26 8 = nI n ∧ gi M 0 38 = nI n ∧ ∀ j, j < n → gi X 32 j = gi M 25 j
/-- the kind of a short, here and there -/
def shR (x m : Int32) : Prop := (x = -4 ∧ m = nI 0) ∨ (x = nI 0 ∧ m = nI 1) ∨ (x = nI 1 ∧ m = nI 2)
def iN (X M : wM) : Prop := ∃ nn : Nat, nn ≤ 8 ∧ gi X 12 0 = nI nn ∧ gi M 0 41 = nI nn ∧ (∀ i, i < nn → gi X 14 i = gi M 27 i ∧ lvl (gi X 14 i)) ∧ (∀ i, nn ≤ i → i < 8 → gi X 14 i = -4) ∧ (∀ a b, a < nn → b < nn → shR (gi X (16 + a) b) (gi M 28 (8 * a + b)) ∧ gi X (16 + a) b = gi X (16 + b) a ∧ (a = b → gi X (16 + a) b = -4)) ∧ ∀ a b, a < 8 → b < 8 → nn ≤ a ∨ nn ≤ b → gi X (16 + a) b = -4
def sheetOk (X M : wM) (k : Nat) : Prop := gi X (71 + 2 * k) 0 = gi M 40 k ∧ gi X (71 + 2 * k) 1 = gi M 41 k ∧ (gi X (71 + 2 * k) 0 = -4 ∨ ∃ t : Nat, t < 3 ∧ gi X (71 + 2 * k) 0 = nI t) ∧ (∃ n : Nat, n ≤ 100 ∧ gi X (71 + 2 * k) 1 = nI n) ∧ (gi X (71 + 2 * k) 0 ≠ -4 → ∀ j, j < 100 → gi X (72 + 2 * k) j &&& nI 1 = gi M 42 (100 * k + j) &&& nI 1)
def iH (X M : wM) : Prop := ∀ k, k < 4 → sheetOk X M k
def rgX : List (List Nat) := [[1101, 2], [1303], [1003, 65, 66, 67, 68, 69, 70], [3603, 1003, 2200, 65, 66, 67, 68, 69, 70, 34, 35, 36, 37, 38, 39, 40, 41, 42, 43, 44, 45, 46, 47, 48, 49, 50, 51], [31], [3605, 3606], [3608, 32], [2200, 14, 16, 17, 18, 19, 20, 21, 22, 23], [71, 72, 73, 74, 75, 76, 77, 78]]
def rgM : List (List Nat) := [[1015, 13], [1020], [1000, 1, 2, 3, 4, 5, 6], [1022, 14, 15, 16, 17, 18, 19, 20, 21, 23], [22], [1033, 1034], [1038, 25], [1041, 27, 28], [40, 41, 42]]
section FRAME
variable {X X' M M' : wM} {T S : List Nat}
theorem iT_fr (h : iT X M) (a : sX T X X') (b : sM S M M') (d : dj (rgX.getD 0 []) T) (e : dj (rgM.getD 0 []) S) : iT X' M' := by
  obtain ⟨n, h1, h2, h3, h4⟩ := h
  refine ⟨n, h1, (sX_at a d (by decide)).trans h2, (sM_at b e (by decide)).trans h3, fun j hj => ?_⟩
  rw [sX_at (a := 2) (j := j) a d (by simp [cX, rgX]), sM_at (a := 13) (j := j) b e (by simp [cM, rgM])]
  exact h4 j hj
theorem iW_fr (h : iW X M) (a : sX T X X') (b : sM S M M') (d : dj (rgX.getD 1 []) T) (e : dj (rgM.getD 1 []) S) : iW X' M' := by
  unfold iW
  rw [sX_at a d (by decide), sM_at b e (by decide)]
  exact h
theorem partOk_fr {p : Nat} (hp : p < 6) (h : partOk X M p) (h1 : ∀ j, gi X' (65 + p) j = gi X (65 + p) j) (h2 : ∀ a j, 1 ≤ a → a ≤ 6 → gi M' a j = gi M a j) : partOk X' M' p := by
  unfold partOk
  simp only [h1, h2 1 p (by decide) (by decide), h2 2 p (by decide) (by decide), h2 3 p (by decide) (by decide), h2 4 p (by decide) (by decide), h2 5 p (by decide) (by decide), h2 6 p (by decide) (by decide)]
  exact h
theorem rg_part {p j : Nat} (hp : p < 6) : cX (65 + p) j ∈ rgX.getD 2 [] := by
  rcases (show p = 0 ∨ p = 1 ∨ p = 2 ∨ p = 3 ∨ p = 4 ∨ p = 5 by omega) with rfl | rfl | rfl | rfl | rfl | rfl <;> simp [cX, rgX]
theorem rg_partM {a j : Nat} (h1 : 1 ≤ a) (h2 : a ≤ 6) : cM a j ∈ rgM.getD 2 [] := by
  rcases (show a = 1 ∨ a = 2 ∨ a = 3 ∨ a = 4 ∨ a = 5 ∨ a = 6 by omega) with rfl | rfl | rfl | rfl | rfl | rfl <;> simp [cM, rgM]
theorem iP_fr (h : iP X M) (a : sX T X X') (b : sM S M M') (d : dj (rgX.getD 2 []) T) (e : dj (rgM.getD 2 []) S) : iP X' M' := by
  obtain ⟨n, h1, h2, h3, h4⟩ := h
  refine ⟨n, h1, (sX_at a d (by decide)).trans h2, (sM_at b e (by decide)).trans h3, fun p hp => partOk_fr (by omega) (h4 p hp) (fun j => sX_at a d (rg_part (by omega))) (fun x j y z => sM_at b e (rg_partM y z))⟩
theorem rg_chip {c i j : Nat} (hc : c < 6) (hi : i < 3) : cX (34 + i + 3 * c) j ∈ rgX.getD 3 [] := by
  rcases (show c = 0 ∨ c = 1 ∨ c = 2 ∨ c = 3 ∨ c = 4 ∨ c = 5 by omega) with rfl | rfl | rfl | rfl | rfl | rfl <;> rcases (show i = 0 ∨ i = 1 ∨ i = 2 by omega) with rfl | rfl | rfl <;> simp [cX, rgX]
theorem rg_chipP {p j : Nat} (hp : p < 6) : cX (65 + p) j ∈ rgX.getD 3 [] := by
  rcases (show p = 0 ∨ p = 1 ∨ p = 2 ∨ p = 3 ∨ p = 4 ∨ p = 5 by omega) with rfl | rfl | rfl | rfl | rfl | rfl <;> simp [cX, rgX]
theorem chipOk_fr {np nn c : Nat} (hc : c < 6) (hnp : np ≤ 6) (h : chipOk X M np nn c) (g : gp X' c = gp X c) (h0 : ∀ p j, p < 6 → gi X' (65 + p) j = gi X (65 + p) j) (h1 : ∀ j, gi X' (34 + 3 * c) j = gi X (34 + 3 * c) j) (h2 : ∀ j, gi X' (35 + 3 * c) j = gi X (35 + 3 * c) j) (h3 : ∀ j, gi X' (36 + 3 * c) j = gi X (36 + 3 * c) j) (h4 : ∀ a j, 14 ≤ a → a ≤ 23 → a ≠ 22 → gi M' a j = gi M a j) : chipOk X' M' np nn c := by
  obtain ⟨p, L, n, o, ord, orow, lat, opn, br, cr, k⟩ := h
  refine ⟨p, L, n, o, ord, orow, lat, opn, br, cr, k.1, ?_⟩
  have hp := k.1
  simp only [h0 p _ (by omega), h1, h2, h3, g, h4 14 _ (by decide) (by decide) (by decide), h4 15 _ (by decide) (by decide) (by decide), h4 16 _ (by decide) (by decide) (by decide), h4 17 _ (by decide) (by decide) (by decide), h4 18 _ (by decide) (by decide) (by decide), h4 19 _ (by decide) (by decide) (by decide), h4 20 _ (by decide) (by decide) (by decide), h4 21 _ (by decide) (by decide) (by decide), h4 23 _ (by decide) (by decide) (by decide)]
  exact k.2
theorem chipNo_fr {c : Nat} (h : chipNo X c) (h1 : ∀ j, gi X' (34 + 3 * c) j = gi X (34 + 3 * c) j) (h2 : ∀ j, gi X' (35 + 3 * c) j = gi X (35 + 3 * c) j) (h3 : ∀ j, gi X' (36 + 3 * c) j = gi X (36 + 3 * c) j) : chipNo X' c := by
  unfold chipNo
  simp only [h1, h2, h3]
  exact h
theorem rg_chipM {a j : Nat} (h1 : 14 ≤ a) (h2 : a ≤ 23) (h3 : a ≠ 22) : cM a j ∈ rgM.getD 3 [] := by
  rcases (show a = 14 ∨ a = 15 ∨ a = 16 ∨ a = 17 ∨ a = 18 ∨ a = 19 ∨ a = 20 ∨ a = 21 ∨ a = 23 by omega) with rfl | rfl | rfl | rfl | rfl | rfl | rfl | rfl | rfl <;> simp [cM, rgM]
theorem iC_fr (h : iC X M) (a : sX T X X') (b : sM S M M') (d : dj (rgX.getD 3 []) T) (e : dj (rgM.getD 3 []) S) : iC X' M' := by
  obtain ⟨nc, np, nn, h1, h2, h3, h4, h5, h6, h7, h8, h9⟩ := h
  have k1 : ∀ c, c < 6 → ∀ j, gi X' (34 + 3 * c) j = gi X (34 + 3 * c) j := fun c hc j => sX_at a d (rg_chip (i := 0) hc (by decide))
  have k2 : ∀ c, c < 6 → ∀ j, gi X' (35 + 3 * c) j = gi X (35 + 3 * c) j := fun c hc j => sX_at a d (rg_chip (i := 1) hc (by decide))
  have k3 : ∀ c, c < 6 → ∀ j, gi X' (36 + 3 * c) j = gi X (36 + 3 * c) j := fun c hc j => sX_at a d (rg_chip (i := 2) hc (by decide))
  exact ⟨nc, np, nn, h1, h2, h3, (sX_at a d (by decide)).trans h4, (sM_at b e (by decide)).trans h5, (sX_at a d (by decide)).trans h6, (sX_at a d (by decide)).trans h7, fun c hc => chipOk_fr (by omega) h2 (h8 c hc) (a.2 c) (fun p j hp => sX_at a d (rg_chipP hp)) (k1 c (by omega)) (k2 c (by omega)) (k3 c (by omega)) (fun x j y z w => sM_at b e (rg_chipM y z w)), fun c q w => chipNo_fr (h9 c q w) (k1 c w) (k2 c w) (k3 c w)⟩
theorem iK_fr (h : iK X M) (a : sX T X X') (b : sM S M M') (d : dj (rgX.getD 4 []) T) (e : dj (rgM.getD 4 []) S) : iK X' M' := by
  intro j hj
  rw [sX_at (a := 31) (j := j) a d (by simp [cX, rgX]), sM_at (a := 22) (j := j) b e (by simp [cM, rgM])]
  exact h j hj
theorem iS_fr (h : iS X M) (a : sX T X X') (b : sM S M M') (d : dj (rgX.getD 5 []) T) (e : dj (rgM.getD 5 []) S) : iS X' M' := by
  unfold iS
  rw [sX_at (a := 26) (j := 5) a d (by decide), sX_at (a := 26) (j := 6) a d (by decide), sM_at (a := 0) (j := 33) b e (by decide), sM_at (a := 0) (j := 34) b e (by decide)]
  exact h
theorem iL_fr (h : iL X M) (a : sX T X X') (b : sM S M M') (d : dj (rgX.getD 6 []) T) (e : dj (rgM.getD 6 []) S) : iL X' M' := by
  obtain ⟨n, h1, h2, h3, h4⟩ := h
  refine ⟨n, h1, (sX_at a d (by decide)).trans h2, (sM_at b e (by decide)).trans h3, fun j hj => ?_⟩
  rw [sX_at (a := 32) (j := j) a d (by simp [cX, rgX]), sM_at (a := 25) (j := j) b e (by simp [cM, rgM])]
  exact h4 j hj
theorem rg_net {a j : Nat} (ha : a < 8) : cX (16 + a) j ∈ rgX.getD 7 [] := by
  rcases (show a = 0 ∨ a = 1 ∨ a = 2 ∨ a = 3 ∨ a = 4 ∨ a = 5 ∨ a = 6 ∨ a = 7 by omega) with rfl | rfl | rfl | rfl | rfl | rfl | rfl | rfl <;> simp [cX, rgX]
theorem iN_fr (h : iN X M) (a : sX T X X') (b : sM S M M') (d : dj (rgX.getD 7 []) T) (e : dj (rgM.getD 7 []) S) : iN X' M' := by
  obtain ⟨n, h1, h2, h3, h4, h5, h6, h7⟩ := h
  have k : ∀ x j, x < 8 → gi X' (16 + x) j = gi X (16 + x) j := fun x j hx => sX_at a d (rg_net hx)
  have k2 : ∀ j, gi X' 14 j = gi X 14 j := fun j => sX_at a d (by simp [cX, rgX])
  refine ⟨n, h1, (sX_at a d (by decide)).trans h2, (sM_at b e (by decide)).trans h3, fun i hi => ?_, fun i q w => ?_, fun x y hx hy => ?_, fun x y hx hy w => ?_⟩
  · rw [k2, sM_at (a := 27) (j := i) b e (by simp [cM, rgM])]
    exact h4 i hi
  · rw [k2]; exact h5 i q w
  · rw [k x y (by omega), k y x (by omega), sM_at (a := 28) (j := 8 * x + y) b e (by simp [cM, rgM])]
    exact h6 x y hx hy
  · rw [k x y hx]; exact h7 x y hx hy w
theorem rg_sh {k i j : Nat} (hk : k < 4) (hi : i < 2) : cX (71 + i + 2 * k) j ∈ rgX.getD 8 [] := by
  rcases (show k = 0 ∨ k = 1 ∨ k = 2 ∨ k = 3 by omega) with rfl | rfl | rfl | rfl <;> rcases (show i = 0 ∨ i = 1 by omega) with rfl | rfl <;> simp [cX, rgX]
theorem sheetOk_fr {k : Nat} (h : sheetOk X M k) (h1 : ∀ j, gi X' (71 + 2 * k) j = gi X (71 + 2 * k) j) (h2 : ∀ j, gi X' (72 + 2 * k) j = gi X (72 + 2 * k) j) (h3 : gi M' 40 k = gi M 40 k) (h4 : gi M' 41 k = gi M 41 k) (h5 : ∀ j, j < 100 → gi M' 42 (100 * k + j) = gi M 42 (100 * k + j)) : sheetOk X' M' k := by
  obtain ⟨g1, g2, g3, g4, g5⟩ := h
  refine ⟨by rw [h1, h3]; exact g1, by rw [h1, h4]; exact g2, by rw [h1]; exact g3, by rw [h1]; exact g4, fun q j hj => ?_⟩
  rw [h2, h5 j hj]
  exact g5 (by rw [h1] at q; exact q) j hj
theorem iH_fr (h : iH X M) (a : sX T X X') (b : sM S M M') (d : dj (rgX.getD 8 []) T) (e : dj (rgM.getD 8 []) S) : iH X' M' := fun k hk => sheetOk_fr (h k hk) (fun j => sX_at a d (rg_sh (i := 0) hk (by decide))) (fun j => sX_at a d (rg_sh (i := 1) hk (by decide))) (sM_at b e (by simp [cM, rgM])) (sM_at b e (by simp [cM, rgM])) (fun j _ => sM_at b e (by simp [cM, rgM]))
end FRAME
