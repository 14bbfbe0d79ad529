/-! the shortest ways, as the class finds them -/
abbrev fu : Type := List Int32 × List Int32
def rws (M : wM) (x : fu) : Prop := x.1.length = 16 ∧ x.2.length = 16 ∧ ∀ j, j < 16 → gi M 28 j = x.1.getD j 0 ∧ gi M 29 j = x.2.getD j 0
def ext (s d : Nat) (x : fu) : fu :=
  let b0 := if x.1.getD (aA 0 s).toNatClampNeg 0 = nI d - nI 1 then nI 2 * x.2.getD (aA 0 s).toNatClampNeg 0 else nI 65536
  let b1 := if x.1.getD (aA 1 s).toNatClampNeg 0 = nI d - nI 1 then nI 2 * x.2.getD (aA 1 s).toNatClampNeg 0 + nI 1 else nI 65536
  if nI 65536 ≤ jmin b0 b1 then x else (x.1.set s (nI d), x.2.set s (jmin b0 b1))
def stp (s d : Nat) (x : fu) : fu := if x.1.getD s 0 = -4 then ext s d x else x
theorem aA_in : ∀ s, s < 16 → (vp_in (aA 0 s) 16 ∧ (aA 0 s).toNatClampNeg < 16) ∧ vp_in (aA 1 s) 16 ∧ (aA 1 s).toNatClampNeg < 16 := by
  have h : ∀ s, s < 16 → ((¬ (aA 0 s < 0 ∨ 16 ≤ (aA 0 s).toNatClampNeg)) ∧ (aA 0 s).toNatClampNeg < 16) ∧ (¬ (aA 1 s < 0 ∨ 16 ≤ (aA 1 s).toNatClampNeg)) ∧ (aA 1 s).toNatClampNeg < 16 := by decide
  exact h
def o28 (M M' : wM) : Prop := (∀ a j, a ≠ 28 → a ≠ 29 → gi M' a j = gi M a j) ∧ ∀ c, gp M' c = gp M c
theorem o28_trans {A B C : wM} (h : o28 A B) (k : o28 B C) : o28 A C := ⟨fun a j q w => (k.1 a j q w).trans (h.1 a j q w), fun c => (k.2 c).trans (h.2 c)⟩
theorem extX {M : wM} {x : fu} {s d : Nat} {Q : wM → Prop} (hs : s < 16) (r : rws M x) (q : ∀ M' : wM, rws M' (ext s d x) → o28 M M' → Q M') : w_X5_extend (nI s) (nI d) M Q := by
  obtain ⟨r1, r2, r3⟩ := id r
  obtain ⟨⟨v0, t0⟩, v1, t1⟩ := aA_in s hs
  have vs : vp_in (nI s) 16 := vp_in_nI hs (by decide)
  unfold w_X5_extend wj_X5_extend_33 wj_X5_extend_69
  rw [nI_clamp (n := s) (by omega), (r3 _ t0).1, (r3 _ t0).2, (r3 _ t1).1, (r3 _ t1).2]
  have fin : ∀ b0 b1 : Int32, b0 = (if x.1.getD (aA 0 s).toNatClampNeg 0 = nI d - nI 1 then nI 2 * x.2.getD (aA 0 s).toNatClampNeg 0 else nI 65536) → b1 = (if x.1.getD (aA 1 s).toNatClampNeg 0 = nI d - nI 1 then nI 2 * x.2.getD (aA 1 s).toNatClampNeg 0 + nI 1 else nI 65536) → ((nI 65536 ≤ jmin b0 b1 → Q M) ∧ (¬ nI 65536 ≤ jmin b0 b1 → vp_in (nI s) 16 ∧ (vp_in (nI s) 16 ∧ Q (si (si M 28 s (nI d)) 29 s (jmin b0 b1))))) := by
    intro b0 b1 h0 h1
    refine bc (fun z => q M ?_ ⟨fun _ _ _ _ => rfl, fun _ => rfl⟩) (fun z => ⟨vs, vs, q _ ?_ ⟨fun a j g1 g2 => by rw [gi_ne (Or.inl g2), gi_ne (Or.inl g1)], fun _ => rfl⟩⟩)
    · unfold ext
      rw [← h0, ← h1]
      simp only [if_pos z]
      exact r
    · unfold ext
      rw [← h0, ← h1]
      simp only [if_neg z]
      refine ⟨by rw [List.length_set]; exact r1, by rw [List.length_set]; exact r2, fun j hj => ?_⟩
      by_cases y : j = s
      · subst y
        rw [gi_ne (Or.inl (by decide)), gi_eq, gi_eq]
        simp [List.getD, List.getElem?_set, r1, r2, hj]
      · rw [gi_ne (Or.inl (by decide)), gi_ne (Or.inr y), gi_ne (Or.inr y), gi_ne (Or.inl (by decide))]
        have := r3 j hj
        simp only [List.getD, List.getElem?_set, if_neg (Ne.symm y)]
        exact this
  refine ⟨vs, v0, bc (fun z => ⟨vs, v0, vs, v1, bc (fun y => ⟨vs, v1, fin _ _ (if_pos z).symm (if_pos y).symm⟩) (fun y => fin _ _ (if_pos z).symm (if_neg y).symm)⟩) (fun z => ⟨vs, v1, bc (fun y => ⟨vs, v1, fin _ _ (if_neg z).symm (if_pos y).symm⟩) (fun y => fin _ _ (if_neg z).symm (if_neg y).symm)⟩)⟩
def aimI (d : Nat) : Nat → fu → fu
  | 0, x => x
  | k + 1, x => aimI d k (stp (15 - k) d x)
def aimO : Nat → fu → fu
  | 0, x => x
  | k + 1, x => aimO k (aimI (15 - k) 16 x)
def aimL (b : Nat) : fu := aimO 15 ((List.replicate 16 (-4)).set b (nI 0), List.replicate 16 (nI 0))
theorem aimX_i {d : Nat} {K : Int32 → wM → Prop} {Q : wM → Prop} : ∀ (k : Nat) (M : wM) (x : fu), k ≤ 16 → rws M x → (∀ M' : wM, rws M' (aimI d k x) → o28 M M' → K (nI (d + 1)) M') → wL_X5_aim_34 (nI d) K Q (k + 1) (nI (16 - k)) M := by
  intro k
  induction k with
  | zero =>
    intro M x _ r q
    show wb_X5_aim_34 (nI d) K _ (nI 16) M Q
    unfold wb_X5_aim_34
    rw [nI_add d 1]
    exact bt (nI_le (by omega) (by omega)) (q M r ⟨fun _ _ _ _ => rfl, fun _ => rfl⟩)
  | succ k ih =>
    intro M x hk r q
    show wb_X5_aim_34 (nI d) K (wL_X5_aim_34 (nI d) K Q (k + 1)) (nI (16 - (k + 1))) M Q
    unfold wb_X5_aim_34
    rw [show 16 - (k + 1) = 15 - k by omega, nI_clamp (n := 15 - k) (by omega), (r.2.2 (15 - k) (by omega)).1, nI_add (15 - k) 1, show 15 - k + 1 = 16 - k by omega]
    refine bf (nI_ge (by omega) (by omega)) ⟨vp_in_nI (by omega) (by decide), bc (fun z => ?_) (fun z => ?_)⟩
    · refine extX (by omega) r (fun M' r' o => ih M' _ (by omega) r' (fun M2 r2 o2 => q M2 ?_ (o28_trans o o2)))
      show rws M2 (aimI d k (stp (15 - k) d x))
      unfold stp
      rw [if_pos z]
      exact r2
    · refine ih M x (by omega) r (fun M2 r2 o2 => q M2 ?_ o2)
      show rws M2 (aimI d k (stp (15 - k) d x))
      unfold stp
      rw [if_neg z]
      exact r2
theorem aimX_o {Q : wM → Prop} : ∀ (k : Nat) (M : wM) (x : fu), k ≤ 15 → rws M x → (∀ M' : wM, rws M' (aimO k x) → o28 M M' → Q M') → wL_X5_aim_26 Q (k + 1) (nI (16 - k)) M := by
  intro k
  induction k with
  | zero =>
    intro M x _ r q
    show wb_X5_aim_26 _ (nI 16) M Q
    exact bt (nI_le (by omega) (by omega)) (q M r ⟨fun _ _ _ _ => rfl, fun _ => rfl⟩)
  | succ k ih =>
    intro M x hk r q
    show wb_X5_aim_26 (wL_X5_aim_26 Q (k + 1)) (nI (16 - (k + 1))) M Q
    unfold wb_X5_aim_26
    rw [show 16 - (k + 1) = 15 - k by omega]
    refine bf (nI_ge (by omega) (by omega)) ⟨17, aimX_i 16 M x (by omega) r (fun M' r' o => ?_)⟩
    rw [show 15 - k + 1 = 16 - k by omega]
    exact ih M' _ (by omega) r' (fun M2 r2 o2 => q M2 r2 (o28_trans o o2))
theorem repl_at {v : Int32} {n j : Nat} (hj : j < n) : (List.replicate n v).getD j 0 = v := by simp [List.getD, List.getElem?_replicate, hj]
theorem set_ne {l : List Int32} {v : Int32} {b j : Nat} (h : j ≠ b) : (l.set b v).getD j 0 = l.getD j 0 := by simp only [List.getD, List.getElem?_set, if_neg (Ne.symm h)]
theorem aimX {b : Nat} {M : wM} {Q : wM → Prop} (hb : b < 16) (q : ∀ M' : wM, rws M' (aimL b) → o28 M M' → Q M') : w_X5_aim (nI b) M Q := by
  have i8 : iaX 28 ∧ lnX 28 = 16 := by constructor <;> rfl
  have i9 : iaX 29 ∧ lnX 29 = 16 := by constructor <;> rfl
  refine fillX i8.1 (by rw [i8.2]; decide) (fun A a1 a2 a3 => fillX i9.1 (by rw [i9.2]; decide) (fun B b1 b2 b3 => ⟨vp_in_nI hb (by decide), 16, ?_⟩))
  rw [i8.2] at a1
  rw [i9.2] at b1
  rw [nI_clamp (by omega)]
  refine aimX_o 15 _ ((List.replicate 16 (-4)).set b (nI 0), List.replicate 16 (nI 0)) (by decide) ⟨by simp, by simp, fun j hj => ?_⟩ (fun M' r o => q M' r (o28_trans ⟨fun a j g1 g2 => ?_, fun c => ?_⟩ o))
  · constructor
    · by_cases y : j = b
      · subst y
        rw [gi_eq]
        simp [List.getD, List.getElem?_set, hj]
      · rw [gi_ne (Or.inr y), b2 28 j (by decide), a1 j hj]
        exact ((set_ne y).trans (repl_at hj)).symm
    · rw [gi_ne (Or.inl (by decide)), b1 j hj]
      exact (repl_at hj).symm
  · rw [gi_ne (Or.inl g1), b2 a j g2, a2 a j g1]
  · rw [gp_si, b3, a3]
/-- the length and the turns of the shortest way from a to b -/
def pthL (a b : Nat) : Nat := ((aimL b).1.getD a 0).toNatClampNeg
def pthB (a b : Nat) : Nat := ((aimL b).2.getD a 0).toNatClampNeg
set_option maxRecDepth 100000 in
theorem pth_ok : ∀ b, b < 16 → ∀ a, a < 16 → (aimL b).1.getD a 0 = nI (pthL a b) ∧ (aimL b).2.getD a 0 = nI (pthB a b) ∧ pthL a b ≤ 8 ∧ pthB a b < 2 ^ pthL a b := by decide +kernel
def nx (s : Nat) (m : Bool) : Nat := (aA (if m then 1 else 0) s).toNatClampNeg
def gW (a : Nat) (bits : Nat) : Nat → Nat
  | 0 => a
  | k + 1 => nx (gW a bits k) (bits.testBit k)
set_option maxRecDepth 100000 in
theorem pth_way : ∀ b, b < 16 → ∀ a, a < 16 → gW a (pthB a b) (pthL a b) = b ∧ (∀ L, L < pthL a b → ∀ v, v < 2 ^ L → gW a v L ≠ b) ∧ ∀ v, v < pthB a b → gW a v (pthL a b) ≠ b := by decide +kernel
