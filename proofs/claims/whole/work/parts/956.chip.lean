/-! chip -/
theorem chipOk_fr2 {X X' M M' : wM} {np nn c : Nat} (hnp : np ≤ 6) (h : chipOk X M np nn c) (g : gp X' c = gp X c) (h0 : ∀ p j, p < 6 → gi X' (65 + p) j = gi X (65 + p) j) (h1 : ∀ j, gi X' (34 + 3 * c) j = gi X (34 + 3 * c) j) (h2 : ∀ j, gi X' (35 + 3 * c) j = gi X (35 + 3 * c) j) (h3 : ∀ j, gi X' (36 + 3 * c) j = gi X (36 + 3 * c) j) (h4 : ∀ a, 14 ≤ a → a ≤ 21 → gi M' a c = gi M a c) (h5 : ∀ i, i < 10 → gi M' 23 (10 * c + i) = gi M 23 (10 * c + i)) : chipOk X' M' np nn c := by
  obtain ⟨p, L, n, o, ord, orow, lat, opn, br, cr, k1, k2, k3, k4, k5, k6, k7, k8, k9, k10, k11, k12, k13, k14, k15⟩ := h
  refine ⟨p, L, n, o, ord, orow, lat, opn, br, cr, k1, ?_⟩
  simp only [h0 p _ (by omega : p < 6), h1, h2, h3, g, h4 14 (by decide) (by decide), h4 15 (by decide) (by decide), h4 16 (by decide) (by decide), h4 17 (by decide) (by decide), h4 18 (by decide) (by decide), h4 19 (by decide) (by decide), h4 20 (by decide) (by decide), h4 21 (by decide) (by decide)]
  exact ⟨k2, k3, k4, k5, k6, k7, k8, k9, k10, k11, k12, k13, k14, fun i hi => by rw [h5 i hi]; exact k15 i hi⟩
theorem Inv_fr2 {X X' M M' : wM} {T S : List Nat} (h : Inv X M) (a : ∀ a j, cX a j ∉ T → gi X' a j = gi X a j) (b : sM S M M') (hC : iC X' M') (hT : dk 0 T S ∨ iT X' M' := by exact Or.inl (by decide)) (hW : dk 1 T S ∨ iW X' M' := by exact Or.inl (by decide)) (hP : dk 2 T S ∨ iP X' M' := by exact Or.inl (by decide)) (hK : dk 4 T S ∨ iK X' M' := by exact Or.inl (by decide)) (hS : dk 5 T S ∨ iS X' M' := by exact Or.inl (by decide)) (hL : dk 6 T S ∨ iL X' M' := by exact Or.inl (by decide)) (hN : dk 7 T S ∨ iN X' M' := by exact Or.inl (by decide)) (hH : dk 8 T S ∨ iH X' M' := by exact Or.inl (by decide)) (hG : dg rgG T ∨ iG X' := by exact Or.inl (by decide)) (hF : dg rgF T ∨ iF X' := by exact Or.inl (by decide)) : Inv X' M' := by
  obtain ⟨c0, c1, c2, c3, c4, c5, c6, c7, c8, c9, c10⟩ := h
  have a' : sX T X (X'.1, X'.2.1, X.2.2) := ⟨a, fun _ => rfl⟩
  exact ⟨hT.elim (fun q => (show iT X' M' from iT_fr (X' := (X'.1, X'.2.1, X.2.2)) c0 a' b q.1 q.2)) id, hW.elim (fun q => (show iW X' M' from iW_fr (X' := (X'.1, X'.2.1, X.2.2)) c1 a' b q.1 q.2)) id, hP.elim (fun q => (show iP X' M' from iP_fr (X' := (X'.1, X'.2.1, X.2.2)) c2 a' b q.1 q.2)) id, hC, hK.elim (fun q => (show iK X' M' from iK_fr (X' := (X'.1, X'.2.1, X.2.2)) c4 a' b q.1 q.2)) id, hS.elim (fun q => (show iS X' M' from iS_fr (X' := (X'.1, X'.2.1, X.2.2)) c5 a' b q.1 q.2)) id, hL.elim (fun q => (show iL X' M' from iL_fr (X' := (X'.1, X'.2.1, X.2.2)) c6 a' b q.1 q.2)) id, hN.elim (fun q => (show iN X' M' from iN_fr (X' := (X'.1, X'.2.1, X.2.2)) c7 a' b q.1 q.2)) id, hH.elim (fun q => (show iH X' M' from iH_fr (X' := (X'.1, X'.2.1, X.2.2)) c8 a' b q.1 q.2)) id, hG.elim (fun q => (show iG X' from iG_fr (X' := (X'.1, X'.2.1, X.2.2)) c9 a' q)) id, hF.elim (fun q => (show iF X' from iF_fr (X' := (X'.1, X'.2.1, X.2.2)) c10 a' q)) id⟩
section CHIPM
variable {p np c s : Nat} {x1 : Int32} {M : wM} {Q : Int32 → wM → Prop}
theorem chipM_b (hnp : np ≤ 6) (e0 : gi M 0 0 = nI np) (k : ¬ (0 ≤ x1.toInt ∧ x1.toInt < np)) (q : Q (-1) M) : w_X12_chip x1 M Q := by
  unfold w_X12_chip
  rw [e0]
  exact in_f (by decide) (hi_S (by omega)) (by omega) (bt rfl q)
theorem chipM_s (hnp : np ≤ 6) (e0 : gi M 0 0 = nI np) (k : p < np) (e : ¬ gi M 0 33 = nI 0) (q : Q (-2) M) : w_X12_chip (nI p) M Q := by
  unfold w_X12_chip
  rw [e0]
  exact in_t (by decide) (hi_S (by omega)) (by rw [nI_toInt (by omega)]; omega) (bf ne10 (bf e q))
theorem chipM_f (hnp : np ≤ 6) (e0 : gi M 0 0 = nI np) (k : p < np) (e : gi M 0 33 = nI 0) (e2 : gi M 0 22 = nI 6) (q : Q (-3) M) : w_X12_chip (nI p) M Q := by
  unfold w_X12_chip
  rw [e0]
  exact in_t (by decide) (hi_S (by omega)) (by rw [nI_toInt (by omega)]; omega) (bf ne10 (bt e (bt e2 q)))
/-- the reference's new chip -/
theorem chipM_t {ord : Nat} (hnp : np ≤ 6) (e0 : gi M 0 0 = nI np) (k : p < np) (e : gi M 0 33 = nI 0) (hc : c < 6) (e2 : gi M 0 22 = nI c) (ho : (gi M 2 p = -4 ∧ ord = 0) ∨ (¬ gi M 2 p = -4 ∧ ord = 1))
    (q : ∀ B : wM, gi B 0 22 = nI (c + 1) → gi B 14 c = nI p → gi B 15 c = nI ord → (∀ a, 16 ≤ a → a ≤ 21 → gi B a c = nI 0) → (∀ j, j < 10 → gi B 23 (10 * c + j) = -4) → (∀ a j, a ≠ 0 ∨ j ≠ 22 → a < 14 ∨ 21 < a ∨ j ≠ c → a ≠ 23 ∨ j < 10 * c ∨ 10 * c + 10 ≤ j → gi B a j = gi M a j) → Q (nI c) B) : w_X12_chip (nI p) M Q := by
  have v6 : vp_in (nI c) 6 := vp_in_nI hc (by decide)
  unfold w_X12_chip
  rw [e0]
  refine in_t (by decide) (hi_S (by omega)) (by rw [nI_toInt (by omega)]; omega) (bf ne10 (bt e (bf (by rw [e2, nI_eq (by omega) (by decide)]; omega) ?_)))
  rw [e2, nI_clamp (by omega)]
  refine ⟨v6, v6, v6, v6, v6, v6, v6, ?_⟩
  refine chipL hc (by simp [gi_si, e2]) (fun A a1 a2 => ?_)
  have f14 : gi A 14 c = nI p := by
    rw [a2 14 c (Or.inl (by decide))]
    simp only [gi_si]
    simp
  have f2 : gi A 2 p = gi M 2 p := by
    rw [a2 2 p (Or.inl (by decide))]
    simp only [gi_si]
    simp
  have f22 : gi A 0 22 = nI c := by
    rw [a2 0 22 (Or.inl (by decide))]
    simp only [gi_si]
    simp [e2]
  have fz : ∀ a, 16 ≤ a → a ≤ 21 → gi A a c = nI 0 := by
    intro a h1 h2
    rw [a2 a c (Or.inl (by omega))]
    rcases (show a = 16 ∨ a = 17 ∨ a = 18 ∨ a = 19 ∨ a = 20 ∨ a = 21 by omega) with rfl | rfl | rfl | rfl | rfl | rfl <;> simp [gi_si]
  have fo : ∀ a j, a < 14 ∨ 21 < a ∨ j ≠ c → a ≠ 23 ∨ j < 10 * c ∨ 10 * c + 10 ≤ j → gi A a j = gi M a j := by
    intro a j h1 h2
    rw [a2 a j h2]
    have n : ∀ b, 14 ≤ b → b ≤ 21 → ¬ (a = b ∧ j = c) := fun b g1 g2 z => by omega
    simp only [gi_si, if_neg (n 14 (by decide) (by decide)), if_neg (n 16 (by decide) (by decide)), if_neg (n 17 (by decide) (by decide)), if_neg (n 18 (by decide) (by decide)), if_neg (n 19 (by decide) (by decide)), if_neg (n 20 (by decide) (by decide)), if_neg (n 21 (by decide) (by decide))]
  have last : ∀ o : Nat, o = ord → Q ((gi (si A 15 c (nI o)) 0 22 + nI 1) - nI 1) (si (si A 15 c (nI o)) 0 22 (gi (si A 15 c (nI o)) 0 22 + nI 1)) := by
    rintro o rfl
    rw [gi_ne (Or.inl (by decide)), f22, nI_add, pk_sub (by omega), show c + 1 - 1 = c by omega]
    refine q _ (gi_eq ..) ?_ ?_ (fun a h1 h2 => ?_) (fun j hj => ?_) (fun a j h1 h2 h3 => ?_)
    · rw [gi_ne (Or.inl (by decide)), gi_ne (Or.inl (by decide))]; exact f14
    · rw [gi_ne (Or.inl (by decide)), gi_eq]
    · rw [gi_ne (Or.inl (by omega)), gi_ne (Or.inl (by omega))]; exact fz a h1 h2
    · rw [gi_ne (Or.inl (by decide)), gi_ne (Or.inl (by decide))]; exact a1 j hj
    · rw [gi_ne h1, gi_ne (by omega)]; exact fo a j h2 h3
  unfold w_X12_resets
  rw [nI_clamp (by omega), f14, nI_clamp (by omega), f2]
  refine ⟨v6, vp_in_nI (by omega) (by decide), ?_⟩
  rcases ho with ⟨h1, h2⟩ | ⟨h1, h2⟩
  · exact bt h1 ⟨v6, last 0 h2.symm⟩
  · exact bf h1 ⟨v6, last 1 h2.symm⟩
end CHIPM
theorem law_chip (x1 : Int32) (Mx Mm : wM) (h : Inv Mx Mm) : w_X11_chip x1 Mx (fun r A => w_X12_chip x1 Mm (fun r2 B => r = r2 ∧ Inv A B)) := by
  obtain ⟨np, hnp, e1, e2, hk⟩ := h.2.2.1
  obtain ⟨-, s, hs, s1, s2⟩ := h.2.2.2.2.2.1
  obtain ⟨nc, np2, nn, h1, h2, h3, f1, f2, f3, f4, k, kn⟩ := h.2.2.2.1
  obtain rfl : np2 = np := inj31 (f3.symm.trans e1) (by omega) (by omega)
  unfold w_X11_chip
  rw [e1]
  by_cases c1 : 0 ≤ x1.toInt ∧ x1.toInt < np2
  · obtain ⟨p, hp, rfl, ep⟩ := nI_ex (x := x1) c1.1
    have pn : p < np2 := by omega
    refine bf (by rw [lt_n (by decide)]; omega) (bt (by rw [lt_n (by omega)]; omega) (bc (fun z => ?_) (fun z => chipM_s hnp e2 pn (by rw [s2, ← s1]; exact z) ⟨rfl, h⟩)))
    have z2 : gi Mm 0 33 = nI 0 := by rw [s2, ← s1]; exact z
    refine ⟨vp_in_nI (by omega) (by decide), ?_⟩
    rw [nI_clamp hp]
    unfold w_X0_append
    refine ⟨pt_part p (by omega), ?_⟩
    rw [f1]
    refine bc (fun w => ?_) (fun w => ?_)
    · rw [nI_ltI (by omega) (by decide)] at w
      refine ⟨vp_in_nI w (by decide), ?_⟩
      rw [nI_clamp (by omega)]
      refine ⟨w, pt_part p (by omega), pt_part p (by omega), ?_⟩
      obtain ⟨L, n, o, idv, sa, ex, pr, a0, a1, a5, a2, a3, a4⟩ := hk p pn
      have main : ∀ ord : Nat, ord < 2 → ((gi Mm 2 p = -4 ∧ ord = 0) ∨ (¬ gi Mm 2 p = -4 ∧ ord = 1)) → w_X12_chip (nI p) Mm (fun r2 B => (gi (si (sp (si Mx (34 + 3 * nc) 0 (nI p)) nc (65 + p)) (34 + 3 * nc) 2 (nI ord)) 26 3 + nI 1) - nI 1 = r2 ∧ Inv (si (si (sp (si Mx (34 + 3 * nc) 0 (nI p)) nc (65 + p)) (34 + 3 * nc) 2 (nI ord)) 26 3 (gi (si (sp (si Mx (34 + 3 * nc) 0 (nI p)) nc (65 + p)) (34 + 3 * nc) 2 (nI ord)) 26 3 + nI 1)) B) := by
        intro ord hord ho
        have g263 : gi (si (sp (si Mx (34 + 3 * nc) 0 (nI p)) nc (65 + p)) (34 + 3 * nc) 2 (nI ord)) 26 3 = nI nc := by
          rw [gi_ne (Or.inl (by omega)), gi_sp, gi_ne (Or.inl (by omega))]; exact f1
        rw [g263, nI_add, pk_sub (by omega), show nc + 1 - 1 = nc by omega]
        refine chipM_t hnp e2 pn z2 w f2 ho (fun B b1 b2 b3 b4 b5 b6 => ⟨rfl, ?_⟩)
        have xo : ∀ a j, a ≠ 34 + 3 * nc ∨ (j ≠ 0 ∧ j ≠ 2) → a ≠ 26 ∨ j ≠ 3 → gi (si (si (sp (si Mx (34 + 3 * nc) 0 (nI p)) nc (65 + p)) (34 + 3 * nc) 2 (nI ord)) 26 3 (nI (nc + 1))) a j = gi Mx a j := by
          intro a j g1 g2
          rw [gi_ne g2, gi_ne (g1.imp id (fun g => g.2)), gi_sp, gi_ne (g1.imp id (fun g => g.1))]
        refine Inv_fr2 (T := [34, 37, 40, 43, 46, 49, 3603]) (S := [1022, 14, 15, 16, 17, 18, 19, 20, 21, 23]) h (fun a j q => xo a j (Or.inl (fun z => q (by rw [z]; exact List.mem_append_left [3603] (rg_34 (j := j) w)))) ?_) (fun a j q => ?_) ⟨nc + 1, np2, nn, by omega, h2, h3, gi_eq .., b1, ?_, ?_, fun c' hc' => ?_, fun c' g1 g2 => ?_⟩
        · by_cases z : a = 26 ∧ j = 3
          · exact absurd (by rw [z.1, z.2]; decide) q
          · omega
        · refine b6 a j ?_ ?_ ?_
          · by_cases z : a = 0 ∧ j = 22
            · exact absurd (by rw [z.1, z.2]; decide) q
            · omega
          · by_cases z : 14 ≤ a ∧ a ≤ 21
            · exact absurd (by rcases (show a = 14 ∨ a = 15 ∨ a = 16 ∨ a = 17 ∨ a = 18 ∨ a = 19 ∨ a = 20 ∨ a = 21 by omega) with rfl | rfl | rfl | rfl | rfl | rfl | rfl | rfl <;> simp [cM]) q
            · omega
          · by_cases z : a = 23
            · exact absurd (by rw [z]; simp [cM]) q
            · exact Or.inl z
        · rw [xo 0 3 (Or.inl (by omega)) (by decide)]; exact f3
        · rw [xo 12 0 (Or.inl (by omega)) (by decide)]; exact f4
        · by_cases hcc : c' = nc
          · subst hcc
            obtain ⟨n1, n2, n3, n4, n5⟩ := kn c' (Nat.le_refl _) w
            have hL := pr.2.1
            refine ⟨p, L, n, o, ord, 0, 0, 0, 0, 0, pn, ?_, ?_, ?_, ⟨⟨pr.1, pr.2.1, pr.2.2.1, pr.2.2.2.1⟩, by omega, by omega, Nat.two_pow_pos _, Nat.two_pow_pos _, by simp, Nat.two_pow_pos _, by decide, Nat.two_pow_pos _⟩, ?_, ⟨?_, b2⟩, ⟨?_, b3⟩, ⟨?_, b4 16 (by decide) (by decide)⟩, ⟨?_, b4 20 (by decide) (by decide)⟩, ⟨?_, b4 21 (by decide) (by decide)⟩, ⟨?_, b4 17 (by decide) (by decide)⟩, ?_, ⟨?_, b4 19 (by decide) (by decide)⟩, fun i hi => ?_⟩
            · rw [xo _ _ (Or.inl (by omega)) (Or.inl (by omega))]; exact a0.1
            · rw [xo _ _ (Or.inl (by omega)) (Or.inl (by omega))]; exact a1.1
            · rw [xo _ _ (Or.inl (by omega)) (Or.inl (by omega))]; exact a5.1
            · rw [gp_si, gp_si, gp_sp, if_pos rfl]
            · rw [gi_ne (Or.inl (by omega)), gi_ne (Or.inr (by decide)), gi_sp, gi_eq]
            · rw [gi_ne (Or.inl (by omega)), gi_eq]
            · rw [xo _ _ (Or.inr (by decide)) (Or.inl (by omega)), n1, nI_0]
            · rw [xo _ _ (Or.inr (by decide)) (Or.inl (by omega)), n2, nI_0]
            · rw [xo _ _ (Or.inr (by decide)) (Or.inl (by omega)), n3, nI_0]
            · rw [xo _ _ (Or.inl (by omega)) (Or.inl (by omega)), n4 0 (by decide), nI_0]
            · rw [xo _ _ (Or.inl (by omega)) (Or.inl (by omega)), n4 1 (by decide), b4 18 (by decide) (by decide), nI_0]
            · rw [xo _ _ (Or.inl (by omega)) (Or.inl (by omega)), n4 2 (by decide), nI_0]
            · rw [xo _ _ (Or.inl (by omega)) (Or.inl (by omega)), n5 i hi, b5 i hi]
              exact ⟨rfl, Or.inl rfl⟩
          · refine chipOk_fr2 hnp (k c' (by omega)) (by rw [gp_si, gp_si, gp_sp, if_neg hcc, gp_si]) (fun p j hp => xo _ _ (Or.inl (by omega)) (Or.inl (by omega))) (fun j => xo _ _ (Or.inl (by omega)) (Or.inl (by omega))) (fun j => xo _ _ (Or.inl (by omega)) (Or.inl (by omega))) (fun j => xo _ _ (Or.inl (by omega)) (Or.inl (by omega))) (fun a g1 g2 => b6 a c' (Or.inl (by omega)) (by omega) (Or.inl (by omega))) (fun i hi => b6 23 _ (Or.inl (by decide)) (Or.inr (Or.inl (by decide))) (by omega))
        · exact chipNo_fr (kn c' (by omega) g2) (fun j => xo _ _ (Or.inl (by omega)) (Or.inl (by omega))) (fun j => xo _ _ (Or.inl (by omega)) (Or.inl (by omega))) (fun j => xo _ _ (Or.inl (by omega)) (Or.inl (by omega)))
      have gid : gi (sp (si Mx (34 + 3 * nc) 0 (nI p)) nc (65 + p)) (65 + p) 2 = gi Mm 2 p := by
        rw [gi_sp, gi_ne (Or.inl (by omega)), a2.1, a2.2]
      refine bc (fun y => main 0 (by decide) (Or.inl ⟨by rw [← gid]; exact y, rfl⟩)) (fun y => main 1 (by decide) (Or.inr ⟨by rw [← gid]; exact y, rfl⟩))
    · rw [nI_ltI (by omega) (by decide)] at w
      obtain rfl : nc = 6 := by omega
      exact chipM_f hnp e2 pn z2 f2 ⟨rfl, h⟩
  · have f : w_X12_chip x1 Mm (fun r2 B => (-1 : Int32) = r2 ∧ Inv Mx B) := chipM_b hnp e2 c1 ⟨rfl, h⟩
    refine bc (fun _ => f) (fun z => bf (fun w => ?_) f)
    rw [lt_n (by decide)] at z
    rw [lt_n (by omega)] at w
    omega
