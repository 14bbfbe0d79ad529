/-! count -/
theorem countM {M : wM} {nc nn : Nat} {fc fo fs : Nat → Nat} {s : Nat → Nat → Bool} {x1 : Int32} {Q : Int32 → wM → Prop} (hn : nc ≤ 6) (hn8 : nn ≤ 8) (e : gi M 0 22 = nI nc) (e2 : gi M 0 41 = nI nn)
    (hc : ∀ c, c < nc → ∃ p v : Nat, p < 6 ∧ v < 1024 ∧ gi M 14 c = nI p ∧ gi M 5 p = nI (fc c) ∧ gi M 21 c = nI v ∧ fo c = ones v 16)
    (hf : ∀ a, a < nn → (gi M 27 a = -4 ∧ fs a = 0) ∨ (¬ gi M 27 a = -4 ∧ fs a = 1)) (hs : ∀ a b, a < nn → b < nn → (s a b = false ↔ gi M 28 (8 * a + b) = nI 0))
    (q : ∀ K, wb_X12_count_59 x1 (nI (sm fc nc)) (nI (sm fo nc)) K (nI (cnt3 s nn)) (nI (sm fs nn)) (nI nn) M Q) : w_X12_count x1 M Q := by
  have k59 : ∀ k a, a + k = nn → wL_X12_count_59 x1 (nI (sm fc nc)) (nI (sm fo nc)) Q (k + 1) (nI (cnt3 s a)) (nI (sm fs a)) (nI a) M := by
    intro k
    induction k with
    | zero =>
      intro a ha
      obtain rfl : a = nn := by omega
      exact q _
    | succ k ih =>
      intro a ha
      have ih1 := ih (a + 1) (by omega)
      have k93 : ∀ j b, b + j = a → wL_X12_count_93 x1 (nI (sm fc nc)) (nI (sm fo nc)) (nI (sm fs (a + 1))) (nI a) (wL_X12_count_59 x1 (nI (sm fc nc)) (nI (sm fo nc)) Q (k + 1)) Q (j + 1) (nI (cnt3 s a + cnt s a 0 b)) (nI b) M := by
        intro j
        induction j with
        | zero =>
          intro b hb
          obtain rfl : b = a := by omega
          show wb_X12_count_93 _ _ _ _ _ _ _ _ _ M Q
          unfold wb_X12_count_93
          rw [nI_add b 1]
          exact bt (nI_le (by omega) (by omega)) ih1
        | succ j ih2 =>
          intro b hb
          have ih3 := ih2 (b + 1) (by omega)
          show wb_X12_count_93 x1 (nI (sm fc nc)) (nI (sm fo nc)) (nI (sm fs (a + 1))) (nI a) _ (wL_X12_count_93 x1 (nI (sm fc nc)) (nI (sm fo nc)) (nI (sm fs (a + 1))) (nI a) (wL_X12_count_59 x1 (nI (sm fc nc)) (nI (sm fo nc)) Q (k + 1)) Q (j + 1)) _ _ M Q
          unfold wb_X12_count_93
          rw [nI_mul, nI_add (8 * a) b, nI_clamp (by omega)]
          refine bf (nI_ge (by omega) (by omega)) ⟨vp_in_nI (by omega) (by decide), ?_⟩
          rw [show cnt s a 0 (b + 1) = cnt s a 0 b + (s a (0 + b)).toNat from rfl, Nat.zero_add] at ih3
          rw [nI_add _ 0, nI_add _ 1, nI_add _ 1]
          refine bc (fun z => ?_) (fun z => ?_)
          · rw [(hs a b (by omega) (by omega)).mpr z] at ih3
            exact ih3
          · have : s a b = true := by
              cases hh : s a b
              · exact absurd ((hs a b (by omega) (by omega)).mp hh) z
              · rfl
            rw [this] at ih3
            exact ih3
      show wb_X12_count_59 x1 (nI (sm fc nc)) (nI (sm fo nc)) (wL_X12_count_59 x1 (nI (sm fc nc)) (nI (sm fo nc)) Q (k + 1)) _ _ _ M Q
      unfold wb_X12_count_59
      rw [e2, nI_clamp (n := a) (by omega)]
      refine bf (nI_ge (by omega) (by omega)) ⟨vp_in_nI (by omega) (by decide), ?_⟩
      have go : ∀ w : Nat, fs a = w → wj_X12_count_87 x1 (nI (sm fc nc)) (nI (sm fo nc)) (nI (cnt3 s a)) (nI a) (nI (sm fs a)) (nI w) (wL_X12_count_59 x1 (nI (sm fc nc)) (nI (sm fo nc)) Q (k + 1)) M Q := by
        intro w hw
        unfold wj_X12_count_87
        rw [nI_add, ← hw]
        exact ⟨a + 1, k93 a 0 (by omega)⟩
      rcases hf a (by omega) with ⟨f1, f2⟩ | ⟨f1, f2⟩
      · exact bt f1 (go 0 f2)
      · exact bf f1 (go 1 f2)
  have k7 : ∀ k i, i + k = nc → wL_X12_count_7 x1 Q (k + 1) (nI (sm fc i)) (nI (sm fo i)) (nI i) M := by
    intro k
    induction k with
    | zero =>
      intro i hi
      obtain rfl : i = nc := by omega
      show wb_X12_count_7 x1 _ _ _ _ M Q
      unfold wb_X12_count_7
      rw [e]
      exact bt (nI_le (by omega) (by omega)) ⟨nn + 1, k59 nn 0 (by omega)⟩
    | succ k ih =>
      intro i hi
      have ih1 := ih (i + 1) (by omega)
      obtain ⟨p, v, p1, p2, p3, p4, p5, p6⟩ := hc i (by omega)
      show wb_X12_count_7 x1 (wL_X12_count_7 x1 Q (k + 1)) _ _ _ M Q
      unfold wb_X12_count_7
      rw [e, nI_clamp (by omega), p3, nI_clamp (by omega), p4, p5]
      refine bf (nI_ge (by omega) (by omega)) ⟨vp_in_nI (by omega) (by decide), vp_in_nI p1 (by decide), vp_in_nI (by omega) (by decide), bitsM (by omega) ?_⟩
      rw [← p6, nI_add, nI_add, nI_add]
      exact ih1
  exact ⟨nc + 1, k7 nc 0 (by omega)⟩
def opC (X : wM) (c : Nat) : Nat := ones (gi X (34 + 3 * c) 6).toNatClampNeg 16
def shB (X : wM) (a b : Nat) : Bool := !(decide (gi X (16 + min a b) (max a b) = -4))
def stC (X : wM) (a : Nat) : Nat := if gi X 14 a = -4 then 0 else 1
theorem law_count (x1 : Int32) (Mx Mm : wM) (h : Inv Mx Mm) : w_X11_count x1 Mx (fun r A => w_X12_count x1 Mm (fun r2 B => r = r2 ∧ Inv A B)) := by
  obtain ⟨nc, np, nn, h1, h2, h3, e1, e2, e3, e4, e5, e6, hc⟩ := Inv_nc h
  obtain ⟨nt, -, t1, t2, -⟩ := h.1
  obtain ⟨nl, -, l1, l2, -⟩ := h.2.2.2.2.2.2.1
  obtain ⟨nn2, m1, m2, m3, m4, m5, m6, -⟩ := h.2.2.2.2.2.2.2.1
  obtain rfl : nn2 = nn := inj31 (m2.symm.trans e5) (by omega) (by omega)
  obtain ⟨g1, g2, -⟩ := h.2.2.2.2.2.2.2.2.1 0 (by decide)
  have hsym : ∀ a b, shB Mx a b = shB Mx b a := fun a b => by unfold shB; rw [Nat.min_comm, Nat.max_comm]
  have hsx : ∀ a b, a < nn2 → b < nn2 → (shB Mx a b = false ↔ gi Mx (16 + a) b = -4) := by
    intro a b ha hb
    unfold shB
    rw [Bool.not_eq_false', decide_eq_true_eq]
    rcases Nat.le_total a b with hab | hab
    · rw [Nat.min_eq_left hab, Nat.max_eq_right hab]
    · rw [Nat.min_eq_right hab, Nat.max_eq_left hab, (m6 a b ha hb).2.1]
  have hsm : ∀ a b, a < nn2 → b < nn2 → (shB Mx a b = false ↔ gi Mm 28 (8 * a + b) = nI 0) := by
    intro a b ha hb
    rw [hsx a b ha hb]
    rcases (m6 a b ha hb).1 with ⟨y1, y2⟩ | ⟨y1, y2⟩ | ⟨y1, y2⟩ <;> rw [y1, y2] <;> decide
  have hst : ∀ a, (gi Mx 14 a = -4 ∧ stC Mx a = 0) ∨ (¬ gi Mx 14 a = -4 ∧ stC Mx a = 1) := by
    intro a
    unfold stC
    by_cases z : gi Mx 14 a = -4
    · exact Or.inl ⟨z, if_pos z⟩
    · exact Or.inr ⟨z, if_neg z⟩
  have go : ∀ (r : Int32), (∀ K, wb_X12_count_59 x1 (nI (sm (celC Mx) nc)) (nI (sm (opC Mx) nc)) K (nI (cnt3 (shB Mx) nn2)) (nI (sm (stC Mx) nn2)) (nI nn2) Mm (fun r2 B => r = r2 ∧ Inv Mx B)) → w_X12_count x1 Mm (fun r2 B => r = r2 ∧ Inv Mx B) := by
    intro r q
    refine countM h1 h3 e2 e6 (fun c hcc => ?_) (fun a ha => ?_) hsm q
    · obtain ⟨p, L, n, o, idv, sa, ex, ord, orow, lat, opn, br, cr, k1, pr, cr2, k4, k5, k6, k7, k8⟩ := hc c hcc
      have h10 := p10 pr.2.2.1
      have ho := cr2.2.2.2.2.2.2.1
      have n10 := pr.2.2.1
      refine ⟨p, opn, by omega, by omega, k5.2, ?_, k7.2.2.2.1.2, ?_⟩
      · unfold celC
        rw [k4, k6.2.1.1, nI_clamp (by omega)]
        exact k6.2.1.2
      · unfold opC
        rw [k7.2.2.2.1.1, nI_clamp (by omega)]
    · rw [← (m4 a ha).1]
      exact hst a
  have hcl : ∀ c, c < nc → ptX (gp Mx c) ∧ gi Mx (gp Mx c) 1 = nI (celC Mx c) := by
    intro c hcc
    obtain ⟨p, L, n, o, idv, sa, ex, ord, orow, lat, opn, br, cr, k1, pr, cr2, k4, k5, k6, k7, k8⟩ := hc c hcc
    have n10 := pr.2.2.1
    unfold celC
    rw [k4, k6.2.1.1, nI_clamp (by omega)]
    exact ⟨pt_part p (by omega), rfl⟩
  have hll : ∀ c, c < nc → ptX (gp Mx c) ∧ gi Mx (gp Mx c) 0 = nI (lenC Mx c) := by
    intro c hcc
    obtain ⟨p, L, n, o, idv, sa, ex, ord, orow, lat, opn, br, cr, k1, pr, cr2, k4, k5, k6, k7, k8⟩ := hc c hcc
    have n10 := pr.2.1
    unfold lenC
    rw [k4, k6.1.1, nI_clamp (by omega)]
    exact ⟨pt_part p (by omega), rfl⟩
  have hop : ∀ c, c < nc → ∃ v, v < 1024 ∧ gi Mx (34 + 3 * c) 6 = nI v ∧ opC Mx c = ones v 16 := by
    intro c hcc
    obtain ⟨p, L, n, o, idv, sa, ex, ord, orow, lat, opn, br, cr, k1, pr, cr2, k4, k5, k6, k7, k8⟩ := hc c hcc
    have h10 := p10 pr.2.2.1
    have ho := cr2.2.2.2.2.2.2.1
    refine ⟨opn, by omega, k7.2.2.2.1.1, ?_⟩
    unfold opC
    rw [k7.2.2.2.1.1, nI_clamp (by omega)]
  have hlm : w_X12_lengths Mm (fun r6 M7 => nI (sm (lenC Mx) nc) = r6 ∧ Inv Mx M7) := by
    refine lenM (f := lenC Mx) (P := fun c => (gi Mm 14 c).toNatClampNeg) h1 e2 (fun c hcc => ?_) ⟨rfl, h⟩
    obtain ⟨p, L, n, o, idv, sa, ex, ord, orow, lat, opn, br, cr, k1, pr, cr2, k4, k5, k6, k7, k8⟩ := hc c hcc
    have n10 := pr.2.1
    unfold lenC
    rw [k5.2, nI_clamp (by omega), k4, k6.1.1, nI_clamp (by omega)]
    exact ⟨by omega, rfl, k6.1.2⟩
  have le : gi Mm 0 41 ≤ nI nn2 := by rw [e6]; exact nI_le (Nat.le_refl _) (by omega)
  unfold w_X11_count
  refine bc (fun z => ?_) (fun z0 => bc (fun z => ?_) (fun z1 => bc (fun z => ?_) (fun z2 => bc (fun z => ?_) (fun z3 => bc (fun z => ?_) (fun z4 => bc (fun z => ?_) (fun z5 => bc (fun z => ?_) (fun z6 => bc (fun z => ?_) (fun z7 => bc (fun z => ?_) (fun z8 => bc (fun z => ?_) (fun z9 => bc (fun z => ?_) (fun z10 => ?_)))))))))))
  · exact go _ (fun K => bt le (bt z ⟨e3.trans e4.symm, h⟩))
  · exact go _ (fun K => bt le (bf z0 (bt z ⟨e1.trans e2.symm, h⟩)))
  · exact ordbX h1 e1 hll (go _ (fun K => bt le (bf z0 (bf z1 (bt z hlm)))))
  · exact celX h1 e1 hcl (go _ (fun K => bt le (bf z0 (bf z1 (bf z2 (bt z ⟨rfl, h⟩))))))
  · exact go _ (fun K => bt le (bf z0 (bf z1 (bf z2 (bf z3 (bt z ⟨e5.trans e6.symm, h⟩))))))
  · exact shcX h3 e5 hsx (go _ (fun K => bt le (bf z0 (bf z1 (bf z2 (bf z3 (bf z4 (bt z ⟨by rw [cnt23 _ hsym], h⟩))))))))
  · exact stkX h3 e5 (fun a _ => hst a) (go _ (fun K => bt le (bf z0 (bf z1 (bf z2 (bf z3 (bf z4 (bf z5 (bt z ⟨rfl, h⟩)))))))))
  · exact opnX h1 e1 hop (go _ (fun K => bt le (bf z0 (bf z1 (bf z2 (bf z3 (bf z4 (bf z5 (bf z6 (bt z ⟨rfl, h⟩))))))))))
  · exact go _ (fun K => bt le (bf z0 (bf z1 (bf z2 (bf z3 (bf z4 (bf z5 (bf z6 (bf z7 (bt z ⟨l1.trans l2.symm, h⟩))))))))))
  · exact go _ (fun K => bt le (bf z0 (bf z1 (bf z2 (bf z3 (bf z4 (bf z5 (bf z6 (bf z7 (bf z8 (bt z ⟨t1.trans t2.symm, h⟩)))))))))))
  · have v : vp_in (nI 0) 4 := vp_in_nI (by decide) (by decide)
    have g1' : gi Mx (71 + 2 * (nI 0).toNatClampNeg) 0 = gi Mm 40 (nI 0).toNatClampNeg := g1
    have g2' : gi Mx (71 + 2 * (nI 0).toNatClampNeg) 1 = gi Mm 41 (nI 0).toNatClampNeg := g2
    refine ⟨v, bc (fun y => go _ (fun K => bt le (bf z0 (bf z1 (bf z2 (bf z3 (bf z4 (bf z5 (bf z6 (bf z7 (bf z8 (bf z9 (bt z ⟨v, bt (by rw [← g1']; exact y) ⟨rfl, h⟩⟩))))))))))))) (fun y => ⟨v, go _ (fun K => bt le (bf z0 (bf z1 (bf z2 (bf z3 (bf z4 (bf z5 (bf z6 (bf z7 (bf z8 (bf z9 (bt z ⟨v, bf (by rw [← g1']; exact y) ⟨v, g2', h⟩⟩))))))))))))⟩)⟩
  · exact go _ (fun K => bt le (bf z0 (bf z1 (bf z2 (bf z3 (bf z4 (bf z5 (bf z6 (bf z7 (bf z8 (bf z9 (bf z10 ⟨rfl, h⟩))))))))))))
