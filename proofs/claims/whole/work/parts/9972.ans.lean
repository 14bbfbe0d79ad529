/-! answer -/
theorem fltN : ∀ nn, nn < 9 → nI 2 * nI nn + nI nn * (nI nn - nI 1) = nI (nn * (nn + 1)) := by decide
theorem isFltX {A : wM} {F : Nat} {x : Int32} {Q : Int32 → wM → Prop} (hF : F ≤ 72) (e : gi A 54 4 = nI F) (q1 : 0 ≤ x.toInt ∧ x.toInt < F → Q (nI 1) A) (q0 : ¬ (0 ≤ x.toInt ∧ x.toInt < F) → Q (nI 0) A) : w_X10_isFault x A Q := by
  unfold w_X10_isFault
  rw [e, lt_n (by decide), n_le (by omega)]
  exact ⟨fun h => q0 (by omega), fun h => ⟨fun k => q0 (by omega), fun k => q1 (by omega)⟩⟩
theorem grpX {A : wM} {nn m r : Nat} {x : Int32} {Q : Int32 → wM → Prop} (h8 : nn ≤ 8) (fr : FR nn A (nn * (nn + 1))) (gd : GD nn x m r) (q : Q (nI (m + 256 * r)) A) : w_X10_groupOf x A Q := by
  have o := (off_ok nn (by omega)).2.2
  unfold w_X10_groupOf
  rcases gd with ⟨rfl, rfl, rfl⟩ | ⟨f, rfl, fd⟩
  · exact isFltX o fr.1 (fun z => absurd z (by rw [n4]; omega)) (fun _ => bt rfl q)
  · have l := FD_lt h8 fd
    refine isFltX o fr.1 (fun _ => bf ne10 ⟨vp_in_nI (by omega) (by decide), ?_⟩) (fun z => absurd ⟨by rw [nI_toInt (by omega)]; omega, by rw [nI_toInt (by omega)]; omega⟩ z)
    rw [nI_clamp (by omega), fr.2 f l.2.2 m r fd]
    exact q
theorem GD_of {nn : Nat} {x : Int32} (h8 : nn ≤ 8) (h : x = -4 ∨ (0 ≤ x.toInt ∧ x.toInt < ((nn * (nn + 1) : Nat) : Int))) : ∃ m r, GD nn x m r := by
  rcases h with h | h
  · exact ⟨0, 0, Or.inl ⟨h, rfl, rfl⟩⟩
  · obtain ⟨f, hf, rfl, ef⟩ := nI_ex (x := x) h.1
    obtain ⟨m, r, fd⟩ := FD_ex (f := f) h8 (by omega)
    exact ⟨m, r, Or.inr ⟨f, rfl, fd⟩⟩
theorem ansX {X A : wM} {s nn n m1 r1 m2 r2 : Nat} {Q : Int32 → wM → Prop} (hs : s < 3) (h8 : nn ≤ 8) (hn : n < nn) (p : PR X A s nn) (h1 : m1 < 256) (l1 : r1 < 4) (h2 : m2 < 256) (l2 : r2 < 4) (q : Q (nI (bld (fun t => (lvG m1 r1 m2 r2 (rowV s nn t)).testBit n) (rc s nn))) A) : w_X10_answerOf (nI n) (nI (m1 + 256 * r1)) (nI (m2 + 256 * r2)) A Q := by
  have r8 := rc_le hs h8
  have b8 := p8 h8
  refine lo2 (fun K y4 y5 M => wb_X10_answerOf_6 (nI n) (nI (m1 + 256 * r1)) (nI (m2 + 256 * r2)) K y4 y5 M Q) (fun _ _ _ _ => rfl) (rc s nn) (fun i y M' => M' = A ∧ y = nI (bld (fun t => (lvG m1 r1 m2 r2 (rowV s nn t)).testBit n) i)) ?_ ?_ (Nat.zero_le _) ⟨rfl, rfl⟩
  · rintro i y M' K hi ⟨rfl, rfl⟩ kk
    have hrow := rowV_lt hs hi
    have ll := lvG_lt (r1 := r1) (r2 := r2) h1 h2 (row := rowV s nn i) (by omega)
    unfold wb_X10_answerOf_6
    rw [p.2.1, nI_clamp (n := i) (by omega), (p.2.2.1 i hi).1, nI_add]
    exact bf (nI_ge hi (by omega)) ⟨vp_in_nI (by omega) (by decide), lbX h1 l1 h2 l2 (by omega) (bit_w (by omega) (by omega) (kk _ _ ⟨rfl, bld_or (f := fun t => (lvG m1 r1 m2 r2 (rowV s nn t)).testBit n) (by omega)⟩))⟩
  · rintro y M' K ⟨rfl, rfl⟩
    unfold wb_X10_answerOf_6
    rw [p.2.1]
    exact bt (nI_le (by omega) (by omega)) q
theorem law_answer (x1 x2 x3 x4 : Int32) (Mx Mm : wM) (h : Inv Mx Mm) : w_X11_answer x1 x2 x3 x4 Mx (fun r A => w_X12_answer x1 x2 x3 x4 Mm (fun r2 B => r = r2 ∧ Inv A B)) := by
  obtain ⟨nc, nn, h1, h8, -, -, e5, e6, -⟩ := Inv_cf h
  have nf := Inv_nf h h8 e5
  have b8 := p8 h8
  have o := (off_ok nn (by omega)).2.2
  unfold w_X11_answer
  refine isSort_w (fun c1 => bf ne10 (hasNet_w h8 e5 (fun c2 => bf ne10 ?_) (fun c2 => bt rfl ?_))) (fun c1 => bt rfl (in_f (by decide) (hi_N (by decide)) c1 (bt rfl (bt rfl ⟨rfl, h⟩))))
  · obtain ⟨s, hs, rfl, es⟩ := nI_ex (x := x1) c1.1
    obtain ⟨n, hn, rfl, en⟩ := nI_ex (x := x2) c2.1
    have s3 : s < 3 := by omega
    have n8 : n < nn := by omega
    refine prepX s3 nf (fun A p => ?_)
    have fr := p.2.2.2
    have ip := Inv_pr h p
    -- the reference, up to its choice
    have im : ∀ Q : Int32 → wM → Prop, ((x3 = (-4) → (x4 = (-4) → wj_X12_answer_87 (nI s) (nI n) x3 x4 (nI 1) Mm Q) ∧ (¬ x4 = (-4) → wj_X12_answer_87 (nI s) (nI n) x3 x4 (nI 0) Mm Q)) ∧ (¬ x3 = (-4) → ((0 ≤ x3.toInt ∧ x3.toInt < ((nn * (nn + 1) : Nat) : Int)) → ((x4 = (-4) → wj_X12_answer_87 (nI s) (nI n) x3 x4 (nI 1) Mm Q) ∧ (¬ x4 = (-4) → ((0 ≤ x4.toInt ∧ x4.toInt < ((nn * (nn + 1) : Nat) : Int)) → ((x4 = x3 → wj_X12_answer_87 (nI s) (nI n) x3 x4 (nI 0) Mm Q) ∧ (¬ x4 = x3 → wj_X12_answer_87 (nI s) (nI n) x3 x4 (nI 1) Mm Q))) ∧ (¬ (0 ≤ x4.toInt ∧ x4.toInt < ((nn * (nn + 1) : Nat) : Int)) → wj_X12_answer_87 (nI s) (nI n) x3 x4 (nI 0) Mm Q)))) ∧ (¬ (0 ≤ x3.toInt ∧ x3.toInt < ((nn * (nn + 1) : Nat) : Int)) → wj_X12_answer_87 (nI s) (nI n) x3 x4 (nI 0) Mm Q))) → w_X12_answer (nI s) (nI n) x3 x4 Mm Q := by
      intro Q q
      unfold w_X12_answer w_X12_faults
      refine in_t (by decide) (hi_N (by decide)) c1 (bf ne10 (isNet_w h8 e6 (fun _ => bf ne10 ⟨q.1, fun z3 => ?_⟩) (fun z => absurd c2 z)))
      rw [e6, fltN nn (by omega)]
      by_cases d3 : 0 ≤ x3.toInt ∧ x3.toInt < ((nn * (nn + 1) : Nat) : Int)
      · refine in_t (by decide) (hi_S (by omega)) ⟨d3.1, by omega⟩ (bf ne10 ⟨((q.2 z3).1 d3).1, fun z4 => ?_⟩)
        rw [e6, fltN nn (by omega)]
        by_cases d4 : 0 ≤ x4.toInt ∧ x4.toInt < ((nn * (nn + 1) : Nat) : Int)
        · exact in_t (by decide) (hi_S (by omega)) ⟨d4.1, by omega⟩ (bf ne10 ((((q.2 z3).1 d3).2 z4).1 d4))
        · exact in_f (by decide) (hi_S (by omega)) (by omega) (bt rfl ((((q.2 z3).1 d3).2 z4).2 d4))
      · exact in_f (by decide) (hi_S (by omega)) (by omega) (bt rfl ((q.2 z3).2 d3))
    have no : wj_X12_answer_87 (nI s) (nI n) x3 x4 (nI 0) Mm (fun r2 B => (-1 : Int32) = r2 ∧ Inv A B) := bt rfl ⟨rfl, ip⟩
    have yes : ∀ m1 r1 m2 r2, GD nn x3 m1 r1 → GD nn x4 m2 r2 → (x3 ≠ x4 ∨ x3 = -4) → wj_X12_answer_87 (nI s) (nI n) x3 x4 (nI 1) Mm (fun r2' B => nI (bld (fun t => (lvG m1 r1 m2 r2 (rowV s nn t)).testBit n) (rc s nn)) = r2' ∧ Inv A B) := by
      intro m1 r1 m2 r2 g1 g2 d
      unfold wj_X12_answer_87
      refine bf ne10 (guessM h8 e6 g1 g2 (fun M' f g => ?_))
      obtain ⟨mk, r, hp, k1, k2⟩ := g n n8
      have hm := hp.1
      refine ansM s3 h8 n8 ((f 0 41 (by decide) (by decide) (by decide) (by decide)).trans e6) k1 k2 (by omega) hp.2.2.1 ⟨?_, Inv_pr (Inv_k29 h f) p⟩
      rw [bld_congr (g := fun t => (lvG m1 r1 m2 r2 (rowV s nn t)).testBit n) (rc s nn) (fun t ht => gv h8 (GD_fv h8 g1) (GD_fv h8 g2) (GD_ne h8 g1 g2 d) n8 (by have := rowV_lt s3 ht; omega) hp)]
    have go : ∀ m1 r1 m2 r2, GD nn x3 m1 r1 → GD nn x4 m2 r2 → w_X12_answer (nI s) (nI n) x3 x4 Mm (fun r2' B => nI (bld (fun t => (lvG m1 r1 m2 r2 (rowV s nn t)).testBit n) (rc s nn)) = r2' ∧ Inv A B) → w_X10_groupOf x3 A (fun r12 M13 => w_X10_groupOf x4 M13 (fun r14 M15 => w_X10_answerOf (nI n) r12 r14 M15 (fun r16 M17 => w_X12_answer (nI s) (nI n) x3 x4 Mm (fun r2' B => r16 = r2' ∧ Inv M17 B)))) := by
      intro m1 r1 m2 r2 g1 g2 w
      have v1 := GD_fv h8 g1
      have v2 := GD_fv h8 g2
      have b1 := v1.1
      have b2 := v2.1
      exact grpX h8 fr g1 (grpX h8 fr g2 (ansX s3 h8 n8 p (by omega) v1.2.1 (by omega) v2.2.1 w))
    unfold w_X10_isGuess
    refine bc (fun z4 => bc (fun z3 => bf ne10 ?_) (fun z3 => ?_)) (fun z4 => ?_)
    · exact go 0 0 0 0 (Or.inl ⟨z3, rfl, rfl⟩) (Or.inl ⟨z4, rfl, rfl⟩) (im _ (bt z3 (bt z4 (yes 0 0 0 0 (Or.inl ⟨z3, rfl, rfl⟩) (Or.inl ⟨z4, rfl, rfl⟩) (Or.inr z3)))))
    · refine isFltX o fr.1 (fun d3 => bf ne10 (bf ne10 ?_)) (fun d3 => bt rfl (bt rfl (im _ (bf z3 ⟨fun y => absurd y d3, fun _ => no⟩))))
      obtain ⟨m1, r1, g1⟩ := GD_of h8 (Or.inr d3)
      exact go m1 r1 0 0 g1 (Or.inl ⟨z4, rfl, rfl⟩) (im _ (bf z3 ⟨fun _ => bt z4 (yes m1 r1 0 0 g1 (Or.inl ⟨z4, rfl, rfl⟩) (Or.inl (fun y => z3 (y.trans z4)))), fun y => absurd d3 y⟩))
    · refine isFltX o fr.1 (fun d3 => bf ne10 (isFltX o fr.1 (fun d4 => bf ne10 ?_) (fun d4 => bt rfl (bt rfl ?_)))) (fun d3 => bt rfl (bt rfl ?_))
      · have z3 : ¬ x3 = -4 := fun y => by rw [y, n4] at d3; omega
        refine bc (fun y => bt rfl (im _ (bf z3 ⟨fun _ => bf z4 ⟨fun _ => bt y.symm no, fun u => absurd d4 u⟩, fun u => absurd d3 u⟩))) (fun y => bf ne10 ?_)
        obtain ⟨m1, r1, g1⟩ := GD_of h8 (Or.inr d3)
        obtain ⟨m2, r2, g2⟩ := GD_of h8 (Or.inr d4)
        exact go m1 r1 m2 r2 g1 g2 (im _ (bf z3 ⟨fun _ => bf z4 ⟨fun _ => bf (fun u => y u.symm) (yes m1 r1 m2 r2 g1 g2 (Or.inl y)), fun u => absurd d4 u⟩, fun u => absurd d3 u⟩))
      · have z3 : ¬ x3 = -4 := fun y => by rw [y, n4] at d3; omega
        exact im _ (bf z3 ⟨fun _ => bf z4 ⟨fun u => absurd u d4, fun _ => no⟩, fun u => absurd d3 u⟩)
      · by_cases z3 : x3 = -4
        · exact im _ (bt z3 (bf z4 no))
        · exact im _ (bf z3 ⟨fun u => absurd u d3, fun _ => no⟩)
  · unfold w_X12_answer
    exact in_t (by decide) (hi_N (by decide)) c1 (bf ne10 (isNet_w h8 e6 (fun z => absurd z c2) (fun _ => bt rfl (bt rfl ⟨rfl, h⟩))))
