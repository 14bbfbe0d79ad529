/-! methods as predicates, and their walks (by gen/wpgen.py) -/
def w_X4_orderOf (t : Nat) (x1 : Int32) (M : wM) (Q : Int32 → wM → Prop) : Prop := ptX t ∧ ((x1 = (gi M t 3) → Q (nI 2) M) ∧ (¬ x1 = (gi M t 3) → (x1 = (gi M t 4) → Q (nI 3) M) ∧ (¬ x1 = (gi M t 4) → ((gi M t 2) = (-4) → Q (nI 0) M) ∧ (¬ (gi M t 2) = (-4) → (x1 = ((jshl (nI 1) (gi M t 0)) - (nI 2)) → Q (nI 1) M) ∧ (¬ x1 = ((jshl (nI 1) (gi M t 0)) - (nI 2)) → Q (nI 0) M)))))
set_option maxRecDepth 20000 in
theorem wk_X4_orderOf {t : Nat} {x1 : Int32} {M : wM} {Q : Int32 → wM → Prop} (h : w_X4_orderOf t x1 M Q) : aG 22 (aEn 22 [(.ref t), (.int x1)] (mkX M)) (aPi mkX Q) := by
  unfold w_X4_orderOf at h
  obtain ⟨ht, h⟩ := h
  refine aG_n 2 (s' := (2, [some (.ref t), some (.int x1)], [(.ref t), (.int x1)], mkX M)) rfl ?_
  refine aG_get rfl ht rfl rfl ?_
  refine aG_n 0 (s' := (5, [some (.ref t), some (.int x1)], [(.int (gi M t 3)), (.int x1)], mkX M)) rfl ?_
  obtain ⟨h1, h2⟩ := h
  by_cases q1 : x1 = (gi M t 3)
  · have h := h1 q1
    refine aG_icmp (cd := .ne) (b := false) (aTne0 q1) rfl ?_
    refine aG_n 1 (s' := (9, [some (.ref t), some (.int x1)], [(.int (nI 2))], mkX M)) rfl ?_
    exact aG_ret0 rfl rfl ⟨_, _, rfl, h⟩
  · have h := h2 q1
    refine aG_icmp (cd := .ne) (b := true) (aTne1 q1) rfl ?_
    refine aG_n 2 (s' := (12, [some (.ref t), some (.int x1)], [(.ref t), (.int x1)], mkX M)) rfl ?_
    refine aG_get rfl ht rfl rfl ?_
    refine aG_n 0 (s' := (15, [some (.ref t), some (.int x1)], [(.int (gi M t 4)), (.int x1)], mkX M)) rfl ?_
    obtain ⟨h1, h2⟩ := h
    by_cases q2 : x1 = (gi M t 4)
    · have h := h1 q2
      refine aG_icmp (cd := .ne) (b := false) (aTne0 q2) rfl ?_
      refine aG_n 1 (s' := (19, [some (.ref t), some (.int x1)], [(.int (nI 3))], mkX M)) rfl ?_
      exact aG_ret0 rfl rfl ⟨_, _, rfl, h⟩
    · have h := h2 q2
      refine aG_icmp (cd := .ne) (b := true) (aTne1 q2) rfl ?_
      refine aG_n 1 (s' := (21, [some (.ref t), some (.int x1)], [(.ref t)], mkX M)) rfl ?_
      refine aG_get rfl ht rfl rfl ?_
      refine aG_n 1 (s' := (26, [some (.ref t), some (.int x1)], [(.int (-4)), (.int (gi M t 2))], mkX M)) rfl ?_
      obtain ⟨h1, h2⟩ := h
      by_cases q3 : (gi M t 2) = (-4)
      · have h := h1 q3
        refine aG_icmp (cd := .eq) (b := true) (decide_eq_true q3) rfl ?_
        refine aG_n 1 (s' := (46, [some (.ref t), some (.int x1)], [(.int (nI 0))], mkX M)) rfl ?_
        exact aG_ret0 rfl rfl ⟨_, _, rfl, h⟩
      · have h := h2 q3
        refine aG_icmp (cd := .eq) (b := false) (decide_eq_false q3) rfl ?_
        refine aG_n 3 (s' := (32, [some (.ref t), some (.int x1)], [(.ref t), (.int (nI 1)), (.int x1)], mkX M)) rfl ?_
        refine aG_get rfl ht rfl rfl ?_
        refine aG_n 3 (s' := (38, [some (.ref t), some (.int x1)], [(.int ((jshl (nI 1) (gi M t 0)) - (nI 2))), (.int x1)], mkX M)) rfl ?_
        obtain ⟨h1, h2⟩ := h
        by_cases q4 : x1 = ((jshl (nI 1) (gi M t 0)) - (nI 2))
        · have h := h1 q4
          refine aG_icmp (cd := .ne) (b := false) (aTne0 q4) rfl ?_
          refine aG_n 2 (s' := (46, [some (.ref t), some (.int x1)], [(.int (nI 1))], mkX M)) rfl ?_
          exact aG_ret0 rfl rfl ⟨_, _, rfl, h⟩
        · have h := h2 q4
          refine aG_icmp (cd := .ne) (b := true) (aTne1 q4) rfl ?_
          refine aG_n 1 (s' := (46, [some (.ref t), some (.int x1)], [(.int (nI 0))], mkX M)) rfl ?_
          exact aG_ret0 rfl rfl ⟨_, _, rfl, h⟩
def w_X4_firstOrder (t : Nat) (M : wM) (Q : Int32 → wM → Prop) : Prop := ptX t ∧ (((gi M t 2) = (-4) → Q (nI 0) M) ∧ (¬ (gi M t 2) = (-4) → Q (nI 1) M))
set_option maxRecDepth 20000 in
theorem wk_X4_firstOrder {t : Nat} {M : wM} {Q : Int32 → wM → Prop} (h : w_X4_firstOrder t M Q) : aG 23 (aEn 23 [(.ref t)] (mkX M)) (aPi mkX Q) := by
  unfold w_X4_firstOrder at h
  obtain ⟨ht, h⟩ := h
  refine aG_n 1 (s' := (1, [some (.ref t)], [(.ref t)], mkX M)) rfl ?_
  refine aG_get rfl ht rfl rfl ?_
  refine aG_n 1 (s' := (6, [some (.ref t)], [(.int (-4)), (.int (gi M t 2))], mkX M)) rfl ?_
  obtain ⟨h1, h2⟩ := h
  by_cases q1 : (gi M t 2) = (-4)
  · have h := h1 q1
    refine aG_icmp (cd := .eq) (b := true) (decide_eq_true q1) rfl ?_
    refine aG_n 1 (s' := (14, [some (.ref t)], [(.int (nI 0))], mkX M)) rfl ?_
    exact aG_ret0 rfl rfl ⟨_, _, rfl, h⟩
  · have h := h2 q1
    refine aG_icmp (cd := .eq) (b := false) (decide_eq_false q1) rfl ?_
    refine aG_n 2 (s' := (14, [some (.ref t)], [(.int (nI 1))], mkX M)) rfl ?_
    exact aG_ret0 rfl rfl ⟨_, _, rfl, h⟩
def wj_X5_extend_69 (z1 : Int32) (z2 : Int32) (z3 : Int32) (s0 : Int32) (M : wM) (Q : wM → Prop) : Prop := ((nI 65536) ≤ (jmin z3 s0) → Q M) ∧ (¬ (nI 65536) ≤ (jmin z3 s0) → vp_in z1 16 ∧ (vp_in z1 16 ∧ (Q (si (si M 28 z1.toNatClampNeg z2) 29 z1.toNatClampNeg (jmin z3 s0)))))
set_option maxRecDepth 20000 in
theorem wjk_X5_extend_69 {z1 : Int32} {z2 : Int32} {z3 : Int32} {s0 : Int32} {M : wM} {Q : wM → Prop} (h : wj_X5_extend_69 z1 z2 z3 s0 M Q) : aG 25 (69, [some (.ref 27), some (.int z1), some (.int z2), some (.int z3), none, none], [(.int s0)], mkX M) (aPv mkX Q) := by
  unfold wj_X5_extend_69 at h
  refine aG_n 7 (s' := (83, [some (.ref 27), some (.int z1), some (.int z2), some (.int z3), some (.int s0), some (.int (jmin z3 s0))], [(.int (nI 65536)), (.int (jmin z3 s0))], mkX M)) rfl ?_
  obtain ⟨h1, h2⟩ := h
  by_cases q11 : (nI 65536) ≤ (jmin z3 s0)
  · have h := h1 q11
    refine aG_icmp (cd := .ge) (b := true) (decide_eq_true q11) rfl ?_
    refine aG_n 0 (s' := (101, [some (.ref 27), some (.int z1), some (.int z2), some (.int z3), some (.int s0), some (.int (jmin z3 s0))], [], mkX M)) rfl ?_
    exact aG_retV rfl rfl ⟨_, rfl, h⟩
  · have h := h2 q11
    refine aG_icmp (cd := .ge) (b := false) (decide_eq_false q11) rfl ?_
    refine aG_n 4 (s' := (92, [some (.ref 27), some (.int z1), some (.int z2), some (.int z3), some (.int s0), some (.int (jmin z3 s0))], [(.int z2), (.int z1), (.ref 28)], mkX M)) rfl ?_
    obtain ⟨f12, h⟩ := h
    refine aG_iast rfl rfl f12 ?_
    refine aG_n 4 (s' := (100, [some (.ref 27), some (.int z1), some (.int z2), some (.int z3), some (.int s0), some (.int (jmin z3 s0))], [(.int (jmin z3 s0)), (.int z1), (.ref 29)], mkX (si M 28 z1.toNatClampNeg z2))) rfl ?_
    obtain ⟨f13, h⟩ := h
    refine aG_iast rfl rfl f13 ?_
    refine aG_n 0 (s' := (101, [some (.ref 27), some (.int z1), some (.int z2), some (.int z3), some (.int s0), some (.int (jmin z3 s0))], [], mkX (si (si M 28 z1.toNatClampNeg z2) 29 z1.toNatClampNeg (jmin z3 s0)))) rfl ?_
    exact aG_retV rfl rfl ⟨_, rfl, h⟩
def wj_X5_extend_33 (z1 : Int32) (z2 : Int32) (s0 : Int32) (M : wM) (Q : wM → Prop) : Prop := vp_in z1 16 ∧ (vp_in (aA 1 z1.toNatClampNeg) 16 ∧ (((gi M 28 (aA 1 z1.toNatClampNeg).toNatClampNeg) = (z2 - (nI 1)) → vp_in z1 16 ∧ (vp_in (aA 1 z1.toNatClampNeg) 16 ∧ (wj_X5_extend_69 z1 z2 s0 (((nI 2) * (gi M 29 (aA 1 z1.toNatClampNeg).toNatClampNeg)) + (nI 1)) M Q))) ∧ (¬ (gi M 28 (aA 1 z1.toNatClampNeg).toNatClampNeg) = (z2 - (nI 1)) → wj_X5_extend_69 z1 z2 s0 (nI 65536) M Q)))
set_option maxRecDepth 20000 in
theorem wjk_X5_extend_33 {z1 : Int32} {z2 : Int32} {s0 : Int32} {M : wM} {Q : wM → Prop} (h : wj_X5_extend_33 z1 z2 s0 M Q) : aG 25 (33, [some (.ref 27), some (.int z1), some (.int z2), none, none, none], [(.int s0)], mkX M) (aPv mkX Q) := by
  unfold wj_X5_extend_33 at h
  refine aG_n 5 (s' := (42, [some (.ref 27), some (.int z1), some (.int z2), some (.int s0), none, none], [(.int z1), (.ref (1000000 + 1)), (.ref 28)], mkX M)) rfl ?_
  obtain ⟨f6, h⟩ := h
  refine aG_sald rfl rfl f6 ?_
  refine aG_n 0 (s' := (43, [some (.ref 27), some (.int z1), some (.int z2), some (.int s0), none, none], [(.int (aA 1 z1.toNatClampNeg)), (.ref 28)], mkX M)) rfl ?_
  obtain ⟨f7, h⟩ := h
  refine aG_iald rfl rfl rfl f7 ?_
  refine aG_n 3 (s' := (47, [some (.ref 27), some (.int z1), some (.int z2), some (.int s0), none, none], [(.int (z2 - (nI 1))), (.int (gi M 28 (aA 1 z1.toNatClampNeg).toNatClampNeg))], mkX M)) rfl ?_
  obtain ⟨h1, h2⟩ := h
  by_cases q8 : (gi M 28 (aA 1 z1.toNatClampNeg).toNatClampNeg) = (z2 - (nI 1))
  · have h := h1 q8
    refine aG_icmp (cd := .ne) (b := false) (aTne0 q8) rfl ?_
    refine aG_n 5 (s' := (59, [some (.ref 27), some (.int z1), some (.int z2), some (.int s0), none, none], [(.int z1), (.ref (1000000 + 1)), (.ref 29), (.int (nI 2))], mkX M)) rfl ?_
    obtain ⟨f9, h⟩ := h
    refine aG_sald rfl rfl f9 ?_
    refine aG_n 0 (s' := (60, [some (.ref 27), some (.int z1), some (.int z2), some (.int s0), none, none], [(.int (aA 1 z1.toNatClampNeg)), (.ref 29), (.int (nI 2))], mkX M)) rfl ?_
    obtain ⟨f10, h⟩ := h
    refine aG_iald rfl rfl rfl f10 ?_
    refine aG_n 4 (s' := (69, [some (.ref 27), some (.int z1), some (.int z2), some (.int s0), none, none], [(.int (((nI 2) * (gi M 29 (aA 1 z1.toNatClampNeg).toNatClampNeg)) + (nI 1)))], mkX M)) rfl ?_
    refine aG_le (a := [some (.ref 27), some (.int z1), some (.int z2), some (.int s0), none, none]) ⟨rfl, ⟨rfl, ⟨rfl, ⟨rfl, trivial⟩⟩⟩⟩ ?_
    exact wjk_X5_extend_69 h
  · have h := h2 q8
    refine aG_icmp (cd := .ne) (b := true) (aTne1 q8) rfl ?_
    refine aG_n 1 (s' := (69, [some (.ref 27), some (.int z1), some (.int z2), some (.int s0), none, none], [(.int (nI 65536))], mkX M)) rfl ?_
    refine aG_le (a := [some (.ref 27), some (.int z1), some (.int z2), some (.int s0), none, none]) ⟨rfl, ⟨rfl, ⟨rfl, ⟨rfl, trivial⟩⟩⟩⟩ ?_
    exact wjk_X5_extend_69 h
def w_X5_extend (x1 : Int32) (x2 : Int32) (M : wM) (Q : wM → Prop) : Prop := vp_in x1 16 ∧ (vp_in (aA 0 x1.toNatClampNeg) 16 ∧ (((gi M 28 (aA 0 x1.toNatClampNeg).toNatClampNeg) = (x2 - (nI 1)) → vp_in x1 16 ∧ (vp_in (aA 0 x1.toNatClampNeg) 16 ∧ (wj_X5_extend_33 x1 x2 ((nI 2) * (gi M 29 (aA 0 x1.toNatClampNeg).toNatClampNeg)) M Q))) ∧ (¬ (gi M 28 (aA 0 x1.toNatClampNeg).toNatClampNeg) = (x2 - (nI 1)) → wj_X5_extend_33 x1 x2 (nI 65536) M Q)))
set_option maxRecDepth 20000 in
theorem wk_X5_extend {x1 : Int32} {x2 : Int32} {M : wM} {Q : wM → Prop} (h : w_X5_extend x1 x2 M Q) : aG 25 (aEn 25 [(.ref 27), (.int x1), (.int x2)] (mkX M)) (aPv mkX Q) := by
  unfold w_X5_extend at h
  refine aG_n 4 (s' := (8, [some (.ref 27), some (.int x1), some (.int x2), none, none, none], [(.int x1), (.ref (1000000 + 0)), (.ref 28)], mkX M)) rfl ?_
  obtain ⟨f1, h⟩ := h
  refine aG_sald rfl rfl f1 ?_
  refine aG_n 0 (s' := (9, [some (.ref 27), some (.int x1), some (.int x2), none, none, none], [(.int (aA 0 x1.toNatClampNeg)), (.ref 28)], mkX M)) rfl ?_
  obtain ⟨f2, h⟩ := h
  refine aG_iald rfl rfl rfl f2 ?_
  refine aG_n 3 (s' := (13, [some (.ref 27), some (.int x1), some (.int x2), none, none, none], [(.int (x2 - (nI 1))), (.int (gi M 28 (aA 0 x1.toNatClampNeg).toNatClampNeg))], mkX M)) rfl ?_
  obtain ⟨h1, h2⟩ := h
  by_cases q3 : (gi M 28 (aA 0 x1.toNatClampNeg).toNatClampNeg) = (x2 - (nI 1))
  · have h := h1 q3
    refine aG_icmp (cd := .ne) (b := false) (aTne0 q3) rfl ?_
    refine aG_n 5 (s' := (25, [some (.ref 27), some (.int x1), some (.int x2), none, none, none], [(.int x1), (.ref (1000000 + 0)), (.ref 29), (.int (nI 2))], mkX M)) rfl ?_
    obtain ⟨f4, h⟩ := h
    refine aG_sald rfl rfl f4 ?_
    refine aG_n 0 (s' := (26, [some (.ref 27), some (.int x1), some (.int x2), none, none, none], [(.int (aA 0 x1.toNatClampNeg)), (.ref 29), (.int (nI 2))], mkX M)) rfl ?_
    obtain ⟨f5, h⟩ := h
    refine aG_iald rfl rfl rfl f5 ?_
    refine aG_n 2 (s' := (33, [some (.ref 27), some (.int x1), some (.int x2), none, none, none], [(.int ((nI 2) * (gi M 29 (aA 0 x1.toNatClampNeg).toNatClampNeg)))], mkX M)) rfl ?_
    refine aG_le (a := [some (.ref 27), some (.int x1), some (.int x2), none, none, none]) ⟨rfl, ⟨rfl, ⟨rfl, trivial⟩⟩⟩ ?_
    exact wjk_X5_extend_33 h
  · have h := h2 q3
    refine aG_icmp (cd := .ne) (b := true) (aTne1 q3) rfl ?_
    refine aG_n 1 (s' := (33, [some (.ref 27), some (.int x1), some (.int x2), none, none, none], [(.int (nI 65536))], mkX M)) rfl ?_
    refine aG_le (a := [some (.ref 27), some (.int x1), some (.int x2), none, none, none]) ⟨rfl, ⟨rfl, ⟨rfl, trivial⟩⟩⟩ ?_
    exact wjk_X5_extend_33 h
def w_X7_greatestCode (x0 : Nat) (M : wM) (Q : Int32 → wM → Prop) : Prop := ptX x0 ∧ (Q ((jshl (nI 1) (gi M x0 0)) - (nI 2)) M)
set_option maxRecDepth 20000 in
theorem wk_X7_greatestCode {x0 : Nat} {M : wM} {Q : Int32 → wM → Prop} (h : w_X7_greatestCode x0 M Q) : aG 27 (aEn 27 [(.ref x0)] (mkX M)) (aPi mkX Q) := by
  unfold w_X7_greatestCode at h
  obtain ⟨hx0, h⟩ := h
  refine aG_n 2 (s' := (2, [some (.ref x0)], [(.ref x0), (.int (nI 1))], mkX M)) rfl ?_
  refine aG_get rfl hx0 rfl rfl ?_
  refine aG_n 3 (s' := (8, [some (.ref x0)], [(.int ((jshl (nI 1) (gi M x0 0)) - (nI 2)))], mkX M)) rfl ?_
  exact aG_ret0 rfl rfl ⟨_, _, rfl, h⟩
def wb_X7_skip_0 (z1 : Int32) (z2 : Int32) (K0 : wM → Prop) (M : wM) (Q : wM → Prop) : Prop := ((gi M 1 1) ≤ (gi M 3 7) → Q M) ∧ (¬ (gi M 1 1) ≤ (gi M 3 7) → vp_in (gi M 3 7) 240 ∧ (((gi M 2 (gi M 3 7).toNatClampNeg) < z1 → Q M) ∧ (¬ (gi M 2 (gi M 3 7).toNatClampNeg) < z1 → vp_in (gi M 3 7) 240 ∧ ((z2 < (gi M 2 (gi M 3 7).toNatClampNeg) → Q M) ∧ (¬ z2 < (gi M 2 (gi M 3 7).toNatClampNeg) → K0 (si M 3 7 ((gi M 3 7) + (nI 1))))))))
set_option maxRecDepth 20000 in
theorem wbk_X7_skip_0 {z1 : Int32} {z2 : Int32} {K0 : wM → Prop} {M : wM} {Q : wM → Prop} (hK0 : ∀ (M : wM), K0 M → aG 28 (0, [some (.ref 3), some (.int z1), some (.int z2)], [], mkX M) (aPv mkX Q)) (h : wb_X7_skip_0 z1 z2 K0 M Q) : aG 28 (0, [some (.ref 3), some (.int z1), some (.int z2)], [], mkX M) (aPv mkX Q) := by
  unfold wb_X7_skip_0 at h
  refine aG_n 5 (s' := (11, [some (.ref 3), some (.int z1), some (.int z2)], [(.int (gi M 1 1)), (.int (gi M 3 7))], mkX M)) rfl ?_
  obtain ⟨h1, h2⟩ := h
  by_cases q6 : (gi M 1 1) ≤ (gi M 3 7)
  · have h := h1 q6
    refine aG_icmp (cd := .ge) (b := true) (decide_eq_true q6) rfl ?_
    refine aG_n 0 (s' := (59, [some (.ref 3), some (.int z1), some (.int z2)], [], mkX M)) rfl ?_
    exact aG_retV rfl rfl ⟨_, rfl, h⟩
  · have h := h2 q6
    refine aG_icmp (cd := .ge) (b := false) (decide_eq_false q6) rfl ?_
    refine aG_n 5 (s' := (25, [some (.ref 3), some (.int z1), some (.int z2)], [(.int (gi M 3 7)), (.ref 2)], mkX M)) rfl ?_
    obtain ⟨f7, h⟩ := h
    refine aG_bald rfl rfl f7 ?_
    refine aG_n 1 (s' := (27, [some (.ref 3), some (.int z1), some (.int z2)], [(.int z1), (.int (gi M 2 (gi M 3 7).toNatClampNeg))], mkX M)) rfl ?_
    obtain ⟨h1, h2⟩ := h
    by_cases q8 : (gi M 2 (gi M 3 7).toNatClampNeg) < z1
    · have h := h1 q8
      refine aG_icmp (cd := .lt) (b := true) (decide_eq_true q8) rfl ?_
      refine aG_n 0 (s' := (59, [some (.ref 3), some (.int z1), some (.int z2)], [], mkX M)) rfl ?_
      exact aG_retV rfl rfl ⟨_, rfl, h⟩
    · have h := h2 q8
      refine aG_icmp (cd := .lt) (b := false) (decide_eq_false q8) rfl ?_
      refine aG_n 5 (s' := (41, [some (.ref 3), some (.int z1), some (.int z2)], [(.int (gi M 3 7)), (.ref 2)], mkX M)) rfl ?_
      obtain ⟨f9, h⟩ := h
      refine aG_bald rfl rfl f9 ?_
      refine aG_n 1 (s' := (43, [some (.ref 3), some (.int z1), some (.int z2)], [(.int z2), (.int (gi M 2 (gi M 3 7).toNatClampNeg))], mkX M)) rfl ?_
      obtain ⟨h1, h2⟩ := h
      by_cases q10 : z2 < (gi M 2 (gi M 3 7).toNatClampNeg)
      · have h := h1 q10
        refine aG_icmp (cd := .gt) (b := true) (decide_eq_true q10) rfl ?_
        refine aG_n 0 (s' := (59, [some (.ref 3), some (.int z1), some (.int z2)], [], mkX M)) rfl ?_
        exact aG_retV rfl rfl ⟨_, rfl, h⟩
      · have h := h2 q10
        refine aG_icmp (cd := .gt) (b := false) (decide_eq_false q10) rfl ?_
        refine aG_n 7 (s' := (0, [some (.ref 3), some (.int z1), some (.int z2)], [], mkX (si M 3 7 ((gi M 3 7) + (nI 1))))) rfl ?_
        refine aG_le (a := [some (.ref 3), some (.int z1), some (.int z2)]) ⟨rfl, ⟨rfl, ⟨rfl, trivial⟩⟩⟩ ?_
        exact hK0 _ h
def wL_X7_skip_0 (z1 : Int32) (z2 : Int32) (Q : wM → Prop) : Nat → wM → Prop
  | 0, _ => False
  | n + 1, M => wb_X7_skip_0 z1 z2 (wL_X7_skip_0 z1 z2 Q n) M Q
set_option maxRecDepth 20000 in
theorem wLk_X7_skip_0 {z1 : Int32} {z2 : Int32} {Q : wM → Prop} : ∀ (n : Nat) (M : wM), wL_X7_skip_0 z1 z2 Q n M → aG 28 (0, [some (.ref 3), some (.int z1), some (.int z2)], [], mkX M) (aPv mkX Q)
  | 0, _, h => h.elim
  | n + 1, M, h => wbk_X7_skip_0 (fun M h => wLk_X7_skip_0 n M h) h
def w_X7_skip (x1 : Int32) (x2 : Int32) (M : wM) (Q : wM → Prop) : Prop := ((gi M 1 1) ≤ (gi M 3 7) → Q M) ∧ (¬ (gi M 1 1) ≤ (gi M 3 7) → vp_in (gi M 3 7) 240 ∧ (((gi M 2 (gi M 3 7).toNatClampNeg) < x1 → Q M) ∧ (¬ (gi M 2 (gi M 3 7).toNatClampNeg) < x1 → vp_in (gi M 3 7) 240 ∧ ((x2 < (gi M 2 (gi M 3 7).toNatClampNeg) → Q M) ∧ (¬ x2 < (gi M 2 (gi M 3 7).toNatClampNeg) → ∃ n, wL_X7_skip_0 x1 x2 Q n (si M 3 7 ((gi M 3 7) + (nI 1))))))))
set_option maxRecDepth 20000 in
theorem wk_X7_skip {x1 : Int32} {x2 : Int32} {M : wM} {Q : wM → Prop} (h : w_X7_skip x1 x2 M Q) : aG 28 (aEn 28 [(.ref 3), (.int x1), (.int x2)] (mkX M)) (aPv mkX Q) := by
  unfold w_X7_skip at h
  refine aG_n 5 (s' := (11, [some (.ref 3), some (.int x1), some (.int x2)], [(.int (gi M 1 1)), (.int (gi M 3 7))], mkX M)) rfl ?_
  obtain ⟨h1, h2⟩ := h
  by_cases q1 : (gi M 1 1) ≤ (gi M 3 7)
  · have h := h1 q1
    refine aG_icmp (cd := .ge) (b := true) (decide_eq_true q1) rfl ?_
    refine aG_n 0 (s' := (59, [some (.ref 3), some (.int x1), some (.int x2)], [], mkX M)) rfl ?_
    exact aG_retV rfl rfl ⟨_, rfl, h⟩
  · have h := h2 q1
    refine aG_icmp (cd := .ge) (b := false) (decide_eq_false q1) rfl ?_
    refine aG_n 5 (s' := (25, [some (.ref 3), some (.int x1), some (.int x2)], [(.int (gi M 3 7)), (.ref 2)], mkX M)) rfl ?_
    obtain ⟨f2, h⟩ := h
    refine aG_bald rfl rfl f2 ?_
    refine aG_n 1 (s' := (27, [some (.ref 3), some (.int x1), some (.int x2)], [(.int x1), (.int (gi M 2 (gi M 3 7).toNatClampNeg))], mkX M)) rfl ?_
    obtain ⟨h1, h2⟩ := h
    by_cases q3 : (gi M 2 (gi M 3 7).toNatClampNeg) < x1
    · have h := h1 q3
      refine aG_icmp (cd := .lt) (b := true) (decide_eq_true q3) rfl ?_
      refine aG_n 0 (s' := (59, [some (.ref 3), some (.int x1), some (.int x2)], [], mkX M)) rfl ?_
      exact aG_retV rfl rfl ⟨_, rfl, h⟩
    · have h := h2 q3
      refine aG_icmp (cd := .lt) (b := false) (decide_eq_false q3) rfl ?_
      refine aG_n 5 (s' := (41, [some (.ref 3), some (.int x1), some (.int x2)], [(.int (gi M 3 7)), (.ref 2)], mkX M)) rfl ?_
      obtain ⟨f4, h⟩ := h
      refine aG_bald rfl rfl f4 ?_
      refine aG_n 1 (s' := (43, [some (.ref 3), some (.int x1), some (.int x2)], [(.int x2), (.int (gi M 2 (gi M 3 7).toNatClampNeg))], mkX M)) rfl ?_
      obtain ⟨h1, h2⟩ := h
      by_cases q5 : x2 < (gi M 2 (gi M 3 7).toNatClampNeg)
      · have h := h1 q5
        refine aG_icmp (cd := .gt) (b := true) (decide_eq_true q5) rfl ?_
        refine aG_n 0 (s' := (59, [some (.ref 3), some (.int x1), some (.int x2)], [], mkX M)) rfl ?_
        exact aG_retV rfl rfl ⟨_, rfl, h⟩
      · have h := h2 q5
        refine aG_icmp (cd := .gt) (b := false) (decide_eq_false q5) rfl ?_
        refine aG_n 7 (s' := (0, [some (.ref 3), some (.int x1), some (.int x2)], [], mkX (si M 3 7 ((gi M 3 7) + (nI 1))))) rfl ?_
        refine aG_le (a := [some (.ref 3), some (.int x1), some (.int x2)]) ⟨rfl, ⟨rfl, ⟨rfl, trivial⟩⟩⟩ ?_
        obtain ⟨n, h⟩ := h
        exact wLk_X7_skip_0 n _ h
def w_X7_refuse (x1 : Int32) (M : wM) (Q : Int32 → wM → Prop) : Prop := Q (nI 0) (si (si M 3 3 x1) 3 4 (gi M 3 6))
set_option maxRecDepth 20000 in
theorem wk_X7_refuse {x1 : Int32} {M : wM} {Q : Int32 → wM → Prop} (h : w_X7_refuse x1 M Q) : aG 29 (aEn 29 [(.ref 3), (.int x1)] (mkX M)) (aPi mkX Q) := by
  unfold w_X7_refuse at h
  refine aG_n 8 (s' := (14, [some (.ref 3), some (.int x1)], [(.int (nI 0))], mkX (si (si M 3 3 x1) 3 4 (gi M 3 6)))) rfl ?_
  exact aG_retZ rfl rfl (Or.inl rfl) ⟨_, _, rfl, h⟩
def w_X8_faultOf (k : Nat) (x1 : Int32) (x2 : Int32) (x3 : Int32) (M : wM) (Q : Int32 → wM → Prop) : Prop := k < 4 ∧ (((gi M (71 + 2 * k) 0) = (-4) → Q (nI 1) M) ∧ (¬ (gi M (71 + 2 * k) 0) = (-4) → ((gi M (71 + 2 * k) 0) = x1 → (x2 < (nI 0) → Q (nI 2) M) ∧ (¬ x2 < (nI 0) → (x2 ≤ ((gi M (71 + 2 * k) 1) - x3) → Q (nI 0) M) ∧ (¬ x2 ≤ ((gi M (71 + 2 * k) 1) - x3) → Q (nI 2) M))) ∧ (¬ (gi M (71 + 2 * k) 0) = x1 → Q (nI 3) M)))
set_option maxRecDepth 20000 in
theorem wk_X8_faultOf {k : Nat} {x1 : Int32} {x2 : Int32} {x3 : Int32} {M : wM} {Q : Int32 → wM → Prop} (h : w_X8_faultOf k x1 x2 x3 M Q) : aG 31 (aEn 31 [(.ref (71 + 2 * k)), (.int x1), (.int x2), (.int x3)] (mkX M)) (aPi mkX Q) := by
  unfold w_X8_faultOf at h
  obtain ⟨hk, h⟩ := h
  refine aG_n 1 (s' := (1, [some (.ref (71 + 2 * k)), some (.int x1), some (.int x2), some (.int x3)], [(.ref (71 + 2 * k))], mkX M)) rfl ?_
  refine aG_get rfl (shX_she hk) rfl rfl ?_
  refine aG_n 1 (s' := (6, [some (.ref (71 + 2 * k)), some (.int x1), some (.int x2), some (.int x3)], [(.int (-4)), (.int (gi M (71 + 2 * k) 0))], mkX M)) rfl ?_
  obtain ⟨h1, h2⟩ := h
  by_cases q1 : (gi M (71 + 2 * k) 0) = (-4)
  · have h := h1 q1
    refine aG_icmp (cd := .ne) (b := false) (aTne0 q1) rfl ?_
    refine aG_n 1 (s' := (10, [some (.ref (71 + 2 * k)), some (.int x1), some (.int x2), some (.int x3)], [(.int (nI 1))], mkX M)) rfl ?_
    exact aG_ret0 rfl rfl ⟨_, _, rfl, h⟩
  · have h := h2 q1
    refine aG_icmp (cd := .ne) (b := true) (aTne1 q1) rfl ?_
    refine aG_n 1 (s' := (12, [some (.ref (71 + 2 * k)), some (.int x1), some (.int x2), some (.int x3)], [(.ref (71 + 2 * k))], mkX M)) rfl ?_
    refine aG_get rfl (shX_she hk) rfl rfl ?_
    refine aG_n 1 (s' := (16, [some (.ref (71 + 2 * k)), some (.int x1), some (.int x2), some (.int x3)], [(.int x1), (.int (gi M (71 + 2 * k) 0))], mkX M)) rfl ?_
    obtain ⟨h1, h2⟩ := h
    by_cases q2 : (gi M (71 + 2 * k) 0) = x1
    · have h := h1 q2
      refine aG_icmp (cd := .eq) (b := true) (decide_eq_true q2) rfl ?_
      refine aG_n 1 (s' := (22, [some (.ref (71 + 2 * k)), some (.int x1), some (.int x2), some (.int x3)], [(.int x2)], mkX M)) rfl ?_
      obtain ⟨h1, h2⟩ := h
      by_cases q3 : x2 < (nI 0)
      · have h := h1 q3
        refine aG_if (cd := .lt) (b := true) (decide_eq_true q3) rfl ?_
        refine aG_n 2 (s' := (40, [some (.ref (71 + 2 * k)), some (.int x1), some (.int x2), some (.int x3)], [(.int (nI 2))], mkX M)) rfl ?_
        exact aG_ret0 rfl rfl ⟨_, _, rfl, h⟩
      · have h := h2 q3
        refine aG_if (cd := .lt) (b := false) (decide_eq_false q3) rfl ?_
        refine aG_n 2 (s' := (27, [some (.ref (71 + 2 * k)), some (.int x1), some (.int x2), some (.int x3)], [(.ref (71 + 2 * k)), (.int x2)], mkX M)) rfl ?_
        refine aG_get rfl (shX_she hk) rfl rfl ?_
        refine aG_n 2 (s' := (32, [some (.ref (71 + 2 * k)), some (.int x1), some (.int x2), some (.int x3)], [(.int ((gi M (71 + 2 * k) 1) - x3)), (.int x2)], mkX M)) rfl ?_
        obtain ⟨h1, h2⟩ := h
        by_cases q4 : x2 ≤ ((gi M (71 + 2 * k) 1) - x3)
        · have h := h1 q4
          refine aG_icmp (cd := .le) (b := true) (decide_eq_true q4) rfl ?_
          refine aG_n 1 (s' := (40, [some (.ref (71 + 2 * k)), some (.int x1), some (.int x2), some (.int x3)], [(.int (nI 0))], mkX M)) rfl ?_
          exact aG_ret0 rfl rfl ⟨_, _, rfl, h⟩
        · have h := h2 q4
          refine aG_icmp (cd := .le) (b := false) (decide_eq_false q4) rfl ?_
          refine aG_n 2 (s' := (40, [some (.ref (71 + 2 * k)), some (.int x1), some (.int x2), some (.int x3)], [(.int (nI 2))], mkX M)) rfl ?_
          exact aG_ret0 rfl rfl ⟨_, _, rfl, h⟩
    · have h := h2 q2
      refine aG_icmp (cd := .eq) (b := false) (decide_eq_false q2) rfl ?_
      refine aG_n 1 (s' := (20, [some (.ref (71 + 2 * k)), some (.int x1), some (.int x2), some (.int x3)], [(.int (nI 3))], mkX M)) rfl ?_
      exact aG_ret0 rfl rfl ⟨_, _, rfl, h⟩
def wb_X9_append_17 (z1 : Int64) (K17 : Int32 → wM → Prop) (y3 : Int32) (M : wM) (Q : Int32 → wM → Prop) : Prop := ((nI 8) ≤ y3 → Q (nI 1) (si M 1 1 ((gi M 1 1) + (nI 8)))) ∧ (¬ (nI 8) ≤ y3 → vp_in ((gi M 1 1) + y3) 240 ∧ (K17 (y3 + (nI 1)) (si M 2 ((gi M 1 1) + y3).toNatClampNeg (jlushr z1 ((nI 56) - ((nI 8) * y3))).toInt32.toInt8.toInt32.toInt8.toInt32)))
set_option maxRecDepth 20000 in
theorem wbk_X9_append_17 {z1 : Int64} {K17 : Int32 → wM → Prop} {y3 : Int32} {M : wM} {Q : Int32 → wM → Prop} (hK17 : ∀ (v3 : Int32) (M : wM), K17 v3 M → aG 33 (17, [some (.ref 1), some (.long z1), none, some (.int v3)], [], mkX M) (aPi mkX Q)) (h : wb_X9_append_17 z1 K17 y3 M Q) : aG 33 (17, [some (.ref 1), some (.long z1), none, some (.int y3)], [], mkX M) (aPi mkX Q) := by
  unfold wb_X9_append_17 at h
  refine aG_n 2 (s' := (20, [some (.ref 1), some (.long z1), none, some (.int y3)], [(.int (nI 8)), (.int y3)], mkX M)) rfl ?_
  obtain ⟨h1, h2⟩ := h
  by_cases q2 : (nI 8) ≤ y3
  · have h := h1 q2
    refine aG_icmp (cd := .ge) (b := true) (decide_eq_true q2) rfl ?_
    refine aG_n 7 (s' := (63, [some (.ref 1), some (.long z1), none, some (.int y3)], [(.int (nI 1))], mkX (si M 1 1 ((gi M 1 1) + (nI 8))))) rfl ?_
    exact aG_retZ rfl rfl (Or.inr rfl) ⟨_, _, rfl, h⟩
  · have h := h2 q2
    refine aG_icmp (cd := .ge) (b := false) (decide_eq_false q2) rfl ?_
    refine aG_n 15 (s' := (44, [some (.ref 1), some (.long z1), none, some (.int y3)], [(.int (jlushr z1 ((nI 56) - ((nI 8) * y3))).toInt32.toInt8.toInt32), (.int ((gi M 1 1) + y3)), (.ref 2)], mkX M)) rfl ?_
    obtain ⟨f3, h⟩ := h
    refine aG_bast rfl rfl f3 ?_
    refine aG_n 2 (s' := (17, [some (.ref 1), some (.long z1), none, some (.int (y3 + (nI 1)))], [], mkX (si M 2 ((gi M 1 1) + y3).toNatClampNeg (jlushr z1 ((nI 56) - ((nI 8) * y3))).toInt32.toInt8.toInt32.toInt8.toInt32))) rfl ?_
    refine aG_le (a := [some (.ref 1), some (.long z1), none, some (.int (y3 + (nI 1)))]) ⟨rfl, ⟨rfl, ⟨rfl, trivial⟩⟩⟩ ?_
    exact hK17 _ _ h
def wL_X9_append_17 (z1 : Int64) (Q : Int32 → wM → Prop) : Nat → Int32 → wM → Prop
  | 0, _, _ => False
  | n + 1, y3, M => wb_X9_append_17 z1 (wL_X9_append_17 z1 Q n) y3 M Q
set_option maxRecDepth 20000 in
theorem wLk_X9_append_17 {z1 : Int64} {Q : Int32 → wM → Prop} : ∀ (n : Nat) (y3 : Int32) (M : wM), wL_X9_append_17 z1 Q n y3 M → aG 33 (17, [some (.ref 1), some (.long z1), none, some (.int y3)], [], mkX M) (aPi mkX Q)
  | 0, _, _, h => h.elim
  | n + 1, y3, M, h => wbk_X9_append_17 (fun y3 M h => wLk_X9_append_17 n y3 M h) h
def w_X9_append (x1 : Int64) (M : wM) (Q : Int32 → wM → Prop) : Prop := (((gi M 1 1) + (nI 8)) ≤ (nI 240) → ∃ n, wL_X9_append_17 x1 Q n (nI 0) M) ∧ (¬ ((gi M 1 1) + (nI 8)) ≤ (nI 240) → Q (nI 0) M)
set_option maxRecDepth 20000 in
theorem wk_X9_append {x1 : Int64} {M : wM} {Q : Int32 → wM → Prop} (h : w_X9_append x1 M Q) : aG 33 (aEn 33 [(.ref 1), (.long x1)] (mkX M)) (aPi mkX Q) := by
  unfold w_X9_append at h
  refine aG_n 5 (s' := (10, [some (.ref 1), some (.long x1), none, none], [(.int (nI 240)), (.int ((gi M 1 1) + (nI 8)))], mkX M)) rfl ?_
  obtain ⟨h1, h2⟩ := h
  by_cases q1 : ((gi M 1 1) + (nI 8)) ≤ (nI 240)
  · have h := h1 q1
    refine aG_icmp (cd := .le) (b := true) (decide_eq_true q1) rfl ?_
    refine aG_n 2 (s' := (17, [some (.ref 1), some (.long x1), none, some (.int (nI 0))], [], mkX M)) rfl ?_
    refine aG_le (a := [some (.ref 1), some (.long x1), none, some (.int (nI 0))]) ⟨rfl, ⟨rfl, ⟨rfl, trivial⟩⟩⟩ ?_
    obtain ⟨n, h⟩ := h
    exact wLk_X9_append_17 n _ _ h
  · have h := h2 q1
    refine aG_icmp (cd := .le) (b := false) (decide_eq_false q1) rfl ?_
    refine aG_n 1 (s' := (14, [some (.ref 1), some (.long x1), none, none], [(.int (nI 0))], mkX M)) rfl ?_
    exact aG_retZ rfl rfl (Or.inl rfl) ⟨_, _, rfl, h⟩
def wb_X10_width_2 (K2 : Int32 → wM → Prop) (y1 : Int32) (M : wM) (Q : Int32 → wM → Prop) : Prop := ((nI 8) ≤ y1 → Q y1 M) ∧ (¬ (nI 8) ≤ y1 → (((gi M 12 0) + (nI 2)) ≤ (jshl (nI 1) y1) → Q y1 M) ∧ (¬ ((gi M 12 0) + (nI 2)) ≤ (jshl (nI 1) y1) → K2 (y1 + (nI 1)) M))
set_option maxRecDepth 20000 in
theorem wbk_X10_width_2 {K2 : Int32 → wM → Prop} {y1 : Int32} {M : wM} {Q : Int32 → wM → Prop} (hK2 : ∀ (v1 : Int32) (M : wM), K2 v1 M → aG 35 (2, [some (.ref 54), some (.int v1)], [], mkX M) (aPi mkX Q)) (h : wb_X10_width_2 K2 y1 M Q) : aG 35 (2, [some (.ref 54), some (.int y1)], [], mkX M) (aPi mkX Q) := by
  unfold wb_X10_width_2 at h
  refine aG_n 2 (s' := (5, [some (.ref 54), some (.int y1)], [(.int (nI 8)), (.int y1)], mkX M)) rfl ?_
  obtain ⟨h1, h2⟩ := h
  by_cases q1 : (nI 8) ≤ y1
  · have h := h1 q1
    refine aG_icmp (cd := .ge) (b := true) (decide_eq_true q1) rfl ?_
    refine aG_n 1 (s' := (30, [some (.ref 54), some (.int y1)], [(.int y1)], mkX M)) rfl ?_
    exact aG_ret0 rfl rfl ⟨_, _, rfl, h⟩
  · have h := h2 q1
    refine aG_icmp (cd := .ge) (b := false) (decide_eq_false q1) rfl ?_
    refine aG_n 8 (s' := (20, [some (.ref 54), some (.int y1)], [(.int ((gi M 12 0) + (nI 2))), (.int (jshl (nI 1) y1))], mkX M)) rfl ?_
    obtain ⟨h1, h2⟩ := h
    by_cases q2 : ((gi M 12 0) + (nI 2)) ≤ (jshl (nI 1) y1)
    · have h := h1 q2
      refine aG_icmp (cd := .ge) (b := true) (decide_eq_true q2) rfl ?_
      refine aG_n 1 (s' := (30, [some (.ref 54), some (.int y1)], [(.int y1)], mkX M)) rfl ?_
      exact aG_ret0 rfl rfl ⟨_, _, rfl, h⟩
    · have h := h2 q2
      refine aG_icmp (cd := .ge) (b := false) (decide_eq_false q2) rfl ?_
      refine aG_n 2 (s' := (2, [some (.ref 54), some (.int (y1 + (nI 1)))], [], mkX M)) rfl ?_
      refine aG_le (a := [some (.ref 54), some (.int (y1 + (nI 1)))]) ⟨rfl, ⟨rfl, trivial⟩⟩ ?_
      exact hK2 _ _ h
def wL_X10_width_2 (Q : Int32 → wM → Prop) : Nat → Int32 → wM → Prop
  | 0, _, _ => False
  | n + 1, y1, M => wb_X10_width_2 (wL_X10_width_2 Q n) y1 M Q
set_option maxRecDepth 20000 in
theorem wLk_X10_width_2 {Q : Int32 → wM → Prop} : ∀ (n : Nat) (y1 : Int32) (M : wM), wL_X10_width_2 Q n y1 M → aG 35 (2, [some (.ref 54), some (.int y1)], [], mkX M) (aPi mkX Q)
  | 0, _, _, h => h.elim
  | n + 1, y1, M, h => wbk_X10_width_2 (fun y1 M h => wLk_X10_width_2 n y1 M h) h
def w_X10_width (M : wM) (Q : Int32 → wM → Prop) : Prop := ∃ n, wL_X10_width_2 Q n (nI 0) M
set_option maxRecDepth 20000 in
theorem wk_X10_width {M : wM} {Q : Int32 → wM → Prop} (h : w_X10_width M Q) : aG 35 (aEn 35 [(.ref 54)] (mkX M)) (aPi mkX Q) := by
  unfold w_X10_width at h
  refine aG_n 2 (s' := (2, [some (.ref 54), some (.int (nI 0))], [], mkX M)) rfl ?_
  refine aG_le (a := [some (.ref 54), some (.int (nI 0))]) ⟨rfl, ⟨rfl, trivial⟩⟩ ?_
  obtain ⟨n, h⟩ := h
  exact wLk_X10_width_2 n _ _ h
def w_X10_addFault (x1 : Int32) (M : wM) (Q : wM → Prop) : Prop := ((nI 72) ≤ (gi M 54 4) → Q M) ∧ (¬ (nI 72) ≤ (gi M 54 4) → vp_in (gi M 54 4) 72 ∧ (Q (si (si M 57 (gi M 54 4).toNatClampNeg x1) 54 4 ((gi M 54 4) + (nI 1)))))
set_option maxRecDepth 20000 in
theorem wk_X10_addFault {x1 : Int32} {M : wM} {Q : wM → Prop} (h : w_X10_addFault x1 M Q) : aG 36 (aEn 36 [(.ref 54), (.int x1)] (mkX M)) (aPv mkX Q) := by
  unfold w_X10_addFault at h
  refine aG_n 3 (s' := (6, [some (.ref 54), some (.int x1)], [(.int (nI 72)), (.int (gi M 54 4))], mkX M)) rfl ?_
  obtain ⟨h1, h2⟩ := h
  by_cases q1 : (nI 72) ≤ (gi M 54 4)
  · have h := h1 q1
    refine aG_icmp (cd := .ge) (b := true) (decide_eq_true q1) rfl ?_
    refine aG_n 0 (s' := (29, [some (.ref 54), some (.int x1)], [], mkX M)) rfl ?_
    exact aG_retV rfl rfl ⟨_, rfl, h⟩
  · have h := h2 q1
    refine aG_icmp (cd := .ge) (b := false) (decide_eq_false q1) rfl ?_
    refine aG_n 5 (s' := (18, [some (.ref 54), some (.int x1)], [(.int x1), (.int (gi M 54 4)), (.ref 57)], mkX M)) rfl ?_
    obtain ⟨f2, h⟩ := h
    refine aG_iast rfl rfl f2 ?_
    refine aG_n 6 (s' := (29, [some (.ref 54), some (.int x1)], [], mkX (si (si M 57 (gi M 54 4).toNatClampNeg x1) 54 4 ((gi M 54 4) + (nI 1))))) rfl ?_
    exact aG_retV rfl rfl ⟨_, rfl, h⟩
def w_X10_isFault (x1 : Int32) (M : wM) (Q : Int32 → wM → Prop) : Prop := (x1 < (nI 0) → Q (nI 0) M) ∧ (¬ x1 < (nI 0) → ((gi M 54 4) ≤ x1 → Q (nI 0) M) ∧ (¬ (gi M 54 4) ≤ x1 → Q (nI 1) M))
set_option maxRecDepth 20000 in
theorem wk_X10_isFault {x1 : Int32} {M : wM} {Q : Int32 → wM → Prop} (h : w_X10_isFault x1 M Q) : aG 37 (aEn 37 [(.ref 54), (.int x1)] (mkX M)) (aPi mkX Q) := by
  unfold w_X10_isFault at h
  refine aG_n 1 (s' := (1, [some (.ref 54), some (.int x1)], [(.int x1)], mkX M)) rfl ?_
  obtain ⟨h1, h2⟩ := h
  by_cases q1 : x1 < (nI 0)
  · have h := h1 q1
    refine aG_if (cd := .lt) (b := true) (decide_eq_true q1) rfl ?_
    refine aG_n 1 (s' := (17, [some (.ref 54), some (.int x1)], [(.int (nI 0))], mkX M)) rfl ?_
    exact aG_retZ rfl rfl (Or.inl rfl) ⟨_, _, rfl, h⟩
  · have h := h2 q1
    refine aG_if (cd := .lt) (b := false) (decide_eq_false q1) rfl ?_
    refine aG_n 3 (s' := (9, [some (.ref 54), some (.int x1)], [(.int (gi M 54 4)), (.int x1)], mkX M)) rfl ?_
    obtain ⟨h1, h2⟩ := h
    by_cases q2 : (gi M 54 4) ≤ x1
    · have h := h1 q2
      refine aG_icmp (cd := .ge) (b := true) (decide_eq_true q2) rfl ?_
      refine aG_n 1 (s' := (17, [some (.ref 54), some (.int x1)], [(.int (nI 0))], mkX M)) rfl ?_
      exact aG_retZ rfl rfl (Or.inl rfl) ⟨_, _, rfl, h⟩
    · have h := h2 q2
      refine aG_icmp (cd := .ge) (b := false) (decide_eq_false q2) rfl ?_
      refine aG_n 2 (s' := (17, [some (.ref 54), some (.int x1)], [(.int (nI 1))], mkX M)) rfl ?_
      exact aG_retZ rfl rfl (Or.inr rfl) ⟨_, _, rfl, h⟩
def wb_X10_unseenFaults_4 (K4 : Int32 → Int32 → wM → Prop) (y1 : Int32) (y2 : Int32) (M : wM) (Q : Int32 → wM → Prop) : Prop := ((gi M 54 4) ≤ y2 → Q y1 M) ∧ (¬ (gi M 54 4) ≤ y2 → vp_in y2 72 ∧ (((lg_cmp (gl M 58 y2.toNatClampNeg) (gl M 54 7)) = (nI 0) → K4 (y1 + (nI 1)) (y2 + (nI 1)) M) ∧ (¬ (lg_cmp (gl M 58 y2.toNatClampNeg) (gl M 54 7)) = (nI 0) → K4 (y1 + (nI 0)) (y2 + (nI 1)) M)))
set_option maxRecDepth 20000 in
theorem wbk_X10_unseenFaults_4 {K4 : Int32 → Int32 → wM → Prop} {y1 : Int32} {y2 : Int32} {M : wM} {Q : Int32 → wM → Prop} (hK4 : ∀ (v1 : Int32) (v2 : Int32) (M : wM), K4 v1 v2 M → aG 38 (4, [some (.ref 54), some (.int v1), some (.int v2)], [], mkX M) (aPi mkX Q)) (h : wb_X10_unseenFaults_4 K4 y1 y2 M Q) : aG 38 (4, [some (.ref 54), some (.int y1), some (.int y2)], [], mkX M) (aPi mkX Q) := by
  unfold wb_X10_unseenFaults_4 at h
  refine aG_n 3 (s' := (9, [some (.ref 54), some (.int y1), some (.int y2)], [(.int (gi M 54 4)), (.int y2)], mkX M)) rfl ?_
  obtain ⟨h1, h2⟩ := h
  by_cases q1 : (gi M 54 4) ≤ y2
  · have h := h1 q1
    refine aG_icmp (cd := .ge) (b := true) (decide_eq_true q1) rfl ?_
    refine aG_n 1 (s' := (41, [some (.ref 54), some (.int y1), some (.int y2)], [(.int y1)], mkX M)) rfl ?_
    exact aG_ret0 rfl rfl ⟨_, _, rfl, h⟩
  · have h := h2 q1
    refine aG_icmp (cd := .ge) (b := false) (decide_eq_false q1) rfl ?_
    refine aG_n 4 (s' := (18, [some (.ref 54), some (.int y1), some (.int y2)], [(.int y2), (.ref 58), (.int y1)], mkX M)) rfl ?_
    obtain ⟨f2, h⟩ := h
    refine aG_lald rfl rfl f2 ?_
    refine aG_n 3 (s' := (24, [some (.ref 54), some (.int y1), some (.int y2)], [(.int (lg_cmp (gl M 58 y2.toNatClampNeg) (gl M 54 7))), (.int y1)], mkX M)) rfl ?_
    obtain ⟨h1, h2⟩ := h
    by_cases q3 : (lg_cmp (gl M 58 y2.toNatClampNeg) (gl M 54 7)) = (nI 0)
    · have h := h1 q3
      refine aG_if (cd := .ne) (b := false) (aTne0 q3) rfl ?_
      refine aG_n 6 (s' := (4, [some (.ref 54), some (.int (y1 + (nI 1))), some (.int (y2 + (nI 1)))], [], mkX M)) rfl ?_
      refine aG_le (a := [some (.ref 54), some (.int (y1 + (nI 1))), some (.int (y2 + (nI 1)))]) ⟨rfl, ⟨rfl, ⟨rfl, trivial⟩⟩⟩ ?_
      exact hK4 _ _ _ h
    · have h := h2 q3
      refine aG_if (cd := .ne) (b := true) (aTne1 q3) rfl ?_
      refine aG_n 5 (s' := (4, [some (.ref 54), some (.int (y1 + (nI 0))), some (.int (y2 + (nI 1)))], [], mkX M)) rfl ?_
      refine aG_le (a := [some (.ref 54), some (.int (y1 + (nI 0))), some (.int (y2 + (nI 1)))]) ⟨rfl, ⟨rfl, ⟨rfl, trivial⟩⟩⟩ ?_
      exact hK4 _ _ _ h
def wL_X10_unseenFaults_4 (Q : Int32 → wM → Prop) : Nat → Int32 → Int32 → wM → Prop
  | 0, _, _, _ => False
  | n + 1, y1, y2, M => wb_X10_unseenFaults_4 (wL_X10_unseenFaults_4 Q n) y1 y2 M Q
set_option maxRecDepth 20000 in
theorem wLk_X10_unseenFaults_4 {Q : Int32 → wM → Prop} : ∀ (n : Nat) (y1 : Int32) (y2 : Int32) (M : wM), wL_X10_unseenFaults_4 Q n y1 y2 M → aG 38 (4, [some (.ref 54), some (.int y1), some (.int y2)], [], mkX M) (aPi mkX Q)
  | 0, _, _, _, h => h.elim
  | n + 1, y1, y2, M, h => wbk_X10_unseenFaults_4 (fun y1 y2 M h => wLk_X10_unseenFaults_4 n y1 y2 M h) h
def w_X10_unseenFaults (M : wM) (Q : Int32 → wM → Prop) : Prop := ∃ n, wL_X10_unseenFaults_4 Q n (nI 0) (nI 0) M
set_option maxRecDepth 20000 in
theorem wk_X10_unseenFaults {M : wM} {Q : Int32 → wM → Prop} (h : w_X10_unseenFaults M Q) : aG 38 (aEn 38 [(.ref 54)] (mkX M)) (aPi mkX Q) := by
  unfold w_X10_unseenFaults at h
  refine aG_n 4 (s' := (4, [some (.ref 54), some (.int (nI 0)), some (.int (nI 0))], [], mkX M)) rfl ?_
  refine aG_le (a := [some (.ref 54), some (.int (nI 0)), some (.int (nI 0))]) ⟨rfl, ⟨rfl, ⟨rfl, trivial⟩⟩⟩ ?_
  obtain ⟨n, h⟩ := h
  exact wLk_X10_unseenFaults_4 n _ _ _ h
def wb_X10_firstUnseenFault_2 (K2 : Int32 → wM → Prop) (y1 : Int32) (M : wM) (Q : Int32 → wM → Prop) : Prop := ((gi M 54 4) ≤ y1 → Q (-4) M) ∧ (¬ (gi M 54 4) ≤ y1 → vp_in y1 72 ∧ (((lg_cmp (gl M 58 y1.toNatClampNeg) (gl M 54 7)) = (nI 0) → Q y1 M) ∧ (¬ (lg_cmp (gl M 58 y1.toNatClampNeg) (gl M 54 7)) = (nI 0) → K2 (y1 + (nI 1)) M)))
set_option maxRecDepth 20000 in
theorem wbk_X10_firstUnseenFault_2 {K2 : Int32 → wM → Prop} {y1 : Int32} {M : wM} {Q : Int32 → wM → Prop} (hK2 : ∀ (v1 : Int32) (M : wM), K2 v1 M → aG 39 (2, [some (.ref 54), some (.int v1)], [], mkX M) (aPi mkX Q)) (h : wb_X10_firstUnseenFault_2 K2 y1 M Q) : aG 39 (2, [some (.ref 54), some (.int y1)], [], mkX M) (aPi mkX Q) := by
  unfold wb_X10_firstUnseenFault_2 at h
  refine aG_n 3 (s' := (7, [some (.ref 54), some (.int y1)], [(.int (gi M 54 4)), (.int y1)], mkX M)) rfl ?_
  obtain ⟨h1, h2⟩ := h
  by_cases q1 : (gi M 54 4) ≤ y1
  · have h := h1 q1
    refine aG_icmp (cd := .ge) (b := true) (decide_eq_true q1) rfl ?_
    refine aG_n 1 (s' := (34, [some (.ref 54), some (.int y1)], [(.int (-4))], mkX M)) rfl ?_
    exact aG_ret0 rfl rfl ⟨_, _, rfl, h⟩
  · have h := h2 q1
    refine aG_icmp (cd := .ge) (b := false) (decide_eq_false q1) rfl ?_
    refine aG_n 3 (s' := (15, [some (.ref 54), some (.int y1)], [(.int y1), (.ref 58)], mkX M)) rfl ?_
    obtain ⟨f2, h⟩ := h
    refine aG_lald rfl rfl f2 ?_
    refine aG_n 3 (s' := (21, [some (.ref 54), some (.int y1)], [(.int (lg_cmp (gl M 58 y1.toNatClampNeg) (gl M 54 7)))], mkX M)) rfl ?_
    obtain ⟨h1, h2⟩ := h
    by_cases q3 : (lg_cmp (gl M 58 y1.toNatClampNeg) (gl M 54 7)) = (nI 0)
    · have h := h1 q3
      refine aG_if (cd := .ne) (b := false) (aTne0 q3) rfl ?_
      refine aG_n 1 (s' := (25, [some (.ref 54), some (.int y1)], [(.int y1)], mkX M)) rfl ?_
      exact aG_ret0 rfl rfl ⟨_, _, rfl, h⟩
    · have h := h2 q3
      refine aG_if (cd := .ne) (b := true) (aTne1 q3) rfl ?_
      refine aG_n 2 (s' := (2, [some (.ref 54), some (.int (y1 + (nI 1)))], [], mkX M)) rfl ?_
      refine aG_le (a := [some (.ref 54), some (.int (y1 + (nI 1)))]) ⟨rfl, ⟨rfl, trivial⟩⟩ ?_
      exact hK2 _ _ h
def wL_X10_firstUnseenFault_2 (Q : Int32 → wM → Prop) : Nat → Int32 → wM → Prop
  | 0, _, _ => False
  | n + 1, y1, M => wb_X10_firstUnseenFault_2 (wL_X10_firstUnseenFault_2 Q n) y1 M Q
set_option maxRecDepth 20000 in
theorem wLk_X10_firstUnseenFault_2 {Q : Int32 → wM → Prop} : ∀ (n : Nat) (y1 : Int32) (M : wM), wL_X10_firstUnseenFault_2 Q n y1 M → aG 39 (2, [some (.ref 54), some (.int y1)], [], mkX M) (aPi mkX Q)
  | 0, _, _, h => h.elim
  | n + 1, y1, M, h => wbk_X10_firstUnseenFault_2 (fun y1 M h => wLk_X10_firstUnseenFault_2 n y1 M h) h
def w_X10_firstUnseenFault (M : wM) (Q : Int32 → wM → Prop) : Prop := ∃ n, wL_X10_firstUnseenFault_2 Q n (nI 0) M
set_option maxRecDepth 20000 in
theorem wk_X10_firstUnseenFault {M : wM} {Q : Int32 → wM → Prop} (h : w_X10_firstUnseenFault M Q) : aG 39 (aEn 39 [(.ref 54)] (mkX M)) (aPi mkX Q) := by
  unfold w_X10_firstUnseenFault at h
  refine aG_n 2 (s' := (2, [some (.ref 54), some (.int (nI 0))], [], mkX M)) rfl ?_
  refine aG_le (a := [some (.ref 54), some (.int (nI 0))]) ⟨rfl, ⟨rfl, trivial⟩⟩ ?_
  obtain ⟨n, h⟩ := h
  exact wLk_X10_firstUnseenFault_2 n _ _ h
def wb_X10_alikePairs_16 (z2 : Int32) (K4 : Int32 → Int32 → wM → Prop) (K16 : Int32 → Int32 → wM → Prop) (y1 : Int32) (y3 : Int32) (M : wM) (Q : Int32 → wM → Prop) : Prop := ((gi M 54 4) ≤ y3 → K4 y1 (z2 + (nI 1)) M) ∧ (¬ (gi M 54 4) ≤ y3 → vp_in z2 72 ∧ (((lg_cmp (gl M 58 z2.toNatClampNeg) (gl M 54 7)) = (nI 0) → K16 (y1 + (nI 0)) (y3 + (nI 1)) M) ∧ (¬ (lg_cmp (gl M 58 z2.toNatClampNeg) (gl M 54 7)) = (nI 0) → vp_in z2 72 ∧ (vp_in y3 72 ∧ (((lg_cmp (gl M 58 z2.toNatClampNeg) (gl M 58 y3.toNatClampNeg)) = (nI 0) → K16 (y1 + (nI 1)) (y3 + (nI 1)) M) ∧ (¬ (lg_cmp (gl M 58 z2.toNatClampNeg) (gl M 58 y3.toNatClampNeg)) = (nI 0) → K16 (y1 + (nI 0)) (y3 + (nI 1)) M))))))
set_option maxRecDepth 20000 in
theorem wbk_X10_alikePairs_16 {z2 : Int32} {K4 : Int32 → Int32 → wM → Prop} {K16 : Int32 → Int32 → wM → Prop} {y1 : Int32} {y3 : Int32} {M : wM} {Q : Int32 → wM → Prop} (hK4 : ∀ (v1 : Int32) (v2 : Int32) (M : wM), K4 v1 v2 M → aG 40 (4, [some (.ref 54), some (.int v1), some (.int v2), none], [], mkX M) (aPi mkX Q)) (hK16 : ∀ (v1 : Int32) (v3 : Int32) (M : wM), K16 v1 v3 M → aG 40 (16, [some (.ref 54), some (.int v1), some (.int z2), some (.int v3)], [], mkX M) (aPi mkX Q)) (h : wb_X10_alikePairs_16 z2 K4 K16 y1 y3 M Q) : aG 40 (16, [some (.ref 54), some (.int y1), some (.int z2), some (.int y3)], [], mkX M) (aPi mkX Q) := by
  unfold wb_X10_alikePairs_16 at h
  refine aG_n 3 (s' := (21, [some (.ref 54), some (.int y1), some (.int z2), some (.int y3)], [(.int (gi M 54 4)), (.int y3)], mkX M)) rfl ?_
  obtain ⟨h1, h2⟩ := h
  by_cases q2 : (gi M 54 4) ≤ y3
  · have h := h1 q2
    refine aG_icmp (cd := .ge) (b := true) (decide_eq_true q2) rfl ?_
    refine aG_n 2 (s' := (4, [some (.ref 54), some (.int y1), some (.int (z2 + (nI 1))), some (.int y3)], [], mkX M)) rfl ?_
    refine aG_le (a := [some (.ref 54), some (.int y1), some (.int (z2 + (nI 1))), none]) ⟨rfl, ⟨rfl, ⟨rfl, trivial⟩⟩⟩ ?_
    exact hK4 _ _ _ h
  · have h := h2 q2
    refine aG_icmp (cd := .ge) (b := false) (decide_eq_false q2) rfl ?_
    refine aG_n 4 (s' := (30, [some (.ref 54), some (.int y1), some (.int z2), some (.int y3)], [(.int z2), (.ref 58), (.int y1)], mkX M)) rfl ?_
    obtain ⟨f3, h⟩ := h
    refine aG_lald rfl rfl f3 ?_
    refine aG_n 3 (s' := (36, [some (.ref 54), some (.int y1), some (.int z2), some (.int y3)], [(.int (lg_cmp (gl M 58 z2.toNatClampNeg) (gl M 54 7))), (.int y1)], mkX M)) rfl ?_
    obtain ⟨h1, h2⟩ := h
    by_cases q4 : (lg_cmp (gl M 58 z2.toNatClampNeg) (gl M 54 7)) = (nI 0)
    · have h := h1 q4
      refine aG_if (cd := .eq) (b := true) (decide_eq_true q4) rfl ?_
      refine aG_n 5 (s' := (16, [some (.ref 54), some (.int (y1 + (nI 0))), some (.int z2), some (.int (y3 + (nI 1)))], [], mkX M)) rfl ?_
      refine aG_le (a := [some (.ref 54), some (.int (y1 + (nI 0))), some (.int z2), some (.int (y3 + (nI 1)))]) ⟨rfl, ⟨rfl, ⟨rfl, ⟨rfl, trivial⟩⟩⟩⟩ ?_
      exact hK16 _ _ _ h
    · have h := h2 q4
      refine aG_if (cd := .eq) (b := false) (decide_eq_false q4) rfl ?_
      refine aG_n 3 (s' := (44, [some (.ref 54), some (.int y1), some (.int z2), some (.int y3)], [(.int z2), (.ref 58), (.int y1)], mkX M)) rfl ?_
      obtain ⟨f5, h⟩ := h
      refine aG_lald rfl rfl f5 ?_
      refine aG_n 3 (s' := (50, [some (.ref 54), some (.int y1), some (.int z2), some (.int y3)], [(.int y3), (.ref 58), (.long (gl M 58 z2.toNatClampNeg)), (.int y1)], mkX M)) rfl ?_
      obtain ⟨f6, h⟩ := h
      refine aG_lald rfl rfl f6 ?_
      refine aG_n 1 (s' := (52, [some (.ref 54), some (.int y1), some (.int z2), some (.int y3)], [(.int (lg_cmp (gl M 58 z2.toNatClampNeg) (gl M 58 y3.toNatClampNeg))), (.int y1)], mkX M)) rfl ?_
      obtain ⟨h1, h2⟩ := h
      by_cases q7 : (lg_cmp (gl M 58 z2.toNatClampNeg) (gl M 58 y3.toNatClampNeg)) = (nI 0)
      · have h := h1 q7
        refine aG_if (cd := .ne) (b := false) (aTne0 q7) rfl ?_
        refine aG_n 6 (s' := (16, [some (.ref 54), some (.int (y1 + (nI 1))), some (.int z2), some (.int (y3 + (nI 1)))], [], mkX M)) rfl ?_
        refine aG_le (a := [some (.ref 54), some (.int (y1 + (nI 1))), some (.int z2), some (.int (y3 + (nI 1)))]) ⟨rfl, ⟨rfl, ⟨rfl, ⟨rfl, trivial⟩⟩⟩⟩ ?_
        exact hK16 _ _ _ h
      · have h := h2 q7
        refine aG_if (cd := .ne) (b := true) (aTne1 q7) rfl ?_
        refine aG_n 5 (s' := (16, [some (.ref 54), some (.int (y1 + (nI 0))), some (.int z2), some (.int (y3 + (nI 1)))], [], mkX M)) rfl ?_
        refine aG_le (a := [some (.ref 54), some (.int (y1 + (nI 0))), some (.int z2), some (.int (y3 + (nI 1)))]) ⟨rfl, ⟨rfl, ⟨rfl, ⟨rfl, trivial⟩⟩⟩⟩ ?_
        exact hK16 _ _ _ h
def wL_X10_alikePairs_16 (z2 : Int32) (K4 : Int32 → Int32 → wM → Prop) (Q : Int32 → wM → Prop) : Nat → Int32 → Int32 → wM → Prop
  | 0, _, _, _ => False
  | n + 1, y1, y3, M => wb_X10_alikePairs_16 z2 K4 (wL_X10_alikePairs_16 z2 K4 Q n) y1 y3 M Q
set_option maxRecDepth 20000 in
theorem wLk_X10_alikePairs_16 {z2 : Int32} {K4 : Int32 → Int32 → wM → Prop} {Q : Int32 → wM → Prop} (hK4 : ∀ (v1 : Int32) (v2 : Int32) (M : wM), K4 v1 v2 M → aG 40 (4, [some (.ref 54), some (.int v1), some (.int v2), none], [], mkX M) (aPi mkX Q)) : ∀ (n : Nat) (y1 : Int32) (y3 : Int32) (M : wM), wL_X10_alikePairs_16 z2 K4 Q n y1 y3 M → aG 40 (16, [some (.ref 54), some (.int y1), some (.int z2), some (.int y3)], [], mkX M) (aPi mkX Q)
  | 0, _, _, _, h => h.elim
  | n + 1, y1, y3, M, h => wbk_X10_alikePairs_16 hK4 (fun y1 y3 M h => wLk_X10_alikePairs_16 hK4 n y1 y3 M h) h
def wb_X10_alikePairs_4 (K4 : Int32 → Int32 → wM → Prop) (y1 : Int32) (y2 : Int32) (M : wM) (Q : Int32 → wM → Prop) : Prop := ((gi M 54 4) ≤ y2 → Q y1 M) ∧ (¬ (gi M 54 4) ≤ y2 → ∃ n, wL_X10_alikePairs_16 y2 K4 Q n y1 (y2 + (nI 1)) M)
set_option maxRecDepth 20000 in
theorem wbk_X10_alikePairs_4 {K4 : Int32 → Int32 → wM → Prop} {y1 : Int32} {y2 : Int32} {M : wM} {Q : Int32 → wM → Prop} (hK4 : ∀ (v1 : Int32) (v2 : Int32) (M : wM), K4 v1 v2 M → aG 40 (4, [some (.ref 54), some (.int v1), some (.int v2), none], [], mkX M) (aPi mkX Q)) (h : wb_X10_alikePairs_4 K4 y1 y2 M Q) : aG 40 (4, [some (.ref 54), some (.int y1), some (.int y2), none], [], mkX M) (aPi mkX Q) := by
  unfold wb_X10_alikePairs_4 at h
  refine aG_n 3 (s' := (9, [some (.ref 54), some (.int y1), some (.int y2), none], [(.int (gi M 54 4)), (.int y2)], mkX M)) rfl ?_
  obtain ⟨h1, h2⟩ := h
  by_cases q1 : (gi M 54 4) ≤ y2
  · have h := h1 q1
    refine aG_icmp (cd := .ge) (b := true) (decide_eq_true q1) rfl ?_
    refine aG_n 1 (s' := (75, [some (.ref 54), some (.int y1), some (.int y2), none], [(.int y1)], mkX M)) rfl ?_
    exact aG_ret0 rfl rfl ⟨_, _, rfl, h⟩
  · have h := h2 q1
    refine aG_icmp (cd := .ge) (b := false) (decide_eq_false q1) rfl ?_
    refine aG_n 4 (s' := (16, [some (.ref 54), some (.int y1), some (.int y2), some (.int (y2 + (nI 1)))], [], mkX M)) rfl ?_
    refine aG_le (a := [some (.ref 54), some (.int y1), some (.int y2), some (.int (y2 + (nI 1)))]) ⟨rfl, ⟨rfl, ⟨rfl, ⟨rfl, trivial⟩⟩⟩⟩ ?_
    obtain ⟨n, h⟩ := h
    exact wLk_X10_alikePairs_16 hK4 n _ _ _ h
def wL_X10_alikePairs_4 (Q : Int32 → wM → Prop) : Nat → Int32 → Int32 → wM → Prop
  | 0, _, _, _ => False
  | n + 1, y1, y2, M => wb_X10_alikePairs_4 (wL_X10_alikePairs_4 Q n) y1 y2 M Q
set_option maxRecDepth 20000 in
theorem wLk_X10_alikePairs_4 {Q : Int32 → wM → Prop} : ∀ (n : Nat) (y1 : Int32) (y2 : Int32) (M : wM), wL_X10_alikePairs_4 Q n y1 y2 M → aG 40 (4, [some (.ref 54), some (.int y1), some (.int y2), none], [], mkX M) (aPi mkX Q)
  | 0, _, _, _, h => h.elim
  | n + 1, y1, y2, M, h => wbk_X10_alikePairs_4 (fun y1 y2 M h => wLk_X10_alikePairs_4 n y1 y2 M h) h
def w_X10_alikePairs (M : wM) (Q : Int32 → wM → Prop) : Prop := ∃ n, wL_X10_alikePairs_4 Q n (nI 0) (nI 0) M
set_option maxRecDepth 20000 in
theorem wk_X10_alikePairs {M : wM} {Q : Int32 → wM → Prop} (h : w_X10_alikePairs M Q) : aG 40 (aEn 40 [(.ref 54)] (mkX M)) (aPi mkX Q) := by
  unfold w_X10_alikePairs at h
  refine aG_n 4 (s' := (4, [some (.ref 54), some (.int (nI 0)), some (.int (nI 0)), none], [], mkX M)) rfl ?_
  refine aG_le (a := [some (.ref 54), some (.int (nI 0)), some (.int (nI 0)), none]) ⟨rfl, ⟨rfl, ⟨rfl, trivial⟩⟩⟩ ?_
  obtain ⟨n, h⟩ := h
  exact wLk_X10_alikePairs_4 n _ _ _ h
def w_X11_end (x1 : Int32) (M : wM) (Q : Int32 → wM → Prop) : Prop := (x1 < (nI 0) → Q (-1) M) ∧ (¬ x1 < (nI 0) → (x1 ≤ (gi M 1 1) → Q (gi M 1 1) (si M 1 1 x1)) ∧ (¬ x1 ≤ (gi M 1 1) → Q (-1) M))
set_option maxRecDepth 20000 in
theorem wk_X11_end {x1 : Int32} {M : wM} {Q : Int32 → wM → Prop} (h : w_X11_end x1 M Q) : aG 41 (aEn 41 [(.ref 0), (.int x1)] (mkX M)) (aPi mkX Q) := by
  unfold w_X11_end at h
  refine aG_n 1 (s' := (1, [some (.ref 0), some (.int x1), none], [(.int x1)], mkX M)) rfl ?_
  obtain ⟨h1, h2⟩ := h
  by_cases q1 : x1 < (nI 0)
  · have h := h1 q1
    refine aG_if (cd := .lt) (b := true) (decide_eq_true q1) rfl ?_
    refine aG_n 1 (s' := (16, [some (.ref 0), some (.int x1), none], [(.int (-1))], mkX M)) rfl ?_
    exact aG_ret0 rfl rfl ⟨_, _, rfl, h⟩
  · have h := h2 q1
    refine aG_if (cd := .lt) (b := false) (decide_eq_false q1) rfl ?_
    refine aG_n 4 (s' := (12, [some (.ref 0), some (.int x1), none], [(.int (gi M 1 1)), (.int x1)], mkX M)) rfl ?_
    obtain ⟨h1, h2⟩ := h
    by_cases q2 : x1 ≤ (gi M 1 1)
    · have h := h1 q2
      refine aG_icmp (cd := .le) (b := true) (decide_eq_true q2) rfl ?_
      refine aG_n 9 (s' := (34, [some (.ref 0), some (.int x1), some (.int (gi M 1 1))], [(.int (gi M 1 1))], mkX (si M 1 1 x1))) rfl ?_
      exact aG_ret0 rfl rfl ⟨_, _, rfl, h⟩
    · have h := h2 q2
      refine aG_icmp (cd := .le) (b := false) (decide_eq_false q2) rfl ?_
      refine aG_n 1 (s' := (16, [some (.ref 0), some (.int x1), none], [(.int (-1))], mkX M)) rfl ?_
      exact aG_ret0 rfl rfl ⟨_, _, rfl, h⟩
def w_X11_fault (M : wM) (Q : Int32 → wM → Prop) : Prop := Q (gi M 3 3) M
set_option maxRecDepth 20000 in
theorem wk_X11_fault {M : wM} {Q : Int32 → wM → Prop} (h : w_X11_fault M Q) : aG 42 (aEn 42 [(.ref 0)] (mkX M)) (aPi mkX Q) := by
  unfold w_X11_fault at h
  refine aG_n 3 (s' := (7, [some (.ref 0)], [(.int (gi M 3 3))], mkX M)) rfl ?_
  exact aG_ret0 rfl rfl ⟨_, _, rfl, h⟩
def w_X11_now (x1 : Int32) (M : wM) (Q : Int32 → wM → Prop) : Prop := (x1 = nI 0 → Q (gi M 26 5) M) ∧ (¬ x1 = nI 0 → (x1 = nI 1 → Q (gi M 26 6) M) ∧ (¬ x1 = nI 1 → Q (-1) M))
set_option maxRecDepth 20000 in
theorem wk_X11_now {x1 : Int32} {M : wM} {Q : Int32 → wM → Prop} (h : w_X11_now x1 M Q) : aG 43 (aEn 43 [(.ref 0), (.int x1)] (mkX M)) (aPi mkX Q) := by
  unfold w_X11_now at h
  refine aG_n 1 (s' := (1, [some (.ref 0), some (.int x1)], [(.int x1)], mkX M)) rfl ?_
  obtain ⟨h1, h⟩ := h
  by_cases q1 : x1 = nI 0
  · have h := h1 q1
    refine aG_lks rfl (by rw [q1] <;> rfl) ?_
    refine aG_n 3 (s' := (35, [some (.ref 0), some (.int x1)], [(.int (gi M 26 5))], mkX M)) rfl ?_
    exact aG_ret0 rfl rfl ⟨_, _, rfl, h⟩
  have h := h q1
  obtain ⟨h1, h⟩ := h
  by_cases q2 : x1 = nI 1
  · have h := h1 q2
    refine aG_lks rfl (by rw [q2] <;> rfl) ?_
    refine aG_n 3 (s' := (43, [some (.ref 0), some (.int x1)], [(.int (gi M 26 6))], mkX M)) rfl ?_
    exact aG_ret0 rfl rfl ⟨_, _, rfl, h⟩
  have h := h q2
  refine aG_lks rfl (lks_out (fun q hq => ?_)) ?_
  · simp only [List.mem_cons, List.not_mem_nil, or_false] at hq
    rcases hq with rfl | rfl <;> exact ⟨by decide, by decide, by assumption⟩
  refine aG_n 1 (s' := (45, [some (.ref 0), some (.int x1)], [(.int (-1))], mkX M)) rfl ?_
  exact aG_ret0 rfl rfl ⟨_, _, rfl, h⟩
def w_X11_log (x1 : Int32) (M : wM) (Q : Int32 → wM → Prop) : Prop := ((nI 0) ≤ x1 → ((gi M 26 8) ≤ x1 → Q (-4) M) ∧ (¬ (gi M 26 8) ≤ x1 → vp_in x1 99 ∧ (Q (gi M 32 x1.toNatClampNeg) M))) ∧ (¬ (nI 0) ≤ x1 → Q (-1) M)
set_option maxRecDepth 20000 in
theorem wk_X11_log {x1 : Int32} {M : wM} {Q : Int32 → wM → Prop} (h : w_X11_log x1 M Q) : aG 44 (aEn 44 [(.ref 0), (.int x1)] (mkX M)) (aPi mkX Q) := by
  unfold w_X11_log at h
  refine aG_n 1 (s' := (1, [some (.ref 0), some (.int x1)], [(.int x1)], mkX M)) rfl ?_
  obtain ⟨h1, h2⟩ := h
  by_cases q1 : (nI 0) ≤ x1
  · have h := h1 q1
    refine aG_if (cd := .ge) (b := true) (decide_eq_true q1) rfl ?_
    refine aG_n 4 (s' := (14, [some (.ref 0), some (.int x1)], [(.int (gi M 26 8)), (.int x1)], mkX M)) rfl ?_
    obtain ⟨h1, h2⟩ := h
    by_cases q2 : (gi M 26 8) ≤ x1
    · have h := h1 q2
      refine aG_icmp (cd := .ge) (b := true) (decide_eq_true q2) rfl ?_
      refine aG_n 1 (s' := (31, [some (.ref 0), some (.int x1)], [(.int (-4))], mkX M)) rfl ?_
      exact aG_ret0 rfl rfl ⟨_, _, rfl, h⟩
    · have h := h2 q2
      refine aG_icmp (cd := .ge) (b := false) (decide_eq_false q2) rfl ?_
      refine aG_n 4 (s' := (25, [some (.ref 0), some (.int x1)], [(.int x1), (.ref 32)], mkX M)) rfl ?_
      obtain ⟨f3, h⟩ := h
      refine aG_iald rfl rfl rfl f3 ?_
      refine aG_n 1 (s' := (31, [some (.ref 0), some (.int x1)], [(.int (gi M 32 x1.toNatClampNeg))], mkX M)) rfl ?_
      exact aG_ret0 rfl rfl ⟨_, _, rfl, h⟩
  · have h := h2 q1
    refine aG_if (cd := .ge) (b := false) (decide_eq_false q1) rfl ?_
    refine aG_n 1 (s' := (5, [some (.ref 0), some (.int x1)], [(.int (-1))], mkX M)) rfl ?_
    exact aG_ret0 rfl rfl ⟨_, _, rfl, h⟩
def w_X11_bit (x0 : Int32) (x1 : Int32) (M : wM) (Q : Int32 → wM → Prop) : Prop := Q ((jushr x0 x1) &&& (nI 1)) M
set_option maxRecDepth 20000 in
theorem wk_X11_bit {x0 : Int32} {x1 : Int32} {M : wM} {Q : Int32 → wM → Prop} (h : w_X11_bit x0 x1 M Q) : aG 45 (aEn 45 [(.int x0), (.int x1)] (mkX M)) (aPi mkX Q) := by
  unfold w_X11_bit at h
  refine aG_n 5 (s' := (5, [some (.int x0), some (.int x1)], [(.int ((jushr x0 x1) &&& (nI 1)))], mkX M)) rfl ?_
  exact aG_ret0 rfl rfl ⟨_, _, rfl, h⟩
def w_X11_isLevelOrNone (x0 : Int32) (M : wM) (Q : Int32 → wM → Prop) : Prop := (x0 = (nI 0) → Q (nI 1) M) ∧ (¬ x0 = (nI 0) → (x0 = (nI 1) → Q (nI 1) M) ∧ (¬ x0 = (nI 1) → (x0 = (-4) → Q (nI 1) M) ∧ (¬ x0 = (-4) → Q (nI 0) M)))
set_option maxRecDepth 20000 in
theorem wk_X11_isLevelOrNone {x0 : Int32} {M : wM} {Q : Int32 → wM → Prop} (h : w_X11_isLevelOrNone x0 M Q) : aG 46 (aEn 46 [(.int x0)] (mkX M)) (aPi mkX Q) := by
  unfold w_X11_isLevelOrNone at h
  refine aG_n 1 (s' := (1, [some (.int x0)], [(.int x0)], mkX M)) rfl ?_
  obtain ⟨h1, h2⟩ := h
  by_cases q1 : x0 = (nI 0)
  · have h := h1 q1
    refine aG_if (cd := .eq) (b := true) (decide_eq_true q1) rfl ?_
    refine aG_n 2 (s' := (20, [some (.int x0)], [(.int (nI 1))], mkX M)) rfl ?_
    exact aG_retZ rfl rfl (Or.inr rfl) ⟨_, _, rfl, h⟩
  · have h := h2 q1
    refine aG_if (cd := .eq) (b := false) (decide_eq_false q1) rfl ?_
    refine aG_n 2 (s' := (6, [some (.int x0)], [(.int (nI 1)), (.int x0)], mkX M)) rfl ?_
    obtain ⟨h1, h2⟩ := h
    by_cases q2 : x0 = (nI 1)
    · have h := h1 q2
      refine aG_icmp (cd := .eq) (b := true) (decide_eq_true q2) rfl ?_
      refine aG_n 2 (s' := (20, [some (.int x0)], [(.int (nI 1))], mkX M)) rfl ?_
      exact aG_retZ rfl rfl (Or.inr rfl) ⟨_, _, rfl, h⟩
    · have h := h2 q2
      refine aG_icmp (cd := .eq) (b := false) (decide_eq_false q2) rfl ?_
      refine aG_n 2 (s' := (12, [some (.int x0)], [(.int (-4)), (.int x0)], mkX M)) rfl ?_
      obtain ⟨h1, h2⟩ := h
      by_cases q3 : x0 = (-4)
      · have h := h1 q3
        refine aG_icmp (cd := .ne) (b := false) (aTne0 q3) rfl ?_
        refine aG_n 2 (s' := (20, [some (.int x0)], [(.int (nI 1))], mkX M)) rfl ?_
        exact aG_retZ rfl rfl (Or.inr rfl) ⟨_, _, rfl, h⟩
      · have h := h2 q3
        refine aG_icmp (cd := .ne) (b := true) (aTne1 q3) rfl ?_
        refine aG_n 1 (s' := (20, [some (.int x0)], [(.int (nI 0))], mkX M)) rfl ?_
        exact aG_retZ rfl rfl (Or.inl rfl) ⟨_, _, rfl, h⟩
def w_X11_isState (x0 : Int32) (M : wM) (Q : Int32 → wM → Prop) : Prop := (x0 < (nI 0) → Q (nI 0) M) ∧ (¬ x0 < (nI 0) → ((nI 16) ≤ x0 → Q (nI 0) M) ∧ (¬ (nI 16) ≤ x0 → Q (nI 1) M))
set_option maxRecDepth 20000 in
theorem wk_X11_isState {x0 : Int32} {M : wM} {Q : Int32 → wM → Prop} (h : w_X11_isState x0 M Q) : aG 47 (aEn 47 [(.int x0)] (mkX M)) (aPi mkX Q) := by
  unfold w_X11_isState at h
  refine aG_n 1 (s' := (1, [some (.int x0)], [(.int x0)], mkX M)) rfl ?_
  obtain ⟨h1, h2⟩ := h
  by_cases q1 : x0 < (nI 0)
  · have h := h1 q1
    refine aG_if (cd := .lt) (b := true) (decide_eq_true q1) rfl ?_
    refine aG_n 1 (s' := (15, [some (.int x0)], [(.int (nI 0))], mkX M)) rfl ?_
    exact aG_retZ rfl rfl (Or.inl rfl) ⟨_, _, rfl, h⟩
  · have h := h2 q1
    refine aG_if (cd := .lt) (b := false) (decide_eq_false q1) rfl ?_
    refine aG_n 2 (s' := (7, [some (.int x0)], [(.int (nI 16)), (.int x0)], mkX M)) rfl ?_
    obtain ⟨h1, h2⟩ := h
    by_cases q2 : (nI 16) ≤ x0
    · have h := h1 q2
      refine aG_icmp (cd := .ge) (b := true) (decide_eq_true q2) rfl ?_
      refine aG_n 1 (s' := (15, [some (.int x0)], [(.int (nI 0))], mkX M)) rfl ?_
      exact aG_retZ rfl rfl (Or.inl rfl) ⟨_, _, rfl, h⟩
    · have h := h2 q2
      refine aG_icmp (cd := .ge) (b := false) (decide_eq_false q2) rfl ?_
      refine aG_n 2 (s' := (15, [some (.int x0)], [(.int (nI 1))], mkX M)) rfl ?_
      exact aG_retZ rfl rfl (Or.inr rfl) ⟨_, _, rfl, h⟩
def w_X11_isSort (x0 : Int32) (M : wM) (Q : Int32 → wM → Prop) : Prop := (x0 < (nI 0) → Q (nI 0) M) ∧ (¬ x0 < (nI 0) → ((nI 3) ≤ x0 → Q (nI 0) M) ∧ (¬ (nI 3) ≤ x0 → Q (nI 1) M))
set_option maxRecDepth 20000 in
theorem wk_X11_isSort {x0 : Int32} {M : wM} {Q : Int32 → wM → Prop} (h : w_X11_isSort x0 M Q) : aG 48 (aEn 48 [(.int x0)] (mkX M)) (aPi mkX Q) := by
  unfold w_X11_isSort at h
  refine aG_n 1 (s' := (1, [some (.int x0)], [(.int x0)], mkX M)) rfl ?_
  obtain ⟨h1, h2⟩ := h
  by_cases q1 : x0 < (nI 0)
  · have h := h1 q1
    refine aG_if (cd := .lt) (b := true) (decide_eq_true q1) rfl ?_
    refine aG_n 1 (s' := (14, [some (.int x0)], [(.int (nI 0))], mkX M)) rfl ?_
    exact aG_retZ rfl rfl (Or.inl rfl) ⟨_, _, rfl, h⟩
  · have h := h2 q1
    refine aG_if (cd := .lt) (b := false) (decide_eq_false q1) rfl ?_
    refine aG_n 2 (s' := (6, [some (.int x0)], [(.int (nI 3)), (.int x0)], mkX M)) rfl ?_
    obtain ⟨h1, h2⟩ := h
    by_cases q2 : (nI 3) ≤ x0
    · have h := h1 q2
      refine aG_icmp (cd := .ge) (b := true) (decide_eq_true q2) rfl ?_
      refine aG_n 1 (s' := (14, [some (.int x0)], [(.int (nI 0))], mkX M)) rfl ?_
      exact aG_retZ rfl rfl (Or.inl rfl) ⟨_, _, rfl, h⟩
    · have h := h2 q2
      refine aG_icmp (cd := .ge) (b := false) (decide_eq_false q2) rfl ?_
      refine aG_n 2 (s' := (14, [some (.int x0)], [(.int (nI 1))], mkX M)) rfl ?_
      exact aG_retZ rfl rfl (Or.inr rfl) ⟨_, _, rfl, h⟩
def w_X11_isSheet (x0 : Int32) (M : wM) (Q : Int32 → wM → Prop) : Prop := (x0 < (nI 0) → Q (nI 0) M) ∧ (¬ x0 < (nI 0) → ((nI 4) ≤ x0 → Q (nI 0) M) ∧ (¬ (nI 4) ≤ x0 → Q (nI 1) M))
set_option maxRecDepth 20000 in
theorem wk_X11_isSheet {x0 : Int32} {M : wM} {Q : Int32 → wM → Prop} (h : w_X11_isSheet x0 M Q) : aG 49 (aEn 49 [(.int x0)] (mkX M)) (aPi mkX Q) := by
  unfold w_X11_isSheet at h
  refine aG_n 1 (s' := (1, [some (.int x0)], [(.int x0)], mkX M)) rfl ?_
  obtain ⟨h1, h2⟩ := h
  by_cases q1 : x0 < (nI 0)
  · have h := h1 q1
    refine aG_if (cd := .lt) (b := true) (decide_eq_true q1) rfl ?_
    refine aG_n 1 (s' := (14, [some (.int x0)], [(.int (nI 0))], mkX M)) rfl ?_
    exact aG_retZ rfl rfl (Or.inl rfl) ⟨_, _, rfl, h⟩
  · have h := h2 q1
    refine aG_if (cd := .lt) (b := false) (decide_eq_false q1) rfl ?_
    refine aG_n 2 (s' := (6, [some (.int x0)], [(.int (nI 4)), (.int x0)], mkX M)) rfl ?_
    obtain ⟨h1, h2⟩ := h
    by_cases q2 : (nI 4) ≤ x0
    · have h := h1 q2
      refine aG_icmp (cd := .ge) (b := true) (decide_eq_true q2) rfl ?_
      refine aG_n 1 (s' := (14, [some (.int x0)], [(.int (nI 0))], mkX M)) rfl ?_
      exact aG_retZ rfl rfl (Or.inl rfl) ⟨_, _, rfl, h⟩
    · have h := h2 q2
      refine aG_icmp (cd := .ge) (b := false) (decide_eq_false q2) rfl ?_
      refine aG_n 2 (s' := (14, [some (.int x0)], [(.int (nI 1))], mkX M)) rfl ?_
      exact aG_retZ rfl rfl (Or.inr rfl) ⟨_, _, rfl, h⟩
def w_X11_isLane (x0 : Int32) (M : wM) (Q : Int32 → wM → Prop) : Prop := (x0 < (nI 0) → Q (nI 0) M) ∧ (¬ x0 < (nI 0) → ((nI 3) ≤ x0 → Q (nI 0) M) ∧ (¬ (nI 3) ≤ x0 → Q (nI 1) M))
set_option maxRecDepth 20000 in
theorem wk_X11_isLane {x0 : Int32} {M : wM} {Q : Int32 → wM → Prop} (h : w_X11_isLane x0 M Q) : aG 50 (aEn 50 [(.int x0)] (mkX M)) (aPi mkX Q) := by
  unfold w_X11_isLane at h
  refine aG_n 1 (s' := (1, [some (.int x0)], [(.int x0)], mkX M)) rfl ?_
  obtain ⟨h1, h2⟩ := h
  by_cases q1 : x0 < (nI 0)
  · have h := h1 q1
    refine aG_if (cd := .lt) (b := true) (decide_eq_true q1) rfl ?_
    refine aG_n 1 (s' := (14, [some (.int x0)], [(.int (nI 0))], mkX M)) rfl ?_
    exact aG_retZ rfl rfl (Or.inl rfl) ⟨_, _, rfl, h⟩
  · have h := h2 q1
    refine aG_if (cd := .lt) (b := false) (decide_eq_false q1) rfl ?_
    refine aG_n 2 (s' := (6, [some (.int x0)], [(.int (nI 3)), (.int x0)], mkX M)) rfl ?_
    obtain ⟨h1, h2⟩ := h
    by_cases q2 : (nI 3) ≤ x0
    · have h := h1 q2
      refine aG_icmp (cd := .ge) (b := true) (decide_eq_true q2) rfl ?_
      refine aG_n 1 (s' := (14, [some (.int x0)], [(.int (nI 0))], mkX M)) rfl ?_
      exact aG_retZ rfl rfl (Or.inl rfl) ⟨_, _, rfl, h⟩
    · have h := h2 q2
      refine aG_icmp (cd := .ge) (b := false) (decide_eq_false q2) rfl ?_
      refine aG_n 2 (s' := (14, [some (.int x0)], [(.int (nI 1))], mkX M)) rfl ?_
      exact aG_retZ rfl rfl (Or.inr rfl) ⟨_, _, rfl, h⟩
