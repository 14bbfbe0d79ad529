/-! methods as predicates, and their walks (by gen/wpgen.py) -/
def w_X0_has (x1 : Int32) (M : wM) (Q : Int32 → wM → Prop) : Prop := (x1 < (nI 0) → Q (nI 0) M) ∧ (¬ x1 < (nI 0) → ((gi M 26 3) ≤ x1 → Q (nI 0) M) ∧ (¬ (gi M 26 3) ≤ x1 → Q (nI 1) M))
set_option maxRecDepth 20000 in
theorem wk_X0_has {x1 : Int32} {M : wM} {Q : Int32 → wM → Prop} (h : w_X0_has x1 M Q) : aG 0 (aEn 0 [(.ref 26), (.int x1)] (mkX M)) (aPi mkX Q) := by
  unfold w_X0_has at h
  refine aG_n 1 (s' := (1, [some (.ref 26), some (.int x1)], [(.int x1)], mkX M)) rfl ?_
  obtain ⟨h1, h2⟩ := h
  by_cases q1 : x1 < (nI 0)
  · have h := h1 q1
    refine aG_if (cd := .lt) (b := true) (decide_eq_true q1) rfl ?_
    refine aG_n 1 (s' := (17, [some (.ref 26), some (.int x1)], [(.int (nI 0))], mkX M)) rfl ?_
    exact aG_retZ rfl rfl (Or.inl rfl) ⟨_, _, rfl, h⟩
  · have h := h2 q1
    refine aG_if (cd := .lt) (b := false) (decide_eq_false q1) rfl ?_
    refine aG_n 3 (s' := (9, [some (.ref 26), some (.int x1)], [(.int (gi M 26 3)), (.int x1)], mkX M)) rfl ?_
    obtain ⟨h1, h2⟩ := h
    by_cases q2 : (gi M 26 3) ≤ x1
    · have h := h1 q2
      refine aG_icmp (cd := .ge) (b := true) (decide_eq_true q2) rfl ?_
      refine aG_n 1 (s' := (17, [some (.ref 26), some (.int x1)], [(.int (nI 0))], mkX M)) rfl ?_
      exact aG_retZ rfl rfl (Or.inl rfl) ⟨_, _, rfl, h⟩
    · have h := h2 q2
      refine aG_icmp (cd := .ge) (b := false) (decide_eq_false q2) rfl ?_
      refine aG_n 2 (s' := (17, [some (.ref 26), some (.int x1)], [(.int (nI 1))], mkX M)) rfl ?_
      exact aG_retZ rfl rfl (Or.inr rfl) ⟨_, _, rfl, h⟩
def w_X0_behindWire (x1 : Int32) (x2 : Int32) (M : wM) (Q : Int32 → wM → Prop) : Prop := vp_in x1 7 ∧ (((gi M 31 x1.toNatClampNeg) = (-4) → Q x2 M) ∧ (¬ (gi M 31 x1.toNatClampNeg) = (-4) → vp_in x1 7 ∧ (Q (gi M 31 x1.toNatClampNeg) M)))
set_option maxRecDepth 20000 in
theorem wk_X0_behindWire {x1 : Int32} {x2 : Int32} {M : wM} {Q : Int32 → wM → Prop} (h : w_X0_behindWire x1 x2 M Q) : aG 1 (aEn 1 [(.ref 26), (.int x1), (.int x2)] (mkX M)) (aPi mkX Q) := by
  unfold w_X0_behindWire at h
  refine aG_n 3 (s' := (5, [some (.ref 26), some (.int x1), some (.int x2)], [(.int x1), (.ref 31)], mkX M)) rfl ?_
  obtain ⟨f1, h⟩ := h
  refine aG_iald rfl rfl rfl f1 ?_
  refine aG_n 1 (s' := (8, [some (.ref 26), some (.int x1), some (.int x2)], [(.int (-4)), (.int (gi M 31 x1.toNatClampNeg))], mkX M)) rfl ?_
  obtain ⟨h1, h2⟩ := h
  by_cases q2 : (gi M 31 x1.toNatClampNeg) = (-4)
  · have h := h1 q2
    refine aG_icmp (cd := .ne) (b := false) (aTne0 q2) rfl ?_
    refine aG_n 2 (s' := (21, [some (.ref 26), some (.int x1), some (.int x2)], [(.int x2)], mkX M)) rfl ?_
    exact aG_ret0 rfl rfl ⟨_, _, rfl, h⟩
  · have h := h2 q2
    refine aG_icmp (cd := .ne) (b := true) (aTne1 q2) rfl ?_
    refine aG_n 3 (s' := (20, [some (.ref 26), some (.int x1), some (.int x2)], [(.int x1), (.ref 31)], mkX M)) rfl ?_
    obtain ⟨f3, h⟩ := h
    refine aG_iald rfl rfl rfl f3 ?_
    refine aG_n 0 (s' := (21, [some (.ref 26), some (.int x1), some (.int x2)], [(.int (gi M 31 x1.toNatClampNeg))], mkX M)) rfl ?_
    exact aG_ret0 rfl rfl ⟨_, _, rfl, h⟩
def wb_X0_orderBits_4 (K4 : Int32 → Int32 → wM → Prop) (y1 : Int32) (y2 : Int32) (M : wM) (Q : Int32 → wM → Prop) : Prop := ((gi M 26 3) ≤ y2 → Q y1 M) ∧ (¬ (gi M 26 3) ≤ y2 → vp_in y2 6 ∧ (ptX (gp M y2.toNatClampNeg) ∧ (K4 (y1 + (gi M (gp M y2.toNatClampNeg) 0)) (y2 + (nI 1)) M)))
set_option maxRecDepth 20000 in
theorem wbk_X0_orderBits_4 {K4 : Int32 → Int32 → wM → Prop} {y1 : Int32} {y2 : Int32} {M : wM} {Q : Int32 → wM → Prop} (hK4 : ∀ (v1 : Int32) (v2 : Int32) (M : wM), K4 v1 v2 M → aG 2 (4, [some (.ref 26), some (.int v1), some (.int v2)], [], mkX M) (aPi mkX Q)) (h : wb_X0_orderBits_4 K4 y1 y2 M Q) : aG 2 (4, [some (.ref 26), some (.int y1), some (.int y2)], [], mkX M) (aPi mkX Q) := by
  unfold wb_X0_orderBits_4 at h
  refine aG_n 3 (s' := (9, [some (.ref 26), some (.int y1), some (.int y2)], [(.int (gi M 26 3)), (.int y2)], mkX M)) rfl ?_
  obtain ⟨h1, h2⟩ := h
  by_cases q1 : (gi M 26 3) ≤ y2
  · have h := h1 q1
    refine aG_icmp (cd := .ge) (b := true) (decide_eq_true q1) rfl ?_
    refine aG_n 1 (s' := (34, [some (.ref 26), some (.int y1), some (.int y2)], [(.int y1)], mkX M)) rfl ?_
    exact aG_ret0 rfl rfl ⟨_, _, rfl, h⟩
  · have h := h2 q1
    refine aG_icmp (cd := .ge) (b := false) (decide_eq_false q1) rfl ?_
    refine aG_n 4 (s' := (18, [some (.ref 26), some (.int y1), some (.int y2)], [(.int y2), (.ref 30), (.int y1)], mkX M)) rfl ?_
    obtain ⟨f2, h⟩ := h
    refine aG_aald rfl rfl rfl f2 (rX_30 (P := (M).2.2) (vin_lt f2)) ?_
    refine aG_n 0 (s' := (19, [some (.ref 26), some (.int y1), some (.int y2)], [(.ref (34 + 3 * y2.toNatClampNeg)), (.int y1)], mkX M)) rfl ?_
    refine aG_getR rfl (shX_chip (vin_lt f2)) rfl rfl (rX_part (P := (M).2.2) (vin_lt f2)) ?_
    obtain ⟨f3, h⟩ := h
    refine aG_n 0 (s' := (22, [some (.ref 26), some (.int y1), some (.int y2)], [(.ref (gp M y2.toNatClampNeg)), (.int y1)], mkX M)) rfl ?_
    refine aG_get rfl f3 rfl rfl ?_
    refine aG_n 4 (s' := (4, [some (.ref 26), some (.int (y1 + (gi M (gp M y2.toNatClampNeg) 0))), some (.int (y2 + (nI 1)))], [], mkX M)) rfl ?_
    refine aG_le (a := [some (.ref 26), some (.int (y1 + (gi M (gp M y2.toNatClampNeg) 0))), some (.int (y2 + (nI 1)))]) ⟨rfl, ⟨rfl, ⟨rfl, trivial⟩⟩⟩ ?_
    exact hK4 _ _ _ h
def wL_X0_orderBits_4 (Q : Int32 → wM → Prop) : Nat → Int32 → Int32 → wM → Prop
  | 0, _, _, _ => False
  | n + 1, y1, y2, M => wb_X0_orderBits_4 (wL_X0_orderBits_4 Q n) y1 y2 M Q
set_option maxRecDepth 20000 in
theorem wLk_X0_orderBits_4 {Q : Int32 → wM → Prop} : ∀ (n : Nat) (y1 : Int32) (y2 : Int32) (M : wM), wL_X0_orderBits_4 Q n y1 y2 M → aG 2 (4, [some (.ref 26), some (.int y1), some (.int y2)], [], mkX M) (aPi mkX Q)
  | 0, _, _, _, h => h.elim
  | n + 1, y1, y2, M, h => wbk_X0_orderBits_4 (fun y1 y2 M h => wLk_X0_orderBits_4 n y1 y2 M h) h
def w_X0_orderBits (M : wM) (Q : Int32 → wM → Prop) : Prop := ∃ n, wL_X0_orderBits_4 Q n (nI 0) (nI 0) M
set_option maxRecDepth 20000 in
theorem wk_X0_orderBits {M : wM} {Q : Int32 → wM → Prop} (h : w_X0_orderBits M Q) : aG 2 (aEn 2 [(.ref 26)] (mkX M)) (aPi mkX Q) := by
  unfold w_X0_orderBits at h
  refine aG_n 4 (s' := (4, [some (.ref 26), some (.int (nI 0)), some (.int (nI 0))], [], mkX M)) rfl ?_
  refine aG_le (a := [some (.ref 26), some (.int (nI 0)), some (.int (nI 0))]) ⟨rfl, ⟨rfl, ⟨rfl, trivial⟩⟩⟩ ?_
  obtain ⟨n, h⟩ := h
  exact wLk_X0_orderBits_4 n _ _ _ h
def wb_X0_cellCount_4 (K4 : Int32 → Int32 → wM → Prop) (y1 : Int32) (y2 : Int32) (M : wM) (Q : Int32 → wM → Prop) : Prop := ((gi M 26 3) ≤ y2 → Q y1 M) ∧ (¬ (gi M 26 3) ≤ y2 → vp_in y2 6 ∧ (ptX (gp M y2.toNatClampNeg) ∧ (K4 (y1 + (gi M (gp M y2.toNatClampNeg) 1)) (y2 + (nI 1)) M)))
set_option maxRecDepth 20000 in
theorem wbk_X0_cellCount_4 {K4 : Int32 → Int32 → wM → Prop} {y1 : Int32} {y2 : Int32} {M : wM} {Q : Int32 → wM → Prop} (hK4 : ∀ (v1 : Int32) (v2 : Int32) (M : wM), K4 v1 v2 M → aG 3 (4, [some (.ref 26), some (.int v1), some (.int v2)], [], mkX M) (aPi mkX Q)) (h : wb_X0_cellCount_4 K4 y1 y2 M Q) : aG 3 (4, [some (.ref 26), some (.int y1), some (.int y2)], [], mkX M) (aPi mkX Q) := by
  unfold wb_X0_cellCount_4 at h
  refine aG_n 3 (s' := (9, [some (.ref 26), some (.int y1), some (.int y2)], [(.int (gi M 26 3)), (.int y2)], mkX M)) rfl ?_
  obtain ⟨h1, h2⟩ := h
  by_cases q1 : (gi M 26 3) ≤ y2
  · have h := h1 q1
    refine aG_icmp (cd := .ge) (b := true) (decide_eq_true q1) rfl ?_
    refine aG_n 1 (s' := (34, [some (.ref 26), some (.int y1), some (.int y2)], [(.int y1)], mkX M)) rfl ?_
    exact aG_ret0 rfl rfl ⟨_, _, rfl, h⟩
  · have h := h2 q1
    refine aG_icmp (cd := .ge) (b := false) (decide_eq_false q1) rfl ?_
    refine aG_n 4 (s' := (18, [some (.ref 26), some (.int y1), some (.int y2)], [(.int y2), (.ref 30), (.int y1)], mkX M)) rfl ?_
    obtain ⟨f2, h⟩ := h
    refine aG_aald rfl rfl rfl f2 (rX_30 (P := (M).2.2) (vin_lt f2)) ?_
    refine aG_n 0 (s' := (19, [some (.ref 26), some (.int y1), some (.int y2)], [(.ref (34 + 3 * y2.toNatClampNeg)), (.int y1)], mkX M)) rfl ?_
    refine aG_getR rfl (shX_chip (vin_lt f2)) rfl rfl (rX_part (P := (M).2.2) (vin_lt f2)) ?_
    obtain ⟨f3, h⟩ := h
    refine aG_n 0 (s' := (22, [some (.ref 26), some (.int y1), some (.int y2)], [(.ref (gp M y2.toNatClampNeg)), (.int y1)], mkX M)) rfl ?_
    refine aG_get rfl f3 rfl rfl ?_
    refine aG_n 4 (s' := (4, [some (.ref 26), some (.int (y1 + (gi M (gp M y2.toNatClampNeg) 1))), some (.int (y2 + (nI 1)))], [], mkX M)) rfl ?_
    refine aG_le (a := [some (.ref 26), some (.int (y1 + (gi M (gp M y2.toNatClampNeg) 1))), some (.int (y2 + (nI 1)))]) ⟨rfl, ⟨rfl, ⟨rfl, trivial⟩⟩⟩ ?_
    exact hK4 _ _ _ h
def wL_X0_cellCount_4 (Q : Int32 → wM → Prop) : Nat → Int32 → Int32 → wM → Prop
  | 0, _, _, _ => False
  | n + 1, y1, y2, M => wb_X0_cellCount_4 (wL_X0_cellCount_4 Q n) y1 y2 M Q
set_option maxRecDepth 20000 in
theorem wLk_X0_cellCount_4 {Q : Int32 → wM → Prop} : ∀ (n : Nat) (y1 : Int32) (y2 : Int32) (M : wM), wL_X0_cellCount_4 Q n y1 y2 M → aG 3 (4, [some (.ref 26), some (.int y1), some (.int y2)], [], mkX M) (aPi mkX Q)
  | 0, _, _, _, h => h.elim
  | n + 1, y1, y2, M, h => wbk_X0_cellCount_4 (fun y1 y2 M h => wLk_X0_cellCount_4 n y1 y2 M h) h
def w_X0_cellCount (M : wM) (Q : Int32 → wM → Prop) : Prop := ∃ n, wL_X0_cellCount_4 Q n (nI 0) (nI 0) M
set_option maxRecDepth 20000 in
theorem wk_X0_cellCount {M : wM} {Q : Int32 → wM → Prop} (h : w_X0_cellCount M Q) : aG 3 (aEn 3 [(.ref 26)] (mkX M)) (aPi mkX Q) := by
  unfold w_X0_cellCount at h
  refine aG_n 4 (s' := (4, [some (.ref 26), some (.int (nI 0)), some (.int (nI 0))], [], mkX M)) rfl ?_
  refine aG_le (a := [some (.ref 26), some (.int (nI 0)), some (.int (nI 0))]) ⟨rfl, ⟨rfl, ⟨rfl, trivial⟩⟩⟩ ?_
  obtain ⟨n, h⟩ := h
  exact wLk_X0_cellCount_4 n _ _ _ h
def wb_X0_testBits_4 (K4 : Int32 → Int32 → wM → Prop) (y1 : Int32) (y2 : Int32) (M : wM) (Q : Int32 → wM → Prop) : Prop := ((gi M 26 3) ≤ y2 → Q y1 M) ∧ (¬ (gi M 26 3) ≤ y2 → vp_in y2 6 ∧ (ptX (gp M y2.toNatClampNeg) ∧ (((gi M (gp M y2.toNatClampNeg) 4) = (-4) → K4 (y1 + (nI 1)) (y2 + (nI 1)) M) ∧ (¬ (gi M (gp M y2.toNatClampNeg) 4) = (-4) → vp_in y2 6 ∧ (ptX (gp M y2.toNatClampNeg) ∧ (K4 (y1 + (gi M (gp M y2.toNatClampNeg) 1)) (y2 + (nI 1)) M))))))
set_option maxRecDepth 20000 in
theorem wbk_X0_testBits_4 {K4 : Int32 → Int32 → wM → Prop} {y1 : Int32} {y2 : Int32} {M : wM} {Q : Int32 → wM → Prop} (hK4 : ∀ (v1 : Int32) (v2 : Int32) (M : wM), K4 v1 v2 M → aG 4 (4, [some (.ref 26), some (.int v1), some (.int v2)], [], mkX M) (aPi mkX Q)) (h : wb_X0_testBits_4 K4 y1 y2 M Q) : aG 4 (4, [some (.ref 26), some (.int y1), some (.int y2)], [], mkX M) (aPi mkX Q) := by
  unfold wb_X0_testBits_4 at h
  refine aG_n 3 (s' := (9, [some (.ref 26), some (.int y1), some (.int y2)], [(.int (gi M 26 3)), (.int y2)], mkX M)) rfl ?_
  obtain ⟨h1, h2⟩ := h
  by_cases q1 : (gi M 26 3) ≤ y2
  · have h := h1 q1
    refine aG_icmp (cd := .ge) (b := true) (decide_eq_true q1) rfl ?_
    refine aG_n 1 (s' := (55, [some (.ref 26), some (.int y1), some (.int y2)], [(.int y1)], mkX M)) rfl ?_
    exact aG_ret0 rfl rfl ⟨_, _, rfl, h⟩
  · have h := h2 q1
    refine aG_icmp (cd := .ge) (b := false) (decide_eq_false q1) rfl ?_
    refine aG_n 4 (s' := (18, [some (.ref 26), some (.int y1), some (.int y2)], [(.int y2), (.ref 30), (.int y1)], mkX M)) rfl ?_
    obtain ⟨f2, h⟩ := h
    refine aG_aald rfl rfl rfl f2 (rX_30 (P := (M).2.2) (vin_lt f2)) ?_
    refine aG_n 0 (s' := (19, [some (.ref 26), some (.int y1), some (.int y2)], [(.ref (34 + 3 * y2.toNatClampNeg)), (.int y1)], mkX M)) rfl ?_
    refine aG_getR rfl (shX_chip (vin_lt f2)) rfl rfl (rX_part (P := (M).2.2) (vin_lt f2)) ?_
    obtain ⟨f3, h⟩ := h
    refine aG_n 0 (s' := (22, [some (.ref 26), some (.int y1), some (.int y2)], [(.ref (gp M y2.toNatClampNeg)), (.int y1)], mkX M)) rfl ?_
    refine aG_get rfl f3 rfl rfl ?_
    refine aG_n 1 (s' := (27, [some (.ref 26), some (.int y1), some (.int y2)], [(.int (-4)), (.int (gi M (gp M y2.toNatClampNeg) 4)), (.int y1)], mkX M)) rfl ?_
    obtain ⟨h1, h2⟩ := h
    by_cases q4 : (gi M (gp M y2.toNatClampNeg) 4) = (-4)
    · have h := h1 q4
      refine aG_icmp (cd := .eq) (b := true) (decide_eq_true q4) rfl ?_
      refine aG_n 5 (s' := (4, [some (.ref 26), some (.int (y1 + (nI 1))), some (.int (y2 + (nI 1)))], [], mkX M)) rfl ?_
      refine aG_le (a := [some (.ref 26), some (.int (y1 + (nI 1))), some (.int (y2 + (nI 1)))]) ⟨rfl, ⟨rfl, ⟨rfl, trivial⟩⟩⟩ ?_
      exact hK4 _ _ _ h
    · have h := h2 q4
      refine aG_icmp (cd := .eq) (b := false) (decide_eq_false q4) rfl ?_
      refine aG_n 3 (s' := (35, [some (.ref 26), some (.int y1), some (.int y2)], [(.int y2), (.ref 30), (.int y1)], mkX M)) rfl ?_
      obtain ⟨f5, h⟩ := h
      refine aG_aald rfl rfl rfl f5 (rX_30 (P := (M).2.2) (vin_lt f5)) ?_
      refine aG_n 0 (s' := (36, [some (.ref 26), some (.int y1), some (.int y2)], [(.ref (34 + 3 * y2.toNatClampNeg)), (.int y1)], mkX M)) rfl ?_
      refine aG_getR rfl (shX_chip (vin_lt f5)) rfl rfl (rX_part (P := (M).2.2) (vin_lt f5)) ?_
      obtain ⟨f6, h⟩ := h
      refine aG_n 0 (s' := (39, [some (.ref 26), some (.int y1), some (.int y2)], [(.ref (gp M y2.toNatClampNeg)), (.int y1)], mkX M)) rfl ?_
      refine aG_get rfl f6 rfl rfl ?_
      refine aG_n 5 (s' := (4, [some (.ref 26), some (.int (y1 + (gi M (gp M y2.toNatClampNeg) 1))), some (.int (y2 + (nI 1)))], [], mkX M)) rfl ?_
      refine aG_le (a := [some (.ref 26), some (.int (y1 + (gi M (gp M y2.toNatClampNeg) 1))), some (.int (y2 + (nI 1)))]) ⟨rfl, ⟨rfl, ⟨rfl, trivial⟩⟩⟩ ?_
      exact hK4 _ _ _ h
def wL_X0_testBits_4 (Q : Int32 → wM → Prop) : Nat → Int32 → Int32 → wM → Prop
  | 0, _, _, _ => False
  | n + 1, y1, y2, M => wb_X0_testBits_4 (wL_X0_testBits_4 Q n) y1 y2 M Q
set_option maxRecDepth 20000 in
theorem wLk_X0_testBits_4 {Q : Int32 → wM → Prop} : ∀ (n : Nat) (y1 : Int32) (y2 : Int32) (M : wM), wL_X0_testBits_4 Q n y1 y2 M → aG 4 (4, [some (.ref 26), some (.int y1), some (.int y2)], [], mkX M) (aPi mkX Q)
  | 0, _, _, _, h => h.elim
  | n + 1, y1, y2, M, h => wbk_X0_testBits_4 (fun y1 y2 M h => wLk_X0_testBits_4 n y1 y2 M h) h
def w_X0_testBits (M : wM) (Q : Int32 → wM → Prop) : Prop := ∃ n, wL_X0_testBits_4 Q n (nI 0) (nI 0) M
set_option maxRecDepth 20000 in
theorem wk_X0_testBits {M : wM} {Q : Int32 → wM → Prop} (h : w_X0_testBits M Q) : aG 4 (aEn 4 [(.ref 26)] (mkX M)) (aPi mkX Q) := by
  unfold w_X0_testBits at h
  refine aG_n 4 (s' := (4, [some (.ref 26), some (.int (nI 0)), some (.int (nI 0))], [], mkX M)) rfl ?_
  refine aG_le (a := [some (.ref 26), some (.int (nI 0)), some (.int (nI 0))]) ⟨rfl, ⟨rfl, ⟨rfl, trivial⟩⟩⟩ ?_
  obtain ⟨n, h⟩ := h
  exact wLk_X0_testBits_4 n _ _ _ h
def w_X1_hasCells (c : Nat) (M : wM) (Q : Int32 → wM → Prop) : Prop := c < 6 ∧ (((gi M (34 + 3 * c) 2) = (nI 2) → Q (nI 1) M) ∧ (¬ (gi M (34 + 3 * c) 2) = (nI 2) → ((gi M (34 + 3 * c) 2) = (nI 3) → Q (nI 1) M) ∧ (¬ (gi M (34 + 3 * c) 2) = (nI 3) → Q (nI 0) M)))
set_option maxRecDepth 20000 in
theorem wk_X1_hasCells {c : Nat} {M : wM} {Q : Int32 → wM → Prop} (h : w_X1_hasCells c M Q) : aG 5 (aEn 5 [(.ref (34 + 3 * c))] (mkX M)) (aPi mkX Q) := by
  unfold w_X1_hasCells at h
  obtain ⟨hc, h⟩ := h
  refine aG_n 1 (s' := (1, [some (.ref (34 + 3 * c))], [(.ref (34 + 3 * c))], mkX M)) rfl ?_
  refine aG_get rfl (shX_chip hc) rfl rfl ?_
  refine aG_n 1 (s' := (5, [some (.ref (34 + 3 * c))], [(.int (nI 2)), (.int (gi M (34 + 3 * c) 2))], mkX M)) rfl ?_
  obtain ⟨h1, h2⟩ := h
  by_cases q1 : (gi M (34 + 3 * c) 2) = (nI 2)
  · have h := h1 q1
    refine aG_icmp (cd := .eq) (b := true) (decide_eq_true q1) rfl ?_
    refine aG_n 2 (s' := (21, [some (.ref (34 + 3 * c))], [(.int (nI 1))], mkX M)) rfl ?_
    exact aG_retZ rfl rfl (Or.inr rfl) ⟨_, _, rfl, h⟩
  · have h := h2 q1
    refine aG_icmp (cd := .eq) (b := false) (decide_eq_false q1) rfl ?_
    refine aG_n 1 (s' := (9, [some (.ref (34 + 3 * c))], [(.ref (34 + 3 * c))], mkX M)) rfl ?_
    refine aG_get rfl (shX_chip hc) rfl rfl ?_
    refine aG_n 1 (s' := (13, [some (.ref (34 + 3 * c))], [(.int (nI 3)), (.int (gi M (34 + 3 * c) 2))], mkX M)) rfl ?_
    obtain ⟨h1, h2⟩ := h
    by_cases q2 : (gi M (34 + 3 * c) 2) = (nI 3)
    · have h := h1 q2
      refine aG_icmp (cd := .ne) (b := false) (aTne0 q2) rfl ?_
      refine aG_n 2 (s' := (21, [some (.ref (34 + 3 * c))], [(.int (nI 1))], mkX M)) rfl ?_
      exact aG_retZ rfl rfl (Or.inr rfl) ⟨_, _, rfl, h⟩
    · have h := h2 q2
      refine aG_icmp (cd := .ne) (b := true) (aTne1 q2) rfl ?_
      refine aG_n 1 (s' := (21, [some (.ref (34 + 3 * c))], [(.int (nI 0))], mkX M)) rfl ?_
      exact aG_retZ rfl rfl (Or.inl rfl) ⟨_, _, rfl, h⟩
def w_X1_registerPlace (c : Nat) (M : wM) (Q : Int32 → wM → Prop) : Prop := c < 6 ∧ (((nI 2) ≤ (gi M (34 + 3 * c) 2) → Q (nI 2) M) ∧ (¬ (nI 2) ≤ (gi M (34 + 3 * c) 2) → Q (gi M (34 + 3 * c) 2) M))
set_option maxRecDepth 20000 in
theorem wk_X1_registerPlace {c : Nat} {M : wM} {Q : Int32 → wM → Prop} (h : w_X1_registerPlace c M Q) : aG 6 (aEn 6 [(.ref (34 + 3 * c))] (mkX M)) (aPi mkX Q) := by
  unfold w_X1_registerPlace at h
  obtain ⟨hc, h⟩ := h
  refine aG_n 1 (s' := (1, [some (.ref (34 + 3 * c))], [(.ref (34 + 3 * c))], mkX M)) rfl ?_
  refine aG_get rfl (shX_chip hc) rfl rfl ?_
  refine aG_n 1 (s' := (5, [some (.ref (34 + 3 * c))], [(.int (nI 2)), (.int (gi M (34 + 3 * c) 2))], mkX M)) rfl ?_
  obtain ⟨h1, h2⟩ := h
  by_cases q1 : (nI 2) ≤ (gi M (34 + 3 * c) 2)
  · have h := h1 q1
    refine aG_icmp (cd := .ge) (b := true) (decide_eq_true q1) rfl ?_
    refine aG_n 1 (s' := (16, [some (.ref (34 + 3 * c))], [(.int (nI 2))], mkX M)) rfl ?_
    exact aG_ret0 rfl rfl ⟨_, _, rfl, h⟩
  · have h := h2 q1
    refine aG_icmp (cd := .ge) (b := false) (decide_eq_false q1) rfl ?_
    refine aG_n 1 (s' := (9, [some (.ref (34 + 3 * c))], [(.ref (34 + 3 * c))], mkX M)) rfl ?_
    refine aG_get rfl (shX_chip hc) rfl rfl ?_
    refine aG_n 1 (s' := (16, [some (.ref (34 + 3 * c))], [(.int (gi M (34 + 3 * c) 2))], mkX M)) rfl ?_
    exact aG_ret0 rfl rfl ⟨_, _, rfl, h⟩
def w_X1_registerLength (c : Nat) (M : wM) (Q : Int32 → wM → Prop) : Prop := c < 6 ∧ (((gi M (34 + 3 * c) 2) = (nI 0) → Q (nI 1) M) ∧ (¬ (gi M (34 + 3 * c) 2) = (nI 0) → ((gi M (34 + 3 * c) 2) = (nI 1) → Q (nI 32) M) ∧ (¬ (gi M (34 + 3 * c) 2) = (nI 1) → ptX (gp M c) ∧ (Q (gi M (gp M c) 1) M))))
set_option maxRecDepth 20000 in
theorem wk_X1_registerLength {c : Nat} {M : wM} {Q : Int32 → wM → Prop} (h : w_X1_registerLength c M Q) : aG 7 (aEn 7 [(.ref (34 + 3 * c))] (mkX M)) (aPi mkX Q) := by
  unfold w_X1_registerLength at h
  obtain ⟨hc, h⟩ := h
  refine aG_n 1 (s' := (1, [some (.ref (34 + 3 * c))], [(.ref (34 + 3 * c))], mkX M)) rfl ?_
  refine aG_get rfl (shX_chip hc) rfl rfl ?_
  refine aG_n 0 (s' := (4, [some (.ref (34 + 3 * c))], [(.int (gi M (34 + 3 * c) 2))], mkX M)) rfl ?_
  obtain ⟨h1, h2⟩ := h
  by_cases q1 : (gi M (34 + 3 * c) 2) = (nI 0)
  · have h := h1 q1
    refine aG_if (cd := .ne) (b := false) (aTne0 q1) rfl ?_
    refine aG_n 1 (s' := (8, [some (.ref (34 + 3 * c))], [(.int (nI 1))], mkX M)) rfl ?_
    exact aG_ret0 rfl rfl ⟨_, _, rfl, h⟩
  · have h := h2 q1
    refine aG_if (cd := .ne) (b := true) (aTne1 q1) rfl ?_
    refine aG_n 1 (s' := (10, [some (.ref (34 + 3 * c))], [(.ref (34 + 3 * c))], mkX M)) rfl ?_
    refine aG_get rfl (shX_chip hc) rfl rfl ?_
    refine aG_n 1 (s' := (14, [some (.ref (34 + 3 * c))], [(.int (nI 1)), (.int (gi M (34 + 3 * c) 2))], mkX M)) rfl ?_
    obtain ⟨h1, h2⟩ := h
    by_cases q2 : (gi M (34 + 3 * c) 2) = (nI 1)
    · have h := h1 q2
      refine aG_icmp (cd := .ne) (b := false) (aTne0 q2) rfl ?_
      refine aG_n 2 (s' := (29, [some (.ref (34 + 3 * c))], [(.int (nI 32))], mkX M)) rfl ?_
      exact aG_ret0 rfl rfl ⟨_, _, rfl, h⟩
    · have h := h2 q2
      refine aG_icmp (cd := .ne) (b := true) (aTne1 q2) rfl ?_
      refine aG_n 1 (s' := (23, [some (.ref (34 + 3 * c))], [(.ref (34 + 3 * c))], mkX M)) rfl ?_
      refine aG_getR rfl (shX_chip hc) rfl rfl (rX_part (P := (M).2.2) hc) ?_
      obtain ⟨f3, h⟩ := h
      refine aG_n 0 (s' := (26, [some (.ref (34 + 3 * c))], [(.ref (gp M c))], mkX M)) rfl ?_
      refine aG_get rfl f3 rfl rfl ?_
      refine aG_n 0 (s' := (29, [some (.ref (34 + 3 * c))], [(.int (gi M (gp M c) 1))], mkX M)) rfl ?_
      exact aG_ret0 rfl rfl ⟨_, _, rfl, h⟩
def w_X1_constant (c : Nat) (M : wM) (Q : Int32 → wM → Prop) : Prop := c < 6 ∧ (((gi M (34 + 3 * c) 2) = (nI 1) → ptX (gp M c) ∧ (Q (gi M (gp M c) 2) M)) ∧ (¬ (gi M (34 + 3 * c) 2) = (nI 1) → Q (nI 0) M))
set_option maxRecDepth 20000 in
theorem wk_X1_constant {c : Nat} {M : wM} {Q : Int32 → wM → Prop} (h : w_X1_constant c M Q) : aG 8 (aEn 8 [(.ref (34 + 3 * c))] (mkX M)) (aPi mkX Q) := by
  unfold w_X1_constant at h
  obtain ⟨hc, h⟩ := h
  refine aG_n 1 (s' := (1, [some (.ref (34 + 3 * c))], [(.ref (34 + 3 * c))], mkX M)) rfl ?_
  refine aG_get rfl (shX_chip hc) rfl rfl ?_
  refine aG_n 1 (s' := (5, [some (.ref (34 + 3 * c))], [(.int (nI 1)), (.int (gi M (34 + 3 * c) 2))], mkX M)) rfl ?_
  obtain ⟨h1, h2⟩ := h
  by_cases q1 : (gi M (34 + 3 * c) 2) = (nI 1)
  · have h := h1 q1
    refine aG_icmp (cd := .ne) (b := false) (aTne0 q1) rfl ?_
    refine aG_n 1 (s' := (9, [some (.ref (34 + 3 * c))], [(.ref (34 + 3 * c))], mkX M)) rfl ?_
    refine aG_getR rfl (shX_chip hc) rfl rfl (rX_part (P := (M).2.2) hc) ?_
    obtain ⟨f2, h⟩ := h
    refine aG_n 0 (s' := (12, [some (.ref (34 + 3 * c))], [(.ref (gp M c))], mkX M)) rfl ?_
    refine aG_get rfl f2 rfl rfl ?_
    refine aG_n 1 (s' := (19, [some (.ref (34 + 3 * c))], [(.int (gi M (gp M c) 2))], mkX M)) rfl ?_
    exact aG_ret0 rfl rfl ⟨_, _, rfl, h⟩
  · have h := h2 q1
    refine aG_icmp (cd := .ne) (b := true) (aTne1 q1) rfl ?_
    refine aG_n 1 (s' := (19, [some (.ref (34 + 3 * c))], [(.int (nI 0))], mkX M)) rfl ?_
    exact aG_ret0 rfl rfl ⟨_, _, rfl, h⟩
def w_X1_shifted (x0 : Int32) (x1 : Int32) (x2 : Int32) (M : wM) (Q : Int32 → wM → Prop) : Prop := Q ((jushr x0 (nI 1)) ||| (jshl x2 (x1 - (nI 1)))) M
set_option maxRecDepth 20000 in
theorem wk_X1_shifted {x0 : Int32} {x1 : Int32} {x2 : Int32} {M : wM} {Q : Int32 → wM → Prop} (h : w_X1_shifted x0 x1 x2 M Q) : aG 9 (aEn 9 [(.int x0), (.int x1), (.int x2)] (mkX M)) (aPi mkX Q) := by
  unfold w_X1_shifted at h
  refine aG_n 9 (s' := (9, [some (.int x0), some (.int x1), some (.int x2)], [(.int ((jushr x0 (nI 1)) ||| (jshl x2 (x1 - (nI 1)))))], mkX M)) rfl ?_
  exact aG_ret0 rfl rfl ⟨_, _, rfl, h⟩
def w_X1_driven (c : Nat) (M : wM) (Q : Int32 → wM → Prop) : Prop := c < 6 ∧ (((gi M (34 + 3 * c) 2) = (nI 3) → Q ((gi M (34 + 3 * c) 4) &&& ((gi M (34 + 3 * c) 6) ^^^ (-1))) M) ∧ (¬ (gi M (34 + 3 * c) 2) = (nI 3) → Q (nI 0) M))
set_option maxRecDepth 20000 in
theorem wk_X1_driven {c : Nat} {M : wM} {Q : Int32 → wM → Prop} (h : w_X1_driven c M Q) : aG 10 (aEn 10 [(.ref (34 + 3 * c))] (mkX M)) (aPi mkX Q) := by
  unfold w_X1_driven at h
  obtain ⟨hc, h⟩ := h
  refine aG_n 1 (s' := (1, [some (.ref (34 + 3 * c))], [(.ref (34 + 3 * c))], mkX M)) rfl ?_
  refine aG_get rfl (shX_chip hc) rfl rfl ?_
  refine aG_n 1 (s' := (5, [some (.ref (34 + 3 * c))], [(.int (nI 3)), (.int (gi M (34 + 3 * c) 2))], mkX M)) rfl ?_
  obtain ⟨h1, h2⟩ := h
  by_cases q1 : (gi M (34 + 3 * c) 2) = (nI 3)
  · have h := h1 q1
    refine aG_icmp (cd := .ne) (b := false) (aTne0 q1) rfl ?_
    refine aG_n 1 (s' := (9, [some (.ref (34 + 3 * c))], [(.ref (34 + 3 * c))], mkX M)) rfl ?_
    refine aG_get rfl (shX_chip hc) rfl rfl ?_
    refine aG_n 1 (s' := (13, [some (.ref (34 + 3 * c))], [(.ref (34 + 3 * c)), (.int (gi M (34 + 3 * c) 4))], mkX M)) rfl ?_
    refine aG_get rfl (shX_chip hc) rfl rfl ?_
    refine aG_n 4 (s' := (23, [some (.ref (34 + 3 * c))], [(.int ((gi M (34 + 3 * c) 4) &&& ((gi M (34 + 3 * c) 6) ^^^ (-1))))], mkX M)) rfl ?_
    exact aG_ret0 rfl rfl ⟨_, _, rfl, h⟩
  · have h := h2 q1
    refine aG_icmp (cd := .ne) (b := true) (aTne1 q1) rfl ?_
    refine aG_n 1 (s' := (23, [some (.ref (34 + 3 * c))], [(.int (nI 0))], mkX M)) rfl ?_
    exact aG_ret0 rfl rfl ⟨_, _, rfl, h⟩
def w_X2_of (x0 : Int32) (x1 : Int32) (M : wM) (Q : Int32 → wM → Prop) : Prop := Q (x0 ||| (jshl x1 (nI 8))) M
set_option maxRecDepth 20000 in
theorem wk_X2_of {x0 : Int32} {x1 : Int32} {M : wM} {Q : Int32 → wM → Prop} (h : w_X2_of x0 x1 M Q) : aG 11 (aEn 11 [(.int x0), (.int x1)] (mkX M)) (aPi mkX Q) := by
  unfold w_X2_of at h
  refine aG_n 5 (s' := (6, [some (.int x0), some (.int x1)], [(.int (x0 ||| (jshl x1 (nI 8))))], mkX M)) rfl ?_
  exact aG_ret0 rfl rfl ⟨_, _, rfl, h⟩
def wj_X2_settle_47 (z0 : Int32) (z2 : Int32) (s0 : Int32) (M : wM) (Q : Int32 → wM → Prop) : Prop := (s0 = (nI 0) → Q (z0 &&& (z2 ^^^ (-1))) M) ∧ (¬ s0 = (nI 0) → Q (z0 ||| z2) M)
set_option maxRecDepth 20000 in
theorem wjk_X2_settle_47 {z0 : Int32} {z2 : Int32} {s0 : Int32} {M : wM} {Q : Int32 → wM → Prop} (h : wj_X2_settle_47 z0 z2 s0 M Q) : aG 12 (47, [some (.int z0), none, some (.int z2), none, none, none], [(.int s0)], mkX M) (aPi mkX Q) := by
  unfold wj_X2_settle_47 at h
  refine aG_n 2 (s' := (51, [some (.int z0), none, some (.int z2), none, none, some (.int s0)], [(.int s0)], mkX M)) rfl ?_
  obtain ⟨h1, h2⟩ := h
  by_cases q2 : s0 = (nI 0)
  · have h := h1 q2
    refine aG_if (cd := .eq) (b := true) (decide_eq_true q2) rfl ?_
    refine aG_n 5 (s' := (65, [some (.int z0), none, some (.int z2), none, none, some (.int s0)], [(.int (z0 &&& (z2 ^^^ (-1))))], mkX M)) rfl ?_
    exact aG_ret0 rfl rfl ⟨_, _, rfl, h⟩
  · have h := h2 q2
    refine aG_if (cd := .eq) (b := false) (decide_eq_false q2) rfl ?_
    refine aG_n 4 (s' := (65, [some (.int z0), none, some (.int z2), none, none, some (.int s0)], [(.int (z0 ||| z2))], mkX M)) rfl ?_
    exact aG_ret0 rfl rfl ⟨_, _, rfl, h⟩
def wj_X2_settle_32 (z0 : Int32) (z2 : Int32) (z3 : Int32) (z4 : Int32) (M : wM) (Q : Int32 → wM → Prop) : Prop := (z3 = (nI 3) → (z4 = (nI 0) → wj_X2_settle_47 z0 z2 (nI 0) M Q) ∧ (¬ z4 = (nI 0) → wj_X2_settle_47 z0 z2 (nI 1) M Q)) ∧ (¬ z3 = (nI 3) → wj_X2_settle_47 z0 z2 (nI 0) M Q)
set_option maxRecDepth 20000 in
theorem wjk_X2_settle_32 {z0 : Int32} {z2 : Int32} {z3 : Int32} {z4 : Int32} {M : wM} {Q : Int32 → wM → Prop} (h : wj_X2_settle_32 z0 z2 z3 z4 M Q) : aG 12 (32, [some (.int z0), none, some (.int z2), some (.int z3), some (.int z4), none], [], mkX M) (aPi mkX Q) := by
  unfold wj_X2_settle_32 at h
  refine aG_n 2 (s' := (34, [some (.int z0), none, some (.int z2), some (.int z3), some (.int z4), none], [(.int (nI 3)), (.int z3)], mkX M)) rfl ?_
  obtain ⟨h1, h2⟩ := h
  by_cases q5 : z3 = (nI 3)
  · have h := h1 q5
    refine aG_icmp (cd := .ne) (b := false) (aTne0 q5) rfl ?_
    refine aG_n 1 (s' := (39, [some (.int z0), none, some (.int z2), some (.int z3), some (.int z4), none], [(.int z4)], mkX M)) rfl ?_
    obtain ⟨h1, h2⟩ := h
    by_cases q6 : z4 = (nI 0)
    · have h := h1 q6
      refine aG_if (cd := .eq) (b := true) (decide_eq_true q6) rfl ?_
      refine aG_n 1 (s' := (47, [some (.int z0), none, some (.int z2), some (.int z3), some (.int z4), none], [(.int (nI 0))], mkX M)) rfl ?_
      refine aG_le (a := [some (.int z0), none, some (.int z2), none, none, none]) ⟨rfl, ⟨rfl, trivial⟩⟩ ?_
      exact wjk_X2_settle_47 h
    · have h := h2 q6
      refine aG_if (cd := .eq) (b := false) (decide_eq_false q6) rfl ?_
      refine aG_n 2 (s' := (47, [some (.int z0), none, some (.int z2), some (.int z3), some (.int z4), none], [(.int (nI 1))], mkX M)) rfl ?_
      refine aG_le (a := [some (.int z0), none, some (.int z2), none, none, none]) ⟨rfl, ⟨rfl, trivial⟩⟩ ?_
      exact wjk_X2_settle_47 h
  · have h := h2 q5
    refine aG_icmp (cd := .ne) (b := true) (aTne1 q5) rfl ?_
    refine aG_n 1 (s' := (47, [some (.int z0), none, some (.int z2), some (.int z3), some (.int z4), none], [(.int (nI 0))], mkX M)) rfl ?_
    refine aG_le (a := [some (.int z0), none, some (.int z2), none, none, none]) ⟨rfl, ⟨rfl, trivial⟩⟩ ?_
    exact wjk_X2_settle_47 h
def w_X2_settle (x0 : Int32) (x1 : Int32) (M : wM) (Q : Int32 → wM → Prop) : Prop := ((jshr x1 (nI 8)) = (nI 1) → wj_X2_settle_47 x0 (x1 &&& (nI 255)) (nI 1) M Q) ∧ (¬ (jshr x1 (nI 8)) = (nI 1) → ((jshr x1 (nI 8)) = (nI 2) → ((x0 &&& (x1 &&& (nI 255))) = (x1 &&& (nI 255)) → wj_X2_settle_47 x0 (x1 &&& (nI 255)) (nI 1) M Q) ∧ (¬ (x0 &&& (x1 &&& (nI 255))) = (x1 &&& (nI 255)) → wj_X2_settle_32 x0 (x1 &&& (nI 255)) (jshr x1 (nI 8)) (x0 &&& (x1 &&& (nI 255))) M Q)) ∧ (¬ (jshr x1 (nI 8)) = (nI 2) → wj_X2_settle_32 x0 (x1 &&& (nI 255)) (jshr x1 (nI 8)) (x0 &&& (x1 &&& (nI 255))) M Q))
set_option maxRecDepth 20000 in
theorem wk_X2_settle {x0 : Int32} {x1 : Int32} {M : wM} {Q : Int32 → wM → Prop} (h : w_X2_settle x0 x1 M Q) : aG 12 (aEn 12 [(.int x0), (.int x1)] (mkX M)) (aPi mkX Q) := by
  unfold w_X2_settle at h
  refine aG_n 14 (s' := (18, [some (.int x0), some (.int x1), some (.int (x1 &&& (nI 255))), some (.int (jshr x1 (nI 8))), some (.int (x0 &&& (x1 &&& (nI 255)))), none], [(.int (nI 1)), (.int (jshr x1 (nI 8)))], mkX M)) rfl ?_
  obtain ⟨h1, h2⟩ := h
  by_cases q1 : (jshr x1 (nI 8)) = (nI 1)
  · have h := h1 q1
    refine aG_icmp (cd := .eq) (b := true) (decide_eq_true q1) rfl ?_
    refine aG_n 2 (s' := (47, [some (.int x0), some (.int x1), some (.int (x1 &&& (nI 255))), some (.int (jshr x1 (nI 8))), some (.int (x0 &&& (x1 &&& (nI 255)))), none], [(.int (nI 1))], mkX M)) rfl ?_
    refine aG_le (a := [some (.int x0), none, some (.int (x1 &&& (nI 255))), none, none, none]) ⟨rfl, ⟨rfl, trivial⟩⟩ ?_
    exact wjk_X2_settle_47 h
  · have h := h2 q1
    refine aG_icmp (cd := .eq) (b := false) (decide_eq_false q1) rfl ?_
    refine aG_n 2 (s' := (23, [some (.int x0), some (.int x1), some (.int (x1 &&& (nI 255))), some (.int (jshr x1 (nI 8))), some (.int (x0 &&& (x1 &&& (nI 255)))), none], [(.int (nI 2)), (.int (jshr x1 (nI 8)))], mkX M)) rfl ?_
    obtain ⟨h1, h2⟩ := h
    by_cases q3 : (jshr x1 (nI 8)) = (nI 2)
    · have h := h1 q3
      refine aG_icmp (cd := .ne) (b := false) (aTne0 q3) rfl ?_
      refine aG_n 2 (s' := (29, [some (.int x0), some (.int x1), some (.int (x1 &&& (nI 255))), some (.int (jshr x1 (nI 8))), some (.int (x0 &&& (x1 &&& (nI 255)))), none], [(.int (x1 &&& (nI 255))), (.int (x0 &&& (x1 &&& (nI 255))))], mkX M)) rfl ?_
      obtain ⟨h1, h2⟩ := h
      by_cases q4 : (x0 &&& (x1 &&& (nI 255))) = (x1 &&& (nI 255))
      · have h := h1 q4
        refine aG_icmp (cd := .eq) (b := true) (decide_eq_true q4) rfl ?_
        refine aG_n 2 (s' := (47, [some (.int x0), some (.int x1), some (.int (x1 &&& (nI 255))), some (.int (jshr x1 (nI 8))), some (.int (x0 &&& (x1 &&& (nI 255)))), none], [(.int (nI 1))], mkX M)) rfl ?_
        refine aG_le (a := [some (.int x0), none, some (.int (x1 &&& (nI 255))), none, none, none]) ⟨rfl, ⟨rfl, trivial⟩⟩ ?_
        exact wjk_X2_settle_47 h
      · have h := h2 q4
        refine aG_icmp (cd := .eq) (b := false) (decide_eq_false q4) rfl ?_
        refine aG_n 0 (s' := (32, [some (.int x0), some (.int x1), some (.int (x1 &&& (nI 255))), some (.int (jshr x1 (nI 8))), some (.int (x0 &&& (x1 &&& (nI 255)))), none], [], mkX M)) rfl ?_
        refine aG_le (a := [some (.int x0), none, some (.int (x1 &&& (nI 255))), some (.int (jshr x1 (nI 8))), some (.int (x0 &&& (x1 &&& (nI 255)))), none]) ⟨rfl, ⟨rfl, ⟨rfl, ⟨rfl, trivial⟩⟩⟩⟩ ?_
        exact wjk_X2_settle_32 h
    · have h := h2 q3
      refine aG_icmp (cd := .ne) (b := true) (aTne1 q3) rfl ?_
      refine aG_n 0 (s' := (32, [some (.int x0), some (.int x1), some (.int (x1 &&& (nI 255))), some (.int (jshr x1 (nI 8))), some (.int (x0 &&& (x1 &&& (nI 255)))), none], [], mkX M)) rfl ?_
      refine aG_le (a := [some (.int x0), none, some (.int (x1 &&& (nI 255))), some (.int (jshr x1 (nI 8))), some (.int (x0 &&& (x1 &&& (nI 255)))), none]) ⟨rfl, ⟨rfl, ⟨rfl, ⟨rfl, trivial⟩⟩⟩⟩ ?_
      exact wjk_X2_settle_32 h
def w_X2_meet (x0 : Int32) (x1 : Int32) (M : wM) (Q : Int32 → wM → Prop) : Prop := (((x0 &&& x1) &&& (nI 255)) = (nI 0) → Q (nI 0) M) ∧ (¬ ((x0 &&& x1) &&& (nI 255)) = (nI 0) → Q (nI 1) M)
set_option maxRecDepth 20000 in
theorem wk_X2_meet {x0 : Int32} {x1 : Int32} {M : wM} {Q : Int32 → wM → Prop} (h : w_X2_meet x0 x1 M Q) : aG 13 (aEn 13 [(.int x0), (.int x1)] (mkX M)) (aPi mkX Q) := by
  unfold w_X2_meet at h
  refine aG_n 5 (s' := (7, [some (.int x0), some (.int x1)], [(.int ((x0 &&& x1) &&& (nI 255)))], mkX M)) rfl ?_
  obtain ⟨h1, h2⟩ := h
  by_cases q1 : ((x0 &&& x1) &&& (nI 255)) = (nI 0)
  · have h := h1 q1
    refine aG_if (cd := .eq) (b := true) (decide_eq_true q1) rfl ?_
    refine aG_n 1 (s' := (15, [some (.int x0), some (.int x1)], [(.int (nI 0))], mkX M)) rfl ?_
    exact aG_retZ rfl rfl (Or.inl rfl) ⟨_, _, rfl, h⟩
  · have h := h2 q1
    refine aG_if (cd := .eq) (b := false) (decide_eq_false q1) rfl ?_
    refine aG_n 2 (s' := (15, [some (.int x0), some (.int x1)], [(.int (nI 1))], mkX M)) rfl ?_
    exact aG_retZ rfl rfl (Or.inr rfl) ⟨_, _, rfl, h⟩
def w_X3_has (x1 : Int32) (M : wM) (Q : Int32 → wM → Prop) : Prop := (x1 < (nI 0) → Q (nI 0) M) ∧ (¬ x1 < (nI 0) → ((gi M 12 0) ≤ x1 → Q (nI 0) M) ∧ (¬ (gi M 12 0) ≤ x1 → Q (nI 1) M))
set_option maxRecDepth 20000 in
theorem wk_X3_has {x1 : Int32} {M : wM} {Q : Int32 → wM → Prop} (h : w_X3_has x1 M Q) : aG 14 (aEn 14 [(.ref 12), (.int x1)] (mkX M)) (aPi mkX Q) := by
  unfold w_X3_has at h
  refine aG_n 1 (s' := (1, [some (.ref 12), some (.int x1)], [(.int x1)], mkX M)) rfl ?_
  obtain ⟨h1, h2⟩ := h
  by_cases q1 : x1 < (nI 0)
  · have h := h1 q1
    refine aG_if (cd := .lt) (b := true) (decide_eq_true q1) rfl ?_
    refine aG_n 1 (s' := (17, [some (.ref 12), some (.int x1)], [(.int (nI 0))], mkX M)) rfl ?_
    exact aG_retZ rfl rfl (Or.inl rfl) ⟨_, _, rfl, h⟩
  · have h := h2 q1
    refine aG_if (cd := .lt) (b := false) (decide_eq_false q1) rfl ?_
    refine aG_n 3 (s' := (9, [some (.ref 12), some (.int x1)], [(.int (gi M 12 0)), (.int x1)], mkX M)) rfl ?_
    obtain ⟨h1, h2⟩ := h
    by_cases q2 : (gi M 12 0) ≤ x1
    · have h := h1 q2
      refine aG_icmp (cd := .ge) (b := true) (decide_eq_true q2) rfl ?_
      refine aG_n 1 (s' := (17, [some (.ref 12), some (.int x1)], [(.int (nI 0))], mkX M)) rfl ?_
      exact aG_retZ rfl rfl (Or.inl rfl) ⟨_, _, rfl, h⟩
    · have h := h2 q2
      refine aG_icmp (cd := .ge) (b := false) (decide_eq_false q2) rfl ?_
      refine aG_n 2 (s' := (17, [some (.ref 12), some (.int x1)], [(.int (nI 1))], mkX M)) rfl ?_
      exact aG_retZ rfl rfl (Or.inr rfl) ⟨_, _, rfl, h⟩
def wb_X3_hasLeastShort_2 (z1 : Int32) (K2 : Int32 → wM → Prop) (y2 : Int32) (M : wM) (Q : Int32 → wM → Prop) : Prop := ((gi M 12 0) ≤ y2 → Q (nI 0) M) ∧ (¬ (gi M 12 0) ≤ y2 → vp_in z1 8 ∧ (vp_in y2 8 ∧ (((gi M (16 + z1.toNatClampNeg) y2.toNatClampNeg) = (nI 0) → Q (nI 1) M) ∧ (¬ (gi M (16 + z1.toNatClampNeg) y2.toNatClampNeg) = (nI 0) → K2 (y2 + (nI 1)) M))))
set_option maxRecDepth 20000 in
theorem wbk_X3_hasLeastShort_2 {z1 : Int32} {K2 : Int32 → wM → Prop} {y2 : Int32} {M : wM} {Q : Int32 → wM → Prop} (hK2 : ∀ (v2 : Int32) (M : wM), K2 v2 M → aG 15 (2, [some (.ref 12), some (.int z1), some (.int v2)], [], mkX M) (aPi mkX Q)) (h : wb_X3_hasLeastShort_2 z1 K2 y2 M Q) : aG 15 (2, [some (.ref 12), some (.int z1), some (.int y2)], [], mkX M) (aPi mkX Q) := by
  unfold wb_X3_hasLeastShort_2 at h
  refine aG_n 3 (s' := (7, [some (.ref 12), some (.int z1), some (.int y2)], [(.int (gi M 12 0)), (.int y2)], mkX M)) rfl ?_
  obtain ⟨h1, h2⟩ := h
  by_cases q1 : (gi M 12 0) ≤ y2
  · have h := h1 q1
    refine aG_icmp (cd := .ge) (b := true) (decide_eq_true q1) rfl ?_
    refine aG_n 1 (s' := (30, [some (.ref 12), some (.int z1), some (.int y2)], [(.int (nI 0))], mkX M)) rfl ?_
    exact aG_retZ rfl rfl (Or.inl rfl) ⟨_, _, rfl, h⟩
  · have h := h2 q1
    refine aG_icmp (cd := .ge) (b := false) (decide_eq_false q1) rfl ?_
    refine aG_n 3 (s' := (15, [some (.ref 12), some (.int z1), some (.int y2)], [(.int z1), (.ref 15)], mkX M)) rfl ?_
    obtain ⟨f2, h⟩ := h
    refine aG_aald rfl rfl rfl f2 (rX_15 (P := (M).2.2) (vin_lt f2)) ?_
    refine aG_n 1 (s' := (17, [some (.ref 12), some (.int z1), some (.int y2)], [(.int y2), (.ref (16 + z1.toNatClampNeg))], mkX M)) rfl ?_
    obtain ⟨f3, h⟩ := h
    refine aG_iald rfl (shX_row (vin_lt f2)) rfl f3 ?_
    refine aG_n 0 (s' := (18, [some (.ref 12), some (.int z1), some (.int y2)], [(.int (gi M (16 + z1.toNatClampNeg) y2.toNatClampNeg))], mkX M)) rfl ?_
    obtain ⟨h1, h2⟩ := h
    by_cases q4 : (gi M (16 + z1.toNatClampNeg) y2.toNatClampNeg) = (nI 0)
    · have h := h1 q4
      refine aG_if (cd := .ne) (b := false) (aTne0 q4) rfl ?_
      refine aG_n 1 (s' := (22, [some (.ref 12), some (.int z1), some (.int y2)], [(.int (nI 1))], mkX M)) rfl ?_
      exact aG_retZ rfl rfl (Or.inr rfl) ⟨_, _, rfl, h⟩
    · have h := h2 q4
      refine aG_if (cd := .ne) (b := true) (aTne1 q4) rfl ?_
      refine aG_n 2 (s' := (2, [some (.ref 12), some (.int z1), some (.int (y2 + (nI 1)))], [], mkX M)) rfl ?_
      refine aG_le (a := [some (.ref 12), some (.int z1), some (.int (y2 + (nI 1)))]) ⟨rfl, ⟨rfl, ⟨rfl, trivial⟩⟩⟩ ?_
      exact hK2 _ _ h
def wL_X3_hasLeastShort_2 (z1 : Int32) (Q : Int32 → wM → Prop) : Nat → Int32 → wM → Prop
  | 0, _, _ => False
  | n + 1, y2, M => wb_X3_hasLeastShort_2 z1 (wL_X3_hasLeastShort_2 z1 Q n) y2 M Q
set_option maxRecDepth 20000 in
theorem wLk_X3_hasLeastShort_2 {z1 : Int32} {Q : Int32 → wM → Prop} : ∀ (n : Nat) (y2 : Int32) (M : wM), wL_X3_hasLeastShort_2 z1 Q n y2 M → aG 15 (2, [some (.ref 12), some (.int z1), some (.int y2)], [], mkX M) (aPi mkX Q)
  | 0, _, _, h => h.elim
  | n + 1, y2, M, h => wbk_X3_hasLeastShort_2 (fun y2 M h => wLk_X3_hasLeastShort_2 n y2 M h) h
def w_X3_hasLeastShort (x1 : Int32) (M : wM) (Q : Int32 → wM → Prop) : Prop := ∃ n, wL_X3_hasLeastShort_2 x1 Q n (nI 0) M
set_option maxRecDepth 20000 in
theorem wk_X3_hasLeastShort {x1 : Int32} {M : wM} {Q : Int32 → wM → Prop} (h : w_X3_hasLeastShort x1 M Q) : aG 15 (aEn 15 [(.ref 12), (.int x1)] (mkX M)) (aPi mkX Q) := by
  unfold w_X3_hasLeastShort at h
  refine aG_n 2 (s' := (2, [some (.ref 12), some (.int x1), some (.int (nI 0))], [], mkX M)) rfl ?_
  refine aG_le (a := [some (.ref 12), some (.int x1), some (.int (nI 0))]) ⟨rfl, ⟨rfl, ⟨rfl, trivial⟩⟩⟩ ?_
  obtain ⟨n, h⟩ := h
  exact wLk_X3_hasLeastShort_2 n _ _ h
def wb_X3_shortCount_16 (z2 : Int32) (K4 : Int32 → Int32 → wM → Prop) (K16 : Int32 → Int32 → wM → Prop) (y1 : Int32) (y3 : Int32) (M : wM) (Q : Int32 → wM → Prop) : Prop := ((gi M 12 0) ≤ y3 → K4 y1 (z2 + (nI 1)) M) ∧ (¬ (gi M 12 0) ≤ y3 → vp_in z2 8 ∧ (vp_in y3 8 ∧ (((gi M (16 + z2.toNatClampNeg) y3.toNatClampNeg) = (-4) → K16 (y1 + (nI 0)) (y3 + (nI 1)) M) ∧ (¬ (gi M (16 + z2.toNatClampNeg) y3.toNatClampNeg) = (-4) → K16 (y1 + (nI 1)) (y3 + (nI 1)) M))))
set_option maxRecDepth 20000 in
theorem wbk_X3_shortCount_16 {z2 : Int32} {K4 : Int32 → Int32 → wM → Prop} {K16 : Int32 → Int32 → wM → Prop} {y1 : Int32} {y3 : Int32} {M : wM} {Q : Int32 → wM → Prop} (hK4 : ∀ (v1 : Int32) (v2 : Int32) (M : wM), K4 v1 v2 M → aG 16 (4, [some (.ref 12), some (.int v1), some (.int v2), none], [], mkX M) (aPi mkX Q)) (hK16 : ∀ (v1 : Int32) (v3 : Int32) (M : wM), K16 v1 v3 M → aG 16 (16, [some (.ref 12), some (.int v1), some (.int z2), some (.int v3)], [], mkX M) (aPi mkX Q)) (h : wb_X3_shortCount_16 z2 K4 K16 y1 y3 M Q) : aG 16 (16, [some (.ref 12), some (.int y1), some (.int z2), some (.int y3)], [], mkX M) (aPi mkX Q) := by
  unfold wb_X3_shortCount_16 at h
  refine aG_n 3 (s' := (21, [some (.ref 12), some (.int y1), some (.int z2), some (.int y3)], [(.int (gi M 12 0)), (.int y3)], mkX M)) rfl ?_
  obtain ⟨h1, h2⟩ := h
  by_cases q2 : (gi M 12 0) ≤ y3
  · have h := h1 q2
    refine aG_icmp (cd := .ge) (b := true) (decide_eq_true q2) rfl ?_
    refine aG_n 2 (s' := (4, [some (.ref 12), some (.int y1), some (.int (z2 + (nI 1))), some (.int y3)], [], mkX M)) rfl ?_
    refine aG_le (a := [some (.ref 12), some (.int y1), some (.int (z2 + (nI 1))), none]) ⟨rfl, ⟨rfl, ⟨rfl, trivial⟩⟩⟩ ?_
    exact hK4 _ _ _ h
  · have h := h2 q2
    refine aG_icmp (cd := .ge) (b := false) (decide_eq_false q2) rfl ?_
    refine aG_n 4 (s' := (30, [some (.ref 12), some (.int y1), some (.int z2), some (.int y3)], [(.int z2), (.ref 15), (.int y1)], mkX M)) rfl ?_
    obtain ⟨f3, h⟩ := h
    refine aG_aald rfl rfl rfl f3 (rX_15 (P := (M).2.2) (vin_lt f3)) ?_
    refine aG_n 1 (s' := (32, [some (.ref 12), some (.int y1), some (.int z2), some (.int y3)], [(.int y3), (.ref (16 + z2.toNatClampNeg)), (.int y1)], mkX M)) rfl ?_
    obtain ⟨f4, h⟩ := h
    refine aG_iald rfl (shX_row (vin_lt f3)) rfl f4 ?_
    refine aG_n 1 (s' := (35, [some (.ref 12), some (.int y1), some (.int z2), some (.int y3)], [(.int (-4)), (.int (gi M (16 + z2.toNatClampNeg) y3.toNatClampNeg)), (.int y1)], mkX M)) rfl ?_
    obtain ⟨h1, h2⟩ := h
    by_cases q5 : (gi M (16 + z2.toNatClampNeg) y3.toNatClampNeg) = (-4)
    · have h := h1 q5
      refine aG_icmp (cd := .eq) (b := true) (decide_eq_true q5) rfl ?_
      refine aG_n 5 (s' := (16, [some (.ref 12), some (.int (y1 + (nI 0))), some (.int z2), some (.int (y3 + (nI 1)))], [], mkX M)) rfl ?_
      refine aG_le (a := [some (.ref 12), some (.int (y1 + (nI 0))), some (.int z2), some (.int (y3 + (nI 1)))]) ⟨rfl, ⟨rfl, ⟨rfl, ⟨rfl, trivial⟩⟩⟩⟩ ?_
      exact hK16 _ _ _ h
    · have h := h2 q5
      refine aG_icmp (cd := .eq) (b := false) (decide_eq_false q5) rfl ?_
      refine aG_n 6 (s' := (16, [some (.ref 12), some (.int (y1 + (nI 1))), some (.int z2), some (.int (y3 + (nI 1)))], [], mkX M)) rfl ?_
      refine aG_le (a := [some (.ref 12), some (.int (y1 + (nI 1))), some (.int z2), some (.int (y3 + (nI 1)))]) ⟨rfl, ⟨rfl, ⟨rfl, ⟨rfl, trivial⟩⟩⟩⟩ ?_
      exact hK16 _ _ _ h
def wL_X3_shortCount_16 (z2 : Int32) (K4 : Int32 → Int32 → wM → Prop) (Q : Int32 → wM → Prop) : Nat → Int32 → Int32 → wM → Prop
  | 0, _, _, _ => False
  | n + 1, y1, y3, M => wb_X3_shortCount_16 z2 K4 (wL_X3_shortCount_16 z2 K4 Q n) y1 y3 M Q
set_option maxRecDepth 20000 in
theorem wLk_X3_shortCount_16 {z2 : Int32} {K4 : Int32 → Int32 → wM → Prop} {Q : Int32 → wM → Prop} (hK4 : ∀ (v1 : Int32) (v2 : Int32) (M : wM), K4 v1 v2 M → aG 16 (4, [some (.ref 12), some (.int v1), some (.int v2), none], [], mkX M) (aPi mkX Q)) : ∀ (n : Nat) (y1 : Int32) (y3 : Int32) (M : wM), wL_X3_shortCount_16 z2 K4 Q n y1 y3 M → aG 16 (16, [some (.ref 12), some (.int y1), some (.int z2), some (.int y3)], [], mkX M) (aPi mkX Q)
  | 0, _, _, _, h => h.elim
  | n + 1, y1, y3, M, h => wbk_X3_shortCount_16 hK4 (fun y1 y3 M h => wLk_X3_shortCount_16 hK4 n y1 y3 M h) h
def wb_X3_shortCount_4 (K4 : Int32 → Int32 → wM → Prop) (y1 : Int32) (y2 : Int32) (M : wM) (Q : Int32 → wM → Prop) : Prop := ((gi M 12 0) ≤ y2 → Q y1 M) ∧ (¬ (gi M 12 0) ≤ y2 → ∃ n, wL_X3_shortCount_16 y2 K4 Q n y1 (y2 + (nI 1)) M)
set_option maxRecDepth 20000 in
theorem wbk_X3_shortCount_4 {K4 : Int32 → Int32 → wM → Prop} {y1 : Int32} {y2 : Int32} {M : wM} {Q : Int32 → wM → Prop} (hK4 : ∀ (v1 : Int32) (v2 : Int32) (M : wM), K4 v1 v2 M → aG 16 (4, [some (.ref 12), some (.int v1), some (.int v2), none], [], mkX M) (aPi mkX Q)) (h : wb_X3_shortCount_4 K4 y1 y2 M Q) : aG 16 (4, [some (.ref 12), some (.int y1), some (.int y2), none], [], mkX M) (aPi mkX Q) := by
  unfold wb_X3_shortCount_4 at h
  refine aG_n 3 (s' := (9, [some (.ref 12), some (.int y1), some (.int y2), none], [(.int (gi M 12 0)), (.int y2)], mkX M)) rfl ?_
  obtain ⟨h1, h2⟩ := h
  by_cases q1 : (gi M 12 0) ≤ y2
  · have h := h1 q1
    refine aG_icmp (cd := .ge) (b := true) (decide_eq_true q1) rfl ?_
    refine aG_n 1 (s' := (58, [some (.ref 12), some (.int y1), some (.int y2), none], [(.int y1)], mkX M)) rfl ?_
    exact aG_ret0 rfl rfl ⟨_, _, rfl, h⟩
  · have h := h2 q1
    refine aG_icmp (cd := .ge) (b := false) (decide_eq_false q1) rfl ?_
    refine aG_n 4 (s' := (16, [some (.ref 12), some (.int y1), some (.int y2), some (.int (y2 + (nI 1)))], [], mkX M)) rfl ?_
    refine aG_le (a := [some (.ref 12), some (.int y1), some (.int y2), some (.int (y2 + (nI 1)))]) ⟨rfl, ⟨rfl, ⟨rfl, ⟨rfl, trivial⟩⟩⟩⟩ ?_
    obtain ⟨n, h⟩ := h
    exact wLk_X3_shortCount_16 hK4 n _ _ _ h
def wL_X3_shortCount_4 (Q : Int32 → wM → Prop) : Nat → Int32 → Int32 → wM → Prop
  | 0, _, _, _ => False
  | n + 1, y1, y2, M => wb_X3_shortCount_4 (wL_X3_shortCount_4 Q n) y1 y2 M Q
set_option maxRecDepth 20000 in
theorem wLk_X3_shortCount_4 {Q : Int32 → wM → Prop} : ∀ (n : Nat) (y1 : Int32) (y2 : Int32) (M : wM), wL_X3_shortCount_4 Q n y1 y2 M → aG 16 (4, [some (.ref 12), some (.int y1), some (.int y2), none], [], mkX M) (aPi mkX Q)
  | 0, _, _, _, h => h.elim
  | n + 1, y1, y2, M, h => wbk_X3_shortCount_4 (fun y1 y2 M h => wLk_X3_shortCount_4 n y1 y2 M h) h
def w_X3_shortCount (M : wM) (Q : Int32 → wM → Prop) : Prop := ∃ n, wL_X3_shortCount_4 Q n (nI 0) (nI 0) M
set_option maxRecDepth 20000 in
theorem wk_X3_shortCount {M : wM} {Q : Int32 → wM → Prop} (h : w_X3_shortCount M Q) : aG 16 (aEn 16 [(.ref 12)] (mkX M)) (aPi mkX Q) := by
  unfold w_X3_shortCount at h
  refine aG_n 4 (s' := (4, [some (.ref 12), some (.int (nI 0)), some (.int (nI 0)), none], [], mkX M)) rfl ?_
  refine aG_le (a := [some (.ref 12), some (.int (nI 0)), some (.int (nI 0)), none]) ⟨rfl, ⟨rfl, ⟨rfl, trivial⟩⟩⟩ ?_
  obtain ⟨n, h⟩ := h
  exact wLk_X3_shortCount_4 n _ _ _ h
def wb_X3_stuckCount_4 (K4 : Int32 → Int32 → wM → Prop) (y1 : Int32) (y2 : Int32) (M : wM) (Q : Int32 → wM → Prop) : Prop := ((gi M 12 0) ≤ y2 → Q y1 M) ∧ (¬ (gi M 12 0) ≤ y2 → vp_in y2 8 ∧ (((gi M 14 y2.toNatClampNeg) = (-4) → K4 (y1 + (nI 0)) (y2 + (nI 1)) M) ∧ (¬ (gi M 14 y2.toNatClampNeg) = (-4) → K4 (y1 + (nI 1)) (y2 + (nI 1)) M)))
set_option maxRecDepth 20000 in
theorem wbk_X3_stuckCount_4 {K4 : Int32 → Int32 → wM → Prop} {y1 : Int32} {y2 : Int32} {M : wM} {Q : Int32 → wM → Prop} (hK4 : ∀ (v1 : Int32) (v2 : Int32) (M : wM), K4 v1 v2 M → aG 17 (4, [some (.ref 12), some (.int v1), some (.int v2)], [], mkX M) (aPi mkX Q)) (h : wb_X3_stuckCount_4 K4 y1 y2 M Q) : aG 17 (4, [some (.ref 12), some (.int y1), some (.int y2)], [], mkX M) (aPi mkX Q) := by
  unfold wb_X3_stuckCount_4 at h
  refine aG_n 3 (s' := (9, [some (.ref 12), some (.int y1), some (.int y2)], [(.int (gi M 12 0)), (.int y2)], mkX M)) rfl ?_
  obtain ⟨h1, h2⟩ := h
  by_cases q1 : (gi M 12 0) ≤ y2
  · have h := h1 q1
    refine aG_icmp (cd := .ge) (b := true) (decide_eq_true q1) rfl ?_
    refine aG_n 1 (s' := (38, [some (.ref 12), some (.int y1), some (.int y2)], [(.int y1)], mkX M)) rfl ?_
    exact aG_ret0 rfl rfl ⟨_, _, rfl, h⟩
  · have h := h2 q1
    refine aG_icmp (cd := .ge) (b := false) (decide_eq_false q1) rfl ?_
    refine aG_n 4 (s' := (18, [some (.ref 12), some (.int y1), some (.int y2)], [(.int y2), (.ref 14), (.int y1)], mkX M)) rfl ?_
    obtain ⟨f2, h⟩ := h
    refine aG_iald rfl rfl rfl f2 ?_
    refine aG_n 1 (s' := (21, [some (.ref 12), some (.int y1), some (.int y2)], [(.int (-4)), (.int (gi M 14 y2.toNatClampNeg)), (.int y1)], mkX M)) rfl ?_
    obtain ⟨h1, h2⟩ := h
    by_cases q3 : (gi M 14 y2.toNatClampNeg) = (-4)
    · have h := h1 q3
      refine aG_icmp (cd := .eq) (b := true) (decide_eq_true q3) rfl ?_
      refine aG_n 5 (s' := (4, [some (.ref 12), some (.int (y1 + (nI 0))), some (.int (y2 + (nI 1)))], [], mkX M)) rfl ?_
      refine aG_le (a := [some (.ref 12), some (.int (y1 + (nI 0))), some (.int (y2 + (nI 1)))]) ⟨rfl, ⟨rfl, ⟨rfl, trivial⟩⟩⟩ ?_
      exact hK4 _ _ _ h
    · have h := h2 q3
      refine aG_icmp (cd := .eq) (b := false) (decide_eq_false q3) rfl ?_
      refine aG_n 6 (s' := (4, [some (.ref 12), some (.int (y1 + (nI 1))), some (.int (y2 + (nI 1)))], [], mkX M)) rfl ?_
      refine aG_le (a := [some (.ref 12), some (.int (y1 + (nI 1))), some (.int (y2 + (nI 1)))]) ⟨rfl, ⟨rfl, ⟨rfl, trivial⟩⟩⟩ ?_
      exact hK4 _ _ _ h
def wL_X3_stuckCount_4 (Q : Int32 → wM → Prop) : Nat → Int32 → Int32 → wM → Prop
  | 0, _, _, _ => False
  | n + 1, y1, y2, M => wb_X3_stuckCount_4 (wL_X3_stuckCount_4 Q n) y1 y2 M Q
set_option maxRecDepth 20000 in
theorem wLk_X3_stuckCount_4 {Q : Int32 → wM → Prop} : ∀ (n : Nat) (y1 : Int32) (y2 : Int32) (M : wM), wL_X3_stuckCount_4 Q n y1 y2 M → aG 17 (4, [some (.ref 12), some (.int y1), some (.int y2)], [], mkX M) (aPi mkX Q)
  | 0, _, _, _, h => h.elim
  | n + 1, y1, y2, M, h => wbk_X3_stuckCount_4 (fun y1 y2 M h => wLk_X3_stuckCount_4 n y1 y2 M h) h
def w_X3_stuckCount (M : wM) (Q : Int32 → wM → Prop) : Prop := ∃ n, wL_X3_stuckCount_4 Q n (nI 0) (nI 0) M
set_option maxRecDepth 20000 in
theorem wk_X3_stuckCount {M : wM} {Q : Int32 → wM → Prop} (h : w_X3_stuckCount M Q) : aG 17 (aEn 17 [(.ref 12)] (mkX M)) (aPi mkX Q) := by
  unfold w_X3_stuckCount at h
  refine aG_n 4 (s' := (4, [some (.ref 12), some (.int (nI 0)), some (.int (nI 0))], [], mkX M)) rfl ?_
  refine aG_le (a := [some (.ref 12), some (.int (nI 0)), some (.int (nI 0))]) ⟨rfl, ⟨rfl, ⟨rfl, trivial⟩⟩⟩ ?_
  obtain ⟨n, h⟩ := h
  exact wLk_X3_stuckCount_4 n _ _ _ h
def w_X4_clear (t : Nat) (M : wM) (Q : wM → Prop) : Prop := ptX t ∧ (Q (si (si (si (si (si (si M t 0 (nI 0)) t 1 (nI 0)) t 2 (-4)) t 3 (-4)) t 4 (-4)) t 5 (nI 0)))
set_option maxRecDepth 20000 in
theorem wk_X4_clear {t : Nat} {M : wM} {Q : wM → Prop} (h : w_X4_clear t M Q) : aG 19 (aEn 19 [(.ref t)] (mkX M)) (aPv mkX Q) := by
  unfold w_X4_clear at h
  obtain ⟨ht, h⟩ := h
  refine aG_n 2 (s' := (2, [some (.ref t)], [(.int (nI 0)), (.ref t)], mkX M)) rfl ?_
  refine aG_put rfl ht rfl rfl ?_
  refine aG_n 2 (s' := (7, [some (.ref t)], [(.int (nI 0)), (.ref t)], mkX (si M t 0 (nI 0)))) rfl ?_
  refine aG_put rfl ht rfl rfl ?_
  refine aG_n 2 (s' := (13, [some (.ref t)], [(.int (-4)), (.ref t)], mkX (si (si M t 0 (nI 0)) t 1 (nI 0)))) rfl ?_
  refine aG_put rfl ht rfl rfl ?_
  refine aG_n 2 (s' := (19, [some (.ref t)], [(.int (-4)), (.ref t)], mkX (si (si (si M t 0 (nI 0)) t 1 (nI 0)) t 2 (-4)))) rfl ?_
  refine aG_put rfl ht rfl rfl ?_
  refine aG_n 2 (s' := (25, [some (.ref t)], [(.int (-4)), (.ref t)], mkX (si (si (si (si M t 0 (nI 0)) t 1 (nI 0)) t 2 (-4)) t 3 (-4)))) rfl ?_
  refine aG_put rfl ht rfl rfl ?_
  refine aG_n 2 (s' := (30, [some (.ref t)], [(.int (nI 0)), (.ref t)], mkX (si (si (si (si (si M t 0 (nI 0)) t 1 (nI 0)) t 2 (-4)) t 3 (-4)) t 4 (-4)))) rfl ?_
  refine aG_put rfl ht rfl rfl ?_
  refine aG_n 0 (s' := (33, [some (.ref t)], [], mkX (si (si (si (si (si (si M t 0 (nI 0)) t 1 (nI 0)) t 2 (-4)) t 3 (-4)) t 4 (-4)) t 5 (nI 0)))) rfl ?_
  exact aG_retV rfl rfl ⟨_, rfl, h⟩
def w_X4_become (t : Nat) (x1 : Nat) (M : wM) (Q : wM → Prop) : Prop := ptX t ∧ (ptX x1 ∧ (Q (si (si (si (si (si (si M t 0 (gi M x1 0)) t 1 (gi (si M t 0 (gi M x1 0)) x1 1)) t 2 (gi (si (si M t 0 (gi M x1 0)) t 1 (gi (si M t 0 (gi M x1 0)) x1 1)) x1 2)) t 3 (gi (si (si (si M t 0 (gi M x1 0)) t 1 (gi (si M t 0 (gi M x1 0)) x1 1)) t 2 (gi (si (si M t 0 (gi M x1 0)) t 1 (gi (si M t 0 (gi M x1 0)) x1 1)) x1 2)) x1 3)) t 4 (gi (si (si (si (si M t 0 (gi M x1 0)) t 1 (gi (si M t 0 (gi M x1 0)) x1 1)) t 2 (gi (si (si M t 0 (gi M x1 0)) t 1 (gi (si M t 0 (gi M x1 0)) x1 1)) x1 2)) t 3 (gi (si (si (si M t 0 (gi M x1 0)) t 1 (gi (si M t 0 (gi M x1 0)) x1 1)) t 2 (gi (si (si M t 0 (gi M x1 0)) t 1 (gi (si M t 0 (gi M x1 0)) x1 1)) x1 2)) x1 3)) x1 4)) t 5 (gi (si (si (si (si (si M t 0 (gi M x1 0)) t 1 (gi (si M t 0 (gi M x1 0)) x1 1)) t 2 (gi (si (si M t 0 (gi M x1 0)) t 1 (gi (si M t 0 (gi M x1 0)) x1 1)) x1 2)) t 3 (gi (si (si (si M t 0 (gi M x1 0)) t 1 (gi (si M t 0 (gi M x1 0)) x1 1)) t 2 (gi (si (si M t 0 (gi M x1 0)) t 1 (gi (si M t 0 (gi M x1 0)) x1 1)) x1 2)) x1 3)) t 4 (gi (si (si (si (si M t 0 (gi M x1 0)) t 1 (gi (si M t 0 (gi M x1 0)) x1 1)) t 2 (gi (si (si M t 0 (gi M x1 0)) t 1 (gi (si M t 0 (gi M x1 0)) x1 1)) x1 2)) t 3 (gi (si (si (si M t 0 (gi M x1 0)) t 1 (gi (si M t 0 (gi M x1 0)) x1 1)) t 2 (gi (si (si M t 0 (gi M x1 0)) t 1 (gi (si M t 0 (gi M x1 0)) x1 1)) x1 2)) x1 3)) x1 4)) x1 5))))
set_option maxRecDepth 20000 in
theorem wk_X4_become {t : Nat} {x1 : Nat} {M : wM} {Q : wM → Prop} (h : w_X4_become t x1 M Q) : aG 20 (aEn 20 [(.ref t), (.ref x1)] (mkX M)) (aPv mkX Q) := by
  unfold w_X4_become at h
  obtain ⟨ht, h⟩ := h
  obtain ⟨hx1, h⟩ := h
  refine aG_n 2 (s' := (2, [some (.ref t), some (.ref x1)], [(.ref x1), (.ref t)], mkX M)) rfl ?_
  refine aG_get rfl hx1 rfl rfl ?_
  refine aG_n 0 (s' := (5, [some (.ref t), some (.ref x1)], [(.int (gi M x1 0)), (.ref t)], mkX M)) rfl ?_
  refine aG_put rfl ht rfl rfl ?_
  refine aG_n 2 (s' := (10, [some (.ref t), some (.ref x1)], [(.ref x1), (.ref t)], mkX (si M t 0 (gi M x1 0)))) rfl ?_
  refine aG_get rfl hx1 rfl rfl ?_
  refine aG_n 0 (s' := (13, [some (.ref t), some (.ref x1)], [(.int (gi (si M t 0 (gi M x1 0)) x1 1)), (.ref t)], mkX (si M t 0 (gi M x1 0)))) rfl ?_
  refine aG_put rfl ht rfl rfl ?_
  refine aG_n 2 (s' := (18, [some (.ref t), some (.ref x1)], [(.ref x1), (.ref t)], mkX (si (si M t 0 (gi M x1 0)) t 1 (gi (si M t 0 (gi M x1 0)) x1 1)))) rfl ?_
  refine aG_get rfl hx1 rfl rfl ?_
  refine aG_n 0 (s' := (21, [some (.ref t), some (.ref x1)], [(.int (gi (si (si M t 0 (gi M x1 0)) t 1 (gi (si M t 0 (gi M x1 0)) x1 1)) x1 2)), (.ref t)], mkX (si (si M t 0 (gi M x1 0)) t 1 (gi (si M t 0 (gi M x1 0)) x1 1)))) rfl ?_
  refine aG_put rfl ht rfl rfl ?_
  refine aG_n 2 (s' := (26, [some (.ref t), some (.ref x1)], [(.ref x1), (.ref t)], mkX (si (si (si M t 0 (gi M x1 0)) t 1 (gi (si M t 0 (gi M x1 0)) x1 1)) t 2 (gi (si (si M t 0 (gi M x1 0)) t 1 (gi (si M t 0 (gi M x1 0)) x1 1)) x1 2)))) rfl ?_
  refine aG_get rfl hx1 rfl rfl ?_
  refine aG_n 0 (s' := (29, [some (.ref t), some (.ref x1)], [(.int (gi (si (si (si M t 0 (gi M x1 0)) t 1 (gi (si M t 0 (gi M x1 0)) x1 1)) t 2 (gi (si (si M t 0 (gi M x1 0)) t 1 (gi (si M t 0 (gi M x1 0)) x1 1)) x1 2)) x1 3)), (.ref t)], mkX (si (si (si M t 0 (gi M x1 0)) t 1 (gi (si M t 0 (gi M x1 0)) x1 1)) t 2 (gi (si (si M t 0 (gi M x1 0)) t 1 (gi (si M t 0 (gi M x1 0)) x1 1)) x1 2)))) rfl ?_
  refine aG_put rfl ht rfl rfl ?_
  refine aG_n 2 (s' := (34, [some (.ref t), some (.ref x1)], [(.ref x1), (.ref t)], mkX (si (si (si (si M t 0 (gi M x1 0)) t 1 (gi (si M t 0 (gi M x1 0)) x1 1)) t 2 (gi (si (si M t 0 (gi M x1 0)) t 1 (gi (si M t 0 (gi M x1 0)) x1 1)) x1 2)) t 3 (gi (si (si (si M t 0 (gi M x1 0)) t 1 (gi (si M t 0 (gi M x1 0)) x1 1)) t 2 (gi (si (si M t 0 (gi M x1 0)) t 1 (gi (si M t 0 (gi M x1 0)) x1 1)) x1 2)) x1 3)))) rfl ?_
  refine aG_get rfl hx1 rfl rfl ?_
  refine aG_n 0 (s' := (37, [some (.ref t), some (.ref x1)], [(.int (gi (si (si (si (si M t 0 (gi M x1 0)) t 1 (gi (si M t 0 (gi M x1 0)) x1 1)) t 2 (gi (si (si M t 0 (gi M x1 0)) t 1 (gi (si M t 0 (gi M x1 0)) x1 1)) x1 2)) t 3 (gi (si (si (si M t 0 (gi M x1 0)) t 1 (gi (si M t 0 (gi M x1 0)) x1 1)) t 2 (gi (si (si M t 0 (gi M x1 0)) t 1 (gi (si M t 0 (gi M x1 0)) x1 1)) x1 2)) x1 3)) x1 4)), (.ref t)], mkX (si (si (si (si M t 0 (gi M x1 0)) t 1 (gi (si M t 0 (gi M x1 0)) x1 1)) t 2 (gi (si (si M t 0 (gi M x1 0)) t 1 (gi (si M t 0 (gi M x1 0)) x1 1)) x1 2)) t 3 (gi (si (si (si M t 0 (gi M x1 0)) t 1 (gi (si M t 0 (gi M x1 0)) x1 1)) t 2 (gi (si (si M t 0 (gi M x1 0)) t 1 (gi (si M t 0 (gi M x1 0)) x1 1)) x1 2)) x1 3)))) rfl ?_
  refine aG_put rfl ht rfl rfl ?_
  refine aG_n 2 (s' := (42, [some (.ref t), some (.ref x1)], [(.ref x1), (.ref t)], mkX (si (si (si (si (si M t 0 (gi M x1 0)) t 1 (gi (si M t 0 (gi M x1 0)) x1 1)) t 2 (gi (si (si M t 0 (gi M x1 0)) t 1 (gi (si M t 0 (gi M x1 0)) x1 1)) x1 2)) t 3 (gi (si (si (si M t 0 (gi M x1 0)) t 1 (gi (si M t 0 (gi M x1 0)) x1 1)) t 2 (gi (si (si M t 0 (gi M x1 0)) t 1 (gi (si M t 0 (gi M x1 0)) x1 1)) x1 2)) x1 3)) t 4 (gi (si (si (si (si M t 0 (gi M x1 0)) t 1 (gi (si M t 0 (gi M x1 0)) x1 1)) t 2 (gi (si (si M t 0 (gi M x1 0)) t 1 (gi (si M t 0 (gi M x1 0)) x1 1)) x1 2)) t 3 (gi (si (si (si M t 0 (gi M x1 0)) t 1 (gi (si M t 0 (gi M x1 0)) x1 1)) t 2 (gi (si (si M t 0 (gi M x1 0)) t 1 (gi (si M t 0 (gi M x1 0)) x1 1)) x1 2)) x1 3)) x1 4)))) rfl ?_
  refine aG_get rfl hx1 rfl rfl ?_
  refine aG_n 0 (s' := (45, [some (.ref t), some (.ref x1)], [(.int (gi (si (si (si (si (si M t 0 (gi M x1 0)) t 1 (gi (si M t 0 (gi M x1 0)) x1 1)) t 2 (gi (si (si M t 0 (gi M x1 0)) t 1 (gi (si M t 0 (gi M x1 0)) x1 1)) x1 2)) t 3 (gi (si (si (si M t 0 (gi M x1 0)) t 1 (gi (si M t 0 (gi M x1 0)) x1 1)) t 2 (gi (si (si M t 0 (gi M x1 0)) t 1 (gi (si M t 0 (gi M x1 0)) x1 1)) x1 2)) x1 3)) t 4 (gi (si (si (si (si M t 0 (gi M x1 0)) t 1 (gi (si M t 0 (gi M x1 0)) x1 1)) t 2 (gi (si (si M t 0 (gi M x1 0)) t 1 (gi (si M t 0 (gi M x1 0)) x1 1)) x1 2)) t 3 (gi (si (si (si M t 0 (gi M x1 0)) t 1 (gi (si M t 0 (gi M x1 0)) x1 1)) t 2 (gi (si (si M t 0 (gi M x1 0)) t 1 (gi (si M t 0 (gi M x1 0)) x1 1)) x1 2)) x1 3)) x1 4)) x1 5)), (.ref t)], mkX (si (si (si (si (si M t 0 (gi M x1 0)) t 1 (gi (si M t 0 (gi M x1 0)) x1 1)) t 2 (gi (si (si M t 0 (gi M x1 0)) t 1 (gi (si M t 0 (gi M x1 0)) x1 1)) x1 2)) t 3 (gi (si (si (si M t 0 (gi M x1 0)) t 1 (gi (si M t 0 (gi M x1 0)) x1 1)) t 2 (gi (si (si M t 0 (gi M x1 0)) t 1 (gi (si M t 0 (gi M x1 0)) x1 1)) x1 2)) x1 3)) t 4 (gi (si (si (si (si M t 0 (gi M x1 0)) t 1 (gi (si M t 0 (gi M x1 0)) x1 1)) t 2 (gi (si (si M t 0 (gi M x1 0)) t 1 (gi (si M t 0 (gi M x1 0)) x1 1)) x1 2)) t 3 (gi (si (si (si M t 0 (gi M x1 0)) t 1 (gi (si M t 0 (gi M x1 0)) x1 1)) t 2 (gi (si (si M t 0 (gi M x1 0)) t 1 (gi (si M t 0 (gi M x1 0)) x1 1)) x1 2)) x1 3)) x1 4)))) rfl ?_
  refine aG_put rfl ht rfl rfl ?_
  refine aG_n 0 (s' := (48, [some (.ref t), some (.ref x1)], [], mkX (si (si (si (si (si (si M t 0 (gi M x1 0)) t 1 (gi (si M t 0 (gi M x1 0)) x1 1)) t 2 (gi (si (si M t 0 (gi M x1 0)) t 1 (gi (si M t 0 (gi M x1 0)) x1 1)) x1 2)) t 3 (gi (si (si (si M t 0 (gi M x1 0)) t 1 (gi (si M t 0 (gi M x1 0)) x1 1)) t 2 (gi (si (si M t 0 (gi M x1 0)) t 1 (gi (si M t 0 (gi M x1 0)) x1 1)) x1 2)) x1 3)) t 4 (gi (si (si (si (si M t 0 (gi M x1 0)) t 1 (gi (si M t 0 (gi M x1 0)) x1 1)) t 2 (gi (si (si M t 0 (gi M x1 0)) t 1 (gi (si M t 0 (gi M x1 0)) x1 1)) x1 2)) t 3 (gi (si (si (si M t 0 (gi M x1 0)) t 1 (gi (si M t 0 (gi M x1 0)) x1 1)) t 2 (gi (si (si M t 0 (gi M x1 0)) t 1 (gi (si M t 0 (gi M x1 0)) x1 1)) x1 2)) x1 3)) x1 4)) t 5 (gi (si (si (si (si (si M t 0 (gi M x1 0)) t 1 (gi (si M t 0 (gi M x1 0)) x1 1)) t 2 (gi (si (si M t 0 (gi M x1 0)) t 1 (gi (si M t 0 (gi M x1 0)) x1 1)) x1 2)) t 3 (gi (si (si (si M t 0 (gi M x1 0)) t 1 (gi (si M t 0 (gi M x1 0)) x1 1)) t 2 (gi (si (si M t 0 (gi M x1 0)) t 1 (gi (si M t 0 (gi M x1 0)) x1 1)) x1 2)) x1 3)) t 4 (gi (si (si (si (si M t 0 (gi M x1 0)) t 1 (gi (si M t 0 (gi M x1 0)) x1 1)) t 2 (gi (si (si M t 0 (gi M x1 0)) t 1 (gi (si M t 0 (gi M x1 0)) x1 1)) x1 2)) t 3 (gi (si (si (si M t 0 (gi M x1 0)) t 1 (gi (si M t 0 (gi M x1 0)) x1 1)) t 2 (gi (si (si M t 0 (gi M x1 0)) t 1 (gi (si M t 0 (gi M x1 0)) x1 1)) x1 2)) x1 3)) x1 4)) x1 5)))) rfl ?_
  exact aG_retV rfl rfl ⟨_, rfl, h⟩
def w_X4_isWhole (t : Nat) (M : wM) (Q : Int32 → wM → Prop) : Prop := ptX t ∧ (((gi M t 1) ≤ (nI 0) → ((gi M t 3) = (-4) → ((gi M t 4) = (-4) → Q (nI 1) M) ∧ (¬ (gi M t 4) = (-4) → Q (nI 0) M)) ∧ (¬ (gi M t 3) = (-4) → Q (nI 0) M)) ∧ (¬ (gi M t 1) ≤ (nI 0) → ((gi M t 4) = (-4) → Q (nI 0) M) ∧ (¬ (gi M t 4) = (-4) → Q (nI 1) M)))
set_option maxRecDepth 20000 in
theorem wk_X4_isWhole {t : Nat} {M : wM} {Q : Int32 → wM → Prop} (h : w_X4_isWhole t M Q) : aG 21 (aEn 21 [(.ref t)] (mkX M)) (aPi mkX Q) := by
  unfold w_X4_isWhole at h
  obtain ⟨ht, h⟩ := h
  refine aG_n 1 (s' := (1, [some (.ref t)], [(.ref t)], mkX M)) rfl ?_
  refine aG_get rfl ht rfl rfl ?_
  refine aG_n 0 (s' := (4, [some (.ref t)], [(.int (gi M t 1))], mkX M)) rfl ?_
  obtain ⟨h1, h2⟩ := h
  by_cases q1 : (gi M t 1) ≤ (nI 0)
  · have h := h1 q1
    refine aG_if (cd := .le) (b := true) (decide_eq_true q1) rfl ?_
    refine aG_n 1 (s' := (25, [some (.ref t)], [(.ref t)], mkX M)) rfl ?_
    refine aG_get rfl ht rfl rfl ?_
    refine aG_n 1 (s' := (30, [some (.ref t)], [(.int (-4)), (.int (gi M t 3))], mkX M)) rfl ?_
    obtain ⟨h1, h2⟩ := h
    by_cases q2 : (gi M t 3) = (-4)
    · have h := h1 q2
      refine aG_icmp (cd := .ne) (b := false) (aTne0 q2) rfl ?_
      refine aG_n 1 (s' := (34, [some (.ref t)], [(.ref t)], mkX M)) rfl ?_
      refine aG_get rfl ht rfl rfl ?_
      refine aG_n 1 (s' := (39, [some (.ref t)], [(.int (-4)), (.int (gi M t 4))], mkX M)) rfl ?_
      obtain ⟨h1, h2⟩ := h
      by_cases q3 : (gi M t 4) = (-4)
      · have h := h1 q3
        refine aG_icmp (cd := .ne) (b := false) (aTne0 q3) rfl ?_
        refine aG_n 2 (s' := (47, [some (.ref t)], [(.int (nI 1))], mkX M)) rfl ?_
        exact aG_retZ rfl rfl (Or.inr rfl) ⟨_, _, rfl, h⟩
      · have h := h2 q3
        refine aG_icmp (cd := .ne) (b := true) (aTne1 q3) rfl ?_
        refine aG_n 1 (s' := (47, [some (.ref t)], [(.int (nI 0))], mkX M)) rfl ?_
        exact aG_retZ rfl rfl (Or.inl rfl) ⟨_, _, rfl, h⟩
    · have h := h2 q2
      refine aG_icmp (cd := .ne) (b := true) (aTne1 q2) rfl ?_
      refine aG_n 1 (s' := (47, [some (.ref t)], [(.int (nI 0))], mkX M)) rfl ?_
      exact aG_retZ rfl rfl (Or.inl rfl) ⟨_, _, rfl, h⟩
  · have h := h2 q1
    refine aG_if (cd := .le) (b := false) (decide_eq_false q1) rfl ?_
    refine aG_n 1 (s' := (8, [some (.ref t)], [(.ref t)], mkX M)) rfl ?_
    refine aG_get rfl ht rfl rfl ?_
    refine aG_n 1 (s' := (13, [some (.ref t)], [(.int (-4)), (.int (gi M t 4))], mkX M)) rfl ?_
    obtain ⟨h1, h2⟩ := h
    by_cases q4 : (gi M t 4) = (-4)
    · have h := h1 q4
      refine aG_icmp (cd := .eq) (b := true) (decide_eq_true q4) rfl ?_
      refine aG_n 2 (s' := (47, [some (.ref t)], [(.int (nI 0))], mkX M)) rfl ?_
      exact aG_retZ rfl rfl (Or.inl rfl) ⟨_, _, rfl, h⟩
    · have h := h2 q4
      refine aG_icmp (cd := .eq) (b := false) (decide_eq_false q4) rfl ?_
      refine aG_n 2 (s' := (47, [some (.ref t)], [(.int (nI 1))], mkX M)) rfl ?_
      exact aG_retZ rfl rfl (Or.inr rfl) ⟨_, _, rfl, h⟩
