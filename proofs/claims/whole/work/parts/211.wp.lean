/-! methods as predicates, and their walks (by gen/wpgen.py) -/
def w_X3_append (M : wM) (Q : Int32 → wM → Prop) : Prop := ((gi M 12 0) < (nI 8) → w_X3_regroup (si M 12 0 ((gi M 12 0) + (nI 1))) (fun M3 => Q ((gi M3 12 0) - (nI 1)) M3)) ∧ (¬ (gi M 12 0) < (nI 8) → Q (-3) M)
set_option maxRecDepth 20000 in
theorem wk_X3_append {M : wM} {Q : Int32 → wM → Prop} (h : w_X3_append M Q) : aG 164 (aEn 164 [(.ref 12)] (mkX M)) (aPi mkX Q) := by
  unfold w_X3_append at h
  refine aG_n 3 (s' := (6, [some (.ref 12)], [(.int (nI 8)), (.int (gi M 12 0))], mkX M)) rfl ?_
  obtain ⟨h1, h2⟩ := h
  by_cases q1 : (gi M 12 0) < (nI 8)
  · have h := h1 q1
    refine aG_icmp (cd := .lt) (b := true) (decide_eq_true q1) rfl ?_
    refine aG_n 7 (s' := (23, [some (.ref 12)], [(.ref 12)], mkX (si M 12 0 ((gi M 12 0) + (nI 1))))) rfl ?_
    refine aG_call rfl rfl (aG_mono (wk_X3_regroup h) ?_)
    rintro _ ⟨M3, rfl, h⟩
    refine aG_n 4 (s' := (32, [some (.ref 12)], [(.int ((gi M3 12 0) - (nI 1)))], mkX M3)) rfl ?_
    exact aG_ret0 rfl rfl ⟨_, _, rfl, h⟩
  · have h := h2 q1
    refine aG_icmp (cd := .lt) (b := false) (decide_eq_false q1) rfl ?_
    refine aG_n 1 (s' := (11, [some (.ref 12)], [(.int (-3))], mkX M)) rfl ?_
    exact aG_ret0 rfl rfl ⟨_, _, rfl, h⟩
def wb_X10_prepare_16 (z1 : Int32) (K16 : Int32 → wM → Prop) (y2 : Int32) (M : wM) (Q : wM → Prop) : Prop := ((gi M 54 1) ≤ y2 → w_X10_listFaults M (fun M5 => Q M5)) ∧ (¬ (gi M 54 1) ≤ y2 → w_X10_testRow z1 y2 M (fun r6 M7 => vp_in y2 8 ∧ (vp_in y2 8 ∧ (w_X3_levels (gi (si M7 55 y2.toNatClampNeg r6) 55 y2.toNatClampNeg) (si M7 55 y2.toNatClampNeg r6) (fun r10 M11 => vp_in y2 8 ∧ (K16 (y2 + (nI 1)) (si M11 56 y2.toNatClampNeg r10)))))))
set_option maxRecDepth 20000 in
theorem wbk_X10_prepare_16 {z1 : Int32} {K16 : Int32 → wM → Prop} {y2 : Int32} {M : wM} {Q : wM → Prop} (hK16 : ∀ (v2 : Int32) (M : wM), K16 v2 M → aG 165 (16, [some (.ref 54), some (.int z1), some (.int v2)], [], mkX M) (aPv mkX Q)) (h : wb_X10_prepare_16 z1 K16 y2 M Q) : aG 165 (16, [some (.ref 54), some (.int z1), some (.int y2)], [], mkX M) (aPv mkX Q) := by
  unfold wb_X10_prepare_16 at h
  refine aG_n 3 (s' := (21, [some (.ref 54), some (.int z1), some (.int y2)], [(.int (gi M 54 1)), (.int y2)], mkX M)) rfl ?_
  obtain ⟨h1, h2⟩ := h
  by_cases q3 : (gi M 54 1) ≤ y2
  · have h := h1 q3
    refine aG_icmp (cd := .ge) (b := true) (decide_eq_true q3) rfl ?_
    refine aG_n 1 (s' := (62, [some (.ref 54), some (.int z1), some (.int y2)], [(.ref 54)], mkX M)) rfl ?_
    refine aG_call rfl rfl (aG_mono (wk_X10_listFaults h) ?_)
    rintro _ ⟨M5, rfl, h⟩
    refine aG_n 0 (s' := (65, [some (.ref 54), some (.int z1), some (.int y2)], [], mkX M5)) rfl ?_
    exact aG_retV rfl rfl ⟨_, rfl, h⟩
  · have h := h2 q3
    refine aG_icmp (cd := .ge) (b := false) (decide_eq_false q3) rfl ?_
    refine aG_n 6 (s' := (32, [some (.ref 54), some (.int z1), some (.int y2)], [(.int y2), (.int z1), (.ref 54), (.int y2), (.ref 55)], mkX M)) rfl ?_
    refine aG_call rfl rfl (aG_mono (wk_X10_testRow h) ?_)
    rintro _ ⟨r6, M7, rfl, h⟩
    refine aG_n 0 (s' := (35, [some (.ref 54), some (.int z1), some (.int y2)], [(.int r6), (.int y2), (.ref 55)], mkX M7)) rfl ?_
    obtain ⟨f8, h⟩ := h
    refine aG_iast rfl rfl f8 ?_
    refine aG_n 8 (s' := (50, [some (.ref 54), some (.int z1), some (.int y2)], [(.int y2), (.ref 55), (.ref 12), (.int y2), (.ref 56)], mkX (si M7 55 y2.toNatClampNeg r6))) rfl ?_
    obtain ⟨f9, h⟩ := h
    refine aG_iald rfl rfl rfl f9 ?_
    refine aG_n 0 (s' := (51, [some (.ref 54), some (.int z1), some (.int y2)], [(.int (gi (si M7 55 y2.toNatClampNeg r6) 55 y2.toNatClampNeg)), (.ref 12), (.int y2), (.ref 56)], mkX (si M7 55 y2.toNatClampNeg r6))) rfl ?_
    refine aG_call rfl rfl (aG_mono (wk_X3_levels h) ?_)
    rintro _ ⟨r10, M11, rfl, h⟩
    refine aG_n 0 (s' := (54, [some (.ref 54), some (.int z1), some (.int y2)], [(.int r10), (.int y2), (.ref 56)], mkX M11)) rfl ?_
    obtain ⟨f12, h⟩ := h
    refine aG_iast rfl rfl f12 ?_
    refine aG_n 2 (s' := (16, [some (.ref 54), some (.int z1), some (.int (y2 + (nI 1)))], [], mkX (si M11 56 y2.toNatClampNeg r10))) rfl ?_
    refine aG_le (a := [some (.ref 54), some (.int z1), some (.int (y2 + (nI 1)))]) ⟨rfl, ⟨rfl, ⟨rfl, trivial⟩⟩⟩ ?_
    exact hK16 _ _ h
def wL_X10_prepare_16 (z1 : Int32) (Q : wM → Prop) : Nat → Int32 → wM → Prop
  | 0, _, _ => False
  | n + 1, y2, M => wb_X10_prepare_16 z1 (wL_X10_prepare_16 z1 Q n) y2 M Q
set_option maxRecDepth 20000 in
theorem wLk_X10_prepare_16 {z1 : Int32} {Q : wM → Prop} : ∀ (n : Nat) (y2 : Int32) (M : wM), wL_X10_prepare_16 z1 Q n y2 M → aG 165 (16, [some (.ref 54), some (.int z1), some (.int y2)], [], mkX M) (aPv mkX Q)
  | 0, _, _, h => h.elim
  | n + 1, y2, M, h => wbk_X10_prepare_16 (fun y2 M h => wLk_X10_prepare_16 n y2 M h) h
def w_X10_prepare (x1 : Int32) (M : wM) (Q : wM → Prop) : Prop := w_X10_rowCount x1 M (fun r1 M2 => ∃ n, wL_X10_prepare_16 x1 Q n (nI 0) (si M2 54 1 (jmin r1 (nI 8))))
set_option maxRecDepth 20000 in
theorem wk_X10_prepare {x1 : Int32} {M : wM} {Q : wM → Prop} (h : w_X10_prepare x1 M Q) : aG 165 (aEn 165 [(.ref 54), (.int x1)] (mkX M)) (aPv mkX Q) := by
  unfold w_X10_prepare at h
  refine aG_n 3 (s' := (3, [some (.ref 54), some (.int x1), none], [(.int x1), (.ref 54), (.ref 54)], mkX M)) rfl ?_
  refine aG_call rfl rfl (aG_mono (wk_X10_rowCount h) ?_)
  rintro _ ⟨r1, M2, rfl, h⟩
  refine aG_n 5 (s' := (16, [some (.ref 54), some (.int x1), some (.int (nI 0))], [], mkX (si M2 54 1 (jmin r1 (nI 8))))) rfl ?_
  refine aG_le (a := [some (.ref 54), some (.int x1), some (.int (nI 0))]) ⟨rfl, ⟨rfl, ⟨rfl, trivial⟩⟩⟩ ?_
  obtain ⟨n, h⟩ := h
  exact wLk_X10_prepare_16 n _ _ h
def wb_X10_answerOf_6 (z1 : Int32) (z2 : Int32) (z3 : Int32) (K6 : Int32 → Int32 → wM → Prop) (y4 : Int32) (y5 : Int32) (M : wM) (Q : Int32 → wM → Prop) : Prop := ((gi M 54 1) ≤ y5 → Q y4 M) ∧ (¬ (gi M 54 1) ≤ y5 → vp_in y5 8 ∧ (w_X10_levelsBy (gi M 55 y5.toNatClampNeg) z2 z3 M (fun r3 M4 => w_X11_bit r3 z1 M4 (fun r5 M6 => K6 (y4 ||| (jshl r5 y5)) (y5 + (nI 1)) M6))))
set_option maxRecDepth 20000 in
theorem wbk_X10_answerOf_6 {z1 : Int32} {z2 : Int32} {z3 : Int32} {K6 : Int32 → Int32 → wM → Prop} {y4 : Int32} {y5 : Int32} {M : wM} {Q : Int32 → wM → Prop} (hK6 : ∀ (v4 : Int32) (v5 : Int32) (M : wM), K6 v4 v5 M → aG 166 (6, [some (.ref 54), some (.int z1), some (.int z2), some (.int z3), some (.int v4), some (.int v5)], [], mkX M) (aPi mkX Q)) (h : wb_X10_answerOf_6 z1 z2 z3 K6 y4 y5 M Q) : aG 166 (6, [some (.ref 54), some (.int z1), some (.int z2), some (.int z3), some (.int y4), some (.int y5)], [], mkX M) (aPi mkX Q) := by
  unfold wb_X10_answerOf_6 at h
  refine aG_n 3 (s' := (12, [some (.ref 54), some (.int z1), some (.int z2), some (.int z3), some (.int y4), some (.int y5)], [(.int (gi M 54 1)), (.int y5)], mkX M)) rfl ?_
  obtain ⟨h1, h2⟩ := h
  by_cases q1 : (gi M 54 1) ≤ y5
  · have h := h1 q1
    refine aG_icmp (cd := .ge) (b := true) (decide_eq_true q1) rfl ?_
    refine aG_n 1 (s' := (47, [some (.ref 54), some (.int z1), some (.int z2), some (.int z3), some (.int y4), some (.int y5)], [(.int y4)], mkX M)) rfl ?_
    exact aG_ret0 rfl rfl ⟨_, _, rfl, h⟩
  · have h := h2 q1
    refine aG_icmp (cd := .ge) (b := false) (decide_eq_false q1) rfl ?_
    refine aG_n 4 (s' := (23, [some (.ref 54), some (.int z1), some (.int z2), some (.int z3), some (.int y4), some (.int y5)], [(.int y5), (.ref 55), (.int y4)], mkX M)) rfl ?_
    obtain ⟨f2, h⟩ := h
    refine aG_iald rfl rfl rfl f2 ?_
    refine aG_n 2 (s' := (26, [some (.ref 54), some (.int z1), some (.int z2), some (.int z3), some (.int y4), some (.int y5)], [(.int z3), (.int z2), (.int (gi M 55 y5.toNatClampNeg)), (.int y4)], mkX M)) rfl ?_
    refine aG_call rfl rfl (aG_mono (wk_X10_levelsBy h) ?_)
    rintro _ ⟨r3, M4, rfl, h⟩
    refine aG_n 1 (s' := (30, [some (.ref 54), some (.int z1), some (.int z2), some (.int z3), some (.int y4), some (.int y5)], [(.int z1), (.int r3), (.int y4)], mkX M4)) rfl ?_
    refine aG_call rfl rfl (aG_mono (wk_X11_bit h) ?_)
    rintro _ ⟨r5, M6, rfl, h⟩
    refine aG_n 6 (s' := (6, [some (.ref 54), some (.int z1), some (.int z2), some (.int z3), some (.int (y4 ||| (jshl r5 y5))), some (.int (y5 + (nI 1)))], [], mkX M6)) rfl ?_
    refine aG_le (a := [some (.ref 54), some (.int z1), some (.int z2), some (.int z3), some (.int (y4 ||| (jshl r5 y5))), some (.int (y5 + (nI 1)))]) ⟨rfl, ⟨rfl, ⟨rfl, ⟨rfl, ⟨rfl, ⟨rfl, trivial⟩⟩⟩⟩⟩⟩ ?_
    exact hK6 _ _ _ h
def wL_X10_answerOf_6 (z1 : Int32) (z2 : Int32) (z3 : Int32) (Q : Int32 → wM → Prop) : Nat → Int32 → Int32 → wM → Prop
  | 0, _, _, _ => False
  | n + 1, y4, y5, M => wb_X10_answerOf_6 z1 z2 z3 (wL_X10_answerOf_6 z1 z2 z3 Q n) y4 y5 M Q
set_option maxRecDepth 20000 in
theorem wLk_X10_answerOf_6 {z1 : Int32} {z2 : Int32} {z3 : Int32} {Q : Int32 → wM → Prop} : ∀ (n : Nat) (y4 : Int32) (y5 : Int32) (M : wM), wL_X10_answerOf_6 z1 z2 z3 Q n y4 y5 M → aG 166 (6, [some (.ref 54), some (.int z1), some (.int z2), some (.int z3), some (.int y4), some (.int y5)], [], mkX M) (aPi mkX Q)
  | 0, _, _, _, h => h.elim
  | n + 1, y4, y5, M, h => wbk_X10_answerOf_6 (fun y4 y5 M h => wLk_X10_answerOf_6 n y4 y5 M h) h
def w_X10_answerOf (x1 : Int32) (x2 : Int32) (x3 : Int32) (M : wM) (Q : Int32 → wM → Prop) : Prop := ∃ n, wL_X10_answerOf_6 x1 x2 x3 Q n (nI 0) (nI 0) M
set_option maxRecDepth 20000 in
theorem wk_X10_answerOf {x1 : Int32} {x2 : Int32} {x3 : Int32} {M : wM} {Q : Int32 → wM → Prop} (h : w_X10_answerOf x1 x2 x3 M Q) : aG 166 (aEn 166 [(.ref 54), (.int x1), (.int x2), (.int x3)] (mkX M)) (aPi mkX Q) := by
  unfold w_X10_answerOf at h
  refine aG_n 4 (s' := (6, [some (.ref 54), some (.int x1), some (.int x2), some (.int x3), some (.int (nI 0)), some (.int (nI 0))], [], mkX M)) rfl ?_
  refine aG_le (a := [some (.ref 54), some (.int x1), some (.int x2), some (.int x3), some (.int (nI 0)), some (.int (nI 0))]) ⟨rfl, ⟨rfl, ⟨rfl, ⟨rfl, ⟨rfl, ⟨rfl, trivial⟩⟩⟩⟩⟩⟩ ?_
  obtain ⟨n, h⟩ := h
  exact wLk_X10_answerOf_6 n _ _ _ h
def wb_X10_tryGuess_16 (z1 : Int32) (z2 : Int32) (z3 : Int32) (z4 : Int32) (K16 : Int32 → wM → Prop) (y5 : Int32) (M : wM) (Q : wM → Prop) : Prop := ((gi M 54 1) ≤ y5 → ((nI 2556) ≤ (gi M 54 8) → Q M) ∧ (¬ (nI 2556) ≤ (gi M 54 8) → vp_in (gi M 54 8) 2556 ∧ (vp_in (gi M 54 8) 2556 ∧ (vp_in (gi M 54 8) 2556 ∧ (vp_in (gi M 54 8) 2556 ∧ (Q (si (si (si (si (si M 59 (gi M 54 8).toNatClampNeg z1) 60 (gi M 54 8).toNatClampNeg z2) 61 (gi M 54 8).toNatClampNeg z3) 62 (gi M 54 8).toNatClampNeg z4) 54 8 ((gi M 54 8) + (nI 1))))))))) ∧ (¬ (gi M 54 1) ≤ y5 → vp_in y5 8 ∧ (w_X10_levelsBy (gi M 55 y5.toNatClampNeg) z3 z4 M (fun r12 M13 => vp_in y5 8 ∧ ((r12 = (gi M13 56 y5.toNatClampNeg) → K16 (y5 + (nI 1)) M13) ∧ (¬ r12 = (gi M13 56 y5.toNatClampNeg) → Q M13)))))
set_option maxRecDepth 20000 in
theorem wbk_X10_tryGuess_16 {z1 : Int32} {z2 : Int32} {z3 : Int32} {z4 : Int32} {K16 : Int32 → wM → Prop} {y5 : Int32} {M : wM} {Q : wM → Prop} (hK16 : ∀ (v5 : Int32) (M : wM), K16 v5 M → aG 167 (16, [some (.ref 54), some (.int z1), some (.int z2), some (.int z3), some (.int z4), some (.int v5)], [], mkX M) (aPv mkX Q)) (h : wb_X10_tryGuess_16 z1 z2 z3 z4 K16 y5 M Q) : aG 167 (16, [some (.ref 54), some (.int z1), some (.int z2), some (.int z3), some (.int z4), some (.int y5)], [], mkX M) (aPv mkX Q) := by
  unfold wb_X10_tryGuess_16 at h
  refine aG_n 3 (s' := (22, [some (.ref 54), some (.int z1), some (.int z2), some (.int z3), some (.int z4), some (.int y5)], [(.int (gi M 54 1)), (.int y5)], mkX M)) rfl ?_
  obtain ⟨h1, h2⟩ := h
  by_cases q5 : (gi M 54 1) ≤ y5
  · have h := h1 q5
    refine aG_icmp (cd := .ge) (b := true) (decide_eq_true q5) rfl ?_
    refine aG_n 3 (s' := (62, [some (.ref 54), some (.int z1), some (.int z2), some (.int z3), some (.int z4), some (.int y5)], [(.int (nI 2556)), (.int (gi M 54 8))], mkX M)) rfl ?_
    obtain ⟨h1, h2⟩ := h
    by_cases q6 : (nI 2556) ≤ (gi M 54 8)
    · have h := h1 q6
      refine aG_icmp (cd := .ge) (b := true) (decide_eq_true q6) rfl ?_
      refine aG_n 0 (s' := (116, [some (.ref 54), some (.int z1), some (.int z2), some (.int z3), some (.int z4), some (.int y5)], [], mkX M)) rfl ?_
      exact aG_retV rfl rfl ⟨_, rfl, h⟩
    · have h := h2 q6
      refine aG_icmp (cd := .ge) (b := false) (decide_eq_false q6) rfl ?_
      refine aG_n 5 (s' := (74, [some (.ref 54), some (.int z1), some (.int z2), some (.int z3), some (.int z4), some (.int y5)], [(.int z1), (.int (gi M 54 8)), (.ref 59)], mkX M)) rfl ?_
      obtain ⟨f7, h⟩ := h
      refine aG_iast rfl rfl f7 ?_
      refine aG_n 5 (s' := (84, [some (.ref 54), some (.int z1), some (.int z2), some (.int z3), some (.int z4), some (.int y5)], [(.int z2), (.int (gi M 54 8)), (.ref 60)], mkX (si M 59 (gi M 54 8).toNatClampNeg z1))) rfl ?_
      obtain ⟨f8, h⟩ := h
      refine aG_iast rfl rfl f8 ?_
      refine aG_n 5 (s' := (94, [some (.ref 54), some (.int z1), some (.int z2), some (.int z3), some (.int z4), some (.int y5)], [(.int z3), (.int (gi M 54 8)), (.ref 61)], mkX (si (si M 59 (gi M 54 8).toNatClampNeg z1) 60 (gi M 54 8).toNatClampNeg z2))) rfl ?_
      obtain ⟨f9, h⟩ := h
      refine aG_iast rfl rfl f9 ?_
      refine aG_n 5 (s' := (105, [some (.ref 54), some (.int z1), some (.int z2), some (.int z3), some (.int z4), some (.int y5)], [(.int z4), (.int (gi M 54 8)), (.ref 62)], mkX (si (si (si M 59 (gi M 54 8).toNatClampNeg z1) 60 (gi M 54 8).toNatClampNeg z2) 61 (gi M 54 8).toNatClampNeg z3))) rfl ?_
      obtain ⟨f10, h⟩ := h
      refine aG_iast rfl rfl f10 ?_
      refine aG_n 6 (s' := (116, [some (.ref 54), some (.int z1), some (.int z2), some (.int z3), some (.int z4), some (.int y5)], [], mkX (si (si (si (si (si M 59 (gi M 54 8).toNatClampNeg z1) 60 (gi M 54 8).toNatClampNeg z2) 61 (gi M 54 8).toNatClampNeg z3) 62 (gi M 54 8).toNatClampNeg z4) 54 8 ((gi M 54 8) + (nI 1))))) rfl ?_
      exact aG_retV rfl rfl ⟨_, rfl, h⟩
  · have h := h2 q5
    refine aG_icmp (cd := .ge) (b := false) (decide_eq_false q5) rfl ?_
    refine aG_n 3 (s' := (31, [some (.ref 54), some (.int z1), some (.int z2), some (.int z3), some (.int z4), some (.int y5)], [(.int y5), (.ref 55)], mkX M)) rfl ?_
    obtain ⟨f11, h⟩ := h
    refine aG_iald rfl rfl rfl f11 ?_
    refine aG_n 2 (s' := (35, [some (.ref 54), some (.int z1), some (.int z2), some (.int z3), some (.int z4), some (.int y5)], [(.int z4), (.int z3), (.int (gi M 55 y5.toNatClampNeg))], mkX M)) rfl ?_
    refine aG_call rfl rfl (aG_mono (wk_X10_levelsBy h) ?_)
    rintro _ ⟨r12, M13, rfl, h⟩
    refine aG_n 3 (s' := (44, [some (.ref 54), some (.int z1), some (.int z2), some (.int z3), some (.int z4), some (.int y5)], [(.int y5), (.ref 56), (.int r12)], mkX M13)) rfl ?_
    obtain ⟨f14, h⟩ := h
    refine aG_iald rfl rfl rfl f14 ?_
    refine aG_n 0 (s' := (45, [some (.ref 54), some (.int z1), some (.int z2), some (.int z3), some (.int z4), some (.int y5)], [(.int (gi M13 56 y5.toNatClampNeg)), (.int r12)], mkX M13)) rfl ?_
    obtain ⟨h1, h2⟩ := h
    by_cases q15 : r12 = (gi M13 56 y5.toNatClampNeg)
    · have h := h1 q15
      refine aG_icmp (cd := .eq) (b := true) (decide_eq_true q15) rfl ?_
      refine aG_n 2 (s' := (16, [some (.ref 54), some (.int z1), some (.int z2), some (.int z3), some (.int z4), some (.int (y5 + (nI 1)))], [], mkX M13)) rfl ?_
      refine aG_le (a := [some (.ref 54), some (.int z1), some (.int z2), some (.int z3), some (.int z4), some (.int (y5 + (nI 1)))]) ⟨rfl, ⟨rfl, ⟨rfl, ⟨rfl, ⟨rfl, ⟨rfl, trivial⟩⟩⟩⟩⟩⟩ ?_
      exact hK16 _ _ h
    · have h := h2 q15
      refine aG_icmp (cd := .eq) (b := false) (decide_eq_false q15) rfl ?_
      refine aG_n 0 (s' := (48, [some (.ref 54), some (.int z1), some (.int z2), some (.int z3), some (.int z4), some (.int y5)], [], mkX M13)) rfl ?_
      exact aG_retV rfl rfl ⟨_, rfl, h⟩
def wL_X10_tryGuess_16 (z1 : Int32) (z2 : Int32) (z3 : Int32) (z4 : Int32) (Q : wM → Prop) : Nat → Int32 → wM → Prop
  | 0, _, _ => False
  | n + 1, y5, M => wb_X10_tryGuess_16 z1 z2 z3 z4 (wL_X10_tryGuess_16 z1 z2 z3 z4 Q n) y5 M Q
set_option maxRecDepth 20000 in
theorem wLk_X10_tryGuess_16 {z1 : Int32} {z2 : Int32} {z3 : Int32} {z4 : Int32} {Q : wM → Prop} : ∀ (n : Nat) (y5 : Int32) (M : wM), wL_X10_tryGuess_16 z1 z2 z3 z4 Q n y5 M → aG 167 (16, [some (.ref 54), some (.int z1), some (.int z2), some (.int z3), some (.int z4), some (.int y5)], [], mkX M) (aPv mkX Q)
  | 0, _, _, h => h.elim
  | n + 1, y5, M, h => wbk_X10_tryGuess_16 (fun y5 M h => wLk_X10_tryGuess_16 n y5 M h) h
def w_X10_tryGuess (x1 : Int32) (x2 : Int32) (M : wM) (Q : wM → Prop) : Prop := w_X10_groupOf x1 M (fun r1 M2 => w_X10_groupOf x2 M2 (fun r3 M4 => ∃ n, wL_X10_tryGuess_16 x1 x2 r1 r3 Q n (nI 0) M4))
set_option maxRecDepth 20000 in
theorem wk_X10_tryGuess {x1 : Int32} {x2 : Int32} {M : wM} {Q : wM → Prop} (h : w_X10_tryGuess x1 x2 M Q) : aG 167 (aEn 167 [(.ref 54), (.int x1), (.int x2)] (mkX M)) (aPv mkX Q) := by
  unfold w_X10_tryGuess at h
  refine aG_n 2 (s' := (2, [some (.ref 54), some (.int x1), some (.int x2), none, none, none], [(.int x1), (.ref 54)], mkX M)) rfl ?_
  refine aG_call rfl rfl (aG_mono (wk_X10_groupOf h) ?_)
  rintro _ ⟨r1, M2, rfl, h⟩
  refine aG_n 3 (s' := (8, [some (.ref 54), some (.int x1), some (.int x2), some (.int r1), none, none], [(.int x2), (.ref 54)], mkX M2)) rfl ?_
  refine aG_call rfl rfl (aG_mono (wk_X10_groupOf h) ?_)
  rintro _ ⟨r3, M4, rfl, h⟩
  refine aG_n 3 (s' := (16, [some (.ref 54), some (.int x1), some (.int x2), some (.int r1), some (.int r3), some (.int (nI 0))], [], mkX M4)) rfl ?_
  refine aG_le (a := [some (.ref 54), some (.int x1), some (.int x2), some (.int r1), some (.int r3), some (.int (nI 0))]) ⟨rfl, ⟨rfl, ⟨rfl, ⟨rfl, ⟨rfl, ⟨rfl, trivial⟩⟩⟩⟩⟩⟩ ?_
  obtain ⟨n, h⟩ := h
  exact wLk_X10_tryGuess_16 n _ _ h
def wb_X10_greatestHeap_12 (z1 : Int32) (K12 : Int32 → Int32 → wM → Prop) (y2 : Int32) (y3 : Int32) (M : wM) (Q : Int32 → wM → Prop) : Prop := ((gi M 54 8) ≤ y3 → Q y2 M) ∧ (¬ (gi M 54 8) ≤ y3 → vp_in y3 2556 ∧ (vp_in y3 2556 ∧ (w_X10_levelsBy z1 (gi M 61 y3.toNatClampNeg) (gi M 62 y3.toNatClampNeg) M (fun r6 M7 => vp_in (r6 &&& (nI 255)) 256 ∧ (vp_in (r6 &&& (nI 255)) 256 ∧ (vp_in (r6 &&& (nI 255)) 256 ∧ (K12 (jmax y2 (gi (si M7 63 (r6 &&& (nI 255)).toNatClampNeg ((gi M7 63 (r6 &&& (nI 255)).toNatClampNeg) + (nI 1))) 63 (r6 &&& (nI 255)).toNatClampNeg)) (y3 + (nI 1)) (si M7 63 (r6 &&& (nI 255)).toNatClampNeg ((gi M7 63 (r6 &&& (nI 255)).toNatClampNeg) + (nI 1))))))))))
set_option maxRecDepth 20000 in
theorem wbk_X10_greatestHeap_12 {z1 : Int32} {K12 : Int32 → Int32 → wM → Prop} {y2 : Int32} {y3 : Int32} {M : wM} {Q : Int32 → wM → Prop} (hK12 : ∀ (v2 : Int32) (v3 : Int32) (M : wM), K12 v2 v3 M → aG 168 (12, [some (.ref 54), some (.int z1), some (.int v2), some (.int v3), none], [], mkX M) (aPi mkX Q)) (h : wb_X10_greatestHeap_12 z1 K12 y2 y3 M Q) : aG 168 (12, [some (.ref 54), some (.int z1), some (.int y2), some (.int y3), none], [], mkX M) (aPi mkX Q) := by
  unfold wb_X10_greatestHeap_12 at h
  refine aG_n 3 (s' := (17, [some (.ref 54), some (.int z1), some (.int y2), some (.int y3), none], [(.int (gi M 54 8)), (.int y3)], mkX M)) rfl ?_
  obtain ⟨h1, h2⟩ := h
  by_cases q3 : (gi M 54 8) ≤ y3
  · have h := h1 q3
    refine aG_icmp (cd := .ge) (b := true) (decide_eq_true q3) rfl ?_
    refine aG_n 1 (s' := (72, [some (.ref 54), some (.int z1), some (.int y2), some (.int y3), none], [(.int y2)], mkX M)) rfl ?_
    exact aG_ret0 rfl rfl ⟨_, _, rfl, h⟩
  · have h := h2 q3
    refine aG_icmp (cd := .ge) (b := false) (decide_eq_false q3) rfl ?_
    refine aG_n 4 (s' := (26, [some (.ref 54), some (.int z1), some (.int y2), some (.int y3), none], [(.int y3), (.ref 61), (.int z1)], mkX M)) rfl ?_
    obtain ⟨f4, h⟩ := h
    refine aG_iald rfl rfl rfl f4 ?_
    refine aG_n 3 (s' := (32, [some (.ref 54), some (.int z1), some (.int y2), some (.int y3), none], [(.int y3), (.ref 62), (.int (gi M 61 y3.toNatClampNeg)), (.int z1)], mkX M)) rfl ?_
    obtain ⟨f5, h⟩ := h
    refine aG_iald rfl rfl rfl f5 ?_
    refine aG_n 0 (s' := (33, [some (.ref 54), some (.int z1), some (.int y2), some (.int y3), none], [(.int (gi M 62 y3.toNatClampNeg)), (.int (gi M 61 y3.toNatClampNeg)), (.int z1)], mkX M)) rfl ?_
    refine aG_call rfl rfl (aG_mono (wk_X10_levelsBy h) ?_)
    rintro _ ⟨r6, M7, rfl, h⟩
    refine aG_n 7 (s' := (49, [some (.ref 54), some (.int z1), some (.int y2), some (.int y3), some (.int (r6 &&& (nI 255)))], [(.int (r6 &&& (nI 255))), (.ref 63), (.int (r6 &&& (nI 255))), (.ref 63)], mkX M7)) rfl ?_
    obtain ⟨f8, h⟩ := h
    refine aG_iald rfl rfl rfl f8 ?_
    refine aG_n 2 (s' := (52, [some (.ref 54), some (.int z1), some (.int y2), some (.int y3), some (.int (r6 &&& (nI 255)))], [(.int ((gi M7 63 (r6 &&& (nI 255)).toNatClampNeg) + (nI 1))), (.int (r6 &&& (nI 255))), (.ref 63)], mkX M7)) rfl ?_
    obtain ⟨f9, h⟩ := h
    refine aG_iast rfl rfl f9 ?_
    refine aG_n 4 (s' := (60, [some (.ref 54), some (.int z1), some (.int y2), some (.int y3), some (.int (r6 &&& (nI 255)))], [(.int (r6 &&& (nI 255))), (.ref 63), (.int y2)], mkX (si M7 63 (r6 &&& (nI 255)).toNatClampNeg ((gi M7 63 (r6 &&& (nI 255)).toNatClampNeg) + (nI 1))))) rfl ?_
    obtain ⟨f10, h⟩ := h
    refine aG_iald rfl rfl rfl f10 ?_
    refine aG_n 4 (s' := (12, [some (.ref 54), some (.int z1), some (.int (jmax y2 (gi (si M7 63 (r6 &&& (nI 255)).toNatClampNeg ((gi M7 63 (r6 &&& (nI 255)).toNatClampNeg) + (nI 1))) 63 (r6 &&& (nI 255)).toNatClampNeg))), some (.int (y3 + (nI 1))), some (.int (r6 &&& (nI 255)))], [], mkX (si M7 63 (r6 &&& (nI 255)).toNatClampNeg ((gi M7 63 (r6 &&& (nI 255)).toNatClampNeg) + (nI 1))))) rfl ?_
    refine aG_le (a := [some (.ref 54), some (.int z1), some (.int (jmax y2 (gi (si M7 63 (r6 &&& (nI 255)).toNatClampNeg ((gi M7 63 (r6 &&& (nI 255)).toNatClampNeg) + (nI 1))) 63 (r6 &&& (nI 255)).toNatClampNeg))), some (.int (y3 + (nI 1))), none]) ⟨rfl, ⟨rfl, ⟨rfl, ⟨rfl, trivial⟩⟩⟩⟩ ?_
    exact hK12 _ _ _ h
def wL_X10_greatestHeap_12 (z1 : Int32) (Q : Int32 → wM → Prop) : Nat → Int32 → Int32 → wM → Prop
  | 0, _, _, _ => False
  | n + 1, y2, y3, M => wb_X10_greatestHeap_12 z1 (wL_X10_greatestHeap_12 z1 Q n) y2 y3 M Q
set_option maxRecDepth 20000 in
theorem wLk_X10_greatestHeap_12 {z1 : Int32} {Q : Int32 → wM → Prop} : ∀ (n : Nat) (y2 : Int32) (y3 : Int32) (M : wM), wL_X10_greatestHeap_12 z1 Q n y2 y3 M → aG 168 (12, [some (.ref 54), some (.int z1), some (.int y2), some (.int y3), none], [], mkX M) (aPi mkX Q)
  | 0, _, _, _, h => h.elim
  | n + 1, y2, y3, M, h => wbk_X10_greatestHeap_12 (fun y2 y3 M h => wLk_X10_greatestHeap_12 n y2 y3 M h) h
def w_X10_greatestHeap (x1 : Int32) (M : wM) (Q : Int32 → wM → Prop) : Prop := w_J7_fill_53178 63 (nI 0) M (fun M2 => ∃ n, wL_X10_greatestHeap_12 x1 Q n (nI 0) (nI 0) M2)
set_option maxRecDepth 20000 in
theorem wk_X10_greatestHeap {x1 : Int32} {M : wM} {Q : Int32 → wM → Prop} (h : w_X10_greatestHeap x1 M Q) : aG 168 (aEn 168 [(.ref 54), (.int x1)] (mkX M)) (aPi mkX Q) := by
  unfold w_X10_greatestHeap at h
  refine aG_n 3 (s' := (5, [some (.ref 54), some (.int x1), none, none, none], [(.int (nI 0)), (.ref 63)], mkX M)) rfl ?_
  refine aG_call rfl rfl (aG_mono (wk_J7_fill_53178 h) ?_)
  rintro _ ⟨M2, rfl, h⟩
  refine aG_n 4 (s' := (12, [some (.ref 54), some (.int x1), some (.int (nI 0)), some (.int (nI 0)), none], [], mkX M2)) rfl ?_
  refine aG_le (a := [some (.ref 54), some (.int x1), some (.int (nI 0)), some (.int (nI 0)), none]) ⟨rfl, ⟨rfl, ⟨rfl, ⟨rfl, trivial⟩⟩⟩⟩ ?_
  obtain ⟨n, h⟩ := h
  exact wLk_X10_greatestHeap_12 n _ _ _ h
def w_X11_chip (x1 : Int32) (M : wM) (Q : Int32 → wM → Prop) : Prop := (x1 < (nI 0) → Q (-1) M) ∧ (¬ x1 < (nI 0) → (x1 < (gi M 0 3) → ((gi M 26 5) = (nI 0) → vp_in x1 6 ∧ (w_X0_append x1 (65 + x1.toNatClampNeg) M (fun r5 M6 => Q r5 M6))) ∧ (¬ (gi M 26 5) = (nI 0) → Q (-2) M)) ∧ (¬ x1 < (gi M 0 3) → Q (-1) M))
set_option maxRecDepth 20000 in
theorem wk_X11_chip {x1 : Int32} {M : wM} {Q : Int32 → wM → Prop} (h : w_X11_chip x1 M Q) : aG 170 (aEn 170 [(.ref 0), (.int x1)] (mkX M)) (aPi mkX Q) := by
  unfold w_X11_chip at h
  refine aG_n 1 (s' := (1, [some (.ref 0), some (.int x1)], [(.int x1)], mkX M)) rfl ?_
  obtain ⟨h1, h2⟩ := h
  by_cases q1 : x1 < (nI 0)
  · have h := h1 q1
    refine aG_if (cd := .lt) (b := true) (decide_eq_true q1) rfl ?_
    refine aG_n 1 (s' := (13, [some (.ref 0), some (.int x1)], [(.int (-1))], mkX M)) rfl ?_
    exact aG_ret0 rfl rfl ⟨_, _, rfl, h⟩
  · have h := h2 q1
    refine aG_if (cd := .lt) (b := false) (decide_eq_false q1) rfl ?_
    refine aG_n 3 (s' := (9, [some (.ref 0), some (.int x1)], [(.int (gi M 0 3)), (.int x1)], mkX M)) rfl ?_
    obtain ⟨h1, h2⟩ := h
    by_cases q2 : x1 < (gi M 0 3)
    · have h := h1 q2
      refine aG_icmp (cd := .lt) (b := true) (decide_eq_true q2) rfl ?_
      refine aG_n 3 (s' := (21, [some (.ref 0), some (.int x1)], [(.int (gi M 26 5))], mkX M)) rfl ?_
      obtain ⟨h1, h2⟩ := h
      by_cases q3 : (gi M 26 5) = (nI 0)
      · have h := h1 q3
        refine aG_if (cd := .eq) (b := true) (decide_eq_true q3) rfl ?_
        refine aG_n 6 (s' := (37, [some (.ref 0), some (.int x1)], [(.int x1), (.ref 11), (.int x1), (.ref 26)], mkX M)) rfl ?_
        obtain ⟨f4, h⟩ := h
        refine aG_aald rfl rfl rfl f4 (rX_11 (P := (M).2.2) (vin_lt f4)) ?_
        refine aG_n 0 (s' := (38, [some (.ref 0), some (.int x1)], [(.ref (65 + x1.toNatClampNeg)), (.int x1), (.ref 26)], mkX M)) rfl ?_
        refine aG_call rfl rfl (aG_mono (wk_X0_append h) ?_)
        rintro _ ⟨r5, M6, rfl, h⟩
        refine aG_n 0 (s' := (41, [some (.ref 0), some (.int x1)], [(.int r5)], mkX M6)) rfl ?_
        exact aG_ret0 rfl rfl ⟨_, _, rfl, h⟩
      · have h := h2 q3
        refine aG_if (cd := .eq) (b := false) (decide_eq_false q3) rfl ?_
        refine aG_n 1 (s' := (26, [some (.ref 0), some (.int x1)], [(.int (-2))], mkX M)) rfl ?_
        exact aG_ret0 rfl rfl ⟨_, _, rfl, h⟩
    · have h := h2 q2
      refine aG_icmp (cd := .lt) (b := false) (decide_eq_false q2) rfl ?_
      refine aG_n 1 (s' := (13, [some (.ref 0), some (.int x1)], [(.int (-1))], mkX M)) rfl ?_
      exact aG_ret0 rfl rfl ⟨_, _, rfl, h⟩
def w_X11_chipOf (x1 : Int32) (x2 : Int32) (M : wM) (Q : Int32 → wM → Prop) : Prop := w_X0_has x1 M (fun r1 M2 => (r1 = (nI 0) → Q (-1) M2) ∧ (¬ r1 = (nI 0) → vp_in x1 6 ∧ ((x2 = nI 0 → Q (gi M2 (34 + 3 * x1.toNatClampNeg) 0) M2) ∧ (¬ x2 = nI 0 → (x2 = nI 1 → Q (gi M2 (34 + 3 * x1.toNatClampNeg) 2) M2) ∧ (¬ x2 = nI 1 → (x2 = nI 2 → Q (gi M2 (34 + 3 * x1.toNatClampNeg) 3) M2) ∧ (¬ x2 = nI 2 → (x2 = nI 3 → w_X1_registerPlace x1.toNatClampNeg M2 (fun r9 M10 => vp_in r9 3 ∧ (Q (gi M10 (35 + 3 * x1.toNatClampNeg) r9.toNatClampNeg) M10))) ∧ (¬ x2 = nI 3 → (x2 = nI 4 → Q (gi M2 (34 + 3 * x1.toNatClampNeg) 4) M2) ∧ (¬ x2 = nI 4 → (x2 = nI 5 → w_X0_ownLevels M2 (fun r14 M15 => w_X3_levels r14 M15 (fun r16 M17 => w_X1_feet x1.toNatClampNeg r16 M17 (fun r18 M19 => Q r18 M19)))) ∧ (¬ x2 = nI 5 → Q (-1) M2)))))))))
set_option maxRecDepth 20000 in
theorem wk_X11_chipOf {x1 : Int32} {x2 : Int32} {M : wM} {Q : Int32 → wM → Prop} (h : w_X11_chipOf x1 x2 M Q) : aG 171 (aEn 171 [(.ref 0), (.int x1), (.int x2)] (mkX M)) (aPi mkX Q) := by
  unfold w_X11_chipOf at h
  refine aG_n 3 (s' := (5, [some (.ref 0), some (.int x1), some (.int x2), none], [(.int x1), (.ref 26)], mkX M)) rfl ?_
  refine aG_call rfl rfl (aG_mono (wk_X0_has h) ?_)
  rintro _ ⟨r1, M2, rfl, h⟩
  refine aG_n 0 (s' := (8, [some (.ref 0), some (.int x1), some (.int x2), none], [(.int r1)], mkX M2)) rfl ?_
  obtain ⟨h1, h2⟩ := h
  by_cases q3 : r1 = (nI 0)
  · have h := h1 q3
    refine aG_if (cd := .ne) (b := false) (aTne0 q3) rfl ?_
    refine aG_n 1 (s' := (12, [some (.ref 0), some (.int x1), some (.int x2), none], [(.int (-1))], mkX M2)) rfl ?_
    exact aG_ret0 rfl rfl ⟨_, _, rfl, h⟩
  · have h := h2 q3
    refine aG_if (cd := .ne) (b := true) (aTne1 q3) rfl ?_
    refine aG_n 4 (s' := (21, [some (.ref 0), some (.int x1), some (.int x2), none], [(.int x1), (.ref 30)], mkX M2)) rfl ?_
    obtain ⟨f4, h⟩ := h
    refine aG_aald rfl rfl rfl f4 (rX_30 (P := (M2).2.2) (vin_lt f4)) ?_
    refine aG_n 2 (s' := (24, [some (.ref 0), some (.int x1), some (.int x2), some (.ref (34 + 3 * x1.toNatClampNeg))], [(.int x2)], mkX M2)) rfl ?_
    obtain ⟨h1, h⟩ := h
    by_cases q5 : x2 = nI 0
    · have h := h1 q5
      refine aG_tbl rfl (by rw [q5] <;> decide) (by rw [q5] <;> rfl) ?_
      refine aG_n 1 (s' := (65, [some (.ref 0), some (.int x1), some (.int x2), some (.ref (34 + 3 * x1.toNatClampNeg))], [(.ref (34 + 3 * x1.toNatClampNeg))], mkX M2)) rfl ?_
      refine aG_get rfl (shX_chip (vin_lt f4)) rfl rfl ?_
      refine aG_n 0 (s' := (68, [some (.ref 0), some (.int x1), some (.int x2), some (.ref (34 + 3 * x1.toNatClampNeg))], [(.int (gi M2 (34 + 3 * x1.toNatClampNeg) 0))], mkX M2)) rfl ?_
      exact aG_ret0 rfl rfl ⟨_, _, rfl, h⟩
    have h := h q5
    obtain ⟨h1, h⟩ := h
    by_cases q6 : x2 = nI 1
    · have h := h1 q6
      refine aG_tbl rfl (by rw [q6] <;> decide) (by rw [q6] <;> rfl) ?_
      refine aG_n 1 (s' := (70, [some (.ref 0), some (.int x1), some (.int x2), some (.ref (34 + 3 * x1.toNatClampNeg))], [(.ref (34 + 3 * x1.toNatClampNeg))], mkX M2)) rfl ?_
      refine aG_get rfl (shX_chip (vin_lt f4)) rfl rfl ?_
      refine aG_n 0 (s' := (73, [some (.ref 0), some (.int x1), some (.int x2), some (.ref (34 + 3 * x1.toNatClampNeg))], [(.int (gi M2 (34 + 3 * x1.toNatClampNeg) 2))], mkX M2)) rfl ?_
      exact aG_ret0 rfl rfl ⟨_, _, rfl, h⟩
    have h := h q6
    obtain ⟨h1, h⟩ := h
    by_cases q7 : x2 = nI 2
    · have h := h1 q7
      refine aG_tbl rfl (by rw [q7] <;> decide) (by rw [q7] <;> rfl) ?_
      refine aG_n 1 (s' := (75, [some (.ref 0), some (.int x1), some (.int x2), some (.ref (34 + 3 * x1.toNatClampNeg))], [(.ref (34 + 3 * x1.toNatClampNeg))], mkX M2)) rfl ?_
      refine aG_get rfl (shX_chip (vin_lt f4)) rfl rfl ?_
      refine aG_n 0 (s' := (78, [some (.ref 0), some (.int x1), some (.int x2), some (.ref (34 + 3 * x1.toNatClampNeg))], [(.int (gi M2 (34 + 3 * x1.toNatClampNeg) 3))], mkX M2)) rfl ?_
      exact aG_ret0 rfl rfl ⟨_, _, rfl, h⟩
    have h := h q7
    obtain ⟨h1, h⟩ := h
    by_cases q8 : x2 = nI 3
    · have h := h1 q8
      refine aG_tbl rfl (by rw [q8] <;> decide) (by rw [q8] <;> rfl) ?_
      refine aG_n 1 (s' := (80, [some (.ref 0), some (.int x1), some (.int x2), some (.ref (34 + 3 * x1.toNatClampNeg))], [(.ref (34 + 3 * x1.toNatClampNeg))], mkX M2)) rfl ?_
      refine aG_getR rfl (shX_chip (vin_lt f4)) rfl rfl (rX_reg (P := (M2).2.2) (vin_lt f4)) ?_
      refine aG_n 1 (s' := (84, [some (.ref 0), some (.int x1), some (.int x2), some (.ref (34 + 3 * x1.toNatClampNeg))], [(.ref (34 + 3 * x1.toNatClampNeg)), (.ref (35 + 3 * x1.toNatClampNeg))], mkX M2)) rfl ?_
      refine aG_ivv rfl rfl (shX_chip (vin_lt f4)) rfl rfl (aG_mono (wk_X1_registerPlace h) ?_)
      rintro _ ⟨r9, M10, rfl, h⟩
      refine aG_n 0 (s' := (87, [some (.ref 0), some (.int x1), some (.int x2), some (.ref (34 + 3 * x1.toNatClampNeg))], [(.int r9), (.ref (35 + 3 * x1.toNatClampNeg))], mkX M10)) rfl ?_
      obtain ⟨f11, h⟩ := h
      refine aG_iald rfl (shX_reg (vin_lt f4)) rfl f11 ?_
      refine aG_n 0 (s' := (88, [some (.ref 0), some (.int x1), some (.int x2), some (.ref (34 + 3 * x1.toNatClampNeg))], [(.int (gi M10 (35 + 3 * x1.toNatClampNeg) r9.toNatClampNeg))], mkX M10)) rfl ?_
      exact aG_ret0 rfl rfl ⟨_, _, rfl, h⟩
    have h := h q8
    obtain ⟨h1, h⟩ := h
    by_cases q12 : x2 = nI 4
    · have h := h1 q12
      refine aG_tbl rfl (by rw [q12] <;> decide) (by rw [q12] <;> rfl) ?_
      refine aG_n 1 (s' := (90, [some (.ref 0), some (.int x1), some (.int x2), some (.ref (34 + 3 * x1.toNatClampNeg))], [(.ref (34 + 3 * x1.toNatClampNeg))], mkX M2)) rfl ?_
      refine aG_get rfl (shX_chip (vin_lt f4)) rfl rfl ?_
      refine aG_n 0 (s' := (93, [some (.ref 0), some (.int x1), some (.int x2), some (.ref (34 + 3 * x1.toNatClampNeg))], [(.int (gi M2 (34 + 3 * x1.toNatClampNeg) 4))], mkX M2)) rfl ?_
      exact aG_ret0 rfl rfl ⟨_, _, rfl, h⟩
    have h := h q12
    obtain ⟨h1, h⟩ := h
    by_cases q13 : x2 = nI 5
    · have h := h1 q13
      refine aG_tbl rfl (by rw [q13] <;> decide) (by rw [q13] <;> rfl) ?_
      refine aG_n 5 (s' := (103, [some (.ref 0), some (.int x1), some (.int x2), some (.ref (34 + 3 * x1.toNatClampNeg))], [(.ref 26), (.ref 12), (.ref (34 + 3 * x1.toNatClampNeg))], mkX M2)) rfl ?_
      refine aG_call rfl rfl (aG_mono (wk_X0_ownLevels h) ?_)
      rintro _ ⟨r14, M15, rfl, h⟩
      refine aG_n 0 (s' := (106, [some (.ref 0), some (.int x1), some (.int x2), some (.ref (34 + 3 * x1.toNatClampNeg))], [(.int r14), (.ref 12), (.ref (34 + 3 * x1.toNatClampNeg))], mkX M15)) rfl ?_
      refine aG_call rfl rfl (aG_mono (wk_X3_levels h) ?_)
      rintro _ ⟨r16, M17, rfl, h⟩
      refine aG_n 0 (s' := (109, [some (.ref 0), some (.int x1), some (.int x2), some (.ref (34 + 3 * x1.toNatClampNeg))], [(.int r16), (.ref (34 + 3 * x1.toNatClampNeg))], mkX M17)) rfl ?_
      refine aG_ivv rfl rfl (shX_chip (vin_lt f4)) rfl rfl (aG_mono (wk_X1_feet h) ?_)
      rintro _ ⟨r18, M19, rfl, h⟩
      refine aG_n 0 (s' := (112, [some (.ref 0), some (.int x1), some (.int x2), some (.ref (34 + 3 * x1.toNatClampNeg))], [(.int r18)], mkX M19)) rfl ?_
      exact aG_ret0 rfl rfl ⟨_, _, rfl, h⟩
    have h := h q13
    refine aG_tbd rfl (tbl_out 5 (fun k hk _ => ?_) (by decide)) ?_
    · have hk2 : k = 0 ∨ k = 1 ∨ k = 2 ∨ k = 3 ∨ k = 4 ∨ k = 5 := by omega
      rcases hk2 with rfl | rfl | rfl | rfl | rfl | rfl <;> assumption
    refine aG_n 1 (s' := (114, [some (.ref 0), some (.int x1), some (.int x2), some (.ref (34 + 3 * x1.toNatClampNeg))], [(.int (-1))], mkX M2)) rfl ?_
    exact aG_ret0 rfl rfl ⟨_, _, rfl, h⟩
def w_X11_stick (x1 : Int32) (x2 : Int32) (M : wM) (Q : Int32 → wM → Prop) : Prop := w_X3_has x1 M (fun r1 M2 => (r1 = (nI 0) → Q (-1) M2) ∧ (¬ r1 = (nI 0) → w_X11_isLevelOrNone x2 M2 (fun r4 M5 => (r4 = (nI 0) → Q (-1) M5) ∧ (¬ r4 = (nI 0) → vp_in x1 8 ∧ (vp_in x1 8 ∧ (w_X3_regroup (si M5 14 x1.toNatClampNeg x2) (fun M10 => Q (gi M5 14 x1.toNatClampNeg) M10)))))))
set_option maxRecDepth 20000 in
theorem wk_X11_stick {x1 : Int32} {x2 : Int32} {M : wM} {Q : Int32 → wM → Prop} (h : w_X11_stick x1 x2 M Q) : aG 172 (aEn 172 [(.ref 0), (.int x1), (.int x2)] (mkX M)) (aPi mkX Q) := by
  unfold w_X11_stick at h
  refine aG_n 3 (s' := (5, [some (.ref 0), some (.int x1), some (.int x2), none], [(.int x1), (.ref 12)], mkX M)) rfl ?_
  refine aG_call rfl rfl (aG_mono (wk_X3_has h) ?_)
  rintro _ ⟨r1, M2, rfl, h⟩
  refine aG_n 0 (s' := (8, [some (.ref 0), some (.int x1), some (.int x2), none], [(.int r1)], mkX M2)) rfl ?_
  obtain ⟨h1, h2⟩ := h
  by_cases q3 : r1 = (nI 0)
  · have h := h1 q3
    refine aG_if (cd := .eq) (b := true) (decide_eq_true q3) rfl ?_
    refine aG_n 1 (s' := (19, [some (.ref 0), some (.int x1), some (.int x2), none], [(.int (-1))], mkX M2)) rfl ?_
    exact aG_ret0 rfl rfl ⟨_, _, rfl, h⟩
  · have h := h2 q3
    refine aG_if (cd := .eq) (b := false) (decide_eq_false q3) rfl ?_
    refine aG_n 1 (s' := (12, [some (.ref 0), some (.int x1), some (.int x2), none], [(.int x2)], mkX M2)) rfl ?_
    refine aG_call rfl rfl (aG_mono (wk_X11_isLevelOrNone h) ?_)
    rintro _ ⟨r4, M5, rfl, h⟩
    refine aG_n 0 (s' := (15, [some (.ref 0), some (.int x1), some (.int x2), none], [(.int r4)], mkX M5)) rfl ?_
    obtain ⟨h1, h2⟩ := h
    by_cases q6 : r4 = (nI 0)
    · have h := h1 q6
      refine aG_if (cd := .ne) (b := false) (aTne0 q6) rfl ?_
      refine aG_n 1 (s' := (19, [some (.ref 0), some (.int x1), some (.int x2), none], [(.int (-1))], mkX M5)) rfl ?_
      exact aG_ret0 rfl rfl ⟨_, _, rfl, h⟩
    · have h := h2 q6
      refine aG_if (cd := .ne) (b := true) (aTne1 q6) rfl ?_
      refine aG_n 4 (s' := (28, [some (.ref 0), some (.int x1), some (.int x2), none], [(.int x1), (.ref 14)], mkX M5)) rfl ?_
      obtain ⟨f7, h⟩ := h
      refine aG_iald rfl rfl rfl f7 ?_
      refine aG_n 6 (s' := (39, [some (.ref 0), some (.int x1), some (.int x2), some (.int (gi M5 14 x1.toNatClampNeg))], [(.int x2), (.int x1), (.ref 14)], mkX M5)) rfl ?_
      obtain ⟨f8, h⟩ := h
      refine aG_iast rfl rfl f8 ?_
      refine aG_n 2 (s' := (44, [some (.ref 0), some (.int x1), some (.int x2), some (.int (gi M5 14 x1.toNatClampNeg))], [(.ref 12)], mkX (si M5 14 x1.toNatClampNeg x2))) rfl ?_
      refine aG_call rfl rfl (aG_mono (wk_X3_regroup h) ?_)
      rintro _ ⟨M10, rfl, h⟩
      refine aG_n 1 (s' := (48, [some (.ref 0), some (.int x1), some (.int x2), some (.int (gi M5 14 x1.toNatClampNeg))], [(.int (gi M5 14 x1.toNatClampNeg))], mkX M10)) rfl ?_
      exact aG_ret0 rfl rfl ⟨_, _, rfl, h⟩
def w_X11_bridge (x1 : Int32) (x2 : Int32) (x3 : Int32) (M : wM) (Q : Int32 → wM → Prop) : Prop := w_X3_has x1 M (fun r1 M2 => (r1 = (nI 0) → Q (-1) M2) ∧ (¬ r1 = (nI 0) → w_X3_has x2 M2 (fun r4 M5 => (r4 = (nI 0) → Q (-1) M5) ∧ (¬ r4 = (nI 0) → (x1 = x2 → Q (-1) M5) ∧ (¬ x1 = x2 → w_X11_isLevelOrNone x3 M5 (fun r8 M9 => (r8 = (nI 0) → Q (-1) M9) ∧ (¬ r8 = (nI 0) → vp_in x1 8 ∧ (vp_in x2 8 ∧ (vp_in x1 8 ∧ (vp_in x2 8 ∧ (vp_in x2 8 ∧ (vp_in x1 8 ∧ (w_X3_regroup (si (si M9 (16 + x1.toNatClampNeg) x2.toNatClampNeg x3) (16 + x2.toNatClampNeg) x1.toNatClampNeg x3) (fun M18 => Q (gi M9 (16 + x1.toNatClampNeg) x2.toNatClampNeg) M18))))))))))))))
set_option maxRecDepth 20000 in
theorem wk_X11_bridge {x1 : Int32} {x2 : Int32} {x3 : Int32} {M : wM} {Q : Int32 → wM → Prop} (h : w_X11_bridge x1 x2 x3 M Q) : aG 173 (aEn 173 [(.ref 0), (.int x1), (.int x2), (.int x3)] (mkX M)) (aPi mkX Q) := by
  unfold w_X11_bridge at h
  refine aG_n 3 (s' := (5, [some (.ref 0), some (.int x1), some (.int x2), some (.int x3), none], [(.int x1), (.ref 12)], mkX M)) rfl ?_
  refine aG_call rfl rfl (aG_mono (wk_X3_has h) ?_)
  rintro _ ⟨r1, M2, rfl, h⟩
  refine aG_n 0 (s' := (8, [some (.ref 0), some (.int x1), some (.int x2), some (.int x3), none], [(.int r1)], mkX M2)) rfl ?_
  obtain ⟨h1, h2⟩ := h
  by_cases q3 : r1 = (nI 0)
  · have h := h1 q3
    refine aG_if (cd := .eq) (b := true) (decide_eq_true q3) rfl ?_
    refine aG_n 1 (s' := (35, [some (.ref 0), some (.int x1), some (.int x2), some (.int x3), none], [(.int (-1))], mkX M2)) rfl ?_
    exact aG_ret0 rfl rfl ⟨_, _, rfl, h⟩
  · have h := h2 q3
    refine aG_if (cd := .eq) (b := false) (decide_eq_false q3) rfl ?_
    refine aG_n 3 (s' := (16, [some (.ref 0), some (.int x1), some (.int x2), some (.int x3), none], [(.int x2), (.ref 12)], mkX M2)) rfl ?_
    refine aG_call rfl rfl (aG_mono (wk_X3_has h) ?_)
    rintro _ ⟨r4, M5, rfl, h⟩
    refine aG_n 0 (s' := (19, [some (.ref 0), some (.int x1), some (.int x2), some (.int x3), none], [(.int r4)], mkX M5)) rfl ?_
    obtain ⟨h1, h2⟩ := h
    by_cases q6 : r4 = (nI 0)
    · have h := h1 q6
      refine aG_if (cd := .eq) (b := true) (decide_eq_true q6) rfl ?_
      refine aG_n 1 (s' := (35, [some (.ref 0), some (.int x1), some (.int x2), some (.int x3), none], [(.int (-1))], mkX M5)) rfl ?_
      exact aG_ret0 rfl rfl ⟨_, _, rfl, h⟩
    · have h := h2 q6
      refine aG_if (cd := .eq) (b := false) (decide_eq_false q6) rfl ?_
      refine aG_n 2 (s' := (24, [some (.ref 0), some (.int x1), some (.int x2), some (.int x3), none], [(.int x2), (.int x1)], mkX M5)) rfl ?_
      obtain ⟨h1, h2⟩ := h
      by_cases q7 : x1 = x2
      · have h := h1 q7
        refine aG_icmp (cd := .eq) (b := true) (decide_eq_true q7) rfl ?_
        refine aG_n 1 (s' := (35, [some (.ref 0), some (.int x1), some (.int x2), some (.int x3), none], [(.int (-1))], mkX M5)) rfl ?_
        exact aG_ret0 rfl rfl ⟨_, _, rfl, h⟩
      · have h := h2 q7
        refine aG_icmp (cd := .eq) (b := false) (decide_eq_false q7) rfl ?_
        refine aG_n 1 (s' := (28, [some (.ref 0), some (.int x1), some (.int x2), some (.int x3), none], [(.int x3)], mkX M5)) rfl ?_
        refine aG_call rfl rfl (aG_mono (wk_X11_isLevelOrNone h) ?_)
        rintro _ ⟨r8, M9, rfl, h⟩
        refine aG_n 0 (s' := (31, [some (.ref 0), some (.int x1), some (.int x2), some (.int x3), none], [(.int r8)], mkX M9)) rfl ?_
        obtain ⟨h1, h2⟩ := h
        by_cases q10 : r8 = (nI 0)
        · have h := h1 q10
          refine aG_if (cd := .ne) (b := false) (aTne0 q10) rfl ?_
          refine aG_n 1 (s' := (35, [some (.ref 0), some (.int x1), some (.int x2), some (.int x3), none], [(.int (-1))], mkX M9)) rfl ?_
          exact aG_ret0 rfl rfl ⟨_, _, rfl, h⟩
        · have h := h2 q10
          refine aG_if (cd := .ne) (b := true) (aTne1 q10) rfl ?_
          refine aG_n 4 (s' := (44, [some (.ref 0), some (.int x1), some (.int x2), some (.int x3), none], [(.int x1), (.ref 15)], mkX M9)) rfl ?_
          obtain ⟨f11, h⟩ := h
          refine aG_aald rfl rfl rfl f11 (rX_15 (P := (M9).2.2) (vin_lt f11)) ?_
          refine aG_n 1 (s' := (46, [some (.ref 0), some (.int x1), some (.int x2), some (.int x3), none], [(.int x2), (.ref (16 + x1.toNatClampNeg))], mkX M9)) rfl ?_
          obtain ⟨f12, h⟩ := h
          refine aG_iald rfl (shX_row (vin_lt f11)) rfl f12 ?_
          refine aG_n 5 (s' := (57, [some (.ref 0), some (.int x1), some (.int x2), some (.int x3), some (.int (gi M9 (16 + x1.toNatClampNeg) x2.toNatClampNeg))], [(.int x1), (.ref 15)], mkX M9)) rfl ?_
          obtain ⟨f13, h⟩ := h
          refine aG_aald rfl rfl rfl f13 (rX_15 (P := (M9).2.2) (vin_lt f13)) ?_
          refine aG_n 2 (s' := (60, [some (.ref 0), some (.int x1), some (.int x2), some (.int x3), some (.int (gi M9 (16 + x1.toNatClampNeg) x2.toNatClampNeg))], [(.int x3), (.int x2), (.ref (16 + x1.toNatClampNeg))], mkX M9)) rfl ?_
          obtain ⟨f14, h⟩ := h
          refine aG_iast rfl (shX_row (vin_lt f13)) f14 ?_
          refine aG_n 4 (s' := (69, [some (.ref 0), some (.int x1), some (.int x2), some (.int x3), some (.int (gi M9 (16 + x1.toNatClampNeg) x2.toNatClampNeg))], [(.int x2), (.ref 15)], mkX (si M9 (16 + x1.toNatClampNeg) x2.toNatClampNeg x3))) rfl ?_
          obtain ⟨f15, h⟩ := h
          refine aG_aald rfl rfl rfl f15 (rX_15 (P := ((si M9 (16 + x1.toNatClampNeg) x2.toNatClampNeg x3)).2.2) (vin_lt f15)) ?_
          refine aG_n 2 (s' := (72, [some (.ref 0), some (.int x1), some (.int x2), some (.int x3), some (.int (gi M9 (16 + x1.toNatClampNeg) x2.toNatClampNeg))], [(.int x3), (.int x1), (.ref (16 + x2.toNatClampNeg))], mkX (si M9 (16 + x1.toNatClampNeg) x2.toNatClampNeg x3))) rfl ?_
          obtain ⟨f16, h⟩ := h
          refine aG_iast rfl (shX_row (vin_lt f15)) f16 ?_
          refine aG_n 2 (s' := (77, [some (.ref 0), some (.int x1), some (.int x2), some (.int x3), some (.int (gi M9 (16 + x1.toNatClampNeg) x2.toNatClampNeg))], [(.ref 12)], mkX (si (si M9 (16 + x1.toNatClampNeg) x2.toNatClampNeg x3) (16 + x2.toNatClampNeg) x1.toNatClampNeg x3))) rfl ?_
          refine aG_call rfl rfl (aG_mono (wk_X3_regroup h) ?_)
          rintro _ ⟨M18, rfl, h⟩
          refine aG_n 1 (s' := (82, [some (.ref 0), some (.int x1), some (.int x2), some (.int x3), some (.int (gi M9 (16 + x1.toNatClampNeg) x2.toNatClampNeg))], [(.int (gi M9 (16 + x1.toNatClampNeg) x2.toNatClampNeg))], mkX M18)) rfl ?_
          exact aG_ret0 rfl rfl ⟨_, _, rfl, h⟩
def w_X11_netOf (x1 : Int32) (x2 : Int32) (M : wM) (Q : Int32 → wM → Prop) : Prop := w_X3_has x1 M (fun r1 M2 => (r1 = (nI 0) → Q (-1) M2) ∧ (¬ r1 = (nI 0) → (x2 = nI 0 → w_X0_ownLevels M2 (fun r5 M6 => w_X3_levels r5 M6 (fun r7 M8 => w_X11_bit r7 x1 M8 (fun r9 M10 => Q r9 M10)))) ∧ (¬ x2 = nI 0 → (x2 = nI 1 → w_X0_ownLevels M2 (fun r12 M13 => w_X11_bit r12 x1 M13 (fun r14 M15 => Q r14 M15))) ∧ (¬ x2 = nI 1 → (x2 = nI 2 → vp_in x1 8 ∧ (Q (gi M2 13 x1.toNatClampNeg) M2)) ∧ (¬ x2 = nI 2 → (x2 = nI 3 → w_X3_leastOf x1 M2 (fun r19 M20 => Q r19 M20)) ∧ (¬ x2 = nI 3 → Q (-1) M2))))))
set_option maxRecDepth 20000 in
theorem wk_X11_netOf {x1 : Int32} {x2 : Int32} {M : wM} {Q : Int32 → wM → Prop} (h : w_X11_netOf x1 x2 M Q) : aG 174 (aEn 174 [(.ref 0), (.int x1), (.int x2)] (mkX M)) (aPi mkX Q) := by
  unfold w_X11_netOf at h
  refine aG_n 3 (s' := (5, [some (.ref 0), some (.int x1), some (.int x2)], [(.int x1), (.ref 12)], mkX M)) rfl ?_
  refine aG_call rfl rfl (aG_mono (wk_X3_has h) ?_)
  rintro _ ⟨r1, M2, rfl, h⟩
  refine aG_n 0 (s' := (8, [some (.ref 0), some (.int x1), some (.int x2)], [(.int r1)], mkX M2)) rfl ?_
  obtain ⟨h1, h2⟩ := h
  by_cases q3 : r1 = (nI 0)
  · have h := h1 q3
    refine aG_if (cd := .ne) (b := false) (aTne0 q3) rfl ?_
    refine aG_n 1 (s' := (12, [some (.ref 0), some (.int x1), some (.int x2)], [(.int (-1))], mkX M2)) rfl ?_
    exact aG_ret0 rfl rfl ⟨_, _, rfl, h⟩
  · have h := h2 q3
    refine aG_if (cd := .ne) (b := true) (aTne1 q3) rfl ?_
    refine aG_n 1 (s' := (14, [some (.ref 0), some (.int x1), some (.int x2)], [(.int x2)], mkX M2)) rfl ?_
    obtain ⟨h1, h⟩ := h
    by_cases q4 : x2 = nI 0
    · have h := h1 q4
      refine aG_tbl rfl (by rw [q4] <;> decide) (by rw [q4] <;> rfl) ?_
      refine aG_n 4 (s' := (52, [some (.ref 0), some (.int x1), some (.int x2)], [(.ref 26), (.ref 12)], mkX M2)) rfl ?_
      refine aG_call rfl rfl (aG_mono (wk_X0_ownLevels h) ?_)
      rintro _ ⟨r5, M6, rfl, h⟩
      refine aG_n 0 (s' := (55, [some (.ref 0), some (.int x1), some (.int x2)], [(.int r5), (.ref 12)], mkX M6)) rfl ?_
      refine aG_call rfl rfl (aG_mono (wk_X3_levels h) ?_)
      rintro _ ⟨r7, M8, rfl, h⟩
      refine aG_n 1 (s' := (59, [some (.ref 0), some (.int x1), some (.int x2)], [(.int x1), (.int r7)], mkX M8)) rfl ?_
      refine aG_call rfl rfl (aG_mono (wk_X11_bit h) ?_)
      rintro _ ⟨r9, M10, rfl, h⟩
      refine aG_n 0 (s' := (62, [some (.ref 0), some (.int x1), some (.int x2)], [(.int r9)], mkX M10)) rfl ?_
      exact aG_ret0 rfl rfl ⟨_, _, rfl, h⟩
    have h := h q4
    obtain ⟨h1, h⟩ := h
    by_cases q11 : x2 = nI 1
    · have h := h1 q11
      refine aG_tbl rfl (by rw [q11] <;> decide) (by rw [q11] <;> rfl) ?_
      refine aG_n 2 (s' := (67, [some (.ref 0), some (.int x1), some (.int x2)], [(.ref 26)], mkX M2)) rfl ?_
      refine aG_call rfl rfl (aG_mono (wk_X0_ownLevels h) ?_)
      rintro _ ⟨r12, M13, rfl, h⟩
      refine aG_n 1 (s' := (71, [some (.ref 0), some (.int x1), some (.int x2)], [(.int x1), (.int r12)], mkX M13)) rfl ?_
      refine aG_call rfl rfl (aG_mono (wk_X11_bit h) ?_)
      rintro _ ⟨r14, M15, rfl, h⟩
      refine aG_n 0 (s' := (74, [some (.ref 0), some (.int x1), some (.int x2)], [(.int r14)], mkX M15)) rfl ?_
      exact aG_ret0 rfl rfl ⟨_, _, rfl, h⟩
    have h := h q11
    obtain ⟨h1, h⟩ := h
    by_cases q16 : x2 = nI 2
    · have h := h1 q16
      refine aG_tbl rfl (by rw [q16] <;> decide) (by rw [q16] <;> rfl) ?_
      refine aG_n 4 (s' := (83, [some (.ref 0), some (.int x1), some (.int x2)], [(.int x1), (.ref 13)], mkX M2)) rfl ?_
      obtain ⟨f17, h⟩ := h
      refine aG_iald rfl rfl rfl f17 ?_
      refine aG_n 0 (s' := (84, [some (.ref 0), some (.int x1), some (.int x2)], [(.int (gi M2 13 x1.toNatClampNeg))], mkX M2)) rfl ?_
      exact aG_ret0 rfl rfl ⟨_, _, rfl, h⟩
    have h := h q16
    obtain ⟨h1, h⟩ := h
    by_cases q18 : x2 = nI 3
    · have h := h1 q18
      refine aG_tbl rfl (by rw [q18] <;> decide) (by rw [q18] <;> rfl) ?_
      refine aG_n 3 (s' := (90, [some (.ref 0), some (.int x1), some (.int x2)], [(.int x1), (.ref 12)], mkX M2)) rfl ?_
      refine aG_call rfl rfl (aG_mono (wk_X3_leastOf h) ?_)
      rintro _ ⟨r19, M20, rfl, h⟩
      refine aG_n 0 (s' := (93, [some (.ref 0), some (.int x1), some (.int x2)], [(.int r19)], mkX M20)) rfl ?_
      exact aG_ret0 rfl rfl ⟨_, _, rfl, h⟩
    have h := h q18
    refine aG_tbd rfl (tbl_out 3 (fun k hk _ => ?_) (by decide)) ?_
    · have hk2 : k = 0 ∨ k = 1 ∨ k = 2 ∨ k = 3 := by omega
      rcases hk2 with rfl | rfl | rfl | rfl <;> assumption
    refine aG_n 1 (s' := (95, [some (.ref 0), some (.int x1), some (.int x2)], [(.int (-1))], mkX M2)) rfl ?_
    exact aG_ret0 rfl rfl ⟨_, _, rfl, h⟩
def w_X11_cost (x1 : Int32) (M : wM) (Q : Int32 → wM → Prop) : Prop := w_X11_isSort x1 M (fun r1 M2 => (r1 = (nI 0) → Q (-1) M2) ∧ (¬ r1 = (nI 0) → ((gi M2 26 3) = (nI 0) → Q (-2) M2) ∧ (¬ (gi M2 26 3) = (nI 0) → ((gi M2 12 0) = (nI 0) → Q (-2) M2) ∧ (¬ (gi M2 12 0) = (nI 0) → w_X0_orderBits M2 (fun r6 M7 => w_X0_scanTicks (nI 1) r6 M7 (fun r8 M9 => w_X0_testBits M9 (fun r10 M11 => w_X0_scanTicks (nI 0) r10 M11 (fun r12 M13 => w_X10_rowCount x1 M13 (fun r14 M15 => Q (r8 + ((r14 + (nI 1)) * r12)) M15)))))))))
set_option maxRecDepth 20000 in
theorem wk_X11_cost {x1 : Int32} {M : wM} {Q : Int32 → wM → Prop} (h : w_X11_cost x1 M Q) : aG 175 (aEn 175 [(.ref 0), (.int x1)] (mkX M)) (aPi mkX Q) := by
  unfold w_X11_cost at h
  refine aG_n 1 (s' := (1, [some (.ref 0), some (.int x1), none, none], [(.int x1)], mkX M)) rfl ?_
  refine aG_call rfl rfl (aG_mono (wk_X11_isSort h) ?_)
  rintro _ ⟨r1, M2, rfl, h⟩
  refine aG_n 0 (s' := (4, [some (.ref 0), some (.int x1), none, none], [(.int r1)], mkX M2)) rfl ?_
  obtain ⟨h1, h2⟩ := h
  by_cases q3 : r1 = (nI 0)
  · have h := h1 q3
    refine aG_if (cd := .ne) (b := false) (aTne0 q3) rfl ?_
    refine aG_n 1 (s' := (8, [some (.ref 0), some (.int x1), none, none], [(.int (-1))], mkX M2)) rfl ?_
    exact aG_ret0 rfl rfl ⟨_, _, rfl, h⟩
  · have h := h2 q3
    refine aG_if (cd := .ne) (b := true) (aTne1 q3) rfl ?_
    refine aG_n 3 (s' := (16, [some (.ref 0), some (.int x1), none, none], [(.int (gi M2 26 3))], mkX M2)) rfl ?_
    obtain ⟨h1, h2⟩ := h
    by_cases q4 : (gi M2 26 3) = (nI 0)
    · have h := h1 q4
      refine aG_if (cd := .eq) (b := true) (decide_eq_true q4) rfl ?_
      refine aG_n 1 (s' := (31, [some (.ref 0), some (.int x1), none, none], [(.int (-2))], mkX M2)) rfl ?_
      exact aG_ret0 rfl rfl ⟨_, _, rfl, h⟩
    · have h := h2 q4
      refine aG_if (cd := .eq) (b := false) (decide_eq_false q4) rfl ?_
      refine aG_n 3 (s' := (26, [some (.ref 0), some (.int x1), none, none], [(.int (gi M2 12 0))], mkX M2)) rfl ?_
      obtain ⟨h1, h2⟩ := h
      by_cases q5 : (gi M2 12 0) = (nI 0)
      · have h := h1 q5
        refine aG_if (cd := .ne) (b := false) (aTne0 q5) rfl ?_
        refine aG_n 1 (s' := (31, [some (.ref 0), some (.int x1), none, none], [(.int (-2))], mkX M2)) rfl ?_
        exact aG_ret0 rfl rfl ⟨_, _, rfl, h⟩
      · have h := h2 q5
        refine aG_if (cd := .ne) (b := true) (aTne1 q5) rfl ?_
        refine aG_n 5 (s' := (41, [some (.ref 0), some (.int x1), none, none], [(.ref 26), (.int (nI 1)), (.ref 26)], mkX M2)) rfl ?_
        refine aG_call rfl rfl (aG_mono (wk_X0_orderBits h) ?_)
        rintro _ ⟨r6, M7, rfl, h⟩
        refine aG_n 0 (s' := (44, [some (.ref 0), some (.int x1), none, none], [(.int r6), (.int (nI 1)), (.ref 26)], mkX M7)) rfl ?_
        refine aG_call rfl rfl (aG_mono (wk_X0_scanTicks h) ?_)
        rintro _ ⟨r8, M9, rfl, h⟩
        refine aG_n 6 (s' := (57, [some (.ref 0), some (.int x1), some (.int r8), none], [(.ref 26), (.int (nI 0)), (.ref 26)], mkX M9)) rfl ?_
        refine aG_call rfl rfl (aG_mono (wk_X0_testBits h) ?_)
        rintro _ ⟨r10, M11, rfl, h⟩
        refine aG_n 0 (s' := (60, [some (.ref 0), some (.int x1), some (.int r8), none], [(.int r10), (.int (nI 0)), (.ref 26)], mkX M11)) rfl ?_
        refine aG_call rfl rfl (aG_mono (wk_X0_scanTicks h) ?_)
        rintro _ ⟨r12, M13, rfl, h⟩
        refine aG_n 5 (s' := (70, [some (.ref 0), some (.int x1), some (.int r8), some (.int r12)], [(.int x1), (.ref 54), (.int r8)], mkX M13)) rfl ?_
        refine aG_call rfl rfl (aG_mono (wk_X10_rowCount h) ?_)
        rintro _ ⟨r14, M15, rfl, h⟩
        refine aG_n 5 (s' := (78, [some (.ref 0), some (.int x1), some (.int r8), some (.int r12)], [(.int (r8 + ((r14 + (nI 1)) * r12)))], mkX M15)) rfl ?_
        exact aG_ret0 rfl rfl ⟨_, _, rfl, h⟩
def wj_X12_readPart_301 (s1 : Int32) (M : wM) (Q : wM → Prop) : Prop := w_X12_wants s1 (nI 6) M (fun M36 => w_X12_next M36 (fun M38 => Q (si M38 0 7 ((gi M38 0 7) + (nI 1)))))
set_option maxRecDepth 20000 in
theorem wjk_X12_readPart_301 {s1 : Int32} {M : wM} {Q : wM → Prop} (h : wj_X12_readPart_301 s1 M Q) : aG 176 (301, [some (.ref 0), none, none], [(.int s1), (.ref 0)], mkM M) (aPv mkM Q) := by
  unfold wj_X12_readPart_301 at h
  refine aG_n 1 (s' := (303, [some (.ref 0), none, none], [(.int (nI 6)), (.int s1), (.ref 0)], mkM M)) rfl ?_
  refine aG_call rfl rfl (aG_mono (wk_X12_wants h) ?_)
  rintro _ ⟨M36, rfl, h⟩
  refine aG_n 1 (s' := (307, [some (.ref 0), none, none], [(.ref 0)], mkM M36)) rfl ?_
  refine aG_call rfl rfl (aG_mono (wk_X12_next h) ?_)
  rintro _ ⟨M38, rfl, h⟩
  refine aG_n 6 (s' := (320, [some (.ref 0), none, none], [], mkM (si M38 0 7 ((gi M38 0 7) + (nI 1))))) rfl ?_
  exact aG_retV rfl rfl ⟨_, rfl, h⟩
def wj_X12_readPart_276 (z1 : Int32) (M : wM) (Q : wM → Prop) : Prop := vp_in z1 6 ∧ (((gi M 11 z1.toNatClampNeg) = (nI 0) → wj_X12_readPart_301 (nI 1) M Q) ∧ (¬ (gi M 11 z1.toNatClampNeg) = (nI 0) → vp_in z1 6 ∧ (((gi M 10 z1.toNatClampNeg) = (-4) → wj_X12_readPart_301 (nI 0) M Q) ∧ (¬ (gi M 10 z1.toNatClampNeg) = (-4) → wj_X12_readPart_301 (nI 1) M Q))))
set_option maxRecDepth 20000 in
theorem wjk_X12_readPart_276 {z1 : Int32} {M : wM} {Q : wM → Prop} (h : wj_X12_readPart_276 z1 M Q) : aG 176 (276, [some (.ref 0), some (.int z1), none], [(.ref 0)], mkM M) (aPv mkM Q) := by
  unfold wj_X12_readPart_276 at h
  refine aG_n 3 (s' := (281, [some (.ref 0), some (.int z1), none], [(.int z1), (.ref 11), (.ref 0)], mkM M)) rfl ?_
  obtain ⟨f33, h⟩ := h
  refine aG_iald rfl rfl rfl f33 ?_
  refine aG_n 0 (s' := (282, [some (.ref 0), some (.int z1), none], [(.int (gi M 11 z1.toNatClampNeg)), (.ref 0)], mkM M)) rfl ?_
  obtain ⟨h1, h2⟩ := h
  by_cases q34 : (gi M 11 z1.toNatClampNeg) = (nI 0)
  · have h := h1 q34
    refine aG_if (cd := .eq) (b := true) (decide_eq_true q34) rfl ?_
    refine aG_n 2 (s' := (301, [some (.ref 0), some (.int z1), none], [(.int (nI 1)), (.ref 0)], mkM M)) rfl ?_
    refine aG_le (a := [some (.ref 0), none, none]) ⟨rfl, trivial⟩ ?_
    exact wjk_X12_readPart_301 h
  · have h := h2 q34
    refine aG_if (cd := .eq) (b := false) (decide_eq_false q34) rfl ?_
    refine aG_n 3 (s' := (290, [some (.ref 0), some (.int z1), none], [(.int z1), (.ref 10), (.ref 0)], mkM M)) rfl ?_
    obtain ⟨f39, h⟩ := h
    refine aG_iald rfl rfl rfl f39 ?_
    refine aG_n 1 (s' := (293, [some (.ref 0), some (.int z1), none], [(.int (-4)), (.int (gi M 10 z1.toNatClampNeg)), (.ref 0)], mkM M)) rfl ?_
    obtain ⟨h1, h2⟩ := h
    by_cases q40 : (gi M 10 z1.toNatClampNeg) = (-4)
    · have h := h1 q40
      refine aG_icmp (cd := .eq) (b := true) (decide_eq_true q40) rfl ?_
      refine aG_n 1 (s' := (301, [some (.ref 0), some (.int z1), none], [(.int (nI 0)), (.ref 0)], mkM M)) rfl ?_
      refine aG_le (a := [some (.ref 0), none, none]) ⟨rfl, trivial⟩ ?_
      exact wjk_X12_readPart_301 h
    · have h := h2 q40
      refine aG_icmp (cd := .eq) (b := false) (decide_eq_false q40) rfl ?_
      refine aG_n 2 (s' := (301, [some (.ref 0), some (.int z1), none], [(.int (nI 1)), (.ref 0)], mkM M)) rfl ?_
      refine aG_le (a := [some (.ref 0), none, none]) ⟨rfl, trivial⟩ ?_
      exact wjk_X12_readPart_301 h
def wj_X12_readPart_244 (z1 : Int32) (M : wM) (Q : wM → Prop) : Prop := vp_in z1 6 ∧ (((gi M 9 z1.toNatClampNeg) = (-4) → vp_in z1 6 ∧ (((gi M 10 z1.toNatClampNeg) = (-4) → wj_X12_readPart_276 z1 M Q) ∧ (¬ (gi M 10 z1.toNatClampNeg) = (-4) → vp_in z1 6 ∧ (((gi M 11 z1.toNatClampNeg) ≤ (nI 0) → wj_X12_readPart_301 (nI 0) M Q) ∧ (¬ (gi M 11 z1.toNatClampNeg) ≤ (nI 0) → wj_X12_readPart_276 z1 M Q))))) ∧ (¬ (gi M 9 z1.toNatClampNeg) = (-4) → vp_in z1 6 ∧ (((gi M 11 z1.toNatClampNeg) ≤ (nI 0) → wj_X12_readPart_301 (nI 0) M Q) ∧ (¬ (gi M 11 z1.toNatClampNeg) ≤ (nI 0) → wj_X12_readPart_276 z1 M Q))))
set_option maxRecDepth 20000 in
theorem wjk_X12_readPart_244 {z1 : Int32} {M : wM} {Q : wM → Prop} (h : wj_X12_readPart_244 z1 M Q) : aG 176 (244, [some (.ref 0), some (.int z1), none], [], mkM M) (aPv mkM Q) := by
  unfold wj_X12_readPart_244 at h
  refine aG_n 4 (s' := (250, [some (.ref 0), some (.int z1), none], [(.int z1), (.ref 9), (.ref 0)], mkM M)) rfl ?_
  obtain ⟨f29, h⟩ := h
  refine aG_iald rfl rfl rfl f29 ?_
  refine aG_n 1 (s' := (253, [some (.ref 0), some (.int z1), none], [(.int (-4)), (.int (gi M 9 z1.toNatClampNeg)), (.ref 0)], mkM M)) rfl ?_
  obtain ⟨h1, h2⟩ := h
  by_cases q30 : (gi M 9 z1.toNatClampNeg) = (-4)
  · have h := h1 q30
    refine aG_icmp (cd := .ne) (b := false) (aTne0 q30) rfl ?_
    refine aG_n 3 (s' := (261, [some (.ref 0), some (.int z1), none], [(.int z1), (.ref 10), (.ref 0)], mkM M)) rfl ?_
    obtain ⟨f31, h⟩ := h
    refine aG_iald rfl rfl rfl f31 ?_
    refine aG_n 1 (s' := (264, [some (.ref 0), some (.int z1), none], [(.int (-4)), (.int (gi M 10 z1.toNatClampNeg)), (.ref 0)], mkM M)) rfl ?_
    obtain ⟨h1, h2⟩ := h
    by_cases q32 : (gi M 10 z1.toNatClampNeg) = (-4)
    · have h := h1 q32
      refine aG_icmp (cd := .eq) (b := true) (decide_eq_true q32) rfl ?_
      refine aG_n 0 (s' := (276, [some (.ref 0), some (.int z1), none], [(.ref 0)], mkM M)) rfl ?_
      refine aG_le (a := [some (.ref 0), some (.int z1), none]) ⟨rfl, ⟨rfl, trivial⟩⟩ ?_
      exact wjk_X12_readPart_276 h
    · have h := h2 q32
      refine aG_icmp (cd := .eq) (b := false) (decide_eq_false q32) rfl ?_
      refine aG_n 3 (s' := (272, [some (.ref 0), some (.int z1), none], [(.int z1), (.ref 11), (.ref 0)], mkM M)) rfl ?_
      obtain ⟨f41, h⟩ := h
      refine aG_iald rfl rfl rfl f41 ?_
      refine aG_n 0 (s' := (273, [some (.ref 0), some (.int z1), none], [(.int (gi M 11 z1.toNatClampNeg)), (.ref 0)], mkM M)) rfl ?_
      obtain ⟨h1, h2⟩ := h
      by_cases q42 : (gi M 11 z1.toNatClampNeg) ≤ (nI 0)
      · have h := h1 q42
        refine aG_if (cd := .le) (b := true) (decide_eq_true q42) rfl ?_
        refine aG_n 1 (s' := (301, [some (.ref 0), some (.int z1), none], [(.int (nI 0)), (.ref 0)], mkM M)) rfl ?_
        refine aG_le (a := [some (.ref 0), none, none]) ⟨rfl, trivial⟩ ?_
        exact wjk_X12_readPart_301 h
      · have h := h2 q42
        refine aG_if (cd := .le) (b := false) (decide_eq_false q42) rfl ?_
        refine aG_n 0 (s' := (276, [some (.ref 0), some (.int z1), none], [(.ref 0)], mkM M)) rfl ?_
        refine aG_le (a := [some (.ref 0), some (.int z1), none]) ⟨rfl, ⟨rfl, trivial⟩⟩ ?_
        exact wjk_X12_readPart_276 h
  · have h := h2 q30
    refine aG_icmp (cd := .ne) (b := true) (aTne1 q30) rfl ?_
    refine aG_n 3 (s' := (272, [some (.ref 0), some (.int z1), none], [(.int z1), (.ref 11), (.ref 0)], mkM M)) rfl ?_
    obtain ⟨f43, h⟩ := h
    refine aG_iald rfl rfl rfl f43 ?_
    refine aG_n 0 (s' := (273, [some (.ref 0), some (.int z1), none], [(.int (gi M 11 z1.toNatClampNeg)), (.ref 0)], mkM M)) rfl ?_
    obtain ⟨h1, h2⟩ := h
    by_cases q44 : (gi M 11 z1.toNatClampNeg) ≤ (nI 0)
    · have h := h1 q44
      refine aG_if (cd := .le) (b := true) (decide_eq_true q44) rfl ?_
      refine aG_n 1 (s' := (301, [some (.ref 0), some (.int z1), none], [(.int (nI 0)), (.ref 0)], mkM M)) rfl ?_
      refine aG_le (a := [some (.ref 0), none, none]) ⟨rfl, trivial⟩ ?_
      exact wjk_X12_readPart_301 h
    · have h := h2 q44
      refine aG_if (cd := .le) (b := false) (decide_eq_false q44) rfl ?_
      refine aG_n 0 (s' := (276, [some (.ref 0), some (.int z1), none], [(.ref 0)], mkM M)) rfl ?_
      refine aG_le (a := [some (.ref 0), some (.int z1), none]) ⟨rfl, ⟨rfl, trivial⟩⟩ ?_
      exact wjk_X12_readPart_276 h
def wj_X12_readPart_225 (z1 : Int32) (z2 : Int32) (K141 : wM → Prop) (M : wM) (Q : wM → Prop) : Prop := ((gi M 0 20) = (nI 0) → w_X12_readNumber z2 M (fun M66 => w_X12_next M66 (fun M68 => K141 M68))) ∧ (¬ (gi M 0 20) = (nI 0) → w_X12_next M (fun M70 => K141 M70))
set_option maxRecDepth 20000 in
theorem wjk_X12_readPart_225 {z1 : Int32} {z2 : Int32} {K141 : wM → Prop} {M : wM} {Q : wM → Prop} (hK141 : ∀ (M : wM), K141 M → aG 176 (141, [some (.ref 0), some (.int z1), none], [], mkM M) (aPv mkM Q)) (h : wj_X12_readPart_225 z1 z2 K141 M Q) : aG 176 (225, [some (.ref 0), some (.int z1), some (.int z2)], [], mkM M) (aPv mkM Q) := by
  unfold wj_X12_readPart_225 at h
  refine aG_n 2 (s' := (229, [some (.ref 0), some (.int z1), some (.int z2)], [(.int (gi M 0 20))], mkM M)) rfl ?_
  obtain ⟨h1, h2⟩ := h
  by_cases q64 : (gi M 0 20) = (nI 0)
  · have h := h1 q64
    refine aG_if (cd := .ne) (b := false) (aTne0 q64) rfl ?_
    refine aG_n 2 (s' := (234, [some (.ref 0), some (.int z1), some (.int z2)], [(.int z2), (.ref 0)], mkM M)) rfl ?_
    refine aG_call rfl rfl (aG_mono (wk_X12_readNumber h) ?_)
    rintro _ ⟨M66, rfl, h⟩
    refine aG_n 1 (s' := (238, [some (.ref 0), some (.int z1), some (.int z2)], [(.ref 0)], mkM M66)) rfl ?_
    refine aG_call rfl rfl (aG_mono (wk_X12_next h) ?_)
    rintro _ ⟨M68, rfl, h⟩
    refine aG_n 1 (s' := (141, [some (.ref 0), some (.int z1), some (.int z2)], [], mkM M68)) rfl ?_
    refine aG_le (a := [some (.ref 0), some (.int z1), none]) ⟨rfl, ⟨rfl, trivial⟩⟩ ?_
    exact hK141 _ h
  · have h := h2 q64
    refine aG_if (cd := .ne) (b := true) (aTne1 q64) rfl ?_
    refine aG_n 1 (s' := (238, [some (.ref 0), some (.int z1), some (.int z2)], [(.ref 0)], mkM M)) rfl ?_
    refine aG_call rfl rfl (aG_mono (wk_X12_next h) ?_)
    rintro _ ⟨M70, rfl, h⟩
    refine aG_n 1 (s' := (141, [some (.ref 0), some (.int z1), some (.int z2)], [], mkM M70)) rfl ?_
    refine aG_le (a := [some (.ref 0), some (.int z1), none]) ⟨rfl, ⟨rfl, trivial⟩⟩ ?_
    exact hK141 _ h
def wj_X12_readPart_202 (z1 : Int32) (z2 : Int32) (K141 : wM → Prop) (M : wM) (Q : wM → Prop) : Prop := w_X12_next M (fun M57 => ((gi M57 0 20) = (nI 0) → (z2 = (nI 3) → w_X12_readCells M57 (fun M61 => w_X12_next M61 (fun M63 => K141 M63))) ∧ (¬ z2 = (nI 3) → wj_X12_readPart_225 z1 z2 K141 M57 Q)) ∧ (¬ (gi M57 0 20) = (nI 0) → wj_X12_readPart_225 z1 z2 K141 M57 Q))
set_option maxRecDepth 20000 in
theorem wjk_X12_readPart_202 {z1 : Int32} {z2 : Int32} {K141 : wM → Prop} {M : wM} {Q : wM → Prop} (hK141 : ∀ (M : wM), K141 M → aG 176 (141, [some (.ref 0), some (.int z1), none], [], mkM M) (aPv mkM Q)) (h : wj_X12_readPart_202 z1 z2 K141 M Q) : aG 176 (202, [some (.ref 0), some (.int z1), some (.int z2)], [], mkM M) (aPv mkM Q) := by
  unfold wj_X12_readPart_202 at h
  refine aG_n 1 (s' := (203, [some (.ref 0), some (.int z1), some (.int z2)], [(.ref 0)], mkM M)) rfl ?_
  refine aG_call rfl rfl (aG_mono (wk_X12_next h) ?_)
  rintro _ ⟨M57, rfl, h⟩
  refine aG_n 2 (s' := (210, [some (.ref 0), some (.int z1), some (.int z2)], [(.int (gi M57 0 20))], mkM M57)) rfl ?_
  obtain ⟨h1, h2⟩ := h
  by_cases q58 : (gi M57 0 20) = (nI 0)
  · have h := h1 q58
    refine aG_if (cd := .ne) (b := false) (aTne0 q58) rfl ?_
    refine aG_n 2 (s' := (215, [some (.ref 0), some (.int z1), some (.int z2)], [(.int (nI 3)), (.int z2)], mkM M57)) rfl ?_
    obtain ⟨h1, h2⟩ := h
    by_cases q59 : z2 = (nI 3)
    · have h := h1 q59
      refine aG_icmp (cd := .ne) (b := false) (aTne0 q59) rfl ?_
      refine aG_n 1 (s' := (219, [some (.ref 0), some (.int z1), some (.int z2)], [(.ref 0)], mkM M57)) rfl ?_
      refine aG_call rfl rfl (aG_mono (wk_X12_readCells h) ?_)
      rintro _ ⟨M61, rfl, h⟩
      refine aG_n 2 (s' := (238, [some (.ref 0), some (.int z1), some (.int z2)], [(.ref 0)], mkM M61)) rfl ?_
      refine aG_call rfl rfl (aG_mono (wk_X12_next h) ?_)
      rintro _ ⟨M63, rfl, h⟩
      refine aG_n 1 (s' := (141, [some (.ref 0), some (.int z1), some (.int z2)], [], mkM M63)) rfl ?_
      refine aG_le (a := [some (.ref 0), some (.int z1), none]) ⟨rfl, ⟨rfl, trivial⟩⟩ ?_
      exact hK141 _ h
    · have h := h2 q59
      refine aG_icmp (cd := .ne) (b := true) (aTne1 q59) rfl ?_
      refine aG_n 0 (s' := (225, [some (.ref 0), some (.int z1), some (.int z2)], [], mkM M57)) rfl ?_
      refine aG_le (a := [some (.ref 0), some (.int z1), some (.int z2)]) ⟨rfl, ⟨rfl, ⟨rfl, trivial⟩⟩⟩ ?_
      exact wjk_X12_readPart_225 hK141 h
  · have h := h2 q58
    refine aG_if (cd := .ne) (b := true) (aTne1 q58) rfl ?_
    refine aG_n 0 (s' := (225, [some (.ref 0), some (.int z1), some (.int z2)], [], mkM M57)) rfl ?_
    refine aG_le (a := [some (.ref 0), some (.int z1), some (.int z2)]) ⟨rfl, ⟨rfl, ⟨rfl, trivial⟩⟩⟩ ?_
    exact wjk_X12_readPart_225 hK141 h
def wj_X12_readPart_173 (z1 : Int32) (z2 : Int32) (s1 : Int32) (K141 : wM → Prop) (M : wM) (Q : wM → Prop) : Prop := w_X12_wants s1 (nI 2) M (fun M49 => ((gi M49 0 20) = (nI 0) → w_X12_isThere z2 M49 (fun r51 M52 => (r51 = (nI 0) → w_X12_wants (nI 1) (nI 4) M52 (fun M55 => wj_X12_readPart_202 z1 z2 K141 M55 Q)) ∧ (¬ r51 = (nI 0) → w_X12_wants (nI 0) (nI 4) M52 (fun M72 => wj_X12_readPart_202 z1 z2 K141 M72 Q)))) ∧ (¬ (gi M49 0 20) = (nI 0) → wj_X12_readPart_202 z1 z2 K141 M49 Q))
set_option maxRecDepth 20000 in
theorem wjk_X12_readPart_173 {z1 : Int32} {z2 : Int32} {s1 : Int32} {K141 : wM → Prop} {M : wM} {Q : wM → Prop} (hK141 : ∀ (M : wM), K141 M → aG 176 (141, [some (.ref 0), some (.int z1), none], [], mkM M) (aPv mkM Q)) (h : wj_X12_readPart_173 z1 z2 s1 K141 M Q) : aG 176 (173, [some (.ref 0), some (.int z1), some (.int z2)], [(.int s1), (.ref 0)], mkM M) (aPv mkM Q) := by
  unfold wj_X12_readPart_173 at h
  refine aG_n 1 (s' := (174, [some (.ref 0), some (.int z1), some (.int z2)], [(.int (nI 2)), (.int s1), (.ref 0)], mkM M)) rfl ?_
  refine aG_call rfl rfl (aG_mono (wk_X12_wants h) ?_)
  rintro _ ⟨M49, rfl, h⟩
  refine aG_n 2 (s' := (181, [some (.ref 0), some (.int z1), some (.int z2)], [(.int (gi M49 0 20))], mkM M49)) rfl ?_
  obtain ⟨h1, h2⟩ := h
  by_cases q50 : (gi M49 0 20) = (nI 0)
  · have h := h1 q50
    refine aG_if (cd := .ne) (b := false) (aTne0 q50) rfl ?_
    refine aG_n 3 (s' := (187, [some (.ref 0), some (.int z1), some (.int z2)], [(.int z2), (.ref 0), (.ref 0)], mkM M49)) rfl ?_
    refine aG_call rfl rfl (aG_mono (wk_X12_isThere h) ?_)
    rintro _ ⟨r51, M52, rfl, h⟩
    refine aG_n 0 (s' := (190, [some (.ref 0), some (.int z1), some (.int z2)], [(.int r51), (.ref 0)], mkM M52)) rfl ?_
    obtain ⟨h1, h2⟩ := h
    by_cases q53 : r51 = (nI 0)
    · have h := h1 q53
      refine aG_if (cd := .ne) (b := false) (aTne0 q53) rfl ?_
      refine aG_n 3 (s' := (199, [some (.ref 0), some (.int z1), some (.int z2)], [(.int (nI 4)), (.int (nI 1)), (.ref 0)], mkM M52)) rfl ?_
      refine aG_call rfl rfl (aG_mono (wk_X12_wants h) ?_)
      rintro _ ⟨M55, rfl, h⟩
      refine aG_n 0 (s' := (202, [some (.ref 0), some (.int z1), some (.int z2)], [], mkM M55)) rfl ?_
      refine aG_le (a := [some (.ref 0), some (.int z1), some (.int z2)]) ⟨rfl, ⟨rfl, ⟨rfl, trivial⟩⟩⟩ ?_
      exact wjk_X12_readPart_202 hK141 h
    · have h := h2 q53
      refine aG_if (cd := .ne) (b := true) (aTne1 q53) rfl ?_
      refine aG_n 2 (s' := (199, [some (.ref 0), some (.int z1), some (.int z2)], [(.int (nI 4)), (.int (nI 0)), (.ref 0)], mkM M52)) rfl ?_
      refine aG_call rfl rfl (aG_mono (wk_X12_wants h) ?_)
      rintro _ ⟨M72, rfl, h⟩
      refine aG_n 0 (s' := (202, [some (.ref 0), some (.int z1), some (.int z2)], [], mkM M72)) rfl ?_
      refine aG_le (a := [some (.ref 0), some (.int z1), some (.int z2)]) ⟨rfl, ⟨rfl, ⟨rfl, trivial⟩⟩⟩ ?_
      exact wjk_X12_readPart_202 hK141 h
  · have h := h2 q50
    refine aG_if (cd := .ne) (b := true) (aTne1 q50) rfl ?_
    refine aG_n 0 (s' := (202, [some (.ref 0), some (.int z1), some (.int z2)], [], mkM M49)) rfl ?_
    refine aG_le (a := [some (.ref 0), some (.int z1), some (.int z2)]) ⟨rfl, ⟨rfl, ⟨rfl, trivial⟩⟩⟩ ?_
    exact wjk_X12_readPart_202 hK141 h
def wb_X12_readPart_141 (z1 : Int32) (K141 : wM → Prop) (M : wM) (Q : wM → Prop) : Prop := ((gi M 0 20) = (nI 0) → ((gi M 0 18) = (nI 3) → wj_X12_readPart_244 z1 M Q) ∧ (¬ (gi M 0 18) = (nI 3) → w_X12_itemNow M (fun r45 M46 => (r45 = (-4) → wj_X12_readPart_173 z1 r45 (nI 0) K141 M46 Q) ∧ (¬ r45 = (-4) → wj_X12_readPart_173 z1 r45 (nI 1) K141 M46 Q)))) ∧ (¬ (gi M 0 20) = (nI 0) → wj_X12_readPart_244 z1 M Q)
set_option maxRecDepth 20000 in
theorem wbk_X12_readPart_141 {z1 : Int32} {K141 : wM → Prop} {M : wM} {Q : wM → Prop} (hK141 : ∀ (M : wM), K141 M → aG 176 (141, [some (.ref 0), some (.int z1), none], [], mkM M) (aPv mkM Q)) (h : wb_X12_readPart_141 z1 K141 M Q) : aG 176 (141, [some (.ref 0), some (.int z1), none], [], mkM M) (aPv mkM Q) := by
  unfold wb_X12_readPart_141 at h
  refine aG_n 2 (s' := (145, [some (.ref 0), some (.int z1), none], [(.int (gi M 0 20))], mkM M)) rfl ?_
  obtain ⟨h1, h2⟩ := h
  by_cases q27 : (gi M 0 20) = (nI 0)
  · have h := h1 q27
    refine aG_if (cd := .ne) (b := false) (aTne0 q27) rfl ?_
    refine aG_n 3 (s' := (153, [some (.ref 0), some (.int z1), none], [(.int (nI 3)), (.int (gi M 0 18))], mkM M)) rfl ?_
    obtain ⟨h1, h2⟩ := h
    by_cases q28 : (gi M 0 18) = (nI 3)
    · have h := h1 q28
      refine aG_icmp (cd := .eq) (b := true) (decide_eq_true q28) rfl ?_
      refine aG_n 0 (s' := (244, [some (.ref 0), some (.int z1), none], [], mkM M)) rfl ?_
      refine aG_le (a := [some (.ref 0), some (.int z1), none]) ⟨rfl, ⟨rfl, trivial⟩⟩ ?_
      exact wjk_X12_readPart_244 h
    · have h := h2 q28
      refine aG_icmp (cd := .eq) (b := false) (decide_eq_false q28) rfl ?_
      refine aG_n 1 (s' := (157, [some (.ref 0), some (.int z1), none], [(.ref 0)], mkM M)) rfl ?_
      refine aG_call rfl rfl (aG_mono (wk_X12_itemNow h) ?_)
      rintro _ ⟨r45, M46, rfl, h⟩
      refine aG_n 4 (s' := (165, [some (.ref 0), some (.int z1), some (.int r45)], [(.int (-4)), (.int r45), (.ref 0)], mkM M46)) rfl ?_
      obtain ⟨h1, h2⟩ := h
      by_cases q47 : r45 = (-4)
      · have h := h1 q47
        refine aG_icmp (cd := .eq) (b := true) (decide_eq_true q47) rfl ?_
        refine aG_n 1 (s' := (173, [some (.ref 0), some (.int z1), some (.int r45)], [(.int (nI 0)), (.ref 0)], mkM M46)) rfl ?_
        refine aG_le (a := [some (.ref 0), some (.int z1), some (.int r45)]) ⟨rfl, ⟨rfl, ⟨rfl, trivial⟩⟩⟩ ?_
        exact wjk_X12_readPart_173 hK141 h
      · have h := h2 q47
        refine aG_icmp (cd := .eq) (b := false) (decide_eq_false q47) rfl ?_
        refine aG_n 2 (s' := (173, [some (.ref 0), some (.int z1), some (.int r45)], [(.int (nI 1)), (.ref 0)], mkM M46)) rfl ?_
        refine aG_le (a := [some (.ref 0), some (.int z1), some (.int r45)]) ⟨rfl, ⟨rfl, ⟨rfl, trivial⟩⟩⟩ ?_
        exact wjk_X12_readPart_173 hK141 h
  · have h := h2 q27
    refine aG_if (cd := .ne) (b := true) (aTne1 q27) rfl ?_
    refine aG_n 0 (s' := (244, [some (.ref 0), some (.int z1), none], [], mkM M)) rfl ?_
    refine aG_le (a := [some (.ref 0), some (.int z1), none]) ⟨rfl, ⟨rfl, trivial⟩⟩ ?_
    exact wjk_X12_readPart_244 h
def wL_X12_readPart_141 (z1 : Int32) (Q : wM → Prop) : Nat → wM → Prop
  | 0, _ => False
  | n + 1, M => wb_X12_readPart_141 z1 (wL_X12_readPart_141 z1 Q n) M Q
set_option maxRecDepth 20000 in
theorem wLk_X12_readPart_141 {z1 : Int32} {Q : wM → Prop} : ∀ (n : Nat) (M : wM), wL_X12_readPart_141 z1 Q n M → aG 176 (141, [some (.ref 0), some (.int z1), none], [], mkM M) (aPv mkM Q)
  | 0, _, h => h.elim
  | n + 1, M, h => wbk_X12_readPart_141 (fun M h => wLk_X12_readPart_141 n M h) h
def wj_X12_readPart_127 (z1 : Int32) (M : wM) (Q : wM → Prop) : Prop := vp_in z1 6 ∧ (w_X12_next (si M 7 z1.toNatClampNeg (gi M 0 19)) (fun M26 => ∃ n, wL_X12_readPart_141 z1 Q n M26))
set_option maxRecDepth 20000 in
theorem wjk_X12_readPart_127 {z1 : Int32} {M : wM} {Q : wM → Prop} (h : wj_X12_readPart_127 z1 M Q) : aG 176 (127, [some (.ref 0), some (.int z1), none], [], mkM M) (aPv mkM Q) := by
  unfold wj_X12_readPart_127 at h
  refine aG_n 5 (s' := (136, [some (.ref 0), some (.int z1), none], [(.int (gi M 0 19)), (.int z1), (.ref 7)], mkM M)) rfl ?_
  obtain ⟨f24, h⟩ := h
  refine aG_iast rfl rfl f24 ?_
  refine aG_n 1 (s' := (138, [some (.ref 0), some (.int z1), none], [(.ref 0)], mkM (si M 7 z1.toNatClampNeg (gi M 0 19)))) rfl ?_
  refine aG_call rfl rfl (aG_mono (wk_X12_next h) ?_)
  rintro _ ⟨M26, rfl, h⟩
  refine aG_n 0 (s' := (141, [some (.ref 0), some (.int z1), none], [], mkM M26)) rfl ?_
  refine aG_le (a := [some (.ref 0), some (.int z1), none]) ⟨rfl, ⟨rfl, trivial⟩⟩ ?_
  obtain ⟨n, h⟩ := h
  exact wLk_X12_readPart_141 n _ h
def wj_X12_readPart_97 (z1 : Int32) (s1 : Int32) (M : wM) (Q : wM → Prop) : Prop := w_X12_wants s1 (nI 2) M (fun M18 => ((gi M18 0 20) = (nI 0) → w_X12_in (gi M18 0 19).toInt64 (lN 2) (lN 8) M18 (fun r20 M21 => w_X12_wants r20 (nI 3) M21 (fun M23 => wj_X12_readPart_127 z1 M23 Q))) ∧ (¬ (gi M18 0 20) = (nI 0) → wj_X12_readPart_127 z1 M18 Q))
set_option maxRecDepth 20000 in
theorem wjk_X12_readPart_97 {z1 : Int32} {s1 : Int32} {M : wM} {Q : wM → Prop} (h : wj_X12_readPart_97 z1 s1 M Q) : aG 176 (97, [some (.ref 0), some (.int z1), none], [(.int s1), (.ref 0)], mkM M) (aPv mkM Q) := by
  unfold wj_X12_readPart_97 at h
  refine aG_n 1 (s' := (98, [some (.ref 0), some (.int z1), none], [(.int (nI 2)), (.int s1), (.ref 0)], mkM M)) rfl ?_
  refine aG_call rfl rfl (aG_mono (wk_X12_wants h) ?_)
  rintro _ ⟨M18, rfl, h⟩
  refine aG_n 2 (s' := (105, [some (.ref 0), some (.int z1), none], [(.int (gi M18 0 20))], mkM M18)) rfl ?_
  obtain ⟨h1, h2⟩ := h
  by_cases q19 : (gi M18 0 20) = (nI 0)
  · have h := h1 q19
    refine aG_if (cd := .ne) (b := false) (aTne0 q19) rfl ?_
    refine aG_n 6 (s' := (120, [some (.ref 0), some (.int z1), none], [(.long (lN 8)), (.long (lN 2)), (.long (gi M18 0 19).toInt64), (.ref 0)], mkM M18)) rfl ?_
    refine aG_call rfl rfl (aG_mono (wk_X12_in h) ?_)
    rintro _ ⟨r20, M21, rfl, h⟩
    refine aG_n 1 (s' := (124, [some (.ref 0), some (.int z1), none], [(.int (nI 3)), (.int r20), (.ref 0)], mkM M21)) rfl ?_
    refine aG_call rfl rfl (aG_mono (wk_X12_wants h) ?_)
    rintro _ ⟨M23, rfl, h⟩
    refine aG_n 0 (s' := (127, [some (.ref 0), some (.int z1), none], [], mkM M23)) rfl ?_
    refine aG_le (a := [some (.ref 0), some (.int z1), none]) ⟨rfl, ⟨rfl, trivial⟩⟩ ?_
    exact wjk_X12_readPart_127 h
  · have h := h2 q19
    refine aG_if (cd := .ne) (b := true) (aTne1 q19) rfl ?_
    refine aG_n 0 (s' := (127, [some (.ref 0), some (.int z1), none], [], mkM M18)) rfl ?_
    refine aG_le (a := [some (.ref 0), some (.int z1), none]) ⟨rfl, ⟨rfl, trivial⟩⟩ ?_
    exact wjk_X12_readPart_127 h
def wj_X12_readPart_24 (s1 : Int32) (M : wM) (Q : wM → Prop) : Prop := w_X12_wants s1 (nI 5) M (fun M7 => ((gi M7 0 20) ≤ (nI 0) → vp_in (gi M7 0 7) 6 ∧ (vp_in (gi M7 0 7) 6 ∧ (vp_in (gi M7 0 7) 6 ∧ (vp_in (gi M7 0 7) 6 ∧ (vp_in (gi M7 0 7) 6 ∧ (w_X12_next (si (si (si (si (si M7 8 (gi M7 0 7).toNatClampNeg (-4)) 9 (gi M7 0 7).toNatClampNeg (-4)) 10 (gi M7 0 7).toNatClampNeg (-4)) 11 (gi M7 0 7).toNatClampNeg (nI 0)) 12 (gi M7 0 7).toNatClampNeg (nI 0)) (fun M15 => ((gi M15 0 18) = (nI 2) → wj_X12_readPart_97 (gi M7 0 7) (nI 1) M15 Q) ∧ (¬ (gi M15 0 18) = (nI 2) → wj_X12_readPart_97 (gi M7 0 7) (nI 0) M15 Q)))))))) ∧ (¬ (gi M7 0 20) ≤ (nI 0) → Q M7))
set_option maxRecDepth 20000 in
theorem wjk_X12_readPart_24 {s1 : Int32} {M : wM} {Q : wM → Prop} (h : wj_X12_readPart_24 s1 M Q) : aG 176 (24, [some (.ref 0), none, none], [(.int s1), (.ref 0)], mkM M) (aPv mkM Q) := by
  unfold wj_X12_readPart_24 at h
  refine aG_n 1 (s' := (25, [some (.ref 0), none, none], [(.int (nI 5)), (.int s1), (.ref 0)], mkM M)) rfl ?_
  refine aG_call rfl rfl (aG_mono (wk_X12_wants h) ?_)
  rintro _ ⟨M7, rfl, h⟩
  refine aG_n 2 (s' := (32, [some (.ref 0), none, none], [(.int (gi M7 0 20))], mkM M7)) rfl ?_
  obtain ⟨h1, h2⟩ := h
  by_cases q8 : (gi M7 0 20) ≤ (nI 0)
  · have h := h1 q8
    refine aG_if (cd := .le) (b := true) (decide_eq_true q8) rfl ?_
    refine aG_n 7 (s' := (48, [some (.ref 0), some (.int (gi M7 0 7)), none], [(.int (-4)), (.int (gi M7 0 7)), (.ref 8)], mkM M7)) rfl ?_
    obtain ⟨f9, h⟩ := h
    refine aG_iast rfl rfl f9 ?_
    refine aG_n 4 (s' := (56, [some (.ref 0), some (.int (gi M7 0 7)), none], [(.int (-4)), (.int (gi M7 0 7)), (.ref 9)], mkM (si M7 8 (gi M7 0 7).toNatClampNeg (-4)))) rfl ?_
    obtain ⟨f10, h⟩ := h
    refine aG_iast rfl rfl f10 ?_
    refine aG_n 4 (s' := (64, [some (.ref 0), some (.int (gi M7 0 7)), none], [(.int (-4)), (.int (gi M7 0 7)), (.ref 10)], mkM (si (si M7 8 (gi M7 0 7).toNatClampNeg (-4)) 9 (gi M7 0 7).toNatClampNeg (-4)))) rfl ?_
    obtain ⟨f11, h⟩ := h
    refine aG_iast rfl rfl f11 ?_
    refine aG_n 4 (s' := (71, [some (.ref 0), some (.int (gi M7 0 7)), none], [(.int (nI 0)), (.int (gi M7 0 7)), (.ref 11)], mkM (si (si (si M7 8 (gi M7 0 7).toNatClampNeg (-4)) 9 (gi M7 0 7).toNatClampNeg (-4)) 10 (gi M7 0 7).toNatClampNeg (-4)))) rfl ?_
    obtain ⟨f12, h⟩ := h
    refine aG_iast rfl rfl f12 ?_
    refine aG_n 4 (s' := (78, [some (.ref 0), some (.int (gi M7 0 7)), none], [(.int (nI 0)), (.int (gi M7 0 7)), (.ref 12)], mkM (si (si (si (si M7 8 (gi M7 0 7).toNatClampNeg (-4)) 9 (gi M7 0 7).toNatClampNeg (-4)) 10 (gi M7 0 7).toNatClampNeg (-4)) 11 (gi M7 0 7).toNatClampNeg (nI 0)))) rfl ?_
    obtain ⟨f13, h⟩ := h
    refine aG_iast rfl rfl f13 ?_
    refine aG_n 1 (s' := (80, [some (.ref 0), some (.int (gi M7 0 7)), none], [(.ref 0)], mkM (si (si (si (si (si M7 8 (gi M7 0 7).toNatClampNeg (-4)) 9 (gi M7 0 7).toNatClampNeg (-4)) 10 (gi M7 0 7).toNatClampNeg (-4)) 11 (gi M7 0 7).toNatClampNeg (nI 0)) 12 (gi M7 0 7).toNatClampNeg (nI 0)))) rfl ?_
    refine aG_call rfl rfl (aG_mono (wk_X12_next h) ?_)
    rintro _ ⟨M15, rfl, h⟩
    refine aG_n 4 (s' := (89, [some (.ref 0), some (.int (gi M7 0 7)), none], [(.int (nI 2)), (.int (gi M15 0 18)), (.ref 0)], mkM M15)) rfl ?_
    obtain ⟨h1, h2⟩ := h
    by_cases q16 : (gi M15 0 18) = (nI 2)
    · have h := h1 q16
      refine aG_icmp (cd := .ne) (b := false) (aTne0 q16) rfl ?_
      refine aG_n 2 (s' := (97, [some (.ref 0), some (.int (gi M7 0 7)), none], [(.int (nI 1)), (.ref 0)], mkM M15)) rfl ?_
      refine aG_le (a := [some (.ref 0), some (.int (gi M7 0 7)), none]) ⟨rfl, ⟨rfl, trivial⟩⟩ ?_
      exact wjk_X12_readPart_97 h
    · have h := h2 q16
      refine aG_icmp (cd := .ne) (b := true) (aTne1 q16) rfl ?_
      refine aG_n 1 (s' := (97, [some (.ref 0), some (.int (gi M7 0 7)), none], [(.int (nI 0)), (.ref 0)], mkM M15)) rfl ?_
      refine aG_le (a := [some (.ref 0), some (.int (gi M7 0 7)), none]) ⟨rfl, ⟨rfl, trivial⟩⟩ ?_
      exact wjk_X12_readPart_97 h
  · have h := h2 q8
    refine aG_if (cd := .le) (b := false) (decide_eq_false q8) rfl ?_
    refine aG_n 0 (s' := (35, [some (.ref 0), none, none], [], mkM M7)) rfl ?_
    exact aG_retV rfl rfl ⟨_, rfl, h⟩
def w_X12_readPart (M : wM) (Q : wM → Prop) : Prop := w_X12_isPart M (fun r1 M2 => w_X12_wants r1 (nI 2) M2 (fun M4 => ((nI 6) ≤ (gi M4 0 7) → wj_X12_readPart_24 (nI 0) M4 Q) ∧ (¬ (nI 6) ≤ (gi M4 0 7) → wj_X12_readPart_24 (nI 1) M4 Q)))
set_option maxRecDepth 20000 in
theorem wk_X12_readPart {M : wM} {Q : wM → Prop} (h : w_X12_readPart M Q) : aG 176 (aEn 176 [(.ref 0)] (mkM M)) (aPv mkM Q) := by
  unfold w_X12_readPart at h
  refine aG_n 2 (s' := (2, [some (.ref 0), none, none], [(.ref 0), (.ref 0)], mkM M)) rfl ?_
  refine aG_call rfl rfl (aG_mono (wk_X12_isPart h) ?_)
  rintro _ ⟨r1, M2, rfl, h⟩
  refine aG_n 1 (s' := (6, [some (.ref 0), none, none], [(.int (nI 2)), (.int r1), (.ref 0)], mkM M2)) rfl ?_
  refine aG_call rfl rfl (aG_mono (wk_X12_wants h) ?_)
  rintro _ ⟨M4, rfl, h⟩
  refine aG_n 4 (s' := (16, [some (.ref 0), none, none], [(.int (nI 6)), (.int (gi M4 0 7)), (.ref 0)], mkM M4)) rfl ?_
  obtain ⟨h1, h2⟩ := h
  by_cases q5 : (nI 6) ≤ (gi M4 0 7)
  · have h := h1 q5
    refine aG_icmp (cd := .ge) (b := true) (decide_eq_true q5) rfl ?_
    refine aG_n 1 (s' := (24, [some (.ref 0), none, none], [(.int (nI 0)), (.ref 0)], mkM M4)) rfl ?_
    refine aG_le (a := [some (.ref 0), none, none]) ⟨rfl, trivial⟩ ?_
    exact wjk_X12_readPart_24 h
  · have h := h2 q5
    refine aG_icmp (cd := .ge) (b := false) (decide_eq_false q5) rfl ?_
    refine aG_n 2 (s' := (24, [some (.ref 0), none, none], [(.int (nI 1)), (.ref 0)], mkM M4)) rfl ?_
    refine aG_le (a := [some (.ref 0), none, none]) ⟨rfl, trivial⟩ ?_
    exact wjk_X12_readPart_24 h
