/-! methods as predicates, and their walks (by gen/wpgen.py) -/
def w_X12_isCell (x1 : Int32) (x2 : Int32) (M : wM) (Q : Int32 → wM → Prop) : Prop := w_X12_isChip x1 M (fun r1 M2 => (r1 = (nI 0) → Q (nI 0) M2) ∧ (¬ r1 = (nI 0) → vp_in x1 6 ∧ (vp_in (gi M2 14 x1.toNatClampNeg) 6 ∧ (w_X12_in x2.toInt64 (lN 0) ((gi M2 5 (gi M2 14 x1.toNatClampNeg).toNatClampNeg) - (nI 1)).toInt64 M2 (fun r6 M7 => (r6 = (nI 0) → Q (nI 0) M7) ∧ (¬ r6 = (nI 0) → Q (nI 1) M7))))))
set_option maxRecDepth 20000 in
theorem wk_X12_isCell {x1 : Int32} {x2 : Int32} {M : wM} {Q : Int32 → wM → Prop} (h : w_X12_isCell x1 x2 M Q) : aG 153 (aEn 153 [(.ref 0), (.int x1), (.int x2)] (mkM M)) (aPi mkM Q) := by
  unfold w_X12_isCell at h
  refine aG_n 2 (s' := (2, [some (.ref 0), some (.int x1), some (.int x2)], [(.int x1), (.ref 0)], mkM M)) rfl ?_
  refine aG_call rfl rfl (aG_mono (wk_X12_isChip h) ?_)
  rintro _ ⟨r1, M2, rfl, h⟩
  refine aG_n 0 (s' := (5, [some (.ref 0), some (.int x1), some (.int x2)], [(.int r1)], mkM M2)) rfl ?_
  obtain ⟨h1, h2⟩ := h
  by_cases q3 : r1 = (nI 0)
  · have h := h1 q3
    refine aG_if (cd := .eq) (b := true) (decide_eq_true q3) rfl ?_
    refine aG_n 1 (s' := (36, [some (.ref 0), some (.int x1), some (.int x2)], [(.int (nI 0))], mkM M2)) rfl ?_
    exact aG_retZ rfl rfl (Or.inl rfl) ⟨_, _, rfl, h⟩
  · have h := h2 q3
    refine aG_if (cd := .eq) (b := false) (decide_eq_false q3) rfl ?_
    refine aG_n 8 (s' := (20, [some (.ref 0), some (.int x1), some (.int x2)], [(.int x1), (.ref 14), (.ref 5), (.long (lN 0)), (.long x2.toInt64)], mkM M2)) rfl ?_
    obtain ⟨f4, h⟩ := h
    refine aG_iald rfl rfl rfl f4 ?_
    refine aG_n 0 (s' := (21, [some (.ref 0), some (.int x1), some (.int x2)], [(.int (gi M2 14 x1.toNatClampNeg)), (.ref 5), (.long (lN 0)), (.long x2.toInt64)], mkM M2)) rfl ?_
    obtain ⟨f5, h⟩ := h
    refine aG_iald rfl rfl rfl f5 ?_
    refine aG_n 3 (s' := (25, [some (.ref 0), some (.int x1), some (.int x2)], [(.long ((gi M2 5 (gi M2 14 x1.toNatClampNeg).toNatClampNeg) - (nI 1)).toInt64), (.long (lN 0)), (.long x2.toInt64)], mkM M2)) rfl ?_
    refine aG_call rfl rfl (aG_mono (wk_X12_in h) ?_)
    rintro _ ⟨r6, M7, rfl, h⟩
    refine aG_n 0 (s' := (28, [some (.ref 0), some (.int x1), some (.int x2)], [(.int r6)], mkM M7)) rfl ?_
    obtain ⟨h1, h2⟩ := h
    by_cases q8 : r6 = (nI 0)
    · have h := h1 q8
      refine aG_if (cd := .eq) (b := true) (decide_eq_true q8) rfl ?_
      refine aG_n 1 (s' := (36, [some (.ref 0), some (.int x1), some (.int x2)], [(.int (nI 0))], mkM M7)) rfl ?_
      exact aG_retZ rfl rfl (Or.inl rfl) ⟨_, _, rfl, h⟩
    · have h := h2 q8
      refine aG_if (cd := .eq) (b := false) (decide_eq_false q8) rfl ?_
      refine aG_n 2 (s' := (36, [some (.ref 0), some (.int x1), some (.int x2)], [(.int (nI 1))], mkM M7)) rfl ?_
      exact aG_retZ rfl rfl (Or.inr rfl) ⟨_, _, rfl, h⟩
def wj_X12_stick_26 (z1 : Int32) (z2 : Int32) (M : wM) (Q : Int32 → wM → Prop) : Prop := vp_in z1 8 ∧ (vp_in z1 8 ∧ (Q (gi M 27 z1.toNatClampNeg) (si M 27 z1.toNatClampNeg z2)))
set_option maxRecDepth 20000 in
theorem wjk_X12_stick_26 {z1 : Int32} {z2 : Int32} {M : wM} {Q : Int32 → wM → Prop} (h : wj_X12_stick_26 z1 z2 M Q) : aG 154 (26, [some (.ref 0), some (.int z1), some (.int z2), none], [], mkM M) (aPi mkM Q) := by
  unfold wj_X12_stick_26 at h
  refine aG_n 3 (s' := (31, [some (.ref 0), some (.int z1), some (.int z2), none], [(.int z1), (.ref 27)], mkM M)) rfl ?_
  obtain ⟨f5, h⟩ := h
  refine aG_iald rfl rfl rfl f5 ?_
  refine aG_n 5 (s' := (39, [some (.ref 0), some (.int z1), some (.int z2), some (.int (gi M 27 z1.toNatClampNeg))], [(.int z2), (.int z1), (.ref 27)], mkM M)) rfl ?_
  obtain ⟨f6, h⟩ := h
  refine aG_iast rfl rfl f6 ?_
  refine aG_n 1 (s' := (41, [some (.ref 0), some (.int z1), some (.int z2), some (.int (gi M 27 z1.toNatClampNeg))], [(.int (gi M 27 z1.toNatClampNeg))], mkM (si M 27 z1.toNatClampNeg z2))) rfl ?_
  exact aG_ret0 rfl rfl ⟨_, _, rfl, h⟩
def w_X12_stick (x1 : Int32) (x2 : Int32) (M : wM) (Q : Int32 → wM → Prop) : Prop := w_X12_isNet x1 M (fun r1 M2 => (r1 = (nI 0) → Q (-1) M2) ∧ (¬ r1 = (nI 0) → (x2 = (-4) → wj_X12_stick_26 x1 x2 M2 Q) ∧ (¬ x2 = (-4) → w_X12_in x2.toInt64 (lN 0) (lN 1) M2 (fun r7 M8 => (r7 = (nI 0) → Q (-1) M8) ∧ (¬ r7 = (nI 0) → wj_X12_stick_26 x1 x2 M8 Q)))))
set_option maxRecDepth 20000 in
theorem wk_X12_stick {x1 : Int32} {x2 : Int32} {M : wM} {Q : Int32 → wM → Prop} (h : w_X12_stick x1 x2 M Q) : aG 154 (aEn 154 [(.ref 0), (.int x1), (.int x2)] (mkM M)) (aPi mkM Q) := by
  unfold w_X12_stick at h
  refine aG_n 2 (s' := (2, [some (.ref 0), some (.int x1), some (.int x2), none], [(.int x1), (.ref 0)], mkM M)) rfl ?_
  refine aG_call rfl rfl (aG_mono (wk_X12_isNet h) ?_)
  rintro _ ⟨r1, M2, rfl, h⟩
  refine aG_n 0 (s' := (5, [some (.ref 0), some (.int x1), some (.int x2), none], [(.int r1)], mkM M2)) rfl ?_
  obtain ⟨h1, h2⟩ := h
  by_cases q3 : r1 = (nI 0)
  · have h := h1 q3
    refine aG_if (cd := .eq) (b := true) (decide_eq_true q3) rfl ?_
    refine aG_n 1 (s' := (25, [some (.ref 0), some (.int x1), some (.int x2), none], [(.int (-1))], mkM M2)) rfl ?_
    exact aG_ret0 rfl rfl ⟨_, _, rfl, h⟩
  · have h := h2 q3
    refine aG_if (cd := .eq) (b := false) (decide_eq_false q3) rfl ?_
    refine aG_n 2 (s' := (11, [some (.ref 0), some (.int x1), some (.int x2), none], [(.int (-4)), (.int x2)], mkM M2)) rfl ?_
    obtain ⟨h1, h2⟩ := h
    by_cases q4 : x2 = (-4)
    · have h := h1 q4
      refine aG_icmp (cd := .eq) (b := true) (decide_eq_true q4) rfl ?_
      refine aG_n 0 (s' := (26, [some (.ref 0), some (.int x1), some (.int x2), none], [], mkM M2)) rfl ?_
      refine aG_le (a := [some (.ref 0), some (.int x1), some (.int x2), none]) ⟨rfl, ⟨rfl, ⟨rfl, trivial⟩⟩⟩ ?_
      exact wjk_X12_stick_26 h
    · have h := h2 q4
      refine aG_icmp (cd := .eq) (b := false) (decide_eq_false q4) rfl ?_
      refine aG_n 4 (s' := (18, [some (.ref 0), some (.int x1), some (.int x2), none], [(.long (lN 1)), (.long (lN 0)), (.long x2.toInt64)], mkM M2)) rfl ?_
      refine aG_call rfl rfl (aG_mono (wk_X12_in h) ?_)
      rintro _ ⟨r7, M8, rfl, h⟩
      refine aG_n 0 (s' := (21, [some (.ref 0), some (.int x1), some (.int x2), none], [(.int r7)], mkM M8)) rfl ?_
      obtain ⟨h1, h2⟩ := h
      by_cases q9 : r7 = (nI 0)
      · have h := h1 q9
        refine aG_if (cd := .ne) (b := false) (aTne0 q9) rfl ?_
        refine aG_n 1 (s' := (25, [some (.ref 0), some (.int x1), some (.int x2), none], [(.int (-1))], mkM M8)) rfl ?_
        exact aG_ret0 rfl rfl ⟨_, _, rfl, h⟩
      · have h := h2 q9
        refine aG_if (cd := .ne) (b := true) (aTne1 q9) rfl ?_
        refine aG_n 0 (s' := (26, [some (.ref 0), some (.int x1), some (.int x2), none], [], mkM M8)) rfl ?_
        refine aG_le (a := [some (.ref 0), some (.int x1), some (.int x2), none]) ⟨rfl, ⟨rfl, ⟨rfl, trivial⟩⟩⟩ ?_
        exact wjk_X12_stick_26 h
def wj_X12_bridge_65 (z1 : Int32) (z2 : Int32) (z4 : Int32) (s0 : Int32) (M : wM) (Q : Int32 → wM → Prop) : Prop := vp_in (((nI 8) * z1) + z2) 64 ∧ (vp_in (((nI 8) * z2) + z1) 64 ∧ ((z4 = (nI 0) → Q (-4) (si (si M 28 (((nI 8) * z1) + z2).toNatClampNeg s0) 28 (((nI 8) * z2) + z1).toNatClampNeg s0)) ∧ (¬ z4 = (nI 0) → Q (z4 - (nI 1)) (si (si M 28 (((nI 8) * z1) + z2).toNatClampNeg s0) 28 (((nI 8) * z2) + z1).toNatClampNeg s0))))
set_option maxRecDepth 20000 in
theorem wjk_X12_bridge_65 {z1 : Int32} {z2 : Int32} {z4 : Int32} {s0 : Int32} {M : wM} {Q : Int32 → wM → Prop} (h : wj_X12_bridge_65 z1 z2 z4 s0 M Q) : aG 155 (65, [some (.ref 0), some (.int z1), some (.int z2), none, some (.int z4), none], [(.int s0)], mkM M) (aPi mkM Q) := by
  unfold wj_X12_bridge_65 at h
  refine aG_n 9 (s' := (79, [some (.ref 0), some (.int z1), some (.int z2), none, some (.int z4), some (.int s0)], [(.int s0), (.int (((nI 8) * z1) + z2)), (.ref 28)], mkM M)) rfl ?_
  obtain ⟨f11, h⟩ := h
  refine aG_iast rfl rfl f11 ?_
  refine aG_n 8 (s' := (92, [some (.ref 0), some (.int z1), some (.int z2), none, some (.int z4), some (.int s0)], [(.int s0), (.int (((nI 8) * z2) + z1)), (.ref 28)], mkM (si M 28 (((nI 8) * z1) + z2).toNatClampNeg s0))) rfl ?_
  obtain ⟨f12, h⟩ := h
  refine aG_iast rfl rfl f12 ?_
  refine aG_n 1 (s' := (95, [some (.ref 0), some (.int z1), some (.int z2), none, some (.int z4), some (.int s0)], [(.int z4)], mkM (si (si M 28 (((nI 8) * z1) + z2).toNatClampNeg s0) 28 (((nI 8) * z2) + z1).toNatClampNeg s0))) rfl ?_
  obtain ⟨h1, h2⟩ := h
  by_cases q13 : z4 = (nI 0)
  · have h := h1 q13
    refine aG_if (cd := .ne) (b := false) (aTne0 q13) rfl ?_
    refine aG_n 2 (s' := (107, [some (.ref 0), some (.int z1), some (.int z2), none, some (.int z4), some (.int s0)], [(.int (-4))], mkM (si (si M 28 (((nI 8) * z1) + z2).toNatClampNeg s0) 28 (((nI 8) * z2) + z1).toNatClampNeg s0))) rfl ?_
    exact aG_ret0 rfl rfl ⟨_, _, rfl, h⟩
  · have h := h2 q13
    refine aG_if (cd := .ne) (b := true) (aTne1 q13) rfl ?_
    refine aG_n 3 (s' := (107, [some (.ref 0), some (.int z1), some (.int z2), none, some (.int z4), some (.int s0)], [(.int (z4 - (nI 1)))], mkM (si (si M 28 (((nI 8) * z1) + z2).toNatClampNeg s0) 28 (((nI 8) * z2) + z1).toNatClampNeg s0))) rfl ?_
    exact aG_ret0 rfl rfl ⟨_, _, rfl, h⟩
def wj_X12_bridge_39 (z1 : Int32) (z2 : Int32) (z3 : Int32) (M : wM) (Q : Int32 → wM → Prop) : Prop := vp_in (((nI 8) * z1) + z2) 64 ∧ ((z3 = (-4) → wj_X12_bridge_65 z1 z2 (gi M 28 (((nI 8) * z1) + z2).toNatClampNeg) (nI 0) M Q) ∧ (¬ z3 = (-4) → wj_X12_bridge_65 z1 z2 (gi M 28 (((nI 8) * z1) + z2).toNatClampNeg) (jshl (nI 1) z3) M Q))
set_option maxRecDepth 20000 in
theorem wjk_X12_bridge_39 {z1 : Int32} {z2 : Int32} {z3 : Int32} {M : wM} {Q : Int32 → wM → Prop} (h : wj_X12_bridge_39 z1 z2 z3 M Q) : aG 155 (39, [some (.ref 0), some (.int z1), some (.int z2), some (.int z3), none, none], [], mkM M) (aPi mkM Q) := by
  unfold wj_X12_bridge_39 at h
  refine aG_n 7 (s' := (49, [some (.ref 0), some (.int z1), some (.int z2), some (.int z3), none, none], [(.int (((nI 8) * z1) + z2)), (.ref 28)], mkM M)) rfl ?_
  obtain ⟨f9, h⟩ := h
  refine aG_iald rfl rfl rfl f9 ?_
  refine aG_n 3 (s' := (55, [some (.ref 0), some (.int z1), some (.int z2), some (.int z3), some (.int (gi M 28 (((nI 8) * z1) + z2).toNatClampNeg)), none], [(.int (-4)), (.int z3)], mkM M)) rfl ?_
  obtain ⟨h1, h2⟩ := h
  by_cases q10 : z3 = (-4)
  · have h := h1 q10
    refine aG_icmp (cd := .ne) (b := false) (aTne0 q10) rfl ?_
    refine aG_n 2 (s' := (65, [some (.ref 0), some (.int z1), some (.int z2), some (.int z3), some (.int (gi M 28 (((nI 8) * z1) + z2).toNatClampNeg)), none], [(.int (nI 0))], mkM M)) rfl ?_
    refine aG_le (a := [some (.ref 0), some (.int z1), some (.int z2), none, some (.int (gi M 28 (((nI 8) * z1) + z2).toNatClampNeg)), none]) ⟨rfl, ⟨rfl, ⟨rfl, ⟨rfl, trivial⟩⟩⟩⟩ ?_
    exact wjk_X12_bridge_65 h
  · have h := h2 q10
    refine aG_icmp (cd := .ne) (b := true) (aTne1 q10) rfl ?_
    refine aG_n 3 (s' := (65, [some (.ref 0), some (.int z1), some (.int z2), some (.int z3), some (.int (gi M 28 (((nI 8) * z1) + z2).toNatClampNeg)), none], [(.int (jshl (nI 1) z3))], mkM M)) rfl ?_
    refine aG_le (a := [some (.ref 0), some (.int z1), some (.int z2), none, some (.int (gi M 28 (((nI 8) * z1) + z2).toNatClampNeg)), none]) ⟨rfl, ⟨rfl, ⟨rfl, ⟨rfl, trivial⟩⟩⟩⟩ ?_
    exact wjk_X12_bridge_65 h
def w_X12_bridge (x1 : Int32) (x2 : Int32) (x3 : Int32) (M : wM) (Q : Int32 → wM → Prop) : Prop := w_X12_isNet x1 M (fun r1 M2 => (r1 = (nI 0) → Q (-1) M2) ∧ (¬ r1 = (nI 0) → w_X12_isNet x2 M2 (fun r4 M5 => (r4 = (nI 0) → Q (-1) M5) ∧ (¬ r4 = (nI 0) → (x1 = x2 → Q (-1) M5) ∧ (¬ x1 = x2 → (x3 = (-4) → wj_X12_bridge_39 x1 x2 x3 M5 Q) ∧ (¬ x3 = (-4) → w_X12_in x3.toInt64 (lN 0) (lN 1) M5 (fun r14 M15 => (r14 = (nI 0) → Q (-1) M15) ∧ (¬ r14 = (nI 0) → wj_X12_bridge_39 x1 x2 x3 M15 Q))))))))
set_option maxRecDepth 20000 in
theorem wk_X12_bridge {x1 : Int32} {x2 : Int32} {x3 : Int32} {M : wM} {Q : Int32 → wM → Prop} (h : w_X12_bridge x1 x2 x3 M Q) : aG 155 (aEn 155 [(.ref 0), (.int x1), (.int x2), (.int x3)] (mkM M)) (aPi mkM Q) := by
  unfold w_X12_bridge at h
  refine aG_n 2 (s' := (2, [some (.ref 0), some (.int x1), some (.int x2), some (.int x3), none, none], [(.int x1), (.ref 0)], mkM M)) rfl ?_
  refine aG_call rfl rfl (aG_mono (wk_X12_isNet h) ?_)
  rintro _ ⟨r1, M2, rfl, h⟩
  refine aG_n 0 (s' := (5, [some (.ref 0), some (.int x1), some (.int x2), some (.int x3), none, none], [(.int r1)], mkM M2)) rfl ?_
  obtain ⟨h1, h2⟩ := h
  by_cases q3 : r1 = (nI 0)
  · have h := h1 q3
    refine aG_if (cd := .eq) (b := true) (decide_eq_true q3) rfl ?_
    refine aG_n 1 (s' := (38, [some (.ref 0), some (.int x1), some (.int x2), some (.int x3), none, none], [(.int (-1))], mkM M2)) rfl ?_
    exact aG_ret0 rfl rfl ⟨_, _, rfl, h⟩
  · have h := h2 q3
    refine aG_if (cd := .eq) (b := false) (decide_eq_false q3) rfl ?_
    refine aG_n 2 (s' := (10, [some (.ref 0), some (.int x1), some (.int x2), some (.int x3), none, none], [(.int x2), (.ref 0)], mkM M2)) rfl ?_
    refine aG_call rfl rfl (aG_mono (wk_X12_isNet h) ?_)
    rintro _ ⟨r4, M5, rfl, h⟩
    refine aG_n 0 (s' := (13, [some (.ref 0), some (.int x1), some (.int x2), some (.int x3), none, none], [(.int r4)], mkM M5)) rfl ?_
    obtain ⟨h1, h2⟩ := h
    by_cases q6 : r4 = (nI 0)
    · have h := h1 q6
      refine aG_if (cd := .eq) (b := true) (decide_eq_true q6) rfl ?_
      refine aG_n 1 (s' := (38, [some (.ref 0), some (.int x1), some (.int x2), some (.int x3), none, none], [(.int (-1))], mkM M5)) rfl ?_
      exact aG_ret0 rfl rfl ⟨_, _, rfl, h⟩
    · have h := h2 q6
      refine aG_if (cd := .eq) (b := false) (decide_eq_false q6) rfl ?_
      refine aG_n 2 (s' := (18, [some (.ref 0), some (.int x1), some (.int x2), some (.int x3), none, none], [(.int x2), (.int x1)], mkM M5)) rfl ?_
      obtain ⟨h1, h2⟩ := h
      by_cases q7 : x1 = x2
      · have h := h1 q7
        refine aG_icmp (cd := .eq) (b := true) (decide_eq_true q7) rfl ?_
        refine aG_n 1 (s' := (38, [some (.ref 0), some (.int x1), some (.int x2), some (.int x3), none, none], [(.int (-1))], mkM M5)) rfl ?_
        exact aG_ret0 rfl rfl ⟨_, _, rfl, h⟩
      · have h := h2 q7
        refine aG_icmp (cd := .eq) (b := false) (decide_eq_false q7) rfl ?_
        refine aG_n 2 (s' := (24, [some (.ref 0), some (.int x1), some (.int x2), some (.int x3), none, none], [(.int (-4)), (.int x3)], mkM M5)) rfl ?_
        obtain ⟨h1, h2⟩ := h
        by_cases q8 : x3 = (-4)
        · have h := h1 q8
          refine aG_icmp (cd := .eq) (b := true) (decide_eq_true q8) rfl ?_
          refine aG_n 0 (s' := (39, [some (.ref 0), some (.int x1), some (.int x2), some (.int x3), none, none], [], mkM M5)) rfl ?_
          refine aG_le (a := [some (.ref 0), some (.int x1), some (.int x2), some (.int x3), none, none]) ⟨rfl, ⟨rfl, ⟨rfl, ⟨rfl, trivial⟩⟩⟩⟩ ?_
          exact wjk_X12_bridge_39 h
        · have h := h2 q8
          refine aG_icmp (cd := .eq) (b := false) (decide_eq_false q8) rfl ?_
          refine aG_n 4 (s' := (31, [some (.ref 0), some (.int x1), some (.int x2), some (.int x3), none, none], [(.long (lN 1)), (.long (lN 0)), (.long x3.toInt64)], mkM M5)) rfl ?_
          refine aG_call rfl rfl (aG_mono (wk_X12_in h) ?_)
          rintro _ ⟨r14, M15, rfl, h⟩
          refine aG_n 0 (s' := (34, [some (.ref 0), some (.int x1), some (.int x2), some (.int x3), none, none], [(.int r14)], mkM M15)) rfl ?_
          obtain ⟨h1, h2⟩ := h
          by_cases q16 : r14 = (nI 0)
          · have h := h1 q16
            refine aG_if (cd := .ne) (b := false) (aTne0 q16) rfl ?_
            refine aG_n 1 (s' := (38, [some (.ref 0), some (.int x1), some (.int x2), some (.int x3), none, none], [(.int (-1))], mkM M15)) rfl ?_
            exact aG_ret0 rfl rfl ⟨_, _, rfl, h⟩
          · have h := h2 q16
            refine aG_if (cd := .ne) (b := true) (aTne1 q16) rfl ?_
            refine aG_n 0 (s' := (39, [some (.ref 0), some (.int x1), some (.int x2), some (.int x3), none, none], [], mkM M15)) rfl ?_
            refine aG_le (a := [some (.ref 0), some (.int x1), some (.int x2), some (.int x3), none, none]) ⟨rfl, ⟨rfl, ⟨rfl, ⟨rfl, trivial⟩⟩⟩⟩ ?_
            exact wjk_X12_bridge_39 h
def wb_X12_allOwn_4 (K4 : Int32 → Int32 → wM → Prop) (y1 : Int32) (y2 : Int32) (M : wM) (Q : Int32 → wM → Prop) : Prop := ((gi M 0 41) ≤ y2 → Q y1 M) ∧ (¬ (gi M 0 41) ≤ y2 → w_X12_ownOf y2 M (fun r2 M3 => K4 (y1 ||| (jshl r2 y2)) (y2 + (nI 1)) M3))
set_option maxRecDepth 20000 in
theorem wbk_X12_allOwn_4 {K4 : Int32 → Int32 → wM → Prop} {y1 : Int32} {y2 : Int32} {M : wM} {Q : Int32 → wM → Prop} (hK4 : ∀ (v1 : Int32) (v2 : Int32) (M : wM), K4 v1 v2 M → aG 156 (4, [some (.ref 0), some (.int v1), some (.int v2)], [], mkM M) (aPi mkM Q)) (h : wb_X12_allOwn_4 K4 y1 y2 M Q) : aG 156 (4, [some (.ref 0), some (.int y1), some (.int y2)], [], mkM M) (aPi mkM Q) := by
  unfold wb_X12_allOwn_4 at h
  refine aG_n 3 (s' := (9, [some (.ref 0), some (.int y1), some (.int y2)], [(.int (gi M 0 41)), (.int y2)], mkM M)) rfl ?_
  obtain ⟨h1, h2⟩ := h
  by_cases q1 : (gi M 0 41) ≤ y2
  · have h := h1 q1
    refine aG_icmp (cd := .ge) (b := true) (decide_eq_true q1) rfl ?_
    refine aG_n 1 (s' := (29, [some (.ref 0), some (.int y1), some (.int y2)], [(.int y1)], mkM M)) rfl ?_
    exact aG_ret0 rfl rfl ⟨_, _, rfl, h⟩
  · have h := h2 q1
    refine aG_icmp (cd := .ge) (b := false) (decide_eq_false q1) rfl ?_
    refine aG_n 3 (s' := (15, [some (.ref 0), some (.int y1), some (.int y2)], [(.int y2), (.ref 0), (.int y1)], mkM M)) rfl ?_
    refine aG_call rfl rfl (aG_mono (wk_X12_ownOf h) ?_)
    rintro _ ⟨r2, M3, rfl, h⟩
    refine aG_n 6 (s' := (4, [some (.ref 0), some (.int (y1 ||| (jshl r2 y2))), some (.int (y2 + (nI 1)))], [], mkM M3)) rfl ?_
    refine aG_le (a := [some (.ref 0), some (.int (y1 ||| (jshl r2 y2))), some (.int (y2 + (nI 1)))]) ⟨rfl, ⟨rfl, ⟨rfl, trivial⟩⟩⟩ ?_
    exact hK4 _ _ _ h
def wL_X12_allOwn_4 (Q : Int32 → wM → Prop) : Nat → Int32 → Int32 → wM → Prop
  | 0, _, _, _ => False
  | n + 1, y1, y2, M => wb_X12_allOwn_4 (wL_X12_allOwn_4 Q n) y1 y2 M Q
set_option maxRecDepth 20000 in
theorem wLk_X12_allOwn_4 {Q : Int32 → wM → Prop} : ∀ (n : Nat) (y1 : Int32) (y2 : Int32) (M : wM), wL_X12_allOwn_4 Q n y1 y2 M → aG 156 (4, [some (.ref 0), some (.int y1), some (.int y2)], [], mkM M) (aPi mkM Q)
  | 0, _, _, _, h => h.elim
  | n + 1, y1, y2, M, h => wbk_X12_allOwn_4 (fun y1 y2 M h => wLk_X12_allOwn_4 n y1 y2 M h) h
def w_X12_allOwn (M : wM) (Q : Int32 → wM → Prop) : Prop := ∃ n, wL_X12_allOwn_4 Q n (nI 0) (nI 0) M
set_option maxRecDepth 20000 in
theorem wk_X12_allOwn {M : wM} {Q : Int32 → wM → Prop} (h : w_X12_allOwn M Q) : aG 156 (aEn 156 [(.ref 0)] (mkM M)) (aPi mkM Q) := by
  unfold w_X12_allOwn at h
  refine aG_n 4 (s' := (4, [some (.ref 0), some (.int (nI 0)), some (.int (nI 0))], [], mkM M)) rfl ?_
  refine aG_le (a := [some (.ref 0), some (.int (nI 0)), some (.int (nI 0))]) ⟨rfl, ⟨rfl, ⟨rfl, trivial⟩⟩⟩ ?_
  obtain ⟨n, h⟩ := h
  exact wLk_X12_allOwn_4 n _ _ _ h
def w_X12_rows (x1 : Int32) (M : wM) (Q : Int32 → wM → Prop) : Prop := w_X12_in x1.toInt64 (lN 0) (lN 2) M (fun r1 M2 => (r1 = (nI 0) → Q (-1) M2) ∧ (¬ r1 = (nI 0) → ((gi M2 0 41) = (nI 0) → Q (-2) M2) ∧ (¬ (gi M2 0 41) = (nI 0) → w_X12_rowsOf x1 M2 (fun r5 M6 => Q r5 M6))))
set_option maxRecDepth 20000 in
theorem wk_X12_rows {x1 : Int32} {M : wM} {Q : Int32 → wM → Prop} (h : w_X12_rows x1 M Q) : aG 157 (aEn 157 [(.ref 0), (.int x1)] (mkM M)) (aPi mkM Q) := by
  unfold w_X12_rows at h
  refine aG_n 4 (s' := (6, [some (.ref 0), some (.int x1)], [(.long (lN 2)), (.long (lN 0)), (.long x1.toInt64)], mkM M)) rfl ?_
  refine aG_call rfl rfl (aG_mono (wk_X12_in h) ?_)
  rintro _ ⟨r1, M2, rfl, h⟩
  refine aG_n 0 (s' := (9, [some (.ref 0), some (.int x1)], [(.int r1)], mkM M2)) rfl ?_
  obtain ⟨h1, h2⟩ := h
  by_cases q3 : r1 = (nI 0)
  · have h := h1 q3
    refine aG_if (cd := .ne) (b := false) (aTne0 q3) rfl ?_
    refine aG_n 2 (s' := (33, [some (.ref 0), some (.int x1)], [(.int (-1))], mkM M2)) rfl ?_
    exact aG_ret0 rfl rfl ⟨_, _, rfl, h⟩
  · have h := h2 q3
    refine aG_if (cd := .ne) (b := true) (aTne1 q3) rfl ?_
    refine aG_n 2 (s' := (20, [some (.ref 0), some (.int x1)], [(.int (gi M2 0 41))], mkM M2)) rfl ?_
    obtain ⟨h1, h2⟩ := h
    by_cases q4 : (gi M2 0 41) = (nI 0)
    · have h := h1 q4
      refine aG_if (cd := .ne) (b := false) (aTne0 q4) rfl ?_
      refine aG_n 2 (s' := (33, [some (.ref 0), some (.int x1)], [(.int (-2))], mkM M2)) rfl ?_
      exact aG_ret0 rfl rfl ⟨_, _, rfl, h⟩
    · have h := h2 q4
      refine aG_if (cd := .ne) (b := true) (aTne1 q4) rfl ?_
      refine aG_n 2 (s' := (30, [some (.ref 0), some (.int x1)], [(.int x1), (.ref 0)], mkM M2)) rfl ?_
      refine aG_call rfl rfl (aG_mono (wk_X12_rowsOf h) ?_)
      rintro _ ⟨r5, M6, rfl, h⟩
      refine aG_n 0 (s' := (33, [some (.ref 0), some (.int x1)], [(.int r5)], mkM M6)) rfl ?_
      exact aG_ret0 rfl rfl ⟨_, _, rfl, h⟩
def wb_X12_answerNow_5 (z1 : Int32) (z2 : Int32) (K5 : Int32 → Int32 → wM → Prop) (y3 : Int32) (y4 : Int32) (M : wM) (Q : Int32 → wM → Prop) : Prop := w_X12_rowsOf z1 M (fun r1 M2 => (r1 ≤ y4 → Q y3 M2) ∧ (¬ r1 ≤ y4 → vp_in z2 8 ∧ (vp_in z2 8 ∧ (w_X12_rowAt z1 y4 M2 (fun r6 M7 => w_X12_levelBy (gi M2 29 z2.toNatClampNeg) (gi M2 30 z2.toNatClampNeg) r6 M7 (fun r8 M9 => K5 (y3 ||| (jshl r8 y4)) (y4 + (nI 1)) M9))))))
set_option maxRecDepth 20000 in
theorem wbk_X12_answerNow_5 {z1 : Int32} {z2 : Int32} {K5 : Int32 → Int32 → wM → Prop} {y3 : Int32} {y4 : Int32} {M : wM} {Q : Int32 → wM → Prop} (hK5 : ∀ (v3 : Int32) (v4 : Int32) (M : wM), K5 v3 v4 M → aG 158 (5, [some (.ref 0), some (.int z1), some (.int z2), some (.int v3), some (.int v4)], [], mkM M) (aPi mkM Q)) (h : wb_X12_answerNow_5 z1 z2 K5 y3 y4 M Q) : aG 158 (5, [some (.ref 0), some (.int z1), some (.int z2), some (.int y3), some (.int y4)], [], mkM M) (aPi mkM Q) := by
  unfold wb_X12_answerNow_5 at h
  refine aG_n 3 (s' := (9, [some (.ref 0), some (.int z1), some (.int z2), some (.int y3), some (.int y4)], [(.int z1), (.ref 0), (.int y4)], mkM M)) rfl ?_
  refine aG_call rfl rfl (aG_mono (wk_X12_rowsOf h) ?_)
  rintro _ ⟨r1, M2, rfl, h⟩
  refine aG_n 0 (s' := (12, [some (.ref 0), some (.int z1), some (.int z2), some (.int y3), some (.int y4)], [(.int r1), (.int y4)], mkM M2)) rfl ?_
  obtain ⟨h1, h2⟩ := h
  by_cases q3 : r1 ≤ y4
  · have h := h1 q3
    refine aG_icmp (cd := .ge) (b := true) (decide_eq_true q3) rfl ?_
    refine aG_n 1 (s' := (50, [some (.ref 0), some (.int z1), some (.int z2), some (.int y3), some (.int y4)], [(.int y3)], mkM M2)) rfl ?_
    exact aG_ret0 rfl rfl ⟨_, _, rfl, h⟩
  · have h := h2 q3
    refine aG_icmp (cd := .ge) (b := false) (decide_eq_false q3) rfl ?_
    refine aG_n 4 (s' := (21, [some (.ref 0), some (.int z1), some (.int z2), some (.int y3), some (.int y4)], [(.int z2), (.ref 29), (.int y3)], mkM M2)) rfl ?_
    obtain ⟨f4, h⟩ := h
    refine aG_iald rfl rfl rfl f4 ?_
    refine aG_n 3 (s' := (27, [some (.ref 0), some (.int z1), some (.int z2), some (.int y3), some (.int y4)], [(.int z2), (.ref 30), (.int (gi M2 29 z2.toNatClampNeg)), (.int y3)], mkM M2)) rfl ?_
    obtain ⟨f5, h⟩ := h
    refine aG_iald rfl rfl rfl f5 ?_
    refine aG_n 3 (s' := (32, [some (.ref 0), some (.int z1), some (.int z2), some (.int y3), some (.int y4)], [(.int y4), (.int z1), (.ref 0), (.int (gi M2 30 z2.toNatClampNeg)), (.int (gi M2 29 z2.toNatClampNeg)), (.int y3)], mkM M2)) rfl ?_
    refine aG_call rfl rfl (aG_mono (wk_X12_rowAt h) ?_)
    rintro _ ⟨r6, M7, rfl, h⟩
    refine aG_n 0 (s' := (35, [some (.ref 0), some (.int z1), some (.int z2), some (.int y3), some (.int y4)], [(.int r6), (.int (gi M2 30 z2.toNatClampNeg)), (.int (gi M2 29 z2.toNatClampNeg)), (.int y3)], mkM M7)) rfl ?_
    refine aG_call rfl rfl (aG_mono (wk_X12_levelBy h) ?_)
    rintro _ ⟨r8, M9, rfl, h⟩
    refine aG_n 6 (s' := (5, [some (.ref 0), some (.int z1), some (.int z2), some (.int (y3 ||| (jshl r8 y4))), some (.int (y4 + (nI 1)))], [], mkM M9)) rfl ?_
    refine aG_le (a := [some (.ref 0), some (.int z1), some (.int z2), some (.int (y3 ||| (jshl r8 y4))), some (.int (y4 + (nI 1)))]) ⟨rfl, ⟨rfl, ⟨rfl, ⟨rfl, ⟨rfl, trivial⟩⟩⟩⟩⟩ ?_
    exact hK5 _ _ _ h
def wL_X12_answerNow_5 (z1 : Int32) (z2 : Int32) (Q : Int32 → wM → Prop) : Nat → Int32 → Int32 → wM → Prop
  | 0, _, _, _ => False
  | n + 1, y3, y4, M => wb_X12_answerNow_5 z1 z2 (wL_X12_answerNow_5 z1 z2 Q n) y3 y4 M Q
set_option maxRecDepth 20000 in
theorem wLk_X12_answerNow_5 {z1 : Int32} {z2 : Int32} {Q : Int32 → wM → Prop} : ∀ (n : Nat) (y3 : Int32) (y4 : Int32) (M : wM), wL_X12_answerNow_5 z1 z2 Q n y3 y4 M → aG 158 (5, [some (.ref 0), some (.int z1), some (.int z2), some (.int y3), some (.int y4)], [], mkM M) (aPi mkM Q)
  | 0, _, _, _, h => h.elim
  | n + 1, y3, y4, M, h => wbk_X12_answerNow_5 (fun y3 y4 M h => wLk_X12_answerNow_5 n y3 y4 M h) h
def w_X12_answerNow (x1 : Int32) (x2 : Int32) (M : wM) (Q : Int32 → wM → Prop) : Prop := ∃ n, wL_X12_answerNow_5 x1 x2 Q n (nI 0) (nI 0) M
set_option maxRecDepth 20000 in
theorem wk_X12_answerNow {x1 : Int32} {x2 : Int32} {M : wM} {Q : Int32 → wM → Prop} (h : w_X12_answerNow x1 x2 M Q) : aG 158 (aEn 158 [(.ref 0), (.int x1), (.int x2)] (mkM M)) (aPi mkM Q) := by
  unfold w_X12_answerNow at h
  refine aG_n 4 (s' := (5, [some (.ref 0), some (.int x1), some (.int x2), some (.int (nI 0)), some (.int (nI 0))], [], mkM M)) rfl ?_
  refine aG_le (a := [some (.ref 0), some (.int x1), some (.int x2), some (.int (nI 0)), some (.int (nI 0))]) ⟨rfl, ⟨rfl, ⟨rfl, ⟨rfl, ⟨rfl, trivial⟩⟩⟩⟩⟩ ?_
  obtain ⟨n, h⟩ := h
  exact wLk_X12_answerNow_5 n _ _ _ h
def wj_X12_guesses_54 (z2 : Int32) (M : wM) (Q : wM → Prop) : Prop := (z2 = (-4) → w_X12_findTogether 31 32 M (fun M6 => Q M6)) ∧ (¬ z2 = (-4) → w_X12_lies z2 M (fun M8 => w_X12_findTogether 31 32 M8 (fun M10 => Q M10)))
set_option maxRecDepth 20000 in
theorem wjk_X12_guesses_54 {z2 : Int32} {M : wM} {Q : wM → Prop} (h : wj_X12_guesses_54 z2 M Q) : aG 159 (54, [some (.ref 0), none, some (.int z2), none], [], mkM M) (aPv mkM Q) := by
  unfold wj_X12_guesses_54 at h
  refine aG_n 2 (s' := (57, [some (.ref 0), none, some (.int z2), none], [(.int (-4)), (.int z2)], mkM M)) rfl ?_
  obtain ⟨h1, h2⟩ := h
  by_cases q4 : z2 = (-4)
  · have h := h1 q4
    refine aG_icmp (cd := .eq) (b := true) (decide_eq_true q4) rfl ?_
    refine aG_n 5 (s' := (74, [some (.ref 0), none, some (.int z2), none], [(.ref 32), (.ref 31), (.ref 0)], mkM M)) rfl ?_
    refine aG_call rfl rfl (aG_mono (wk_X12_findTogether h) ?_)
    rintro _ ⟨M6, rfl, h⟩
    refine aG_n 0 (s' := (77, [some (.ref 0), none, some (.int z2), none], [], mkM M6)) rfl ?_
    exact aG_retV rfl rfl ⟨_, rfl, h⟩
  · have h := h2 q4
    refine aG_icmp (cd := .eq) (b := false) (decide_eq_false q4) rfl ?_
    refine aG_n 2 (s' := (62, [some (.ref 0), none, some (.int z2), none], [(.int z2), (.ref 0)], mkM M)) rfl ?_
    refine aG_call rfl rfl (aG_mono (wk_X12_lies h) ?_)
    rintro _ ⟨M8, rfl, h⟩
    refine aG_n 5 (s' := (74, [some (.ref 0), none, some (.int z2), none], [(.ref 32), (.ref 31), (.ref 0)], mkM M8)) rfl ?_
    refine aG_call rfl rfl (aG_mono (wk_X12_findTogether h) ?_)
    rintro _ ⟨M10, rfl, h⟩
    refine aG_n 0 (s' := (77, [some (.ref 0), none, some (.int z2), none], [], mkM M10)) rfl ?_
    exact aG_retV rfl rfl ⟨_, rfl, h⟩
def wb_X12_guesses_23 (z1 : Int32) (z2 : Int32) (K23 : Int32 → wM → Prop) (y3 : Int32) (M : wM) (Q : wM → Prop) : Prop := ((nI 8) ≤ y3 → (z1 = (-4) → wj_X12_guesses_54 z2 M Q) ∧ (¬ z1 = (-4) → w_X12_lies z1 M (fun M12 => wj_X12_guesses_54 z2 M12 Q))) ∧ (¬ (nI 8) ≤ y3 → vp_in y3 8 ∧ (K23 (y3 + (nI 1)) (si M 32 y3.toNatClampNeg (-4))))
set_option maxRecDepth 20000 in
theorem wbk_X12_guesses_23 {z1 : Int32} {z2 : Int32} {K23 : Int32 → wM → Prop} {y3 : Int32} {M : wM} {Q : wM → Prop} (hK23 : ∀ (v3 : Int32) (M : wM), K23 v3 M → aG 159 (23, [some (.ref 0), some (.int z1), some (.int z2), some (.int v3)], [], mkM M) (aPv mkM Q)) (h : wb_X12_guesses_23 z1 z2 K23 y3 M Q) : aG 159 (23, [some (.ref 0), some (.int z1), some (.int z2), some (.int y3)], [], mkM M) (aPv mkM Q) := by
  unfold wb_X12_guesses_23 at h
  refine aG_n 2 (s' := (26, [some (.ref 0), some (.int z1), some (.int z2), some (.int y3)], [(.int (nI 8)), (.int y3)], mkM M)) rfl ?_
  obtain ⟨h1, h2⟩ := h
  by_cases q2 : (nI 8) ≤ y3
  · have h := h1 q2
    refine aG_icmp (cd := .ge) (b := true) (decide_eq_true q2) rfl ?_
    refine aG_n 2 (s' := (46, [some (.ref 0), some (.int z1), some (.int z2), some (.int y3)], [(.int (-4)), (.int z1)], mkM M)) rfl ?_
    obtain ⟨h1, h2⟩ := h
    by_cases q3 : z1 = (-4)
    · have h := h1 q3
      refine aG_icmp (cd := .eq) (b := true) (decide_eq_true q3) rfl ?_
      refine aG_n 0 (s' := (54, [some (.ref 0), some (.int z1), some (.int z2), some (.int y3)], [], mkM M)) rfl ?_
      refine aG_le (a := [some (.ref 0), none, some (.int z2), none]) ⟨rfl, ⟨rfl, trivial⟩⟩ ?_
      exact wjk_X12_guesses_54 h
    · have h := h2 q3
      refine aG_icmp (cd := .eq) (b := false) (decide_eq_false q3) rfl ?_
      refine aG_n 2 (s' := (51, [some (.ref 0), some (.int z1), some (.int z2), some (.int y3)], [(.int z1), (.ref 0)], mkM M)) rfl ?_
      refine aG_call rfl rfl (aG_mono (wk_X12_lies h) ?_)
      rintro _ ⟨M12, rfl, h⟩
      refine aG_n 0 (s' := (54, [some (.ref 0), some (.int z1), some (.int z2), some (.int y3)], [], mkM M12)) rfl ?_
      refine aG_le (a := [some (.ref 0), none, some (.int z2), none]) ⟨rfl, ⟨rfl, trivial⟩⟩ ?_
      exact wjk_X12_guesses_54 h
  · have h := h2 q2
    refine aG_icmp (cd := .ge) (b := false) (decide_eq_false q2) rfl ?_
    refine aG_n 4 (s' := (36, [some (.ref 0), some (.int z1), some (.int z2), some (.int y3)], [(.int (-4)), (.int y3), (.ref 32)], mkM M)) rfl ?_
    obtain ⟨f13, h⟩ := h
    refine aG_iast rfl rfl f13 ?_
    refine aG_n 2 (s' := (23, [some (.ref 0), some (.int z1), some (.int z2), some (.int (y3 + (nI 1)))], [], mkM (si M 32 y3.toNatClampNeg (-4)))) rfl ?_
    refine aG_le (a := [some (.ref 0), some (.int z1), some (.int z2), some (.int (y3 + (nI 1)))]) ⟨rfl, ⟨rfl, ⟨rfl, ⟨rfl, trivial⟩⟩⟩⟩ ?_
    exact hK23 _ _ h
def wL_X12_guesses_23 (z1 : Int32) (z2 : Int32) (Q : wM → Prop) : Nat → Int32 → wM → Prop
  | 0, _, _ => False
  | n + 1, y3, M => wb_X12_guesses_23 z1 z2 (wL_X12_guesses_23 z1 z2 Q n) y3 M Q
set_option maxRecDepth 20000 in
theorem wLk_X12_guesses_23 {z1 : Int32} {z2 : Int32} {Q : wM → Prop} : ∀ (n : Nat) (y3 : Int32) (M : wM), wL_X12_guesses_23 z1 z2 Q n y3 M → aG 159 (23, [some (.ref 0), some (.int z1), some (.int z2), some (.int y3)], [], mkM M) (aPv mkM Q)
  | 0, _, _, h => h.elim
  | n + 1, y3, M, h => wbk_X12_guesses_23 (fun y3 M h => wLk_X12_guesses_23 n y3 M h) h
def wb_X12_guesses_2 (z1 : Int32) (z2 : Int32) (K2 : Int32 → wM → Prop) (y3 : Int32) (M : wM) (Q : wM → Prop) : Prop := ((nI 64) ≤ y3 → ∃ n, wL_X12_guesses_23 z1 z2 Q n (nI 0) M) ∧ (¬ (nI 64) ≤ y3 → vp_in y3 64 ∧ (K2 (y3 + (nI 1)) (si M 31 y3.toNatClampNeg (nI 0))))
set_option maxRecDepth 20000 in
theorem wbk_X12_guesses_2 {z1 : Int32} {z2 : Int32} {K2 : Int32 → wM → Prop} {y3 : Int32} {M : wM} {Q : wM → Prop} (hK2 : ∀ (v3 : Int32) (M : wM), K2 v3 M → aG 159 (2, [some (.ref 0), some (.int z1), some (.int z2), some (.int v3)], [], mkM M) (aPv mkM Q)) (h : wb_X12_guesses_2 z1 z2 K2 y3 M Q) : aG 159 (2, [some (.ref 0), some (.int z1), some (.int z2), some (.int y3)], [], mkM M) (aPv mkM Q) := by
  unfold wb_X12_guesses_2 at h
  refine aG_n 2 (s' := (5, [some (.ref 0), some (.int z1), some (.int z2), some (.int y3)], [(.int (nI 64)), (.int y3)], mkM M)) rfl ?_
  obtain ⟨h1, h2⟩ := h
  by_cases q1 : (nI 64) ≤ y3
  · have h := h1 q1
    refine aG_icmp (cd := .ge) (b := true) (decide_eq_true q1) rfl ?_
    refine aG_n 2 (s' := (23, [some (.ref 0), some (.int z1), some (.int z2), some (.int (nI 0))], [], mkM M)) rfl ?_
    refine aG_le (a := [some (.ref 0), some (.int z1), some (.int z2), some (.int (nI 0))]) ⟨rfl, ⟨rfl, ⟨rfl, ⟨rfl, trivial⟩⟩⟩⟩ ?_
    obtain ⟨n, h⟩ := h
    exact wLk_X12_guesses_23 n _ _ h
  · have h := h2 q1
    refine aG_icmp (cd := .ge) (b := false) (decide_eq_false q1) rfl ?_
    refine aG_n 4 (s' := (14, [some (.ref 0), some (.int z1), some (.int z2), some (.int y3)], [(.int (nI 0)), (.int y3), (.ref 31)], mkM M)) rfl ?_
    obtain ⟨f14, h⟩ := h
    refine aG_iast rfl rfl f14 ?_
    refine aG_n 2 (s' := (2, [some (.ref 0), some (.int z1), some (.int z2), some (.int (y3 + (nI 1)))], [], mkM (si M 31 y3.toNatClampNeg (nI 0)))) rfl ?_
    refine aG_le (a := [some (.ref 0), some (.int z1), some (.int z2), some (.int (y3 + (nI 1)))]) ⟨rfl, ⟨rfl, ⟨rfl, ⟨rfl, trivial⟩⟩⟩⟩ ?_
    exact hK2 _ _ h
def wL_X12_guesses_2 (z1 : Int32) (z2 : Int32) (Q : wM → Prop) : Nat → Int32 → wM → Prop
  | 0, _, _ => False
  | n + 1, y3, M => wb_X12_guesses_2 z1 z2 (wL_X12_guesses_2 z1 z2 Q n) y3 M Q
set_option maxRecDepth 20000 in
theorem wLk_X12_guesses_2 {z1 : Int32} {z2 : Int32} {Q : wM → Prop} : ∀ (n : Nat) (y3 : Int32) (M : wM), wL_X12_guesses_2 z1 z2 Q n y3 M → aG 159 (2, [some (.ref 0), some (.int z1), some (.int z2), some (.int y3)], [], mkM M) (aPv mkM Q)
  | 0, _, _, h => h.elim
  | n + 1, y3, M, h => wbk_X12_guesses_2 (fun y3 M h => wLk_X12_guesses_2 n y3 M h) h
def w_X12_guesses (x1 : Int32) (x2 : Int32) (M : wM) (Q : wM → Prop) : Prop := ∃ n, wL_X12_guesses_2 x1 x2 Q n (nI 0) M
set_option maxRecDepth 20000 in
theorem wk_X12_guesses {x1 : Int32} {x2 : Int32} {M : wM} {Q : wM → Prop} (h : w_X12_guesses x1 x2 M Q) : aG 159 (aEn 159 [(.ref 0), (.int x1), (.int x2)] (mkM M)) (aPv mkM Q) := by
  unfold w_X12_guesses at h
  refine aG_n 2 (s' := (2, [some (.ref 0), some (.int x1), some (.int x2), some (.int (nI 0))], [], mkM M)) rfl ?_
  refine aG_le (a := [some (.ref 0), some (.int x1), some (.int x2), some (.int (nI 0))]) ⟨rfl, ⟨rfl, ⟨rfl, ⟨rfl, trivial⟩⟩⟩⟩ ?_
  obtain ⟨n, h⟩ := h
  exact wLk_X12_guesses_2 n _ _ h
def wb_X12_cost_35 (z1 : Int32) (K35 : Int32 → Int32 → wM → Prop) (y2 : Int32) (y3 : Int32) (M : wM) (Q : Int32 → wM → Prop) : Prop := ((gi M 0 22) ≤ y3 → w_X12_lengths M (fun r7 M8 => w_X12_rowsOf z1 M8 (fun r9 M10 => Q ((r7 + (nI 6)) + ((r9 + (nI 1)) * (y2 + (nI 5)))) M10))) ∧ (¬ (gi M 0 22) ≤ y3 → vp_in y3 6 ∧ (vp_in (gi M 14 y3.toNatClampNeg) 6 ∧ (((gi M 4 (gi M 14 y3.toNatClampNeg).toNatClampNeg) = (-4) → K35 (y2 + (nI 1)) (y3 + (nI 1)) M) ∧ (¬ (gi M 4 (gi M 14 y3.toNatClampNeg).toNatClampNeg) = (-4) → vp_in y3 6 ∧ (vp_in (gi M 14 y3.toNatClampNeg) 6 ∧ (K35 (y2 + (gi M 5 (gi M 14 y3.toNatClampNeg).toNatClampNeg)) (y3 + (nI 1)) M))))))
set_option maxRecDepth 20000 in
theorem wbk_X12_cost_35 {z1 : Int32} {K35 : Int32 → Int32 → wM → Prop} {y2 : Int32} {y3 : Int32} {M : wM} {Q : Int32 → wM → Prop} (hK35 : ∀ (v2 : Int32) (v3 : Int32) (M : wM), K35 v2 v3 M → aG 160 (35, [some (.ref 0), some (.int z1), some (.int v2), some (.int v3)], [], mkM M) (aPi mkM Q)) (h : wb_X12_cost_35 z1 K35 y2 y3 M Q) : aG 160 (35, [some (.ref 0), some (.int z1), some (.int y2), some (.int y3)], [], mkM M) (aPi mkM Q) := by
  unfold wb_X12_cost_35 at h
  refine aG_n 3 (s' := (40, [some (.ref 0), some (.int z1), some (.int y2), some (.int y3)], [(.int (gi M 0 22)), (.int y3)], mkM M)) rfl ?_
  obtain ⟨h1, h2⟩ := h
  by_cases q6 : (gi M 0 22) ≤ y3
  · have h := h1 q6
    refine aG_icmp (cd := .ge) (b := true) (decide_eq_true q6) rfl ?_
    refine aG_n 1 (s' := (84, [some (.ref 0), some (.int z1), some (.int y2), some (.int y3)], [(.ref 0)], mkM M)) rfl ?_
    refine aG_call rfl rfl (aG_mono (wk_X12_lengths h) ?_)
    rintro _ ⟨r7, M8, rfl, h⟩
    refine aG_n 4 (s' := (92, [some (.ref 0), some (.int z1), some (.int y2), some (.int y3)], [(.int z1), (.ref 0), (.int (r7 + (nI 6)))], mkM M8)) rfl ?_
    refine aG_call rfl rfl (aG_mono (wk_X12_rowsOf h) ?_)
    rintro _ ⟨r9, M10, rfl, h⟩
    refine aG_n 7 (s' := (102, [some (.ref 0), some (.int z1), some (.int y2), some (.int y3)], [(.int ((r7 + (nI 6)) + ((r9 + (nI 1)) * (y2 + (nI 5)))))], mkM M10)) rfl ?_
    exact aG_ret0 rfl rfl ⟨_, _, rfl, h⟩
  · have h := h2 q6
    refine aG_icmp (cd := .ge) (b := false) (decide_eq_false q6) rfl ?_
    refine aG_n 6 (s' := (53, [some (.ref 0), some (.int z1), some (.int y2), some (.int y3)], [(.int y3), (.ref 14), (.ref 4), (.int y2)], mkM M)) rfl ?_
    obtain ⟨f11, h⟩ := h
    refine aG_iald rfl rfl rfl f11 ?_
    refine aG_n 0 (s' := (54, [some (.ref 0), some (.int z1), some (.int y2), some (.int y3)], [(.int (gi M 14 y3.toNatClampNeg)), (.ref 4), (.int y2)], mkM M)) rfl ?_
    obtain ⟨f12, h⟩ := h
    refine aG_iald rfl rfl rfl f12 ?_
    refine aG_n 1 (s' := (57, [some (.ref 0), some (.int z1), some (.int y2), some (.int y3)], [(.int (-4)), (.int (gi M 4 (gi M 14 y3.toNatClampNeg).toNatClampNeg)), (.int y2)], mkM M)) rfl ?_
    obtain ⟨h1, h2⟩ := h
    by_cases q13 : (gi M 4 (gi M 14 y3.toNatClampNeg).toNatClampNeg) = (-4)
    · have h := h1 q13
      refine aG_icmp (cd := .eq) (b := true) (decide_eq_true q13) rfl ?_
      refine aG_n 5 (s' := (35, [some (.ref 0), some (.int z1), some (.int (y2 + (nI 1))), some (.int (y3 + (nI 1)))], [], mkM M)) rfl ?_
      refine aG_le (a := [some (.ref 0), some (.int z1), some (.int (y2 + (nI 1))), some (.int (y3 + (nI 1)))]) ⟨rfl, ⟨rfl, ⟨rfl, ⟨rfl, trivial⟩⟩⟩⟩ ?_
      exact hK35 _ _ _ h
    · have h := h2 q13
      refine aG_icmp (cd := .eq) (b := false) (decide_eq_false q13) rfl ?_
      refine aG_n 5 (s' := (69, [some (.ref 0), some (.int z1), some (.int y2), some (.int y3)], [(.int y3), (.ref 14), (.ref 5), (.int y2)], mkM M)) rfl ?_
      obtain ⟨f14, h⟩ := h
      refine aG_iald rfl rfl rfl f14 ?_
      refine aG_n 0 (s' := (70, [some (.ref 0), some (.int z1), some (.int y2), some (.int y3)], [(.int (gi M 14 y3.toNatClampNeg)), (.ref 5), (.int y2)], mkM M)) rfl ?_
      obtain ⟨f15, h⟩ := h
      refine aG_iald rfl rfl rfl f15 ?_
      refine aG_n 5 (s' := (35, [some (.ref 0), some (.int z1), some (.int (y2 + (gi M 5 (gi M 14 y3.toNatClampNeg).toNatClampNeg))), some (.int (y3 + (nI 1)))], [], mkM M)) rfl ?_
      refine aG_le (a := [some (.ref 0), some (.int z1), some (.int (y2 + (gi M 5 (gi M 14 y3.toNatClampNeg).toNatClampNeg))), some (.int (y3 + (nI 1)))]) ⟨rfl, ⟨rfl, ⟨rfl, ⟨rfl, trivial⟩⟩⟩⟩ ?_
      exact hK35 _ _ _ h
def wL_X12_cost_35 (z1 : Int32) (Q : Int32 → wM → Prop) : Nat → Int32 → Int32 → wM → Prop
  | 0, _, _, _ => False
  | n + 1, y2, y3, M => wb_X12_cost_35 z1 (wL_X12_cost_35 z1 Q n) y2 y3 M Q
set_option maxRecDepth 20000 in
theorem wLk_X12_cost_35 {z1 : Int32} {Q : Int32 → wM → Prop} : ∀ (n : Nat) (y2 : Int32) (y3 : Int32) (M : wM), wL_X12_cost_35 z1 Q n y2 y3 M → aG 160 (35, [some (.ref 0), some (.int z1), some (.int y2), some (.int y3)], [], mkM M) (aPi mkM Q)
  | 0, _, _, _, h => h.elim
  | n + 1, y2, y3, M, h => wbk_X12_cost_35 (fun y2 y3 M h => wLk_X12_cost_35 n y2 y3 M h) h
def w_X12_cost (x1 : Int32) (M : wM) (Q : Int32 → wM → Prop) : Prop := w_X12_in x1.toInt64 (lN 0) (lN 2) M (fun r1 M2 => (r1 = (nI 0) → Q (-1) M2) ∧ (¬ r1 = (nI 0) → ((gi M2 0 22) = (nI 0) → Q (-2) M2) ∧ (¬ (gi M2 0 22) = (nI 0) → ((gi M2 0 41) = (nI 0) → Q (-2) M2) ∧ (¬ (gi M2 0 41) = (nI 0) → ∃ n, wL_X12_cost_35 x1 Q n (nI 0) (nI 0) M2))))
set_option maxRecDepth 20000 in
theorem wk_X12_cost {x1 : Int32} {M : wM} {Q : Int32 → wM → Prop} (h : w_X12_cost x1 M Q) : aG 160 (aEn 160 [(.ref 0), (.int x1)] (mkM M)) (aPi mkM Q) := by
  unfold w_X12_cost at h
  refine aG_n 4 (s' := (6, [some (.ref 0), some (.int x1), none, none], [(.long (lN 2)), (.long (lN 0)), (.long x1.toInt64)], mkM M)) rfl ?_
  refine aG_call rfl rfl (aG_mono (wk_X12_in h) ?_)
  rintro _ ⟨r1, M2, rfl, h⟩
  refine aG_n 0 (s' := (9, [some (.ref 0), some (.int x1), none, none], [(.int r1)], mkM M2)) rfl ?_
  obtain ⟨h1, h2⟩ := h
  by_cases q3 : r1 = (nI 0)
  · have h := h1 q3
    refine aG_if (cd := .ne) (b := false) (aTne0 q3) rfl ?_
    refine aG_n 1 (s' := (13, [some (.ref 0), some (.int x1), none, none], [(.int (-1))], mkM M2)) rfl ?_
    exact aG_ret0 rfl rfl ⟨_, _, rfl, h⟩
  · have h := h2 q3
    refine aG_if (cd := .ne) (b := true) (aTne1 q3) rfl ?_
    refine aG_n 2 (s' := (18, [some (.ref 0), some (.int x1), none, none], [(.int (gi M2 0 22))], mkM M2)) rfl ?_
    obtain ⟨h1, h2⟩ := h
    by_cases q4 : (gi M2 0 22) = (nI 0)
    · have h := h1 q4
      refine aG_if (cd := .eq) (b := true) (decide_eq_true q4) rfl ?_
      refine aG_n 1 (s' := (30, [some (.ref 0), some (.int x1), none, none], [(.int (-2))], mkM M2)) rfl ?_
      exact aG_ret0 rfl rfl ⟨_, _, rfl, h⟩
    · have h := h2 q4
      refine aG_if (cd := .eq) (b := false) (decide_eq_false q4) rfl ?_
      refine aG_n 2 (s' := (25, [some (.ref 0), some (.int x1), none, none], [(.int (gi M2 0 41))], mkM M2)) rfl ?_
      obtain ⟨h1, h2⟩ := h
      by_cases q5 : (gi M2 0 41) = (nI 0)
      · have h := h1 q5
        refine aG_if (cd := .ne) (b := false) (aTne0 q5) rfl ?_
        refine aG_n 1 (s' := (30, [some (.ref 0), some (.int x1), none, none], [(.int (-2))], mkM M2)) rfl ?_
        exact aG_ret0 rfl rfl ⟨_, _, rfl, h⟩
      · have h := h2 q5
        refine aG_if (cd := .ne) (b := true) (aTne1 q5) rfl ?_
        refine aG_n 4 (s' := (35, [some (.ref 0), some (.int x1), some (.int (nI 0)), some (.int (nI 0))], [], mkM M2)) rfl ?_
        refine aG_le (a := [some (.ref 0), some (.int x1), some (.int (nI 0)), some (.int (nI 0))]) ⟨rfl, ⟨rfl, ⟨rfl, ⟨rfl, trivial⟩⟩⟩⟩ ?_
        obtain ⟨n, h⟩ := h
        exact wLk_X12_cost_35 n _ _ _ h
def wb_X12_sheet_40 (z1 : Int32) (K40 : Int32 → wM → Prop) (y4 : Int32) (M : wM) (Q : Int32 → wM → Prop) : Prop := ((nI 100) ≤ y4 → Q (nI 1) M) ∧ (¬ (nI 100) ≤ y4 → vp_in (((nI 100) * z1) + y4) 400 ∧ (K40 (y4 + (nI 1)) (si M 42 (((nI 100) * z1) + y4).toNatClampNeg (nI 0))))
set_option maxRecDepth 20000 in
theorem wbk_X12_sheet_40 {z1 : Int32} {K40 : Int32 → wM → Prop} {y4 : Int32} {M : wM} {Q : Int32 → wM → Prop} (hK40 : ∀ (v4 : Int32) (M : wM), K40 v4 M → aG 161 (40, [some (.ref 0), some (.int z1), none, none, some (.int v4)], [], mkM M) (aPi mkM Q)) (h : wb_X12_sheet_40 z1 K40 y4 M Q) : aG 161 (40, [some (.ref 0), some (.int z1), none, none, some (.int y4)], [], mkM M) (aPi mkM Q) := by
  unfold wb_X12_sheet_40 at h
  refine aG_n 2 (s' := (44, [some (.ref 0), some (.int z1), none, none, some (.int y4)], [(.int (nI 100)), (.int y4)], mkM M)) rfl ?_
  obtain ⟨h1, h2⟩ := h
  by_cases q8 : (nI 100) ≤ y4
  · have h := h1 q8
    refine aG_icmp (cd := .ge) (b := true) (decide_eq_true q8) rfl ?_
    refine aG_n 1 (s' := (67, [some (.ref 0), some (.int z1), none, none, some (.int y4)], [(.int (nI 1))], mkM M)) rfl ?_
    exact aG_ret0 rfl rfl ⟨_, _, rfl, h⟩
  · have h := h2 q8
    refine aG_icmp (cd := .ge) (b := false) (decide_eq_false q8) rfl ?_
    refine aG_n 8 (s' := (59, [some (.ref 0), some (.int z1), none, none, some (.int y4)], [(.int (nI 0)), (.int (((nI 100) * z1) + y4)), (.ref 42)], mkM M)) rfl ?_
    obtain ⟨f9, h⟩ := h
    refine aG_iast rfl rfl f9 ?_
    refine aG_n 2 (s' := (40, [some (.ref 0), some (.int z1), none, none, some (.int (y4 + (nI 1)))], [], mkM (si M 42 (((nI 100) * z1) + y4).toNatClampNeg (nI 0)))) rfl ?_
    refine aG_le (a := [some (.ref 0), some (.int z1), none, none, some (.int (y4 + (nI 1)))]) ⟨rfl, ⟨rfl, ⟨rfl, trivial⟩⟩⟩ ?_
    exact hK40 _ _ h
def wL_X12_sheet_40 (z1 : Int32) (Q : Int32 → wM → Prop) : Nat → Int32 → wM → Prop
  | 0, _, _ => False
  | n + 1, y4, M => wb_X12_sheet_40 z1 (wL_X12_sheet_40 z1 Q n) y4 M Q
set_option maxRecDepth 20000 in
theorem wLk_X12_sheet_40 {z1 : Int32} {Q : Int32 → wM → Prop} : ∀ (n : Nat) (y4 : Int32) (M : wM), wL_X12_sheet_40 z1 Q n y4 M → aG 161 (40, [some (.ref 0), some (.int z1), none, none, some (.int y4)], [], mkM M) (aPi mkM Q)
  | 0, _, _, h => h.elim
  | n + 1, y4, M, h => wbk_X12_sheet_40 (fun y4 M h => wLk_X12_sheet_40 n y4 M h) h
def w_X12_sheet (x1 : Int32) (x2 : Int32) (x3 : Int32) (M : wM) (Q : Int32 → wM → Prop) : Prop := w_X12_isSheet x1 x2 M (fun r1 M2 => (r1 = (nI 0) → Q (-1) M2) ∧ (¬ r1 = (nI 0) → (x3 ≤ (nI 100) → ((nI 0) ≤ x3 → vp_in x1 4 ∧ (vp_in x1 4 ∧ (∃ n, wL_X12_sheet_40 x1 Q n (nI 0) (si (si M2 40 x1.toNatClampNeg x2) 41 x1.toNatClampNeg x3)))) ∧ (¬ (nI 0) ≤ x3 → Q (-14) M2)) ∧ (¬ x3 ≤ (nI 100) → Q (-1) M2)))
set_option maxRecDepth 20000 in
theorem wk_X12_sheet {x1 : Int32} {x2 : Int32} {x3 : Int32} {M : wM} {Q : Int32 → wM → Prop} (h : w_X12_sheet x1 x2 x3 M Q) : aG 161 (aEn 161 [(.ref 0), (.int x1), (.int x2), (.int x3)] (mkM M)) (aPi mkM Q) := by
  unfold w_X12_sheet at h
  refine aG_n 2 (s' := (2, [some (.ref 0), some (.int x1), some (.int x2), some (.int x3), none], [(.int x2), (.int x1)], mkM M)) rfl ?_
  refine aG_call rfl rfl (aG_mono (wk_X12_isSheet h) ?_)
  rintro _ ⟨r1, M2, rfl, h⟩
  refine aG_n 0 (s' := (5, [some (.ref 0), some (.int x1), some (.int x2), some (.int x3), none], [(.int r1)], mkM M2)) rfl ?_
  obtain ⟨h1, h2⟩ := h
  by_cases q3 : r1 = (nI 0)
  · have h := h1 q3
    refine aG_if (cd := .eq) (b := true) (decide_eq_true q3) rfl ?_
    refine aG_n 1 (s' := (15, [some (.ref 0), some (.int x1), some (.int x2), some (.int x3), none], [(.int (-1))], mkM M2)) rfl ?_
    exact aG_ret0 rfl rfl ⟨_, _, rfl, h⟩
  · have h := h2 q3
    refine aG_if (cd := .eq) (b := false) (decide_eq_false q3) rfl ?_
    refine aG_n 2 (s' := (11, [some (.ref 0), some (.int x1), some (.int x2), some (.int x3), none], [(.int (nI 100)), (.int x3)], mkM M2)) rfl ?_
    obtain ⟨h1, h2⟩ := h
    by_cases q4 : x3 ≤ (nI 100)
    · have h := h1 q4
      refine aG_icmp (cd := .le) (b := true) (decide_eq_true q4) rfl ?_
      refine aG_n 1 (s' := (17, [some (.ref 0), some (.int x1), some (.int x2), some (.int x3), none], [(.int x3)], mkM M2)) rfl ?_
      obtain ⟨h1, h2⟩ := h
      by_cases q5 : (nI 0) ≤ x3
      · have h := h1 q5
        refine aG_if (cd := .ge) (b := true) (decide_eq_true q5) rfl ?_
        refine aG_n 4 (s' := (29, [some (.ref 0), some (.int x1), some (.int x2), some (.int x3), none], [(.int x2), (.int x1), (.ref 40)], mkM M2)) rfl ?_
        obtain ⟨f6, h⟩ := h
        refine aG_iast rfl rfl f6 ?_
        refine aG_n 4 (s' := (36, [some (.ref 0), some (.int x1), some (.int x2), some (.int x3), none], [(.int x3), (.int x1), (.ref 41)], mkM (si M2 40 x1.toNatClampNeg x2))) rfl ?_
        obtain ⟨f7, h⟩ := h
        refine aG_iast rfl rfl f7 ?_
        refine aG_n 2 (s' := (40, [some (.ref 0), some (.int x1), some (.int x2), some (.int x3), some (.int (nI 0))], [], mkM (si (si M2 40 x1.toNatClampNeg x2) 41 x1.toNatClampNeg x3))) rfl ?_
        refine aG_le (a := [some (.ref 0), some (.int x1), none, none, some (.int (nI 0))]) ⟨rfl, ⟨rfl, ⟨rfl, trivial⟩⟩⟩ ?_
        obtain ⟨n, h⟩ := h
        exact wLk_X12_sheet_40 n _ _ h
      · have h := h2 q5
        refine aG_if (cd := .ge) (b := false) (decide_eq_false q5) rfl ?_
        refine aG_n 1 (s' := (22, [some (.ref 0), some (.int x1), some (.int x2), some (.int x3), none], [(.int (-14))], mkM M2)) rfl ?_
        exact aG_ret0 rfl rfl ⟨_, _, rfl, h⟩
    · have h := h2 q4
      refine aG_icmp (cd := .le) (b := false) (decide_eq_false q4) rfl ?_
      refine aG_n 1 (s' := (15, [some (.ref 0), some (.int x1), some (.int x2), some (.int x3), none], [(.int (-1))], mkM M2)) rfl ?_
      exact aG_ret0 rfl rfl ⟨_, _, rfl, h⟩
def w_X12_lay (x1 : Int32) (x2 : Int32) (x3 : Int32) (M : wM) (Q : Int32 → wM → Prop) : Prop := w_X12_isSheet x1 (nI 0) M (fun r1 M2 => (r1 = (nI 0) → Q (-1) M2) ∧ (¬ r1 = (nI 0) → vp_in x1 4 ∧ (((gi M2 40 x1.toNatClampNeg) = (-4) → Q (-11) M2) ∧ (¬ (gi M2 40 x1.toNatClampNeg) = (-4) → vp_in x1 4 ∧ (w_X12_in x2.toInt64 (lN 0) ((gi M2 41 x1.toNatClampNeg) - (nI 1)).toInt64 M2 (fun r7 M8 => (r7 = (nI 0) → Q (-12) M8) ∧ (¬ r7 = (nI 0) → vp_in x1 4 ∧ (((gi M8 40 x1.toNatClampNeg) = (nI 0) → vp_in (((nI 100) * x1) + x2) 400 ∧ (Q (nI 1) (si M8 42 (((nI 100) * x1) + x2).toNatClampNeg x3.toInt8.toInt32))) ∧ (¬ (gi M8 40 x1.toNatClampNeg) = (nI 0) → vp_in x1 4 ∧ (((gi M8 40 x1.toNatClampNeg) = (nI 1) → vp_in (((nI 100) * x1) + x2) 400 ∧ (Q (nI 1) (si M8 42 (((nI 100) * x1) + x2).toNatClampNeg x3.toInt16.toInt32))) ∧ (¬ (gi M8 40 x1.toNatClampNeg) = (nI 1) → vp_in (((nI 100) * x1) + x2) 400 ∧ (Q (nI 1) (si M8 42 (((nI 100) * x1) + x2).toNatClampNeg x3)))))))))))))
set_option maxRecDepth 20000 in
theorem wk_X12_lay {x1 : Int32} {x2 : Int32} {x3 : Int32} {M : wM} {Q : Int32 → wM → Prop} (h : w_X12_lay x1 x2 x3 M Q) : aG 162 (aEn 162 [(.ref 0), (.int x1), (.int x2), (.int x3)] (mkM M)) (aPi mkM Q) := by
  unfold w_X12_lay at h
  refine aG_n 2 (s' := (2, [some (.ref 0), some (.int x1), some (.int x2), some (.int x3)], [(.int (nI 0)), (.int x1)], mkM M)) rfl ?_
  refine aG_call rfl rfl (aG_mono (wk_X12_isSheet h) ?_)
  rintro _ ⟨r1, M2, rfl, h⟩
  refine aG_n 0 (s' := (5, [some (.ref 0), some (.int x1), some (.int x2), some (.int x3)], [(.int r1)], mkM M2)) rfl ?_
  obtain ⟨h1, h2⟩ := h
  by_cases q3 : r1 = (nI 0)
  · have h := h1 q3
    refine aG_if (cd := .ne) (b := false) (aTne0 q3) rfl ?_
    refine aG_n 1 (s' := (9, [some (.ref 0), some (.int x1), some (.int x2), some (.int x3)], [(.int (-1))], mkM M2)) rfl ?_
    exact aG_ret0 rfl rfl ⟨_, _, rfl, h⟩
  · have h := h2 q3
    refine aG_if (cd := .ne) (b := true) (aTne1 q3) rfl ?_
    refine aG_n 3 (s' := (15, [some (.ref 0), some (.int x1), some (.int x2), some (.int x3)], [(.int x1), (.ref 40)], mkM M2)) rfl ?_
    obtain ⟨f4, h⟩ := h
    refine aG_iald rfl rfl rfl f4 ?_
    refine aG_n 1 (s' := (18, [some (.ref 0), some (.int x1), some (.int x2), some (.int x3)], [(.int (-4)), (.int (gi M2 40 x1.toNatClampNeg))], mkM M2)) rfl ?_
    obtain ⟨h1, h2⟩ := h
    by_cases q5 : (gi M2 40 x1.toNatClampNeg) = (-4)
    · have h := h1 q5
      refine aG_icmp (cd := .ne) (b := false) (aTne0 q5) rfl ?_
      refine aG_n 1 (s' := (23, [some (.ref 0), some (.int x1), some (.int x2), some (.int x3)], [(.int (-11))], mkM M2)) rfl ?_
      exact aG_ret0 rfl rfl ⟨_, _, rfl, h⟩
    · have h := h2 q5
      refine aG_icmp (cd := .ne) (b := true) (aTne1 q5) rfl ?_
      refine aG_n 6 (s' := (32, [some (.ref 0), some (.int x1), some (.int x2), some (.int x3)], [(.int x1), (.ref 41), (.long (lN 0)), (.long x2.toInt64)], mkM M2)) rfl ?_
      obtain ⟨f6, h⟩ := h
      refine aG_iald rfl rfl rfl f6 ?_
      refine aG_n 3 (s' := (36, [some (.ref 0), some (.int x1), some (.int x2), some (.int x3)], [(.long ((gi M2 41 x1.toNatClampNeg) - (nI 1)).toInt64), (.long (lN 0)), (.long x2.toInt64)], mkM M2)) rfl ?_
      refine aG_call rfl rfl (aG_mono (wk_X12_in h) ?_)
      rintro _ ⟨r7, M8, rfl, h⟩
      refine aG_n 0 (s' := (39, [some (.ref 0), some (.int x1), some (.int x2), some (.int x3)], [(.int r7)], mkM M8)) rfl ?_
      obtain ⟨h1, h2⟩ := h
      by_cases q9 : r7 = (nI 0)
      · have h := h1 q9
        refine aG_if (cd := .ne) (b := false) (aTne0 q9) rfl ?_
        refine aG_n 1 (s' := (44, [some (.ref 0), some (.int x1), some (.int x2), some (.int x3)], [(.int (-12))], mkM M8)) rfl ?_
        exact aG_ret0 rfl rfl ⟨_, _, rfl, h⟩
      · have h := h2 q9
        refine aG_if (cd := .ne) (b := true) (aTne1 q9) rfl ?_
        refine aG_n 10 (s' := (60, [some (.ref 0), some (.int x1), some (.int x2), some (.int x3)], [(.int x1), (.ref 40), (.int (((nI 100) * x1) + x2)), (.ref 42)], mkM M8)) rfl ?_
        obtain ⟨f10, h⟩ := h
        refine aG_iald rfl rfl rfl f10 ?_
        refine aG_n 0 (s' := (61, [some (.ref 0), some (.int x1), some (.int x2), some (.int x3)], [(.int (gi M8 40 x1.toNatClampNeg)), (.int (((nI 100) * x1) + x2)), (.ref 42)], mkM M8)) rfl ?_
        obtain ⟨h1, h2⟩ := h
        by_cases q11 : (gi M8 40 x1.toNatClampNeg) = (nI 0)
        · have h := h1 q11
          refine aG_if (cd := .ne) (b := false) (aTne0 q11) rfl ?_
          refine aG_n 3 (s' := (85, [some (.ref 0), some (.int x1), some (.int x2), some (.int x3)], [(.int x3.toInt8.toInt32), (.int (((nI 100) * x1) + x2)), (.ref 42)], mkM M8)) rfl ?_
          obtain ⟨f12, h⟩ := h
          refine aG_iast rfl rfl f12 ?_
          refine aG_n 1 (s' := (87, [some (.ref 0), some (.int x1), some (.int x2), some (.int x3)], [(.int (nI 1))], mkM (si M8 42 (((nI 100) * x1) + x2).toNatClampNeg x3.toInt8.toInt32))) rfl ?_
          exact aG_ret0 rfl rfl ⟨_, _, rfl, h⟩
        · have h := h2 q11
          refine aG_if (cd := .ne) (b := true) (aTne1 q11) rfl ?_
          refine aG_n 3 (s' := (74, [some (.ref 0), some (.int x1), some (.int x2), some (.int x3)], [(.int x1), (.ref 40), (.int (((nI 100) * x1) + x2)), (.ref 42)], mkM M8)) rfl ?_
          obtain ⟨f13, h⟩ := h
          refine aG_iald rfl rfl rfl f13 ?_
          refine aG_n 1 (s' := (76, [some (.ref 0), some (.int x1), some (.int x2), some (.int x3)], [(.int (nI 1)), (.int (gi M8 40 x1.toNatClampNeg)), (.int (((nI 100) * x1) + x2)), (.ref 42)], mkM M8)) rfl ?_
          obtain ⟨h1, h2⟩ := h
          by_cases q14 : (gi M8 40 x1.toNatClampNeg) = (nI 1)
          · have h := h1 q14
            refine aG_icmp (cd := .ne) (b := false) (aTne0 q14) rfl ?_
            refine aG_n 3 (s' := (85, [some (.ref 0), some (.int x1), some (.int x2), some (.int x3)], [(.int x3.toInt16.toInt32), (.int (((nI 100) * x1) + x2)), (.ref 42)], mkM M8)) rfl ?_
            obtain ⟨f15, h⟩ := h
            refine aG_iast rfl rfl f15 ?_
            refine aG_n 1 (s' := (87, [some (.ref 0), some (.int x1), some (.int x2), some (.int x3)], [(.int (nI 1))], mkM (si M8 42 (((nI 100) * x1) + x2).toNatClampNeg x3.toInt16.toInt32))) rfl ?_
            exact aG_ret0 rfl rfl ⟨_, _, rfl, h⟩
          · have h := h2 q14
            refine aG_icmp (cd := .ne) (b := true) (aTne1 q14) rfl ?_
            refine aG_n 1 (s' := (85, [some (.ref 0), some (.int x1), some (.int x2), some (.int x3)], [(.int x3), (.int (((nI 100) * x1) + x2)), (.ref 42)], mkM M8)) rfl ?_
            obtain ⟨f16, h⟩ := h
            refine aG_iast rfl rfl f16 ?_
            refine aG_n 1 (s' := (87, [some (.ref 0), some (.int x1), some (.int x2), some (.int x3)], [(.int (nI 1))], mkM (si M8 42 (((nI 100) * x1) + x2).toNatClampNeg x3))) rfl ?_
            exact aG_ret0 rfl rfl ⟨_, _, rfl, h⟩
def wj_X0_step_96 (z1 : Int32) (z3 : Int32) (M : wM) (Q : Int32 → wM → Prop) : Prop := (z1 = (nI 0) → vp_in (gi M 26 5) 16 ∧ (Q z3 (si (si M 26 5 (aA 0 (gi M 26 5).toNatClampNeg)) 26 6 ((gi M 26 6) + (nI 1))))) ∧ (¬ z1 = (nI 0) → vp_in (gi M 26 5) 16 ∧ (Q z3 (si (si M 26 5 (aA 1 (gi M 26 5).toNatClampNeg)) 26 6 ((gi M 26 6) + (nI 1)))))
set_option maxRecDepth 20000 in
theorem wjk_X0_step_96 {z1 : Int32} {z3 : Int32} {M : wM} {Q : Int32 → wM → Prop} (h : wj_X0_step_96 z1 z3 M Q) : aG 163 (96, [some (.ref 26), some (.int z1), none, some (.int z3), none, none], [], mkX M) (aPi mkX Q) := by
  unfold wj_X0_step_96 at h
  refine aG_n 2 (s' := (98, [some (.ref 26), some (.int z1), none, some (.int z3), none, none], [(.int z1), (.ref 26)], mkX M)) rfl ?_
  obtain ⟨h1, h2⟩ := h
  by_cases q5 : z1 = (nI 0)
  · have h := h1 q5
    refine aG_if (cd := .eq) (b := true) (decide_eq_true q5) rfl ?_
    refine aG_n 3 (s' := (119, [some (.ref 26), some (.int z1), none, some (.int z3), none, none], [(.int (gi M 26 5)), (.ref (1000000 + 0)), (.ref 26)], mkX M)) rfl ?_
    obtain ⟨f6, h⟩ := h
    refine aG_sald rfl rfl f6 ?_
    refine aG_n 8 (s' := (134, [some (.ref 26), some (.int z1), none, some (.int z3), none, none], [(.int z3)], mkX (si (si M 26 5 (aA 0 (gi M 26 5).toNatClampNeg)) 26 6 ((gi M 26 6) + (nI 1))))) rfl ?_
    exact aG_ret0 rfl rfl ⟨_, _, rfl, h⟩
  · have h := h2 q5
    refine aG_if (cd := .eq) (b := false) (decide_eq_false q5) rfl ?_
    refine aG_n 3 (s' := (108, [some (.ref 26), some (.int z1), none, some (.int z3), none, none], [(.int (gi M 26 5)), (.ref (1000000 + 1)), (.ref 26)], mkX M)) rfl ?_
    obtain ⟨f7, h⟩ := h
    refine aG_sald rfl rfl f7 ?_
    refine aG_n 9 (s' := (134, [some (.ref 26), some (.int z1), none, some (.int z3), none, none], [(.int z3)], mkX (si (si M 26 5 (aA 1 (gi M 26 5).toNatClampNeg)) 26 6 ((gi M 26 6) + (nI 1))))) rfl ?_
    exact aG_ret0 rfl rfl ⟨_, _, rfl, h⟩
def wj_X0_step_20 (z1 : Int32) (z2 : Int32) (M : wM) (Q : Int32 → wM → Prop) : Prop := (z2 = (nI 0) → w_X0_shiftAll (nI 0) M (fun r3 M4 => wj_X0_step_96 z1 r3 M4 Q)) ∧ (¬ z2 = (nI 0) → w_X0_shiftAll (nI 1) M (fun r8 M9 => wj_X0_step_96 z1 r8 M9 Q))
set_option maxRecDepth 20000 in
theorem wjk_X0_step_20 {z1 : Int32} {z2 : Int32} {M : wM} {Q : Int32 → wM → Prop} (h : wj_X0_step_20 z1 z2 M Q) : aG 163 (20, [some (.ref 26), some (.int z1), some (.int z2), none, none, none], [], mkX M) (aPi mkX Q) := by
  unfold wj_X0_step_20 at h
  refine aG_n 2 (s' := (22, [some (.ref 26), some (.int z1), some (.int z2), none, none, none], [(.int z2), (.ref 26)], mkX M)) rfl ?_
  obtain ⟨h1, h2⟩ := h
  by_cases q2 : z2 = (nI 0)
  · have h := h1 q2
    refine aG_if (cd := .eq) (b := true) (decide_eq_true q2) rfl ?_
    refine aG_n 1 (s' := (30, [some (.ref 26), some (.int z1), some (.int z2), none, none, none], [(.int (nI 0)), (.ref 26)], mkX M)) rfl ?_
    refine aG_call rfl rfl (aG_mono (wk_X0_shiftAll h) ?_)
    rintro _ ⟨r3, M4, rfl, h⟩
    refine aG_n 2 (s' := (96, [some (.ref 26), some (.int z1), some (.int z2), some (.int r3), none, none], [], mkX M4)) rfl ?_
    refine aG_le (a := [some (.ref 26), some (.int z1), none, some (.int r3), none, none]) ⟨rfl, ⟨rfl, ⟨rfl, trivial⟩⟩⟩ ?_
    exact wjk_X0_step_96 h
  · have h := h2 q2
    refine aG_if (cd := .eq) (b := false) (decide_eq_false q2) rfl ?_
    refine aG_n 2 (s' := (30, [some (.ref 26), some (.int z1), some (.int z2), none, none, none], [(.int (nI 1)), (.ref 26)], mkX M)) rfl ?_
    refine aG_call rfl rfl (aG_mono (wk_X0_shiftAll h) ?_)
    rintro _ ⟨r8, M9, rfl, h⟩
    refine aG_n 2 (s' := (96, [some (.ref 26), some (.int z1), some (.int z2), some (.int r8), none, none], [], mkX M9)) rfl ?_
    refine aG_le (a := [some (.ref 26), some (.int z1), none, some (.int r8), none, none]) ⟨rfl, ⟨rfl, ⟨rfl, trivial⟩⟩⟩ ?_
    exact wjk_X0_step_96 h
def wb_X0_step_65 (z1 : Int32) (z3 : Int32) (z4 : Int32) (K65 : Int32 → wM → Prop) (y5 : Int32) (M : wM) (Q : Int32 → wM → Prop) : Prop := ((gi M 26 3) ≤ y5 → wj_X0_step_96 z1 z3 M Q) ∧ (¬ (gi M 26 3) ≤ y5 → vp_in y5 6 ∧ (w_X1_act y5.toNatClampNeg (gi M 26 5) z4 M (fun M19 => K65 (y5 + (nI 1)) M19)))
set_option maxRecDepth 20000 in
theorem wbk_X0_step_65 {z1 : Int32} {z3 : Int32} {z4 : Int32} {K65 : Int32 → wM → Prop} {y5 : Int32} {M : wM} {Q : Int32 → wM → Prop} (hK65 : ∀ (v5 : Int32) (M : wM), K65 v5 M → aG 163 (65, [some (.ref 26), some (.int z1), none, some (.int z3), some (.int z4), some (.int v5)], [], mkX M) (aPi mkX Q)) (h : wb_X0_step_65 z1 z3 z4 K65 y5 M Q) : aG 163 (65, [some (.ref 26), some (.int z1), none, some (.int z3), some (.int z4), some (.int y5)], [], mkX M) (aPi mkX Q) := by
  unfold wb_X0_step_65 at h
  refine aG_n 3 (s' := (71, [some (.ref 26), some (.int z1), none, some (.int z3), some (.int z4), some (.int y5)], [(.int (gi M 26 3)), (.int y5)], mkX M)) rfl ?_
  obtain ⟨h1, h2⟩ := h
  by_cases q16 : (gi M 26 3) ≤ y5
  · have h := h1 q16
    refine aG_icmp (cd := .ge) (b := true) (decide_eq_true q16) rfl ?_
    refine aG_n 0 (s' := (96, [some (.ref 26), some (.int z1), none, some (.int z3), some (.int z4), some (.int y5)], [], mkX M)) rfl ?_
    refine aG_le (a := [some (.ref 26), some (.int z1), none, some (.int z3), none, none]) ⟨rfl, ⟨rfl, ⟨rfl, trivial⟩⟩⟩ ?_
    exact wjk_X0_step_96 h
  · have h := h2 q16
    refine aG_icmp (cd := .ge) (b := false) (decide_eq_false q16) rfl ?_
    refine aG_n 3 (s' := (80, [some (.ref 26), some (.int z1), none, some (.int z3), some (.int z4), some (.int y5)], [(.int y5), (.ref 30)], mkX M)) rfl ?_
    obtain ⟨f17, h⟩ := h
    refine aG_aald rfl rfl rfl f17 (rX_30 (P := (M).2.2) (vin_lt f17)) ?_
    refine aG_n 3 (s' := (87, [some (.ref 26), some (.int z1), none, some (.int z3), some (.int z4), some (.int y5)], [(.int z4), (.int (gi M 26 5)), (.ref (34 + 3 * y5.toNatClampNeg))], mkX M)) rfl ?_
    refine aG_ivv rfl rfl (shX_chip (vin_lt f17)) rfl rfl (aG_mono (wk_X1_act h) ?_)
    rintro _ ⟨M19, rfl, h⟩
    refine aG_n 2 (s' := (65, [some (.ref 26), some (.int z1), none, some (.int z3), some (.int z4), some (.int (y5 + (nI 1)))], [], mkX M19)) rfl ?_
    refine aG_le (a := [some (.ref 26), some (.int z1), none, some (.int z3), some (.int z4), some (.int (y5 + (nI 1)))]) ⟨rfl, ⟨rfl, ⟨rfl, ⟨rfl, ⟨rfl, trivial⟩⟩⟩⟩⟩ ?_
    exact hK65 _ _ h
def wL_X0_step_65 (z1 : Int32) (z3 : Int32) (z4 : Int32) (Q : Int32 → wM → Prop) : Nat → Int32 → wM → Prop
  | 0, _, _ => False
  | n + 1, y5, M => wb_X0_step_65 z1 z3 z4 (wL_X0_step_65 z1 z3 z4 Q n) y5 M Q
set_option maxRecDepth 20000 in
theorem wLk_X0_step_65 {z1 : Int32} {z3 : Int32} {z4 : Int32} {Q : Int32 → wM → Prop} : ∀ (n : Nat) (y5 : Int32) (M : wM), wL_X0_step_65 z1 z3 z4 Q n y5 M → aG 163 (65, [some (.ref 26), some (.int z1), none, some (.int z3), some (.int z4), some (.int y5)], [], mkX M) (aPi mkX Q)
  | 0, _, _, h => h.elim
  | n + 1, y5, M, h => wbk_X0_step_65 (fun y5 M h => wLk_X0_step_65 n y5 M h) h
def wj_X0_step_60 (z1 : Int32) (z3 : Int32) (s0 : Int32) (M : wM) (Q : Int32 → wM → Prop) : Prop := ∃ n, wL_X0_step_65 z1 z3 s0 Q n (nI 0) M
set_option maxRecDepth 20000 in
theorem wjk_X0_step_60 {z1 : Int32} {z3 : Int32} {s0 : Int32} {M : wM} {Q : Int32 → wM → Prop} (h : wj_X0_step_60 z1 z3 s0 M Q) : aG 163 (60, [some (.ref 26), some (.int z1), none, some (.int z3), none, none], [(.int s0)], mkX M) (aPi mkX Q) := by
  unfold wj_X0_step_60 at h
  refine aG_n 3 (s' := (65, [some (.ref 26), some (.int z1), none, some (.int z3), some (.int s0), some (.int (nI 0))], [], mkX M)) rfl ?_
  refine aG_le (a := [some (.ref 26), some (.int z1), none, some (.int z3), some (.int s0), some (.int (nI 0))]) ⟨rfl, ⟨rfl, ⟨rfl, ⟨rfl, ⟨rfl, trivial⟩⟩⟩⟩⟩ ?_
  obtain ⟨n, h⟩ := h
  exact wLk_X0_step_65 n _ _ h
def w_X0_step (x1 : Int32) (x2 : Int32) (M : wM) (Q : Int32 → wM → Prop) : Prop := ((gi M 26 5) = (nI 4) → wj_X0_step_20 x1 x2 M Q) ∧ (¬ (gi M 26 5) = (nI 4) → ((gi M 26 5) = (nI 11) → wj_X0_step_20 x1 x2 M Q) ∧ (¬ (gi M 26 5) = (nI 11) → ((gi M 26 5) = (nI 3) → w_X0_ownLevels M (fun r12 M13 => w_X3_levels r12 M13 (fun r14 M15 => wj_X0_step_60 x1 (-4) r14 M15 Q))) ∧ (¬ (gi M 26 5) = (nI 3) → wj_X0_step_60 x1 (-4) (nI 0) M Q)))
set_option maxRecDepth 20000 in
theorem wk_X0_step {x1 : Int32} {x2 : Int32} {M : wM} {Q : Int32 → wM → Prop} (h : w_X0_step x1 x2 M Q) : aG 163 (aEn 163 [(.ref 26), (.int x1), (.int x2)] (mkX M)) (aPi mkX Q) := by
  unfold w_X0_step at h
  refine aG_n 5 (s' := (8, [some (.ref 26), some (.int x1), some (.int x2), some (.int (-4)), none, none], [(.int (nI 4)), (.int (gi M 26 5))], mkX M)) rfl ?_
  obtain ⟨h1, h2⟩ := h
  by_cases q1 : (gi M 26 5) = (nI 4)
  · have h := h1 q1
    refine aG_icmp (cd := .eq) (b := true) (decide_eq_true q1) rfl ?_
    refine aG_n 0 (s' := (20, [some (.ref 26), some (.int x1), some (.int x2), some (.int (-4)), none, none], [], mkX M)) rfl ?_
    refine aG_le (a := [some (.ref 26), some (.int x1), some (.int x2), none, none, none]) ⟨rfl, ⟨rfl, ⟨rfl, trivial⟩⟩⟩ ?_
    exact wjk_X0_step_20 h
  · have h := h2 q1
    refine aG_icmp (cd := .eq) (b := false) (decide_eq_false q1) rfl ?_
    refine aG_n 3 (s' := (17, [some (.ref 26), some (.int x1), some (.int x2), some (.int (-4)), none, none], [(.int (nI 11)), (.int (gi M 26 5))], mkX M)) rfl ?_
    obtain ⟨h1, h2⟩ := h
    by_cases q10 : (gi M 26 5) = (nI 11)
    · have h := h1 q10
      refine aG_icmp (cd := .ne) (b := false) (aTne0 q10) rfl ?_
      refine aG_n 0 (s' := (20, [some (.ref 26), some (.int x1), some (.int x2), some (.int (-4)), none, none], [], mkX M)) rfl ?_
      refine aG_le (a := [some (.ref 26), some (.int x1), some (.int x2), none, none, none]) ⟨rfl, ⟨rfl, ⟨rfl, trivial⟩⟩⟩ ?_
      exact wjk_X0_step_20 h
    · have h := h2 q10
      refine aG_icmp (cd := .ne) (b := true) (aTne1 q10) rfl ?_
      refine aG_n 3 (s' := (42, [some (.ref 26), some (.int x1), some (.int x2), some (.int (-4)), none, none], [(.int (nI 3)), (.int (gi M 26 5))], mkX M)) rfl ?_
      obtain ⟨h1, h2⟩ := h
      by_cases q11 : (gi M 26 5) = (nI 3)
      · have h := h1 q11
        refine aG_icmp (cd := .ne) (b := false) (aTne0 q11) rfl ?_
        refine aG_n 3 (s' := (50, [some (.ref 26), some (.int x1), some (.int x2), some (.int (-4)), none, none], [(.ref 26), (.ref 12)], mkX M)) rfl ?_
        refine aG_call rfl rfl (aG_mono (wk_X0_ownLevels h) ?_)
        rintro _ ⟨r12, M13, rfl, h⟩
        refine aG_n 0 (s' := (53, [some (.ref 26), some (.int x1), some (.int x2), some (.int (-4)), none, none], [(.int r12), (.ref 12)], mkX M13)) rfl ?_
        refine aG_call rfl rfl (aG_mono (wk_X3_levels h) ?_)
        rintro _ ⟨r14, M15, rfl, h⟩
        refine aG_n 1 (s' := (60, [some (.ref 26), some (.int x1), some (.int x2), some (.int (-4)), none, none], [(.int r14)], mkX M15)) rfl ?_
        refine aG_le (a := [some (.ref 26), some (.int x1), none, some (.int (-4)), none, none]) ⟨rfl, ⟨rfl, ⟨rfl, trivial⟩⟩⟩ ?_
        exact wjk_X0_step_60 h
      · have h := h2 q11
        refine aG_icmp (cd := .ne) (b := true) (aTne1 q11) rfl ?_
        refine aG_n 1 (s' := (60, [some (.ref 26), some (.int x1), some (.int x2), some (.int (-4)), none, none], [(.int (nI 0))], mkX M)) rfl ?_
        refine aG_le (a := [some (.ref 26), some (.int x1), none, some (.int (-4)), none, none]) ⟨rfl, ⟨rfl, ⟨rfl, trivial⟩⟩⟩ ?_
        exact wjk_X0_step_60 h
