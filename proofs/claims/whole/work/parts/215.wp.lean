/-! methods as predicates, and their walks (by gen/wpgen.py) -/
def w_X11_go (x1 : Int32) (M : wM) (Q : Int32 → wM → Prop) : Prop := w_X11_isState x1 M (fun r1 M2 => (r1 = (nI 0) → Q (-1) M2) ∧ (¬ r1 = (nI 0) → ((gi M2 26 3) = (nI 0) → Q (-2) M2) ∧ (¬ (gi M2 26 3) = (nI 0) → w_X0_walk x1 M2 (fun r5 M6 => Q r5 M6))))
set_option maxRecDepth 20000 in
theorem wk_X11_go {x1 : Int32} {M : wM} {Q : Int32 → wM → Prop} (h : w_X11_go x1 M Q) : aG 204 (aEn 204 [(.ref 0), (.int x1)] (mkX M)) (aPi mkX Q) := by
  unfold w_X11_go at h
  refine aG_n 1 (s' := (1, [some (.ref 0), some (.int x1)], [(.int x1)], mkX M)) rfl ?_
  refine aG_call rfl rfl (aG_mono (wk_X11_isState h) ?_)
  rintro _ ⟨r1, M2, rfl, h⟩
  refine aG_n 0 (s' := (4, [some (.ref 0), some (.int x1)], [(.int r1)], mkX M2)) rfl ?_
  obtain ⟨h1, h2⟩ := h
  by_cases q3 : r1 = (nI 0)
  · have h := h1 q3
    refine aG_if (cd := .ne) (b := false) (aTne0 q3) rfl ?_
    refine aG_n 1 (s' := (8, [some (.ref 0), some (.int x1)], [(.int (-1))], mkX M2)) rfl ?_
    exact aG_ret0 rfl rfl ⟨_, _, rfl, h⟩
  · have h := h2 q3
    refine aG_if (cd := .ne) (b := true) (aTne1 q3) rfl ?_
    refine aG_n 3 (s' := (16, [some (.ref 0), some (.int x1)], [(.int (gi M2 26 3))], mkX M2)) rfl ?_
    obtain ⟨h1, h2⟩ := h
    by_cases q4 : (gi M2 26 3) = (nI 0)
    · have h := h1 q4
      refine aG_if (cd := .ne) (b := false) (aTne0 q4) rfl ?_
      refine aG_n 2 (s' := (32, [some (.ref 0), some (.int x1)], [(.int (-2))], mkX M2)) rfl ?_
      exact aG_ret0 rfl rfl ⟨_, _, rfl, h⟩
    · have h := h2 q4
      refine aG_if (cd := .ne) (b := true) (aTne1 q4) rfl ?_
      refine aG_n 3 (s' := (29, [some (.ref 0), some (.int x1)], [(.int x1), (.ref 26)], mkX M2)) rfl ?_
      refine aG_call rfl rfl (aG_mono (wk_X0_walk h) ?_)
      rintro _ ⟨r5, M6, rfl, h⟩
      refine aG_n 0 (s' := (32, [some (.ref 0), some (.int x1)], [(.int r5)], mkX M6)) rfl ?_
      exact aG_ret0 rfl rfl ⟨_, _, rfl, h⟩
def wj_X11_likely_129 (z3 : Int32) (s0 : Int32) (s1 : Int32) (M : wM) (Q : Int32 → wM → Prop) : Prop := ((s0 - s1) < (gi M 54 8) → (z3 = (nI 0) → vp_in (s0 - s1) 2556 ∧ (Q (gi M 59 (s0 - s1).toNatClampNeg) M)) ∧ (¬ z3 = (nI 0) → vp_in (s0 - s1) 2556 ∧ (Q (gi M 60 (s0 - s1).toNatClampNeg) M))) ∧ (¬ (s0 - s1) < (gi M 54 8) → Q (-1) M)
set_option maxRecDepth 20000 in
theorem wjk_X11_likely_129 {z3 : Int32} {s0 : Int32} {s1 : Int32} {M : wM} {Q : Int32 → wM → Prop} (h : wj_X11_likely_129 z3 s0 s1 M Q) : aG 205 (129, [some (.ref 0), none, none, some (.int z3), none], [(.int s1), (.int s0)], mkX M) (aPi mkX Q) := by
  unfold wj_X11_likely_129 at h
  refine aG_n 6 (s' := (141, [some (.ref 0), none, none, some (.int z3), some (.int (s0 - s1))], [(.int (gi M 54 8)), (.int (s0 - s1))], mkX M)) rfl ?_
  obtain ⟨h1, h2⟩ := h
  by_cases q17 : (s0 - s1) < (gi M 54 8)
  · have h := h1 q17
    refine aG_icmp (cd := .lt) (b := true) (decide_eq_true q17) rfl ?_
    refine aG_n 1 (s' := (147, [some (.ref 0), none, none, some (.int z3), some (.int (s0 - s1))], [(.int z3)], mkX M)) rfl ?_
    obtain ⟨h1, h2⟩ := h
    by_cases q18 : z3 = (nI 0)
    · have h := h1 q18
      refine aG_if (cd := .eq) (b := true) (decide_eq_true q18) rfl ?_
      refine aG_n 4 (s' := (172, [some (.ref 0), none, none, some (.int z3), some (.int (s0 - s1))], [(.int (s0 - s1)), (.ref 59)], mkX M)) rfl ?_
      obtain ⟨f19, h⟩ := h
      refine aG_iald rfl rfl rfl f19 ?_
      refine aG_n 0 (s' := (173, [some (.ref 0), none, none, some (.int z3), some (.int (s0 - s1))], [(.int (gi M 59 (s0 - s1).toNatClampNeg))], mkX M)) rfl ?_
      exact aG_ret0 rfl rfl ⟨_, _, rfl, h⟩
    · have h := h2 q18
      refine aG_if (cd := .eq) (b := false) (decide_eq_false q18) rfl ?_
      refine aG_n 4 (s' := (159, [some (.ref 0), none, none, some (.int z3), some (.int (s0 - s1))], [(.int (s0 - s1)), (.ref 60)], mkX M)) rfl ?_
      obtain ⟨f20, h⟩ := h
      refine aG_iald rfl rfl rfl f20 ?_
      refine aG_n 1 (s' := (173, [some (.ref 0), none, none, some (.int z3), some (.int (s0 - s1))], [(.int (gi M 60 (s0 - s1).toNatClampNeg))], mkX M)) rfl ?_
      exact aG_ret0 rfl rfl ⟨_, _, rfl, h⟩
  · have h := h2 q17
    refine aG_icmp (cd := .lt) (b := false) (decide_eq_false q17) rfl ?_
    refine aG_n 1 (s' := (145, [some (.ref 0), none, none, some (.int z3), some (.int (s0 - s1))], [(.int (-1))], mkX M)) rfl ?_
    exact aG_ret0 rfl rfl ⟨_, _, rfl, h⟩
def wj_X11_likely_25 (z1 : Int32) (z2 : Int32) (M : wM) (Q : Int32 → wM → Prop) : Prop := ((gi M 12 0) = (nI 0) → ((nI 1) < z2 → Q (-1) M) ∧ (¬ (nI 1) < z2 → Q (-2) M)) ∧ (¬ (gi M 12 0) = (nI 0) → w_X10_prepare z1 M (fun M9 => w_X10_seekLikely M9 (fun M11 => (z2 = (nI 0) → ((gi M11 54 8) = (nI 0) → Q (-4) M11) ∧ (¬ (gi M11 54 8) = (nI 0) → Q (gi M11 54 9) M11)) ∧ (¬ z2 = (nI 0) → (z2 = (nI 1) → Q (gi M11 54 8) M11) ∧ (¬ z2 = (nI 1) → (z2 < (nI 20000) → ((nI 0) = (nI 0) → wj_X11_likely_129 (nI 0) z2 (nI 10000) M11 Q) ∧ (¬ (nI 0) = (nI 0) → wj_X11_likely_129 (nI 0) z2 (nI 20000) M11 Q)) ∧ (¬ z2 < (nI 20000) → ((nI 1) = (nI 0) → wj_X11_likely_129 (nI 1) z2 (nI 10000) M11 Q) ∧ (¬ (nI 1) = (nI 0) → wj_X11_likely_129 (nI 1) z2 (nI 20000) M11 Q)))))))
set_option maxRecDepth 20000 in
theorem wjk_X11_likely_25 {z1 : Int32} {z2 : Int32} {M : wM} {Q : Int32 → wM → Prop} (h : wj_X11_likely_25 z1 z2 M Q) : aG 205 (25, [some (.ref 0), some (.int z1), some (.int z2), none, none], [], mkX M) (aPi mkX Q) := by
  unfold wj_X11_likely_25 at h
  refine aG_n 3 (s' := (32, [some (.ref 0), some (.int z1), some (.int z2), none, none], [(.int (gi M 12 0))], mkX M)) rfl ?_
  obtain ⟨h1, h2⟩ := h
  by_cases q6 : (gi M 12 0) = (nI 0)
  · have h := h1 q6
    refine aG_if (cd := .ne) (b := false) (aTne0 q6) rfl ?_
    refine aG_n 2 (s' := (37, [some (.ref 0), some (.int z1), some (.int z2), none, none], [(.int (nI 1)), (.int z2)], mkX M)) rfl ?_
    obtain ⟨h1, h2⟩ := h
    by_cases q7 : (nI 1) < z2
    · have h := h1 q7
      refine aG_icmp (cd := .gt) (b := true) (decide_eq_true q7) rfl ?_
      refine aG_n 1 (s' := (46, [some (.ref 0), some (.int z1), some (.int z2), none, none], [(.int (-1))], mkX M)) rfl ?_
      exact aG_ret0 rfl rfl ⟨_, _, rfl, h⟩
    · have h := h2 q7
      refine aG_icmp (cd := .gt) (b := false) (decide_eq_false q7) rfl ?_
      refine aG_n 2 (s' := (46, [some (.ref 0), some (.int z1), some (.int z2), none, none], [(.int (-2))], mkX M)) rfl ?_
      exact aG_ret0 rfl rfl ⟨_, _, rfl, h⟩
  · have h := h2 q6
    refine aG_if (cd := .ne) (b := true) (aTne1 q6) rfl ?_
    refine aG_n 3 (s' := (52, [some (.ref 0), some (.int z1), some (.int z2), none, none], [(.int z1), (.ref 54)], mkX M)) rfl ?_
    refine aG_call rfl rfl (aG_mono (wk_X10_prepare h) ?_)
    rintro _ ⟨M9, rfl, h⟩
    refine aG_n 2 (s' := (59, [some (.ref 0), some (.int z1), some (.int z2), none, none], [(.ref 54)], mkX M9)) rfl ?_
    refine aG_call rfl rfl (aG_mono (wk_X10_seekLikely h) ?_)
    rintro _ ⟨M11, rfl, h⟩
    refine aG_n 1 (s' := (63, [some (.ref 0), some (.int z1), some (.int z2), none, none], [(.int z2)], mkX M11)) rfl ?_
    obtain ⟨h1, h2⟩ := h
    by_cases q12 : z2 = (nI 0)
    · have h := h1 q12
      refine aG_if (cd := .ne) (b := false) (aTne0 q12) rfl ?_
      refine aG_n 3 (s' := (73, [some (.ref 0), some (.int z1), some (.int z2), none, none], [(.int (gi M11 54 8))], mkX M11)) rfl ?_
      obtain ⟨h1, h2⟩ := h
      by_cases q13 : (gi M11 54 8) = (nI 0)
      · have h := h1 q13
        refine aG_if (cd := .ne) (b := false) (aTne0 q13) rfl ?_
        refine aG_n 2 (s' := (88, [some (.ref 0), some (.int z1), some (.int z2), none, none], [(.int (-4))], mkX M11)) rfl ?_
        exact aG_ret0 rfl rfl ⟨_, _, rfl, h⟩
      · have h := h2 q13
        refine aG_if (cd := .ne) (b := true) (aTne1 q13) rfl ?_
        refine aG_n 3 (s' := (88, [some (.ref 0), some (.int z1), some (.int z2), none, none], [(.int (gi M11 54 9))], mkX M11)) rfl ?_
        exact aG_ret0 rfl rfl ⟨_, _, rfl, h⟩
    · have h := h2 q12
      refine aG_if (cd := .ne) (b := true) (aTne1 q12) rfl ?_
      refine aG_n 2 (s' := (91, [some (.ref 0), some (.int z1), some (.int z2), none, none], [(.int (nI 1)), (.int z2)], mkX M11)) rfl ?_
      obtain ⟨h1, h2⟩ := h
      by_cases q14 : z2 = (nI 1)
      · have h := h1 q14
        refine aG_icmp (cd := .ne) (b := false) (aTne0 q14) rfl ?_
        refine aG_n 3 (s' := (101, [some (.ref 0), some (.int z1), some (.int z2), none, none], [(.int (gi M11 54 8))], mkX M11)) rfl ?_
        exact aG_ret0 rfl rfl ⟨_, _, rfl, h⟩
      · have h := h2 q14
        refine aG_icmp (cd := .ne) (b := true) (aTne1 q14) rfl ?_
        refine aG_n 2 (s' := (106, [some (.ref 0), some (.int z1), some (.int z2), none, none], [(.int (nI 20000)), (.int z2)], mkX M11)) rfl ?_
        obtain ⟨h1, h2⟩ := h
        by_cases q15 : z2 < (nI 20000)
        · have h := h1 q15
          refine aG_icmp (cd := .lt) (b := true) (decide_eq_true q15) rfl ?_
          refine aG_n 4 (s' := (117, [some (.ref 0), some (.int z1), some (.int z2), some (.int (nI 0)), none], [(.int (nI 0)), (.int z2)], mkX M11)) rfl ?_
          obtain ⟨h1, h2⟩ := h
          by_cases q16 : (nI 0) = (nI 0)
          · have h := h1 q16
            refine aG_if (cd := .eq) (b := true) (decide_eq_true q16) rfl ?_
            refine aG_n 1 (s' := (129, [some (.ref 0), some (.int z1), some (.int z2), some (.int (nI 0)), none], [(.int (nI 10000)), (.int z2)], mkX M11)) rfl ?_
            refine aG_le (a := [some (.ref 0), none, none, some (.int (nI 0)), none]) ⟨rfl, ⟨rfl, trivial⟩⟩ ?_
            exact wjk_X11_likely_129 h
          · have h := h2 q16
            refine aG_if (cd := .eq) (b := false) (decide_eq_false q16) rfl ?_
            refine aG_n 2 (s' := (129, [some (.ref 0), some (.int z1), some (.int z2), some (.int (nI 0)), none], [(.int (nI 20000)), (.int z2)], mkX M11)) rfl ?_
            refine aG_le (a := [some (.ref 0), none, none, some (.int (nI 0)), none]) ⟨rfl, ⟨rfl, trivial⟩⟩ ?_
            exact wjk_X11_likely_129 h
        · have h := h2 q15
          refine aG_icmp (cd := .lt) (b := false) (decide_eq_false q15) rfl ?_
          refine aG_n 5 (s' := (117, [some (.ref 0), some (.int z1), some (.int z2), some (.int (nI 1)), none], [(.int (nI 1)), (.int z2)], mkX M11)) rfl ?_
          obtain ⟨h1, h2⟩ := h
          by_cases q21 : (nI 1) = (nI 0)
          · have h := h1 q21
            refine aG_if (cd := .eq) (b := true) (decide_eq_true q21) rfl ?_
            refine aG_n 1 (s' := (129, [some (.ref 0), some (.int z1), some (.int z2), some (.int (nI 1)), none], [(.int (nI 10000)), (.int z2)], mkX M11)) rfl ?_
            refine aG_le (a := [some (.ref 0), none, none, some (.int (nI 1)), none]) ⟨rfl, ⟨rfl, trivial⟩⟩ ?_
            exact wjk_X11_likely_129 h
          · have h := h2 q21
            refine aG_if (cd := .eq) (b := false) (decide_eq_false q21) rfl ?_
            refine aG_n 2 (s' := (129, [some (.ref 0), some (.int z1), some (.int z2), some (.int (nI 1)), none], [(.int (nI 20000)), (.int z2)], mkX M11)) rfl ?_
            refine aG_le (a := [some (.ref 0), none, none, some (.int (nI 1)), none]) ⟨rfl, ⟨rfl, trivial⟩⟩ ?_
            exact wjk_X11_likely_129 h
def w_X11_likely (x1 : Int32) (x2 : Int32) (M : wM) (Q : Int32 → wM → Prop) : Prop := w_X11_isSort x1 M (fun r1 M2 => (r1 = (nI 0) → Q (-1) M2) ∧ (¬ r1 = (nI 0) → (x2 < (nI 0) → Q (-1) M2) ∧ (¬ x2 < (nI 0) → (x2 ≤ (nI 1) → wj_X11_likely_25 x1 x2 M2 Q) ∧ (¬ x2 ≤ (nI 1) → ((nI 10000) ≤ x2 → wj_X11_likely_25 x1 x2 M2 Q) ∧ (¬ (nI 10000) ≤ x2 → Q (-1) M2)))))
set_option maxRecDepth 20000 in
theorem wk_X11_likely {x1 : Int32} {x2 : Int32} {M : wM} {Q : Int32 → wM → Prop} (h : w_X11_likely x1 x2 M Q) : aG 205 (aEn 205 [(.ref 0), (.int x1), (.int x2)] (mkX M)) (aPi mkX Q) := by
  unfold w_X11_likely at h
  refine aG_n 1 (s' := (1, [some (.ref 0), some (.int x1), some (.int x2), none, none], [(.int x1)], mkX M)) rfl ?_
  refine aG_call rfl rfl (aG_mono (wk_X11_isSort h) ?_)
  rintro _ ⟨r1, M2, rfl, h⟩
  refine aG_n 0 (s' := (4, [some (.ref 0), some (.int x1), some (.int x2), none, none], [(.int r1)], mkX M2)) rfl ?_
  obtain ⟨h1, h2⟩ := h
  by_cases q3 : r1 = (nI 0)
  · have h := h1 q3
    refine aG_if (cd := .eq) (b := true) (decide_eq_true q3) rfl ?_
    refine aG_n 1 (s' := (24, [some (.ref 0), some (.int x1), some (.int x2), none, none], [(.int (-1))], mkX M2)) rfl ?_
    exact aG_ret0 rfl rfl ⟨_, _, rfl, h⟩
  · have h := h2 q3
    refine aG_if (cd := .eq) (b := false) (decide_eq_false q3) rfl ?_
    refine aG_n 1 (s' := (8, [some (.ref 0), some (.int x1), some (.int x2), none, none], [(.int x2)], mkX M2)) rfl ?_
    obtain ⟨h1, h2⟩ := h
    by_cases q4 : x2 < (nI 0)
    · have h := h1 q4
      refine aG_if (cd := .lt) (b := true) (decide_eq_true q4) rfl ?_
      refine aG_n 1 (s' := (24, [some (.ref 0), some (.int x1), some (.int x2), none, none], [(.int (-1))], mkX M2)) rfl ?_
      exact aG_ret0 rfl rfl ⟨_, _, rfl, h⟩
    · have h := h2 q4
      refine aG_if (cd := .lt) (b := false) (decide_eq_false q4) rfl ?_
      refine aG_n 2 (s' := (13, [some (.ref 0), some (.int x1), some (.int x2), none, none], [(.int (nI 1)), (.int x2)], mkX M2)) rfl ?_
      obtain ⟨h1, h2⟩ := h
      by_cases q5 : x2 ≤ (nI 1)
      · have h := h1 q5
        refine aG_icmp (cd := .le) (b := true) (decide_eq_true q5) rfl ?_
        refine aG_n 0 (s' := (25, [some (.ref 0), some (.int x1), some (.int x2), none, none], [], mkX M2)) rfl ?_
        refine aG_le (a := [some (.ref 0), some (.int x1), some (.int x2), none, none]) ⟨rfl, ⟨rfl, ⟨rfl, trivial⟩⟩⟩ ?_
        exact wjk_X11_likely_25 h
      · have h := h2 q5
        refine aG_icmp (cd := .le) (b := false) (decide_eq_false q5) rfl ?_
        refine aG_n 2 (s' := (20, [some (.ref 0), some (.int x1), some (.int x2), none, none], [(.int (nI 10000)), (.int x2)], mkX M2)) rfl ?_
        obtain ⟨h1, h2⟩ := h
        by_cases q22 : (nI 10000) ≤ x2
        · have h := h1 q22
          refine aG_icmp (cd := .ge) (b := true) (decide_eq_true q22) rfl ?_
          refine aG_n 0 (s' := (25, [some (.ref 0), some (.int x1), some (.int x2), none, none], [], mkX M2)) rfl ?_
          refine aG_le (a := [some (.ref 0), some (.int x1), some (.int x2), none, none]) ⟨rfl, ⟨rfl, ⟨rfl, trivial⟩⟩⟩ ?_
          exact wjk_X11_likely_25 h
        · have h := h2 q22
          refine aG_icmp (cd := .ge) (b := false) (decide_eq_false q22) rfl ?_
          refine aG_n 1 (s' := (24, [some (.ref 0), some (.int x1), some (.int x2), none, none], [(.int (-1))], mkX M2)) rfl ?_
          exact aG_ret0 rfl rfl ⟨_, _, rfl, h⟩
def w_X11_next (x1 : Int32) (x2 : Int32) (M : wM) (Q : Int32 → wM → Prop) : Prop := w_X11_isSort x1 M (fun r1 M2 => (r1 = (nI 0) → Q (-1) M2) ∧ (¬ r1 = (nI 0) → (x2 < (nI 0) → Q (-1) M2) ∧ (¬ x2 < (nI 0) → (x2 ≤ (nI 1) → ((gi M2 12 0) = (nI 0) → Q (-2) M2) ∧ (¬ (gi M2 12 0) = (nI 0) → w_X10_prepare x1 M2 (fun M8 => w_X10_seekLikely M8 (fun M10 => ((gi M10 54 8) = (nI 0) → Q (-4) M10) ∧ (¬ (gi M10 54 8) = (nI 0) → w_X10_seekPartingRow M10 (fun M13 => (x2 = (nI 0) → Q (gi M13 54 15) M13) ∧ (¬ x2 = (nI 0) → Q (gi M13 54 16) M13))))))) ∧ (¬ x2 ≤ (nI 1) → Q (-1) M2))))
set_option maxRecDepth 20000 in
theorem wk_X11_next {x1 : Int32} {x2 : Int32} {M : wM} {Q : Int32 → wM → Prop} (h : w_X11_next x1 x2 M Q) : aG 206 (aEn 206 [(.ref 0), (.int x1), (.int x2)] (mkX M)) (aPi mkX Q) := by
  unfold w_X11_next at h
  refine aG_n 1 (s' := (1, [some (.ref 0), some (.int x1), some (.int x2)], [(.int x1)], mkX M)) rfl ?_
  refine aG_call rfl rfl (aG_mono (wk_X11_isSort h) ?_)
  rintro _ ⟨r1, M2, rfl, h⟩
  refine aG_n 0 (s' := (4, [some (.ref 0), some (.int x1), some (.int x2)], [(.int r1)], mkX M2)) rfl ?_
  obtain ⟨h1, h2⟩ := h
  by_cases q3 : r1 = (nI 0)
  · have h := h1 q3
    refine aG_if (cd := .eq) (b := true) (decide_eq_true q3) rfl ?_
    refine aG_n 1 (s' := (17, [some (.ref 0), some (.int x1), some (.int x2)], [(.int (-1))], mkX M2)) rfl ?_
    exact aG_ret0 rfl rfl ⟨_, _, rfl, h⟩
  · have h := h2 q3
    refine aG_if (cd := .eq) (b := false) (decide_eq_false q3) rfl ?_
    refine aG_n 1 (s' := (8, [some (.ref 0), some (.int x1), some (.int x2)], [(.int x2)], mkX M2)) rfl ?_
    obtain ⟨h1, h2⟩ := h
    by_cases q4 : x2 < (nI 0)
    · have h := h1 q4
      refine aG_if (cd := .lt) (b := true) (decide_eq_true q4) rfl ?_
      refine aG_n 1 (s' := (17, [some (.ref 0), some (.int x1), some (.int x2)], [(.int (-1))], mkX M2)) rfl ?_
      exact aG_ret0 rfl rfl ⟨_, _, rfl, h⟩
    · have h := h2 q4
      refine aG_if (cd := .lt) (b := false) (decide_eq_false q4) rfl ?_
      refine aG_n 2 (s' := (13, [some (.ref 0), some (.int x1), some (.int x2)], [(.int (nI 1)), (.int x2)], mkX M2)) rfl ?_
      obtain ⟨h1, h2⟩ := h
      by_cases q5 : x2 ≤ (nI 1)
      · have h := h1 q5
        refine aG_icmp (cd := .le) (b := true) (decide_eq_true q5) rfl ?_
        refine aG_n 3 (s' := (25, [some (.ref 0), some (.int x1), some (.int x2)], [(.int (gi M2 12 0))], mkX M2)) rfl ?_
        obtain ⟨h1, h2⟩ := h
        by_cases q6 : (gi M2 12 0) = (nI 0)
        · have h := h1 q6
          refine aG_if (cd := .ne) (b := false) (aTne0 q6) rfl ?_
          refine aG_n 1 (s' := (30, [some (.ref 0), some (.int x1), some (.int x2)], [(.int (-2))], mkX M2)) rfl ?_
          exact aG_ret0 rfl rfl ⟨_, _, rfl, h⟩
        · have h := h2 q6
          refine aG_if (cd := .ne) (b := true) (aTne1 q6) rfl ?_
          refine aG_n 3 (s' := (36, [some (.ref 0), some (.int x1), some (.int x2)], [(.int x1), (.ref 54)], mkX M2)) rfl ?_
          refine aG_call rfl rfl (aG_mono (wk_X10_prepare h) ?_)
          rintro _ ⟨M8, rfl, h⟩
          refine aG_n 2 (s' := (43, [some (.ref 0), some (.int x1), some (.int x2)], [(.ref 54)], mkX M8)) rfl ?_
          refine aG_call rfl rfl (aG_mono (wk_X10_seekLikely h) ?_)
          rintro _ ⟨M10, rfl, h⟩
          refine aG_n 3 (s' := (53, [some (.ref 0), some (.int x1), some (.int x2)], [(.int (gi M10 54 8))], mkX M10)) rfl ?_
          obtain ⟨h1, h2⟩ := h
          by_cases q11 : (gi M10 54 8) = (nI 0)
          · have h := h1 q11
            refine aG_if (cd := .ne) (b := false) (aTne0 q11) rfl ?_
            refine aG_n 1 (s' := (58, [some (.ref 0), some (.int x1), some (.int x2)], [(.int (-4))], mkX M10)) rfl ?_
            exact aG_ret0 rfl rfl ⟨_, _, rfl, h⟩
          · have h := h2 q11
            refine aG_if (cd := .ne) (b := true) (aTne1 q11) rfl ?_
            refine aG_n 2 (s' := (63, [some (.ref 0), some (.int x1), some (.int x2)], [(.ref 54)], mkX M10)) rfl ?_
            refine aG_call rfl rfl (aG_mono (wk_X10_seekPartingRow h) ?_)
            rintro _ ⟨M13, rfl, h⟩
            refine aG_n 1 (s' := (67, [some (.ref 0), some (.int x1), some (.int x2)], [(.int x2)], mkX M13)) rfl ?_
            obtain ⟨h1, h2⟩ := h
            by_cases q14 : x2 = (nI 0)
            · have h := h1 q14
              refine aG_if (cd := .ne) (b := false) (aTne0 q14) rfl ?_
              refine aG_n 4 (s' := (87, [some (.ref 0), some (.int x1), some (.int x2)], [(.int (gi M13 54 15))], mkX M13)) rfl ?_
              exact aG_ret0 rfl rfl ⟨_, _, rfl, h⟩
            · have h := h2 q14
              refine aG_if (cd := .ne) (b := true) (aTne1 q14) rfl ?_
              refine aG_n 3 (s' := (87, [some (.ref 0), some (.int x1), some (.int x2)], [(.int (gi M13 54 16))], mkX M13)) rfl ?_
              exact aG_ret0 rfl rfl ⟨_, _, rfl, h⟩
      · have h := h2 q5
        refine aG_icmp (cd := .le) (b := false) (decide_eq_false q5) rfl ?_
        refine aG_n 1 (s' := (17, [some (.ref 0), some (.int x1), some (.int x2)], [(.int (-1))], mkX M2)) rfl ?_
        exact aG_ret0 rfl rfl ⟨_, _, rfl, h⟩
def w_X12_chipOf (x1 : Int32) (x2 : Int32) (M : wM) (Q : Int32 → wM → Prop) : Prop := w_X12_isChip x1 M (fun r1 M2 => (r1 = (nI 0) → Q (-1) M2) ∧ (¬ r1 = (nI 0) → w_X12_in x2.toInt64 (lN 0) (lN 5) M2 (fun r4 M5 => (r4 = (nI 0) → Q (-1) M5) ∧ (¬ r4 = (nI 0) → (x2 = (nI 0) → vp_in x1 6 ∧ (Q (gi M5 14 x1.toNatClampNeg) M5)) ∧ (¬ x2 = (nI 0) → (x2 = (nI 1) → vp_in x1 6 ∧ (Q (gi M5 15 x1.toNatClampNeg) M5)) ∧ (¬ x2 = (nI 1) → (x2 = (nI 2) → vp_in x1 6 ∧ (Q (gi M5 16 x1.toNatClampNeg) M5)) ∧ (¬ x2 = (nI 2) → (x2 = (nI 3) → w_X12_rowNow x1 M5 (fun r14 M15 => Q r14 M15)) ∧ (¬ x2 = (nI 3) → (x2 = (nI 4) → vp_in x1 6 ∧ (Q (gi M5 20 x1.toNatClampNeg) M5)) ∧ (¬ x2 = (nI 4) → w_X12_feetOf x1 M5 (fun r18 M19 => Q r18 M19))))))))))
set_option maxRecDepth 20000 in
theorem wk_X12_chipOf {x1 : Int32} {x2 : Int32} {M : wM} {Q : Int32 → wM → Prop} (h : w_X12_chipOf x1 x2 M Q) : aG 207 (aEn 207 [(.ref 0), (.int x1), (.int x2)] (mkM M)) (aPi mkM Q) := by
  unfold w_X12_chipOf at h
  refine aG_n 2 (s' := (2, [some (.ref 0), some (.int x1), some (.int x2)], [(.int x1), (.ref 0)], mkM M)) rfl ?_
  refine aG_call rfl rfl (aG_mono (wk_X12_isChip h) ?_)
  rintro _ ⟨r1, M2, rfl, h⟩
  refine aG_n 0 (s' := (5, [some (.ref 0), some (.int x1), some (.int x2)], [(.int r1)], mkM M2)) rfl ?_
  obtain ⟨h1, h2⟩ := h
  by_cases q3 : r1 = (nI 0)
  · have h := h1 q3
    refine aG_if (cd := .eq) (b := true) (decide_eq_true q3) rfl ?_
    refine aG_n 1 (s' := (21, [some (.ref 0), some (.int x1), some (.int x2)], [(.int (-1))], mkM M2)) rfl ?_
    exact aG_ret0 rfl rfl ⟨_, _, rfl, h⟩
  · have h := h2 q3
    refine aG_if (cd := .eq) (b := false) (decide_eq_false q3) rfl ?_
    refine aG_n 4 (s' := (14, [some (.ref 0), some (.int x1), some (.int x2)], [(.long (lN 5)), (.long (lN 0)), (.long x2.toInt64)], mkM M2)) rfl ?_
    refine aG_call rfl rfl (aG_mono (wk_X12_in h) ?_)
    rintro _ ⟨r4, M5, rfl, h⟩
    refine aG_n 0 (s' := (17, [some (.ref 0), some (.int x1), some (.int x2)], [(.int r4)], mkM M5)) rfl ?_
    obtain ⟨h1, h2⟩ := h
    by_cases q6 : r4 = (nI 0)
    · have h := h1 q6
      refine aG_if (cd := .ne) (b := false) (aTne0 q6) rfl ?_
      refine aG_n 1 (s' := (21, [some (.ref 0), some (.int x1), some (.int x2)], [(.int (-1))], mkM M5)) rfl ?_
      exact aG_ret0 rfl rfl ⟨_, _, rfl, h⟩
    · have h := h2 q6
      refine aG_if (cd := .ne) (b := true) (aTne1 q6) rfl ?_
      refine aG_n 1 (s' := (23, [some (.ref 0), some (.int x1), some (.int x2)], [(.int x2)], mkM M5)) rfl ?_
      obtain ⟨h1, h2⟩ := h
      by_cases q7 : x2 = (nI 0)
      · have h := h1 q7
        refine aG_if (cd := .ne) (b := false) (aTne0 q7) rfl ?_
        refine aG_n 3 (s' := (31, [some (.ref 0), some (.int x1), some (.int x2)], [(.int x1), (.ref 14)], mkM M5)) rfl ?_
        obtain ⟨f8, h⟩ := h
        refine aG_iald rfl rfl rfl f8 ?_
        refine aG_n 1 (s' := (95, [some (.ref 0), some (.int x1), some (.int x2)], [(.int (gi M5 14 x1.toNatClampNeg))], mkM M5)) rfl ?_
        exact aG_ret0 rfl rfl ⟨_, _, rfl, h⟩
      · have h := h2 q7
        refine aG_if (cd := .ne) (b := true) (aTne1 q7) rfl ?_
        refine aG_n 2 (s' := (37, [some (.ref 0), some (.int x1), some (.int x2)], [(.int (nI 1)), (.int x2)], mkM M5)) rfl ?_
        obtain ⟨h1, h2⟩ := h
        by_cases q9 : x2 = (nI 1)
        · have h := h1 q9
          refine aG_icmp (cd := .ne) (b := false) (aTne0 q9) rfl ?_
          refine aG_n 3 (s' := (45, [some (.ref 0), some (.int x1), some (.int x2)], [(.int x1), (.ref 15)], mkM M5)) rfl ?_
          obtain ⟨f10, h⟩ := h
          refine aG_iald rfl rfl rfl f10 ?_
          refine aG_n 1 (s' := (95, [some (.ref 0), some (.int x1), some (.int x2)], [(.int (gi M5 15 x1.toNatClampNeg))], mkM M5)) rfl ?_
          exact aG_ret0 rfl rfl ⟨_, _, rfl, h⟩
        · have h := h2 q9
          refine aG_icmp (cd := .ne) (b := true) (aTne1 q9) rfl ?_
          refine aG_n 2 (s' := (51, [some (.ref 0), some (.int x1), some (.int x2)], [(.int (nI 2)), (.int x2)], mkM M5)) rfl ?_
          obtain ⟨h1, h2⟩ := h
          by_cases q11 : x2 = (nI 2)
          · have h := h1 q11
            refine aG_icmp (cd := .ne) (b := false) (aTne0 q11) rfl ?_
            refine aG_n 3 (s' := (59, [some (.ref 0), some (.int x1), some (.int x2)], [(.int x1), (.ref 16)], mkM M5)) rfl ?_
            obtain ⟨f12, h⟩ := h
            refine aG_iald rfl rfl rfl f12 ?_
            refine aG_n 1 (s' := (95, [some (.ref 0), some (.int x1), some (.int x2)], [(.int (gi M5 16 x1.toNatClampNeg))], mkM M5)) rfl ?_
            exact aG_ret0 rfl rfl ⟨_, _, rfl, h⟩
          · have h := h2 q11
            refine aG_icmp (cd := .ne) (b := true) (aTne1 q11) rfl ?_
            refine aG_n 2 (s' := (65, [some (.ref 0), some (.int x1), some (.int x2)], [(.int (nI 3)), (.int x2)], mkM M5)) rfl ?_
            obtain ⟨h1, h2⟩ := h
            by_cases q13 : x2 = (nI 3)
            · have h := h1 q13
              refine aG_icmp (cd := .ne) (b := false) (aTne0 q13) rfl ?_
              refine aG_n 2 (s' := (70, [some (.ref 0), some (.int x1), some (.int x2)], [(.int x1), (.ref 0)], mkM M5)) rfl ?_
              refine aG_call rfl rfl (aG_mono (wk_X12_rowNow h) ?_)
              rintro _ ⟨r14, M15, rfl, h⟩
              refine aG_n 1 (s' := (95, [some (.ref 0), some (.int x1), some (.int x2)], [(.int r14)], mkM M15)) rfl ?_
              exact aG_ret0 rfl rfl ⟨_, _, rfl, h⟩
            · have h := h2 q13
              refine aG_icmp (cd := .ne) (b := true) (aTne1 q13) rfl ?_
              refine aG_n 2 (s' := (78, [some (.ref 0), some (.int x1), some (.int x2)], [(.int (nI 4)), (.int x2)], mkM M5)) rfl ?_
              obtain ⟨h1, h2⟩ := h
              by_cases q16 : x2 = (nI 4)
              · have h := h1 q16
                refine aG_icmp (cd := .ne) (b := false) (aTne0 q16) rfl ?_
                refine aG_n 3 (s' := (86, [some (.ref 0), some (.int x1), some (.int x2)], [(.int x1), (.ref 20)], mkM M5)) rfl ?_
                obtain ⟨f17, h⟩ := h
                refine aG_iald rfl rfl rfl f17 ?_
                refine aG_n 1 (s' := (95, [some (.ref 0), some (.int x1), some (.int x2)], [(.int (gi M5 20 x1.toNatClampNeg))], mkM M5)) rfl ?_
                exact aG_ret0 rfl rfl ⟨_, _, rfl, h⟩
              · have h := h2 q16
                refine aG_icmp (cd := .ne) (b := true) (aTne1 q16) rfl ?_
                refine aG_n 2 (s' := (92, [some (.ref 0), some (.int x1), some (.int x2)], [(.int x1), (.ref 0)], mkM M5)) rfl ?_
                refine aG_call rfl rfl (aG_mono (wk_X12_feetOf h) ?_)
                rintro _ ⟨r18, M19, rfl, h⟩
                refine aG_n 0 (s' := (95, [some (.ref 0), some (.int x1), some (.int x2)], [(.int r18)], mkM M19)) rfl ?_
                exact aG_ret0 rfl rfl ⟨_, _, rfl, h⟩
def wb_X12_captures_29 (K29 : Int32 → wM → Prop) (y1 : Int32) (M : wM) (Q : wM → Prop) : Prop := ((gi M 0 22) ≤ y1 → Q M) ∧ (¬ (gi M 0 22) ≤ y1 → vp_in y1 6 ∧ (((gi M 15 y1.toNatClampNeg) = (nI 0) → vp_in y1 6 ∧ (K29 (y1 + (nI 1)) (si M 17 y1.toNatClampNeg (nI 0)))) ∧ (¬ (gi M 15 y1.toNatClampNeg) = (nI 0) → vp_in y1 6 ∧ (((gi M 15 y1.toNatClampNeg) = (nI 1) → vp_in y1 6 ∧ (vp_in (gi M 14 y1.toNatClampNeg) 6 ∧ (vp_in y1 6 ∧ (K29 (y1 + (nI 1)) (si M 18 y1.toNatClampNeg (gi M 2 (gi M 14 y1.toNatClampNeg).toNatClampNeg)))))) ∧ (¬ (gi M 15 y1.toNatClampNeg) = (nI 1) → vp_in y1 6 ∧ (vp_in y1 6 ∧ (K29 (y1 + (nI 1)) (si M 19 y1.toNatClampNeg (gi M 24 y1.toNatClampNeg)))))))))
set_option maxRecDepth 20000 in
theorem wbk_X12_captures_29 {K29 : Int32 → wM → Prop} {y1 : Int32} {M : wM} {Q : wM → Prop} (hK29 : ∀ (v1 : Int32) (M : wM), K29 v1 M → aG 208 (29, [some (.ref 0), some (.int v1)], [], mkM M) (aPv mkM Q)) (h : wb_X12_captures_29 K29 y1 M Q) : aG 208 (29, [some (.ref 0), some (.int y1)], [], mkM M) (aPv mkM Q) := by
  unfold wb_X12_captures_29 at h
  refine aG_n 3 (s' := (34, [some (.ref 0), some (.int y1)], [(.int (gi M 0 22)), (.int y1)], mkM M)) rfl ?_
  obtain ⟨h1, h2⟩ := h
  by_cases q2 : (gi M 0 22) ≤ y1
  · have h := h1 q2
    refine aG_icmp (cd := .ge) (b := true) (decide_eq_true q2) rfl ?_
    refine aG_n 0 (s' := (104, [some (.ref 0), some (.int y1)], [], mkM M)) rfl ?_
    exact aG_retV rfl rfl ⟨_, rfl, h⟩
  · have h := h2 q2
    refine aG_icmp (cd := .ge) (b := false) (decide_eq_false q2) rfl ?_
    refine aG_n 3 (s' := (42, [some (.ref 0), some (.int y1)], [(.int y1), (.ref 15)], mkM M)) rfl ?_
    obtain ⟨f3, h⟩ := h
    refine aG_iald rfl rfl rfl f3 ?_
    refine aG_n 0 (s' := (43, [some (.ref 0), some (.int y1)], [(.int (gi M 15 y1.toNatClampNeg))], mkM M)) rfl ?_
    obtain ⟨h1, h2⟩ := h
    by_cases q4 : (gi M 15 y1.toNatClampNeg) = (nI 0)
    · have h := h1 q4
      refine aG_if (cd := .ne) (b := false) (aTne0 q4) rfl ?_
      refine aG_n 4 (s' := (52, [some (.ref 0), some (.int y1)], [(.int (nI 0)), (.int y1), (.ref 17)], mkM M)) rfl ?_
      obtain ⟨f5, h⟩ := h
      refine aG_iast rfl rfl f5 ?_
      refine aG_n 3 (s' := (29, [some (.ref 0), some (.int (y1 + (nI 1)))], [], mkM (si M 17 y1.toNatClampNeg (nI 0)))) rfl ?_
      refine aG_le (a := [some (.ref 0), some (.int (y1 + (nI 1)))]) ⟨rfl, ⟨rfl, trivial⟩⟩ ?_
      exact hK29 _ _ h
    · have h := h2 q4
      refine aG_if (cd := .ne) (b := true) (aTne1 q4) rfl ?_
      refine aG_n 3 (s' := (61, [some (.ref 0), some (.int y1)], [(.int y1), (.ref 15)], mkM M)) rfl ?_
      obtain ⟨f6, h⟩ := h
      refine aG_iald rfl rfl rfl f6 ?_
      refine aG_n 1 (s' := (63, [some (.ref 0), some (.int y1)], [(.int (nI 1)), (.int (gi M 15 y1.toNatClampNeg))], mkM M)) rfl ?_
      obtain ⟨h1, h2⟩ := h
      by_cases q7 : (gi M 15 y1.toNatClampNeg) = (nI 1)
      · have h := h1 q7
        refine aG_icmp (cd := .ne) (b := false) (aTne0 q7) rfl ?_
        refine aG_n 8 (s' := (80, [some (.ref 0), some (.int y1)], [(.int y1), (.ref 14), (.ref 2), (.int y1), (.ref 18)], mkM M)) rfl ?_
        obtain ⟨f8, h⟩ := h
        refine aG_iald rfl rfl rfl f8 ?_
        refine aG_n 0 (s' := (81, [some (.ref 0), some (.int y1)], [(.int (gi M 14 y1.toNatClampNeg)), (.ref 2), (.int y1), (.ref 18)], mkM M)) rfl ?_
        obtain ⟨f9, h⟩ := h
        refine aG_iald rfl rfl rfl f9 ?_
        refine aG_n 0 (s' := (82, [some (.ref 0), some (.int y1)], [(.int (gi M 2 (gi M 14 y1.toNatClampNeg).toNatClampNeg)), (.int y1), (.ref 18)], mkM M)) rfl ?_
        obtain ⟨f10, h⟩ := h
        refine aG_iast rfl rfl f10 ?_
        refine aG_n 3 (s' := (29, [some (.ref 0), some (.int (y1 + (nI 1)))], [], mkM (si M 18 y1.toNatClampNeg (gi M 2 (gi M 14 y1.toNatClampNeg).toNatClampNeg)))) rfl ?_
        refine aG_le (a := [some (.ref 0), some (.int (y1 + (nI 1)))]) ⟨rfl, ⟨rfl, trivial⟩⟩ ?_
        exact hK29 _ _ h
      · have h := h2 q7
        refine aG_icmp (cd := .ne) (b := true) (aTne1 q7) rfl ?_
        refine aG_n 6 (s' := (96, [some (.ref 0), some (.int y1)], [(.int y1), (.ref 24), (.int y1), (.ref 19)], mkM M)) rfl ?_
        obtain ⟨f11, h⟩ := h
        refine aG_iald rfl rfl rfl f11 ?_
        refine aG_n 0 (s' := (97, [some (.ref 0), some (.int y1)], [(.int (gi M 24 y1.toNatClampNeg)), (.int y1), (.ref 19)], mkM M)) rfl ?_
        obtain ⟨f12, h⟩ := h
        refine aG_iast rfl rfl f12 ?_
        refine aG_n 2 (s' := (29, [some (.ref 0), some (.int (y1 + (nI 1)))], [], mkM (si M 19 y1.toNatClampNeg (gi M 24 y1.toNatClampNeg)))) rfl ?_
        refine aG_le (a := [some (.ref 0), some (.int (y1 + (nI 1)))]) ⟨rfl, ⟨rfl, trivial⟩⟩ ?_
        exact hK29 _ _ h
def wL_X12_captures_29 (Q : wM → Prop) : Nat → Int32 → wM → Prop
  | 0, _, _ => False
  | n + 1, y1, M => wb_X12_captures_29 (wL_X12_captures_29 Q n) y1 M Q
set_option maxRecDepth 20000 in
theorem wLk_X12_captures_29 {Q : wM → Prop} : ∀ (n : Nat) (y1 : Int32) (M : wM), wL_X12_captures_29 Q n y1 M → aG 208 (29, [some (.ref 0), some (.int y1)], [], mkM M) (aPv mkM Q)
  | 0, _, _, h => h.elim
  | n + 1, y1, M, h => wbk_X12_captures_29 (fun y1 M h => wLk_X12_captures_29 n y1 M h) h
def wb_X12_captures_2 (K2 : Int32 → wM → Prop) (y1 : Int32) (M : wM) (Q : wM → Prop) : Prop := ((gi M 0 22) ≤ y1 → ∃ n, wL_X12_captures_29 Q n (nI 0) M) ∧ (¬ (gi M 0 22) ≤ y1 → w_X12_feetOf y1 M (fun r13 M14 => vp_in y1 6 ∧ (K2 (y1 + (nI 1)) (si M14 24 y1.toNatClampNeg r13))))
set_option maxRecDepth 20000 in
theorem wbk_X12_captures_2 {K2 : Int32 → wM → Prop} {y1 : Int32} {M : wM} {Q : wM → Prop} (hK2 : ∀ (v1 : Int32) (M : wM), K2 v1 M → aG 208 (2, [some (.ref 0), some (.int v1)], [], mkM M) (aPv mkM Q)) (h : wb_X12_captures_2 K2 y1 M Q) : aG 208 (2, [some (.ref 0), some (.int y1)], [], mkM M) (aPv mkM Q) := by
  unfold wb_X12_captures_2 at h
  refine aG_n 3 (s' := (7, [some (.ref 0), some (.int y1)], [(.int (gi M 0 22)), (.int y1)], mkM M)) rfl ?_
  obtain ⟨h1, h2⟩ := h
  by_cases q1 : (gi M 0 22) ≤ y1
  · have h := h1 q1
    refine aG_icmp (cd := .ge) (b := true) (decide_eq_true q1) rfl ?_
    refine aG_n 2 (s' := (29, [some (.ref 0), some (.int (nI 0))], [], mkM M)) rfl ?_
    refine aG_le (a := [some (.ref 0), some (.int (nI 0))]) ⟨rfl, ⟨rfl, trivial⟩⟩ ?_
    obtain ⟨n, h⟩ := h
    exact wLk_X12_captures_29 n _ _ h
  · have h := h2 q1
    refine aG_icmp (cd := .ge) (b := false) (decide_eq_false q1) rfl ?_
    refine aG_n 5 (s' := (17, [some (.ref 0), some (.int y1)], [(.int y1), (.ref 0), (.int y1), (.ref 24)], mkM M)) rfl ?_
    refine aG_call rfl rfl (aG_mono (wk_X12_feetOf h) ?_)
    rintro _ ⟨r13, M14, rfl, h⟩
    refine aG_n 0 (s' := (20, [some (.ref 0), some (.int y1)], [(.int r13), (.int y1), (.ref 24)], mkM M14)) rfl ?_
    obtain ⟨f15, h⟩ := h
    refine aG_iast rfl rfl f15 ?_
    refine aG_n 2 (s' := (2, [some (.ref 0), some (.int (y1 + (nI 1)))], [], mkM (si M14 24 y1.toNatClampNeg r13))) rfl ?_
    refine aG_le (a := [some (.ref 0), some (.int (y1 + (nI 1)))]) ⟨rfl, ⟨rfl, trivial⟩⟩ ?_
    exact hK2 _ _ h
def wL_X12_captures_2 (Q : wM → Prop) : Nat → Int32 → wM → Prop
  | 0, _, _ => False
  | n + 1, y1, M => wb_X12_captures_2 (wL_X12_captures_2 Q n) y1 M Q
set_option maxRecDepth 20000 in
theorem wLk_X12_captures_2 {Q : wM → Prop} : ∀ (n : Nat) (y1 : Int32) (M : wM), wL_X12_captures_2 Q n y1 M → aG 208 (2, [some (.ref 0), some (.int y1)], [], mkM M) (aPv mkM Q)
  | 0, _, _, h => h.elim
  | n + 1, y1, M, h => wbk_X12_captures_2 (fun y1 M h => wLk_X12_captures_2 n y1 M h) h
def w_X12_captures (M : wM) (Q : wM → Prop) : Prop := ∃ n, wL_X12_captures_2 Q n (nI 0) M
set_option maxRecDepth 20000 in
theorem wk_X12_captures {M : wM} {Q : wM → Prop} (h : w_X12_captures M Q) : aG 208 (aEn 208 [(.ref 0)] (mkM M)) (aPv mkM Q) := by
  unfold w_X12_captures at h
  refine aG_n 2 (s' := (2, [some (.ref 0), some (.int (nI 0))], [], mkM M)) rfl ?_
  refine aG_le (a := [some (.ref 0), some (.int (nI 0))]) ⟨rfl, ⟨rfl, trivial⟩⟩ ?_
  obtain ⟨n, h⟩ := h
  exact wLk_X12_captures_2 n _ _ h
def wj_X12_likely_38 (z1 : Int32) (z2 : Int32) (M : wM) (Q : Int32 → wM → Prop) : Prop := ((gi M 0 41) = (nI 0) → ((nI 2) ≤ z2 → Q (-1) M) ∧ (¬ (nI 2) ≤ z2 → Q (-2) M)) ∧ (¬ (gi M 0 41) = (nI 0) → w_X12_findLikely z1 M (fun M13 => ((nI 2) ≤ z2 → ((z2 - z2 / (nI 10000) * (nI 10000)) < (gi M13 0 48) → ((nI 20000) ≤ z2 → vp_in (z2 - z2 / (nI 10000) * (nI 10000)) 2600 ∧ (Q (gi M13 34 (z2 - z2 / (nI 10000) * (nI 10000)).toNatClampNeg) M13)) ∧ (¬ (nI 20000) ≤ z2 → vp_in (z2 - z2 / (nI 10000) * (nI 10000)) 2600 ∧ (Q (gi M13 33 (z2 - z2 / (nI 10000) * (nI 10000)).toNatClampNeg) M13))) ∧ (¬ (z2 - z2 / (nI 10000) * (nI 10000)) < (gi M13 0 48) → Q (-1) M13)) ∧ (¬ (nI 2) ≤ z2 → (z2 = (nI 1) → Q (gi M13 0 48) M13) ∧ (¬ z2 = (nI 1) → ((gi M13 0 48) = (nI 0) → Q (-4) M13) ∧ (¬ (gi M13 0 48) = (nI 0) → Q (gi M13 0 49) M13)))))
set_option maxRecDepth 20000 in
theorem wjk_X12_likely_38 {z1 : Int32} {z2 : Int32} {M : wM} {Q : Int32 → wM → Prop} (h : wj_X12_likely_38 z1 z2 M Q) : aG 209 (38, [some (.ref 0), some (.int z1), some (.int z2), none], [], mkM M) (aPi mkM Q) := by
  unfold wj_X12_likely_38 at h
  refine aG_n 2 (s' := (42, [some (.ref 0), some (.int z1), some (.int z2), none], [(.int (gi M 0 41))], mkM M)) rfl ?_
  obtain ⟨h1, h2⟩ := h
  by_cases q10 : (gi M 0 41) = (nI 0)
  · have h := h1 q10
    refine aG_if (cd := .ne) (b := false) (aTne0 q10) rfl ?_
    refine aG_n 2 (s' := (47, [some (.ref 0), some (.int z1), some (.int z2), none], [(.int (nI 2)), (.int z2)], mkM M)) rfl ?_
    obtain ⟨h1, h2⟩ := h
    by_cases q11 : (nI 2) ≤ z2
    · have h := h1 q11
      refine aG_icmp (cd := .ge) (b := true) (decide_eq_true q11) rfl ?_
      refine aG_n 1 (s' := (56, [some (.ref 0), some (.int z1), some (.int z2), none], [(.int (-1))], mkM M)) rfl ?_
      exact aG_ret0 rfl rfl ⟨_, _, rfl, h⟩
    · have h := h2 q11
      refine aG_icmp (cd := .ge) (b := false) (decide_eq_false q11) rfl ?_
      refine aG_n 2 (s' := (56, [some (.ref 0), some (.int z1), some (.int z2), none], [(.int (-2))], mkM M)) rfl ?_
      exact aG_ret0 rfl rfl ⟨_, _, rfl, h⟩
  · have h := h2 q10
    refine aG_if (cd := .ne) (b := true) (aTne1 q10) rfl ?_
    refine aG_n 2 (s' := (59, [some (.ref 0), some (.int z1), some (.int z2), none], [(.int z1), (.ref 0)], mkM M)) rfl ?_
    refine aG_call rfl rfl (aG_mono (wk_X12_findLikely h) ?_)
    rintro _ ⟨M13, rfl, h⟩
    refine aG_n 2 (s' := (64, [some (.ref 0), some (.int z1), some (.int z2), none], [(.int (nI 2)), (.int z2)], mkM M13)) rfl ?_
    obtain ⟨h1, h2⟩ := h
    by_cases q14 : (nI 2) ≤ z2
    · have h := h1 q14
      refine aG_icmp (cd := .ge) (b := true) (decide_eq_true q14) rfl ?_
      refine aG_n 2 (s' := (100, [some (.ref 0), some (.int z1), some (.int z2), none], [(.int (nI 10000)), (.int z2)], mkM M13)) rfl ?_
      refine aG_rem rfl (by decide) ?_
      refine aG_n 4 (s' := (107, [some (.ref 0), some (.int z1), some (.int z2), some (.int (z2 - z2 / (nI 10000) * (nI 10000)))], [(.int (gi M13 0 48)), (.int (z2 - z2 / (nI 10000) * (nI 10000)))], mkM M13)) rfl ?_
      obtain ⟨h1, h2⟩ := h
      by_cases q15 : (z2 - z2 / (nI 10000) * (nI 10000)) < (gi M13 0 48)
      · have h := h1 q15
        refine aG_icmp (cd := .lt) (b := true) (decide_eq_true q15) rfl ?_
        refine aG_n 2 (s' := (118, [some (.ref 0), some (.int z1), some (.int z2), some (.int (z2 - z2 / (nI 10000) * (nI 10000)))], [(.int (nI 20000)), (.int z2)], mkM M13)) rfl ?_
        obtain ⟨h1, h2⟩ := h
        by_cases q16 : (nI 20000) ≤ z2
        · have h := h1 q16
          refine aG_icmp (cd := .ge) (b := true) (decide_eq_true q16) rfl ?_
          refine aG_n 3 (s' := (135, [some (.ref 0), some (.int z1), some (.int z2), some (.int (z2 - z2 / (nI 10000) * (nI 10000)))], [(.int (z2 - z2 / (nI 10000) * (nI 10000))), (.ref 34)], mkM M13)) rfl ?_
          obtain ⟨f17, h⟩ := h
          refine aG_iald rfl rfl rfl f17 ?_
          refine aG_n 0 (s' := (136, [some (.ref 0), some (.int z1), some (.int z2), some (.int (z2 - z2 / (nI 10000) * (nI 10000)))], [(.int (gi M13 34 (z2 - z2 / (nI 10000) * (nI 10000)).toNatClampNeg))], mkM M13)) rfl ?_
          exact aG_ret0 rfl rfl ⟨_, _, rfl, h⟩
        · have h := h2 q16
          refine aG_icmp (cd := .ge) (b := false) (decide_eq_false q16) rfl ?_
          refine aG_n 3 (s' := (126, [some (.ref 0), some (.int z1), some (.int z2), some (.int (z2 - z2 / (nI 10000) * (nI 10000)))], [(.int (z2 - z2 / (nI 10000) * (nI 10000))), (.ref 33)], mkM M13)) rfl ?_
          obtain ⟨f18, h⟩ := h
          refine aG_iald rfl rfl rfl f18 ?_
          refine aG_n 1 (s' := (136, [some (.ref 0), some (.int z1), some (.int z2), some (.int (z2 - z2 / (nI 10000) * (nI 10000)))], [(.int (gi M13 33 (z2 - z2 / (nI 10000) * (nI 10000)).toNatClampNeg))], mkM M13)) rfl ?_
          exact aG_ret0 rfl rfl ⟨_, _, rfl, h⟩
      · have h := h2 q15
        refine aG_icmp (cd := .lt) (b := false) (decide_eq_false q15) rfl ?_
        refine aG_n 2 (s' := (136, [some (.ref 0), some (.int z1), some (.int z2), some (.int (z2 - z2 / (nI 10000) * (nI 10000)))], [(.int (-1))], mkM M13)) rfl ?_
        exact aG_ret0 rfl rfl ⟨_, _, rfl, h⟩
    · have h := h2 q14
      refine aG_icmp (cd := .ge) (b := false) (decide_eq_false q14) rfl ?_
      refine aG_n 2 (s' := (69, [some (.ref 0), some (.int z1), some (.int z2), none], [(.int (nI 1)), (.int z2)], mkM M13)) rfl ?_
      obtain ⟨h1, h2⟩ := h
      by_cases q19 : z2 = (nI 1)
      · have h := h1 q19
        refine aG_icmp (cd := .ne) (b := false) (aTne0 q19) rfl ?_
        refine aG_n 3 (s' := (95, [some (.ref 0), some (.int z1), some (.int z2), none], [(.int (gi M13 0 48))], mkM M13)) rfl ?_
        exact aG_ret0 rfl rfl ⟨_, _, rfl, h⟩
      · have h := h2 q19
        refine aG_icmp (cd := .ne) (b := true) (aTne1 q19) rfl ?_
        refine aG_n 2 (s' := (83, [some (.ref 0), some (.int z1), some (.int z2), none], [(.int (gi M13 0 48))], mkM M13)) rfl ?_
        obtain ⟨h1, h2⟩ := h
        by_cases q20 : (gi M13 0 48) = (nI 0)
        · have h := h1 q20
          refine aG_if (cd := .ne) (b := false) (aTne0 q20) rfl ?_
          refine aG_n 2 (s' := (95, [some (.ref 0), some (.int z1), some (.int z2), none], [(.int (-4))], mkM M13)) rfl ?_
          exact aG_ret0 rfl rfl ⟨_, _, rfl, h⟩
        · have h := h2 q20
          refine aG_if (cd := .ne) (b := true) (aTne1 q20) rfl ?_
          refine aG_n 2 (s' := (95, [some (.ref 0), some (.int z1), some (.int z2), none], [(.int (gi M13 0 49))], mkM M13)) rfl ?_
          exact aG_ret0 rfl rfl ⟨_, _, rfl, h⟩
def w_X12_likely (x1 : Int32) (x2 : Int32) (M : wM) (Q : Int32 → wM → Prop) : Prop := w_X12_in x1.toInt64 (lN 0) (lN 2) M (fun r1 M2 => (r1 = (nI 0) → Q (-1) M2) ∧ (¬ r1 = (nI 0) → w_X12_in x2.toInt64 (lN 0) (lN 1) M2 (fun r4 M5 => (r4 = (nI 0) → w_X12_in x2.toInt64 (lN 10000) (lN 29999) M5 (fun r7 M8 => (r7 = (nI 0) → Q (-1) M8) ∧ (¬ r7 = (nI 0) → wj_X12_likely_38 x1 x2 M8 Q))) ∧ (¬ r4 = (nI 0) → wj_X12_likely_38 x1 x2 M5 Q))))
set_option maxRecDepth 20000 in
theorem wk_X12_likely {x1 : Int32} {x2 : Int32} {M : wM} {Q : Int32 → wM → Prop} (h : w_X12_likely x1 x2 M Q) : aG 209 (aEn 209 [(.ref 0), (.int x1), (.int x2)] (mkM M)) (aPi mkM Q) := by
  unfold w_X12_likely at h
  refine aG_n 4 (s' := (6, [some (.ref 0), some (.int x1), some (.int x2), none], [(.long (lN 2)), (.long (lN 0)), (.long x1.toInt64)], mkM M)) rfl ?_
  refine aG_call rfl rfl (aG_mono (wk_X12_in h) ?_)
  rintro _ ⟨r1, M2, rfl, h⟩
  refine aG_n 0 (s' := (9, [some (.ref 0), some (.int x1), some (.int x2), none], [(.int r1)], mkM M2)) rfl ?_
  obtain ⟨h1, h2⟩ := h
  by_cases q3 : r1 = (nI 0)
  · have h := h1 q3
    refine aG_if (cd := .eq) (b := true) (decide_eq_true q3) rfl ?_
    refine aG_n 1 (s' := (37, [some (.ref 0), some (.int x1), some (.int x2), none], [(.int (-1))], mkM M2)) rfl ?_
    exact aG_ret0 rfl rfl ⟨_, _, rfl, h⟩
  · have h := h2 q3
    refine aG_if (cd := .eq) (b := false) (decide_eq_false q3) rfl ?_
    refine aG_n 4 (s' := (16, [some (.ref 0), some (.int x1), some (.int x2), none], [(.long (lN 1)), (.long (lN 0)), (.long x2.toInt64)], mkM M2)) rfl ?_
    refine aG_call rfl rfl (aG_mono (wk_X12_in h) ?_)
    rintro _ ⟨r4, M5, rfl, h⟩
    refine aG_n 0 (s' := (19, [some (.ref 0), some (.int x1), some (.int x2), none], [(.int r4)], mkM M5)) rfl ?_
    obtain ⟨h1, h2⟩ := h
    by_cases q6 : r4 = (nI 0)
    · have h := h1 q6
      refine aG_if (cd := .ne) (b := false) (aTne0 q6) rfl ?_
      refine aG_n 4 (s' := (30, [some (.ref 0), some (.int x1), some (.int x2), none], [(.long (lN 29999)), (.long (lN 10000)), (.long x2.toInt64)], mkM M5)) rfl ?_
      refine aG_call rfl rfl (aG_mono (wk_X12_in h) ?_)
      rintro _ ⟨r7, M8, rfl, h⟩
      refine aG_n 0 (s' := (33, [some (.ref 0), some (.int x1), some (.int x2), none], [(.int r7)], mkM M8)) rfl ?_
      obtain ⟨h1, h2⟩ := h
      by_cases q9 : r7 = (nI 0)
      · have h := h1 q9
        refine aG_if (cd := .ne) (b := false) (aTne0 q9) rfl ?_
        refine aG_n 1 (s' := (37, [some (.ref 0), some (.int x1), some (.int x2), none], [(.int (-1))], mkM M8)) rfl ?_
        exact aG_ret0 rfl rfl ⟨_, _, rfl, h⟩
      · have h := h2 q9
        refine aG_if (cd := .ne) (b := true) (aTne1 q9) rfl ?_
        refine aG_n 0 (s' := (38, [some (.ref 0), some (.int x1), some (.int x2), none], [], mkM M8)) rfl ?_
        refine aG_le (a := [some (.ref 0), some (.int x1), some (.int x2), none]) ⟨rfl, ⟨rfl, ⟨rfl, trivial⟩⟩⟩ ?_
        exact wjk_X12_likely_38 h
    · have h := h2 q6
      refine aG_if (cd := .ne) (b := true) (aTne1 q6) rfl ?_
      refine aG_n 0 (s' := (38, [some (.ref 0), some (.int x1), some (.int x2), none], [], mkM M5)) rfl ?_
      refine aG_le (a := [some (.ref 0), some (.int x1), some (.int x2), none]) ⟨rfl, ⟨rfl, ⟨rfl, trivial⟩⟩⟩ ?_
      exact wjk_X12_likely_38 h
def wb_X12_next__116 (z2 : Int32) (z3 : Int32) (z4 : Int32) (z5 : Int32) (z6 : Int32) (z7 : Int32) (K59 : Int32 → Int32 → Int32 → wM → Prop) (K101 : Int32 → Int32 → wM → Prop) (K116 : Int32 → Int32 → wM → Prop) (y8 : Int32) (y9 : Int32) (M : wM) (Q : Int32 → wM → Prop) : Prop := ((gi M 0 41) ≤ y9 → vp_in y8 256 ∧ (vp_in y8 256 ∧ (vp_in y8 256 ∧ (((gi (si M 39 y8.toNatClampNeg ((gi M 39 y8.toNatClampNeg) + (nI 1))) 39 y8.toNatClampNeg) ≤ z6 → K101 z6 (z7 + (nI 1)) (si M 39 y8.toNatClampNeg ((gi M 39 y8.toNatClampNeg) + (nI 1)))) ∧ (¬ (gi (si M 39 y8.toNatClampNeg ((gi M 39 y8.toNatClampNeg) + (nI 1))) 39 y8.toNatClampNeg) ≤ z6 → vp_in y8 256 ∧ (K101 (gi (si M 39 y8.toNatClampNeg ((gi M 39 y8.toNatClampNeg) + (nI 1))) 39 y8.toNatClampNeg) (z7 + (nI 1)) (si M 39 y8.toNatClampNeg ((gi M 39 y8.toNatClampNeg) + (nI 1))))))))) ∧ (¬ (gi M 0 41) ≤ y9 → vp_in (((nI 8) * z7) + y9) 20800 ∧ (vp_in (((nI 8) * z7) + y9) 20800 ∧ (w_X12_levelBy (gi M 35 (((nI 8) * z7) + y9).toNatClampNeg) (gi M 36 (((nI 8) * z7) + y9).toNatClampNeg) z5 M (fun r24 M25 => K116 (y8 ||| (jshl r24 y9)) (y9 + (nI 1)) M25))))
set_option maxRecDepth 20000 in
theorem wbk_X12_next__116 {z2 : Int32} {z3 : Int32} {z4 : Int32} {z5 : Int32} {z6 : Int32} {z7 : Int32} {K59 : Int32 → Int32 → Int32 → wM → Prop} {K101 : Int32 → Int32 → wM → Prop} {K116 : Int32 → Int32 → wM → Prop} {y8 : Int32} {y9 : Int32} {M : wM} {Q : Int32 → wM → Prop} (hK59 : ∀ (v3 : Int32) (v4 : Int32) (v5 : Int32) (M : wM), K59 v3 v4 v5 M → aG 210 (59, [some (.ref 0), none, some (.int z2), some (.int v3), some (.int v4), some (.int v5), none, none, none, none], [], mkM M) (aPi mkM Q)) (hK101 : ∀ (v6 : Int32) (v7 : Int32) (M : wM), K101 v6 v7 M → aG 210 (101, [some (.ref 0), none, some (.int z2), some (.int z3), some (.int z4), some (.int z5), some (.int v6), some (.int v7), none, none], [], mkM M) (aPi mkM Q)) (hK116 : ∀ (v8 : Int32) (v9 : Int32) (M : wM), K116 v8 v9 M → aG 210 (116, [some (.ref 0), none, some (.int z2), some (.int z3), some (.int z4), some (.int z5), some (.int z6), some (.int z7), some (.int v8), some (.int v9)], [], mkM M) (aPi mkM Q)) (h : wb_X12_next__116 z2 z3 z4 z5 z6 z7 K59 K101 K116 y8 y9 M Q) : aG 210 (116, [some (.ref 0), none, some (.int z2), some (.int z3), some (.int z4), some (.int z5), some (.int z6), some (.int z7), some (.int y8), some (.int y9)], [], mkM M) (aPi mkM Q) := by
  unfold wb_X12_next__116 at h
  refine aG_n 3 (s' := (122, [some (.ref 0), none, some (.int z2), some (.int z3), some (.int z4), some (.int z5), some (.int z6), some (.int z7), some (.int y8), some (.int y9)], [(.int (gi M 0 41)), (.int y9)], mkM M)) rfl ?_
  obtain ⟨h1, h2⟩ := h
  by_cases q16 : (gi M 0 41) ≤ y9
  · have h := h1 q16
    refine aG_icmp (cd := .ge) (b := true) (decide_eq_true q16) rfl ?_
    refine aG_n 4 (s' := (177, [some (.ref 0), none, some (.int z2), some (.int z3), some (.int z4), some (.int z5), some (.int z6), some (.int z7), some (.int y8), some (.int y9)], [(.int y8), (.ref 39), (.int y8), (.ref 39)], mkM M)) rfl ?_
    obtain ⟨f17, h⟩ := h
    refine aG_iald rfl rfl rfl f17 ?_
    refine aG_n 2 (s' := (180, [some (.ref 0), none, some (.int z2), some (.int z3), some (.int z4), some (.int z5), some (.int z6), some (.int z7), some (.int y8), some (.int y9)], [(.int ((gi M 39 y8.toNatClampNeg) + (nI 1))), (.int y8), (.ref 39)], mkM M)) rfl ?_
    obtain ⟨f18, h⟩ := h
    refine aG_iast rfl rfl f18 ?_
    refine aG_n 3 (s' := (187, [some (.ref 0), none, some (.int z2), some (.int z3), some (.int z4), some (.int z5), some (.int z6), some (.int z7), some (.int y8), some (.int y9)], [(.int y8), (.ref 39)], mkM (si M 39 y8.toNatClampNeg ((gi M 39 y8.toNatClampNeg) + (nI 1))))) rfl ?_
    obtain ⟨f19, h⟩ := h
    refine aG_iald rfl rfl rfl f19 ?_
    refine aG_n 1 (s' := (190, [some (.ref 0), none, some (.int z2), some (.int z3), some (.int z4), some (.int z5), some (.int z6), some (.int z7), some (.int y8), some (.int y9)], [(.int z6), (.int (gi (si M 39 y8.toNatClampNeg ((gi M 39 y8.toNatClampNeg) + (nI 1))) 39 y8.toNatClampNeg))], mkM (si M 39 y8.toNatClampNeg ((gi M 39 y8.toNatClampNeg) + (nI 1))))) rfl ?_
    obtain ⟨h1, h2⟩ := h
    by_cases q20 : (gi (si M 39 y8.toNatClampNeg ((gi M 39 y8.toNatClampNeg) + (nI 1))) 39 y8.toNatClampNeg) ≤ z6
    · have h := h1 q20
      refine aG_icmp (cd := .le) (b := true) (decide_eq_true q20) rfl ?_
      refine aG_n 4 (s' := (101, [some (.ref 0), none, some (.int z2), some (.int z3), some (.int z4), some (.int z5), some (.int z6), some (.int (z7 + (nI 1))), some (.int y8), some (.int y9)], [], mkM (si M 39 y8.toNatClampNeg ((gi M 39 y8.toNatClampNeg) + (nI 1))))) rfl ?_
      refine aG_le (a := [some (.ref 0), none, some (.int z2), some (.int z3), some (.int z4), some (.int z5), some (.int z6), some (.int (z7 + (nI 1))), none, none]) ⟨rfl, ⟨rfl, ⟨rfl, ⟨rfl, ⟨rfl, ⟨rfl, ⟨rfl, trivial⟩⟩⟩⟩⟩⟩⟩ ?_
      exact hK101 _ _ _ h
    · have h := h2 q20
      refine aG_icmp (cd := .le) (b := false) (decide_eq_false q20) rfl ?_
      refine aG_n 3 (s' := (199, [some (.ref 0), none, some (.int z2), some (.int z3), some (.int z4), some (.int z5), some (.int z6), some (.int z7), some (.int y8), some (.int y9)], [(.int y8), (.ref 39)], mkM (si M 39 y8.toNatClampNeg ((gi M 39 y8.toNatClampNeg) + (nI 1))))) rfl ?_
      obtain ⟨f21, h⟩ := h
      refine aG_iald rfl rfl rfl f21 ?_
      refine aG_n 4 (s' := (101, [some (.ref 0), none, some (.int z2), some (.int z3), some (.int z4), some (.int z5), some (.int (gi (si M 39 y8.toNatClampNeg ((gi M 39 y8.toNatClampNeg) + (nI 1))) 39 y8.toNatClampNeg)), some (.int (z7 + (nI 1))), some (.int y8), some (.int y9)], [], mkM (si M 39 y8.toNatClampNeg ((gi M 39 y8.toNatClampNeg) + (nI 1))))) rfl ?_
      refine aG_le (a := [some (.ref 0), none, some (.int z2), some (.int z3), some (.int z4), some (.int z5), some (.int (gi (si M 39 y8.toNatClampNeg ((gi M 39 y8.toNatClampNeg) + (nI 1))) 39 y8.toNatClampNeg)), some (.int (z7 + (nI 1))), none, none]) ⟨rfl, ⟨rfl, ⟨rfl, ⟨rfl, ⟨rfl, ⟨rfl, ⟨rfl, trivial⟩⟩⟩⟩⟩⟩⟩ ?_
      exact hK101 _ _ _ h
  · have h := h2 q16
    refine aG_icmp (cd := .ge) (b := false) (decide_eq_false q16) rfl ?_
    refine aG_n 8 (s' := (139, [some (.ref 0), none, some (.int z2), some (.int z3), some (.int z4), some (.int z5), some (.int z6), some (.int z7), some (.int y8), some (.int y9)], [(.int (((nI 8) * z7) + y9)), (.ref 35), (.int y8)], mkM M)) rfl ?_
    obtain ⟨f22, h⟩ := h
    refine aG_iald rfl rfl rfl f22 ?_
    refine aG_n 7 (s' := (152, [some (.ref 0), none, some (.int z2), some (.int z3), some (.int z4), some (.int z5), some (.int z6), some (.int z7), some (.int y8), some (.int y9)], [(.int (((nI 8) * z7) + y9)), (.ref 36), (.int (gi M 35 (((nI 8) * z7) + y9).toNatClampNeg)), (.int y8)], mkM M)) rfl ?_
    obtain ⟨f23, h⟩ := h
    refine aG_iald rfl rfl rfl f23 ?_
    refine aG_n 1 (s' := (155, [some (.ref 0), none, some (.int z2), some (.int z3), some (.int z4), some (.int z5), some (.int z6), some (.int z7), some (.int y8), some (.int y9)], [(.int z5), (.int (gi M 36 (((nI 8) * z7) + y9).toNatClampNeg)), (.int (gi M 35 (((nI 8) * z7) + y9).toNatClampNeg)), (.int y8)], mkM M)) rfl ?_
    refine aG_call rfl rfl (aG_mono (wk_X12_levelBy h) ?_)
    rintro _ ⟨r24, M25, rfl, h⟩
    refine aG_n 6 (s' := (116, [some (.ref 0), none, some (.int z2), some (.int z3), some (.int z4), some (.int z5), some (.int z6), some (.int z7), some (.int (y8 ||| (jshl r24 y9))), some (.int (y9 + (nI 1)))], [], mkM M25)) rfl ?_
    refine aG_le (a := [some (.ref 0), none, some (.int z2), some (.int z3), some (.int z4), some (.int z5), some (.int z6), some (.int z7), some (.int (y8 ||| (jshl r24 y9))), some (.int (y9 + (nI 1)))]) ⟨rfl, ⟨rfl, ⟨rfl, ⟨rfl, ⟨rfl, ⟨rfl, ⟨rfl, ⟨rfl, ⟨rfl, trivial⟩⟩⟩⟩⟩⟩⟩⟩⟩ ?_
    exact hK116 _ _ _ h
def wL_X12_next__116 (z2 : Int32) (z3 : Int32) (z4 : Int32) (z5 : Int32) (z6 : Int32) (z7 : Int32) (K59 : Int32 → Int32 → Int32 → wM → Prop) (K101 : Int32 → Int32 → wM → Prop) (Q : Int32 → wM → Prop) : Nat → Int32 → Int32 → wM → Prop
  | 0, _, _, _ => False
  | n + 1, y8, y9, M => wb_X12_next__116 z2 z3 z4 z5 z6 z7 K59 K101 (wL_X12_next__116 z2 z3 z4 z5 z6 z7 K59 K101 Q n) y8 y9 M Q
set_option maxRecDepth 20000 in
theorem wLk_X12_next__116 {z2 : Int32} {z3 : Int32} {z4 : Int32} {z5 : Int32} {z6 : Int32} {z7 : Int32} {K59 : Int32 → Int32 → Int32 → wM → Prop} {K101 : Int32 → Int32 → wM → Prop} {Q : Int32 → wM → Prop} (hK59 : ∀ (v3 : Int32) (v4 : Int32) (v5 : Int32) (M : wM), K59 v3 v4 v5 M → aG 210 (59, [some (.ref 0), none, some (.int z2), some (.int v3), some (.int v4), some (.int v5), none, none, none, none], [], mkM M) (aPi mkM Q)) (hK101 : ∀ (v6 : Int32) (v7 : Int32) (M : wM), K101 v6 v7 M → aG 210 (101, [some (.ref 0), none, some (.int z2), some (.int z3), some (.int z4), some (.int z5), some (.int v6), some (.int v7), none, none], [], mkM M) (aPi mkM Q)) : ∀ (n : Nat) (y8 : Int32) (y9 : Int32) (M : wM), wL_X12_next__116 z2 z3 z4 z5 z6 z7 K59 K101 Q n y8 y9 M → aG 210 (116, [some (.ref 0), none, some (.int z2), some (.int z3), some (.int z4), some (.int z5), some (.int z6), some (.int z7), some (.int y8), some (.int y9)], [], mkM M) (aPi mkM Q)
  | 0, _, _, _, h => h.elim
  | n + 1, y8, y9, M, h => wbk_X12_next__116 hK59 hK101 (fun y8 y9 M h => wLk_X12_next__116 hK59 hK101 n y8 y9 M h) h
def wb_X12_next__101 (z2 : Int32) (z3 : Int32) (z4 : Int32) (z5 : Int32) (K59 : Int32 → Int32 → Int32 → wM → Prop) (K101 : Int32 → Int32 → wM → Prop) (y6 : Int32) (y7 : Int32) (M : wM) (Q : Int32 → wM → Prop) : Prop := ((gi M 0 48) ≤ y7 → (z4 ≤ y6 → K59 z3 z4 (z5 + (nI 1)) M) ∧ (¬ z4 ≤ y6 → K59 z5 y6 (z5 + (nI 1)) M)) ∧ (¬ (gi M 0 48) ≤ y7 → ∃ n, wL_X12_next__116 z2 z3 z4 z5 y6 y7 K59 K101 Q n (nI 0) (nI 0) M)
set_option maxRecDepth 20000 in
theorem wbk_X12_next__101 {z2 : Int32} {z3 : Int32} {z4 : Int32} {z5 : Int32} {K59 : Int32 → Int32 → Int32 → wM → Prop} {K101 : Int32 → Int32 → wM → Prop} {y6 : Int32} {y7 : Int32} {M : wM} {Q : Int32 → wM → Prop} (hK59 : ∀ (v3 : Int32) (v4 : Int32) (v5 : Int32) (M : wM), K59 v3 v4 v5 M → aG 210 (59, [some (.ref 0), none, some (.int z2), some (.int v3), some (.int v4), some (.int v5), none, none, none, none], [], mkM M) (aPi mkM Q)) (hK101 : ∀ (v6 : Int32) (v7 : Int32) (M : wM), K101 v6 v7 M → aG 210 (101, [some (.ref 0), none, some (.int z2), some (.int z3), some (.int z4), some (.int z5), some (.int v6), some (.int v7), none, none], [], mkM M) (aPi mkM Q)) (h : wb_X12_next__101 z2 z3 z4 z5 K59 K101 y6 y7 M Q) : aG 210 (101, [some (.ref 0), none, some (.int z2), some (.int z3), some (.int z4), some (.int z5), some (.int y6), some (.int y7), none, none], [], mkM M) (aPi mkM Q) := by
  unfold wb_X12_next__101 at h
  refine aG_n 3 (s' := (107, [some (.ref 0), none, some (.int z2), some (.int z3), some (.int z4), some (.int z5), some (.int y6), some (.int y7), none, none], [(.int (gi M 0 48)), (.int y7)], mkM M)) rfl ?_
  obtain ⟨h1, h2⟩ := h
  by_cases q14 : (gi M 0 48) ≤ y7
  · have h := h1 q14
    refine aG_icmp (cd := .ge) (b := true) (decide_eq_true q14) rfl ?_
    refine aG_n 2 (s' := (217, [some (.ref 0), none, some (.int z2), some (.int z3), some (.int z4), some (.int z5), some (.int y6), some (.int y7), none, none], [(.int z4), (.int y6)], mkM M)) rfl ?_
    obtain ⟨h1, h2⟩ := h
    by_cases q15 : z4 ≤ y6
    · have h := h1 q15
      refine aG_icmp (cd := .ge) (b := true) (decide_eq_true q15) rfl ?_
      refine aG_n 2 (s' := (59, [some (.ref 0), none, some (.int z2), some (.int z3), some (.int z4), some (.int (z5 + (nI 1))), some (.int y6), some (.int y7), none, none], [], mkM M)) rfl ?_
      refine aG_le (a := [some (.ref 0), none, some (.int z2), some (.int z3), some (.int z4), some (.int (z5 + (nI 1))), none, none, none, none]) ⟨rfl, ⟨rfl, ⟨rfl, ⟨rfl, ⟨rfl, trivial⟩⟩⟩⟩⟩ ?_
      exact hK59 _ _ _ _ h
    · have h := h2 q15
      refine aG_icmp (cd := .ge) (b := false) (decide_eq_false q15) rfl ?_
      refine aG_n 6 (s' := (59, [some (.ref 0), none, some (.int z2), some (.int z5), some (.int y6), some (.int (z5 + (nI 1))), some (.int y6), some (.int y7), none, none], [], mkM M)) rfl ?_
      refine aG_le (a := [some (.ref 0), none, some (.int z2), some (.int z5), some (.int y6), some (.int (z5 + (nI 1))), none, none, none, none]) ⟨rfl, ⟨rfl, ⟨rfl, ⟨rfl, ⟨rfl, trivial⟩⟩⟩⟩⟩ ?_
      exact hK59 _ _ _ _ h
  · have h := h2 q14
    refine aG_icmp (cd := .ge) (b := false) (decide_eq_false q14) rfl ?_
    refine aG_n 4 (s' := (116, [some (.ref 0), none, some (.int z2), some (.int z3), some (.int z4), some (.int z5), some (.int y6), some (.int y7), some (.int (nI 0)), some (.int (nI 0))], [], mkM M)) rfl ?_
    refine aG_le (a := [some (.ref 0), none, some (.int z2), some (.int z3), some (.int z4), some (.int z5), some (.int y6), some (.int y7), some (.int (nI 0)), some (.int (nI 0))]) ⟨rfl, ⟨rfl, ⟨rfl, ⟨rfl, ⟨rfl, ⟨rfl, ⟨rfl, ⟨rfl, ⟨rfl, trivial⟩⟩⟩⟩⟩⟩⟩⟩⟩ ?_
    obtain ⟨n, h⟩ := h
    exact wLk_X12_next__116 hK59 hK101 n _ _ _ h
def wL_X12_next__101 (z2 : Int32) (z3 : Int32) (z4 : Int32) (z5 : Int32) (K59 : Int32 → Int32 → Int32 → wM → Prop) (Q : Int32 → wM → Prop) : Nat → Int32 → Int32 → wM → Prop
  | 0, _, _, _ => False
  | n + 1, y6, y7, M => wb_X12_next__101 z2 z3 z4 z5 K59 (wL_X12_next__101 z2 z3 z4 z5 K59 Q n) y6 y7 M Q
set_option maxRecDepth 20000 in
theorem wLk_X12_next__101 {z2 : Int32} {z3 : Int32} {z4 : Int32} {z5 : Int32} {K59 : Int32 → Int32 → Int32 → wM → Prop} {Q : Int32 → wM → Prop} (hK59 : ∀ (v3 : Int32) (v4 : Int32) (v5 : Int32) (M : wM), K59 v3 v4 v5 M → aG 210 (59, [some (.ref 0), none, some (.int z2), some (.int v3), some (.int v4), some (.int v5), none, none, none, none], [], mkM M) (aPi mkM Q)) : ∀ (n : Nat) (y6 : Int32) (y7 : Int32) (M : wM), wL_X12_next__101 z2 z3 z4 z5 K59 Q n y6 y7 M → aG 210 (101, [some (.ref 0), none, some (.int z2), some (.int z3), some (.int z4), some (.int z5), some (.int y6), some (.int y7), none, none], [], mkM M) (aPi mkM Q)
  | 0, _, _, _, h => h.elim
  | n + 1, y6, y7, M, h => wbk_X12_next__101 hK59 (fun y6 y7 M h => wLk_X12_next__101 hK59 n y6 y7 M h) h
def wb_X12_next__76 (z2 : Int32) (z3 : Int32) (z4 : Int32) (z5 : Int32) (z6 : Int32) (K59 : Int32 → Int32 → Int32 → wM → Prop) (K76 : Int32 → wM → Prop) (y7 : Int32) (M : wM) (Q : Int32 → wM → Prop) : Prop := ((nI 256) ≤ y7 → ∃ n, wL_X12_next__101 z2 z3 z4 z5 K59 Q n z6 (nI 0) M) ∧ (¬ (nI 256) ≤ y7 → vp_in y7 256 ∧ (K76 (y7 + (nI 1)) (si M 39 y7.toNatClampNeg (nI 0))))
set_option maxRecDepth 20000 in
theorem wbk_X12_next__76 {z2 : Int32} {z3 : Int32} {z4 : Int32} {z5 : Int32} {z6 : Int32} {K59 : Int32 → Int32 → Int32 → wM → Prop} {K76 : Int32 → wM → Prop} {y7 : Int32} {M : wM} {Q : Int32 → wM → Prop} (hK59 : ∀ (v3 : Int32) (v4 : Int32) (v5 : Int32) (M : wM), K59 v3 v4 v5 M → aG 210 (59, [some (.ref 0), none, some (.int z2), some (.int v3), some (.int v4), some (.int v5), none, none, none, none], [], mkM M) (aPi mkM Q)) (hK76 : ∀ (v7 : Int32) (M : wM), K76 v7 M → aG 210 (76, [some (.ref 0), none, some (.int z2), some (.int z3), some (.int z4), some (.int z5), some (.int z6), some (.int v7), none, none], [], mkM M) (aPi mkM Q)) (h : wb_X12_next__76 z2 z3 z4 z5 z6 K59 K76 y7 M Q) : aG 210 (76, [some (.ref 0), none, some (.int z2), some (.int z3), some (.int z4), some (.int z5), some (.int z6), some (.int y7), none, none], [], mkM M) (aPi mkM Q) := by
  unfold wb_X12_next__76 at h
  refine aG_n 2 (s' := (81, [some (.ref 0), none, some (.int z2), some (.int z3), some (.int z4), some (.int z5), some (.int z6), some (.int y7), none, none], [(.int (nI 256)), (.int y7)], mkM M)) rfl ?_
  obtain ⟨h1, h2⟩ := h
  by_cases q13 : (nI 256) ≤ y7
  · have h := h1 q13
    refine aG_icmp (cd := .ge) (b := true) (decide_eq_true q13) rfl ?_
    refine aG_n 2 (s' := (101, [some (.ref 0), none, some (.int z2), some (.int z3), some (.int z4), some (.int z5), some (.int z6), some (.int (nI 0)), none, none], [], mkM M)) rfl ?_
    refine aG_le (a := [some (.ref 0), none, some (.int z2), some (.int z3), some (.int z4), some (.int z5), some (.int z6), some (.int (nI 0)), none, none]) ⟨rfl, ⟨rfl, ⟨rfl, ⟨rfl, ⟨rfl, ⟨rfl, ⟨rfl, trivial⟩⟩⟩⟩⟩⟩⟩ ?_
    obtain ⟨n, h⟩ := h
    exact wLk_X12_next__101 hK59 n _ _ _ h
  · have h := h2 q13
    refine aG_icmp (cd := .ge) (b := false) (decide_eq_false q13) rfl ?_
    refine aG_n 4 (s' := (91, [some (.ref 0), none, some (.int z2), some (.int z3), some (.int z4), some (.int z5), some (.int z6), some (.int y7), none, none], [(.int (nI 0)), (.int y7), (.ref 39)], mkM M)) rfl ?_
    obtain ⟨f26, h⟩ := h
    refine aG_iast rfl rfl f26 ?_
    refine aG_n 2 (s' := (76, [some (.ref 0), none, some (.int z2), some (.int z3), some (.int z4), some (.int z5), some (.int z6), some (.int (y7 + (nI 1))), none, none], [], mkM (si M 39 y7.toNatClampNeg (nI 0)))) rfl ?_
    refine aG_le (a := [some (.ref 0), none, some (.int z2), some (.int z3), some (.int z4), some (.int z5), some (.int z6), some (.int (y7 + (nI 1))), none, none]) ⟨rfl, ⟨rfl, ⟨rfl, ⟨rfl, ⟨rfl, ⟨rfl, ⟨rfl, trivial⟩⟩⟩⟩⟩⟩⟩ ?_
    exact hK76 _ _ h
def wL_X12_next__76 (z2 : Int32) (z3 : Int32) (z4 : Int32) (z5 : Int32) (z6 : Int32) (K59 : Int32 → Int32 → Int32 → wM → Prop) (Q : Int32 → wM → Prop) : Nat → Int32 → wM → Prop
  | 0, _, _ => False
  | n + 1, y7, M => wb_X12_next__76 z2 z3 z4 z5 z6 K59 (wL_X12_next__76 z2 z3 z4 z5 z6 K59 Q n) y7 M Q
set_option maxRecDepth 20000 in
theorem wLk_X12_next__76 {z2 : Int32} {z3 : Int32} {z4 : Int32} {z5 : Int32} {z6 : Int32} {K59 : Int32 → Int32 → Int32 → wM → Prop} {Q : Int32 → wM → Prop} (hK59 : ∀ (v3 : Int32) (v4 : Int32) (v5 : Int32) (M : wM), K59 v3 v4 v5 M → aG 210 (59, [some (.ref 0), none, some (.int z2), some (.int v3), some (.int v4), some (.int v5), none, none, none, none], [], mkM M) (aPi mkM Q)) : ∀ (n : Nat) (y7 : Int32) (M : wM), wL_X12_next__76 z2 z3 z4 z5 z6 K59 Q n y7 M → aG 210 (76, [some (.ref 0), none, some (.int z2), some (.int z3), some (.int z4), some (.int z5), some (.int z6), some (.int y7), none, none], [], mkM M) (aPi mkM Q)
  | 0, _, _, h => h.elim
  | n + 1, y7, M, h => wbk_X12_next__76 hK59 (fun y7 M h => wLk_X12_next__76 hK59 n y7 M h) h
def wb_X12_next__59 (z2 : Int32) (K59 : Int32 → Int32 → Int32 → wM → Prop) (y3 : Int32) (y4 : Int32) (y5 : Int32) (M : wM) (Q : Int32 → wM → Prop) : Prop := ((jshl (nI 1) (gi M 0 41)) ≤ y5 → (z2 = (nI 0) → Q y3 M) ∧ (¬ z2 = (nI 0) → Q y4 M)) ∧ (¬ (jshl (nI 1) (gi M 0 41)) ≤ y5 → ∃ n, wL_X12_next__76 z2 y3 y4 y5 (nI 0) K59 Q n (nI 0) M)
set_option maxRecDepth 20000 in
theorem wbk_X12_next__59 {z2 : Int32} {K59 : Int32 → Int32 → Int32 → wM → Prop} {y3 : Int32} {y4 : Int32} {y5 : Int32} {M : wM} {Q : Int32 → wM → Prop} (hK59 : ∀ (v3 : Int32) (v4 : Int32) (v5 : Int32) (M : wM), K59 v3 v4 v5 M → aG 210 (59, [some (.ref 0), none, some (.int z2), some (.int v3), some (.int v4), some (.int v5), none, none, none, none], [], mkM M) (aPi mkM Q)) (h : wb_X12_next__59 z2 K59 y3 y4 y5 M Q) : aG 210 (59, [some (.ref 0), none, some (.int z2), some (.int y3), some (.int y4), some (.int y5), none, none, none, none], [], mkM M) (aPi mkM Q) := by
  unfold wb_X12_next__59 at h
  refine aG_n 5 (s' := (67, [some (.ref 0), none, some (.int z2), some (.int y3), some (.int y4), some (.int y5), none, none, none, none], [(.int (jshl (nI 1) (gi M 0 41))), (.int y5)], mkM M)) rfl ?_
  obtain ⟨h1, h2⟩ := h
  by_cases q11 : (jshl (nI 1) (gi M 0 41)) ≤ y5
  · have h := h1 q11
    refine aG_icmp (cd := .ge) (b := true) (decide_eq_true q11) rfl ?_
    refine aG_n 1 (s' := (234, [some (.ref 0), none, some (.int z2), some (.int y3), some (.int y4), some (.int y5), none, none, none, none], [(.int z2)], mkM M)) rfl ?_
    obtain ⟨h1, h2⟩ := h
    by_cases q12 : z2 = (nI 0)
    · have h := h1 q12
      refine aG_if (cd := .ne) (b := false) (aTne0 q12) rfl ?_
      refine aG_n 2 (s' := (243, [some (.ref 0), none, some (.int z2), some (.int y3), some (.int y4), some (.int y5), none, none, none, none], [(.int y3)], mkM M)) rfl ?_
      exact aG_ret0 rfl rfl ⟨_, _, rfl, h⟩
    · have h := h2 q12
      refine aG_if (cd := .ne) (b := true) (aTne1 q12) rfl ?_
      refine aG_n 1 (s' := (243, [some (.ref 0), none, some (.int z2), some (.int y3), some (.int y4), some (.int y5), none, none, none, none], [(.int y4)], mkM M)) rfl ?_
      exact aG_ret0 rfl rfl ⟨_, _, rfl, h⟩
  · have h := h2 q11
    refine aG_icmp (cd := .ge) (b := false) (decide_eq_false q11) rfl ?_
    refine aG_n 4 (s' := (76, [some (.ref 0), none, some (.int z2), some (.int y3), some (.int y4), some (.int y5), some (.int (nI 0)), some (.int (nI 0)), none, none], [], mkM M)) rfl ?_
    refine aG_le (a := [some (.ref 0), none, some (.int z2), some (.int y3), some (.int y4), some (.int y5), some (.int (nI 0)), some (.int (nI 0)), none, none]) ⟨rfl, ⟨rfl, ⟨rfl, ⟨rfl, ⟨rfl, ⟨rfl, ⟨rfl, trivial⟩⟩⟩⟩⟩⟩⟩ ?_
    obtain ⟨n, h⟩ := h
    exact wLk_X12_next__76 hK59 n _ _ h
def wL_X12_next__59 (z2 : Int32) (Q : Int32 → wM → Prop) : Nat → Int32 → Int32 → Int32 → wM → Prop
  | 0, _, _, _, _ => False
  | n + 1, y3, y4, y5, M => wb_X12_next__59 z2 (wL_X12_next__59 z2 Q n) y3 y4 y5 M Q
set_option maxRecDepth 20000 in
theorem wLk_X12_next__59 {z2 : Int32} {Q : Int32 → wM → Prop} : ∀ (n : Nat) (y3 : Int32) (y4 : Int32) (y5 : Int32) (M : wM), wL_X12_next__59 z2 Q n y3 y4 y5 M → aG 210 (59, [some (.ref 0), none, some (.int z2), some (.int y3), some (.int y4), some (.int y5), none, none, none, none], [], mkM M) (aPi mkM Q)
  | 0, _, _, _, _, h => h.elim
  | n + 1, y3, y4, y5, M, h => wbk_X12_next__59 (fun y3 y4 y5 M h => wLk_X12_next__59 n y3 y4 y5 M h) h
def w_X12_next_ (x1 : Int32) (x2 : Int32) (M : wM) (Q : Int32 → wM → Prop) : Prop := w_X12_in x1.toInt64 (lN 0) (lN 2) M (fun r1 M2 => (r1 = (nI 0) → Q (-1) M2) ∧ (¬ r1 = (nI 0) → w_X12_in x2.toInt64 (lN 0) (lN 1) M2 (fun r4 M5 => (r4 = (nI 0) → Q (-1) M5) ∧ (¬ r4 = (nI 0) → ((gi M5 0 41) = (nI 0) → Q (-2) M5) ∧ (¬ (gi M5 0 41) = (nI 0) → w_X12_findLikely x1 M5 (fun M9 => ((gi M9 0 48) = (nI 0) → Q (-4) M9) ∧ (¬ (gi M9 0 48) = (nI 0) → ∃ n, wL_X12_next__59 x2 Q n (nI 0) (nI 3000) (nI 0) M9)))))))
set_option maxRecDepth 20000 in
theorem wk_X12_next_ {x1 : Int32} {x2 : Int32} {M : wM} {Q : Int32 → wM → Prop} (h : w_X12_next_ x1 x2 M Q) : aG 210 (aEn 210 [(.ref 0), (.int x1), (.int x2)] (mkM M)) (aPi mkM Q) := by
  unfold w_X12_next_ at h
  refine aG_n 4 (s' := (6, [some (.ref 0), some (.int x1), some (.int x2), none, none, none, none, none, none, none], [(.long (lN 2)), (.long (lN 0)), (.long x1.toInt64)], mkM M)) rfl ?_
  refine aG_call rfl rfl (aG_mono (wk_X12_in h) ?_)
  rintro _ ⟨r1, M2, rfl, h⟩
  refine aG_n 0 (s' := (9, [some (.ref 0), some (.int x1), some (.int x2), none, none, none, none, none, none, none], [(.int r1)], mkM M2)) rfl ?_
  obtain ⟨h1, h2⟩ := h
  by_cases q3 : r1 = (nI 0)
  · have h := h1 q3
    refine aG_if (cd := .eq) (b := true) (decide_eq_true q3) rfl ?_
    refine aG_n 1 (s' := (23, [some (.ref 0), some (.int x1), some (.int x2), none, none, none, none, none, none, none], [(.int (-1))], mkM M2)) rfl ?_
    exact aG_ret0 rfl rfl ⟨_, _, rfl, h⟩
  · have h := h2 q3
    refine aG_if (cd := .eq) (b := false) (decide_eq_false q3) rfl ?_
    refine aG_n 4 (s' := (16, [some (.ref 0), some (.int x1), some (.int x2), none, none, none, none, none, none, none], [(.long (lN 1)), (.long (lN 0)), (.long x2.toInt64)], mkM M2)) rfl ?_
    refine aG_call rfl rfl (aG_mono (wk_X12_in h) ?_)
    rintro _ ⟨r4, M5, rfl, h⟩
    refine aG_n 0 (s' := (19, [some (.ref 0), some (.int x1), some (.int x2), none, none, none, none, none, none, none], [(.int r4)], mkM M5)) rfl ?_
    obtain ⟨h1, h2⟩ := h
    by_cases q6 : r4 = (nI 0)
    · have h := h1 q6
      refine aG_if (cd := .ne) (b := false) (aTne0 q6) rfl ?_
      refine aG_n 1 (s' := (23, [some (.ref 0), some (.int x1), some (.int x2), none, none, none, none, none, none, none], [(.int (-1))], mkM M5)) rfl ?_
      exact aG_ret0 rfl rfl ⟨_, _, rfl, h⟩
    · have h := h2 q6
      refine aG_if (cd := .ne) (b := true) (aTne1 q6) rfl ?_
      refine aG_n 2 (s' := (28, [some (.ref 0), some (.int x1), some (.int x2), none, none, none, none, none, none, none], [(.int (gi M5 0 41))], mkM M5)) rfl ?_
      obtain ⟨h1, h2⟩ := h
      by_cases q7 : (gi M5 0 41) = (nI 0)
      · have h := h1 q7
        refine aG_if (cd := .ne) (b := false) (aTne0 q7) rfl ?_
        refine aG_n 1 (s' := (33, [some (.ref 0), some (.int x1), some (.int x2), none, none, none, none, none, none, none], [(.int (-2))], mkM M5)) rfl ?_
        exact aG_ret0 rfl rfl ⟨_, _, rfl, h⟩
      · have h := h2 q7
        refine aG_if (cd := .ne) (b := true) (aTne1 q7) rfl ?_
        refine aG_n 2 (s' := (36, [some (.ref 0), some (.int x1), some (.int x2), none, none, none, none, none, none, none], [(.int x1), (.ref 0)], mkM M5)) rfl ?_
        refine aG_call rfl rfl (aG_mono (wk_X12_findLikely h) ?_)
        rintro _ ⟨M9, rfl, h⟩
        refine aG_n 2 (s' := (43, [some (.ref 0), some (.int x1), some (.int x2), none, none, none, none, none, none, none], [(.int (gi M9 0 48))], mkM M9)) rfl ?_
        obtain ⟨h1, h2⟩ := h
        by_cases q10 : (gi M9 0 48) = (nI 0)
        · have h := h1 q10
          refine aG_if (cd := .ne) (b := false) (aTne0 q10) rfl ?_
          refine aG_n 1 (s' := (48, [some (.ref 0), some (.int x1), some (.int x2), none, none, none, none, none, none, none], [(.int (-4))], mkM M9)) rfl ?_
          exact aG_ret0 rfl rfl ⟨_, _, rfl, h⟩
        · have h := h2 q10
          refine aG_if (cd := .ne) (b := true) (aTne1 q10) rfl ?_
          refine aG_n 6 (s' := (59, [some (.ref 0), some (.int x1), some (.int x2), some (.int (nI 0)), some (.int (nI 3000)), some (.int (nI 0)), none, none, none, none], [], mkM M9)) rfl ?_
          refine aG_le (a := [some (.ref 0), none, some (.int x2), some (.int (nI 0)), some (.int (nI 3000)), some (.int (nI 0)), none, none, none, none]) ⟨rfl, ⟨rfl, ⟨rfl, ⟨rfl, ⟨rfl, trivial⟩⟩⟩⟩⟩ ?_
          obtain ⟨n, h⟩ := h
          exact wLk_X12_next__59 n _ _ _ _ h
