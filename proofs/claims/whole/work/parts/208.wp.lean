/-! methods as predicates, and their walks (by gen/wpgen.py) -/
def w_X12_rowsOf (x1 : Int32) (M : wM) (Q : Int32 → wM → Prop) : Prop := (x1 = (nI 2) → Q (gi M 0 41) M) ∧ (¬ x1 = (nI 2) → (x1 = (nI 1) → w_X12_wide M (fun r3 M4 => Q ((nI 2) * r3) M4)) ∧ (¬ x1 = (nI 1) → w_X12_wide M (fun r5 M6 => Q r5 M6)))
set_option maxRecDepth 20000 in
theorem wk_X12_rowsOf {x1 : Int32} {M : wM} {Q : Int32 → wM → Prop} (h : w_X12_rowsOf x1 M Q) : aG 128 (aEn 128 [(.ref 0), (.int x1)] (mkM M)) (aPi mkM Q) := by
  unfold w_X12_rowsOf at h
  refine aG_n 2 (s' := (2, [some (.ref 0), some (.int x1)], [(.int (nI 2)), (.int x1)], mkM M)) rfl ?_
  obtain ⟨h1, h2⟩ := h
  by_cases q1 : x1 = (nI 2)
  · have h := h1 q1
    refine aG_icmp (cd := .ne) (b := false) (aTne0 q1) rfl ?_
    refine aG_n 3 (s' := (30, [some (.ref 0), some (.int x1)], [(.int (gi M 0 41))], mkM M)) rfl ?_
    exact aG_ret0 rfl rfl ⟨_, _, rfl, h⟩
  · have h := h2 q1
    refine aG_icmp (cd := .ne) (b := true) (aTne1 q1) rfl ?_
    refine aG_n 2 (s' := (14, [some (.ref 0), some (.int x1)], [(.int (nI 1)), (.int x1)], mkM M)) rfl ?_
    obtain ⟨h1, h2⟩ := h
    by_cases q2 : x1 = (nI 1)
    · have h := h1 q2
      refine aG_icmp (cd := .ne) (b := false) (aTne0 q2) rfl ?_
      refine aG_n 2 (s' := (19, [some (.ref 0), some (.int x1)], [(.ref 0), (.int (nI 2))], mkM M)) rfl ?_
      refine aG_call rfl rfl (aG_mono (wk_X12_wide h) ?_)
      rintro _ ⟨r3, M4, rfl, h⟩
      refine aG_n 2 (s' := (30, [some (.ref 0), some (.int x1)], [(.int ((nI 2) * r3))], mkM M4)) rfl ?_
      exact aG_ret0 rfl rfl ⟨_, _, rfl, h⟩
    · have h := h2 q2
      refine aG_icmp (cd := .ne) (b := true) (aTne1 q2) rfl ?_
      refine aG_n 1 (s' := (27, [some (.ref 0), some (.int x1)], [(.ref 0)], mkM M)) rfl ?_
      refine aG_call rfl rfl (aG_mono (wk_X12_wide h) ?_)
      rintro _ ⟨r5, M6, rfl, h⟩
      refine aG_n 0 (s' := (30, [some (.ref 0), some (.int x1)], [(.int r5)], mkM M6)) rfl ?_
      exact aG_ret0 rfl rfl ⟨_, _, rfl, h⟩
def wb_X12_rowAt_20 (z2 : Int32) (z3 : Int32) (K20 : Int32 → Int32 → wM → Prop) (y4 : Int32) (y5 : Int32) (M : wM) (Q : Int32 → wM → Prop) : Prop := ((gi M 0 41) ≤ y5 → (z3 ≤ z2 → Q (((jshl (nI 1) (gi M 0 41)) - (nI 1)) - y4) M) ∧ (¬ z3 ≤ z2 → Q y4 M)) ∧ (¬ (gi M 0 41) ≤ y5 → ¬ z3 = 0 ∧ (K20 (y4 ||| (jshl ((jshr (y5 + (nI 1)) (z2 - z2 / z3 * z3)) &&& (nI 1)) y5)) (y5 + (nI 1)) M))
set_option maxRecDepth 20000 in
theorem wbk_X12_rowAt_20 {z2 : Int32} {z3 : Int32} {K20 : Int32 → Int32 → wM → Prop} {y4 : Int32} {y5 : Int32} {M : wM} {Q : Int32 → wM → Prop} (hK20 : ∀ (v4 : Int32) (v5 : Int32) (M : wM), K20 v4 v5 M → aG 129 (20, [some (.ref 0), none, some (.int z2), some (.int z3), some (.int v4), some (.int v5)], [], mkM M) (aPi mkM Q)) (h : wb_X12_rowAt_20 z2 z3 K20 y4 y5 M Q) : aG 129 (20, [some (.ref 0), none, some (.int z2), some (.int z3), some (.int y4), some (.int y5)], [], mkM M) (aPi mkM Q) := by
  unfold wb_X12_rowAt_20 at h
  refine aG_n 3 (s' := (26, [some (.ref 0), none, some (.int z2), some (.int z3), some (.int y4), some (.int y5)], [(.int (gi M 0 41)), (.int y5)], mkM M)) rfl ?_
  obtain ⟨h1, h2⟩ := h
  by_cases q4 : (gi M 0 41) ≤ y5
  · have h := h1 q4
    refine aG_icmp (cd := .ge) (b := true) (decide_eq_true q4) rfl ?_
    refine aG_n 2 (s' := (55, [some (.ref 0), none, some (.int z2), some (.int z3), some (.int y4), some (.int y5)], [(.int z3), (.int z2)], mkM M)) rfl ?_
    obtain ⟨h1, h2⟩ := h
    by_cases q5 : z3 ≤ z2
    · have h := h1 q5
      refine aG_icmp (cd := .ge) (b := true) (decide_eq_true q5) rfl ?_
      refine aG_n 8 (s' := (74, [some (.ref 0), none, some (.int z2), some (.int z3), some (.int y4), some (.int y5)], [(.int (((jshl (nI 1) (gi M 0 41)) - (nI 1)) - y4))], mkM M)) rfl ?_
      exact aG_ret0 rfl rfl ⟨_, _, rfl, h⟩
    · have h := h2 q5
      refine aG_icmp (cd := .ge) (b := false) (decide_eq_false q5) rfl ?_
      refine aG_n 2 (s' := (74, [some (.ref 0), none, some (.int z2), some (.int z3), some (.int y4), some (.int y5)], [(.int y4)], mkM M)) rfl ?_
      exact aG_ret0 rfl rfl ⟨_, _, rfl, h⟩
  · have h := h2 q4
    refine aG_icmp (cd := .ge) (b := false) (decide_eq_false q4) rfl ?_
    refine aG_n 6 (s' := (37, [some (.ref 0), none, some (.int z2), some (.int z3), some (.int y4), some (.int y5)], [(.int z3), (.int z2), (.int (y5 + (nI 1))), (.int y4)], mkM M)) rfl ?_
    obtain ⟨f6, h⟩ := h
    refine aG_rem rfl f6 ?_
    refine aG_n 9 (s' := (20, [some (.ref 0), none, some (.int z2), some (.int z3), some (.int (y4 ||| (jshl ((jshr (y5 + (nI 1)) (z2 - z2 / z3 * z3)) &&& (nI 1)) y5))), some (.int (y5 + (nI 1)))], [], mkM M)) rfl ?_
    refine aG_le (a := [some (.ref 0), none, some (.int z2), some (.int z3), some (.int (y4 ||| (jshl ((jshr (y5 + (nI 1)) (z2 - z2 / z3 * z3)) &&& (nI 1)) y5))), some (.int (y5 + (nI 1)))]) ⟨rfl, ⟨rfl, ⟨rfl, ⟨rfl, ⟨rfl, trivial⟩⟩⟩⟩⟩ ?_
    exact hK20 _ _ _ h
def wL_X12_rowAt_20 (z2 : Int32) (z3 : Int32) (Q : Int32 → wM → Prop) : Nat → Int32 → Int32 → wM → Prop
  | 0, _, _, _ => False
  | n + 1, y4, y5, M => wb_X12_rowAt_20 z2 z3 (wL_X12_rowAt_20 z2 z3 Q n) y4 y5 M Q
set_option maxRecDepth 20000 in
theorem wLk_X12_rowAt_20 {z2 : Int32} {z3 : Int32} {Q : Int32 → wM → Prop} : ∀ (n : Nat) (y4 : Int32) (y5 : Int32) (M : wM), wL_X12_rowAt_20 z2 z3 Q n y4 y5 M → aG 129 (20, [some (.ref 0), none, some (.int z2), some (.int z3), some (.int y4), some (.int y5)], [], mkM M) (aPi mkM Q)
  | 0, _, _, _, h => h.elim
  | n + 1, y4, y5, M, h => wbk_X12_rowAt_20 (fun y4 y5 M h => wLk_X12_rowAt_20 n y4 y5 M h) h
def w_X12_rowAt (x1 : Int32) (x2 : Int32) (M : wM) (Q : Int32 → wM → Prop) : Prop := (x1 = (nI 2) → Q (jshl (nI 1) x2) M) ∧ (¬ x1 = (nI 2) → w_X12_wide M (fun r2 M3 => ∃ n, wL_X12_rowAt_20 x2 r2 Q n (nI 0) (nI 0) M3))
set_option maxRecDepth 20000 in
theorem wk_X12_rowAt {x1 : Int32} {x2 : Int32} {M : wM} {Q : Int32 → wM → Prop} (h : w_X12_rowAt x1 x2 M Q) : aG 129 (aEn 129 [(.ref 0), (.int x1), (.int x2)] (mkM M)) (aPi mkM Q) := by
  unfold w_X12_rowAt at h
  refine aG_n 2 (s' := (2, [some (.ref 0), some (.int x1), some (.int x2), none, none, none], [(.int (nI 2)), (.int x1)], mkM M)) rfl ?_
  obtain ⟨h1, h2⟩ := h
  by_cases q1 : x1 = (nI 2)
  · have h := h1 q1
    refine aG_icmp (cd := .ne) (b := false) (aTne0 q1) rfl ?_
    refine aG_n 3 (s' := (8, [some (.ref 0), some (.int x1), some (.int x2), none, none, none], [(.int (jshl (nI 1) x2))], mkM M)) rfl ?_
    exact aG_ret0 rfl rfl ⟨_, _, rfl, h⟩
  · have h := h2 q1
    refine aG_icmp (cd := .ne) (b := true) (aTne1 q1) rfl ?_
    refine aG_n 1 (s' := (10, [some (.ref 0), some (.int x1), some (.int x2), none, none, none], [(.ref 0)], mkM M)) rfl ?_
    refine aG_call rfl rfl (aG_mono (wk_X12_wide h) ?_)
    rintro _ ⟨r2, M3, rfl, h⟩
    refine aG_n 5 (s' := (20, [some (.ref 0), some (.int x1), some (.int x2), some (.int r2), some (.int (nI 0)), some (.int (nI 0))], [], mkM M3)) rfl ?_
    refine aG_le (a := [some (.ref 0), none, some (.int x2), some (.int r2), some (.int (nI 0)), some (.int (nI 0))]) ⟨rfl, ⟨rfl, ⟨rfl, ⟨rfl, ⟨rfl, trivial⟩⟩⟩⟩⟩ ?_
    obtain ⟨n, h⟩ := h
    exact wLk_X12_rowAt_20 n _ _ _ h
def w_X12_isSheet (x0 : Int32) (x1 : Int32) (M : wM) (Q : Int32 → wM → Prop) : Prop := w_X12_in x0.toInt64 (lN 0) (lN 3) M (fun r1 M2 => (r1 = (nI 0) → Q (nI 0) M2) ∧ (¬ r1 = (nI 0) → w_X12_in x1.toInt64 (lN 0) (lN 2) M2 (fun r4 M5 => (r4 = (nI 0) → Q (nI 0) M5) ∧ (¬ r4 = (nI 0) → Q (nI 1) M5))))
set_option maxRecDepth 20000 in
theorem wk_X12_isSheet {x0 : Int32} {x1 : Int32} {M : wM} {Q : Int32 → wM → Prop} (h : w_X12_isSheet x0 x1 M Q) : aG 130 (aEn 130 [(.int x0), (.int x1)] (mkM M)) (aPi mkM Q) := by
  unfold w_X12_isSheet at h
  refine aG_n 4 (s' := (6, [some (.int x0), some (.int x1)], [(.long (lN 3)), (.long (lN 0)), (.long x0.toInt64)], mkM M)) rfl ?_
  refine aG_call rfl rfl (aG_mono (wk_X12_in h) ?_)
  rintro _ ⟨r1, M2, rfl, h⟩
  refine aG_n 0 (s' := (9, [some (.int x0), some (.int x1)], [(.int r1)], mkM M2)) rfl ?_
  obtain ⟨h1, h2⟩ := h
  by_cases q3 : r1 = (nI 0)
  · have h := h1 q3
    refine aG_if (cd := .eq) (b := true) (decide_eq_true q3) rfl ?_
    refine aG_n 1 (s' := (29, [some (.int x0), some (.int x1)], [(.int (nI 0))], mkM M2)) rfl ?_
    exact aG_retZ rfl rfl (Or.inl rfl) ⟨_, _, rfl, h⟩
  · have h := h2 q3
    refine aG_if (cd := .eq) (b := false) (decide_eq_false q3) rfl ?_
    refine aG_n 4 (s' := (18, [some (.int x0), some (.int x1)], [(.long (lN 2)), (.long (lN 0)), (.long x1.toInt64)], mkM M2)) rfl ?_
    refine aG_call rfl rfl (aG_mono (wk_X12_in h) ?_)
    rintro _ ⟨r4, M5, rfl, h⟩
    refine aG_n 0 (s' := (21, [some (.int x0), some (.int x1)], [(.int r4)], mkM M5)) rfl ?_
    obtain ⟨h1, h2⟩ := h
    by_cases q6 : r4 = (nI 0)
    · have h := h1 q6
      refine aG_if (cd := .eq) (b := true) (decide_eq_true q6) rfl ?_
      refine aG_n 1 (s' := (29, [some (.int x0), some (.int x1)], [(.int (nI 0))], mkM M5)) rfl ?_
      exact aG_retZ rfl rfl (Or.inl rfl) ⟨_, _, rfl, h⟩
    · have h := h2 q6
      refine aG_if (cd := .eq) (b := false) (decide_eq_false q6) rfl ?_
      refine aG_n 2 (s' := (29, [some (.int x0), some (.int x1)], [(.int (nI 1))], mkM M5)) rfl ?_
      exact aG_retZ rfl rfl (Or.inr rfl) ⟨_, _, rfl, h⟩
def wb_X12_count_93 (z1 : Int32) (z2 : Int32) (z3 : Int32) (z5 : Int32) (z6 : Int32) (K59 : Int32 → Int32 → Int32 → wM → Prop) (K93 : Int32 → Int32 → wM → Prop) (y4 : Int32) (y7 : Int32) (M : wM) (Q : Int32 → wM → Prop) : Prop := (z6 ≤ y7 → K59 y4 z5 (z6 + (nI 1)) M) ∧ (¬ z6 ≤ y7 → vp_in (((nI 8) * z6) + y7) 64 ∧ (((gi M 28 (((nI 8) * z6) + y7).toNatClampNeg) = (nI 0) → K93 (y4 + (nI 0)) (y7 + (nI 1)) M) ∧ (¬ (gi M 28 (((nI 8) * z6) + y7).toNatClampNeg) = (nI 0) → K93 (y4 + (nI 1)) (y7 + (nI 1)) M)))
set_option maxRecDepth 20000 in
theorem wbk_X12_count_93 {z1 : Int32} {z2 : Int32} {z3 : Int32} {z5 : Int32} {z6 : Int32} {K59 : Int32 → Int32 → Int32 → wM → Prop} {K93 : Int32 → Int32 → wM → Prop} {y4 : Int32} {y7 : Int32} {M : wM} {Q : Int32 → wM → Prop} (hK59 : ∀ (v4 : Int32) (v5 : Int32) (v6 : Int32) (M : wM), K59 v4 v5 v6 M → aG 131 (59, [some (.ref 0), some (.int z1), some (.int z2), some (.int z3), some (.int v4), some (.int v5), some (.int v6), none], [], mkM M) (aPi mkM Q)) (hK93 : ∀ (v4 : Int32) (v7 : Int32) (M : wM), K93 v4 v7 M → aG 131 (93, [some (.ref 0), some (.int z1), some (.int z2), some (.int z3), some (.int v4), some (.int z5), some (.int z6), some (.int v7)], [], mkM M) (aPi mkM Q)) (h : wb_X12_count_93 z1 z2 z3 z5 z6 K59 K93 y4 y7 M Q) : aG 131 (93, [some (.ref 0), some (.int z1), some (.int z2), some (.int z3), some (.int y4), some (.int z5), some (.int z6), some (.int y7)], [], mkM M) (aPi mkM Q) := by
  unfold wb_X12_count_93 at h
  refine aG_n 2 (s' := (97, [some (.ref 0), some (.int z1), some (.int z2), some (.int z3), some (.int y4), some (.int z5), some (.int z6), some (.int y7)], [(.int z6), (.int y7)], mkM M)) rfl ?_
  obtain ⟨h1, h2⟩ := h
  by_cases q21 : z6 ≤ y7
  · have h := h1 q21
    refine aG_icmp (cd := .ge) (b := true) (decide_eq_true q21) rfl ?_
    refine aG_n 2 (s' := (59, [some (.ref 0), some (.int z1), some (.int z2), some (.int z3), some (.int y4), some (.int z5), some (.int (z6 + (nI 1))), some (.int y7)], [], mkM M)) rfl ?_
    refine aG_le (a := [some (.ref 0), some (.int z1), some (.int z2), some (.int z3), some (.int y4), some (.int z5), some (.int (z6 + (nI 1))), none]) ⟨rfl, ⟨rfl, ⟨rfl, ⟨rfl, ⟨rfl, ⟨rfl, ⟨rfl, trivial⟩⟩⟩⟩⟩⟩⟩ ?_
    exact hK59 _ _ _ _ h
  · have h := h2 q21
    refine aG_icmp (cd := .ge) (b := false) (decide_eq_false q21) rfl ?_
    refine aG_n 8 (s' := (114, [some (.ref 0), some (.int z1), some (.int z2), some (.int z3), some (.int y4), some (.int z5), some (.int z6), some (.int y7)], [(.int (((nI 8) * z6) + y7)), (.ref 28), (.int y4)], mkM M)) rfl ?_
    obtain ⟨f22, h⟩ := h
    refine aG_iald rfl rfl rfl f22 ?_
    refine aG_n 0 (s' := (115, [some (.ref 0), some (.int z1), some (.int z2), some (.int z3), some (.int y4), some (.int z5), some (.int z6), some (.int y7)], [(.int (gi M 28 (((nI 8) * z6) + y7).toNatClampNeg)), (.int y4)], mkM M)) rfl ?_
    obtain ⟨h1, h2⟩ := h
    by_cases q23 : (gi M 28 (((nI 8) * z6) + y7).toNatClampNeg) = (nI 0)
    · have h := h1 q23
      refine aG_if (cd := .ne) (b := false) (aTne0 q23) rfl ?_
      refine aG_n 6 (s' := (93, [some (.ref 0), some (.int z1), some (.int z2), some (.int z3), some (.int (y4 + (nI 0))), some (.int z5), some (.int z6), some (.int (y7 + (nI 1)))], [], mkM M)) rfl ?_
      refine aG_le (a := [some (.ref 0), some (.int z1), some (.int z2), some (.int z3), some (.int (y4 + (nI 0))), some (.int z5), some (.int z6), some (.int (y7 + (nI 1)))]) ⟨rfl, ⟨rfl, ⟨rfl, ⟨rfl, ⟨rfl, ⟨rfl, ⟨rfl, ⟨rfl, trivial⟩⟩⟩⟩⟩⟩⟩⟩ ?_
      exact hK93 _ _ _ h
    · have h := h2 q23
      refine aG_if (cd := .ne) (b := true) (aTne1 q23) rfl ?_
      refine aG_n 5 (s' := (93, [some (.ref 0), some (.int z1), some (.int z2), some (.int z3), some (.int (y4 + (nI 1))), some (.int z5), some (.int z6), some (.int (y7 + (nI 1)))], [], mkM M)) rfl ?_
      refine aG_le (a := [some (.ref 0), some (.int z1), some (.int z2), some (.int z3), some (.int (y4 + (nI 1))), some (.int z5), some (.int z6), some (.int (y7 + (nI 1)))]) ⟨rfl, ⟨rfl, ⟨rfl, ⟨rfl, ⟨rfl, ⟨rfl, ⟨rfl, ⟨rfl, trivial⟩⟩⟩⟩⟩⟩⟩⟩ ?_
      exact hK93 _ _ _ h
def wL_X12_count_93 (z1 : Int32) (z2 : Int32) (z3 : Int32) (z5 : Int32) (z6 : Int32) (K59 : Int32 → Int32 → Int32 → wM → Prop) (Q : Int32 → wM → Prop) : Nat → Int32 → Int32 → wM → Prop
  | 0, _, _, _ => False
  | n + 1, y4, y7, M => wb_X12_count_93 z1 z2 z3 z5 z6 K59 (wL_X12_count_93 z1 z2 z3 z5 z6 K59 Q n) y4 y7 M Q
set_option maxRecDepth 20000 in
theorem wLk_X12_count_93 {z1 : Int32} {z2 : Int32} {z3 : Int32} {z5 : Int32} {z6 : Int32} {K59 : Int32 → Int32 → Int32 → wM → Prop} {Q : Int32 → wM → Prop} (hK59 : ∀ (v4 : Int32) (v5 : Int32) (v6 : Int32) (M : wM), K59 v4 v5 v6 M → aG 131 (59, [some (.ref 0), some (.int z1), some (.int z2), some (.int z3), some (.int v4), some (.int v5), some (.int v6), none], [], mkM M) (aPi mkM Q)) : ∀ (n : Nat) (y4 : Int32) (y7 : Int32) (M : wM), wL_X12_count_93 z1 z2 z3 z5 z6 K59 Q n y4 y7 M → aG 131 (93, [some (.ref 0), some (.int z1), some (.int z2), some (.int z3), some (.int y4), some (.int z5), some (.int z6), some (.int y7)], [], mkM M) (aPi mkM Q)
  | 0, _, _, _, h => h.elim
  | n + 1, y4, y7, M, h => wbk_X12_count_93 hK59 (fun y4 y7 M h => wLk_X12_count_93 hK59 n y4 y7 M h) h
def wj_X12_count_87 (z1 : Int32) (z2 : Int32) (z3 : Int32) (z4 : Int32) (z6 : Int32) (s0 : Int32) (s1 : Int32) (K59 : Int32 → Int32 → Int32 → wM → Prop) (M : wM) (Q : Int32 → wM → Prop) : Prop := ∃ n, wL_X12_count_93 z1 z2 z3 (s0 + s1) z6 K59 Q n z4 (nI 0) M
set_option maxRecDepth 20000 in
theorem wjk_X12_count_87 {z1 : Int32} {z2 : Int32} {z3 : Int32} {z4 : Int32} {z6 : Int32} {s0 : Int32} {s1 : Int32} {K59 : Int32 → Int32 → Int32 → wM → Prop} {M : wM} {Q : Int32 → wM → Prop} (hK59 : ∀ (v4 : Int32) (v5 : Int32) (v6 : Int32) (M : wM), K59 v4 v5 v6 M → aG 131 (59, [some (.ref 0), some (.int z1), some (.int z2), some (.int z3), some (.int v4), some (.int v5), some (.int v6), none], [], mkM M) (aPi mkM Q)) (h : wj_X12_count_87 z1 z2 z3 z4 z6 s0 s1 K59 M Q) : aG 131 (87, [some (.ref 0), some (.int z1), some (.int z2), some (.int z3), some (.int z4), none, some (.int z6), none], [(.int s1), (.int s0)], mkM M) (aPi mkM Q) := by
  unfold wj_X12_count_87 at h
  refine aG_n 4 (s' := (93, [some (.ref 0), some (.int z1), some (.int z2), some (.int z3), some (.int z4), some (.int (s0 + s1)), some (.int z6), some (.int (nI 0))], [], mkM M)) rfl ?_
  refine aG_le (a := [some (.ref 0), some (.int z1), some (.int z2), some (.int z3), some (.int z4), some (.int (s0 + s1)), some (.int z6), some (.int (nI 0))]) ⟨rfl, ⟨rfl, ⟨rfl, ⟨rfl, ⟨rfl, ⟨rfl, ⟨rfl, ⟨rfl, trivial⟩⟩⟩⟩⟩⟩⟩⟩ ?_
  obtain ⟨n, h⟩ := h
  exact wLk_X12_count_93 hK59 n _ _ _ h
def wb_X12_count_59 (z1 : Int32) (z2 : Int32) (z3 : Int32) (K59 : Int32 → Int32 → Int32 → wM → Prop) (y4 : Int32) (y5 : Int32) (y6 : Int32) (M : wM) (Q : Int32 → wM → Prop) : Prop := ((gi M 0 41) ≤ y6 → (z1 = nI 0 → Q (gi M 0 0) M) ∧ (¬ z1 = nI 0 → (z1 = nI 1 → Q (gi M 0 22) M) ∧ (¬ z1 = nI 1 → (z1 = nI 2 → w_X12_lengths M (fun r6 M7 => Q r6 M7)) ∧ (¬ z1 = nI 2 → (z1 = nI 3 → Q z2 M) ∧ (¬ z1 = nI 3 → (z1 = nI 4 → Q (gi M 0 41) M) ∧ (¬ z1 = nI 4 → (z1 = nI 5 → Q y4 M) ∧ (¬ z1 = nI 5 → (z1 = nI 6 → Q y5 M) ∧ (¬ z1 = nI 6 → (z1 = nI 7 → Q z3 M) ∧ (¬ z1 = nI 7 → (z1 = nI 8 → Q (gi M 0 38) M) ∧ (¬ z1 = nI 8 → (z1 = nI 9 → Q (gi M 0 15) M) ∧ (¬ z1 = nI 9 → (z1 = nI 10 → vp_in (nI 0) 4 ∧ (((gi M 40 (nI 0).toNatClampNeg) = (-4) → Q (-4) M) ∧ (¬ (gi M 40 (nI 0).toNatClampNeg) = (-4) → vp_in (nI 0) 4 ∧ (Q (gi M 41 (nI 0).toNatClampNeg) M)))) ∧ (¬ z1 = nI 10 → Q (-1) M)))))))))))) ∧ (¬ (gi M 0 41) ≤ y6 → vp_in y6 8 ∧ (((gi M 27 y6.toNatClampNeg) = (-4) → wj_X12_count_87 z1 z2 z3 y4 y6 y5 (nI 0) K59 M Q) ∧ (¬ (gi M 27 y6.toNatClampNeg) = (-4) → wj_X12_count_87 z1 z2 z3 y4 y6 y5 (nI 1) K59 M Q)))
set_option maxRecDepth 20000 in
theorem wbk_X12_count_59 {z1 : Int32} {z2 : Int32} {z3 : Int32} {K59 : Int32 → Int32 → Int32 → wM → Prop} {y4 : Int32} {y5 : Int32} {y6 : Int32} {M : wM} {Q : Int32 → wM → Prop} (hK59 : ∀ (v4 : Int32) (v5 : Int32) (v6 : Int32) (M : wM), K59 v4 v5 v6 M → aG 131 (59, [some (.ref 0), some (.int z1), some (.int z2), some (.int z3), some (.int v4), some (.int v5), some (.int v6), none], [], mkM M) (aPi mkM Q)) (h : wb_X12_count_59 z1 z2 z3 K59 y4 y5 y6 M Q) : aG 131 (59, [some (.ref 0), some (.int z1), some (.int z2), some (.int z3), some (.int y4), some (.int y5), some (.int y6), none], [], mkM M) (aPi mkM Q) := by
  unfold wb_X12_count_59 at h
  refine aG_n 3 (s' := (65, [some (.ref 0), some (.int z1), some (.int z2), some (.int z3), some (.int y4), some (.int y5), some (.int y6), none], [(.int (gi M 0 41)), (.int y6)], mkM M)) rfl ?_
  obtain ⟨h1, h2⟩ := h
  by_cases q2 : (gi M 0 41) ≤ y6
  · have h := h1 q2
    refine aG_icmp (cd := .ge) (b := true) (decide_eq_true q2) rfl ?_
    refine aG_n 1 (s' := (139, [some (.ref 0), some (.int z1), some (.int z2), some (.int z3), some (.int y4), some (.int y5), some (.int y6), none], [(.int z1)], mkM M)) rfl ?_
    obtain ⟨h1, h⟩ := h
    by_cases q3 : z1 = nI 0
    · have h := h1 q3
      refine aG_tbl rfl (by rw [q3] <;> decide) (by rw [q3] <;> rfl) ?_
      refine aG_n 2 (s' := (200, [some (.ref 0), some (.int z1), some (.int z2), some (.int z3), some (.int y4), some (.int y5), some (.int y6), none], [(.int (gi M 0 0))], mkM M)) rfl ?_
      exact aG_ret0 rfl rfl ⟨_, _, rfl, h⟩
    have h := h q3
    obtain ⟨h1, h⟩ := h
    by_cases q4 : z1 = nI 1
    · have h := h1 q4
      refine aG_tbl rfl (by rw [q4] <;> decide) (by rw [q4] <;> rfl) ?_
      refine aG_n 2 (s' := (205, [some (.ref 0), some (.int z1), some (.int z2), some (.int z3), some (.int y4), some (.int y5), some (.int y6), none], [(.int (gi M 0 22))], mkM M)) rfl ?_
      exact aG_ret0 rfl rfl ⟨_, _, rfl, h⟩
    have h := h q4
    obtain ⟨h1, h⟩ := h
    by_cases q5 : z1 = nI 2
    · have h := h1 q5
      refine aG_tbl rfl (by rw [q5] <;> decide) (by rw [q5] <;> rfl) ?_
      refine aG_n 1 (s' := (207, [some (.ref 0), some (.int z1), some (.int z2), some (.int z3), some (.int y4), some (.int y5), some (.int y6), none], [(.ref 0)], mkM M)) rfl ?_
      refine aG_call rfl rfl (aG_mono (wk_X12_lengths h) ?_)
      rintro _ ⟨r6, M7, rfl, h⟩
      refine aG_n 0 (s' := (210, [some (.ref 0), some (.int z1), some (.int z2), some (.int z3), some (.int y4), some (.int y5), some (.int y6), none], [(.int r6)], mkM M7)) rfl ?_
      exact aG_ret0 rfl rfl ⟨_, _, rfl, h⟩
    have h := h q5
    obtain ⟨h1, h⟩ := h
    by_cases q8 : z1 = nI 3
    · have h := h1 q8
      refine aG_tbl rfl (by rw [q8] <;> decide) (by rw [q8] <;> rfl) ?_
      refine aG_n 1 (s' := (212, [some (.ref 0), some (.int z1), some (.int z2), some (.int z3), some (.int y4), some (.int y5), some (.int y6), none], [(.int z2)], mkM M)) rfl ?_
      exact aG_ret0 rfl rfl ⟨_, _, rfl, h⟩
    have h := h q8
    obtain ⟨h1, h⟩ := h
    by_cases q9 : z1 = nI 4
    · have h := h1 q9
      refine aG_tbl rfl (by rw [q9] <;> decide) (by rw [q9] <;> rfl) ?_
      refine aG_n 2 (s' := (217, [some (.ref 0), some (.int z1), some (.int z2), some (.int z3), some (.int y4), some (.int y5), some (.int y6), none], [(.int (gi M 0 41))], mkM M)) rfl ?_
      exact aG_ret0 rfl rfl ⟨_, _, rfl, h⟩
    have h := h q9
    obtain ⟨h1, h⟩ := h
    by_cases q10 : z1 = nI 5
    · have h := h1 q10
      refine aG_tbl rfl (by rw [q10] <;> decide) (by rw [q10] <;> rfl) ?_
      refine aG_n 1 (s' := (220, [some (.ref 0), some (.int z1), some (.int z2), some (.int z3), some (.int y4), some (.int y5), some (.int y6), none], [(.int y4)], mkM M)) rfl ?_
      exact aG_ret0 rfl rfl ⟨_, _, rfl, h⟩
    have h := h q10
    obtain ⟨h1, h⟩ := h
    by_cases q11 : z1 = nI 6
    · have h := h1 q11
      refine aG_tbl rfl (by rw [q11] <;> decide) (by rw [q11] <;> rfl) ?_
      refine aG_n 1 (s' := (223, [some (.ref 0), some (.int z1), some (.int z2), some (.int z3), some (.int y4), some (.int y5), some (.int y6), none], [(.int y5)], mkM M)) rfl ?_
      exact aG_ret0 rfl rfl ⟨_, _, rfl, h⟩
    have h := h q11
    obtain ⟨h1, h⟩ := h
    by_cases q12 : z1 = nI 7
    · have h := h1 q12
      refine aG_tbl rfl (by rw [q12] <;> decide) (by rw [q12] <;> rfl) ?_
      refine aG_n 1 (s' := (225, [some (.ref 0), some (.int z1), some (.int z2), some (.int z3), some (.int y4), some (.int y5), some (.int y6), none], [(.int z3)], mkM M)) rfl ?_
      exact aG_ret0 rfl rfl ⟨_, _, rfl, h⟩
    have h := h q12
    obtain ⟨h1, h⟩ := h
    by_cases q13 : z1 = nI 8
    · have h := h1 q13
      refine aG_tbl rfl (by rw [q13] <;> decide) (by rw [q13] <;> rfl) ?_
      refine aG_n 2 (s' := (230, [some (.ref 0), some (.int z1), some (.int z2), some (.int z3), some (.int y4), some (.int y5), some (.int y6), none], [(.int (gi M 0 38))], mkM M)) rfl ?_
      exact aG_ret0 rfl rfl ⟨_, _, rfl, h⟩
    have h := h q13
    obtain ⟨h1, h⟩ := h
    by_cases q14 : z1 = nI 9
    · have h := h1 q14
      refine aG_tbl rfl (by rw [q14] <;> decide) (by rw [q14] <;> rfl) ?_
      refine aG_n 2 (s' := (235, [some (.ref 0), some (.int z1), some (.int z2), some (.int z3), some (.int y4), some (.int y5), some (.int y6), none], [(.int (gi M 0 15))], mkM M)) rfl ?_
      exact aG_ret0 rfl rfl ⟨_, _, rfl, h⟩
    have h := h q14
    obtain ⟨h1, h⟩ := h
    by_cases q15 : z1 = nI 10
    · have h := h1 q15
      refine aG_tbl rfl (by rw [q15] <;> decide) (by rw [q15] <;> rfl) ?_
      refine aG_n 3 (s' := (241, [some (.ref 0), some (.int z1), some (.int z2), some (.int z3), some (.int y4), some (.int y5), some (.int y6), none], [(.int (nI 0)), (.ref 40)], mkM M)) rfl ?_
      obtain ⟨f16, h⟩ := h
      refine aG_iald rfl rfl rfl f16 ?_
      refine aG_n 1 (s' := (244, [some (.ref 0), some (.int z1), some (.int z2), some (.int z3), some (.int y4), some (.int y5), some (.int y6), none], [(.int (-4)), (.int (gi M 40 (nI 0).toNatClampNeg))], mkM M)) rfl ?_
      obtain ⟨h1, h2⟩ := h
      by_cases q17 : (gi M 40 (nI 0).toNatClampNeg) = (-4)
      · have h := h1 q17
        refine aG_icmp (cd := .ne) (b := false) (aTne0 q17) rfl ?_
        refine aG_n 2 (s' := (258, [some (.ref 0), some (.int z1), some (.int z2), some (.int z3), some (.int y4), some (.int y5), some (.int y6), none], [(.int (-4))], mkM M)) rfl ?_
        exact aG_ret0 rfl rfl ⟨_, _, rfl, h⟩
      · have h := h2 q17
        refine aG_icmp (cd := .ne) (b := true) (aTne1 q17) rfl ?_
        refine aG_n 3 (s' := (257, [some (.ref 0), some (.int z1), some (.int z2), some (.int z3), some (.int y4), some (.int y5), some (.int y6), none], [(.int (nI 0)), (.ref 41)], mkM M)) rfl ?_
        obtain ⟨f18, h⟩ := h
        refine aG_iald rfl rfl rfl f18 ?_
        refine aG_n 0 (s' := (258, [some (.ref 0), some (.int z1), some (.int z2), some (.int z3), some (.int y4), some (.int y5), some (.int y6), none], [(.int (gi M 41 (nI 0).toNatClampNeg))], mkM M)) rfl ?_
        exact aG_ret0 rfl rfl ⟨_, _, rfl, h⟩
    have h := h q15
    refine aG_tbd rfl (tbl_out 10 (fun k hk _ => ?_) (by decide)) ?_
    · have hk2 : k = 0 ∨ k = 1 ∨ k = 2 ∨ k = 3 ∨ k = 4 ∨ k = 5 ∨ k = 6 ∨ k = 7 ∨ k = 8 ∨ k = 9 ∨ k = 10 := by omega
      rcases hk2 with rfl | rfl | rfl | rfl | rfl | rfl | rfl | rfl | rfl | rfl | rfl <;> assumption
    refine aG_n 1 (s' := (260, [some (.ref 0), some (.int z1), some (.int z2), some (.int z3), some (.int y4), some (.int y5), some (.int y6), none], [(.int (-1))], mkM M)) rfl ?_
    exact aG_ret0 rfl rfl ⟨_, _, rfl, h⟩
  · have h := h2 q2
    refine aG_icmp (cd := .ge) (b := false) (decide_eq_false q2) rfl ?_
    refine aG_n 4 (s' := (76, [some (.ref 0), some (.int z1), some (.int z2), some (.int z3), some (.int y4), some (.int y5), some (.int y6), none], [(.int y6), (.ref 27), (.int y5)], mkM M)) rfl ?_
    obtain ⟨f19, h⟩ := h
    refine aG_iald rfl rfl rfl f19 ?_
    refine aG_n 1 (s' := (79, [some (.ref 0), some (.int z1), some (.int z2), some (.int z3), some (.int y4), some (.int y5), some (.int y6), none], [(.int (-4)), (.int (gi M 27 y6.toNatClampNeg)), (.int y5)], mkM M)) rfl ?_
    obtain ⟨h1, h2⟩ := h
    by_cases q20 : (gi M 27 y6.toNatClampNeg) = (-4)
    · have h := h1 q20
      refine aG_icmp (cd := .ne) (b := false) (aTne0 q20) rfl ?_
      refine aG_n 2 (s' := (87, [some (.ref 0), some (.int z1), some (.int z2), some (.int z3), some (.int y4), some (.int y5), some (.int y6), none], [(.int (nI 0)), (.int y5)], mkM M)) rfl ?_
      refine aG_le (a := [some (.ref 0), some (.int z1), some (.int z2), some (.int z3), some (.int y4), none, some (.int y6), none]) ⟨rfl, ⟨rfl, ⟨rfl, ⟨rfl, ⟨rfl, ⟨rfl, trivial⟩⟩⟩⟩⟩⟩ ?_
      exact wjk_X12_count_87 hK59 h
    · have h := h2 q20
      refine aG_icmp (cd := .ne) (b := true) (aTne1 q20) rfl ?_
      refine aG_n 1 (s' := (87, [some (.ref 0), some (.int z1), some (.int z2), some (.int z3), some (.int y4), some (.int y5), some (.int y6), none], [(.int (nI 1)), (.int y5)], mkM M)) rfl ?_
      refine aG_le (a := [some (.ref 0), some (.int z1), some (.int z2), some (.int z3), some (.int y4), none, some (.int y6), none]) ⟨rfl, ⟨rfl, ⟨rfl, ⟨rfl, ⟨rfl, ⟨rfl, trivial⟩⟩⟩⟩⟩⟩ ?_
      exact wjk_X12_count_87 hK59 h
def wL_X12_count_59 (z1 : Int32) (z2 : Int32) (z3 : Int32) (Q : Int32 → wM → Prop) : Nat → Int32 → Int32 → Int32 → wM → Prop
  | 0, _, _, _, _ => False
  | n + 1, y4, y5, y6, M => wb_X12_count_59 z1 z2 z3 (wL_X12_count_59 z1 z2 z3 Q n) y4 y5 y6 M Q
set_option maxRecDepth 20000 in
theorem wLk_X12_count_59 {z1 : Int32} {z2 : Int32} {z3 : Int32} {Q : Int32 → wM → Prop} : ∀ (n : Nat) (y4 : Int32) (y5 : Int32) (y6 : Int32) (M : wM), wL_X12_count_59 z1 z2 z3 Q n y4 y5 y6 M → aG 131 (59, [some (.ref 0), some (.int z1), some (.int z2), some (.int z3), some (.int y4), some (.int y5), some (.int y6), none], [], mkM M) (aPi mkM Q)
  | 0, _, _, _, _, h => h.elim
  | n + 1, y4, y5, y6, M, h => wbk_X12_count_59 (fun y4 y5 y6 M h => wLk_X12_count_59 n y4 y5 y6 M h) h
def wb_X12_count_7 (z1 : Int32) (K7 : Int32 → Int32 → Int32 → wM → Prop) (y2 : Int32) (y3 : Int32) (y4 : Int32) (M : wM) (Q : Int32 → wM → Prop) : Prop := ((gi M 0 22) ≤ y4 → ∃ n, wL_X12_count_59 z1 y2 y3 Q n (nI 0) (nI 0) (nI 0) M) ∧ (¬ (gi M 0 22) ≤ y4 → vp_in y4 6 ∧ (vp_in (gi M 14 y4.toNatClampNeg) 6 ∧ (vp_in y4 6 ∧ (w_X12_bits (gi M 21 y4.toNatClampNeg) M (fun r27 M28 => K7 (y2 + (gi M 5 (gi M 14 y4.toNatClampNeg).toNatClampNeg)) (y3 + r27) (y4 + (nI 1)) M28)))))
set_option maxRecDepth 20000 in
theorem wbk_X12_count_7 {z1 : Int32} {K7 : Int32 → Int32 → Int32 → wM → Prop} {y2 : Int32} {y3 : Int32} {y4 : Int32} {M : wM} {Q : Int32 → wM → Prop} (hK7 : ∀ (v2 : Int32) (v3 : Int32) (v4 : Int32) (M : wM), K7 v2 v3 v4 M → aG 131 (7, [some (.ref 0), some (.int z1), some (.int v2), some (.int v3), some (.int v4), none, none, none], [], mkM M) (aPi mkM Q)) (h : wb_X12_count_7 z1 K7 y2 y3 y4 M Q) : aG 131 (7, [some (.ref 0), some (.int z1), some (.int y2), some (.int y3), some (.int y4), none, none, none], [], mkM M) (aPi mkM Q) := by
  unfold wb_X12_count_7 at h
  refine aG_n 3 (s' := (13, [some (.ref 0), some (.int z1), some (.int y2), some (.int y3), some (.int y4), none, none, none], [(.int (gi M 0 22)), (.int y4)], mkM M)) rfl ?_
  obtain ⟨h1, h2⟩ := h
  by_cases q1 : (gi M 0 22) ≤ y4
  · have h := h1 q1
    refine aG_icmp (cd := .ge) (b := true) (decide_eq_true q1) rfl ?_
    refine aG_n 6 (s' := (59, [some (.ref 0), some (.int z1), some (.int y2), some (.int y3), some (.int (nI 0)), some (.int (nI 0)), some (.int (nI 0)), none], [], mkM M)) rfl ?_
    refine aG_le (a := [some (.ref 0), some (.int z1), some (.int y2), some (.int y3), some (.int (nI 0)), some (.int (nI 0)), some (.int (nI 0)), none]) ⟨rfl, ⟨rfl, ⟨rfl, ⟨rfl, ⟨rfl, ⟨rfl, ⟨rfl, trivial⟩⟩⟩⟩⟩⟩⟩ ?_
    obtain ⟨n, h⟩ := h
    exact wLk_X12_count_59 n _ _ _ _ h
  · have h := h2 q1
    refine aG_icmp (cd := .ge) (b := false) (decide_eq_false q1) rfl ?_
    refine aG_n 6 (s' := (27, [some (.ref 0), some (.int z1), some (.int y2), some (.int y3), some (.int y4), none, none, none], [(.int y4), (.ref 14), (.ref 5), (.int y2)], mkM M)) rfl ?_
    obtain ⟨f24, h⟩ := h
    refine aG_iald rfl rfl rfl f24 ?_
    refine aG_n 0 (s' := (28, [some (.ref 0), some (.int z1), some (.int y2), some (.int y3), some (.int y4), none, none, none], [(.int (gi M 14 y4.toNatClampNeg)), (.ref 5), (.int y2)], mkM M)) rfl ?_
    obtain ⟨f25, h⟩ := h
    refine aG_iald rfl rfl rfl f25 ?_
    refine aG_n 6 (s' := (38, [some (.ref 0), some (.int z1), some (.int (y2 + (gi M 5 (gi M 14 y4.toNatClampNeg).toNatClampNeg))), some (.int y3), some (.int y4), none, none, none], [(.int y4), (.ref 21), (.int y3)], mkM M)) rfl ?_
    obtain ⟨f26, h⟩ := h
    refine aG_iald rfl rfl rfl f26 ?_
    refine aG_n 0 (s' := (39, [some (.ref 0), some (.int z1), some (.int (y2 + (gi M 5 (gi M 14 y4.toNatClampNeg).toNatClampNeg))), some (.int y3), some (.int y4), none, none, none], [(.int (gi M 21 y4.toNatClampNeg)), (.int y3)], mkM M)) rfl ?_
    refine aG_call rfl rfl (aG_mono (wk_X12_bits h) ?_)
    rintro _ ⟨r27, M28, rfl, h⟩
    refine aG_n 4 (s' := (7, [some (.ref 0), some (.int z1), some (.int (y2 + (gi M 5 (gi M 14 y4.toNatClampNeg).toNatClampNeg))), some (.int (y3 + r27)), some (.int (y4 + (nI 1))), none, none, none], [], mkM M28)) rfl ?_
    refine aG_le (a := [some (.ref 0), some (.int z1), some (.int (y2 + (gi M 5 (gi M 14 y4.toNatClampNeg).toNatClampNeg))), some (.int (y3 + r27)), some (.int (y4 + (nI 1))), none, none, none]) ⟨rfl, ⟨rfl, ⟨rfl, ⟨rfl, ⟨rfl, trivial⟩⟩⟩⟩⟩ ?_
    exact hK7 _ _ _ _ h
def wL_X12_count_7 (z1 : Int32) (Q : Int32 → wM → Prop) : Nat → Int32 → Int32 → Int32 → wM → Prop
  | 0, _, _, _, _ => False
  | n + 1, y2, y3, y4, M => wb_X12_count_7 z1 (wL_X12_count_7 z1 Q n) y2 y3 y4 M Q
set_option maxRecDepth 20000 in
theorem wLk_X12_count_7 {z1 : Int32} {Q : Int32 → wM → Prop} : ∀ (n : Nat) (y2 : Int32) (y3 : Int32) (y4 : Int32) (M : wM), wL_X12_count_7 z1 Q n y2 y3 y4 M → aG 131 (7, [some (.ref 0), some (.int z1), some (.int y2), some (.int y3), some (.int y4), none, none, none], [], mkM M) (aPi mkM Q)
  | 0, _, _, _, _, h => h.elim
  | n + 1, y2, y3, y4, M, h => wbk_X12_count_7 (fun y2 y3 y4 M h => wLk_X12_count_7 n y2 y3 y4 M h) h
def w_X12_count (x1 : Int32) (M : wM) (Q : Int32 → wM → Prop) : Prop := ∃ n, wL_X12_count_7 x1 Q n (nI 0) (nI 0) (nI 0) M
set_option maxRecDepth 20000 in
theorem wk_X12_count {x1 : Int32} {M : wM} {Q : Int32 → wM → Prop} (h : w_X12_count x1 M Q) : aG 131 (aEn 131 [(.ref 0), (.int x1)] (mkM M)) (aPi mkM Q) := by
  unfold w_X12_count at h
  refine aG_n 6 (s' := (7, [some (.ref 0), some (.int x1), some (.int (nI 0)), some (.int (nI 0)), some (.int (nI 0)), none, none, none], [], mkM M)) rfl ?_
  refine aG_le (a := [some (.ref 0), some (.int x1), some (.int (nI 0)), some (.int (nI 0)), some (.int (nI 0)), none, none, none]) ⟨rfl, ⟨rfl, ⟨rfl, ⟨rfl, ⟨rfl, trivial⟩⟩⟩⟩⟩ ?_
  obtain ⟨n, h⟩ := h
  exact wLk_X12_count_7 n _ _ _ _ h
def w_X0_append (x1 : Int32) (x2 : Nat) (M : wM) (Q : Int32 → wM → Prop) : Prop := ptX x2 ∧ (((gi M 26 3) < (nI 6) → vp_in (gi M 26 3) 6 ∧ (w_X1_become (gi M 26 3).toNatClampNeg x1 x2 M (fun M4 => Q ((((gi M4 26 3) + (nI 1))) - (nI 1)) (si M4 26 3 ((gi M4 26 3) + (nI 1)))))) ∧ (¬ (gi M 26 3) < (nI 6) → Q (-3) M))
set_option maxRecDepth 20000 in
theorem wk_X0_append {x1 : Int32} {x2 : Nat} {M : wM} {Q : Int32 → wM → Prop} (h : w_X0_append x1 x2 M Q) : aG 133 (aEn 133 [(.ref 26), (.int x1), (.ref x2)] (mkX M)) (aPi mkX Q) := by
  unfold w_X0_append at h
  obtain ⟨hx2, h⟩ := h
  refine aG_n 3 (s' := (6, [some (.ref 26), some (.int x1), some (.ref x2)], [(.int (nI 6)), (.int (gi M 26 3))], mkX M)) rfl ?_
  obtain ⟨h1, h2⟩ := h
  by_cases q1 : (gi M 26 3) < (nI 6)
  · have h := h1 q1
    refine aG_icmp (cd := .lt) (b := true) (decide_eq_true q1) rfl ?_
    refine aG_n 4 (s' := (20, [some (.ref 26), some (.int x1), some (.ref x2)], [(.int (gi M 26 3)), (.ref 30)], mkX M)) rfl ?_
    obtain ⟨f2, h⟩ := h
    refine aG_aald rfl rfl rfl f2 (rX_30 (P := (M).2.2) (vin_lt f2)) ?_
    refine aG_n 2 (s' := (23, [some (.ref 26), some (.int x1), some (.ref x2)], [(.ref x2), (.int x1), (.ref (34 + 3 * (gi M 26 3).toNatClampNeg))], mkX M)) rfl ?_
    refine aG_ivv rfl rfl (shX_chip (vin_lt f2)) rfl rfl (aG_mono (wk_X1_become h) ?_)
    rintro _ ⟨M4, rfl, h⟩
    refine aG_n 10 (s' := (42, [some (.ref 26), some (.int x1), some (.ref x2)], [(.int ((((gi M4 26 3) + (nI 1))) - (nI 1)))], mkX (si M4 26 3 ((gi M4 26 3) + (nI 1))))) rfl ?_
    exact aG_ret0 rfl rfl ⟨_, _, rfl, h⟩
  · have h := h2 q1
    refine aG_icmp (cd := .lt) (b := false) (decide_eq_false q1) rfl ?_
    refine aG_n 1 (s' := (11, [some (.ref 26), some (.int x1), some (.ref x2)], [(.int (-3))], mkX M)) rfl ?_
    exact aG_ret0 rfl rfl ⟨_, _, rfl, h⟩
def wb_X0_shiftAll_4 (K4 : Int32 → Int32 → wM → Prop) (y2 : Int32) (y3 : Int32) (M : wM) (Q : Int32 → wM → Prop) : Prop := ((gi M 26 3) ≤ y3 → w_X0_behindWire (gi M 26 3) y2 M (fun r2 M3 => Q r2 M3)) ∧ (¬ (gi M 26 3) ≤ y3 → w_X0_behindWire y3 y2 M (fun r4 M5 => ((gi M5 26 5) = (nI 11) → vp_in y3 6 ∧ (w_X1_shiftOrders y3.toNatClampNeg r4 M5 (fun r8 M9 => K4 r8 (y3 + (nI 1)) M9))) ∧ (¬ (gi M5 26 5) = (nI 11) → vp_in y3 6 ∧ (w_X1_shiftData y3.toNatClampNeg r4 M5 (fun r11 M12 => K4 r11 (y3 + (nI 1)) M12)))))
set_option maxRecDepth 20000 in
theorem wbk_X0_shiftAll_4 {K4 : Int32 → Int32 → wM → Prop} {y2 : Int32} {y3 : Int32} {M : wM} {Q : Int32 → wM → Prop} (hK4 : ∀ (v2 : Int32) (v3 : Int32) (M : wM), K4 v2 v3 M → aG 134 (4, [some (.ref 26), none, some (.int v2), some (.int v3), none], [], mkX M) (aPi mkX Q)) (h : wb_X0_shiftAll_4 K4 y2 y3 M Q) : aG 134 (4, [some (.ref 26), none, some (.int y2), some (.int y3), none], [], mkX M) (aPi mkX Q) := by
  unfold wb_X0_shiftAll_4 at h
  refine aG_n 3 (s' := (9, [some (.ref 26), none, some (.int y2), some (.int y3), none], [(.int (gi M 26 3)), (.int y3)], mkX M)) rfl ?_
  obtain ⟨h1, h2⟩ := h
  by_cases q1 : (gi M 26 3) ≤ y3
  · have h := h1 q1
    refine aG_icmp (cd := .ge) (b := true) (decide_eq_true q1) rfl ?_
    refine aG_n 4 (s' := (67, [some (.ref 26), none, some (.int y2), some (.int y3), none], [(.int y2), (.int (gi M 26 3)), (.ref 26)], mkX M)) rfl ?_
    refine aG_call rfl rfl (aG_mono (wk_X0_behindWire h) ?_)
    rintro _ ⟨r2, M3, rfl, h⟩
    refine aG_n 0 (s' := (70, [some (.ref 26), none, some (.int y2), some (.int y3), none], [(.int r2)], mkX M3)) rfl ?_
    exact aG_ret0 rfl rfl ⟨_, _, rfl, h⟩
  · have h := h2 q1
    refine aG_icmp (cd := .ge) (b := false) (decide_eq_false q1) rfl ?_
    refine aG_n 3 (s' := (15, [some (.ref 26), none, some (.int y2), some (.int y3), none], [(.int y2), (.int y3), (.ref 26)], mkX M)) rfl ?_
    refine aG_call rfl rfl (aG_mono (wk_X0_behindWire h) ?_)
    rintro _ ⟨r4, M5, rfl, h⟩
    refine aG_n 4 (s' := (26, [some (.ref 26), none, some (.int y2), some (.int y3), some (.int r4)], [(.int (nI 11)), (.int (gi M5 26 5))], mkX M5)) rfl ?_
    obtain ⟨h1, h2⟩ := h
    by_cases q6 : (gi M5 26 5) = (nI 11)
    · have h := h1 q6
      refine aG_icmp (cd := .ne) (b := false) (aTne0 q6) rfl ?_
      refine aG_n 3 (s' := (34, [some (.ref 26), none, some (.int y2), some (.int y3), some (.int r4)], [(.int y3), (.ref 30)], mkX M5)) rfl ?_
      obtain ⟨f7, h⟩ := h
      refine aG_aald rfl rfl rfl f7 (rX_30 (P := (M5).2.2) (vin_lt f7)) ?_
      refine aG_n 1 (s' := (37, [some (.ref 26), none, some (.int y2), some (.int y3), some (.int r4)], [(.int r4), (.ref (34 + 3 * y3.toNatClampNeg))], mkX M5)) rfl ?_
      refine aG_ivv rfl rfl (shX_chip (vin_lt f7)) rfl rfl (aG_mono (wk_X1_shiftOrders h) ?_)
      rintro _ ⟨r8, M9, rfl, h⟩
      refine aG_n 4 (s' := (4, [some (.ref 26), none, some (.int r8), some (.int (y3 + (nI 1))), some (.int r4)], [], mkX M9)) rfl ?_
      refine aG_le (a := [some (.ref 26), none, some (.int r8), some (.int (y3 + (nI 1))), none]) ⟨rfl, ⟨rfl, ⟨rfl, trivial⟩⟩⟩ ?_
      exact hK4 _ _ _ h
    · have h := h2 q6
      refine aG_icmp (cd := .ne) (b := true) (aTne1 q6) rfl ?_
      refine aG_n 3 (s' := (48, [some (.ref 26), none, some (.int y2), some (.int y3), some (.int r4)], [(.int y3), (.ref 30)], mkX M5)) rfl ?_
      obtain ⟨f10, h⟩ := h
      refine aG_aald rfl rfl rfl f10 (rX_30 (P := (M5).2.2) (vin_lt f10)) ?_
      refine aG_n 1 (s' := (51, [some (.ref 26), none, some (.int y2), some (.int y3), some (.int r4)], [(.int r4), (.ref (34 + 3 * y3.toNatClampNeg))], mkX M5)) rfl ?_
      refine aG_ivv rfl rfl (shX_chip (vin_lt f10)) rfl rfl (aG_mono (wk_X1_shiftData h) ?_)
      rintro _ ⟨r11, M12, rfl, h⟩
      refine aG_n 3 (s' := (4, [some (.ref 26), none, some (.int r11), some (.int (y3 + (nI 1))), some (.int r4)], [], mkX M12)) rfl ?_
      refine aG_le (a := [some (.ref 26), none, some (.int r11), some (.int (y3 + (nI 1))), none]) ⟨rfl, ⟨rfl, ⟨rfl, trivial⟩⟩⟩ ?_
      exact hK4 _ _ _ h
def wL_X0_shiftAll_4 (Q : Int32 → wM → Prop) : Nat → Int32 → Int32 → wM → Prop
  | 0, _, _, _ => False
  | n + 1, y2, y3, M => wb_X0_shiftAll_4 (wL_X0_shiftAll_4 Q n) y2 y3 M Q
set_option maxRecDepth 20000 in
theorem wLk_X0_shiftAll_4 {Q : Int32 → wM → Prop} : ∀ (n : Nat) (y2 : Int32) (y3 : Int32) (M : wM), wL_X0_shiftAll_4 Q n y2 y3 M → aG 134 (4, [some (.ref 26), none, some (.int y2), some (.int y3), none], [], mkX M) (aPi mkX Q)
  | 0, _, _, _, h => h.elim
  | n + 1, y2, y3, M, h => wbk_X0_shiftAll_4 (fun y2 y3 M h => wLk_X0_shiftAll_4 n y2 y3 M h) h
def w_X0_shiftAll (x1 : Int32) (M : wM) (Q : Int32 → wM → Prop) : Prop := ∃ n, wL_X0_shiftAll_4 Q n x1 (nI 0) M
set_option maxRecDepth 20000 in
theorem wk_X0_shiftAll {x1 : Int32} {M : wM} {Q : Int32 → wM → Prop} (h : w_X0_shiftAll x1 M Q) : aG 134 (aEn 134 [(.ref 26), (.int x1)] (mkX M)) (aPi mkX Q) := by
  unfold w_X0_shiftAll at h
  refine aG_n 4 (s' := (4, [some (.ref 26), some (.int x1), some (.int x1), some (.int (nI 0)), none], [], mkX M)) rfl ?_
  refine aG_le (a := [some (.ref 26), none, some (.int x1), some (.int (nI 0)), none]) ⟨rfl, ⟨rfl, ⟨rfl, trivial⟩⟩⟩ ?_
  obtain ⟨n, h⟩ := h
  exact wLk_X0_shiftAll_4 n _ _ _ h
def wb_X0_ownLevels_6 (K6 : Int32 → Int32 → wM → Prop) (y1 : Int32) (y2 : Int32) (M : wM) (Q : Int32 → wM → Prop) : Prop := ((gi M 26 3) ≤ y2 → Q y1 M) ∧ (¬ (gi M 26 3) ≤ y2 → vp_in y2 6 ∧ (w_X1_lowered y2.toNatClampNeg M (fun r3 M4 => K6 (y1 &&& (r3 ^^^ (-1))) (y2 + (nI 1)) M4)))
set_option maxRecDepth 20000 in
theorem wbk_X0_ownLevels_6 {K6 : Int32 → Int32 → wM → Prop} {y1 : Int32} {y2 : Int32} {M : wM} {Q : Int32 → wM → Prop} (hK6 : ∀ (v1 : Int32) (v2 : Int32) (M : wM), K6 v1 v2 M → aG 135 (6, [some (.ref 26), some (.int v1), some (.int v2)], [], mkX M) (aPi mkX Q)) (h : wb_X0_ownLevels_6 K6 y1 y2 M Q) : aG 135 (6, [some (.ref 26), some (.int y1), some (.int y2)], [], mkX M) (aPi mkX Q) := by
  unfold wb_X0_ownLevels_6 at h
  refine aG_n 3 (s' := (11, [some (.ref 26), some (.int y1), some (.int y2)], [(.int (gi M 26 3)), (.int y2)], mkX M)) rfl ?_
  obtain ⟨h1, h2⟩ := h
  by_cases q1 : (gi M 26 3) ≤ y2
  · have h := h1 q1
    refine aG_icmp (cd := .ge) (b := true) (decide_eq_true q1) rfl ?_
    refine aG_n 1 (s' := (35, [some (.ref 26), some (.int y1), some (.int y2)], [(.int y1)], mkX M)) rfl ?_
    exact aG_ret0 rfl rfl ⟨_, _, rfl, h⟩
  · have h := h2 q1
    refine aG_icmp (cd := .ge) (b := false) (decide_eq_false q1) rfl ?_
    refine aG_n 4 (s' := (20, [some (.ref 26), some (.int y1), some (.int y2)], [(.int y2), (.ref 30), (.int y1)], mkX M)) rfl ?_
    obtain ⟨f2, h⟩ := h
    refine aG_aald rfl rfl rfl f2 (rX_30 (P := (M).2.2) (vin_lt f2)) ?_
    refine aG_n 0 (s' := (21, [some (.ref 26), some (.int y1), some (.int y2)], [(.ref (34 + 3 * y2.toNatClampNeg)), (.int y1)], mkX M)) rfl ?_
    refine aG_ivv rfl rfl (shX_chip (vin_lt f2)) rfl rfl (aG_mono (wk_X1_lowered h) ?_)
    rintro _ ⟨r3, M4, rfl, h⟩
    refine aG_n 6 (s' := (6, [some (.ref 26), some (.int (y1 &&& (r3 ^^^ (-1)))), some (.int (y2 + (nI 1)))], [], mkX M4)) rfl ?_
    refine aG_le (a := [some (.ref 26), some (.int (y1 &&& (r3 ^^^ (-1)))), some (.int (y2 + (nI 1)))]) ⟨rfl, ⟨rfl, ⟨rfl, trivial⟩⟩⟩ ?_
    exact hK6 _ _ _ h
def wL_X0_ownLevels_6 (Q : Int32 → wM → Prop) : Nat → Int32 → Int32 → wM → Prop
  | 0, _, _, _ => False
  | n + 1, y1, y2, M => wb_X0_ownLevels_6 (wL_X0_ownLevels_6 Q n) y1 y2 M Q
set_option maxRecDepth 20000 in
theorem wLk_X0_ownLevels_6 {Q : Int32 → wM → Prop} : ∀ (n : Nat) (y1 : Int32) (y2 : Int32) (M : wM), wL_X0_ownLevels_6 Q n y1 y2 M → aG 135 (6, [some (.ref 26), some (.int y1), some (.int y2)], [], mkX M) (aPi mkX Q)
  | 0, _, _, _, h => h.elim
  | n + 1, y1, y2, M, h => wbk_X0_ownLevels_6 (fun y1 y2 M h => wLk_X0_ownLevels_6 n y1 y2 M h) h
def w_X0_ownLevels (M : wM) (Q : Int32 → wM → Prop) : Prop := ∃ n, wL_X0_ownLevels_6 Q n (nI 255) (nI 0) M
set_option maxRecDepth 20000 in
theorem wk_X0_ownLevels {M : wM} {Q : Int32 → wM → Prop} (h : w_X0_ownLevels M Q) : aG 135 (aEn 135 [(.ref 26)] (mkX M)) (aPi mkX Q) := by
  unfold w_X0_ownLevels at h
  refine aG_n 4 (s' := (6, [some (.ref 26), some (.int (nI 255)), some (.int (nI 0))], [], mkX M)) rfl ?_
  refine aG_le (a := [some (.ref 26), some (.int (nI 255)), some (.int (nI 0))]) ⟨rfl, ⟨rfl, ⟨rfl, trivial⟩⟩⟩ ?_
  obtain ⟨n, h⟩ := h
  exact wLk_X0_ownLevels_6 n _ _ _ h
def wj_X0_scanTicks_14 (z1 : Int32) (z2 : Int32) (s1 : Int32) (M : wM) (Q : Int32 → wM → Prop) : Prop := w_X5_aim s1 M (fun M3 => vp_in (nI 1) 16 ∧ (w_X5_aim (nI 1) M3 (fun M6 => (z1 = (nI 0) → vp_in (nI 5) 16 ∧ (Q (((gi M3 28 (nI 1).toNatClampNeg) + z2) + (gi M6 28 (nI 5).toNatClampNeg)) M6)) ∧ (¬ z1 = (nI 0) → vp_in (nI 12) 16 ∧ (Q (((gi M3 28 (nI 1).toNatClampNeg) + z2) + (gi M6 28 (nI 12).toNatClampNeg)) M6)))))
set_option maxRecDepth 20000 in
theorem wjk_X0_scanTicks_14 {z1 : Int32} {z2 : Int32} {s1 : Int32} {M : wM} {Q : Int32 → wM → Prop} (h : wj_X0_scanTicks_14 z1 z2 s1 M Q) : aG 136 (14, [some (.ref 26), some (.int z1), some (.int z2), none], [(.int s1), (.ref 27)], mkX M) (aPi mkX Q) := by
  unfold wj_X0_scanTicks_14 at h
  refine aG_call rfl rfl (aG_mono (wk_X5_aim h) ?_)
  rintro _ ⟨M3, rfl, h⟩
  refine aG_n 4 (s' := (25, [some (.ref 26), some (.int z1), some (.int z2), none], [(.int (nI 1)), (.ref 28)], mkX M3)) rfl ?_
  obtain ⟨f4, h⟩ := h
  refine aG_iald rfl rfl rfl f4 ?_
  refine aG_n 4 (s' := (32, [some (.ref 26), some (.int z1), some (.int z2), some (.int (gi M3 28 (nI 1).toNatClampNeg))], [(.int (nI 1)), (.ref 27)], mkX M3)) rfl ?_
  refine aG_call rfl rfl (aG_mono (wk_X5_aim h) ?_)
  rintro _ ⟨M6, rfl, h⟩
  refine aG_n 7 (s' := (46, [some (.ref 26), some (.int z1), some (.int z2), some (.int (gi M3 28 (nI 1).toNatClampNeg))], [(.int z1), (.ref 28), (.int ((gi M3 28 (nI 1).toNatClampNeg) + z2))], mkX M6)) rfl ?_
  obtain ⟨h1, h2⟩ := h
  by_cases q7 : z1 = (nI 0)
  · have h := h1 q7
    refine aG_if (cd := .eq) (b := true) (decide_eq_true q7) rfl ?_
    refine aG_n 1 (s' := (55, [some (.ref 26), some (.int z1), some (.int z2), some (.int (gi M3 28 (nI 1).toNatClampNeg))], [(.int (nI 5)), (.ref 28), (.int ((gi M3 28 (nI 1).toNatClampNeg) + z2))], mkX M6)) rfl ?_
    obtain ⟨f8, h⟩ := h
    refine aG_iald rfl rfl rfl f8 ?_
    refine aG_n 1 (s' := (57, [some (.ref 26), some (.int z1), some (.int z2), some (.int (gi M3 28 (nI 1).toNatClampNeg))], [(.int (((gi M3 28 (nI 1).toNatClampNeg) + z2) + (gi M6 28 (nI 5).toNatClampNeg)))], mkX M6)) rfl ?_
    exact aG_ret0 rfl rfl ⟨_, _, rfl, h⟩
  · have h := h2 q7
    refine aG_if (cd := .eq) (b := false) (decide_eq_false q7) rfl ?_
    refine aG_n 2 (s' := (55, [some (.ref 26), some (.int z1), some (.int z2), some (.int (gi M3 28 (nI 1).toNatClampNeg))], [(.int (nI 12)), (.ref 28), (.int ((gi M3 28 (nI 1).toNatClampNeg) + z2))], mkX M6)) rfl ?_
    obtain ⟨f9, h⟩ := h
    refine aG_iald rfl rfl rfl f9 ?_
    refine aG_n 1 (s' := (57, [some (.ref 26), some (.int z1), some (.int z2), some (.int (gi M3 28 (nI 1).toNatClampNeg))], [(.int (((gi M3 28 (nI 1).toNatClampNeg) + z2) + (gi M6 28 (nI 12).toNatClampNeg)))], mkX M6)) rfl ?_
    exact aG_ret0 rfl rfl ⟨_, _, rfl, h⟩
def w_X0_scanTicks (x1 : Int32) (x2 : Int32) (M : wM) (Q : Int32 → wM → Prop) : Prop := (x1 = (nI 0) → wj_X0_scanTicks_14 x1 x2 (nI 4) M Q) ∧ (¬ x1 = (nI 0) → wj_X0_scanTicks_14 x1 x2 (nI 11) M Q)
set_option maxRecDepth 20000 in
theorem wk_X0_scanTicks {x1 : Int32} {x2 : Int32} {M : wM} {Q : Int32 → wM → Prop} (h : w_X0_scanTicks x1 x2 M Q) : aG 136 (aEn 136 [(.ref 26), (.int x1), (.int x2)] (mkX M)) (aPi mkX Q) := by
  unfold w_X0_scanTicks at h
  refine aG_n 3 (s' := (5, [some (.ref 26), some (.int x1), some (.int x2), none], [(.int x1), (.ref 27)], mkX M)) rfl ?_
  obtain ⟨h1, h2⟩ := h
  by_cases q1 : x1 = (nI 0)
  · have h := h1 q1
    refine aG_if (cd := .eq) (b := true) (decide_eq_true q1) rfl ?_
    refine aG_n 1 (s' := (14, [some (.ref 26), some (.int x1), some (.int x2), none], [(.int (nI 4)), (.ref 27)], mkX M)) rfl ?_
    refine aG_le (a := [some (.ref 26), some (.int x1), some (.int x2), none]) ⟨rfl, ⟨rfl, ⟨rfl, trivial⟩⟩⟩ ?_
    exact wjk_X0_scanTicks_14 h
  · have h := h2 q1
    refine aG_if (cd := .eq) (b := false) (decide_eq_false q1) rfl ?_
    refine aG_n 2 (s' := (14, [some (.ref 26), some (.int x1), some (.int x2), none], [(.int (nI 11)), (.ref 27)], mkX M)) rfl ?_
    refine aG_le (a := [some (.ref 26), some (.int x1), some (.int x2), none]) ⟨rfl, ⟨rfl, ⟨rfl, trivial⟩⟩⟩ ?_
    exact wjk_X0_scanTicks_14 h
def w_X1_act (c : Nat) (x1 : Int32) (x2 : Int32) (M : wM) (Q : wM → Prop) : Prop := c < 6 ∧ ((x1 = nI 0 → ptX (gp M c) ∧ (w_X4_firstOrder (gp M c) M (fun r3 M4 => Q (si M4 (34 + 3 * c) 2 r3)))) ∧ (¬ x1 = nI 0 → (x1 = nI 3 → w_X1_registerPlace c M (fun r6 M7 => w_X1_hasCells c M7 (fun r8 M9 => (r8 = (nI 0) → w_X1_constant c M9 (fun r11 M12 => vp_in r6 3 ∧ (Q (si M12 (35 + 3 * c) r6.toNatClampNeg r11)))) ∧ (¬ r8 = (nI 0) → w_X1_feet c x2 M9 (fun r14 M15 => vp_in r6 3 ∧ (Q (si M15 (35 + 3 * c) r6.toNatClampNeg r14))))))) ∧ (¬ x1 = nI 3 → (x1 = nI 8 → w_X1_hasCells c M (fun r18 M19 => (r18 = (nI 0) → Q (si M19 (34 + 3 * c) 4 (gi M19 (34 + 3 * c) 4))) ∧ (¬ r18 = (nI 0) → vp_in (nI 2) 3 ∧ (ptX (gp M19 c) ∧ (Q (si M19 (34 + 3 * c) 4 ((gi M19 (35 + 3 * c) (nI 2).toNatClampNeg) &&& (gi M19 (gp M19 c) 5)))))))) ∧ (¬ x1 = nI 8 → (x1 = nI 10 → Q (si M (34 + 3 * c) 3 (nI 1))) ∧ (¬ x1 = nI 10 → (x1 = nI 15 → ptX (gp M c) ∧ (w_X4_orderOf (gp M c) (gi M (34 + 3 * c) 3) M (fun r26 M27 => Q (si M27 (34 + 3 * c) 2 r26)))) ∧ (¬ x1 = nI 15 → Q M))))))
set_option maxRecDepth 20000 in
theorem wk_X1_act {c : Nat} {x1 : Int32} {x2 : Int32} {M : wM} {Q : wM → Prop} (h : w_X1_act c x1 x2 M Q) : aG 137 (aEn 137 [(.ref (34 + 3 * c)), (.int x1), (.int x2)] (mkX M)) (aPv mkX Q) := by
  unfold w_X1_act at h
  obtain ⟨hc, h⟩ := h
  refine aG_n 1 (s' := (1, [some (.ref (34 + 3 * c)), some (.int x1), some (.int x2)], [(.int x1)], mkX M)) rfl ?_
  obtain ⟨h1, h⟩ := h
  by_cases q1 : x1 = nI 0
  · have h := h1 q1
    refine aG_lks rfl (by rw [q1] <;> rfl) ?_
    refine aG_n 2 (s' := (54, [some (.ref (34 + 3 * c)), some (.int x1), some (.int x2)], [(.ref (34 + 3 * c)), (.ref (34 + 3 * c))], mkX M)) rfl ?_
    refine aG_getR rfl (shX_chip hc) rfl rfl (rX_part (P := (M).2.2) hc) ?_
    obtain ⟨f2, h⟩ := h
    refine aG_n 0 (s' := (57, [some (.ref (34 + 3 * c)), some (.int x1), some (.int x2)], [(.ref (gp M c)), (.ref (34 + 3 * c))], mkX M)) rfl ?_
    refine aG_ivv rfl rfl f2 rfl rfl (aG_mono (wk_X4_firstOrder h) ?_)
    rintro _ ⟨r3, M4, rfl, h⟩
    refine aG_n 0 (s' := (60, [some (.ref (34 + 3 * c)), some (.int x1), some (.int x2)], [(.int r3), (.ref (34 + 3 * c))], mkX M4)) rfl ?_
    refine aG_put rfl (shX_chip hc) rfl rfl ?_
    refine aG_n 1 (s' := (158, [some (.ref (34 + 3 * c)), some (.int x1), some (.int x2)], [], mkX (si M4 (34 + 3 * c) 2 r3))) rfl ?_
    exact aG_retV rfl rfl ⟨_, rfl, h⟩
  have h := h q1
  obtain ⟨h1, h⟩ := h
  by_cases q5 : x1 = nI 3
  · have h := h1 q5
    refine aG_lks rfl (by rw [q5] <;> rfl) ?_
    refine aG_n 1 (s' := (93, [some (.ref (34 + 3 * c)), some (.int x1), some (.int x2)], [(.ref (34 + 3 * c))], mkX M)) rfl ?_
    refine aG_getR rfl (shX_chip hc) rfl rfl (rX_reg (P := (M).2.2) hc) ?_
    refine aG_n 1 (s' := (97, [some (.ref (34 + 3 * c)), some (.int x1), some (.int x2)], [(.ref (34 + 3 * c)), (.ref (35 + 3 * c))], mkX M)) rfl ?_
    refine aG_ivv rfl rfl (shX_chip hc) rfl rfl (aG_mono (wk_X1_registerPlace h) ?_)
    rintro _ ⟨r6, M7, rfl, h⟩
    refine aG_n 1 (s' := (101, [some (.ref (34 + 3 * c)), some (.int x1), some (.int x2)], [(.ref (34 + 3 * c)), (.int r6), (.ref (35 + 3 * c))], mkX M7)) rfl ?_
    refine aG_ivv rfl rfl (shX_chip hc) rfl rfl (aG_mono (wk_X1_hasCells h) ?_)
    rintro _ ⟨r8, M9, rfl, h⟩
    refine aG_n 0 (s' := (104, [some (.ref (34 + 3 * c)), some (.int x1), some (.int x2)], [(.int r8), (.int r6), (.ref (35 + 3 * c))], mkX M9)) rfl ?_
    obtain ⟨h1, h2⟩ := h
    by_cases q10 : r8 = (nI 0)
    · have h := h1 q10
      refine aG_if (cd := .eq) (b := true) (decide_eq_true q10) rfl ?_
      refine aG_n 1 (s' := (116, [some (.ref (34 + 3 * c)), some (.int x1), some (.int x2)], [(.ref (34 + 3 * c)), (.int r6), (.ref (35 + 3 * c))], mkX M9)) rfl ?_
      refine aG_ivv rfl rfl (shX_chip hc) rfl rfl (aG_mono (wk_X1_constant h) ?_)
      rintro _ ⟨r11, M12, rfl, h⟩
      refine aG_n 0 (s' := (119, [some (.ref (34 + 3 * c)), some (.int x1), some (.int x2)], [(.int r11), (.int r6), (.ref (35 + 3 * c))], mkX M12)) rfl ?_
      obtain ⟨f13, h⟩ := h
      refine aG_iast rfl (shX_reg hc) f13 ?_
      refine aG_n 1 (s' := (158, [some (.ref (34 + 3 * c)), some (.int x1), some (.int x2)], [], mkX (si M12 (35 + 3 * c) r6.toNatClampNeg r11))) rfl ?_
      exact aG_retV rfl rfl ⟨_, rfl, h⟩
    · have h := h2 q10
      refine aG_if (cd := .eq) (b := false) (decide_eq_false q10) rfl ?_
      refine aG_n 2 (s' := (109, [some (.ref (34 + 3 * c)), some (.int x1), some (.int x2)], [(.int x2), (.ref (34 + 3 * c)), (.int r6), (.ref (35 + 3 * c))], mkX M9)) rfl ?_
      refine aG_ivv rfl rfl (shX_chip hc) rfl rfl (aG_mono (wk_X1_feet h) ?_)
      rintro _ ⟨r14, M15, rfl, h⟩
      refine aG_n 1 (s' := (119, [some (.ref (34 + 3 * c)), some (.int x1), some (.int x2)], [(.int r14), (.int r6), (.ref (35 + 3 * c))], mkX M15)) rfl ?_
      obtain ⟨f16, h⟩ := h
      refine aG_iast rfl (shX_reg hc) f16 ?_
      refine aG_n 1 (s' := (158, [some (.ref (34 + 3 * c)), some (.int x1), some (.int x2)], [], mkX (si M15 (35 + 3 * c) r6.toNatClampNeg r14))) rfl ?_
      exact aG_retV rfl rfl ⟨_, rfl, h⟩
  have h := h q5
  obtain ⟨h1, h⟩ := h
  by_cases q17 : x1 = nI 8
  · have h := h1 q17
    refine aG_lks rfl (by rw [q17] <;> rfl) ?_
    refine aG_n 2 (s' := (125, [some (.ref (34 + 3 * c)), some (.int x1), some (.int x2)], [(.ref (34 + 3 * c)), (.ref (34 + 3 * c))], mkX M)) rfl ?_
    refine aG_ivv rfl rfl (shX_chip hc) rfl rfl (aG_mono (wk_X1_hasCells h) ?_)
    rintro _ ⟨r18, M19, rfl, h⟩
    refine aG_n 0 (s' := (128, [some (.ref (34 + 3 * c)), some (.int x1), some (.int x2)], [(.int r18), (.ref (34 + 3 * c))], mkX M19)) rfl ?_
    obtain ⟨h1, h2⟩ := h
    by_cases q20 : r18 = (nI 0)
    · have h := h1 q20
      refine aG_if (cd := .eq) (b := true) (decide_eq_true q20) rfl ?_
      refine aG_n 1 (s' := (149, [some (.ref (34 + 3 * c)), some (.int x1), some (.int x2)], [(.ref (34 + 3 * c)), (.ref (34 + 3 * c))], mkX M19)) rfl ?_
      refine aG_get rfl (shX_chip hc) rfl rfl ?_
      refine aG_n 0 (s' := (152, [some (.ref (34 + 3 * c)), some (.int x1), some (.int x2)], [(.int (gi M19 (34 + 3 * c) 4)), (.ref (34 + 3 * c))], mkX M19)) rfl ?_
      refine aG_put rfl (shX_chip hc) rfl rfl ?_
      refine aG_n 1 (s' := (158, [some (.ref (34 + 3 * c)), some (.int x1), some (.int x2)], [], mkX (si M19 (34 + 3 * c) 4 (gi M19 (34 + 3 * c) 4)))) rfl ?_
      exact aG_retV rfl rfl ⟨_, rfl, h⟩
    · have h := h2 q20
      refine aG_if (cd := .eq) (b := false) (decide_eq_false q20) rfl ?_
      refine aG_n 1 (s' := (132, [some (.ref (34 + 3 * c)), some (.int x1), some (.int x2)], [(.ref (34 + 3 * c)), (.ref (34 + 3 * c))], mkX M19)) rfl ?_
      refine aG_getR rfl (shX_chip hc) rfl rfl (rX_reg (P := (M19).2.2) hc) ?_
      refine aG_n 1 (s' := (136, [some (.ref (34 + 3 * c)), some (.int x1), some (.int x2)], [(.int (nI 2)), (.ref (35 + 3 * c)), (.ref (34 + 3 * c))], mkX M19)) rfl ?_
      obtain ⟨f21, h⟩ := h
      refine aG_iald rfl (shX_reg hc) rfl f21 ?_
      refine aG_n 1 (s' := (138, [some (.ref (34 + 3 * c)), some (.int x1), some (.int x2)], [(.ref (34 + 3 * c)), (.int (gi M19 (35 + 3 * c) (nI 2).toNatClampNeg)), (.ref (34 + 3 * c))], mkX M19)) rfl ?_
      refine aG_getR rfl (shX_chip hc) rfl rfl (rX_part (P := (M19).2.2) hc) ?_
      obtain ⟨f22, h⟩ := h
      refine aG_n 0 (s' := (141, [some (.ref (34 + 3 * c)), some (.int x1), some (.int x2)], [(.ref (gp M19 c)), (.int (gi M19 (35 + 3 * c) (nI 2).toNatClampNeg)), (.ref (34 + 3 * c))], mkX M19)) rfl ?_
      refine aG_get rfl f22 rfl rfl ?_
      refine aG_n 2 (s' := (152, [some (.ref (34 + 3 * c)), some (.int x1), some (.int x2)], [(.int ((gi M19 (35 + 3 * c) (nI 2).toNatClampNeg) &&& (gi M19 (gp M19 c) 5))), (.ref (34 + 3 * c))], mkX M19)) rfl ?_
      refine aG_put rfl (shX_chip hc) rfl rfl ?_
      refine aG_n 1 (s' := (158, [some (.ref (34 + 3 * c)), some (.int x1), some (.int x2)], [], mkX (si M19 (34 + 3 * c) 4 ((gi M19 (35 + 3 * c) (nI 2).toNatClampNeg) &&& (gi M19 (gp M19 c) 5))))) rfl ?_
      exact aG_retV rfl rfl ⟨_, rfl, h⟩
  have h := h q17
  obtain ⟨h1, h⟩ := h
  by_cases q23 : x1 = nI 10
  · have h := h1 q23
    refine aG_lks rfl (by rw [q23] <;> rfl) ?_
    refine aG_n 2 (s' := (68, [some (.ref (34 + 3 * c)), some (.int x1), some (.int x2)], [(.int (nI 1)), (.ref (34 + 3 * c))], mkX M)) rfl ?_
    refine aG_put rfl (shX_chip hc) rfl rfl ?_
    refine aG_n 1 (s' := (158, [some (.ref (34 + 3 * c)), some (.int x1), some (.int x2)], [], mkX (si M (34 + 3 * c) 3 (nI 1)))) rfl ?_
    exact aG_retV rfl rfl ⟨_, rfl, h⟩
  have h := h q23
  obtain ⟨h1, h⟩ := h
  by_cases q24 : x1 = nI 15
  · have h := h1 q24
    refine aG_lks rfl (by rw [q24] <;> rfl) ?_
    refine aG_n 2 (s' := (76, [some (.ref (34 + 3 * c)), some (.int x1), some (.int x2)], [(.ref (34 + 3 * c)), (.ref (34 + 3 * c))], mkX M)) rfl ?_
    refine aG_getR rfl (shX_chip hc) rfl rfl (rX_part (P := (M).2.2) hc) ?_
    obtain ⟨f25, h⟩ := h
    refine aG_n 1 (s' := (80, [some (.ref (34 + 3 * c)), some (.int x1), some (.int x2)], [(.ref (34 + 3 * c)), (.ref (gp M c)), (.ref (34 + 3 * c))], mkX M)) rfl ?_
    refine aG_get rfl (shX_chip hc) rfl rfl ?_
    refine aG_n 0 (s' := (83, [some (.ref (34 + 3 * c)), some (.int x1), some (.int x2)], [(.int (gi M (34 + 3 * c) 3)), (.ref (gp M c)), (.ref (34 + 3 * c))], mkX M)) rfl ?_
    refine aG_ivv rfl rfl f25 rfl rfl (aG_mono (wk_X4_orderOf h) ?_)
    rintro _ ⟨r26, M27, rfl, h⟩
    refine aG_n 0 (s' := (86, [some (.ref (34 + 3 * c)), some (.int x1), some (.int x2)], [(.int r26), (.ref (34 + 3 * c))], mkX M27)) rfl ?_
    refine aG_put rfl (shX_chip hc) rfl rfl ?_
    refine aG_n 1 (s' := (158, [some (.ref (34 + 3 * c)), some (.int x1), some (.int x2)], [], mkX (si M27 (34 + 3 * c) 2 r26))) rfl ?_
    exact aG_retV rfl rfl ⟨_, rfl, h⟩
  have h := h q24
  refine aG_lks rfl (lks_out (fun q hq => ?_)) ?_
  · simp only [List.mem_cons, List.not_mem_nil, or_false] at hq
    rcases hq with rfl | rfl | rfl | rfl | rfl <;> exact ⟨by decide, by decide, by assumption⟩
  refine aG_n 0 (s' := (158, [some (.ref (34 + 3 * c)), some (.int x1), some (.int x2)], [], mkX M)) rfl ?_
  exact aG_retV rfl rfl ⟨_, rfl, h⟩
def wb_X3_regroup_91 (K91 : Int32 → wM → Prop) (y1 : Int32) (M : wM) (Q : wM → Prop) : Prop := ((gi M 12 0) ≤ y1 → Q M) ∧ (¬ (gi M 12 0) ≤ y1 → w_X3_leastOf y1 M (fun r4 M5 => (r4 = y1 → vp_in y1 8 ∧ (vp_in y1 8 ∧ (w_X3_ruleOf (gi M5 24 y1.toNatClampNeg) M5 (fun r9 M10 => w_X2_of (gi M5 24 y1.toNatClampNeg) r9 M10 (fun r11 M12 => vp_in y1 8 ∧ (K91 (y1 + (nI 1)) (si M12 25 y1.toNatClampNeg r11))))))) ∧ (¬ r4 = y1 → vp_in y1 8 ∧ (K91 (y1 + (nI 1)) (si M5 25 y1.toNatClampNeg (nI 0))))))
set_option maxRecDepth 20000 in
theorem wbk_X3_regroup_91 {K91 : Int32 → wM → Prop} {y1 : Int32} {M : wM} {Q : wM → Prop} (hK91 : ∀ (v1 : Int32) (M : wM), K91 v1 M → aG 138 (91, [some (.ref 12), some (.int v1), none], [], mkX M) (aPv mkX Q)) (h : wb_X3_regroup_91 K91 y1 M Q) : aG 138 (91, [some (.ref 12), some (.int y1), none], [], mkX M) (aPv mkX Q) := by
  unfold wb_X3_regroup_91 at h
  refine aG_n 3 (s' := (96, [some (.ref 12), some (.int y1), none], [(.int (gi M 12 0)), (.int y1)], mkX M)) rfl ?_
  obtain ⟨h1, h2⟩ := h
  by_cases q3 : (gi M 12 0) ≤ y1
  · have h := h1 q3
    refine aG_icmp (cd := .ge) (b := true) (decide_eq_true q3) rfl ?_
    refine aG_n 0 (s' := (143, [some (.ref 12), some (.int y1), none], [], mkX M)) rfl ?_
    exact aG_retV rfl rfl ⟨_, rfl, h⟩
  · have h := h2 q3
    refine aG_icmp (cd := .ge) (b := false) (decide_eq_false q3) rfl ?_
    refine aG_n 5 (s' := (106, [some (.ref 12), some (.int y1), none], [(.int y1), (.ref 12), (.int y1), (.ref 25)], mkX M)) rfl ?_
    refine aG_call rfl rfl (aG_mono (wk_X3_leastOf h) ?_)
    rintro _ ⟨r4, M5, rfl, h⟩
    refine aG_n 1 (s' := (110, [some (.ref 12), some (.int y1), none], [(.int y1), (.int r4), (.int y1), (.ref 25)], mkX M5)) rfl ?_
    obtain ⟨h1, h2⟩ := h
    by_cases q6 : r4 = y1
    · have h := h1 q6
      refine aG_icmp (cd := .ne) (b := false) (aTne0 q6) rfl ?_
      refine aG_n 3 (s' := (118, [some (.ref 12), some (.int y1), none], [(.int y1), (.ref 24), (.int y1), (.ref 25)], mkX M5)) rfl ?_
      obtain ⟨f7, h⟩ := h
      refine aG_iald rfl rfl rfl f7 ?_
      refine aG_n 4 (s' := (125, [some (.ref 12), some (.int y1), none], [(.int y1), (.ref 24), (.ref 12), (.int (gi M5 24 y1.toNatClampNeg)), (.int y1), (.ref 25)], mkX M5)) rfl ?_
      obtain ⟨f8, h⟩ := h
      refine aG_iald rfl rfl rfl f8 ?_
      refine aG_n 0 (s' := (126, [some (.ref 12), some (.int y1), none], [(.int (gi M5 24 y1.toNatClampNeg)), (.ref 12), (.int (gi M5 24 y1.toNatClampNeg)), (.int y1), (.ref 25)], mkX M5)) rfl ?_
      refine aG_call rfl rfl (aG_mono (wk_X3_ruleOf h) ?_)
      rintro _ ⟨r9, M10, rfl, h⟩
      refine aG_n 0 (s' := (129, [some (.ref 12), some (.int y1), none], [(.int r9), (.int (gi M5 24 y1.toNatClampNeg)), (.int y1), (.ref 25)], mkX M10)) rfl ?_
      refine aG_call rfl rfl (aG_mono (wk_X2_of h) ?_)
      rintro _ ⟨r11, M12, rfl, h⟩
      refine aG_n 1 (s' := (136, [some (.ref 12), some (.int y1), none], [(.int r11), (.int y1), (.ref 25)], mkX M12)) rfl ?_
      obtain ⟨f13, h⟩ := h
      refine aG_iast rfl rfl f13 ?_
      refine aG_n 2 (s' := (91, [some (.ref 12), some (.int (y1 + (nI 1))), none], [], mkX (si M12 25 y1.toNatClampNeg r11))) rfl ?_
      refine aG_le (a := [some (.ref 12), some (.int (y1 + (nI 1))), none]) ⟨rfl, ⟨rfl, trivial⟩⟩ ?_
      exact hK91 _ _ h
    · have h := h2 q6
      refine aG_icmp (cd := .ne) (b := true) (aTne1 q6) rfl ?_
      refine aG_n 1 (s' := (136, [some (.ref 12), some (.int y1), none], [(.int (nI 0)), (.int y1), (.ref 25)], mkX M5)) rfl ?_
      obtain ⟨f14, h⟩ := h
      refine aG_iast rfl rfl f14 ?_
      refine aG_n 2 (s' := (91, [some (.ref 12), some (.int (y1 + (nI 1))), none], [], mkX (si M5 25 y1.toNatClampNeg (nI 0)))) rfl ?_
      refine aG_le (a := [some (.ref 12), some (.int (y1 + (nI 1))), none]) ⟨rfl, ⟨rfl, trivial⟩⟩ ?_
      exact hK91 _ _ h
def wL_X3_regroup_91 (Q : wM → Prop) : Nat → Int32 → wM → Prop
  | 0, _, _ => False
  | n + 1, y1, M => wb_X3_regroup_91 (wL_X3_regroup_91 Q n) y1 M Q
set_option maxRecDepth 20000 in
theorem wLk_X3_regroup_91 {Q : wM → Prop} : ∀ (n : Nat) (y1 : Int32) (M : wM), wL_X3_regroup_91 Q n y1 M → aG 138 (91, [some (.ref 12), some (.int y1), none], [], mkX M) (aPv mkX Q)
  | 0, _, _, h => h.elim
  | n + 1, y1, M, h => wbk_X3_regroup_91 (fun y1 M h => wLk_X3_regroup_91 n y1 M h) h
def wb_X3_regroup_39 (z1 : Int32) (K27 : Int32 → wM → Prop) (K39 : Int32 → wM → Prop) (y2 : Int32) (M : wM) (Q : wM → Prop) : Prop := ((gi M 12 0) ≤ y2 → K27 (z1 + (nI 1)) M) ∧ (¬ (gi M 12 0) ≤ y2 → vp_in z1 8 ∧ (vp_in y2 8 ∧ (((gi M (16 + z1.toNatClampNeg) y2.toNatClampNeg) = (-4) → K39 (y2 + (nI 1)) M) ∧ (¬ (gi M (16 + z1.toNatClampNeg) y2.toNatClampNeg) = (-4) → vp_in z1 8 ∧ (vp_in y2 8 ∧ (w_X3_unite ((gi M 24 z1.toNatClampNeg) ||| (gi M 24 y2.toNatClampNeg)) M (fun M22 => K39 (y2 + (nI 1)) M22)))))))
set_option maxRecDepth 20000 in
theorem wbk_X3_regroup_39 {z1 : Int32} {K27 : Int32 → wM → Prop} {K39 : Int32 → wM → Prop} {y2 : Int32} {M : wM} {Q : wM → Prop} (hK27 : ∀ (v1 : Int32) (M : wM), K27 v1 M → aG 138 (27, [some (.ref 12), some (.int v1), none], [], mkX M) (aPv mkX Q)) (hK39 : ∀ (v2 : Int32) (M : wM), K39 v2 M → aG 138 (39, [some (.ref 12), some (.int z1), some (.int v2)], [], mkX M) (aPv mkX Q)) (h : wb_X3_regroup_39 z1 K27 K39 y2 M Q) : aG 138 (39, [some (.ref 12), some (.int z1), some (.int y2)], [], mkX M) (aPv mkX Q) := by
  unfold wb_X3_regroup_39 at h
  refine aG_n 3 (s' := (44, [some (.ref 12), some (.int z1), some (.int y2)], [(.int (gi M 12 0)), (.int y2)], mkX M)) rfl ?_
  obtain ⟨h1, h2⟩ := h
  by_cases q15 : (gi M 12 0) ≤ y2
  · have h := h1 q15
    refine aG_icmp (cd := .ge) (b := true) (decide_eq_true q15) rfl ?_
    refine aG_n 2 (s' := (27, [some (.ref 12), some (.int (z1 + (nI 1))), some (.int y2)], [], mkX M)) rfl ?_
    refine aG_le (a := [some (.ref 12), some (.int (z1 + (nI 1))), none]) ⟨rfl, ⟨rfl, trivial⟩⟩ ?_
    exact hK27 _ _ h
  · have h := h2 q15
    refine aG_icmp (cd := .ge) (b := false) (decide_eq_false q15) rfl ?_
    refine aG_n 3 (s' := (52, [some (.ref 12), some (.int z1), some (.int y2)], [(.int z1), (.ref 15)], mkX M)) rfl ?_
    obtain ⟨f16, h⟩ := h
    refine aG_aald rfl rfl rfl f16 (rX_15 (P := (M).2.2) (vin_lt f16)) ?_
    refine aG_n 1 (s' := (54, [some (.ref 12), some (.int z1), some (.int y2)], [(.int y2), (.ref (16 + z1.toNatClampNeg))], mkX M)) rfl ?_
    obtain ⟨f17, h⟩ := h
    refine aG_iald rfl (shX_row (vin_lt f16)) rfl f17 ?_
    refine aG_n 1 (s' := (57, [some (.ref 12), some (.int z1), some (.int y2)], [(.int (-4)), (.int (gi M (16 + z1.toNatClampNeg) y2.toNatClampNeg))], mkX M)) rfl ?_
    obtain ⟨h1, h2⟩ := h
    by_cases q18 : (gi M (16 + z1.toNatClampNeg) y2.toNatClampNeg) = (-4)
    · have h := h1 q18
      refine aG_icmp (cd := .eq) (b := true) (decide_eq_true q18) rfl ?_
      refine aG_n 2 (s' := (39, [some (.ref 12), some (.int z1), some (.int (y2 + (nI 1)))], [], mkX M)) rfl ?_
      refine aG_le (a := [some (.ref 12), some (.int z1), some (.int (y2 + (nI 1)))]) ⟨rfl, ⟨rfl, ⟨rfl, trivial⟩⟩⟩ ?_
      exact hK39 _ _ h
    · have h := h2 q18
      refine aG_icmp (cd := .eq) (b := false) (decide_eq_false q18) rfl ?_
      refine aG_n 4 (s' := (66, [some (.ref 12), some (.int z1), some (.int y2)], [(.int z1), (.ref 24), (.ref 12)], mkX M)) rfl ?_
      obtain ⟨f19, h⟩ := h
      refine aG_iald rfl rfl rfl f19 ?_
      refine aG_n 3 (s' := (72, [some (.ref 12), some (.int z1), some (.int y2)], [(.int y2), (.ref 24), (.int (gi M 24 z1.toNatClampNeg)), (.ref 12)], mkX M)) rfl ?_
      obtain ⟨f20, h⟩ := h
      refine aG_iald rfl rfl rfl f20 ?_
      refine aG_n 1 (s' := (74, [some (.ref 12), some (.int z1), some (.int y2)], [(.int ((gi M 24 z1.toNatClampNeg) ||| (gi M 24 y2.toNatClampNeg))), (.ref 12)], mkX M)) rfl ?_
      refine aG_call rfl rfl (aG_mono (wk_X3_unite h) ?_)
      rintro _ ⟨M22, rfl, h⟩
      refine aG_n 2 (s' := (39, [some (.ref 12), some (.int z1), some (.int (y2 + (nI 1)))], [], mkX M22)) rfl ?_
      refine aG_le (a := [some (.ref 12), some (.int z1), some (.int (y2 + (nI 1)))]) ⟨rfl, ⟨rfl, ⟨rfl, trivial⟩⟩⟩ ?_
      exact hK39 _ _ h
def wL_X3_regroup_39 (z1 : Int32) (K27 : Int32 → wM → Prop) (Q : wM → Prop) : Nat → Int32 → wM → Prop
  | 0, _, _ => False
  | n + 1, y2, M => wb_X3_regroup_39 z1 K27 (wL_X3_regroup_39 z1 K27 Q n) y2 M Q
set_option maxRecDepth 20000 in
theorem wLk_X3_regroup_39 {z1 : Int32} {K27 : Int32 → wM → Prop} {Q : wM → Prop} (hK27 : ∀ (v1 : Int32) (M : wM), K27 v1 M → aG 138 (27, [some (.ref 12), some (.int v1), none], [], mkX M) (aPv mkX Q)) : ∀ (n : Nat) (y2 : Int32) (M : wM), wL_X3_regroup_39 z1 K27 Q n y2 M → aG 138 (39, [some (.ref 12), some (.int z1), some (.int y2)], [], mkX M) (aPv mkX Q)
  | 0, _, _, h => h.elim
  | n + 1, y2, M, h => wbk_X3_regroup_39 hK27 (fun y2 M h => wLk_X3_regroup_39 hK27 n y2 M h) h
def wb_X3_regroup_27 (K27 : Int32 → wM → Prop) (y1 : Int32) (M : wM) (Q : wM → Prop) : Prop := ((gi M 12 0) ≤ y1 → ∃ n, wL_X3_regroup_91 Q n (nI 0) M) ∧ (¬ (gi M 12 0) ≤ y1 → ∃ n, wL_X3_regroup_39 y1 K27 Q n (y1 + (nI 1)) M)
set_option maxRecDepth 20000 in
theorem wbk_X3_regroup_27 {K27 : Int32 → wM → Prop} {y1 : Int32} {M : wM} {Q : wM → Prop} (hK27 : ∀ (v1 : Int32) (M : wM), K27 v1 M → aG 138 (27, [some (.ref 12), some (.int v1), none], [], mkX M) (aPv mkX Q)) (h : wb_X3_regroup_27 K27 y1 M Q) : aG 138 (27, [some (.ref 12), some (.int y1), none], [], mkX M) (aPv mkX Q) := by
  unfold wb_X3_regroup_27 at h
  refine aG_n 3 (s' := (32, [some (.ref 12), some (.int y1), none], [(.int (gi M 12 0)), (.int y1)], mkX M)) rfl ?_
  obtain ⟨h1, h2⟩ := h
  by_cases q2 : (gi M 12 0) ≤ y1
  · have h := h1 q2
    refine aG_icmp (cd := .ge) (b := true) (decide_eq_true q2) rfl ?_
    refine aG_n 2 (s' := (91, [some (.ref 12), some (.int (nI 0)), none], [], mkX M)) rfl ?_
    refine aG_le (a := [some (.ref 12), some (.int (nI 0)), none]) ⟨rfl, ⟨rfl, trivial⟩⟩ ?_
    obtain ⟨n, h⟩ := h
    exact wLk_X3_regroup_91 n _ _ h
  · have h := h2 q2
    refine aG_icmp (cd := .ge) (b := false) (decide_eq_false q2) rfl ?_
    refine aG_n 4 (s' := (39, [some (.ref 12), some (.int y1), some (.int (y1 + (nI 1)))], [], mkX M)) rfl ?_
    refine aG_le (a := [some (.ref 12), some (.int y1), some (.int (y1 + (nI 1)))]) ⟨rfl, ⟨rfl, ⟨rfl, trivial⟩⟩⟩ ?_
    obtain ⟨n, h⟩ := h
    exact wLk_X3_regroup_39 hK27 n _ _ h
def wL_X3_regroup_27 (Q : wM → Prop) : Nat → Int32 → wM → Prop
  | 0, _, _ => False
  | n + 1, y1, M => wb_X3_regroup_27 (wL_X3_regroup_27 Q n) y1 M Q
set_option maxRecDepth 20000 in
theorem wLk_X3_regroup_27 {Q : wM → Prop} : ∀ (n : Nat) (y1 : Int32) (M : wM), wL_X3_regroup_27 Q n y1 M → aG 138 (27, [some (.ref 12), some (.int y1), none], [], mkX M) (aPv mkX Q)
  | 0, _, _, h => h.elim
  | n + 1, y1, M, h => wbk_X3_regroup_27 (fun y1 M h => wLk_X3_regroup_27 n y1 M h) h
def wb_X3_regroup_2 (K2 : Int32 → wM → Prop) (y1 : Int32) (M : wM) (Q : wM → Prop) : Prop := ((gi M 12 0) ≤ y1 → ∃ n, wL_X3_regroup_27 Q n (nI 0) M) ∧ (¬ (gi M 12 0) ≤ y1 → vp_in y1 8 ∧ (K2 (y1 + (nI 1)) (si M 24 y1.toNatClampNeg (jshl (nI 1) y1))))
set_option maxRecDepth 20000 in
theorem wbk_X3_regroup_2 {K2 : Int32 → wM → Prop} {y1 : Int32} {M : wM} {Q : wM → Prop} (hK2 : ∀ (v1 : Int32) (M : wM), K2 v1 M → aG 138 (2, [some (.ref 12), some (.int v1), none], [], mkX M) (aPv mkX Q)) (h : wb_X3_regroup_2 K2 y1 M Q) : aG 138 (2, [some (.ref 12), some (.int y1), none], [], mkX M) (aPv mkX Q) := by
  unfold wb_X3_regroup_2 at h
  refine aG_n 3 (s' := (7, [some (.ref 12), some (.int y1), none], [(.int (gi M 12 0)), (.int y1)], mkX M)) rfl ?_
  obtain ⟨h1, h2⟩ := h
  by_cases q1 : (gi M 12 0) ≤ y1
  · have h := h1 q1
    refine aG_icmp (cd := .ge) (b := true) (decide_eq_true q1) rfl ?_
    refine aG_n 2 (s' := (27, [some (.ref 12), some (.int (nI 0)), none], [], mkX M)) rfl ?_
    refine aG_le (a := [some (.ref 12), some (.int (nI 0)), none]) ⟨rfl, ⟨rfl, trivial⟩⟩ ?_
    obtain ⟨n, h⟩ := h
    exact wLk_X3_regroup_27 n _ _ h
  · have h := h2 q1
    refine aG_icmp (cd := .ge) (b := false) (decide_eq_false q1) rfl ?_
    refine aG_n 6 (s' := (18, [some (.ref 12), some (.int y1), none], [(.int (jshl (nI 1) y1)), (.int y1), (.ref 24)], mkX M)) rfl ?_
    obtain ⟨f23, h⟩ := h
    refine aG_iast rfl rfl f23 ?_
    refine aG_n 2 (s' := (2, [some (.ref 12), some (.int (y1 + (nI 1))), none], [], mkX (si M 24 y1.toNatClampNeg (jshl (nI 1) y1)))) rfl ?_
    refine aG_le (a := [some (.ref 12), some (.int (y1 + (nI 1))), none]) ⟨rfl, ⟨rfl, trivial⟩⟩ ?_
    exact hK2 _ _ h
def wL_X3_regroup_2 (Q : wM → Prop) : Nat → Int32 → wM → Prop
  | 0, _, _ => False
  | n + 1, y1, M => wb_X3_regroup_2 (wL_X3_regroup_2 Q n) y1 M Q
set_option maxRecDepth 20000 in
theorem wLk_X3_regroup_2 {Q : wM → Prop} : ∀ (n : Nat) (y1 : Int32) (M : wM), wL_X3_regroup_2 Q n y1 M → aG 138 (2, [some (.ref 12), some (.int y1), none], [], mkX M) (aPv mkX Q)
  | 0, _, _, h => h.elim
  | n + 1, y1, M, h => wbk_X3_regroup_2 (fun y1 M h => wLk_X3_regroup_2 n y1 M h) h
def w_X3_regroup (M : wM) (Q : wM → Prop) : Prop := ∃ n, wL_X3_regroup_2 Q n (nI 0) M
set_option maxRecDepth 20000 in
theorem wk_X3_regroup {M : wM} {Q : wM → Prop} (h : w_X3_regroup M Q) : aG 138 (aEn 138 [(.ref 12)] (mkX M)) (aPv mkX Q) := by
  unfold w_X3_regroup at h
  refine aG_n 2 (s' := (2, [some (.ref 12), some (.int (nI 0)), none], [], mkX M)) rfl ?_
  refine aG_le (a := [some (.ref 12), some (.int (nI 0)), none]) ⟨rfl, ⟨rfl, trivial⟩⟩ ?_
  obtain ⟨n, h⟩ := h
  exact wLk_X3_regroup_2 n _ _ h
