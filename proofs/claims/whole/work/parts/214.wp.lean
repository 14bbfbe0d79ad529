/-! methods as predicates, and their walks (by gen/wpgen.py) -/
def wj_X12_feetOf_79 (z1 : Int32) (z2 : Int32) (z3 : Int32) (K4 : Int32 → Int32 → wM → Prop) (M : wM) (Q : Int32 → wM → Prop) : Prop := K4 (z2 ||| (jshl (nI 1) z3)) (z3 + (nI 1)) M
set_option maxRecDepth 20000 in
theorem wjk_X12_feetOf_79 {z1 : Int32} {z2 : Int32} {z3 : Int32} {K4 : Int32 → Int32 → wM → Prop} {M : wM} {Q : Int32 → wM → Prop} (hK4 : ∀ (v2 : Int32) (v3 : Int32) (M : wM), K4 v2 v3 M → aG 196 (4, [some (.ref 0), some (.int z1), some (.int v2), some (.int v3), none, none], [], mkM M) (aPi mkM Q)) (h : wj_X12_feetOf_79 z1 z2 z3 K4 M Q) : aG 196 (79, [some (.ref 0), some (.int z1), some (.int z2), some (.int z3), none, none], [], mkM M) (aPi mkM Q) := by
  unfold wj_X12_feetOf_79 at h
  refine aG_n 11 (s' := (4, [some (.ref 0), some (.int z1), some (.int (z2 ||| (jshl (nI 1) z3))), some (.int (z3 + (nI 1))), none, some (.int (nI 1))], [], mkM M)) rfl ?_
  refine aG_le (a := [some (.ref 0), some (.int z1), some (.int (z2 ||| (jshl (nI 1) z3))), some (.int (z3 + (nI 1))), none, none]) ⟨rfl, ⟨rfl, ⟨rfl, ⟨rfl, trivial⟩⟩⟩⟩ ?_
  exact hK4 _ _ _ h
def wb_X12_feetOf_4 (z1 : Int32) (K4 : Int32 → Int32 → wM → Prop) (y2 : Int32) (y3 : Int32) (M : wM) (Q : Int32 → wM → Prop) : Prop := vp_in z1 6 ∧ (vp_in (gi M 14 z1.toNatClampNeg) 6 ∧ (((gi M 5 (gi M 14 z1.toNatClampNeg).toNatClampNeg) ≤ y3 → Q y2 M) ∧ (¬ (gi M 5 (gi M 14 z1.toNatClampNeg).toNatClampNeg) ≤ y3 → vp_in (((nI 10) * z1) + y3) 60 ∧ (w_X12_isOut z1 y3 M (fun r5 M6 => (r5 = (nI 0) → w_X12_isOpen z1 y3 M6 (fun r8 M9 => (r8 = (nI 0) → ((gi M 23 (((nI 10) * z1) + y3).toNatClampNeg) = (-4) → wj_X12_feetOf_79 z1 y2 y3 K4 M9 Q) ∧ (¬ (gi M 23 (((nI 10) * z1) + y3).toNatClampNeg) = (-4) → w_X12_levelNow (gi M 23 (((nI 10) * z1) + y3).toNatClampNeg) M9 (fun r12 M13 => K4 (y2 ||| (jshl r12 y3)) (y3 + (nI 1)) M13))) ∧ (¬ r8 = (nI 0) → wj_X12_feetOf_79 z1 y2 y3 K4 M9 Q))) ∧ (¬ r5 = (nI 0) → w_X12_isOpen z1 y3 M6 (fun r14 M15 => (r14 = (nI 0) → w_X12_drives z1 y3 M15 (fun r17 M18 => K4 (y2 ||| (jshl r17 y3)) (y3 + (nI 1)) M18)) ∧ (¬ r14 = (nI 0) → K4 (y2 ||| (jshl (nI 0) y3)) (y3 + (nI 1)) M15))))))))
set_option maxRecDepth 20000 in
theorem wbk_X12_feetOf_4 {z1 : Int32} {K4 : Int32 → Int32 → wM → Prop} {y2 : Int32} {y3 : Int32} {M : wM} {Q : Int32 → wM → Prop} (hK4 : ∀ (v2 : Int32) (v3 : Int32) (M : wM), K4 v2 v3 M → aG 196 (4, [some (.ref 0), some (.int z1), some (.int v2), some (.int v3), none, none], [], mkM M) (aPi mkM Q)) (h : wb_X12_feetOf_4 z1 K4 y2 y3 M Q) : aG 196 (4, [some (.ref 0), some (.int z1), some (.int y2), some (.int y3), none, none], [], mkM M) (aPi mkM Q) := by
  unfold wb_X12_feetOf_4 at h
  refine aG_n 6 (s' := (14, [some (.ref 0), some (.int z1), some (.int y2), some (.int y3), none, none], [(.int z1), (.ref 14), (.ref 5), (.int y3)], mkM M)) rfl ?_
  obtain ⟨f1, h⟩ := h
  refine aG_iald rfl rfl rfl f1 ?_
  refine aG_n 0 (s' := (15, [some (.ref 0), some (.int z1), some (.int y2), some (.int y3), none, none], [(.int (gi M 14 z1.toNatClampNeg)), (.ref 5), (.int y3)], mkM M)) rfl ?_
  obtain ⟨f2, h⟩ := h
  refine aG_iald rfl rfl rfl f2 ?_
  refine aG_n 0 (s' := (16, [some (.ref 0), some (.int z1), some (.int y2), some (.int y3), none, none], [(.int (gi M 5 (gi M 14 z1.toNatClampNeg).toNatClampNeg)), (.int y3)], mkM M)) rfl ?_
  obtain ⟨h1, h2⟩ := h
  by_cases q3 : (gi M 5 (gi M 14 z1.toNatClampNeg).toNatClampNeg) ≤ y3
  · have h := h1 q3
    refine aG_icmp (cd := .ge) (b := true) (decide_eq_true q3) rfl ?_
    refine aG_n 1 (s' := (105, [some (.ref 0), some (.int z1), some (.int y2), some (.int y3), none, none], [(.int y2)], mkM M)) rfl ?_
    exact aG_ret0 rfl rfl ⟨_, _, rfl, h⟩
  · have h := h2 q3
    refine aG_icmp (cd := .ge) (b := false) (decide_eq_false q3) rfl ?_
    refine aG_n 7 (s' := (29, [some (.ref 0), some (.int z1), some (.int y2), some (.int y3), none, none], [(.int (((nI 10) * z1) + y3)), (.ref 23)], mkM M)) rfl ?_
    obtain ⟨f4, h⟩ := h
    refine aG_iald rfl rfl rfl f4 ?_
    refine aG_n 4 (s' := (35, [some (.ref 0), some (.int z1), some (.int y2), some (.int y3), some (.int (gi M 23 (((nI 10) * z1) + y3).toNatClampNeg)), none], [(.int y3), (.int z1), (.ref 0)], mkM M)) rfl ?_
    refine aG_call rfl rfl (aG_mono (wk_X12_isOut h) ?_)
    rintro _ ⟨r5, M6, rfl, h⟩
    refine aG_n 0 (s' := (38, [some (.ref 0), some (.int z1), some (.int y2), some (.int y3), some (.int (gi M 23 (((nI 10) * z1) + y3).toNatClampNeg)), none], [(.int r5)], mkM M6)) rfl ?_
    obtain ⟨h1, h2⟩ := h
    by_cases q7 : r5 = (nI 0)
    · have h := h1 q7
      refine aG_if (cd := .eq) (b := true) (decide_eq_true q7) rfl ?_
      refine aG_n 3 (s' := (66, [some (.ref 0), some (.int z1), some (.int y2), some (.int y3), some (.int (gi M 23 (((nI 10) * z1) + y3).toNatClampNeg)), none], [(.int y3), (.int z1), (.ref 0)], mkM M6)) rfl ?_
      refine aG_call rfl rfl (aG_mono (wk_X12_isOpen h) ?_)
      rintro _ ⟨r8, M9, rfl, h⟩
      refine aG_n 0 (s' := (69, [some (.ref 0), some (.int z1), some (.int y2), some (.int y3), some (.int (gi M 23 (((nI 10) * z1) + y3).toNatClampNeg)), none], [(.int r8)], mkM M9)) rfl ?_
      obtain ⟨h1, h2⟩ := h
      by_cases q10 : r8 = (nI 0)
      · have h := h1 q10
        refine aG_if (cd := .ne) (b := false) (aTne0 q10) rfl ?_
        refine aG_n 2 (s' := (76, [some (.ref 0), some (.int z1), some (.int y2), some (.int y3), some (.int (gi M 23 (((nI 10) * z1) + y3).toNatClampNeg)), none], [(.int (-4)), (.int (gi M 23 (((nI 10) * z1) + y3).toNatClampNeg))], mkM M9)) rfl ?_
        obtain ⟨h1, h2⟩ := h
        by_cases q11 : (gi M 23 (((nI 10) * z1) + y3).toNatClampNeg) = (-4)
        · have h := h1 q11
          refine aG_icmp (cd := .ne) (b := false) (aTne0 q11) rfl ?_
          refine aG_n 0 (s' := (79, [some (.ref 0), some (.int z1), some (.int y2), some (.int y3), some (.int (gi M 23 (((nI 10) * z1) + y3).toNatClampNeg)), none], [], mkM M9)) rfl ?_
          refine aG_le (a := [some (.ref 0), some (.int z1), some (.int y2), some (.int y3), none, none]) ⟨rfl, ⟨rfl, ⟨rfl, ⟨rfl, trivial⟩⟩⟩⟩ ?_
          exact wjk_X12_feetOf_79 hK4 h
        · have h := h2 q11
          refine aG_icmp (cd := .ne) (b := true) (aTne1 q11) rfl ?_
          refine aG_n 2 (s' := (86, [some (.ref 0), some (.int z1), some (.int y2), some (.int y3), some (.int (gi M 23 (((nI 10) * z1) + y3).toNatClampNeg)), none], [(.int (gi M 23 (((nI 10) * z1) + y3).toNatClampNeg)), (.ref 0)], mkM M9)) rfl ?_
          refine aG_call rfl rfl (aG_mono (wk_X12_levelNow h) ?_)
          rintro _ ⟨r12, M13, rfl, h⟩
          refine aG_n 9 (s' := (4, [some (.ref 0), some (.int z1), some (.int (y2 ||| (jshl r12 y3))), some (.int (y3 + (nI 1))), some (.int (gi M 23 (((nI 10) * z1) + y3).toNatClampNeg)), some (.int r12)], [], mkM M13)) rfl ?_
          refine aG_le (a := [some (.ref 0), some (.int z1), some (.int (y2 ||| (jshl r12 y3))), some (.int (y3 + (nI 1))), none, none]) ⟨rfl, ⟨rfl, ⟨rfl, ⟨rfl, trivial⟩⟩⟩⟩ ?_
          exact hK4 _ _ _ h
      · have h := h2 q10
        refine aG_if (cd := .ne) (b := true) (aTne1 q10) rfl ?_
        refine aG_n 0 (s' := (79, [some (.ref 0), some (.int z1), some (.int y2), some (.int y3), some (.int (gi M 23 (((nI 10) * z1) + y3).toNatClampNeg)), none], [], mkM M9)) rfl ?_
        refine aG_le (a := [some (.ref 0), some (.int z1), some (.int y2), some (.int y3), none, none]) ⟨rfl, ⟨rfl, ⟨rfl, ⟨rfl, trivial⟩⟩⟩⟩ ?_
        exact wjk_X12_feetOf_79 hK4 h
    · have h := h2 q7
      refine aG_if (cd := .eq) (b := false) (decide_eq_false q7) rfl ?_
      refine aG_n 3 (s' := (44, [some (.ref 0), some (.int z1), some (.int y2), some (.int y3), some (.int (gi M 23 (((nI 10) * z1) + y3).toNatClampNeg)), none], [(.int y3), (.int z1), (.ref 0)], mkM M6)) rfl ?_
      refine aG_call rfl rfl (aG_mono (wk_X12_isOpen h) ?_)
      rintro _ ⟨r14, M15, rfl, h⟩
      refine aG_n 0 (s' := (47, [some (.ref 0), some (.int z1), some (.int y2), some (.int y3), some (.int (gi M 23 (((nI 10) * z1) + y3).toNatClampNeg)), none], [(.int r14)], mkM M15)) rfl ?_
      obtain ⟨h1, h2⟩ := h
      by_cases q16 : r14 = (nI 0)
      · have h := h1 q16
        refine aG_if (cd := .eq) (b := true) (decide_eq_true q16) rfl ?_
        refine aG_n 3 (s' := (57, [some (.ref 0), some (.int z1), some (.int y2), some (.int y3), some (.int (gi M 23 (((nI 10) * z1) + y3).toNatClampNeg)), none], [(.int y3), (.int z1), (.ref 0)], mkM M15)) rfl ?_
        refine aG_call rfl rfl (aG_mono (wk_X12_drives h) ?_)
        rintro _ ⟨r17, M18, rfl, h⟩
        refine aG_n 10 (s' := (4, [some (.ref 0), some (.int z1), some (.int (y2 ||| (jshl r17 y3))), some (.int (y3 + (nI 1))), some (.int (gi M 23 (((nI 10) * z1) + y3).toNatClampNeg)), some (.int r17)], [], mkM M18)) rfl ?_
        refine aG_le (a := [some (.ref 0), some (.int z1), some (.int (y2 ||| (jshl r17 y3))), some (.int (y3 + (nI 1))), none, none]) ⟨rfl, ⟨rfl, ⟨rfl, ⟨rfl, trivial⟩⟩⟩⟩ ?_
        exact hK4 _ _ _ h
      · have h := h2 q16
        refine aG_if (cd := .eq) (b := false) (decide_eq_false q16) rfl ?_
        refine aG_n 11 (s' := (4, [some (.ref 0), some (.int z1), some (.int (y2 ||| (jshl (nI 0) y3))), some (.int (y3 + (nI 1))), some (.int (gi M 23 (((nI 10) * z1) + y3).toNatClampNeg)), some (.int (nI 0))], [], mkM M15)) rfl ?_
        refine aG_le (a := [some (.ref 0), some (.int z1), some (.int (y2 ||| (jshl (nI 0) y3))), some (.int (y3 + (nI 1))), none, none]) ⟨rfl, ⟨rfl, ⟨rfl, ⟨rfl, trivial⟩⟩⟩⟩ ?_
        exact hK4 _ _ _ h
def wL_X12_feetOf_4 (z1 : Int32) (Q : Int32 → wM → Prop) : Nat → Int32 → Int32 → wM → Prop
  | 0, _, _, _ => False
  | n + 1, y2, y3, M => wb_X12_feetOf_4 z1 (wL_X12_feetOf_4 z1 Q n) y2 y3 M Q
set_option maxRecDepth 20000 in
theorem wLk_X12_feetOf_4 {z1 : Int32} {Q : Int32 → wM → Prop} : ∀ (n : Nat) (y2 : Int32) (y3 : Int32) (M : wM), wL_X12_feetOf_4 z1 Q n y2 y3 M → aG 196 (4, [some (.ref 0), some (.int z1), some (.int y2), some (.int y3), none, none], [], mkM M) (aPi mkM Q)
  | 0, _, _, _, h => h.elim
  | n + 1, y2, y3, M, h => wbk_X12_feetOf_4 (fun y2 y3 M h => wLk_X12_feetOf_4 n y2 y3 M h) h
def w_X12_feetOf (x1 : Int32) (M : wM) (Q : Int32 → wM → Prop) : Prop := ∃ n, wL_X12_feetOf_4 x1 Q n (nI 0) (nI 0) M
set_option maxRecDepth 20000 in
theorem wk_X12_feetOf {x1 : Int32} {M : wM} {Q : Int32 → wM → Prop} (h : w_X12_feetOf x1 M Q) : aG 196 (aEn 196 [(.ref 0), (.int x1)] (mkM M)) (aPi mkM Q) := by
  unfold w_X12_feetOf at h
  refine aG_n 4 (s' := (4, [some (.ref 0), some (.int x1), some (.int (nI 0)), some (.int (nI 0)), none, none], [], mkM M)) rfl ?_
  refine aG_le (a := [some (.ref 0), some (.int x1), some (.int (nI 0)), some (.int (nI 0)), none, none]) ⟨rfl, ⟨rfl, ⟨rfl, ⟨rfl, trivial⟩⟩⟩⟩ ?_
  obtain ⟨n, h⟩ := h
  exact wLk_X12_feetOf_4 n _ _ _ h
def wb_X12_netOf_72 (z1 : Int32) (K72 : Int32 → wM → Prop) (y3 : Int32) (M : wM) (Q : Int32 → wM → Prop) : Prop := vp_in z1 8 ∧ ((((jshr (gi M 29 z1.toNatClampNeg) y3) &&& (nI 1)) = (nI 0) → K72 (y3 + (nI 1)) M) ∧ (¬ ((jshr (gi M 29 z1.toNatClampNeg) y3) &&& (nI 1)) = (nI 0) → Q y3 M))
set_option maxRecDepth 20000 in
theorem wbk_X12_netOf_72 {z1 : Int32} {K72 : Int32 → wM → Prop} {y3 : Int32} {M : wM} {Q : Int32 → wM → Prop} (hK72 : ∀ (v3 : Int32) (M : wM), K72 v3 M → aG 197 (72, [some (.ref 0), some (.int z1), none, some (.int v3)], [], mkM M) (aPi mkM Q)) (h : wb_X12_netOf_72 z1 K72 y3 M Q) : aG 197 (72, [some (.ref 0), some (.int z1), none, some (.int y3)], [], mkM M) (aPi mkM Q) := by
  unfold wb_X12_netOf_72 at h
  refine aG_n 3 (s' := (77, [some (.ref 0), some (.int z1), none, some (.int y3)], [(.int z1), (.ref 29)], mkM M)) rfl ?_
  obtain ⟨f10, h⟩ := h
  refine aG_iald rfl rfl rfl f10 ?_
  refine aG_n 4 (s' := (82, [some (.ref 0), some (.int z1), none, some (.int y3)], [(.int ((jshr (gi M 29 z1.toNatClampNeg) y3) &&& (nI 1)))], mkM M)) rfl ?_
  obtain ⟨h1, h2⟩ := h
  by_cases q11 : ((jshr (gi M 29 z1.toNatClampNeg) y3) &&& (nI 1)) = (nI 0)
  · have h := h1 q11
    refine aG_if (cd := .ne) (b := false) (aTne0 q11) rfl ?_
    refine aG_n 2 (s' := (72, [some (.ref 0), some (.int z1), none, some (.int (y3 + (nI 1)))], [], mkM M)) rfl ?_
    refine aG_le (a := [some (.ref 0), some (.int z1), none, some (.int (y3 + (nI 1)))]) ⟨rfl, ⟨rfl, ⟨rfl, trivial⟩⟩⟩ ?_
    exact hK72 _ _ h
  · have h := h2 q11
    refine aG_if (cd := .ne) (b := true) (aTne1 q11) rfl ?_
    refine aG_n 1 (s' := (92, [some (.ref 0), some (.int z1), none, some (.int y3)], [(.int y3)], mkM M)) rfl ?_
    exact aG_ret0 rfl rfl ⟨_, _, rfl, h⟩
def wL_X12_netOf_72 (z1 : Int32) (Q : Int32 → wM → Prop) : Nat → Int32 → wM → Prop
  | 0, _, _ => False
  | n + 1, y3, M => wb_X12_netOf_72 z1 (wL_X12_netOf_72 z1 Q n) y3 M Q
set_option maxRecDepth 20000 in
theorem wLk_X12_netOf_72 {z1 : Int32} {Q : Int32 → wM → Prop} : ∀ (n : Nat) (y3 : Int32) (M : wM), wL_X12_netOf_72 z1 Q n y3 M → aG 197 (72, [some (.ref 0), some (.int z1), none, some (.int y3)], [], mkM M) (aPi mkM Q)
  | 0, _, _, h => h.elim
  | n + 1, y3, M, h => wbk_X12_netOf_72 (fun y3 M h => wLk_X12_netOf_72 n y3 M h) h
def w_X12_netOf (x1 : Int32) (x2 : Int32) (M : wM) (Q : Int32 → wM → Prop) : Prop := w_X12_isNet x1 M (fun r1 M2 => (r1 = (nI 0) → Q (-1) M2) ∧ (¬ r1 = (nI 0) → w_X12_in x2.toInt64 (lN 0) (lN 3) M2 (fun r4 M5 => (r4 = (nI 0) → Q (-1) M5) ∧ (¬ r4 = (nI 0) → ((nI 3) ≤ x2 → w_X12_findTogether 28 27 M5 (fun M9 => ∃ n, wL_X12_netOf_72 x1 Q n (nI 0) M9)) ∧ (¬ (nI 3) ≤ x2 → (x2 = (nI 0) → w_X12_levelNow x1 M5 (fun r13 M14 => Q r13 M14)) ∧ (¬ x2 = (nI 0) → (x2 = (nI 1) → w_X12_ownOf x1 M5 (fun r16 M17 => Q r16 M17)) ∧ (¬ x2 = (nI 1) → w_X12_feetOn x1 M5 (fun r18 M19 => Q r18 M19))))))))
set_option maxRecDepth 20000 in
theorem wk_X12_netOf {x1 : Int32} {x2 : Int32} {M : wM} {Q : Int32 → wM → Prop} (h : w_X12_netOf x1 x2 M Q) : aG 197 (aEn 197 [(.ref 0), (.int x1), (.int x2)] (mkM M)) (aPi mkM Q) := by
  unfold w_X12_netOf at h
  refine aG_n 2 (s' := (2, [some (.ref 0), some (.int x1), some (.int x2), none], [(.int x1), (.ref 0)], mkM M)) rfl ?_
  refine aG_call rfl rfl (aG_mono (wk_X12_isNet h) ?_)
  rintro _ ⟨r1, M2, rfl, h⟩
  refine aG_n 0 (s' := (5, [some (.ref 0), some (.int x1), some (.int x2), none], [(.int r1)], mkM M2)) rfl ?_
  obtain ⟨h1, h2⟩ := h
  by_cases q3 : r1 = (nI 0)
  · have h := h1 q3
    refine aG_if (cd := .eq) (b := true) (decide_eq_true q3) rfl ?_
    refine aG_n 1 (s' := (21, [some (.ref 0), some (.int x1), some (.int x2), none], [(.int (-1))], mkM M2)) rfl ?_
    exact aG_ret0 rfl rfl ⟨_, _, rfl, h⟩
  · have h := h2 q3
    refine aG_if (cd := .eq) (b := false) (decide_eq_false q3) rfl ?_
    refine aG_n 4 (s' := (14, [some (.ref 0), some (.int x1), some (.int x2), none], [(.long (lN 3)), (.long (lN 0)), (.long x2.toInt64)], mkM M2)) rfl ?_
    refine aG_call rfl rfl (aG_mono (wk_X12_in h) ?_)
    rintro _ ⟨r4, M5, rfl, h⟩
    refine aG_n 0 (s' := (17, [some (.ref 0), some (.int x1), some (.int x2), none], [(.int r4)], mkM M5)) rfl ?_
    obtain ⟨h1, h2⟩ := h
    by_cases q6 : r4 = (nI 0)
    · have h := h1 q6
      refine aG_if (cd := .ne) (b := false) (aTne0 q6) rfl ?_
      refine aG_n 1 (s' := (21, [some (.ref 0), some (.int x1), some (.int x2), none], [(.int (-1))], mkM M5)) rfl ?_
      exact aG_ret0 rfl rfl ⟨_, _, rfl, h⟩
    · have h := h2 q6
      refine aG_if (cd := .ne) (b := true) (aTne1 q6) rfl ?_
      refine aG_n 2 (s' := (24, [some (.ref 0), some (.int x1), some (.int x2), none], [(.int (nI 3)), (.int x2)], mkM M5)) rfl ?_
      obtain ⟨h1, h2⟩ := h
      by_cases q7 : (nI 3) ≤ x2
      · have h := h1 q7
        refine aG_icmp (cd := .ge) (b := true) (decide_eq_true q7) rfl ?_
        refine aG_n 5 (s' := (67, [some (.ref 0), some (.int x1), some (.int x2), none], [(.ref 27), (.ref 28), (.ref 0)], mkM M5)) rfl ?_
        refine aG_call rfl rfl (aG_mono (wk_X12_findTogether h) ?_)
        rintro _ ⟨M9, rfl, h⟩
        refine aG_n 2 (s' := (72, [some (.ref 0), some (.int x1), some (.int x2), some (.int (nI 0))], [], mkM M9)) rfl ?_
        refine aG_le (a := [some (.ref 0), some (.int x1), none, some (.int (nI 0))]) ⟨rfl, ⟨rfl, ⟨rfl, trivial⟩⟩⟩ ?_
        obtain ⟨n, h⟩ := h
        exact wLk_X12_netOf_72 n _ _ h
      · have h := h2 q7
        refine aG_icmp (cd := .ge) (b := false) (decide_eq_false q7) rfl ?_
        refine aG_n 1 (s' := (28, [some (.ref 0), some (.int x1), some (.int x2), none], [(.int x2)], mkM M5)) rfl ?_
        obtain ⟨h1, h2⟩ := h
        by_cases q12 : x2 = (nI 0)
        · have h := h1 q12
          refine aG_if (cd := .ne) (b := false) (aTne0 q12) rfl ?_
          refine aG_n 2 (s' := (33, [some (.ref 0), some (.int x1), some (.int x2), none], [(.int x1), (.ref 0)], mkM M5)) rfl ?_
          refine aG_call rfl rfl (aG_mono (wk_X12_levelNow h) ?_)
          rintro _ ⟨r13, M14, rfl, h⟩
          refine aG_n 1 (s' := (57, [some (.ref 0), some (.int x1), some (.int x2), none], [(.int r13)], mkM M14)) rfl ?_
          exact aG_ret0 rfl rfl ⟨_, _, rfl, h⟩
        · have h := h2 q12
          refine aG_if (cd := .ne) (b := true) (aTne1 q12) rfl ?_
          refine aG_n 2 (s' := (41, [some (.ref 0), some (.int x1), some (.int x2), none], [(.int (nI 1)), (.int x2)], mkM M5)) rfl ?_
          obtain ⟨h1, h2⟩ := h
          by_cases q15 : x2 = (nI 1)
          · have h := h1 q15
            refine aG_icmp (cd := .ne) (b := false) (aTne0 q15) rfl ?_
            refine aG_n 2 (s' := (46, [some (.ref 0), some (.int x1), some (.int x2), none], [(.int x1), (.ref 0)], mkM M5)) rfl ?_
            refine aG_call rfl rfl (aG_mono (wk_X12_ownOf h) ?_)
            rintro _ ⟨r16, M17, rfl, h⟩
            refine aG_n 1 (s' := (57, [some (.ref 0), some (.int x1), some (.int x2), none], [(.int r16)], mkM M17)) rfl ?_
            exact aG_ret0 rfl rfl ⟨_, _, rfl, h⟩
          · have h := h2 q15
            refine aG_icmp (cd := .ne) (b := true) (aTne1 q15) rfl ?_
            refine aG_n 2 (s' := (54, [some (.ref 0), some (.int x1), some (.int x2), none], [(.int x1), (.ref 0)], mkM M5)) rfl ?_
            refine aG_call rfl rfl (aG_mono (wk_X12_feetOn h) ?_)
            rintro _ ⟨r18, M19, rfl, h⟩
            refine aG_n 0 (s' := (57, [some (.ref 0), some (.int x1), some (.int x2), none], [(.int r18)], mkM M19)) rfl ?_
            exact aG_ret0 rfl rfl ⟨_, _, rfl, h⟩
def wb_X12_findLikely_121 (z1 : Int32) (z2 : Int32) (K109 : Int32 → wM → Prop) (K121 : Int32 → wM → Prop) (y3 : Int32) (M : wM) (Q : wM → Prop) : Prop := w_X12_faults M (fun r14 M15 => (r14 ≤ y3 → K109 (z2 + (nI 1)) M15) ∧ (¬ r14 ≤ y3 → w_X12_tries z1 z2 y3 M15 (fun M18 => K121 (y3 + (nI 1)) M18)))
set_option maxRecDepth 20000 in
theorem wbk_X12_findLikely_121 {z1 : Int32} {z2 : Int32} {K109 : Int32 → wM → Prop} {K121 : Int32 → wM → Prop} {y3 : Int32} {M : wM} {Q : wM → Prop} (hK109 : ∀ (v2 : Int32) (M : wM), K109 v2 M → aG 198 (109, [some (.ref 0), some (.int z1), some (.int v2), none], [], mkM M) (aPv mkM Q)) (hK121 : ∀ (v3 : Int32) (M : wM), K121 v3 M → aG 198 (121, [some (.ref 0), some (.int z1), some (.int z2), some (.int v3)], [], mkM M) (aPv mkM Q)) (h : wb_X12_findLikely_121 z1 z2 K109 K121 y3 M Q) : aG 198 (121, [some (.ref 0), some (.int z1), some (.int z2), some (.int y3)], [], mkM M) (aPv mkM Q) := by
  unfold wb_X12_findLikely_121 at h
  refine aG_n 2 (s' := (123, [some (.ref 0), some (.int z1), some (.int z2), some (.int y3)], [(.ref 0), (.int y3)], mkM M)) rfl ?_
  refine aG_call rfl rfl (aG_mono (wk_X12_faults h) ?_)
  rintro _ ⟨r14, M15, rfl, h⟩
  refine aG_n 0 (s' := (126, [some (.ref 0), some (.int z1), some (.int z2), some (.int y3)], [(.int r14), (.int y3)], mkM M15)) rfl ?_
  obtain ⟨h1, h2⟩ := h
  by_cases q16 : r14 ≤ y3
  · have h := h1 q16
    refine aG_icmp (cd := .ge) (b := true) (decide_eq_true q16) rfl ?_
    refine aG_n 2 (s' := (109, [some (.ref 0), some (.int z1), some (.int (z2 + (nI 1))), some (.int y3)], [], mkM M15)) rfl ?_
    refine aG_le (a := [some (.ref 0), some (.int z1), some (.int (z2 + (nI 1))), none]) ⟨rfl, ⟨rfl, ⟨rfl, trivial⟩⟩⟩ ?_
    exact hK109 _ _ h
  · have h := h2 q16
    refine aG_icmp (cd := .ge) (b := false) (decide_eq_false q16) rfl ?_
    refine aG_n 4 (s' := (133, [some (.ref 0), some (.int z1), some (.int z2), some (.int y3)], [(.int y3), (.int z2), (.int z1), (.ref 0)], mkM M15)) rfl ?_
    refine aG_call rfl rfl (aG_mono (wk_X12_tries h) ?_)
    rintro _ ⟨M18, rfl, h⟩
    refine aG_n 2 (s' := (121, [some (.ref 0), some (.int z1), some (.int z2), some (.int (y3 + (nI 1)))], [], mkM M18)) rfl ?_
    refine aG_le (a := [some (.ref 0), some (.int z1), some (.int z2), some (.int (y3 + (nI 1)))]) ⟨rfl, ⟨rfl, ⟨rfl, ⟨rfl, trivial⟩⟩⟩⟩ ?_
    exact hK121 _ _ h
def wL_X12_findLikely_121 (z1 : Int32) (z2 : Int32) (K109 : Int32 → wM → Prop) (Q : wM → Prop) : Nat → Int32 → wM → Prop
  | 0, _, _ => False
  | n + 1, y3, M => wb_X12_findLikely_121 z1 z2 K109 (wL_X12_findLikely_121 z1 z2 K109 Q n) y3 M Q
set_option maxRecDepth 20000 in
theorem wLk_X12_findLikely_121 {z1 : Int32} {z2 : Int32} {K109 : Int32 → wM → Prop} {Q : wM → Prop} (hK109 : ∀ (v2 : Int32) (M : wM), K109 v2 M → aG 198 (109, [some (.ref 0), some (.int z1), some (.int v2), none], [], mkM M) (aPv mkM Q)) : ∀ (n : Nat) (y3 : Int32) (M : wM), wL_X12_findLikely_121 z1 z2 K109 Q n y3 M → aG 198 (121, [some (.ref 0), some (.int z1), some (.int z2), some (.int y3)], [], mkM M) (aPv mkM Q)
  | 0, _, _, h => h.elim
  | n + 1, y3, M, h => wbk_X12_findLikely_121 hK109 (fun y3 M h => wLk_X12_findLikely_121 hK109 n y3 M h) h
def wb_X12_findLikely_109 (z1 : Int32) (K109 : Int32 → wM → Prop) (y2 : Int32) (M : wM) (Q : wM → Prop) : Prop := w_X12_faults M (fun r11 M12 => (r11 ≤ y2 → Q M12) ∧ (¬ r11 ≤ y2 → ∃ n, wL_X12_findLikely_121 z1 y2 K109 Q n (y2 + (nI 1)) M12))
set_option maxRecDepth 20000 in
theorem wbk_X12_findLikely_109 {z1 : Int32} {K109 : Int32 → wM → Prop} {y2 : Int32} {M : wM} {Q : wM → Prop} (hK109 : ∀ (v2 : Int32) (M : wM), K109 v2 M → aG 198 (109, [some (.ref 0), some (.int z1), some (.int v2), none], [], mkM M) (aPv mkM Q)) (h : wb_X12_findLikely_109 z1 K109 y2 M Q) : aG 198 (109, [some (.ref 0), some (.int z1), some (.int y2), none], [], mkM M) (aPv mkM Q) := by
  unfold wb_X12_findLikely_109 at h
  refine aG_n 2 (s' := (111, [some (.ref 0), some (.int z1), some (.int y2), none], [(.ref 0), (.int y2)], mkM M)) rfl ?_
  refine aG_call rfl rfl (aG_mono (wk_X12_faults h) ?_)
  rintro _ ⟨r11, M12, rfl, h⟩
  refine aG_n 0 (s' := (114, [some (.ref 0), some (.int z1), some (.int y2), none], [(.int r11), (.int y2)], mkM M12)) rfl ?_
  obtain ⟨h1, h2⟩ := h
  by_cases q13 : r11 ≤ y2
  · have h := h1 q13
    refine aG_icmp (cd := .ge) (b := true) (decide_eq_true q13) rfl ?_
    refine aG_n 0 (s' := (148, [some (.ref 0), some (.int z1), some (.int y2), none], [], mkM M12)) rfl ?_
    exact aG_retV rfl rfl ⟨_, rfl, h⟩
  · have h := h2 q13
    refine aG_icmp (cd := .ge) (b := false) (decide_eq_false q13) rfl ?_
    refine aG_n 4 (s' := (121, [some (.ref 0), some (.int z1), some (.int y2), some (.int (y2 + (nI 1)))], [], mkM M12)) rfl ?_
    refine aG_le (a := [some (.ref 0), some (.int z1), some (.int y2), some (.int (y2 + (nI 1)))]) ⟨rfl, ⟨rfl, ⟨rfl, ⟨rfl, trivial⟩⟩⟩⟩ ?_
    obtain ⟨n, h⟩ := h
    exact wLk_X12_findLikely_121 hK109 n _ _ h
def wL_X12_findLikely_109 (z1 : Int32) (Q : wM → Prop) : Nat → Int32 → wM → Prop
  | 0, _, _ => False
  | n + 1, y2, M => wb_X12_findLikely_109 z1 (wL_X12_findLikely_109 z1 Q n) y2 M Q
set_option maxRecDepth 20000 in
theorem wLk_X12_findLikely_109 {z1 : Int32} {Q : wM → Prop} : ∀ (n : Nat) (y2 : Int32) (M : wM), wL_X12_findLikely_109 z1 Q n y2 M → aG 198 (109, [some (.ref 0), some (.int z1), some (.int y2), none], [], mkM M) (aPv mkM Q)
  | 0, _, _, h => h.elim
  | n + 1, y2, M, h => wbk_X12_findLikely_109 (fun y2 M h => wLk_X12_findLikely_109 n y2 M h) h
def wj_X12_findLikely_95 (z1 : Int32) (M : wM) (Q : wM → Prop) : Prop := ((gi M 0 48) = (nI 0) → ∃ n, wL_X12_findLikely_109 z1 Q n (nI 0) (si M 0 49 (nI 2))) ∧ (¬ (gi M 0 48) = (nI 0) → Q M)
set_option maxRecDepth 20000 in
theorem wjk_X12_findLikely_95 {z1 : Int32} {M : wM} {Q : wM → Prop} (h : wj_X12_findLikely_95 z1 M Q) : aG 198 (95, [some (.ref 0), some (.int z1), none, none], [], mkM M) (aPv mkM Q) := by
  unfold wj_X12_findLikely_95 at h
  refine aG_n 2 (s' := (99, [some (.ref 0), some (.int z1), none, none], [(.int (gi M 0 48))], mkM M)) rfl ?_
  obtain ⟨h1, h2⟩ := h
  by_cases q10 : (gi M 0 48) = (nI 0)
  · have h := h1 q10
    refine aG_if (cd := .ne) (b := false) (aTne0 q10) rfl ?_
    refine aG_n 5 (s' := (109, [some (.ref 0), some (.int z1), some (.int (nI 0)), none], [], mkM (si M 0 49 (nI 2)))) rfl ?_
    refine aG_le (a := [some (.ref 0), some (.int z1), some (.int (nI 0)), none]) ⟨rfl, ⟨rfl, ⟨rfl, trivial⟩⟩⟩ ?_
    obtain ⟨n, h⟩ := h
    exact wLk_X12_findLikely_109 n _ _ h
  · have h := h2 q10
    refine aG_if (cd := .ne) (b := true) (aTne1 q10) rfl ?_
    refine aG_n 0 (s' := (148, [some (.ref 0), some (.int z1), none, none], [], mkM M)) rfl ?_
    exact aG_retV rfl rfl ⟨_, rfl, h⟩
def wb_X12_findLikely_73 (z1 : Int32) (K73 : Int32 → wM → Prop) (y2 : Int32) (M : wM) (Q : wM → Prop) : Prop := w_X12_faults M (fun r7 M8 => (r7 ≤ y2 → wj_X12_findLikely_95 z1 M8 Q) ∧ (¬ r7 ≤ y2 → w_X12_tries z1 y2 (-4) M8 (fun M20 => K73 (y2 + (nI 1)) M20)))
set_option maxRecDepth 20000 in
theorem wbk_X12_findLikely_73 {z1 : Int32} {K73 : Int32 → wM → Prop} {y2 : Int32} {M : wM} {Q : wM → Prop} (hK73 : ∀ (v2 : Int32) (M : wM), K73 v2 M → aG 198 (73, [some (.ref 0), some (.int z1), some (.int v2), none], [], mkM M) (aPv mkM Q)) (h : wb_X12_findLikely_73 z1 K73 y2 M Q) : aG 198 (73, [some (.ref 0), some (.int z1), some (.int y2), none], [], mkM M) (aPv mkM Q) := by
  unfold wb_X12_findLikely_73 at h
  refine aG_n 2 (s' := (75, [some (.ref 0), some (.int z1), some (.int y2), none], [(.ref 0), (.int y2)], mkM M)) rfl ?_
  refine aG_call rfl rfl (aG_mono (wk_X12_faults h) ?_)
  rintro _ ⟨r7, M8, rfl, h⟩
  refine aG_n 0 (s' := (78, [some (.ref 0), some (.int z1), some (.int y2), none], [(.int r7), (.int y2)], mkM M8)) rfl ?_
  obtain ⟨h1, h2⟩ := h
  by_cases q9 : r7 ≤ y2
  · have h := h1 q9
    refine aG_icmp (cd := .ge) (b := true) (decide_eq_true q9) rfl ?_
    refine aG_n 0 (s' := (95, [some (.ref 0), some (.int z1), some (.int y2), none], [], mkM M8)) rfl ?_
    refine aG_le (a := [some (.ref 0), some (.int z1), none, none]) ⟨rfl, ⟨rfl, trivial⟩⟩ ?_
    exact wjk_X12_findLikely_95 h
  · have h := h2 q9
    refine aG_icmp (cd := .ge) (b := false) (decide_eq_false q9) rfl ?_
    refine aG_n 4 (s' := (86, [some (.ref 0), some (.int z1), some (.int y2), none], [(.int (-4)), (.int y2), (.int z1), (.ref 0)], mkM M8)) rfl ?_
    refine aG_call rfl rfl (aG_mono (wk_X12_tries h) ?_)
    rintro _ ⟨M20, rfl, h⟩
    refine aG_n 2 (s' := (73, [some (.ref 0), some (.int z1), some (.int (y2 + (nI 1))), none], [], mkM M20)) rfl ?_
    refine aG_le (a := [some (.ref 0), some (.int z1), some (.int (y2 + (nI 1))), none]) ⟨rfl, ⟨rfl, ⟨rfl, trivial⟩⟩⟩ ?_
    exact hK73 _ _ h
def wL_X12_findLikely_73 (z1 : Int32) (Q : wM → Prop) : Nat → Int32 → wM → Prop
  | 0, _, _ => False
  | n + 1, y2, M => wb_X12_findLikely_73 z1 (wL_X12_findLikely_73 z1 Q n) y2 M Q
set_option maxRecDepth 20000 in
theorem wLk_X12_findLikely_73 {z1 : Int32} {Q : wM → Prop} : ∀ (n : Nat) (y2 : Int32) (M : wM), wL_X12_findLikely_73 z1 Q n y2 M → aG 198 (73, [some (.ref 0), some (.int z1), some (.int y2), none], [], mkM M) (aPv mkM Q)
  | 0, _, _, h => h.elim
  | n + 1, y2, M, h => wbk_X12_findLikely_73 (fun y2 M h => wLk_X12_findLikely_73 n y2 M h) h
def wb_X12_findLikely_14 (z1 : Int32) (K14 : Int32 → wM → Prop) (y2 : Int32) (M : wM) (Q : wM → Prop) : Prop := ((gi M 0 41) ≤ y2 → w_X12_tries z1 (-4) (-4) (si (si M 0 48 (nI 0)) 0 49 (nI 0)) (fun M5 => ((gi M5 0 48) = (nI 0) → ∃ n, wL_X12_findLikely_73 z1 Q n (nI 0) (si M5 0 49 (nI 1))) ∧ (¬ (gi M5 0 48) = (nI 0) → wj_X12_findLikely_95 z1 M5 Q))) ∧ (¬ (gi M 0 41) ≤ y2 → w_X12_answerNow z1 y2 M (fun r21 M22 => vp_in y2 8 ∧ (K14 (y2 + (nI 1)) (si M22 37 y2.toNatClampNeg r21))))
set_option maxRecDepth 20000 in
theorem wbk_X12_findLikely_14 {z1 : Int32} {K14 : Int32 → wM → Prop} {y2 : Int32} {M : wM} {Q : wM → Prop} (hK14 : ∀ (v2 : Int32) (M : wM), K14 v2 M → aG 198 (14, [some (.ref 0), some (.int z1), some (.int v2), none], [], mkM M) (aPv mkM Q)) (h : wb_X12_findLikely_14 z1 K14 y2 M Q) : aG 198 (14, [some (.ref 0), some (.int z1), some (.int y2), none], [], mkM M) (aPv mkM Q) := by
  unfold wb_X12_findLikely_14 at h
  refine aG_n 3 (s' := (19, [some (.ref 0), some (.int z1), some (.int y2), none], [(.int (gi M 0 41)), (.int y2)], mkM M)) rfl ?_
  obtain ⟨h1, h2⟩ := h
  by_cases q3 : (gi M 0 41) ≤ y2
  · have h := h1 q3
    refine aG_icmp (cd := .ge) (b := true) (decide_eq_true q3) rfl ?_
    refine aG_n 10 (s' := (56, [some (.ref 0), some (.int z1), some (.int y2), none], [(.int (-4)), (.int (-4)), (.int z1), (.ref 0)], mkM (si (si M 0 48 (nI 0)) 0 49 (nI 0)))) rfl ?_
    refine aG_call rfl rfl (aG_mono (wk_X12_tries h) ?_)
    rintro _ ⟨M5, rfl, h⟩
    refine aG_n 2 (s' := (63, [some (.ref 0), some (.int z1), some (.int y2), none], [(.int (gi M5 0 48))], mkM M5)) rfl ?_
    obtain ⟨h1, h2⟩ := h
    by_cases q6 : (gi M5 0 48) = (nI 0)
    · have h := h1 q6
      refine aG_if (cd := .ne) (b := false) (aTne0 q6) rfl ?_
      refine aG_n 5 (s' := (73, [some (.ref 0), some (.int z1), some (.int (nI 0)), none], [], mkM (si M5 0 49 (nI 1)))) rfl ?_
      refine aG_le (a := [some (.ref 0), some (.int z1), some (.int (nI 0)), none]) ⟨rfl, ⟨rfl, ⟨rfl, trivial⟩⟩⟩ ?_
      obtain ⟨n, h⟩ := h
      exact wLk_X12_findLikely_73 n _ _ h
    · have h := h2 q6
      refine aG_if (cd := .ne) (b := true) (aTne1 q6) rfl ?_
      refine aG_n 0 (s' := (95, [some (.ref 0), some (.int z1), some (.int y2), none], [], mkM M5)) rfl ?_
      refine aG_le (a := [some (.ref 0), some (.int z1), none, none]) ⟨rfl, ⟨rfl, trivial⟩⟩ ?_
      exact wjk_X12_findLikely_95 h
  · have h := h2 q3
    refine aG_icmp (cd := .ge) (b := false) (decide_eq_false q3) rfl ?_
    refine aG_n 6 (s' := (30, [some (.ref 0), some (.int z1), some (.int y2), none], [(.int y2), (.int z1), (.ref 0), (.int y2), (.ref 37)], mkM M)) rfl ?_
    refine aG_call rfl rfl (aG_mono (wk_X12_answerNow h) ?_)
    rintro _ ⟨r21, M22, rfl, h⟩
    refine aG_n 0 (s' := (33, [some (.ref 0), some (.int z1), some (.int y2), none], [(.int r21), (.int y2), (.ref 37)], mkM M22)) rfl ?_
    obtain ⟨f23, h⟩ := h
    refine aG_iast rfl rfl f23 ?_
    refine aG_n 2 (s' := (14, [some (.ref 0), some (.int z1), some (.int (y2 + (nI 1))), none], [], mkM (si M22 37 y2.toNatClampNeg r21))) rfl ?_
    refine aG_le (a := [some (.ref 0), some (.int z1), some (.int (y2 + (nI 1))), none]) ⟨rfl, ⟨rfl, ⟨rfl, trivial⟩⟩⟩ ?_
    exact hK14 _ _ h
def wL_X12_findLikely_14 (z1 : Int32) (Q : wM → Prop) : Nat → Int32 → wM → Prop
  | 0, _, _ => False
  | n + 1, y2, M => wb_X12_findLikely_14 z1 (wL_X12_findLikely_14 z1 Q n) y2 M Q
set_option maxRecDepth 20000 in
theorem wLk_X12_findLikely_14 {z1 : Int32} {Q : wM → Prop} : ∀ (n : Nat) (y2 : Int32) (M : wM), wL_X12_findLikely_14 z1 Q n y2 M → aG 198 (14, [some (.ref 0), some (.int z1), some (.int y2), none], [], mkM M) (aPv mkM Q)
  | 0, _, _, h => h.elim
  | n + 1, y2, M, h => wbk_X12_findLikely_14 (fun y2 M h => wLk_X12_findLikely_14 n y2 M h) h
def w_X12_findLikely (x1 : Int32) (M : wM) (Q : wM → Prop) : Prop := w_X12_findTogether 28 27 M (fun M2 => ∃ n, wL_X12_findLikely_14 x1 Q n (nI 0) M2)
set_option maxRecDepth 20000 in
theorem wk_X12_findLikely {x1 : Int32} {M : wM} {Q : wM → Prop} (h : w_X12_findLikely x1 M Q) : aG 198 (aEn 198 [(.ref 0), (.int x1)] (mkM M)) (aPv mkM Q) := by
  unfold w_X12_findLikely at h
  refine aG_n 5 (s' := (9, [some (.ref 0), some (.int x1), none, none], [(.ref 27), (.ref 28), (.ref 0)], mkM M)) rfl ?_
  refine aG_call rfl rfl (aG_mono (wk_X12_findTogether h) ?_)
  rintro _ ⟨M2, rfl, h⟩
  refine aG_n 2 (s' := (14, [some (.ref 0), some (.int x1), some (.int (nI 0)), none], [], mkM M2)) rfl ?_
  refine aG_le (a := [some (.ref 0), some (.int x1), some (.int (nI 0)), none]) ⟨rfl, ⟨rfl, ⟨rfl, trivial⟩⟩⟩ ?_
  obtain ⟨n, h⟩ := h
  exact wLk_X12_findLikely_14 n _ _ h
def wj_X0_shiftRow_52 (z2 : Nat) (z3 : Int32) (z4 : Int32) (z5 : Int32) (z6 : Int32) (s1 : Int32) (s3 : Int32) (K24 : Int32 → wM → Prop) (M : wM) (Q : Int32 → wM → Prop) : Prop := vp_in (z3 + z6) (lnX z2) ∧ (w_X11_bit (gi M z2 (z3 + z6).toNatClampNeg) (nI 0) M (fun r9 M10 => (r9 = (nI 1) → w_X0_step s3 (nI 1) M10 (fun r12 M13 => vp_in s1 99 ∧ (K24 (z6 + (nI 1)) (si M13 32 s1.toNatClampNeg r12)))) ∧ (¬ r9 = (nI 1) → w_X0_step s3 (nI 0) M10 (fun r15 M16 => vp_in s1 99 ∧ (K24 (z6 + (nI 1)) (si M16 32 s1.toNatClampNeg r15))))))
set_option maxRecDepth 20000 in
theorem wjk_X0_shiftRow_52 {z2 : Nat} {z3 : Int32} {z4 : Int32} {z5 : Int32} {z6 : Int32} {s1 : Int32} {s3 : Int32} {K24 : Int32 → wM → Prop} {M : wM} {Q : Int32 → wM → Prop} (hz2 : iaX z2) (hK24 : ∀ (v6 : Int32) (M : wM), K24 v6 M → aG 199 (24, [some (.ref 26), none, some (.ref z2), some (.int z3), some (.int z4), some (.int z5), some (.int v6)], [], mkX M) (aPi mkX Q)) (h : wj_X0_shiftRow_52 z2 z3 z4 z5 z6 s1 s3 K24 M Q) : aG 199 (52, [some (.ref 26), none, some (.ref z2), some (.int z3), some (.int z4), some (.int z5), some (.int z6)], [(.int s3), (.ref 26), (.int s1), (.ref 32)], mkX M) (aPi mkX Q) := by
  unfold wj_X0_shiftRow_52 at h
  refine aG_n 4 (s' := (57, [some (.ref 26), none, some (.ref z2), some (.int z3), some (.int z4), some (.int z5), some (.int z6)], [(.int (z3 + z6)), (.ref z2), (.int s3), (.ref 26), (.int s1), (.ref 32)], mkX M)) rfl ?_
  obtain ⟨f8, h⟩ := h
  refine aG_iald rfl hz2 rfl f8 ?_
  refine aG_n 1 (s' := (59, [some (.ref 26), none, some (.ref z2), some (.int z3), some (.int z4), some (.int z5), some (.int z6)], [(.int (nI 0)), (.int (gi M z2 (z3 + z6).toNatClampNeg)), (.int s3), (.ref 26), (.int s1), (.ref 32)], mkX M)) rfl ?_
  refine aG_call rfl rfl (aG_mono (wk_X11_bit h) ?_)
  rintro _ ⟨r9, M10, rfl, h⟩
  refine aG_n 1 (s' := (63, [some (.ref 26), none, some (.ref z2), some (.int z3), some (.int z4), some (.int z5), some (.int z6)], [(.int (nI 1)), (.int r9), (.int s3), (.ref 26), (.int s1), (.ref 32)], mkX M10)) rfl ?_
  obtain ⟨h1, h2⟩ := h
  by_cases q11 : r9 = (nI 1)
  · have h := h1 q11
    refine aG_icmp (cd := .ne) (b := false) (aTne0 q11) rfl ?_
    refine aG_n 2 (s' := (71, [some (.ref 26), none, some (.ref z2), some (.int z3), some (.int z4), some (.int z5), some (.int z6)], [(.int (nI 1)), (.int s3), (.ref 26), (.int s1), (.ref 32)], mkX M10)) rfl ?_
    refine aG_call rfl rfl (aG_mono (wk_X0_step h) ?_)
    rintro _ ⟨r12, M13, rfl, h⟩
    refine aG_n 0 (s' := (74, [some (.ref 26), none, some (.ref z2), some (.int z3), some (.int z4), some (.int z5), some (.int z6)], [(.int r12), (.int s1), (.ref 32)], mkX M13)) rfl ?_
    obtain ⟨f14, h⟩ := h
    refine aG_iast rfl rfl f14 ?_
    refine aG_n 2 (s' := (24, [some (.ref 26), none, some (.ref z2), some (.int z3), some (.int z4), some (.int z5), some (.int (z6 + (nI 1)))], [], mkX (si M13 32 s1.toNatClampNeg r12))) rfl ?_
    refine aG_le (a := [some (.ref 26), none, some (.ref z2), some (.int z3), some (.int z4), some (.int z5), some (.int (z6 + (nI 1)))]) ⟨rfl, ⟨rfl, ⟨rfl, ⟨rfl, ⟨rfl, ⟨rfl, trivial⟩⟩⟩⟩⟩⟩ ?_
    exact hK24 _ _ h
  · have h := h2 q11
    refine aG_icmp (cd := .ne) (b := true) (aTne1 q11) rfl ?_
    refine aG_n 1 (s' := (71, [some (.ref 26), none, some (.ref z2), some (.int z3), some (.int z4), some (.int z5), some (.int z6)], [(.int (nI 0)), (.int s3), (.ref 26), (.int s1), (.ref 32)], mkX M10)) rfl ?_
    refine aG_call rfl rfl (aG_mono (wk_X0_step h) ?_)
    rintro _ ⟨r15, M16, rfl, h⟩
    refine aG_n 0 (s' := (74, [some (.ref 26), none, some (.ref z2), some (.int z3), some (.int z4), some (.int z5), some (.int z6)], [(.int r15), (.int s1), (.ref 32)], mkX M16)) rfl ?_
    obtain ⟨f17, h⟩ := h
    refine aG_iast rfl rfl f17 ?_
    refine aG_n 2 (s' := (24, [some (.ref 26), none, some (.ref z2), some (.int z3), some (.int z4), some (.int z5), some (.int (z6 + (nI 1)))], [], mkX (si M16 32 s1.toNatClampNeg r15))) rfl ?_
    refine aG_le (a := [some (.ref 26), none, some (.ref z2), some (.int z3), some (.int z4), some (.int z5), some (.int (z6 + (nI 1)))]) ⟨rfl, ⟨rfl, ⟨rfl, ⟨rfl, ⟨rfl, ⟨rfl, trivial⟩⟩⟩⟩⟩⟩ ?_
    exact hK24 _ _ h
def wb_X0_shiftRow_24 (z2 : Nat) (z3 : Int32) (z4 : Int32) (z5 : Int32) (K24 : Int32 → wM → Prop) (y6 : Int32) (M : wM) (Q : Int32 → wM → Prop) : Prop := (z4 ≤ y6 → w_X0_walk (nI 1) (si M 26 8 z4) (fun r5 M6 => Q ((gi M6 26 6) - z5) M6)) ∧ (¬ z4 ≤ y6 → (y6 = (z4 - (nI 1)) → wj_X0_shiftRow_52 z2 z3 z4 z5 y6 y6 (nI 1) K24 M Q) ∧ (¬ y6 = (z4 - (nI 1)) → wj_X0_shiftRow_52 z2 z3 z4 z5 y6 y6 (nI 0) K24 M Q))
set_option maxRecDepth 20000 in
theorem wbk_X0_shiftRow_24 {z2 : Nat} {z3 : Int32} {z4 : Int32} {z5 : Int32} {K24 : Int32 → wM → Prop} {y6 : Int32} {M : wM} {Q : Int32 → wM → Prop} (hz2 : iaX z2) (hK24 : ∀ (v6 : Int32) (M : wM), K24 v6 M → aG 199 (24, [some (.ref 26), none, some (.ref z2), some (.int z3), some (.int z4), some (.int z5), some (.int v6)], [], mkX M) (aPi mkX Q)) (h : wb_X0_shiftRow_24 z2 z3 z4 z5 K24 y6 M Q) : aG 199 (24, [some (.ref 26), none, some (.ref z2), some (.int z3), some (.int z4), some (.int z5), some (.int y6)], [], mkX M) (aPi mkX Q) := by
  unfold wb_X0_shiftRow_24 at h
  refine aG_n 2 (s' := (28, [some (.ref 26), none, some (.ref z2), some (.int z3), some (.int z4), some (.int z5), some (.int y6)], [(.int z4), (.int y6)], mkX M)) rfl ?_
  obtain ⟨h1, h2⟩ := h
  by_cases q4 : z4 ≤ y6
  · have h := h1 q4
    refine aG_icmp (cd := .ge) (b := true) (decide_eq_true q4) rfl ?_
    refine aG_n 5 (s' := (89, [some (.ref 26), none, some (.ref z2), some (.int z3), some (.int z4), some (.int z5), some (.int y6)], [(.int (nI 1)), (.ref 26)], mkX (si M 26 8 z4))) rfl ?_
    refine aG_call rfl rfl (aG_mono (wk_X0_walk h) ?_)
    rintro _ ⟨r5, M6, rfl, h⟩
    refine aG_n 5 (s' := (100, [some (.ref 26), none, some (.ref z2), some (.int z3), some (.int z4), some (.int z5), some (.int y6)], [(.int ((gi M6 26 6) - z5))], mkX M6)) rfl ?_
    exact aG_ret0 rfl rfl ⟨_, _, rfl, h⟩
  · have h := h2 q4
    refine aG_icmp (cd := .ge) (b := false) (decide_eq_false q4) rfl ?_
    refine aG_n 8 (s' := (44, [some (.ref 26), none, some (.ref z2), some (.int z3), some (.int z4), some (.int z5), some (.int y6)], [(.int (z4 - (nI 1))), (.int y6), (.ref 26), (.int y6), (.ref 32)], mkX M)) rfl ?_
    obtain ⟨h1, h2⟩ := h
    by_cases q7 : y6 = (z4 - (nI 1))
    · have h := h1 q7
      refine aG_icmp (cd := .ne) (b := false) (aTne0 q7) rfl ?_
      refine aG_n 2 (s' := (52, [some (.ref 26), none, some (.ref z2), some (.int z3), some (.int z4), some (.int z5), some (.int y6)], [(.int (nI 1)), (.ref 26), (.int y6), (.ref 32)], mkX M)) rfl ?_
      refine aG_le (a := [some (.ref 26), none, some (.ref z2), some (.int z3), some (.int z4), some (.int z5), some (.int y6)]) ⟨rfl, ⟨rfl, ⟨rfl, ⟨rfl, ⟨rfl, ⟨rfl, trivial⟩⟩⟩⟩⟩⟩ ?_
      exact wjk_X0_shiftRow_52 hz2 hK24 h
    · have h := h2 q7
      refine aG_icmp (cd := .ne) (b := true) (aTne1 q7) rfl ?_
      refine aG_n 1 (s' := (52, [some (.ref 26), none, some (.ref z2), some (.int z3), some (.int z4), some (.int z5), some (.int y6)], [(.int (nI 0)), (.ref 26), (.int y6), (.ref 32)], mkX M)) rfl ?_
      refine aG_le (a := [some (.ref 26), none, some (.ref z2), some (.int z3), some (.int z4), some (.int z5), some (.int y6)]) ⟨rfl, ⟨rfl, ⟨rfl, ⟨rfl, ⟨rfl, ⟨rfl, trivial⟩⟩⟩⟩⟩⟩ ?_
      exact wjk_X0_shiftRow_52 hz2 hK24 h
def wL_X0_shiftRow_24 (z2 : Nat) (z3 : Int32) (z4 : Int32) (z5 : Int32) (Q : Int32 → wM → Prop) : Nat → Int32 → wM → Prop
  | 0, _, _ => False
  | n + 1, y6, M => wb_X0_shiftRow_24 z2 z3 z4 z5 (wL_X0_shiftRow_24 z2 z3 z4 z5 Q n) y6 M Q
set_option maxRecDepth 20000 in
theorem wLk_X0_shiftRow_24 {z2 : Nat} {z3 : Int32} {z4 : Int32} {z5 : Int32} {Q : Int32 → wM → Prop} (hz2 : iaX z2) : ∀ (n : Nat) (y6 : Int32) (M : wM), wL_X0_shiftRow_24 z2 z3 z4 z5 Q n y6 M → aG 199 (24, [some (.ref 26), none, some (.ref z2), some (.int z3), some (.int z4), some (.int z5), some (.int y6)], [], mkX M) (aPi mkX Q)
  | 0, _, _, h => h.elim
  | n + 1, y6, M, h => wbk_X0_shiftRow_24 hz2 (fun y6 M h => wLk_X0_shiftRow_24 hz2 n y6 M h) h
def wj_X0_shiftRow_17 (z2 : Nat) (z3 : Int32) (z4 : Int32) (z5 : Int32) (s1 : Int32) (M : wM) (Q : Int32 → wM → Prop) : Prop := w_X0_walk s1 M (fun r2 M3 => ∃ n, wL_X0_shiftRow_24 z2 z3 z4 z5 Q n (nI 0) M3)
set_option maxRecDepth 20000 in
theorem wjk_X0_shiftRow_17 {z2 : Nat} {z3 : Int32} {z4 : Int32} {z5 : Int32} {s1 : Int32} {M : wM} {Q : Int32 → wM → Prop} (hz2 : iaX z2) (h : wj_X0_shiftRow_17 z2 z3 z4 z5 s1 M Q) : aG 199 (17, [some (.ref 26), none, some (.ref z2), some (.int z3), some (.int z4), some (.int z5), none], [(.int s1), (.ref 26)], mkX M) (aPi mkX Q) := by
  unfold wj_X0_shiftRow_17 at h
  refine aG_call rfl rfl (aG_mono (wk_X0_walk h) ?_)
  rintro _ ⟨r2, M3, rfl, h⟩
  refine aG_n 3 (s' := (24, [some (.ref 26), none, some (.ref z2), some (.int z3), some (.int z4), some (.int z5), some (.int (nI 0))], [], mkX M3)) rfl ?_
  refine aG_le (a := [some (.ref 26), none, some (.ref z2), some (.int z3), some (.int z4), some (.int z5), some (.int (nI 0))]) ⟨rfl, ⟨rfl, ⟨rfl, ⟨rfl, ⟨rfl, ⟨rfl, trivial⟩⟩⟩⟩⟩⟩ ?_
  obtain ⟨n, h⟩ := h
  exact wLk_X0_shiftRow_24 hz2 n _ _ h
def w_X0_shiftRow (x1 : Int32) (x2 : Nat) (x3 : Int32) (x4 : Int32) (M : wM) (Q : Int32 → wM → Prop) : Prop := iaX x2 ∧ ((x1 = (nI 0) → wj_X0_shiftRow_17 x2 x3 x4 (gi M 26 6) (nI 4) M Q) ∧ (¬ x1 = (nI 0) → wj_X0_shiftRow_17 x2 x3 x4 (gi M 26 6) (nI 11) M Q))
set_option maxRecDepth 20000 in
theorem wk_X0_shiftRow {x1 : Int32} {x2 : Nat} {x3 : Int32} {x4 : Int32} {M : wM} {Q : Int32 → wM → Prop} (h : w_X0_shiftRow x1 x2 x3 x4 M Q) : aG 199 (aEn 199 [(.ref 26), (.int x1), (.ref x2), (.int x3), (.int x4)] (mkX M)) (aPi mkX Q) := by
  unfold w_X0_shiftRow at h
  obtain ⟨hx2, h⟩ := h
  refine aG_n 5 (s' := (8, [some (.ref 26), some (.int x1), some (.ref x2), some (.int x3), some (.int x4), some (.int (gi M 26 6)), none], [(.int x1), (.ref 26)], mkX M)) rfl ?_
  obtain ⟨h1, h2⟩ := h
  by_cases q1 : x1 = (nI 0)
  · have h := h1 q1
    refine aG_if (cd := .eq) (b := true) (decide_eq_true q1) rfl ?_
    refine aG_n 1 (s' := (17, [some (.ref 26), some (.int x1), some (.ref x2), some (.int x3), some (.int x4), some (.int (gi M 26 6)), none], [(.int (nI 4)), (.ref 26)], mkX M)) rfl ?_
    refine aG_le (a := [some (.ref 26), none, some (.ref x2), some (.int x3), some (.int x4), some (.int (gi M 26 6)), none]) ⟨rfl, ⟨rfl, ⟨rfl, ⟨rfl, ⟨rfl, trivial⟩⟩⟩⟩⟩ ?_
    exact wjk_X0_shiftRow_17 hx2 h
  · have h := h2 q1
    refine aG_if (cd := .eq) (b := false) (decide_eq_false q1) rfl ?_
    refine aG_n 2 (s' := (17, [some (.ref 26), some (.int x1), some (.ref x2), some (.int x3), some (.int x4), some (.int (gi M 26 6)), none], [(.int (nI 11)), (.ref 26)], mkX M)) rfl ?_
    refine aG_le (a := [some (.ref 26), none, some (.ref x2), some (.int x3), some (.int x4), some (.int (gi M 26 6)), none]) ⟨rfl, ⟨rfl, ⟨rfl, ⟨rfl, ⟨rfl, trivial⟩⟩⟩⟩⟩ ?_
    exact wjk_X0_shiftRow_17 hx2 h
def wb_X6_countChips_93 (K93 : Int32 → wM → Prop) (y2 : Int32) (M : wM) (Q : Int32 → wM → Prop) : Prop := ((nI 20) ≤ y2 → Q (-4) M) ∧ (¬ (nI 20) ≤ y2 → w_X0_step (nI 0) (nI 1) M (fun r11 M12 => (r11 = (nI 1) → Q y2 M12) ∧ (¬ r11 = (nI 1) → K93 (y2 + (nI 1)) M12)))
set_option maxRecDepth 20000 in
theorem wbk_X6_countChips_93 {K93 : Int32 → wM → Prop} {y2 : Int32} {M : wM} {Q : Int32 → wM → Prop} (hK93 : ∀ (v2 : Int32) (M : wM), K93 v2 M → aG 200 (93, [some (.ref 52), none, some (.int v2)], [], mkX M) (aPi mkX Q)) (h : wb_X6_countChips_93 K93 y2 M Q) : aG 200 (93, [some (.ref 52), none, some (.int y2)], [], mkX M) (aPi mkX Q) := by
  unfold wb_X6_countChips_93 at h
  refine aG_n 2 (s' := (96, [some (.ref 52), none, some (.int y2)], [(.int (nI 20)), (.int y2)], mkX M)) rfl ?_
  obtain ⟨h1, h2⟩ := h
  by_cases q10 : (nI 20) ≤ y2
  · have h := h1 q10
    refine aG_icmp (cd := .ge) (b := true) (decide_eq_true q10) rfl ?_
    refine aG_n 1 (s' := (122, [some (.ref 52), none, some (.int y2)], [(.int (-4))], mkX M)) rfl ?_
    exact aG_ret0 rfl rfl ⟨_, _, rfl, h⟩
  · have h := h2 q10
    refine aG_icmp (cd := .ge) (b := false) (decide_eq_false q10) rfl ?_
    refine aG_n 4 (s' := (105, [some (.ref 52), none, some (.int y2)], [(.int (nI 1)), (.int (nI 0)), (.ref 26)], mkX M)) rfl ?_
    refine aG_call rfl rfl (aG_mono (wk_X0_step h) ?_)
    rintro _ ⟨r11, M12, rfl, h⟩
    refine aG_n 1 (s' := (109, [some (.ref 52), none, some (.int y2)], [(.int (nI 1)), (.int r11)], mkX M12)) rfl ?_
    obtain ⟨h1, h2⟩ := h
    by_cases q13 : r11 = (nI 1)
    · have h := h1 q13
      refine aG_icmp (cd := .ne) (b := false) (aTne0 q13) rfl ?_
      refine aG_n 1 (s' := (113, [some (.ref 52), none, some (.int y2)], [(.int y2)], mkX M12)) rfl ?_
      exact aG_ret0 rfl rfl ⟨_, _, rfl, h⟩
    · have h := h2 q13
      refine aG_icmp (cd := .ne) (b := true) (aTne1 q13) rfl ?_
      refine aG_n 2 (s' := (93, [some (.ref 52), none, some (.int (y2 + (nI 1)))], [], mkX M12)) rfl ?_
      refine aG_le (a := [some (.ref 52), none, some (.int (y2 + (nI 1)))]) ⟨rfl, ⟨rfl, trivial⟩⟩ ?_
      exact hK93 _ _ h
def wL_X6_countChips_93 (Q : Int32 → wM → Prop) : Nat → Int32 → wM → Prop
  | 0, _, _ => False
  | n + 1, y2, M => wb_X6_countChips_93 (wL_X6_countChips_93 Q n) y2 M Q
set_option maxRecDepth 20000 in
theorem wLk_X6_countChips_93 {Q : Int32 → wM → Prop} : ∀ (n : Nat) (y2 : Int32) (M : wM), wL_X6_countChips_93 Q n y2 M → aG 200 (93, [some (.ref 52), none, some (.int y2)], [], mkX M) (aPi mkX Q)
  | 0, _, _, h => h.elim
  | n + 1, y2, M, h => wbk_X6_countChips_93 (fun y2 M h => wLk_X6_countChips_93 n y2 M h) h
def wb_X6_countChips_61 (K61 : Int32 → Int32 → wM → Prop) (y1 : Int32) (y2 : Int32) (M : wM) (Q : Int32 → wM → Prop) : Prop := ((nI 20) ≤ y2 → (y1 = (nI 1) → Q (-4) M) ∧ (¬ y1 = (nI 1) → ∃ n, wL_X6_countChips_93 Q n (nI 0) M)) ∧ (¬ (nI 20) ≤ y2 → w_X0_step (nI 0) (nI 0) M (fun r14 M15 => K61 r14 (y2 + (nI 1)) M15))
set_option maxRecDepth 20000 in
theorem wbk_X6_countChips_61 {K61 : Int32 → Int32 → wM → Prop} {y1 : Int32} {y2 : Int32} {M : wM} {Q : Int32 → wM → Prop} (hK61 : ∀ (v1 : Int32) (v2 : Int32) (M : wM), K61 v1 v2 M → aG 200 (61, [some (.ref 52), some (.int v1), some (.int v2)], [], mkX M) (aPi mkX Q)) (h : wb_X6_countChips_61 K61 y1 y2 M Q) : aG 200 (61, [some (.ref 52), some (.int y1), some (.int y2)], [], mkX M) (aPi mkX Q) := by
  unfold wb_X6_countChips_61 at h
  refine aG_n 2 (s' := (64, [some (.ref 52), some (.int y1), some (.int y2)], [(.int (nI 20)), (.int y2)], mkX M)) rfl ?_
  obtain ⟨h1, h2⟩ := h
  by_cases q8 : (nI 20) ≤ y2
  · have h := h1 q8
    refine aG_icmp (cd := .ge) (b := true) (decide_eq_true q8) rfl ?_
    refine aG_n 2 (s' := (85, [some (.ref 52), some (.int y1), some (.int y2)], [(.int (nI 1)), (.int y1)], mkX M)) rfl ?_
    obtain ⟨h1, h2⟩ := h
    by_cases q9 : y1 = (nI 1)
    · have h := h1 q9
      refine aG_icmp (cd := .ne) (b := false) (aTne0 q9) rfl ?_
      refine aG_n 1 (s' := (90, [some (.ref 52), some (.int y1), some (.int y2)], [(.int (-4))], mkX M)) rfl ?_
      exact aG_ret0 rfl rfl ⟨_, _, rfl, h⟩
    · have h := h2 q9
      refine aG_icmp (cd := .ne) (b := true) (aTne1 q9) rfl ?_
      refine aG_n 2 (s' := (93, [some (.ref 52), some (.int y1), some (.int (nI 0))], [], mkX M)) rfl ?_
      refine aG_le (a := [some (.ref 52), none, some (.int (nI 0))]) ⟨rfl, ⟨rfl, trivial⟩⟩ ?_
      obtain ⟨n, h⟩ := h
      exact wLk_X6_countChips_93 n _ _ h
  · have h := h2 q8
    refine aG_icmp (cd := .ge) (b := false) (decide_eq_false q8) rfl ?_
    refine aG_n 4 (s' := (73, [some (.ref 52), some (.int y1), some (.int y2)], [(.int (nI 0)), (.int (nI 0)), (.ref 26)], mkX M)) rfl ?_
    refine aG_call rfl rfl (aG_mono (wk_X0_step h) ?_)
    rintro _ ⟨r14, M15, rfl, h⟩
    refine aG_n 3 (s' := (61, [some (.ref 52), some (.int r14), some (.int (y2 + (nI 1)))], [], mkX M15)) rfl ?_
    refine aG_le (a := [some (.ref 52), some (.int r14), some (.int (y2 + (nI 1)))]) ⟨rfl, ⟨rfl, ⟨rfl, trivial⟩⟩⟩ ?_
    exact hK61 _ _ _ h
def wL_X6_countChips_61 (Q : Int32 → wM → Prop) : Nat → Int32 → Int32 → wM → Prop
  | 0, _, _, _ => False
  | n + 1, y1, y2, M => wb_X6_countChips_61 (wL_X6_countChips_61 Q n) y1 y2 M Q
set_option maxRecDepth 20000 in
theorem wLk_X6_countChips_61 {Q : Int32 → wM → Prop} : ∀ (n : Nat) (y1 : Int32) (y2 : Int32) (M : wM), wL_X6_countChips_61 Q n y1 y2 M → aG 200 (61, [some (.ref 52), some (.int y1), some (.int y2)], [], mkX M) (aPi mkX Q)
  | 0, _, _, _, h => h.elim
  | n + 1, y1, y2, M, h => wbk_X6_countChips_61 (fun y1 y2 M h => wLk_X6_countChips_61 n y1 y2 M h) h
def wb_X6_countChips_16 (K16 : Int32 → wM → Prop) (y1 : Int32) (M : wM) (Q : Int32 → wM → Prop) : Prop := ((nI 64) ≤ y1 → w_X0_walk (nI 4) M (fun r6 M7 => ∃ n, wL_X6_countChips_61 Q n (nI 0) (nI 0) M7)) ∧ (¬ (nI 64) ≤ y1 → (y1 = (nI 63) → w_X0_step (nI 1) (nI 1) M (fun r17 M18 => K16 (y1 + (nI 1)) M18)) ∧ (¬ y1 = (nI 63) → w_X0_step (nI 0) (nI 1) M (fun r19 M20 => K16 (y1 + (nI 1)) M20)))
set_option maxRecDepth 20000 in
theorem wbk_X6_countChips_16 {K16 : Int32 → wM → Prop} {y1 : Int32} {M : wM} {Q : Int32 → wM → Prop} (hK16 : ∀ (v1 : Int32) (M : wM), K16 v1 M → aG 200 (16, [some (.ref 52), some (.int v1), none], [], mkX M) (aPi mkX Q)) (h : wb_X6_countChips_16 K16 y1 M Q) : aG 200 (16, [some (.ref 52), some (.int y1), none], [], mkX M) (aPi mkX Q) := by
  unfold wb_X6_countChips_16 at h
  refine aG_n 2 (s' := (19, [some (.ref 52), some (.int y1), none], [(.int (nI 64)), (.int y1)], mkX M)) rfl ?_
  obtain ⟨h1, h2⟩ := h
  by_cases q5 : (nI 64) ≤ y1
  · have h := h1 q5
    refine aG_icmp (cd := .ge) (b := true) (decide_eq_true q5) rfl ?_
    refine aG_n 3 (s' := (53, [some (.ref 52), some (.int y1), none], [(.int (nI 4)), (.ref 26)], mkX M)) rfl ?_
    refine aG_call rfl rfl (aG_mono (wk_X0_walk h) ?_)
    rintro _ ⟨r6, M7, rfl, h⟩
    refine aG_n 5 (s' := (61, [some (.ref 52), some (.int (nI 0)), some (.int (nI 0))], [], mkX M7)) rfl ?_
    refine aG_le (a := [some (.ref 52), some (.int (nI 0)), some (.int (nI 0))]) ⟨rfl, ⟨rfl, ⟨rfl, trivial⟩⟩⟩ ?_
    obtain ⟨n, h⟩ := h
    exact wLk_X6_countChips_61 n _ _ _ h
  · have h := h2 q5
    refine aG_icmp (cd := .ge) (b := false) (decide_eq_false q5) rfl ?_
    refine aG_n 4 (s' := (29, [some (.ref 52), some (.int y1), none], [(.int (nI 63)), (.int y1), (.ref 26)], mkX M)) rfl ?_
    obtain ⟨h1, h2⟩ := h
    by_cases q16 : y1 = (nI 63)
    · have h := h1 q16
      refine aG_icmp (cd := .ne) (b := false) (aTne0 q16) rfl ?_
      refine aG_n 3 (s' := (38, [some (.ref 52), some (.int y1), none], [(.int (nI 1)), (.int (nI 1)), (.ref 26)], mkX M)) rfl ?_
      refine aG_call rfl rfl (aG_mono (wk_X0_step h) ?_)
      rintro _ ⟨r17, M18, rfl, h⟩
      refine aG_n 3 (s' := (16, [some (.ref 52), some (.int (y1 + (nI 1))), none], [], mkX M18)) rfl ?_
      refine aG_le (a := [some (.ref 52), some (.int (y1 + (nI 1))), none]) ⟨rfl, ⟨rfl, trivial⟩⟩ ?_
      exact hK16 _ _ h
    · have h := h2 q16
      refine aG_icmp (cd := .ne) (b := true) (aTne1 q16) rfl ?_
      refine aG_n 2 (s' := (38, [some (.ref 52), some (.int y1), none], [(.int (nI 1)), (.int (nI 0)), (.ref 26)], mkX M)) rfl ?_
      refine aG_call rfl rfl (aG_mono (wk_X0_step h) ?_)
      rintro _ ⟨r19, M20, rfl, h⟩
      refine aG_n 3 (s' := (16, [some (.ref 52), some (.int (y1 + (nI 1))), none], [], mkX M20)) rfl ?_
      refine aG_le (a := [some (.ref 52), some (.int (y1 + (nI 1))), none]) ⟨rfl, ⟨rfl, trivial⟩⟩ ?_
      exact hK16 _ _ h
def wL_X6_countChips_16 (Q : Int32 → wM → Prop) : Nat → Int32 → wM → Prop
  | 0, _, _ => False
  | n + 1, y1, M => wb_X6_countChips_16 (wL_X6_countChips_16 Q n) y1 M Q
set_option maxRecDepth 20000 in
theorem wLk_X6_countChips_16 {Q : Int32 → wM → Prop} : ∀ (n : Nat) (y1 : Int32) (M : wM), wL_X6_countChips_16 Q n y1 M → aG 200 (16, [some (.ref 52), some (.int y1), none], [], mkX M) (aPi mkX Q)
  | 0, _, _, h => h.elim
  | n + 1, y1, M, h => wbk_X6_countChips_16 (fun y1 M h => wLk_X6_countChips_16 n y1 M h) h
def w_X6_countChips (M : wM) (Q : Int32 → wM → Prop) : Prop := w_X6_resetAll M (fun M2 => w_X0_walk (nI 11) M2 (fun r3 M4 => ∃ n, wL_X6_countChips_16 Q n (nI 0) M4))
set_option maxRecDepth 20000 in
theorem wk_X6_countChips {M : wM} {Q : Int32 → wM → Prop} (h : w_X6_countChips M Q) : aG 200 (aEn 200 [(.ref 52)] (mkX M)) (aPi mkX Q) := by
  unfold w_X6_countChips at h
  refine aG_n 1 (s' := (1, [some (.ref 52), none, none], [(.ref 52)], mkX M)) rfl ?_
  refine aG_call rfl rfl (aG_mono (wk_X6_resetAll h) ?_)
  rintro _ ⟨M2, rfl, h⟩
  refine aG_n 3 (s' := (10, [some (.ref 52), none, none], [(.int (nI 11)), (.ref 26)], mkX M2)) rfl ?_
  refine aG_call rfl rfl (aG_mono (wk_X0_walk h) ?_)
  rintro _ ⟨r3, M4, rfl, h⟩
  refine aG_n 3 (s' := (16, [some (.ref 52), some (.int (nI 0)), none], [], mkX M4)) rfl ?_
  refine aG_le (a := [some (.ref 52), some (.int (nI 0)), none]) ⟨rfl, ⟨rfl, trivial⟩⟩ ?_
  obtain ⟨n, h⟩ := h
  exact wLk_X6_countChips_16 n _ _ h
def wj_X6_readIdentities_47 (z1 : Int32) (s0 : Int32) (K20 : Int32 → wM → Prop) (M : wM) (Q : wM → Prop) : Prop := (s0 = (-1) → Q M) ∧ (¬ s0 = (-1) → vp_in z1 8 ∧ (K20 (z1 + (nI 1)) (si (si M 53 z1.toNatClampNeg s0) 52 2 ((gi M 52 2) + (nI 1)))))
set_option maxRecDepth 20000 in
theorem wjk_X6_readIdentities_47 {z1 : Int32} {s0 : Int32} {K20 : Int32 → wM → Prop} {M : wM} {Q : wM → Prop} (hK20 : ∀ (v1 : Int32) (M : wM), K20 v1 M → aG 201 (20, [some (.ref 52), some (.int v1), none], [], mkX M) (aPv mkX Q)) (h : wj_X6_readIdentities_47 z1 s0 K20 M Q) : aG 201 (47, [some (.ref 52), some (.int z1), none], [(.int s0)], mkX M) (aPv mkX Q) := by
  unfold wj_X6_readIdentities_47 at h
  refine aG_n 3 (s' := (50, [some (.ref 52), some (.int z1), some (.int s0)], [(.int (-1)), (.int s0)], mkX M)) rfl ?_
  obtain ⟨h1, h2⟩ := h
  by_cases q11 : s0 = (-1)
  · have h := h1 q11
    refine aG_icmp (cd := .ne) (b := false) (aTne0 q11) rfl ?_
    refine aG_n 0 (s' := (53, [some (.ref 52), some (.int z1), some (.int s0)], [], mkX M)) rfl ?_
    exact aG_retV rfl rfl ⟨_, rfl, h⟩
  · have h := h2 q11
    refine aG_icmp (cd := .ne) (b := true) (aTne1 q11) rfl ?_
    refine aG_n 4 (s' := (60, [some (.ref 52), some (.int z1), some (.int s0)], [(.int s0), (.int z1), (.ref 53)], mkX M)) rfl ?_
    obtain ⟨f12, h⟩ := h
    refine aG_iast rfl rfl f12 ?_
    refine aG_n 8 (s' := (20, [some (.ref 52), some (.int (z1 + (nI 1))), some (.int s0)], [], mkX (si (si M 53 z1.toNatClampNeg s0) 52 2 ((gi M 52 2) + (nI 1))))) rfl ?_
    refine aG_le (a := [some (.ref 52), some (.int (z1 + (nI 1))), none]) ⟨rfl, ⟨rfl, trivial⟩⟩ ?_
    exact hK20 _ _ h
def wb_X6_readIdentities_20 (K20 : Int32 → wM → Prop) (y1 : Int32) (M : wM) (Q : wM → Prop) : Prop := ((nI 8) ≤ y1 → Q M) ∧ (¬ (nI 8) ≤ y1 → w_X0_step (nI 0) (nI 1) M (fun r6 M7 => (r6 = (nI 1) → w_X6_restOfIdentity M7 (fun r9 M10 => wj_X6_readIdentities_47 y1 r9 K20 M10 Q)) ∧ (¬ r6 = (nI 1) → wj_X6_readIdentities_47 y1 (nI 0) K20 M7 Q)))
set_option maxRecDepth 20000 in
theorem wbk_X6_readIdentities_20 {K20 : Int32 → wM → Prop} {y1 : Int32} {M : wM} {Q : wM → Prop} (hK20 : ∀ (v1 : Int32) (M : wM), K20 v1 M → aG 201 (20, [some (.ref 52), some (.int v1), none], [], mkX M) (aPv mkX Q)) (h : wb_X6_readIdentities_20 K20 y1 M Q) : aG 201 (20, [some (.ref 52), some (.int y1), none], [], mkX M) (aPv mkX Q) := by
  unfold wb_X6_readIdentities_20 at h
  refine aG_n 2 (s' := (23, [some (.ref 52), some (.int y1), none], [(.int (nI 8)), (.int y1)], mkX M)) rfl ?_
  obtain ⟨h1, h2⟩ := h
  by_cases q5 : (nI 8) ≤ y1
  · have h := h1 q5
    refine aG_icmp (cd := .ge) (b := true) (decide_eq_true q5) rfl ?_
    refine aG_n 0 (s' := (77, [some (.ref 52), some (.int y1), none], [], mkX M)) rfl ?_
    exact aG_retV rfl rfl ⟨_, rfl, h⟩
  · have h := h2 q5
    refine aG_icmp (cd := .ge) (b := false) (decide_eq_false q5) rfl ?_
    refine aG_n 4 (s' := (32, [some (.ref 52), some (.int y1), none], [(.int (nI 1)), (.int (nI 0)), (.ref 26)], mkX M)) rfl ?_
    refine aG_call rfl rfl (aG_mono (wk_X0_step h) ?_)
    rintro _ ⟨r6, M7, rfl, h⟩
    refine aG_n 1 (s' := (36, [some (.ref 52), some (.int y1), none], [(.int (nI 1)), (.int r6)], mkX M7)) rfl ?_
    obtain ⟨h1, h2⟩ := h
    by_cases q8 : r6 = (nI 1)
    · have h := h1 q8
      refine aG_icmp (cd := .ne) (b := false) (aTne0 q8) rfl ?_
      refine aG_n 1 (s' := (40, [some (.ref 52), some (.int y1), none], [(.ref 52)], mkX M7)) rfl ?_
      refine aG_call rfl rfl (aG_mono (wk_X6_restOfIdentity h) ?_)
      rintro _ ⟨r9, M10, rfl, h⟩
      refine aG_n 1 (s' := (47, [some (.ref 52), some (.int y1), none], [(.int r9)], mkX M10)) rfl ?_
      refine aG_le (a := [some (.ref 52), some (.int y1), none]) ⟨rfl, ⟨rfl, trivial⟩⟩ ?_
      exact wjk_X6_readIdentities_47 hK20 h
    · have h := h2 q8
      refine aG_icmp (cd := .ne) (b := true) (aTne1 q8) rfl ?_
      refine aG_n 1 (s' := (47, [some (.ref 52), some (.int y1), none], [(.int (nI 0))], mkX M7)) rfl ?_
      refine aG_le (a := [some (.ref 52), some (.int y1), none]) ⟨rfl, ⟨rfl, trivial⟩⟩ ?_
      exact wjk_X6_readIdentities_47 hK20 h
def wL_X6_readIdentities_20 (Q : wM → Prop) : Nat → Int32 → wM → Prop
  | 0, _, _ => False
  | n + 1, y1, M => wb_X6_readIdentities_20 (wL_X6_readIdentities_20 Q n) y1 M Q
set_option maxRecDepth 20000 in
theorem wLk_X6_readIdentities_20 {Q : wM → Prop} : ∀ (n : Nat) (y1 : Int32) (M : wM), wL_X6_readIdentities_20 Q n y1 M → aG 201 (20, [some (.ref 52), some (.int y1), none], [], mkX M) (aPv mkX Q)
  | 0, _, _, h => h.elim
  | n + 1, y1, M, h => wbk_X6_readIdentities_20 (fun y1 M h => wLk_X6_readIdentities_20 n y1 M h) h
def w_X6_readIdentities (M : wM) (Q : wM → Prop) : Prop := w_X6_resetAll M (fun M2 => w_X0_walk (nI 4) M2 (fun r3 M4 => ∃ n, wL_X6_readIdentities_20 Q n (nI 0) (si M4 52 2 (nI 0))))
set_option maxRecDepth 20000 in
theorem wk_X6_readIdentities {M : wM} {Q : wM → Prop} (h : w_X6_readIdentities M Q) : aG 201 (aEn 201 [(.ref 52)] (mkX M)) (aPv mkX Q) := by
  unfold w_X6_readIdentities at h
  refine aG_n 1 (s' := (1, [some (.ref 52), none, none], [(.ref 52)], mkX M)) rfl ?_
  refine aG_call rfl rfl (aG_mono (wk_X6_resetAll h) ?_)
  rintro _ ⟨M2, rfl, h⟩
  refine aG_n 3 (s' := (9, [some (.ref 52), none, none], [(.int (nI 4)), (.ref 26)], mkX M2)) rfl ?_
  refine aG_call rfl rfl (aG_mono (wk_X0_walk h) ?_)
  rintro _ ⟨r3, M4, rfl, h⟩
  refine aG_n 6 (s' := (20, [some (.ref 52), some (.int (nI 0)), none], [], mkX (si M4 52 2 (nI 0)))) rfl ?_
  refine aG_le (a := [some (.ref 52), some (.int (nI 0)), none]) ⟨rfl, ⟨rfl, trivial⟩⟩ ?_
  obtain ⟨n, h⟩ := h
  exact wLk_X6_readIdentities_20 n _ _ h
def wb_X6_lastSilentChip_53 (z1 : Int32) (z2 : Int32) (z4 : Int32) (K27 : Int32 → Int32 → wM → Prop) (K53 : Int32 → Int32 → wM → Prop) (y3 : Int32) (y5 : Int32) (M : wM) (Q : Int32 → wM → Prop) : Prop := (z4 ≤ y5 → (y3 = (nI 1) → K27 z1 (z2 + (-1)) M) ∧ (¬ y3 = (nI 1) → (z1 = (-4) → K27 z2 (z2 + (-1)) M) ∧ (¬ z1 = (-4) → K27 z1 (z2 + (-1)) M))) ∧ (¬ z4 ≤ y5 → w_X0_step (nI 0) (nI 1) M (fun r11 M12 => K53 (y3 ||| (jshl r11 y5)) (y5 + (nI 1)) M12))
set_option maxRecDepth 20000 in
theorem wbk_X6_lastSilentChip_53 {z1 : Int32} {z2 : Int32} {z4 : Int32} {K27 : Int32 → Int32 → wM → Prop} {K53 : Int32 → Int32 → wM → Prop} {y3 : Int32} {y5 : Int32} {M : wM} {Q : Int32 → wM → Prop} (hK27 : ∀ (v1 : Int32) (v2 : Int32) (M : wM), K27 v1 v2 M → aG 202 (27, [some (.ref 52), some (.int v1), some (.int v2), none, none, none], [], mkX M) (aPi mkX Q)) (hK53 : ∀ (v3 : Int32) (v5 : Int32) (M : wM), K53 v3 v5 M → aG 202 (53, [some (.ref 52), some (.int z1), some (.int z2), some (.int v3), some (.int z4), some (.int v5)], [], mkX M) (aPi mkX Q)) (h : wb_X6_lastSilentChip_53 z1 z2 z4 K27 K53 y3 y5 M Q) : aG 202 (53, [some (.ref 52), some (.int z1), some (.int z2), some (.int y3), some (.int z4), some (.int y5)], [], mkX M) (aPi mkX Q) := by
  unfold wb_X6_lastSilentChip_53 at h
  refine aG_n 2 (s' := (57, [some (.ref 52), some (.int z1), some (.int z2), some (.int y3), some (.int z4), some (.int y5)], [(.int z4), (.int y5)], mkX M)) rfl ?_
  obtain ⟨h1, h2⟩ := h
  by_cases q8 : z4 ≤ y5
  · have h := h1 q8
    refine aG_icmp (cd := .ge) (b := true) (decide_eq_true q8) rfl ?_
    refine aG_n 2 (s' := (83, [some (.ref 52), some (.int z1), some (.int z2), some (.int y3), some (.int z4), some (.int y5)], [(.int (nI 1)), (.int y3)], mkX M)) rfl ?_
    obtain ⟨h1, h2⟩ := h
    by_cases q9 : y3 = (nI 1)
    · have h := h1 q9
      refine aG_icmp (cd := .eq) (b := true) (decide_eq_true q9) rfl ?_
      refine aG_n 2 (s' := (27, [some (.ref 52), some (.int z1), some (.int (z2 + (-1))), some (.int y3), some (.int z4), some (.int y5)], [], mkX M)) rfl ?_
      refine aG_le (a := [some (.ref 52), some (.int z1), some (.int (z2 + (-1))), none, none, none]) ⟨rfl, ⟨rfl, ⟨rfl, trivial⟩⟩⟩ ?_
      exact hK27 _ _ _ h
    · have h := h2 q9
      refine aG_icmp (cd := .eq) (b := false) (decide_eq_false q9) rfl ?_
      refine aG_n 2 (s' := (89, [some (.ref 52), some (.int z1), some (.int z2), some (.int y3), some (.int z4), some (.int y5)], [(.int (-4)), (.int z1)], mkX M)) rfl ?_
      obtain ⟨h1, h2⟩ := h
      by_cases q10 : z1 = (-4)
      · have h := h1 q10
        refine aG_icmp (cd := .ne) (b := false) (aTne0 q10) rfl ?_
        refine aG_n 4 (s' := (27, [some (.ref 52), some (.int z2), some (.int (z2 + (-1))), some (.int y3), some (.int z4), some (.int y5)], [], mkX M)) rfl ?_
        refine aG_le (a := [some (.ref 52), some (.int z2), some (.int (z2 + (-1))), none, none, none]) ⟨rfl, ⟨rfl, ⟨rfl, trivial⟩⟩⟩ ?_
        exact hK27 _ _ _ h
      · have h := h2 q10
        refine aG_icmp (cd := .ne) (b := true) (aTne1 q10) rfl ?_
        refine aG_n 2 (s' := (27, [some (.ref 52), some (.int z1), some (.int (z2 + (-1))), some (.int y3), some (.int z4), some (.int y5)], [], mkX M)) rfl ?_
        refine aG_le (a := [some (.ref 52), some (.int z1), some (.int (z2 + (-1))), none, none, none]) ⟨rfl, ⟨rfl, ⟨rfl, trivial⟩⟩⟩ ?_
        exact hK27 _ _ _ h
  · have h := h2 q8
    refine aG_icmp (cd := .ge) (b := false) (decide_eq_false q8) rfl ?_
    refine aG_n 5 (s' := (67, [some (.ref 52), some (.int z1), some (.int z2), some (.int y3), some (.int z4), some (.int y5)], [(.int (nI 1)), (.int (nI 0)), (.ref 26), (.int y3)], mkX M)) rfl ?_
    refine aG_call rfl rfl (aG_mono (wk_X0_step h) ?_)
    rintro _ ⟨r11, M12, rfl, h⟩
    refine aG_n 6 (s' := (53, [some (.ref 52), some (.int z1), some (.int z2), some (.int (y3 ||| (jshl r11 y5))), some (.int z4), some (.int (y5 + (nI 1)))], [], mkX M12)) rfl ?_
    refine aG_le (a := [some (.ref 52), some (.int z1), some (.int z2), some (.int (y3 ||| (jshl r11 y5))), some (.int z4), some (.int (y5 + (nI 1)))]) ⟨rfl, ⟨rfl, ⟨rfl, ⟨rfl, ⟨rfl, ⟨rfl, trivial⟩⟩⟩⟩⟩⟩ ?_
    exact hK53 _ _ _ h
def wL_X6_lastSilentChip_53 (z1 : Int32) (z2 : Int32) (z4 : Int32) (K27 : Int32 → Int32 → wM → Prop) (Q : Int32 → wM → Prop) : Nat → Int32 → Int32 → wM → Prop
  | 0, _, _, _ => False
  | n + 1, y3, y5, M => wb_X6_lastSilentChip_53 z1 z2 z4 K27 (wL_X6_lastSilentChip_53 z1 z2 z4 K27 Q n) y3 y5 M Q
set_option maxRecDepth 20000 in
theorem wLk_X6_lastSilentChip_53 {z1 : Int32} {z2 : Int32} {z4 : Int32} {K27 : Int32 → Int32 → wM → Prop} {Q : Int32 → wM → Prop} (hK27 : ∀ (v1 : Int32) (v2 : Int32) (M : wM), K27 v1 v2 M → aG 202 (27, [some (.ref 52), some (.int v1), some (.int v2), none, none, none], [], mkX M) (aPi mkX Q)) : ∀ (n : Nat) (y3 : Int32) (y5 : Int32) (M : wM), wL_X6_lastSilentChip_53 z1 z2 z4 K27 Q n y3 y5 M → aG 202 (53, [some (.ref 52), some (.int z1), some (.int z2), some (.int y3), some (.int z4), some (.int y5)], [], mkX M) (aPi mkX Q)
  | 0, _, _, _, h => h.elim
  | n + 1, y3, y5, M, h => wbk_X6_lastSilentChip_53 hK27 (fun y3 y5 M h => wLk_X6_lastSilentChip_53 hK27 n y3 y5 M h) h
def wb_X6_lastSilentChip_27 (K27 : Int32 → Int32 → wM → Prop) (y1 : Int32) (y2 : Int32) (M : wM) (Q : Int32 → wM → Prop) : Prop := (y2 < (nI 0) → Q y1 M) ∧ (¬ y2 < (nI 0) → vp_in y2 6 ∧ (ptX (gp M y2.toNatClampNeg) ∧ (∃ n, wL_X6_lastSilentChip_53 y1 y2 (gi M (gp M y2.toNatClampNeg) 0) K27 Q n (nI 0) (nI 0) M)))
set_option maxRecDepth 20000 in
theorem wbk_X6_lastSilentChip_27 {K27 : Int32 → Int32 → wM → Prop} {y1 : Int32} {y2 : Int32} {M : wM} {Q : Int32 → wM → Prop} (hK27 : ∀ (v1 : Int32) (v2 : Int32) (M : wM), K27 v1 v2 M → aG 202 (27, [some (.ref 52), some (.int v1), some (.int v2), none, none, none], [], mkX M) (aPi mkX Q)) (h : wb_X6_lastSilentChip_27 K27 y1 y2 M Q) : aG 202 (27, [some (.ref 52), some (.int y1), some (.int y2), none, none, none], [], mkX M) (aPi mkX Q) := by
  unfold wb_X6_lastSilentChip_27 at h
  refine aG_n 1 (s' := (28, [some (.ref 52), some (.int y1), some (.int y2), none, none, none], [(.int y2)], mkX M)) rfl ?_
  obtain ⟨h1, h2⟩ := h
  by_cases q5 : y2 < (nI 0)
  · have h := h1 q5
    refine aG_if (cd := .lt) (b := true) (decide_eq_true q5) rfl ?_
    refine aG_n 1 (s' := (101, [some (.ref 52), some (.int y1), some (.int y2), none, none, none], [(.int y1)], mkX M)) rfl ?_
    exact aG_ret0 rfl rfl ⟨_, _, rfl, h⟩
  · have h := h2 q5
    refine aG_if (cd := .lt) (b := false) (decide_eq_false q5) rfl ?_
    refine aG_n 6 (s' := (41, [some (.ref 52), some (.int y1), some (.int y2), some (.int (nI 0)), none, none], [(.int y2), (.ref 30)], mkX M)) rfl ?_
    obtain ⟨f6, h⟩ := h
    refine aG_aald rfl rfl rfl f6 (rX_30 (P := (M).2.2) (vin_lt f6)) ?_
    refine aG_n 0 (s' := (42, [some (.ref 52), some (.int y1), some (.int y2), some (.int (nI 0)), none, none], [(.ref (34 + 3 * y2.toNatClampNeg))], mkX M)) rfl ?_
    refine aG_getR rfl (shX_chip (vin_lt f6)) rfl rfl (rX_part (P := (M).2.2) (vin_lt f6)) ?_
    obtain ⟨f7, h⟩ := h
    refine aG_n 0 (s' := (45, [some (.ref 52), some (.int y1), some (.int y2), some (.int (nI 0)), none, none], [(.ref (gp M y2.toNatClampNeg))], mkX M)) rfl ?_
    refine aG_get rfl f7 rfl rfl ?_
    refine aG_n 3 (s' := (53, [some (.ref 52), some (.int y1), some (.int y2), some (.int (nI 0)), some (.int (gi M (gp M y2.toNatClampNeg) 0)), some (.int (nI 0))], [], mkX M)) rfl ?_
    refine aG_le (a := [some (.ref 52), some (.int y1), some (.int y2), some (.int (nI 0)), some (.int (gi M (gp M y2.toNatClampNeg) 0)), some (.int (nI 0))]) ⟨rfl, ⟨rfl, ⟨rfl, ⟨rfl, ⟨rfl, ⟨rfl, trivial⟩⟩⟩⟩⟩⟩ ?_
    obtain ⟨n, h⟩ := h
    exact wLk_X6_lastSilentChip_53 hK27 n _ _ _ h
def wL_X6_lastSilentChip_27 (Q : Int32 → wM → Prop) : Nat → Int32 → Int32 → wM → Prop
  | 0, _, _, _ => False
  | n + 1, y1, y2, M => wb_X6_lastSilentChip_27 (wL_X6_lastSilentChip_27 Q n) y1 y2 M Q
set_option maxRecDepth 20000 in
theorem wLk_X6_lastSilentChip_27 {Q : Int32 → wM → Prop} : ∀ (n : Nat) (y1 : Int32) (y2 : Int32) (M : wM), wL_X6_lastSilentChip_27 Q n y1 y2 M → aG 202 (27, [some (.ref 52), some (.int y1), some (.int y2), none, none, none], [], mkX M) (aPi mkX Q)
  | 0, _, _, _, h => h.elim
  | n + 1, y1, y2, M, h => wbk_X6_lastSilentChip_27 (fun y1 y2 M h => wLk_X6_lastSilentChip_27 n y1 y2 M h) h
def w_X6_lastSilentChip (M : wM) (Q : Int32 → wM → Prop) : Prop := w_X6_resetAll M (fun M2 => w_X0_walk (nI 11) M2 (fun r3 M4 => ∃ n, wL_X6_lastSilentChip_27 Q n (-4) ((gi M4 26 3) - (nI 1)) M4))
set_option maxRecDepth 20000 in
theorem wk_X6_lastSilentChip {M : wM} {Q : Int32 → wM → Prop} (h : w_X6_lastSilentChip M Q) : aG 202 (aEn 202 [(.ref 52)] (mkX M)) (aPi mkX Q) := by
  unfold w_X6_lastSilentChip at h
  refine aG_n 1 (s' := (1, [some (.ref 52), none, none, none, none, none], [(.ref 52)], mkX M)) rfl ?_
  refine aG_call rfl rfl (aG_mono (wk_X6_resetAll h) ?_)
  rintro _ ⟨M2, rfl, h⟩
  refine aG_n 3 (s' := (10, [some (.ref 52), none, none, none, none, none], [(.int (nI 11)), (.ref 26)], mkX M2)) rfl ?_
  refine aG_call rfl rfl (aG_mono (wk_X0_walk h) ?_)
  rintro _ ⟨r3, M4, rfl, h⟩
  refine aG_n 9 (s' := (27, [some (.ref 52), some (.int (-4)), some (.int ((gi M4 26 3) - (nI 1))), none, none, none], [], mkX M4)) rfl ?_
  refine aG_le (a := [some (.ref 52), some (.int (-4)), some (.int ((gi M4 26 3) - (nI 1))), none, none, none]) ⟨rfl, ⟨rfl, ⟨rfl, trivial⟩⟩⟩ ?_
  obtain ⟨n, h⟩ := h
  exact wLk_X6_lastSilentChip_27 n _ _ _ h
