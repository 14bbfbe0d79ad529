/-! methods as predicates, and their walks (by gen/wpgen.py) -/
def wj_X12_readCells_132 (z1 : Int32) (z2 : Int32) (M : wM) (Q : wM → Prop) : Prop := vp_in (gi M 0 7) 6 ∧ (vp_in (gi M 0 7) 6 ∧ (Q (si (si M 11 (gi M 0 7).toNatClampNeg z2) 12 (gi M 0 7).toNatClampNeg z1)))
set_option maxRecDepth 20000 in
theorem wjk_X12_readCells_132 {z1 : Int32} {z2 : Int32} {M : wM} {Q : wM → Prop} (h : wj_X12_readCells_132 z1 z2 M Q) : aG 117 (132, [some (.ref 0), some (.int z1), some (.int z2), none, none, none], [], mkM M) (aPv mkM Q) := by
  unfold wj_X12_readCells_132 at h
  refine aG_n 5 (s' := (141, [some (.ref 0), some (.int z1), some (.int z2), none, none, none], [(.int z2), (.int (gi M 0 7)), (.ref 11)], mkM M)) rfl ?_
  obtain ⟨f9, h⟩ := h
  refine aG_iast rfl rfl f9 ?_
  refine aG_n 5 (s' := (151, [some (.ref 0), some (.int z1), some (.int z2), none, none, none], [(.int z1), (.int (gi M 0 7)), (.ref 12)], mkM (si M 11 (gi M 0 7).toNatClampNeg z2))) rfl ?_
  obtain ⟨f10, h⟩ := h
  refine aG_iast rfl rfl f10 ?_
  refine aG_n 0 (s' := (152, [some (.ref 0), some (.int z1), some (.int z2), none, none, none], [], mkM (si (si M 11 (gi M 0 7).toNatClampNeg z2) 12 (gi M 0 7).toNatClampNeg z1))) rfl ?_
  exact aG_retV rfl rfl ⟨_, rfl, h⟩
def wj_X12_readCells_94 (z1 : Int32) (z2 : Int32) (z4 : Int32) (z5 : Int32) (s0 : Int32) (K45 : Int32 → Int32 → Int32 → wM → Prop) (M : wM) (Q : wM → Prop) : Prop := (z5 = (nI 111) → K45 (z1 ||| (jshl (nI 1) z4)) s0 (z4 + (nI 1)) M) ∧ (¬ z5 = (nI 111) → K45 (z1 ||| (nI 0)) s0 (z4 + (nI 1)) M)
set_option maxRecDepth 20000 in
theorem wjk_X12_readCells_94 {z1 : Int32} {z2 : Int32} {z4 : Int32} {z5 : Int32} {s0 : Int32} {K45 : Int32 → Int32 → Int32 → wM → Prop} {M : wM} {Q : wM → Prop} (hK45 : ∀ (v1 : Int32) (v3 : Int32) (v4 : Int32) (M : wM), K45 v1 v3 v4 M → aG 117 (45, [some (.ref 0), some (.int v1), some (.int z2), some (.int v3), some (.int v4), none], [], mkM M) (aPv mkM Q)) (h : wj_X12_readCells_94 z1 z2 z4 z5 s0 K45 M Q) : aG 117 (94, [some (.ref 0), some (.int z1), some (.int z2), none, some (.int z4), some (.int z5)], [(.int s0)], mkM M) (aPv mkM Q) := by
  unfold wj_X12_readCells_94 at h
  refine aG_n 4 (s' := (100, [some (.ref 0), some (.int z1), some (.int z2), some (.int s0), some (.int z4), some (.int z5)], [(.int (nI 111)), (.int z5), (.int z1)], mkM M)) rfl ?_
  obtain ⟨h1, h2⟩ := h
  by_cases q19 : z5 = (nI 111)
  · have h := h1 q19
    refine aG_icmp (cd := .ne) (b := false) (aTne0 q19) rfl ?_
    refine aG_n 8 (s' := (45, [some (.ref 0), some (.int (z1 ||| (jshl (nI 1) z4))), some (.int z2), some (.int s0), some (.int (z4 + (nI 1))), some (.int z5)], [], mkM M)) rfl ?_
    refine aG_le (a := [some (.ref 0), some (.int (z1 ||| (jshl (nI 1) z4))), some (.int z2), some (.int s0), some (.int (z4 + (nI 1))), none]) ⟨rfl, ⟨rfl, ⟨rfl, ⟨rfl, ⟨rfl, trivial⟩⟩⟩⟩⟩ ?_
    exact hK45 _ _ _ _ h
  · have h := h2 q19
    refine aG_icmp (cd := .ne) (b := true) (aTne1 q19) rfl ?_
    refine aG_n 5 (s' := (45, [some (.ref 0), some (.int (z1 ||| (nI 0))), some (.int z2), some (.int s0), some (.int (z4 + (nI 1))), some (.int z5)], [], mkM M)) rfl ?_
    refine aG_le (a := [some (.ref 0), some (.int (z1 ||| (nI 0))), some (.int z2), some (.int s0), some (.int (z4 + (nI 1))), none]) ⟨rfl, ⟨rfl, ⟨rfl, ⟨rfl, ⟨rfl, trivial⟩⟩⟩⟩⟩ ?_
    exact hK45 _ _ _ _ h
def wb_X12_readCells_45 (z2 : Int32) (K45 : Int32 → Int32 → Int32 → wM → Prop) (y1 : Int32) (y3 : Int32) (y4 : Int32) (M : wM) (Q : wM → Prop) : Prop := (z2 ≤ y4 → ((gi M 0 20) = (nI 0) → w_X12_wants y3 (nI 3) M (fun M8 => wj_X12_readCells_132 y1 z2 M8 Q)) ∧ (¬ (gi M 0 20) = (nI 0) → wj_X12_readCells_132 y1 z2 M Q)) ∧ (¬ z2 ≤ y4 → (y3 = (nI 0) → ((gi M 0 20) = (nI 0) → w_X12_wants y3 (nI 3) M (fun M14 => wj_X12_readCells_132 y1 z2 M14 Q)) ∧ (¬ (gi M 0 20) = (nI 0) → wj_X12_readCells_132 y1 z2 M Q)) ∧ (¬ y3 = (nI 0) → ((gi M 0 20) = (nI 0) → w_X12_look ((gi M 0 17) + y4) M (fun r16 M17 => (r16 = (nI 105) → wj_X12_readCells_94 y1 z2 y4 r16 (nI 1) K45 M17 Q) ∧ (¬ r16 = (nI 105) → (r16 = (nI 111) → wj_X12_readCells_94 y1 z2 y4 r16 (nI 1) K45 M17 Q) ∧ (¬ r16 = (nI 111) → wj_X12_readCells_94 y1 z2 y4 r16 (nI 0) K45 M17 Q)))) ∧ (¬ (gi M 0 20) = (nI 0) → ((gi M 0 20) = (nI 0) → w_X12_wants y3 (nI 3) M (fun M23 => wj_X12_readCells_132 y1 z2 M23 Q)) ∧ (¬ (gi M 0 20) = (nI 0) → wj_X12_readCells_132 y1 z2 M Q))))
set_option maxRecDepth 20000 in
theorem wbk_X12_readCells_45 {z2 : Int32} {K45 : Int32 → Int32 → Int32 → wM → Prop} {y1 : Int32} {y3 : Int32} {y4 : Int32} {M : wM} {Q : wM → Prop} (hK45 : ∀ (v1 : Int32) (v3 : Int32) (v4 : Int32) (M : wM), K45 v1 v3 v4 M → aG 117 (45, [some (.ref 0), some (.int v1), some (.int z2), some (.int v3), some (.int v4), none], [], mkM M) (aPv mkM Q)) (h : wb_X12_readCells_45 z2 K45 y1 y3 y4 M Q) : aG 117 (45, [some (.ref 0), some (.int y1), some (.int z2), some (.int y3), some (.int y4), none], [], mkM M) (aPv mkM Q) := by
  unfold wb_X12_readCells_45 at h
  refine aG_n 2 (s' := (48, [some (.ref 0), some (.int y1), some (.int z2), some (.int y3), some (.int y4), none], [(.int z2), (.int y4)], mkM M)) rfl ?_
  obtain ⟨h1, h2⟩ := h
  by_cases q5 : z2 ≤ y4
  · have h := h1 q5
    refine aG_icmp (cd := .ge) (b := true) (decide_eq_true q5) rfl ?_
    refine aG_n 2 (s' := (123, [some (.ref 0), some (.int y1), some (.int z2), some (.int y3), some (.int y4), none], [(.int (gi M 0 20))], mkM M)) rfl ?_
    obtain ⟨h1, h2⟩ := h
    by_cases q6 : (gi M 0 20) = (nI 0)
    · have h := h1 q6
      refine aG_if (cd := .ne) (b := false) (aTne0 q6) rfl ?_
      refine aG_n 3 (s' := (129, [some (.ref 0), some (.int y1), some (.int z2), some (.int y3), some (.int y4), none], [(.int (nI 3)), (.int y3), (.ref 0)], mkM M)) rfl ?_
      refine aG_call rfl rfl (aG_mono (wk_X12_wants h) ?_)
      rintro _ ⟨M8, rfl, h⟩
      refine aG_n 0 (s' := (132, [some (.ref 0), some (.int y1), some (.int z2), some (.int y3), some (.int y4), none], [], mkM M8)) rfl ?_
      refine aG_le (a := [some (.ref 0), some (.int y1), some (.int z2), none, none, none]) ⟨rfl, ⟨rfl, ⟨rfl, trivial⟩⟩⟩ ?_
      exact wjk_X12_readCells_132 h
    · have h := h2 q6
      refine aG_if (cd := .ne) (b := true) (aTne1 q6) rfl ?_
      refine aG_n 0 (s' := (132, [some (.ref 0), some (.int y1), some (.int z2), some (.int y3), some (.int y4), none], [], mkM M)) rfl ?_
      refine aG_le (a := [some (.ref 0), some (.int y1), some (.int z2), none, none, none]) ⟨rfl, ⟨rfl, ⟨rfl, trivial⟩⟩⟩ ?_
      exact wjk_X12_readCells_132 h
  · have h := h2 q5
    refine aG_icmp (cd := .ge) (b := false) (decide_eq_false q5) rfl ?_
    refine aG_n 1 (s' := (52, [some (.ref 0), some (.int y1), some (.int z2), some (.int y3), some (.int y4), none], [(.int y3)], mkM M)) rfl ?_
    obtain ⟨h1, h2⟩ := h
    by_cases q11 : y3 = (nI 0)
    · have h := h1 q11
      refine aG_if (cd := .eq) (b := true) (decide_eq_true q11) rfl ?_
      refine aG_n 2 (s' := (123, [some (.ref 0), some (.int y1), some (.int z2), some (.int y3), some (.int y4), none], [(.int (gi M 0 20))], mkM M)) rfl ?_
      obtain ⟨h1, h2⟩ := h
      by_cases q12 : (gi M 0 20) = (nI 0)
      · have h := h1 q12
        refine aG_if (cd := .ne) (b := false) (aTne0 q12) rfl ?_
        refine aG_n 3 (s' := (129, [some (.ref 0), some (.int y1), some (.int z2), some (.int y3), some (.int y4), none], [(.int (nI 3)), (.int y3), (.ref 0)], mkM M)) rfl ?_
        refine aG_call rfl rfl (aG_mono (wk_X12_wants h) ?_)
        rintro _ ⟨M14, rfl, h⟩
        refine aG_n 0 (s' := (132, [some (.ref 0), some (.int y1), some (.int z2), some (.int y3), some (.int y4), none], [], mkM M14)) rfl ?_
        refine aG_le (a := [some (.ref 0), some (.int y1), some (.int z2), none, none, none]) ⟨rfl, ⟨rfl, ⟨rfl, trivial⟩⟩⟩ ?_
        exact wjk_X12_readCells_132 h
      · have h := h2 q12
        refine aG_if (cd := .ne) (b := true) (aTne1 q12) rfl ?_
        refine aG_n 0 (s' := (132, [some (.ref 0), some (.int y1), some (.int z2), some (.int y3), some (.int y4), none], [], mkM M)) rfl ?_
        refine aG_le (a := [some (.ref 0), some (.int y1), some (.int z2), none, none, none]) ⟨rfl, ⟨rfl, ⟨rfl, trivial⟩⟩⟩ ?_
        exact wjk_X12_readCells_132 h
    · have h := h2 q11
      refine aG_if (cd := .eq) (b := false) (decide_eq_false q11) rfl ?_
      refine aG_n 2 (s' := (59, [some (.ref 0), some (.int y1), some (.int z2), some (.int y3), some (.int y4), none], [(.int (gi M 0 20))], mkM M)) rfl ?_
      obtain ⟨h1, h2⟩ := h
      by_cases q15 : (gi M 0 20) = (nI 0)
      · have h := h1 q15
        refine aG_if (cd := .ne) (b := false) (aTne0 q15) rfl ?_
        refine aG_n 5 (s' := (70, [some (.ref 0), some (.int y1), some (.int z2), some (.int y3), some (.int y4), none], [(.int ((gi M 0 17) + y4)), (.ref 0)], mkM M)) rfl ?_
        refine aG_call rfl rfl (aG_mono (wk_X12_look h) ?_)
        rintro _ ⟨r16, M17, rfl, h⟩
        refine aG_n 3 (s' := (79, [some (.ref 0), some (.int y1), some (.int z2), some (.int y3), some (.int y4), some (.int r16)], [(.int (nI 105)), (.int r16)], mkM M17)) rfl ?_
        obtain ⟨h1, h2⟩ := h
        by_cases q18 : r16 = (nI 105)
        · have h := h1 q18
          refine aG_icmp (cd := .eq) (b := true) (decide_eq_true q18) rfl ?_
          refine aG_n 2 (s' := (94, [some (.ref 0), some (.int y1), some (.int z2), some (.int y3), some (.int y4), some (.int r16)], [(.int (nI 1))], mkM M17)) rfl ?_
          refine aG_le (a := [some (.ref 0), some (.int y1), some (.int z2), none, some (.int y4), some (.int r16)]) ⟨rfl, ⟨rfl, ⟨rfl, ⟨rfl, ⟨rfl, trivial⟩⟩⟩⟩⟩ ?_
          exact wjk_X12_readCells_94 hK45 h
        · have h := h2 q18
          refine aG_icmp (cd := .eq) (b := false) (decide_eq_false q18) rfl ?_
          refine aG_n 2 (s' := (86, [some (.ref 0), some (.int y1), some (.int z2), some (.int y3), some (.int y4), some (.int r16)], [(.int (nI 111)), (.int r16)], mkM M17)) rfl ?_
          obtain ⟨h1, h2⟩ := h
          by_cases q20 : r16 = (nI 111)
          · have h := h1 q20
            refine aG_icmp (cd := .ne) (b := false) (aTne0 q20) rfl ?_
            refine aG_n 2 (s' := (94, [some (.ref 0), some (.int y1), some (.int z2), some (.int y3), some (.int y4), some (.int r16)], [(.int (nI 1))], mkM M17)) rfl ?_
            refine aG_le (a := [some (.ref 0), some (.int y1), some (.int z2), none, some (.int y4), some (.int r16)]) ⟨rfl, ⟨rfl, ⟨rfl, ⟨rfl, ⟨rfl, trivial⟩⟩⟩⟩⟩ ?_
            exact wjk_X12_readCells_94 hK45 h
          · have h := h2 q20
            refine aG_icmp (cd := .ne) (b := true) (aTne1 q20) rfl ?_
            refine aG_n 1 (s' := (94, [some (.ref 0), some (.int y1), some (.int z2), some (.int y3), some (.int y4), some (.int r16)], [(.int (nI 0))], mkM M17)) rfl ?_
            refine aG_le (a := [some (.ref 0), some (.int y1), some (.int z2), none, some (.int y4), some (.int r16)]) ⟨rfl, ⟨rfl, ⟨rfl, ⟨rfl, ⟨rfl, trivial⟩⟩⟩⟩⟩ ?_
            exact wjk_X12_readCells_94 hK45 h
      · have h := h2 q15
        refine aG_if (cd := .ne) (b := true) (aTne1 q15) rfl ?_
        refine aG_n 2 (s' := (123, [some (.ref 0), some (.int y1), some (.int z2), some (.int y3), some (.int y4), none], [(.int (gi M 0 20))], mkM M)) rfl ?_
        obtain ⟨h1, h2⟩ := h
        by_cases q21 : (gi M 0 20) = (nI 0)
        · have h := h1 q21
          refine aG_if (cd := .ne) (b := false) (aTne0 q21) rfl ?_
          refine aG_n 3 (s' := (129, [some (.ref 0), some (.int y1), some (.int z2), some (.int y3), some (.int y4), none], [(.int (nI 3)), (.int y3), (.ref 0)], mkM M)) rfl ?_
          refine aG_call rfl rfl (aG_mono (wk_X12_wants h) ?_)
          rintro _ ⟨M23, rfl, h⟩
          refine aG_n 0 (s' := (132, [some (.ref 0), some (.int y1), some (.int z2), some (.int y3), some (.int y4), none], [], mkM M23)) rfl ?_
          refine aG_le (a := [some (.ref 0), some (.int y1), some (.int z2), none, none, none]) ⟨rfl, ⟨rfl, ⟨rfl, trivial⟩⟩⟩ ?_
          exact wjk_X12_readCells_132 h
        · have h := h2 q21
          refine aG_if (cd := .ne) (b := true) (aTne1 q21) rfl ?_
          refine aG_n 0 (s' := (132, [some (.ref 0), some (.int y1), some (.int z2), some (.int y3), some (.int y4), none], [], mkM M)) rfl ?_
          refine aG_le (a := [some (.ref 0), some (.int y1), some (.int z2), none, none, none]) ⟨rfl, ⟨rfl, ⟨rfl, trivial⟩⟩⟩ ?_
          exact wjk_X12_readCells_132 h
def wL_X12_readCells_45 (z2 : Int32) (Q : wM → Prop) : Nat → Int32 → Int32 → Int32 → wM → Prop
  | 0, _, _, _, _ => False
  | n + 1, y1, y3, y4, M => wb_X12_readCells_45 z2 (wL_X12_readCells_45 z2 Q n) y1 y3 y4 M Q
set_option maxRecDepth 20000 in
theorem wLk_X12_readCells_45 {z2 : Int32} {Q : wM → Prop} : ∀ (n : Nat) (y1 : Int32) (y3 : Int32) (y4 : Int32) (M : wM), wL_X12_readCells_45 z2 Q n y1 y3 y4 M → aG 117 (45, [some (.ref 0), some (.int y1), some (.int z2), some (.int y3), some (.int y4), none], [], mkM M) (aPv mkM Q)
  | 0, _, _, _, _, h => h.elim
  | n + 1, y1, y3, y4, M, h => wbk_X12_readCells_45 (fun y1 y3 y4 M h => wLk_X12_readCells_45 n y1 y3 y4 M h) h
def wj_X12_readCells_41 (z1 : Int32) (z2 : Int32) (s0 : Int32) (M : wM) (Q : wM → Prop) : Prop := ∃ n, wL_X12_readCells_45 z2 Q n z1 s0 (nI 0) M
set_option maxRecDepth 20000 in
theorem wjk_X12_readCells_41 {z1 : Int32} {z2 : Int32} {s0 : Int32} {M : wM} {Q : wM → Prop} (h : wj_X12_readCells_41 z1 z2 s0 M Q) : aG 117 (41, [some (.ref 0), some (.int z1), some (.int z2), none, none, none], [(.int s0)], mkM M) (aPv mkM Q) := by
  unfold wj_X12_readCells_41 at h
  refine aG_n 3 (s' := (45, [some (.ref 0), some (.int z1), some (.int z2), some (.int s0), some (.int (nI 0)), none], [], mkM M)) rfl ?_
  refine aG_le (a := [some (.ref 0), some (.int z1), some (.int z2), some (.int s0), some (.int (nI 0)), none]) ⟨rfl, ⟨rfl, ⟨rfl, ⟨rfl, ⟨rfl, trivial⟩⟩⟩⟩⟩ ?_
  obtain ⟨n, h⟩ := h
  exact wLk_X12_readCells_45 n _ _ _ _ h
def wj_X12_readCells_14 (s1 : Int32) (M : wM) (Q : wM → Prop) : Prop := w_X12_wants s1 (nI 2) M (fun M3 => ((nI 10) < ((gi M3 0 16) - (gi M3 0 17)) → wj_X12_readCells_41 (nI 0) ((gi M3 0 16) - (gi M3 0 17)) (nI 0) M3 Q) ∧ (¬ (nI 10) < ((gi M3 0 16) - (gi M3 0 17)) → wj_X12_readCells_41 (nI 0) ((gi M3 0 16) - (gi M3 0 17)) (nI 1) M3 Q))
set_option maxRecDepth 20000 in
theorem wjk_X12_readCells_14 {s1 : Int32} {M : wM} {Q : wM → Prop} (h : wj_X12_readCells_14 s1 M Q) : aG 117 (14, [some (.ref 0), none, none, none, none, none], [(.int s1), (.ref 0)], mkM M) (aPv mkM Q) := by
  unfold wj_X12_readCells_14 at h
  refine aG_n 1 (s' := (15, [some (.ref 0), none, none, none, none, none], [(.int (nI 2)), (.int s1), (.ref 0)], mkM M)) rfl ?_
  refine aG_call rfl rfl (aG_mono (wk_X12_wants h) ?_)
  rintro _ ⟨M3, rfl, h⟩
  refine aG_n 10 (s' := (33, [some (.ref 0), some (.int (nI 0)), some (.int ((gi M3 0 16) - (gi M3 0 17))), none, none, none], [(.int (nI 10)), (.int ((gi M3 0 16) - (gi M3 0 17)))], mkM M3)) rfl ?_
  obtain ⟨h1, h2⟩ := h
  by_cases q4 : (nI 10) < ((gi M3 0 16) - (gi M3 0 17))
  · have h := h1 q4
    refine aG_icmp (cd := .gt) (b := true) (decide_eq_true q4) rfl ?_
    refine aG_n 1 (s' := (41, [some (.ref 0), some (.int (nI 0)), some (.int ((gi M3 0 16) - (gi M3 0 17))), none, none, none], [(.int (nI 0))], mkM M3)) rfl ?_
    refine aG_le (a := [some (.ref 0), some (.int (nI 0)), some (.int ((gi M3 0 16) - (gi M3 0 17))), none, none, none]) ⟨rfl, ⟨rfl, ⟨rfl, trivial⟩⟩⟩ ?_
    exact wjk_X12_readCells_41 h
  · have h := h2 q4
    refine aG_icmp (cd := .gt) (b := false) (decide_eq_false q4) rfl ?_
    refine aG_n 2 (s' := (41, [some (.ref 0), some (.int (nI 0)), some (.int ((gi M3 0 16) - (gi M3 0 17))), none, none, none], [(.int (nI 1))], mkM M3)) rfl ?_
    refine aG_le (a := [some (.ref 0), some (.int (nI 0)), some (.int ((gi M3 0 16) - (gi M3 0 17))), none, none, none]) ⟨rfl, ⟨rfl, ⟨rfl, trivial⟩⟩⟩ ?_
    exact wjk_X12_readCells_41 h
def w_X12_readCells (M : wM) (Q : wM → Prop) : Prop := ((gi M 0 18) = (nI 1) → wj_X12_readCells_14 (nI 1) M Q) ∧ (¬ (gi M 0 18) = (nI 1) → wj_X12_readCells_14 (nI 0) M Q)
set_option maxRecDepth 20000 in
theorem wk_X12_readCells {M : wM} {Q : wM → Prop} (h : w_X12_readCells M Q) : aG 117 (aEn 117 [(.ref 0)] (mkM M)) (aPv mkM Q) := by
  unfold w_X12_readCells at h
  refine aG_n 4 (s' := (6, [some (.ref 0), none, none, none, none, none], [(.int (nI 1)), (.int (gi M 0 18)), (.ref 0)], mkM M)) rfl ?_
  obtain ⟨h1, h2⟩ := h
  by_cases q1 : (gi M 0 18) = (nI 1)
  · have h := h1 q1
    refine aG_icmp (cd := .ne) (b := false) (aTne0 q1) rfl ?_
    refine aG_n 2 (s' := (14, [some (.ref 0), none, none, none, none, none], [(.int (nI 1)), (.ref 0)], mkM M)) rfl ?_
    refine aG_le (a := [some (.ref 0), none, none, none, none, none]) ⟨rfl, trivial⟩ ?_
    exact wjk_X12_readCells_14 h
  · have h := h2 q1
    refine aG_icmp (cd := .ne) (b := true) (aTne1 q1) rfl ?_
    refine aG_n 1 (s' := (14, [some (.ref 0), none, none, none, none, none], [(.int (nI 0)), (.ref 0)], mkM M)) rfl ?_
    refine aG_le (a := [some (.ref 0), none, none, none, none, none]) ⟨rfl, trivial⟩ ?_
    exact wjk_X12_readCells_14 h
def wj_X12_readNumber_137 (z1 : Int32) (z2 : Int32) (M : wM) (Q : wM → Prop) : Prop := (z1 = (nI 1) → vp_in z2 6 ∧ (Q (si M 9 z2.toNatClampNeg (gi M 0 19)))) ∧ (¬ z1 = (nI 1) → vp_in z2 6 ∧ (Q (si M 10 z2.toNatClampNeg (gi M 0 19))))
set_option maxRecDepth 20000 in
theorem wjk_X12_readNumber_137 {z1 : Int32} {z2 : Int32} {M : wM} {Q : wM → Prop} (h : wj_X12_readNumber_137 z1 z2 M Q) : aG 118 (137, [some (.ref 0), some (.int z1), some (.int z2)], [], mkM M) (aPv mkM Q) := by
  unfold wj_X12_readNumber_137 at h
  refine aG_n 2 (s' := (139, [some (.ref 0), some (.int z1), some (.int z2)], [(.int (nI 1)), (.int z1)], mkM M)) rfl ?_
  obtain ⟨h1, h2⟩ := h
  by_cases q23 : z1 = (nI 1)
  · have h := h1 q23
    refine aG_icmp (cd := .ne) (b := false) (aTne0 q23) rfl ?_
    refine aG_n 5 (s' := (151, [some (.ref 0), some (.int z1), some (.int z2)], [(.int (gi M 0 19)), (.int z2), (.ref 9)], mkM M)) rfl ?_
    obtain ⟨f24, h⟩ := h
    refine aG_iast rfl rfl f24 ?_
    refine aG_n 1 (s' := (165, [some (.ref 0), some (.int z1), some (.int z2)], [], mkM (si M 9 z2.toNatClampNeg (gi M 0 19)))) rfl ?_
    exact aG_retV rfl rfl ⟨_, rfl, h⟩
  · have h := h2 q23
    refine aG_icmp (cd := .ne) (b := true) (aTne1 q23) rfl ?_
    refine aG_n 5 (s' := (164, [some (.ref 0), some (.int z1), some (.int z2)], [(.int (gi M 0 19)), (.int z2), (.ref 10)], mkM M)) rfl ?_
    obtain ⟨f25, h⟩ := h
    refine aG_iast rfl rfl f25 ?_
    refine aG_n 0 (s' := (165, [some (.ref 0), some (.int z1), some (.int z2)], [], mkM (si M 10 z2.toNatClampNeg (gi M 0 19)))) rfl ?_
    exact aG_retV rfl rfl ⟨_, rfl, h⟩
def wj_X12_readNumber_89 (z1 : Int32) (z2 : Int32) (s1 : Int32) (M : wM) (Q : wM → Prop) : Prop := w_X12_wants s1 (nI 3) M (fun M16 => ((gi M16 0 20) = (nI 0) → (z1 = (nI 1) → vp_in z2 6 ∧ (((gi M16 0 19) = (gi M16 10 z2.toNatClampNeg) → w_X12_wants (nI 0) (nI 4) M16 (fun M22 => wj_X12_readNumber_137 z1 z2 M22 Q)) ∧ (¬ (gi M16 0 19) = (gi M16 10 z2.toNatClampNeg) → w_X12_wants (nI 1) (nI 4) M16 (fun M27 => wj_X12_readNumber_137 z1 z2 M27 Q)))) ∧ (¬ z1 = (nI 1) → vp_in z2 6 ∧ (((gi M16 0 19) = (gi M16 9 z2.toNatClampNeg) → w_X12_wants (nI 0) (nI 4) M16 (fun M31 => wj_X12_readNumber_137 z1 z2 M31 Q)) ∧ (¬ (gi M16 0 19) = (gi M16 9 z2.toNatClampNeg) → w_X12_wants (nI 1) (nI 4) M16 (fun M33 => wj_X12_readNumber_137 z1 z2 M33 Q))))) ∧ (¬ (gi M16 0 20) = (nI 0) → wj_X12_readNumber_137 z1 z2 M16 Q))
set_option maxRecDepth 20000 in
theorem wjk_X12_readNumber_89 {z1 : Int32} {z2 : Int32} {s1 : Int32} {M : wM} {Q : wM → Prop} (h : wj_X12_readNumber_89 z1 z2 s1 M Q) : aG 118 (89, [some (.ref 0), some (.int z1), some (.int z2)], [(.int s1), (.ref 0)], mkM M) (aPv mkM Q) := by
  unfold wj_X12_readNumber_89 at h
  refine aG_n 1 (s' := (90, [some (.ref 0), some (.int z1), some (.int z2)], [(.int (nI 3)), (.int s1), (.ref 0)], mkM M)) rfl ?_
  refine aG_call rfl rfl (aG_mono (wk_X12_wants h) ?_)
  rintro _ ⟨M16, rfl, h⟩
  refine aG_n 2 (s' := (97, [some (.ref 0), some (.int z1), some (.int z2)], [(.int (gi M16 0 20))], mkM M16)) rfl ?_
  obtain ⟨h1, h2⟩ := h
  by_cases q17 : (gi M16 0 20) = (nI 0)
  · have h := h1 q17
    refine aG_if (cd := .ne) (b := false) (aTne0 q17) rfl ?_
    refine aG_n 5 (s' := (107, [some (.ref 0), some (.int z1), some (.int z2)], [(.int (nI 1)), (.int z1), (.int (gi M16 0 19)), (.ref 0)], mkM M16)) rfl ?_
    obtain ⟨h1, h2⟩ := h
    by_cases q18 : z1 = (nI 1)
    · have h := h1 q18
      refine aG_icmp (cd := .ne) (b := false) (aTne0 q18) rfl ?_
      refine aG_n 3 (s' := (115, [some (.ref 0), some (.int z1), some (.int z2)], [(.int z2), (.ref 10), (.int (gi M16 0 19)), (.ref 0)], mkM M16)) rfl ?_
      obtain ⟨f19, h⟩ := h
      refine aG_iald rfl rfl rfl f19 ?_
      refine aG_n 1 (s' := (125, [some (.ref 0), some (.int z1), some (.int z2)], [(.int (gi M16 10 z2.toNatClampNeg)), (.int (gi M16 0 19)), (.ref 0)], mkM M16)) rfl ?_
      obtain ⟨h1, h2⟩ := h
      by_cases q20 : (gi M16 0 19) = (gi M16 10 z2.toNatClampNeg)
      · have h := h1 q20
        refine aG_icmp (cd := .eq) (b := true) (decide_eq_true q20) rfl ?_
        refine aG_n 2 (s' := (134, [some (.ref 0), some (.int z1), some (.int z2)], [(.int (nI 4)), (.int (nI 0)), (.ref 0)], mkM M16)) rfl ?_
        refine aG_call rfl rfl (aG_mono (wk_X12_wants h) ?_)
        rintro _ ⟨M22, rfl, h⟩
        refine aG_n 0 (s' := (137, [some (.ref 0), some (.int z1), some (.int z2)], [], mkM M22)) rfl ?_
        refine aG_le (a := [some (.ref 0), some (.int z1), some (.int z2)]) ⟨rfl, ⟨rfl, ⟨rfl, trivial⟩⟩⟩ ?_
        exact wjk_X12_readNumber_137 h
      · have h := h2 q20
        refine aG_icmp (cd := .eq) (b := false) (decide_eq_false q20) rfl ?_
        refine aG_n 3 (s' := (134, [some (.ref 0), some (.int z1), some (.int z2)], [(.int (nI 4)), (.int (nI 1)), (.ref 0)], mkM M16)) rfl ?_
        refine aG_call rfl rfl (aG_mono (wk_X12_wants h) ?_)
        rintro _ ⟨M27, rfl, h⟩
        refine aG_n 0 (s' := (137, [some (.ref 0), some (.int z1), some (.int z2)], [], mkM M27)) rfl ?_
        refine aG_le (a := [some (.ref 0), some (.int z1), some (.int z2)]) ⟨rfl, ⟨rfl, ⟨rfl, trivial⟩⟩⟩ ?_
        exact wjk_X12_readNumber_137 h
    · have h := h2 q18
      refine aG_icmp (cd := .ne) (b := true) (aTne1 q18) rfl ?_
      refine aG_n 3 (s' := (124, [some (.ref 0), some (.int z1), some (.int z2)], [(.int z2), (.ref 9), (.int (gi M16 0 19)), (.ref 0)], mkM M16)) rfl ?_
      obtain ⟨f28, h⟩ := h
      refine aG_iald rfl rfl rfl f28 ?_
      refine aG_n 0 (s' := (125, [some (.ref 0), some (.int z1), some (.int z2)], [(.int (gi M16 9 z2.toNatClampNeg)), (.int (gi M16 0 19)), (.ref 0)], mkM M16)) rfl ?_
      obtain ⟨h1, h2⟩ := h
      by_cases q29 : (gi M16 0 19) = (gi M16 9 z2.toNatClampNeg)
      · have h := h1 q29
        refine aG_icmp (cd := .eq) (b := true) (decide_eq_true q29) rfl ?_
        refine aG_n 2 (s' := (134, [some (.ref 0), some (.int z1), some (.int z2)], [(.int (nI 4)), (.int (nI 0)), (.ref 0)], mkM M16)) rfl ?_
        refine aG_call rfl rfl (aG_mono (wk_X12_wants h) ?_)
        rintro _ ⟨M31, rfl, h⟩
        refine aG_n 0 (s' := (137, [some (.ref 0), some (.int z1), some (.int z2)], [], mkM M31)) rfl ?_
        refine aG_le (a := [some (.ref 0), some (.int z1), some (.int z2)]) ⟨rfl, ⟨rfl, ⟨rfl, trivial⟩⟩⟩ ?_
        exact wjk_X12_readNumber_137 h
      · have h := h2 q29
        refine aG_icmp (cd := .eq) (b := false) (decide_eq_false q29) rfl ?_
        refine aG_n 3 (s' := (134, [some (.ref 0), some (.int z1), some (.int z2)], [(.int (nI 4)), (.int (nI 1)), (.ref 0)], mkM M16)) rfl ?_
        refine aG_call rfl rfl (aG_mono (wk_X12_wants h) ?_)
        rintro _ ⟨M33, rfl, h⟩
        refine aG_n 0 (s' := (137, [some (.ref 0), some (.int z1), some (.int z2)], [], mkM M33)) rfl ?_
        refine aG_le (a := [some (.ref 0), some (.int z1), some (.int z2)]) ⟨rfl, ⟨rfl, ⟨rfl, trivial⟩⟩⟩ ?_
        exact wjk_X12_readNumber_137 h
  · have h := h2 q17
    refine aG_if (cd := .ne) (b := true) (aTne1 q17) rfl ?_
    refine aG_n 0 (s' := (137, [some (.ref 0), some (.int z1), some (.int z2)], [], mkM M16)) rfl ?_
    refine aG_le (a := [some (.ref 0), some (.int z1), some (.int z2)]) ⟨rfl, ⟨rfl, ⟨rfl, trivial⟩⟩⟩ ?_
    exact wjk_X12_readNumber_137 h
def wj_X12_readNumber_19 (z1 : Int32) (z2 : Int32) (s1 : Int32) (M : wM) (Q : wM → Prop) : Prop := w_X12_wants s1 (nI 2) M (fun M3 => ((gi M3 0 20) ≤ (nI 0) → (z1 = (nI 0) → (((gi M3 0 19) - (gi M3 0 19) / (nI 2) * (nI 2)) = (nI 1) → w_X12_wants (nI 1) (nI 3) M3 (fun M8 => vp_in z2 6 ∧ (Q (si M8 8 z2.toNatClampNeg (gi M8 0 19))))) ∧ (¬ ((gi M3 0 19) - (gi M3 0 19) / (nI 2) * (nI 2)) = (nI 1) → w_X12_wants (nI 0) (nI 3) M3 (fun M11 => vp_in z2 6 ∧ (Q (si M11 8 z2.toNatClampNeg (gi M11 0 19)))))) ∧ (¬ z1 = (nI 0) → vp_in z2 6 ∧ ((((jshl (nI 1) (gi M3 7 z2.toNatClampNeg)) - (nI 1)) ≤ (gi M3 0 19) → wj_X12_readNumber_89 z1 z2 (nI 0) M3 Q) ∧ (¬ ((jshl (nI 1) (gi M3 7 z2.toNatClampNeg)) - (nI 1)) ≤ (gi M3 0 19) → wj_X12_readNumber_89 z1 z2 (nI 1) M3 Q)))) ∧ (¬ (gi M3 0 20) ≤ (nI 0) → Q M3))
set_option maxRecDepth 20000 in
theorem wjk_X12_readNumber_19 {z1 : Int32} {z2 : Int32} {s1 : Int32} {M : wM} {Q : wM → Prop} (h : wj_X12_readNumber_19 z1 z2 s1 M Q) : aG 118 (19, [some (.ref 0), some (.int z1), some (.int z2)], [(.int s1), (.ref 0)], mkM M) (aPv mkM Q) := by
  unfold wj_X12_readNumber_19 at h
  refine aG_n 1 (s' := (20, [some (.ref 0), some (.int z1), some (.int z2)], [(.int (nI 2)), (.int s1), (.ref 0)], mkM M)) rfl ?_
  refine aG_call rfl rfl (aG_mono (wk_X12_wants h) ?_)
  rintro _ ⟨M3, rfl, h⟩
  refine aG_n 2 (s' := (27, [some (.ref 0), some (.int z1), some (.int z2)], [(.int (gi M3 0 20))], mkM M3)) rfl ?_
  obtain ⟨h1, h2⟩ := h
  by_cases q4 : (gi M3 0 20) ≤ (nI 0)
  · have h := h1 q4
    refine aG_if (cd := .le) (b := true) (decide_eq_true q4) rfl ?_
    refine aG_n 1 (s' := (32, [some (.ref 0), some (.int z1), some (.int z2)], [(.int z1)], mkM M3)) rfl ?_
    obtain ⟨h1, h2⟩ := h
    by_cases q5 : z1 = (nI 0)
    · have h := h1 q5
      refine aG_if (cd := .ne) (b := false) (aTne0 q5) rfl ?_
      refine aG_n 4 (s' := (41, [some (.ref 0), some (.int z1), some (.int z2)], [(.int (nI 2)), (.int (gi M3 0 19)), (.ref 0)], mkM M3)) rfl ?_
      refine aG_rem rfl (by decide) ?_
      refine aG_n 1 (s' := (43, [some (.ref 0), some (.int z1), some (.int z2)], [(.int (nI 1)), (.int ((gi M3 0 19) - (gi M3 0 19) / (nI 2) * (nI 2))), (.ref 0)], mkM M3)) rfl ?_
      obtain ⟨h1, h2⟩ := h
      by_cases q6 : ((gi M3 0 19) - (gi M3 0 19) / (nI 2) * (nI 2)) = (nI 1)
      · have h := h1 q6
        refine aG_icmp (cd := .ne) (b := false) (aTne0 q6) rfl ?_
        refine aG_n 3 (s' := (52, [some (.ref 0), some (.int z1), some (.int z2)], [(.int (nI 3)), (.int (nI 1)), (.ref 0)], mkM M3)) rfl ?_
        refine aG_call rfl rfl (aG_mono (wk_X12_wants h) ?_)
        rintro _ ⟨M8, rfl, h⟩
        refine aG_n 5 (s' := (64, [some (.ref 0), some (.int z1), some (.int z2)], [(.int (gi M8 0 19)), (.int z2), (.ref 8)], mkM M8)) rfl ?_
        obtain ⟨f9, h⟩ := h
        refine aG_iast rfl rfl f9 ?_
        refine aG_n 0 (s' := (65, [some (.ref 0), some (.int z1), some (.int z2)], [], mkM (si M8 8 z2.toNatClampNeg (gi M8 0 19)))) rfl ?_
        exact aG_retV rfl rfl ⟨_, rfl, h⟩
      · have h := h2 q6
        refine aG_icmp (cd := .ne) (b := true) (aTne1 q6) rfl ?_
        refine aG_n 2 (s' := (52, [some (.ref 0), some (.int z1), some (.int z2)], [(.int (nI 3)), (.int (nI 0)), (.ref 0)], mkM M3)) rfl ?_
        refine aG_call rfl rfl (aG_mono (wk_X12_wants h) ?_)
        rintro _ ⟨M11, rfl, h⟩
        refine aG_n 5 (s' := (64, [some (.ref 0), some (.int z1), some (.int z2)], [(.int (gi M11 0 19)), (.int z2), (.ref 8)], mkM M11)) rfl ?_
        obtain ⟨f12, h⟩ := h
        refine aG_iast rfl rfl f12 ?_
        refine aG_n 0 (s' := (65, [some (.ref 0), some (.int z1), some (.int z2)], [], mkM (si M11 8 z2.toNatClampNeg (gi M11 0 19)))) rfl ?_
        exact aG_retV rfl rfl ⟨_, rfl, h⟩
    · have h := h2 q5
      refine aG_if (cd := .ne) (b := true) (aTne1 q5) rfl ?_
      refine aG_n 7 (s' := (77, [some (.ref 0), some (.int z1), some (.int z2)], [(.int z2), (.ref 7), (.int (nI 1)), (.int (gi M3 0 19)), (.ref 0)], mkM M3)) rfl ?_
      obtain ⟨f13, h⟩ := h
      refine aG_iald rfl rfl rfl f13 ?_
      refine aG_n 3 (s' := (81, [some (.ref 0), some (.int z1), some (.int z2)], [(.int ((jshl (nI 1) (gi M3 7 z2.toNatClampNeg)) - (nI 1))), (.int (gi M3 0 19)), (.ref 0)], mkM M3)) rfl ?_
      obtain ⟨h1, h2⟩ := h
      by_cases q14 : ((jshl (nI 1) (gi M3 7 z2.toNatClampNeg)) - (nI 1)) ≤ (gi M3 0 19)
      · have h := h1 q14
        refine aG_icmp (cd := .ge) (b := true) (decide_eq_true q14) rfl ?_
        refine aG_n 1 (s' := (89, [some (.ref 0), some (.int z1), some (.int z2)], [(.int (nI 0)), (.ref 0)], mkM M3)) rfl ?_
        refine aG_le (a := [some (.ref 0), some (.int z1), some (.int z2)]) ⟨rfl, ⟨rfl, ⟨rfl, trivial⟩⟩⟩ ?_
        exact wjk_X12_readNumber_89 h
      · have h := h2 q14
        refine aG_icmp (cd := .ge) (b := false) (decide_eq_false q14) rfl ?_
        refine aG_n 2 (s' := (89, [some (.ref 0), some (.int z1), some (.int z2)], [(.int (nI 1)), (.ref 0)], mkM M3)) rfl ?_
        refine aG_le (a := [some (.ref 0), some (.int z1), some (.int z2)]) ⟨rfl, ⟨rfl, ⟨rfl, trivial⟩⟩⟩ ?_
        exact wjk_X12_readNumber_89 h
  · have h := h2 q4
    refine aG_if (cd := .le) (b := false) (decide_eq_false q4) rfl ?_
    refine aG_n 0 (s' := (30, [some (.ref 0), some (.int z1), some (.int z2)], [], mkM M3)) rfl ?_
    exact aG_retV rfl rfl ⟨_, rfl, h⟩
def w_X12_readNumber (x1 : Int32) (M : wM) (Q : wM → Prop) : Prop := ((gi M 0 18) = (nI 2) → wj_X12_readNumber_19 x1 (gi M 0 7) (nI 1) M Q) ∧ (¬ (gi M 0 18) = (nI 2) → wj_X12_readNumber_19 x1 (gi M 0 7) (nI 0) M Q)
set_option maxRecDepth 20000 in
theorem wk_X12_readNumber {x1 : Int32} {M : wM} {Q : wM → Prop} (h : w_X12_readNumber x1 M Q) : aG 118 (aEn 118 [(.ref 0), (.int x1)] (mkM M)) (aPv mkM Q) := by
  unfold w_X12_readNumber at h
  refine aG_n 7 (s' := (11, [some (.ref 0), some (.int x1), some (.int (gi M 0 7))], [(.int (nI 2)), (.int (gi M 0 18)), (.ref 0)], mkM M)) rfl ?_
  obtain ⟨h1, h2⟩ := h
  by_cases q1 : (gi M 0 18) = (nI 2)
  · have h := h1 q1
    refine aG_icmp (cd := .ne) (b := false) (aTne0 q1) rfl ?_
    refine aG_n 2 (s' := (19, [some (.ref 0), some (.int x1), some (.int (gi M 0 7))], [(.int (nI 1)), (.ref 0)], mkM M)) rfl ?_
    refine aG_le (a := [some (.ref 0), some (.int x1), some (.int (gi M 0 7))]) ⟨rfl, ⟨rfl, ⟨rfl, trivial⟩⟩⟩ ?_
    exact wjk_X12_readNumber_19 h
  · have h := h2 q1
    refine aG_icmp (cd := .ne) (b := true) (aTne1 q1) rfl ?_
    refine aG_n 1 (s' := (19, [some (.ref 0), some (.int x1), some (.int (gi M 0 7))], [(.int (nI 0)), (.ref 0)], mkM M)) rfl ?_
    refine aG_le (a := [some (.ref 0), some (.int x1), some (.int (gi M 0 7))]) ⟨rfl, ⟨rfl, ⟨rfl, trivial⟩⟩⟩ ?_
    exact wjk_X12_readNumber_19 h
def wj_X12_part_51 (z1 : Int32) (z2 : Int32) (M : wM) (Q : Int32 → wM → Prop) : Prop := (z2 = nI 0 → vp_in z1 6 ∧ (Q (gi M 1 z1.toNatClampNeg) M)) ∧ (¬ z2 = nI 0 → (z2 = nI 1 → vp_in z1 6 ∧ (Q (gi M 2 z1.toNatClampNeg) M)) ∧ (¬ z2 = nI 1 → (z2 = nI 2 → vp_in z1 6 ∧ (Q (gi M 3 z1.toNatClampNeg) M)) ∧ (¬ z2 = nI 2 → (z2 = nI 3 → vp_in z1 6 ∧ (Q (gi M 4 z1.toNatClampNeg) M)) ∧ (¬ z2 = nI 3 → (z2 = nI 4 → vp_in z1 6 ∧ (Q (gi M 5 z1.toNatClampNeg) M)) ∧ (¬ z2 = nI 4 → (z2 = nI 5 → vp_in z1 6 ∧ (w_X12_bits (gi M 6 z1.toNatClampNeg) M (fun r23 M24 => Q r23 M24))) ∧ (¬ z2 = nI 5 → vp_in z1 6 ∧ (Q ((jshr (gi M 6 z1.toNatClampNeg) (z2 - (nI 10))) &&& (nI 1)) M)))))))
set_option maxRecDepth 20000 in
theorem wjk_X12_part_51 {z1 : Int32} {z2 : Int32} {M : wM} {Q : Int32 → wM → Prop} (h : wj_X12_part_51 z1 z2 M Q) : aG 119 (51, [some (.ref 0), some (.int z1), some (.int z2)], [], mkM M) (aPi mkM Q) := by
  unfold wj_X12_part_51 at h
  refine aG_n 1 (s' := (52, [some (.ref 0), some (.int z1), some (.int z2)], [(.int z2)], mkM M)) rfl ?_
  obtain ⟨h1, h⟩ := h
  by_cases q11 : z2 = nI 0
  · have h := h1 q11
    refine aG_tbl rfl (by rw [q11] <;> decide) (by rw [q11] <;> rfl) ?_
    refine aG_n 3 (s' := (97, [some (.ref 0), some (.int z1), some (.int z2)], [(.int z1), (.ref 1)], mkM M)) rfl ?_
    obtain ⟨f12, h⟩ := h
    refine aG_iald rfl rfl rfl f12 ?_
    refine aG_n 0 (s' := (98, [some (.ref 0), some (.int z1), some (.int z2)], [(.int (gi M 1 z1.toNatClampNeg))], mkM M)) rfl ?_
    exact aG_ret0 rfl rfl ⟨_, _, rfl, h⟩
  have h := h q11
  obtain ⟨h1, h⟩ := h
  by_cases q13 : z2 = nI 1
  · have h := h1 q13
    refine aG_tbl rfl (by rw [q13] <;> decide) (by rw [q13] <;> rfl) ?_
    refine aG_n 3 (s' := (104, [some (.ref 0), some (.int z1), some (.int z2)], [(.int z1), (.ref 2)], mkM M)) rfl ?_
    obtain ⟨f14, h⟩ := h
    refine aG_iald rfl rfl rfl f14 ?_
    refine aG_n 0 (s' := (105, [some (.ref 0), some (.int z1), some (.int z2)], [(.int (gi M 2 z1.toNatClampNeg))], mkM M)) rfl ?_
    exact aG_ret0 rfl rfl ⟨_, _, rfl, h⟩
  have h := h q13
  obtain ⟨h1, h⟩ := h
  by_cases q15 : z2 = nI 2
  · have h := h1 q15
    refine aG_tbl rfl (by rw [q15] <;> decide) (by rw [q15] <;> rfl) ?_
    refine aG_n 3 (s' := (111, [some (.ref 0), some (.int z1), some (.int z2)], [(.int z1), (.ref 3)], mkM M)) rfl ?_
    obtain ⟨f16, h⟩ := h
    refine aG_iald rfl rfl rfl f16 ?_
    refine aG_n 0 (s' := (112, [some (.ref 0), some (.int z1), some (.int z2)], [(.int (gi M 3 z1.toNatClampNeg))], mkM M)) rfl ?_
    exact aG_ret0 rfl rfl ⟨_, _, rfl, h⟩
  have h := h q15
  obtain ⟨h1, h⟩ := h
  by_cases q17 : z2 = nI 3
  · have h := h1 q17
    refine aG_tbl rfl (by rw [q17] <;> decide) (by rw [q17] <;> rfl) ?_
    refine aG_n 3 (s' := (118, [some (.ref 0), some (.int z1), some (.int z2)], [(.int z1), (.ref 4)], mkM M)) rfl ?_
    obtain ⟨f18, h⟩ := h
    refine aG_iald rfl rfl rfl f18 ?_
    refine aG_n 0 (s' := (119, [some (.ref 0), some (.int z1), some (.int z2)], [(.int (gi M 4 z1.toNatClampNeg))], mkM M)) rfl ?_
    exact aG_ret0 rfl rfl ⟨_, _, rfl, h⟩
  have h := h q17
  obtain ⟨h1, h⟩ := h
  by_cases q19 : z2 = nI 4
  · have h := h1 q19
    refine aG_tbl rfl (by rw [q19] <;> decide) (by rw [q19] <;> rfl) ?_
    refine aG_n 3 (s' := (125, [some (.ref 0), some (.int z1), some (.int z2)], [(.int z1), (.ref 5)], mkM M)) rfl ?_
    obtain ⟨f20, h⟩ := h
    refine aG_iald rfl rfl rfl f20 ?_
    refine aG_n 0 (s' := (126, [some (.ref 0), some (.int z1), some (.int z2)], [(.int (gi M 5 z1.toNatClampNeg))], mkM M)) rfl ?_
    exact aG_ret0 rfl rfl ⟨_, _, rfl, h⟩
  have h := h q19
  obtain ⟨h1, h⟩ := h
  by_cases q21 : z2 = nI 5
  · have h := h1 q21
    refine aG_tbl rfl (by rw [q21] <;> decide) (by rw [q21] <;> rfl) ?_
    refine aG_n 3 (s' := (132, [some (.ref 0), some (.int z1), some (.int z2)], [(.int z1), (.ref 6)], mkM M)) rfl ?_
    obtain ⟨f22, h⟩ := h
    refine aG_iald rfl rfl rfl f22 ?_
    refine aG_n 0 (s' := (133, [some (.ref 0), some (.int z1), some (.int z2)], [(.int (gi M 6 z1.toNatClampNeg))], mkM M)) rfl ?_
    refine aG_call rfl rfl (aG_mono (wk_X12_bits h) ?_)
    rintro _ ⟨r23, M24, rfl, h⟩
    refine aG_n 0 (s' := (136, [some (.ref 0), some (.int z1), some (.int z2)], [(.int r23)], mkM M24)) rfl ?_
    exact aG_ret0 rfl rfl ⟨_, _, rfl, h⟩
  have h := h q21
  refine aG_tbd rfl (tbl_out 5 (fun k hk _ => ?_) (by decide)) ?_
  · have hk2 : k = 0 ∨ k = 1 ∨ k = 2 ∨ k = 3 ∨ k = 4 ∨ k = 5 := by omega
    rcases hk2 with rfl | rfl | rfl | rfl | rfl | rfl <;> assumption
  refine aG_n 3 (s' := (142, [some (.ref 0), some (.int z1), some (.int z2)], [(.int z1), (.ref 6)], mkM M)) rfl ?_
  obtain ⟨f25, h⟩ := h
  refine aG_iald rfl rfl rfl f25 ?_
  refine aG_n 6 (s' := (150, [some (.ref 0), some (.int z1), some (.int z2)], [(.int ((jshr (gi M 6 z1.toNatClampNeg) (z2 - (nI 10))) &&& (nI 1)))], mkM M)) rfl ?_
  exact aG_ret0 rfl rfl ⟨_, _, rfl, h⟩
def w_X12_part (x1 : Int32) (x2 : Int32) (M : wM) (Q : Int32 → wM → Prop) : Prop := w_X12_in x1.toInt64 (lN 0) ((gi M 0 0) - (nI 1)).toInt64 M (fun r1 M2 => (r1 = (nI 0) → Q (-1) M2) ∧ (¬ r1 = (nI 0) → w_X12_in x2.toInt64 (lN 0) (lN 5) M2 (fun r4 M5 => (r4 = (nI 0) → vp_in x1 6 ∧ (w_X12_in x2.toInt64 (lN 10) ((nI 9) + (gi M5 5 x1.toNatClampNeg)).toInt64 M5 (fun r8 M9 => (r8 = (nI 0) → Q (-1) M9) ∧ (¬ r8 = (nI 0) → wj_X12_part_51 x1 x2 M9 Q)))) ∧ (¬ r4 = (nI 0) → wj_X12_part_51 x1 x2 M5 Q))))
set_option maxRecDepth 20000 in
theorem wk_X12_part {x1 : Int32} {x2 : Int32} {M : wM} {Q : Int32 → wM → Prop} (h : w_X12_part x1 x2 M Q) : aG 119 (aEn 119 [(.ref 0), (.int x1), (.int x2)] (mkM M)) (aPi mkM Q) := by
  unfold w_X12_part at h
  refine aG_n 8 (s' := (10, [some (.ref 0), some (.int x1), some (.int x2)], [(.long ((gi M 0 0) - (nI 1)).toInt64), (.long (lN 0)), (.long x1.toInt64)], mkM M)) rfl ?_
  refine aG_call rfl rfl (aG_mono (wk_X12_in h) ?_)
  rintro _ ⟨r1, M2, rfl, h⟩
  refine aG_n 0 (s' := (13, [some (.ref 0), some (.int x1), some (.int x2)], [(.int r1)], mkM M2)) rfl ?_
  obtain ⟨h1, h2⟩ := h
  by_cases q3 : r1 = (nI 0)
  · have h := h1 q3
    refine aG_if (cd := .eq) (b := true) (decide_eq_true q3) rfl ?_
    refine aG_n 1 (s' := (50, [some (.ref 0), some (.int x1), some (.int x2)], [(.int (-1))], mkM M2)) rfl ?_
    exact aG_ret0 rfl rfl ⟨_, _, rfl, h⟩
  · have h := h2 q3
    refine aG_if (cd := .eq) (b := false) (decide_eq_false q3) rfl ?_
    refine aG_n 4 (s' := (22, [some (.ref 0), some (.int x1), some (.int x2)], [(.long (lN 5)), (.long (lN 0)), (.long x2.toInt64)], mkM M2)) rfl ?_
    refine aG_call rfl rfl (aG_mono (wk_X12_in h) ?_)
    rintro _ ⟨r4, M5, rfl, h⟩
    refine aG_n 0 (s' := (25, [some (.ref 0), some (.int x1), some (.int x2)], [(.int r4)], mkM M5)) rfl ?_
    obtain ⟨h1, h2⟩ := h
    by_cases q6 : r4 = (nI 0)
    · have h := h1 q6
      refine aG_if (cd := .ne) (b := false) (aTne0 q6) rfl ?_
      refine aG_n 7 (s' := (40, [some (.ref 0), some (.int x1), some (.int x2)], [(.int x1), (.ref 5), (.int (nI 9)), (.long (lN 10)), (.long x2.toInt64)], mkM M5)) rfl ?_
      obtain ⟨f7, h⟩ := h
      refine aG_iald rfl rfl rfl f7 ?_
      refine aG_n 2 (s' := (43, [some (.ref 0), some (.int x1), some (.int x2)], [(.long ((nI 9) + (gi M5 5 x1.toNatClampNeg)).toInt64), (.long (lN 10)), (.long x2.toInt64)], mkM M5)) rfl ?_
      refine aG_call rfl rfl (aG_mono (wk_X12_in h) ?_)
      rintro _ ⟨r8, M9, rfl, h⟩
      refine aG_n 0 (s' := (46, [some (.ref 0), some (.int x1), some (.int x2)], [(.int r8)], mkM M9)) rfl ?_
      obtain ⟨h1, h2⟩ := h
      by_cases q10 : r8 = (nI 0)
      · have h := h1 q10
        refine aG_if (cd := .ne) (b := false) (aTne0 q10) rfl ?_
        refine aG_n 1 (s' := (50, [some (.ref 0), some (.int x1), some (.int x2)], [(.int (-1))], mkM M9)) rfl ?_
        exact aG_ret0 rfl rfl ⟨_, _, rfl, h⟩
      · have h := h2 q10
        refine aG_if (cd := .ne) (b := true) (aTne1 q10) rfl ?_
        refine aG_n 0 (s' := (51, [some (.ref 0), some (.int x1), some (.int x2)], [], mkM M9)) rfl ?_
        refine aG_le (a := [some (.ref 0), some (.int x1), some (.int x2)]) ⟨rfl, ⟨rfl, ⟨rfl, trivial⟩⟩⟩ ?_
        exact wjk_X12_part_51 h
    · have h := h2 q6
      refine aG_if (cd := .ne) (b := true) (aTne1 q6) rfl ?_
      refine aG_n 0 (s' := (51, [some (.ref 0), some (.int x1), some (.int x2)], [], mkM M5)) rfl ?_
      refine aG_le (a := [some (.ref 0), some (.int x1), some (.int x2)]) ⟨rfl, ⟨rfl, ⟨rfl, trivial⟩⟩⟩ ?_
      exact wjk_X12_part_51 h
def w_X12_isChip (x1 : Int32) (M : wM) (Q : Int32 → wM → Prop) : Prop := w_X12_in x1.toInt64 (lN 0) ((gi M 0 22) - (nI 1)).toInt64 M (fun r1 M2 => (r1 = nI 0 ∨ r1 = nI 1) ∧ Q r1 M2)
set_option maxRecDepth 20000 in
theorem wk_X12_isChip {x1 : Int32} {M : wM} {Q : Int32 → wM → Prop} (h : w_X12_isChip x1 M Q) : aG 120 (aEn 120 [(.ref 0), (.int x1)] (mkM M)) (aPi mkM Q) := by
  unfold w_X12_isChip at h
  refine aG_n 8 (s' := (10, [some (.ref 0), some (.int x1)], [(.long ((gi M 0 22) - (nI 1)).toInt64), (.long (lN 0)), (.long x1.toInt64)], mkM M)) rfl ?_
  refine aG_call rfl rfl (aG_mono (wk_X12_in h) ?_)
  rintro _ ⟨r1, M2, rfl, h⟩
  refine aG_n 0 (s' := (13, [some (.ref 0), some (.int x1)], [(.int r1)], mkM M2)) rfl ?_
  exact aG_retZ rfl rfl h.1 ⟨_, _, rfl, h.2⟩
def wb_X12_chip_112 (K112 : Int32 → wM → Prop) (y2 : Int32) (M : wM) (Q : Int32 → wM → Prop) : Prop := ((nI 10) ≤ y2 → w_X12_resets (gi M 0 22) M (fun M15 => Q ((((gi M15 0 22) + (nI 1))) - (nI 1)) (si M15 0 22 ((gi M15 0 22) + (nI 1))))) ∧ (¬ (nI 10) ≤ y2 → vp_in (((nI 10) * (gi M 0 22)) + y2) 60 ∧ (K112 (y2 + (nI 1)) (si M 23 (((nI 10) * (gi M 0 22)) + y2).toNatClampNeg (-4))))
set_option maxRecDepth 20000 in
theorem wbk_X12_chip_112 {K112 : Int32 → wM → Prop} {y2 : Int32} {M : wM} {Q : Int32 → wM → Prop} (hK112 : ∀ (v2 : Int32) (M : wM), K112 v2 M → aG 121 (112, [some (.ref 0), none, some (.int v2)], [], mkM M) (aPi mkM Q)) (h : wb_X12_chip_112 K112 y2 M Q) : aG 121 (112, [some (.ref 0), none, some (.int y2)], [], mkM M) (aPi mkM Q) := by
  unfold wb_X12_chip_112 at h
  refine aG_n 2 (s' := (115, [some (.ref 0), none, some (.int y2)], [(.int (nI 10)), (.int y2)], mkM M)) rfl ?_
  obtain ⟨h1, h2⟩ := h
  by_cases q13 : (nI 10) ≤ y2
  · have h := h1 q13
    refine aG_icmp (cd := .ge) (b := true) (decide_eq_true q13) rfl ?_
    refine aG_n 3 (s' := (145, [some (.ref 0), none, some (.int y2)], [(.int (gi M 0 22)), (.ref 0)], mkM M)) rfl ?_
    refine aG_call rfl rfl (aG_mono (wk_X12_resets h) ?_)
    rintro _ ⟨M15, rfl, h⟩
    refine aG_n 10 (s' := (164, [some (.ref 0), none, some (.int y2)], [(.int ((((gi M15 0 22) + (nI 1))) - (nI 1)))], mkM (si M15 0 22 ((gi M15 0 22) + (nI 1))))) rfl ?_
    exact aG_ret0 rfl rfl ⟨_, _, rfl, h⟩
  · have h := h2 q13
    refine aG_icmp (cd := .ge) (b := false) (decide_eq_false q13) rfl ?_
    refine aG_n 9 (s' := (133, [some (.ref 0), none, some (.int y2)], [(.int (-4)), (.int (((nI 10) * (gi M 0 22)) + y2)), (.ref 23)], mkM M)) rfl ?_
    obtain ⟨f16, h⟩ := h
    refine aG_iast rfl rfl f16 ?_
    refine aG_n 2 (s' := (112, [some (.ref 0), none, some (.int (y2 + (nI 1)))], [], mkM (si M 23 (((nI 10) * (gi M 0 22)) + y2).toNatClampNeg (-4)))) rfl ?_
    refine aG_le (a := [some (.ref 0), none, some (.int (y2 + (nI 1)))]) ⟨rfl, ⟨rfl, trivial⟩⟩ ?_
    exact hK112 _ _ h
def wL_X12_chip_112 (Q : Int32 → wM → Prop) : Nat → Int32 → wM → Prop
  | 0, _, _ => False
  | n + 1, y2, M => wb_X12_chip_112 (wL_X12_chip_112 Q n) y2 M Q
set_option maxRecDepth 20000 in
theorem wLk_X12_chip_112 {Q : Int32 → wM → Prop} : ∀ (n : Nat) (y2 : Int32) (M : wM), wL_X12_chip_112 Q n y2 M → aG 121 (112, [some (.ref 0), none, some (.int y2)], [], mkM M) (aPi mkM Q)
  | 0, _, _, h => h.elim
  | n + 1, y2, M, h => wbk_X12_chip_112 (fun y2 M h => wLk_X12_chip_112 n y2 M h) h
def w_X12_chip (x1 : Int32) (M : wM) (Q : Int32 → wM → Prop) : Prop := w_X12_in x1.toInt64 (lN 0) ((gi M 0 0) - (nI 1)).toInt64 M (fun r1 M2 => (r1 = (nI 0) → Q (-1) M2) ∧ (¬ r1 = (nI 0) → ((gi M2 0 33) = (nI 0) → ((gi M2 0 22) = (nI 6) → Q (-3) M2) ∧ (¬ (gi M2 0 22) = (nI 6) → vp_in (gi M2 0 22) 6 ∧ (vp_in (gi M2 0 22) 6 ∧ (vp_in (gi M2 0 22) 6 ∧ (vp_in (gi M2 0 22) 6 ∧ (vp_in (gi M2 0 22) 6 ∧ (vp_in (gi M2 0 22) 6 ∧ (vp_in (gi M2 0 22) 6 ∧ (∃ n, wL_X12_chip_112 Q n (nI 0) (si (si (si (si (si (si (si M2 14 (gi M2 0 22).toNatClampNeg x1) 16 (gi M2 0 22).toNatClampNeg (nI 0)) 17 (gi M2 0 22).toNatClampNeg (nI 0)) 18 (gi M2 0 22).toNatClampNeg (nI 0)) 19 (gi M2 0 22).toNatClampNeg (nI 0)) 20 (gi M2 0 22).toNatClampNeg (nI 0)) 21 (gi M2 0 22).toNatClampNeg (nI 0))))))))))) ∧ (¬ (gi M2 0 33) = (nI 0) → Q (-2) M2)))
set_option maxRecDepth 20000 in
theorem wk_X12_chip {x1 : Int32} {M : wM} {Q : Int32 → wM → Prop} (h : w_X12_chip x1 M Q) : aG 121 (aEn 121 [(.ref 0), (.int x1)] (mkM M)) (aPi mkM Q) := by
  unfold w_X12_chip at h
  refine aG_n 8 (s' := (10, [some (.ref 0), some (.int x1), none], [(.long ((gi M 0 0) - (nI 1)).toInt64), (.long (lN 0)), (.long x1.toInt64)], mkM M)) rfl ?_
  refine aG_call rfl rfl (aG_mono (wk_X12_in h) ?_)
  rintro _ ⟨r1, M2, rfl, h⟩
  refine aG_n 0 (s' := (13, [some (.ref 0), some (.int x1), none], [(.int r1)], mkM M2)) rfl ?_
  obtain ⟨h1, h2⟩ := h
  by_cases q3 : r1 = (nI 0)
  · have h := h1 q3
    refine aG_if (cd := .ne) (b := false) (aTne0 q3) rfl ?_
    refine aG_n 1 (s' := (17, [some (.ref 0), some (.int x1), none], [(.int (-1))], mkM M2)) rfl ?_
    exact aG_ret0 rfl rfl ⟨_, _, rfl, h⟩
  · have h := h2 q3
    refine aG_if (cd := .ne) (b := true) (aTne1 q3) rfl ?_
    refine aG_n 2 (s' := (22, [some (.ref 0), some (.int x1), none], [(.int (gi M2 0 33))], mkM M2)) rfl ?_
    obtain ⟨h1, h2⟩ := h
    by_cases q4 : (gi M2 0 33) = (nI 0)
    · have h := h1 q4
      refine aG_if (cd := .eq) (b := true) (decide_eq_true q4) rfl ?_
      refine aG_n 3 (s' := (34, [some (.ref 0), some (.int x1), none], [(.int (nI 6)), (.int (gi M2 0 22))], mkM M2)) rfl ?_
      obtain ⟨h1, h2⟩ := h
      by_cases q5 : (gi M2 0 22) = (nI 6)
      · have h := h1 q5
        refine aG_icmp (cd := .ne) (b := false) (aTne0 q5) rfl ?_
        refine aG_n 1 (s' := (39, [some (.ref 0), some (.int x1), none], [(.int (-3))], mkM M2)) rfl ?_
        exact aG_ret0 rfl rfl ⟨_, _, rfl, h⟩
      · have h := h2 q5
        refine aG_icmp (cd := .ne) (b := true) (aTne1 q5) rfl ?_
        refine aG_n 5 (s' := (49, [some (.ref 0), some (.int x1), none], [(.int x1), (.int (gi M2 0 22)), (.ref 14)], mkM M2)) rfl ?_
        obtain ⟨f6, h⟩ := h
        refine aG_iast rfl rfl f6 ?_
        refine aG_n 5 (s' := (59, [some (.ref 0), some (.int x1), none], [(.int (nI 0)), (.int (gi M2 0 22)), (.ref 16)], mkM (si M2 14 (gi M2 0 22).toNatClampNeg x1))) rfl ?_
        obtain ⟨f7, h⟩ := h
        refine aG_iast rfl rfl f7 ?_
        refine aG_n 5 (s' := (69, [some (.ref 0), some (.int x1), none], [(.int (nI 0)), (.int (gi M2 0 22)), (.ref 17)], mkM (si (si M2 14 (gi M2 0 22).toNatClampNeg x1) 16 (gi M2 0 22).toNatClampNeg (nI 0)))) rfl ?_
        obtain ⟨f8, h⟩ := h
        refine aG_iast rfl rfl f8 ?_
        refine aG_n 5 (s' := (79, [some (.ref 0), some (.int x1), none], [(.int (nI 0)), (.int (gi M2 0 22)), (.ref 18)], mkM (si (si (si M2 14 (gi M2 0 22).toNatClampNeg x1) 16 (gi M2 0 22).toNatClampNeg (nI 0)) 17 (gi M2 0 22).toNatClampNeg (nI 0)))) rfl ?_
        obtain ⟨f9, h⟩ := h
        refine aG_iast rfl rfl f9 ?_
        refine aG_n 5 (s' := (89, [some (.ref 0), some (.int x1), none], [(.int (nI 0)), (.int (gi M2 0 22)), (.ref 19)], mkM (si (si (si (si M2 14 (gi M2 0 22).toNatClampNeg x1) 16 (gi M2 0 22).toNatClampNeg (nI 0)) 17 (gi M2 0 22).toNatClampNeg (nI 0)) 18 (gi M2 0 22).toNatClampNeg (nI 0)))) rfl ?_
        obtain ⟨f10, h⟩ := h
        refine aG_iast rfl rfl f10 ?_
        refine aG_n 5 (s' := (99, [some (.ref 0), some (.int x1), none], [(.int (nI 0)), (.int (gi M2 0 22)), (.ref 20)], mkM (si (si (si (si (si M2 14 (gi M2 0 22).toNatClampNeg x1) 16 (gi M2 0 22).toNatClampNeg (nI 0)) 17 (gi M2 0 22).toNatClampNeg (nI 0)) 18 (gi M2 0 22).toNatClampNeg (nI 0)) 19 (gi M2 0 22).toNatClampNeg (nI 0)))) rfl ?_
        obtain ⟨f11, h⟩ := h
        refine aG_iast rfl rfl f11 ?_
        refine aG_n 5 (s' := (109, [some (.ref 0), some (.int x1), none], [(.int (nI 0)), (.int (gi M2 0 22)), (.ref 21)], mkM (si (si (si (si (si (si M2 14 (gi M2 0 22).toNatClampNeg x1) 16 (gi M2 0 22).toNatClampNeg (nI 0)) 17 (gi M2 0 22).toNatClampNeg (nI 0)) 18 (gi M2 0 22).toNatClampNeg (nI 0)) 19 (gi M2 0 22).toNatClampNeg (nI 0)) 20 (gi M2 0 22).toNatClampNeg (nI 0)))) rfl ?_
        obtain ⟨f12, h⟩ := h
        refine aG_iast rfl rfl f12 ?_
        refine aG_n 2 (s' := (112, [some (.ref 0), some (.int x1), some (.int (nI 0))], [], mkM (si (si (si (si (si (si (si M2 14 (gi M2 0 22).toNatClampNeg x1) 16 (gi M2 0 22).toNatClampNeg (nI 0)) 17 (gi M2 0 22).toNatClampNeg (nI 0)) 18 (gi M2 0 22).toNatClampNeg (nI 0)) 19 (gi M2 0 22).toNatClampNeg (nI 0)) 20 (gi M2 0 22).toNatClampNeg (nI 0)) 21 (gi M2 0 22).toNatClampNeg (nI 0)))) rfl ?_
        refine aG_le (a := [some (.ref 0), none, some (.int (nI 0))]) ⟨rfl, ⟨rfl, trivial⟩⟩ ?_
        obtain ⟨n, h⟩ := h
        exact wLk_X12_chip_112 n _ _ h
    · have h := h2 q4
      refine aG_if (cd := .eq) (b := false) (decide_eq_false q4) rfl ?_
      refine aG_n 1 (s' := (27, [some (.ref 0), some (.int x1), none], [(.int (-2))], mkM M2)) rfl ?_
      exact aG_ret0 rfl rfl ⟨_, _, rfl, h⟩
def wj_X12_cut_32 (z1 : Int32) (z2 : Int32) (M : wM) (Q : Int32 → wM → Prop) : Prop := vp_in z1 7 ∧ (vp_in z1 7 ∧ (Q (gi M 22 z1.toNatClampNeg) (si M 22 z1.toNatClampNeg z2)))
set_option maxRecDepth 20000 in
theorem wjk_X12_cut_32 {z1 : Int32} {z2 : Int32} {M : wM} {Q : Int32 → wM → Prop} (h : wj_X12_cut_32 z1 z2 M Q) : aG 122 (32, [some (.ref 0), some (.int z1), some (.int z2), none], [], mkM M) (aPi mkM Q) := by
  unfold wj_X12_cut_32 at h
  refine aG_n 3 (s' := (37, [some (.ref 0), some (.int z1), some (.int z2), none], [(.int z1), (.ref 22)], mkM M)) rfl ?_
  obtain ⟨f5, h⟩ := h
  refine aG_iald rfl rfl rfl f5 ?_
  refine aG_n 5 (s' := (45, [some (.ref 0), some (.int z1), some (.int z2), some (.int (gi M 22 z1.toNatClampNeg))], [(.int z2), (.int z1), (.ref 22)], mkM M)) rfl ?_
  obtain ⟨f6, h⟩ := h
  refine aG_iast rfl rfl f6 ?_
  refine aG_n 1 (s' := (47, [some (.ref 0), some (.int z1), some (.int z2), some (.int (gi M 22 z1.toNatClampNeg))], [(.int (gi M 22 z1.toNatClampNeg))], mkM (si M 22 z1.toNatClampNeg z2))) rfl ?_
  exact aG_ret0 rfl rfl ⟨_, _, rfl, h⟩
def w_X12_cut (x1 : Int32) (x2 : Int32) (M : wM) (Q : Int32 → wM → Prop) : Prop := w_X12_in x1.toInt64 (lN 0) (gi M 0 22).toInt64 M (fun r1 M2 => (r1 = (nI 0) → Q (-1) M2) ∧ (¬ r1 = (nI 0) → (x2 = (-4) → wj_X12_cut_32 x1 x2 M2 Q) ∧ (¬ x2 = (-4) → w_X12_in x2.toInt64 (lN 0) (lN 1) M2 (fun r7 M8 => (r7 = (nI 0) → Q (-1) M8) ∧ (¬ r7 = (nI 0) → wj_X12_cut_32 x1 x2 M8 Q)))))
set_option maxRecDepth 20000 in
theorem wk_X12_cut {x1 : Int32} {x2 : Int32} {M : wM} {Q : Int32 → wM → Prop} (h : w_X12_cut x1 x2 M Q) : aG 122 (aEn 122 [(.ref 0), (.int x1), (.int x2)] (mkM M)) (aPi mkM Q) := by
  unfold w_X12_cut at h
  refine aG_n 6 (s' := (8, [some (.ref 0), some (.int x1), some (.int x2), none], [(.long (gi M 0 22).toInt64), (.long (lN 0)), (.long x1.toInt64)], mkM M)) rfl ?_
  refine aG_call rfl rfl (aG_mono (wk_X12_in h) ?_)
  rintro _ ⟨r1, M2, rfl, h⟩
  refine aG_n 0 (s' := (11, [some (.ref 0), some (.int x1), some (.int x2), none], [(.int r1)], mkM M2)) rfl ?_
  obtain ⟨h1, h2⟩ := h
  by_cases q3 : r1 = (nI 0)
  · have h := h1 q3
    refine aG_if (cd := .eq) (b := true) (decide_eq_true q3) rfl ?_
    refine aG_n 1 (s' := (31, [some (.ref 0), some (.int x1), some (.int x2), none], [(.int (-1))], mkM M2)) rfl ?_
    exact aG_ret0 rfl rfl ⟨_, _, rfl, h⟩
  · have h := h2 q3
    refine aG_if (cd := .eq) (b := false) (decide_eq_false q3) rfl ?_
    refine aG_n 2 (s' := (17, [some (.ref 0), some (.int x1), some (.int x2), none], [(.int (-4)), (.int x2)], mkM M2)) rfl ?_
    obtain ⟨h1, h2⟩ := h
    by_cases q4 : x2 = (-4)
    · have h := h1 q4
      refine aG_icmp (cd := .eq) (b := true) (decide_eq_true q4) rfl ?_
      refine aG_n 0 (s' := (32, [some (.ref 0), some (.int x1), some (.int x2), none], [], mkM M2)) rfl ?_
      refine aG_le (a := [some (.ref 0), some (.int x1), some (.int x2), none]) ⟨rfl, ⟨rfl, ⟨rfl, trivial⟩⟩⟩ ?_
      exact wjk_X12_cut_32 h
    · have h := h2 q4
      refine aG_icmp (cd := .eq) (b := false) (decide_eq_false q4) rfl ?_
      refine aG_n 4 (s' := (24, [some (.ref 0), some (.int x1), some (.int x2), none], [(.long (lN 1)), (.long (lN 0)), (.long x2.toInt64)], mkM M2)) rfl ?_
      refine aG_call rfl rfl (aG_mono (wk_X12_in h) ?_)
      rintro _ ⟨r7, M8, rfl, h⟩
      refine aG_n 0 (s' := (27, [some (.ref 0), some (.int x1), some (.int x2), none], [(.int r7)], mkM M8)) rfl ?_
      obtain ⟨h1, h2⟩ := h
      by_cases q9 : r7 = (nI 0)
      · have h := h1 q9
        refine aG_if (cd := .ne) (b := false) (aTne0 q9) rfl ?_
        refine aG_n 1 (s' := (31, [some (.ref 0), some (.int x1), some (.int x2), none], [(.int (-1))], mkM M8)) rfl ?_
        exact aG_ret0 rfl rfl ⟨_, _, rfl, h⟩
      · have h := h2 q9
        refine aG_if (cd := .ne) (b := true) (aTne1 q9) rfl ?_
        refine aG_n 0 (s' := (32, [some (.ref 0), some (.int x1), some (.int x2), none], [], mkM M8)) rfl ?_
        refine aG_le (a := [some (.ref 0), some (.int x1), some (.int x2), none]) ⟨rfl, ⟨rfl, ⟨rfl, trivial⟩⟩⟩ ?_
        exact wjk_X12_cut_32 h
def wj_X12_shifts_42 (z2 : Int32) (z3 : Int32) (s0 : Int32) (K4 : Int32 → Int32 → wM → Prop) (M : wM) (Q : Int32 → wM → Prop) : Prop := ((gi M 0 33) = (nI 11) → vp_in z3 6 ∧ (vp_in z3 6 ∧ (vp_in (gi M 14 z3.toNatClampNeg) 6 ∧ (vp_in z3 6 ∧ (K4 (s0 &&& (nI 1)) (z3 + (nI 1)) (si M 16 z3.toNatClampNeg ((jshr (gi M 16 z3.toNatClampNeg) (nI 1)) ||| (jshl z2 ((gi M 1 (gi M 14 z3.toNatClampNeg).toNatClampNeg) - (nI 1)))))))))) ∧ (¬ (gi M 0 33) = (nI 11) → w_X12_shiftData z3 z2 M (fun M14 => K4 (s0 &&& (nI 1)) (z3 + (nI 1)) M14))
set_option maxRecDepth 20000 in
theorem wjk_X12_shifts_42 {z2 : Int32} {z3 : Int32} {s0 : Int32} {K4 : Int32 → Int32 → wM → Prop} {M : wM} {Q : Int32 → wM → Prop} (hK4 : ∀ (v2 : Int32) (v3 : Int32) (M : wM), K4 v2 v3 M → aG 123 (4, [some (.ref 0), none, some (.int v2), some (.int v3), none], [], mkM M) (aPi mkM Q)) (h : wj_X12_shifts_42 z2 z3 s0 K4 M Q) : aG 123 (42, [some (.ref 0), none, some (.int z2), some (.int z3), none], [(.int s0)], mkM M) (aPi mkM Q) := by
  unfold wj_X12_shifts_42 at h
  refine aG_n 6 (s' := (52, [some (.ref 0), none, some (.int z2), some (.int z3), some (.int (s0 &&& (nI 1)))], [(.int (nI 11)), (.int (gi M 0 33))], mkM M)) rfl ?_
  obtain ⟨h1, h2⟩ := h
  by_cases q8 : (gi M 0 33) = (nI 11)
  · have h := h1 q8
    refine aG_icmp (cd := .ne) (b := false) (aTne0 q8) rfl ?_
    refine aG_n 6 (s' := (65, [some (.ref 0), none, some (.int z2), some (.int z3), some (.int (s0 &&& (nI 1)))], [(.int z3), (.ref 16), (.int z3), (.ref 16)], mkM M)) rfl ?_
    obtain ⟨f9, h⟩ := h
    refine aG_iald rfl rfl rfl f9 ?_
    refine aG_n 8 (s' := (78, [some (.ref 0), none, some (.int z2), some (.int z3), some (.int (s0 &&& (nI 1)))], [(.int z3), (.ref 14), (.ref 1), (.int z2), (.int (jshr (gi M 16 z3.toNatClampNeg) (nI 1))), (.int z3), (.ref 16)], mkM M)) rfl ?_
    obtain ⟨f10, h⟩ := h
    refine aG_iald rfl rfl rfl f10 ?_
    refine aG_n 0 (s' := (79, [some (.ref 0), none, some (.int z2), some (.int z3), some (.int (s0 &&& (nI 1)))], [(.int (gi M 14 z3.toNatClampNeg)), (.ref 1), (.int z2), (.int (jshr (gi M 16 z3.toNatClampNeg) (nI 1))), (.int z3), (.ref 16)], mkM M)) rfl ?_
    obtain ⟨f11, h⟩ := h
    refine aG_iald rfl rfl rfl f11 ?_
    refine aG_n 4 (s' := (84, [some (.ref 0), none, some (.int z2), some (.int z3), some (.int (s0 &&& (nI 1)))], [(.int ((jshr (gi M 16 z3.toNatClampNeg) (nI 1)) ||| (jshl z2 ((gi M 1 (gi M 14 z3.toNatClampNeg).toNatClampNeg) - (nI 1))))), (.int z3), (.ref 16)], mkM M)) rfl ?_
    obtain ⟨f12, h⟩ := h
    refine aG_iast rfl rfl f12 ?_
    refine aG_n 5 (s' := (4, [some (.ref 0), none, some (.int (s0 &&& (nI 1))), some (.int (z3 + (nI 1))), some (.int (s0 &&& (nI 1)))], [], mkM (si M 16 z3.toNatClampNeg ((jshr (gi M 16 z3.toNatClampNeg) (nI 1)) ||| (jshl z2 ((gi M 1 (gi M 14 z3.toNatClampNeg).toNatClampNeg) - (nI 1))))))) rfl ?_
    refine aG_le (a := [some (.ref 0), none, some (.int (s0 &&& (nI 1))), some (.int (z3 + (nI 1))), none]) ⟨rfl, ⟨rfl, ⟨rfl, trivial⟩⟩⟩ ?_
    exact hK4 _ _ _ h
  · have h := h2 q8
    refine aG_icmp (cd := .ne) (b := true) (aTne1 q8) rfl ?_
    refine aG_n 3 (s' := (91, [some (.ref 0), none, some (.int z2), some (.int z3), some (.int (s0 &&& (nI 1)))], [(.int z2), (.int z3), (.ref 0)], mkM M)) rfl ?_
    refine aG_call rfl rfl (aG_mono (wk_X12_shiftData h) ?_)
    rintro _ ⟨M14, rfl, h⟩
    refine aG_n 4 (s' := (4, [some (.ref 0), none, some (.int (s0 &&& (nI 1))), some (.int (z3 + (nI 1))), some (.int (s0 &&& (nI 1)))], [], mkM M14)) rfl ?_
    refine aG_le (a := [some (.ref 0), none, some (.int (s0 &&& (nI 1))), some (.int (z3 + (nI 1))), none]) ⟨rfl, ⟨rfl, ⟨rfl, trivial⟩⟩⟩ ?_
    exact hK4 _ _ _ h
def wb_X12_shifts_4 (K4 : Int32 → Int32 → wM → Prop) (y2 : Int32) (y3 : Int32) (M : wM) (Q : Int32 → wM → Prop) : Prop := ((gi M 0 22) ≤ y3 → w_X12_through (gi M 0 22) y2 M (fun r2 M3 => Q r2 M3)) ∧ (¬ (gi M 0 22) ≤ y3 → w_X12_through y3 y2 M (fun r4 M5 => ((gi M5 0 33) = (nI 11) → vp_in y3 6 ∧ (wj_X12_shifts_42 r4 y3 (gi M5 16 y3.toNatClampNeg) K4 M5 Q)) ∧ (¬ (gi M5 0 33) = (nI 11) → w_X12_rowNow y3 M5 (fun r15 M16 => wj_X12_shifts_42 r4 y3 r15 K4 M16 Q))))
set_option maxRecDepth 20000 in
theorem wbk_X12_shifts_4 {K4 : Int32 → Int32 → wM → Prop} {y2 : Int32} {y3 : Int32} {M : wM} {Q : Int32 → wM → Prop} (hK4 : ∀ (v2 : Int32) (v3 : Int32) (M : wM), K4 v2 v3 M → aG 123 (4, [some (.ref 0), none, some (.int v2), some (.int v3), none], [], mkM M) (aPi mkM Q)) (h : wb_X12_shifts_4 K4 y2 y3 M Q) : aG 123 (4, [some (.ref 0), none, some (.int y2), some (.int y3), none], [], mkM M) (aPi mkM Q) := by
  unfold wb_X12_shifts_4 at h
  refine aG_n 3 (s' := (9, [some (.ref 0), none, some (.int y2), some (.int y3), none], [(.int (gi M 0 22)), (.int y3)], mkM M)) rfl ?_
  obtain ⟨h1, h2⟩ := h
  by_cases q1 : (gi M 0 22) ≤ y3
  · have h := h1 q1
    refine aG_icmp (cd := .ge) (b := true) (decide_eq_true q1) rfl ?_
    refine aG_n 4 (s' := (109, [some (.ref 0), none, some (.int y2), some (.int y3), none], [(.int y2), (.int (gi M 0 22)), (.ref 0)], mkM M)) rfl ?_
    refine aG_call rfl rfl (aG_mono (wk_X12_through h) ?_)
    rintro _ ⟨r2, M3, rfl, h⟩
    refine aG_n 0 (s' := (112, [some (.ref 0), none, some (.int y2), some (.int y3), none], [(.int r2)], mkM M3)) rfl ?_
    exact aG_ret0 rfl rfl ⟨_, _, rfl, h⟩
  · have h := h2 q1
    refine aG_icmp (cd := .ge) (b := false) (decide_eq_false q1) rfl ?_
    refine aG_n 3 (s' := (15, [some (.ref 0), none, some (.int y2), some (.int y3), none], [(.int y2), (.int y3), (.ref 0)], mkM M)) rfl ?_
    refine aG_call rfl rfl (aG_mono (wk_X12_through h) ?_)
    rintro _ ⟨r4, M5, rfl, h⟩
    refine aG_n 4 (s' := (25, [some (.ref 0), none, some (.int r4), some (.int y3), none], [(.int (nI 11)), (.int (gi M5 0 33))], mkM M5)) rfl ?_
    obtain ⟨h1, h2⟩ := h
    by_cases q6 : (gi M5 0 33) = (nI 11)
    · have h := h1 q6
      refine aG_icmp (cd := .ne) (b := false) (aTne0 q6) rfl ?_
      refine aG_n 3 (s' := (33, [some (.ref 0), none, some (.int r4), some (.int y3), none], [(.int y3), (.ref 16)], mkM M5)) rfl ?_
      obtain ⟨f7, h⟩ := h
      refine aG_iald rfl rfl rfl f7 ?_
      refine aG_n 1 (s' := (42, [some (.ref 0), none, some (.int r4), some (.int y3), none], [(.int (gi M5 16 y3.toNatClampNeg))], mkM M5)) rfl ?_
      refine aG_le (a := [some (.ref 0), none, some (.int r4), some (.int y3), none]) ⟨rfl, ⟨rfl, ⟨rfl, trivial⟩⟩⟩ ?_
      exact wjk_X12_shifts_42 hK4 h
    · have h := h2 q6
      refine aG_icmp (cd := .ne) (b := true) (aTne1 q6) rfl ?_
      refine aG_n 2 (s' := (39, [some (.ref 0), none, some (.int r4), some (.int y3), none], [(.int y3), (.ref 0)], mkM M5)) rfl ?_
      refine aG_call rfl rfl (aG_mono (wk_X12_rowNow h) ?_)
      rintro _ ⟨r15, M16, rfl, h⟩
      refine aG_n 0 (s' := (42, [some (.ref 0), none, some (.int r4), some (.int y3), none], [(.int r15)], mkM M16)) rfl ?_
      refine aG_le (a := [some (.ref 0), none, some (.int r4), some (.int y3), none]) ⟨rfl, ⟨rfl, ⟨rfl, trivial⟩⟩⟩ ?_
      exact wjk_X12_shifts_42 hK4 h
def wL_X12_shifts_4 (Q : Int32 → wM → Prop) : Nat → Int32 → Int32 → wM → Prop
  | 0, _, _, _ => False
  | n + 1, y2, y3, M => wb_X12_shifts_4 (wL_X12_shifts_4 Q n) y2 y3 M Q
set_option maxRecDepth 20000 in
theorem wLk_X12_shifts_4 {Q : Int32 → wM → Prop} : ∀ (n : Nat) (y2 : Int32) (y3 : Int32) (M : wM), wL_X12_shifts_4 Q n y2 y3 M → aG 123 (4, [some (.ref 0), none, some (.int y2), some (.int y3), none], [], mkM M) (aPi mkM Q)
  | 0, _, _, _, h => h.elim
  | n + 1, y2, y3, M, h => wbk_X12_shifts_4 (fun y2 y3 M h => wLk_X12_shifts_4 n y2 y3 M h) h
def w_X12_shifts (x1 : Int32) (M : wM) (Q : Int32 → wM → Prop) : Prop := ∃ n, wL_X12_shifts_4 Q n x1 (nI 0) M
set_option maxRecDepth 20000 in
theorem wk_X12_shifts {x1 : Int32} {M : wM} {Q : Int32 → wM → Prop} (h : w_X12_shifts x1 M Q) : aG 123 (aEn 123 [(.ref 0), (.int x1)] (mkM M)) (aPi mkM Q) := by
  unfold w_X12_shifts at h
  refine aG_n 4 (s' := (4, [some (.ref 0), some (.int x1), some (.int x1), some (.int (nI 0)), none], [], mkM M)) rfl ?_
  refine aG_le (a := [some (.ref 0), none, some (.int x1), some (.int (nI 0)), none]) ⟨rfl, ⟨rfl, ⟨rfl, trivial⟩⟩⟩ ?_
  obtain ⟨n, h⟩ := h
  exact wLk_X12_shifts_4 n _ _ _ h
