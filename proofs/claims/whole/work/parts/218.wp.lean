/-! methods as predicates, and their walks (by gen/wpgen.py) -/
def wb_X12_broken_40 (z1 : Int32) (z2 : Int32) (K31 : Int32 → Int32 → wM → Prop) (K40 : Int32 → Int32 → wM → Prop) (y3 : Int32) (y4 : Int32) (M : wM) (Q : Int32 → wM → Prop) : Prop := vp_in z2 6 ∧ (vp_in (gi M 14 z2.toNatClampNeg) 6 ∧ (((gi M 1 (gi M 14 z2.toNatClampNeg).toNatClampNeg) ≤ y4 → (y3 = (nI 1) → K31 z1 (z2 + (-1)) M) ∧ (¬ y3 = (nI 1) → (z1 = (-4) → K31 z2 (z2 + (-1)) M) ∧ (¬ z1 = (-4) → K31 z1 (z2 + (-1)) M))) ∧ (¬ (gi M 1 (gi M 14 z2.toNatClampNeg).toNatClampNeg) ≤ y4 → w_X12_ticks1 (nI 0) (nI 1) M (fun r12 M13 => K40 (y3 ||| (jshl r12 y4)) (y4 + (nI 1)) M13))))
set_option maxRecDepth 20000 in
theorem wbk_X12_broken_40 {z1 : Int32} {z2 : Int32} {K31 : Int32 → Int32 → wM → Prop} {K40 : Int32 → Int32 → wM → Prop} {y3 : Int32} {y4 : Int32} {M : wM} {Q : Int32 → wM → Prop} (hK31 : ∀ (v1 : Int32) (v2 : Int32) (M : wM), K31 v1 v2 M → aG 227 (31, [some (.ref 0), some (.int v1), some (.int v2), none, none], [], mkM M) (aPi mkM Q)) (hK40 : ∀ (v3 : Int32) (v4 : Int32) (M : wM), K40 v3 v4 M → aG 227 (40, [some (.ref 0), some (.int z1), some (.int z2), some (.int v3), some (.int v4)], [], mkM M) (aPi mkM Q)) (h : wb_X12_broken_40 z1 z2 K31 K40 y3 y4 M Q) : aG 227 (40, [some (.ref 0), some (.int z1), some (.int z2), some (.int y3), some (.int y4)], [], mkM M) (aPi mkM Q) := by
  unfold wb_X12_broken_40 at h
  refine aG_n 6 (s' := (51, [some (.ref 0), some (.int z1), some (.int z2), some (.int y3), some (.int y4)], [(.int z2), (.ref 14), (.ref 1), (.int y4)], mkM M)) rfl ?_
  obtain ⟨f7, h⟩ := h
  refine aG_iald rfl rfl rfl f7 ?_
  refine aG_n 0 (s' := (52, [some (.ref 0), some (.int z1), some (.int z2), some (.int y3), some (.int y4)], [(.int (gi M 14 z2.toNatClampNeg)), (.ref 1), (.int y4)], mkM M)) rfl ?_
  obtain ⟨f8, h⟩ := h
  refine aG_iald rfl rfl rfl f8 ?_
  refine aG_n 0 (s' := (53, [some (.ref 0), some (.int z1), some (.int z2), some (.int y3), some (.int y4)], [(.int (gi M 1 (gi M 14 z2.toNatClampNeg).toNatClampNeg)), (.int y4)], mkM M)) rfl ?_
  obtain ⟨h1, h2⟩ := h
  by_cases q9 : (gi M 1 (gi M 14 z2.toNatClampNeg).toNatClampNeg) ≤ y4
  · have h := h1 q9
    refine aG_icmp (cd := .ge) (b := true) (decide_eq_true q9) rfl ?_
    refine aG_n 2 (s' := (76, [some (.ref 0), some (.int z1), some (.int z2), some (.int y3), some (.int y4)], [(.int (nI 1)), (.int y3)], mkM M)) rfl ?_
    obtain ⟨h1, h2⟩ := h
    by_cases q10 : y3 = (nI 1)
    · have h := h1 q10
      refine aG_icmp (cd := .eq) (b := true) (decide_eq_true q10) rfl ?_
      refine aG_n 4 (s' := (31, [some (.ref 0), some (.int z1), some (.int (z2 + (-1))), some (.int y3), some (.int y4)], [], mkM M)) rfl ?_
      refine aG_le (a := [some (.ref 0), some (.int z1), some (.int (z2 + (-1))), none, none]) ⟨rfl, ⟨rfl, ⟨rfl, trivial⟩⟩⟩ ?_
      exact hK31 _ _ _ h
    · have h := h2 q10
      refine aG_icmp (cd := .eq) (b := false) (decide_eq_false q10) rfl ?_
      refine aG_n 2 (s' := (82, [some (.ref 0), some (.int z1), some (.int z2), some (.int y3), some (.int y4)], [(.int (-4)), (.int z1)], mkM M)) rfl ?_
      obtain ⟨h1, h2⟩ := h
      by_cases q11 : z1 = (-4)
      · have h := h1 q11
        refine aG_icmp (cd := .ne) (b := false) (aTne0 q11) rfl ?_
        refine aG_n 5 (s' := (31, [some (.ref 0), some (.int z2), some (.int (z2 + (-1))), some (.int y3), some (.int y4)], [], mkM M)) rfl ?_
        refine aG_le (a := [some (.ref 0), some (.int z2), some (.int (z2 + (-1))), none, none]) ⟨rfl, ⟨rfl, ⟨rfl, trivial⟩⟩⟩ ?_
        exact hK31 _ _ _ h
      · have h := h2 q11
        refine aG_icmp (cd := .ne) (b := true) (aTne1 q11) rfl ?_
        refine aG_n 4 (s' := (31, [some (.ref 0), some (.int z1), some (.int (z2 + (-1))), some (.int y3), some (.int y4)], [], mkM M)) rfl ?_
        refine aG_le (a := [some (.ref 0), some (.int z1), some (.int (z2 + (-1))), none, none]) ⟨rfl, ⟨rfl, ⟨rfl, trivial⟩⟩⟩ ?_
        exact hK31 _ _ _ h
  · have h := h2 q9
    refine aG_icmp (cd := .ge) (b := false) (decide_eq_false q9) rfl ?_
    refine aG_n 4 (s' := (60, [some (.ref 0), some (.int z1), some (.int z2), some (.int y3), some (.int y4)], [(.int (nI 1)), (.int (nI 0)), (.ref 0), (.int y3)], mkM M)) rfl ?_
    refine aG_call rfl rfl (aG_mono (wk_X12_ticks1 h) ?_)
    rintro _ ⟨r12, M13, rfl, h⟩
    refine aG_n 6 (s' := (40, [some (.ref 0), some (.int z1), some (.int z2), some (.int (y3 ||| (jshl r12 y4))), some (.int (y4 + (nI 1)))], [], mkM M13)) rfl ?_
    refine aG_le (a := [some (.ref 0), some (.int z1), some (.int z2), some (.int (y3 ||| (jshl r12 y4))), some (.int (y4 + (nI 1)))]) ⟨rfl, ⟨rfl, ⟨rfl, ⟨rfl, ⟨rfl, trivial⟩⟩⟩⟩⟩ ?_
    exact hK40 _ _ _ h
def wL_X12_broken_40 (z1 : Int32) (z2 : Int32) (K31 : Int32 → Int32 → wM → Prop) (Q : Int32 → wM → Prop) : Nat → Int32 → Int32 → wM → Prop
  | 0, _, _, _ => False
  | n + 1, y3, y4, M => wb_X12_broken_40 z1 z2 K31 (wL_X12_broken_40 z1 z2 K31 Q n) y3 y4 M Q
set_option maxRecDepth 20000 in
theorem wLk_X12_broken_40 {z1 : Int32} {z2 : Int32} {K31 : Int32 → Int32 → wM → Prop} {Q : Int32 → wM → Prop} (hK31 : ∀ (v1 : Int32) (v2 : Int32) (M : wM), K31 v1 v2 M → aG 227 (31, [some (.ref 0), some (.int v1), some (.int v2), none, none], [], mkM M) (aPi mkM Q)) : ∀ (n : Nat) (y3 : Int32) (y4 : Int32) (M : wM), wL_X12_broken_40 z1 z2 K31 Q n y3 y4 M → aG 227 (40, [some (.ref 0), some (.int z1), some (.int z2), some (.int y3), some (.int y4)], [], mkM M) (aPi mkM Q)
  | 0, _, _, _, h => h.elim
  | n + 1, y3, y4, M, h => wbk_X12_broken_40 hK31 (fun y3 y4 M h => wLk_X12_broken_40 hK31 n y3 y4 M h) h
def wb_X12_broken_31 (K31 : Int32 → Int32 → wM → Prop) (y1 : Int32) (y2 : Int32) (M : wM) (Q : Int32 → wM → Prop) : Prop := (y2 < (nI 0) → Q y1 M) ∧ (¬ y2 < (nI 0) → ∃ n, wL_X12_broken_40 y1 y2 K31 Q n (nI 0) (nI 0) M)
set_option maxRecDepth 20000 in
theorem wbk_X12_broken_31 {K31 : Int32 → Int32 → wM → Prop} {y1 : Int32} {y2 : Int32} {M : wM} {Q : Int32 → wM → Prop} (hK31 : ∀ (v1 : Int32) (v2 : Int32) (M : wM), K31 v1 v2 M → aG 227 (31, [some (.ref 0), some (.int v1), some (.int v2), none, none], [], mkM M) (aPi mkM Q)) (h : wb_X12_broken_31 K31 y1 y2 M Q) : aG 227 (31, [some (.ref 0), some (.int y1), some (.int y2), none, none], [], mkM M) (aPi mkM Q) := by
  unfold wb_X12_broken_31 at h
  refine aG_n 1 (s' := (32, [some (.ref 0), some (.int y1), some (.int y2), none, none], [(.int y2)], mkM M)) rfl ?_
  obtain ⟨h1, h2⟩ := h
  by_cases q6 : y2 < (nI 0)
  · have h := h1 q6
    refine aG_if (cd := .lt) (b := true) (decide_eq_true q6) rfl ?_
    refine aG_n 1 (s' := (98, [some (.ref 0), some (.int y1), some (.int y2), none, none], [(.int y1)], mkM M)) rfl ?_
    exact aG_ret0 rfl rfl ⟨_, _, rfl, h⟩
  · have h := h2 q6
    refine aG_if (cd := .lt) (b := false) (decide_eq_false q6) rfl ?_
    refine aG_n 4 (s' := (40, [some (.ref 0), some (.int y1), some (.int y2), some (.int (nI 0)), some (.int (nI 0))], [], mkM M)) rfl ?_
    refine aG_le (a := [some (.ref 0), some (.int y1), some (.int y2), some (.int (nI 0)), some (.int (nI 0))]) ⟨rfl, ⟨rfl, ⟨rfl, ⟨rfl, ⟨rfl, trivial⟩⟩⟩⟩⟩ ?_
    obtain ⟨n, h⟩ := h
    exact wLk_X12_broken_40 hK31 n _ _ _ h
def wL_X12_broken_31 (Q : Int32 → wM → Prop) : Nat → Int32 → Int32 → wM → Prop
  | 0, _, _, _ => False
  | n + 1, y1, y2, M => wb_X12_broken_31 (wL_X12_broken_31 Q n) y1 y2 M Q
set_option maxRecDepth 20000 in
theorem wLk_X12_broken_31 {Q : Int32 → wM → Prop} : ∀ (n : Nat) (y1 : Int32) (y2 : Int32) (M : wM), wL_X12_broken_31 Q n y1 y2 M → aG 227 (31, [some (.ref 0), some (.int y1), some (.int y2), none, none], [], mkM M) (aPi mkM Q)
  | 0, _, _, _, h => h.elim
  | n + 1, y1, y2, M, h => wbk_X12_broken_31 (fun y1 y2 M h => wLk_X12_broken_31 n y1 y2 M h) h
def w_X12_broken (M : wM) (Q : Int32 → wM → Prop) : Prop := ((gi M 0 22) = (nI 0) → Q (-2) M) ∧ (¬ (gi M 0 22) = (nI 0) → w_X12_fiveUp M (fun M3 => w_X12_goesTo (nI 11) M3 (fun r4 M5 => ∃ n, wL_X12_broken_31 Q n (-4) ((gi M5 0 22) - (nI 1)) M5)))
set_option maxRecDepth 20000 in
theorem wk_X12_broken {M : wM} {Q : Int32 → wM → Prop} (h : w_X12_broken M Q) : aG 227 (aEn 227 [(.ref 0)] (mkM M)) (aPi mkM Q) := by
  unfold w_X12_broken at h
  refine aG_n 2 (s' := (4, [some (.ref 0), none, none, none, none], [(.int (gi M 0 22))], mkM M)) rfl ?_
  obtain ⟨h1, h2⟩ := h
  by_cases q1 : (gi M 0 22) = (nI 0)
  · have h := h1 q1
    refine aG_if (cd := .ne) (b := false) (aTne0 q1) rfl ?_
    refine aG_n 1 (s' := (9, [some (.ref 0), none, none, none, none], [(.int (-2))], mkM M)) rfl ?_
    exact aG_ret0 rfl rfl ⟨_, _, rfl, h⟩
  · have h := h2 q1
    refine aG_if (cd := .ne) (b := true) (aTne1 q1) rfl ?_
    refine aG_n 1 (s' := (11, [some (.ref 0), none, none, none, none], [(.ref 0)], mkM M)) rfl ?_
    refine aG_call rfl rfl (aG_mono (wk_X12_fiveUp h) ?_)
    rintro _ ⟨M3, rfl, h⟩
    refine aG_n 2 (s' := (17, [some (.ref 0), none, none, none, none], [(.int (nI 11)), (.ref 0)], mkM M3)) rfl ?_
    refine aG_call rfl rfl (aG_mono (wk_X12_goesTo h) ?_)
    rintro _ ⟨r4, M5, rfl, h⟩
    refine aG_n 8 (s' := (31, [some (.ref 0), some (.int (-4)), some (.int ((gi M5 0 22) - (nI 1))), none, none], [], mkM M5)) rfl ?_
    refine aG_le (a := [some (.ref 0), some (.int (-4)), some (.int ((gi M5 0 22) - (nI 1))), none, none]) ⟨rfl, ⟨rfl, ⟨rfl, trivial⟩⟩⟩ ?_
    obtain ⟨n, h⟩ := h
    exact wLk_X12_broken_31 n _ _ _ h
def wb_X11_parts_57 (K57 : Int32 → wM → Prop) (y2 : Int32) (M : wM) (Q : Int32 → wM → Prop) : Prop := ((gi M 0 3) ≤ y2 → Q (gi M 0 3) M) ∧ (¬ (gi M 0 3) ≤ y2 → vp_in y2 6 ∧ (vp_in y2 6 ∧ (w_X4_become (65 + y2.toNatClampNeg) (5 + y2.toNatClampNeg) M (fun M9 => K57 (y2 + (nI 1)) M9))))
set_option maxRecDepth 20000 in
theorem wbk_X11_parts_57 {K57 : Int32 → wM → Prop} {y2 : Int32} {M : wM} {Q : Int32 → wM → Prop} (hK57 : ∀ (v2 : Int32) (M : wM), K57 v2 M → aG 228 (57, [some (.ref 0), none, some (.int v2)], [], mkX M) (aPi mkX Q)) (h : wb_X11_parts_57 K57 y2 M Q) : aG 228 (57, [some (.ref 0), none, some (.int y2)], [], mkX M) (aPi mkX Q) := by
  unfold wb_X11_parts_57 at h
  refine aG_n 3 (s' := (62, [some (.ref 0), none, some (.int y2)], [(.int (gi M 0 3)), (.int y2)], mkX M)) rfl ?_
  obtain ⟨h1, h2⟩ := h
  by_cases q5 : (gi M 0 3) ≤ y2
  · have h := h1 q5
    refine aG_icmp (cd := .ge) (b := true) (decide_eq_true q5) rfl ?_
    refine aG_n 2 (s' := (93, [some (.ref 0), none, some (.int y2)], [(.int (gi M 0 3))], mkX M)) rfl ?_
    exact aG_ret0 rfl rfl ⟨_, _, rfl, h⟩
  · have h := h2 q5
    refine aG_icmp (cd := .ge) (b := false) (decide_eq_false q5) rfl ?_
    refine aG_n 3 (s' := (70, [some (.ref 0), none, some (.int y2)], [(.int y2), (.ref 11)], mkX M)) rfl ?_
    obtain ⟨f6, h⟩ := h
    refine aG_aald rfl rfl rfl f6 (rX_11 (P := (M).2.2) (vin_lt f6)) ?_
    refine aG_n 4 (s' := (79, [some (.ref 0), none, some (.int y2)], [(.int y2), (.ref 4), (.ref (65 + y2.toNatClampNeg))], mkX M)) rfl ?_
    obtain ⟨f7, h⟩ := h
    refine aG_aald rfl rfl rfl f7 (rX_4 (P := (M).2.2) (vin_lt f7)) ?_
    refine aG_n 0 (s' := (80, [some (.ref 0), none, some (.int y2)], [(.ref (5 + y2.toNatClampNeg)), (.ref (65 + y2.toNatClampNeg))], mkX M)) rfl ?_
    refine aG_ivv rfl rfl (ptX_65 (vin_lt f6)) rfl rfl (aG_mono (wk_X4_become h) ?_)
    rintro _ ⟨M9, rfl, h⟩
    refine aG_n 2 (s' := (57, [some (.ref 0), none, some (.int (y2 + (nI 1)))], [], mkX M9)) rfl ?_
    refine aG_le (a := [some (.ref 0), none, some (.int (y2 + (nI 1)))]) ⟨rfl, ⟨rfl, trivial⟩⟩ ?_
    exact hK57 _ _ h
def wL_X11_parts_57 (Q : Int32 → wM → Prop) : Nat → Int32 → wM → Prop
  | 0, _, _ => False
  | n + 1, y2, M => wb_X11_parts_57 (wL_X11_parts_57 Q n) y2 M Q
set_option maxRecDepth 20000 in
theorem wLk_X11_parts_57 {Q : Int32 → wM → Prop} : ∀ (n : Nat) (y2 : Int32) (M : wM), wL_X11_parts_57 Q n y2 M → aG 228 (57, [some (.ref 0), none, some (.int y2)], [], mkX M) (aPi mkX Q)
  | 0, _, _, h => h.elim
  | n + 1, y2, M, h => wbk_X11_parts_57 (fun y2 M h => wLk_X11_parts_57 n y2 M h) h
def w_X11_parts (M : wM) (Q : Int32 → wM → Prop) : Prop := ((gi M 26 3) ≤ (nI 0) → w_X7_readText M (fun r2 M3 => (r2 = (nI 0) → Q ((-10) - (gi M3 3 4)) (si M3 1 1 (nI 0))) ∧ (¬ r2 = (nI 0) → ∃ n, wL_X11_parts_57 Q n (nI 0) (si (si M3 1 1 (nI 0)) 0 3 (gi M3 3 2))))) ∧ (¬ (gi M 26 3) ≤ (nI 0) → Q (-2) M)
set_option maxRecDepth 20000 in
theorem wk_X11_parts {M : wM} {Q : Int32 → wM → Prop} (h : w_X11_parts M Q) : aG 228 (aEn 228 [(.ref 0)] (mkX M)) (aPi mkX Q) := by
  unfold w_X11_parts at h
  refine aG_n 3 (s' := (7, [some (.ref 0), none, none], [(.int (gi M 26 3))], mkX M)) rfl ?_
  obtain ⟨h1, h2⟩ := h
  by_cases q1 : (gi M 26 3) ≤ (nI 0)
  · have h := h1 q1
    refine aG_if (cd := .le) (b := true) (decide_eq_true q1) rfl ?_
    refine aG_n 2 (s' := (17, [some (.ref 0), none, none], [(.ref 3)], mkX M)) rfl ?_
    refine aG_call rfl rfl (aG_mono (wk_X7_readText h) ?_)
    rintro _ ⟨r2, M3, rfl, h⟩
    refine aG_n 6 (s' := (30, [some (.ref 0), some (.int r2), none], [(.int r2)], mkX (si M3 1 1 (nI 0)))) rfl ?_
    obtain ⟨h1, h2⟩ := h
    by_cases q4 : r2 = (nI 0)
    · have h := h1 q4
      refine aG_if (cd := .ne) (b := false) (aTne0 q4) rfl ?_
      refine aG_n 5 (s' := (43, [some (.ref 0), some (.int r2), none], [(.int ((-10) - (gi M3 3 4)))], mkX (si M3 1 1 (nI 0)))) rfl ?_
      exact aG_ret0 rfl rfl ⟨_, _, rfl, h⟩
    · have h := h2 q4
      refine aG_if (cd := .ne) (b := true) (aTne1 q4) rfl ?_
      refine aG_n 7 (s' := (57, [some (.ref 0), some (.int r2), some (.int (nI 0))], [], mkX (si (si M3 1 1 (nI 0)) 0 3 (gi M3 3 2)))) rfl ?_
      refine aG_le (a := [some (.ref 0), none, some (.int (nI 0))]) ⟨rfl, ⟨rfl, trivial⟩⟩ ?_
      obtain ⟨n, h⟩ := h
      exact wLk_X11_parts_57 n _ _ h
  · have h := h2 q1
    refine aG_if (cd := .le) (b := false) (decide_eq_false q1) rfl ?_
    refine aG_n 1 (s' := (12, [some (.ref 0), none, none], [(.int (-2))], mkX M)) rfl ?_
    exact aG_ret0 rfl rfl ⟨_, _, rfl, h⟩
