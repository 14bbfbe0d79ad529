/-! methods as predicates, and their walks (by gen/wpgen.py) -/
def wb_X0_walk_37 (z2 : Int32) (z3 : Int32) (K37 : Int32 → wM → Prop) (y4 : Int32) (M : wM) (Q : Int32 → wM → Prop) : Prop := (z2 ≤ y4 → Q z2 M) ∧ (¬ z2 ≤ y4 → w_X11_bit z3 y4 M (fun r6 M7 => (r6 = (nI 1) → w_X0_step (nI 1) (nI 1) M7 (fun r9 M10 => K37 (y4 + (nI 1)) M10)) ∧ (¬ r6 = (nI 1) → w_X0_step (nI 0) (nI 1) M7 (fun r11 M12 => K37 (y4 + (nI 1)) M12))))
set_option maxRecDepth 20000 in
theorem wbk_X0_walk_37 {z2 : Int32} {z3 : Int32} {K37 : Int32 → wM → Prop} {y4 : Int32} {M : wM} {Q : Int32 → wM → Prop} (hK37 : ∀ (v4 : Int32) (M : wM), K37 v4 M → aG 184 (37, [some (.ref 26), none, some (.int z2), some (.int z3), some (.int v4)], [], mkX M) (aPi mkX Q)) (h : wb_X0_walk_37 z2 z3 K37 y4 M Q) : aG 184 (37, [some (.ref 26), none, some (.int z2), some (.int z3), some (.int y4)], [], mkX M) (aPi mkX Q) := by
  unfold wb_X0_walk_37 at h
  refine aG_n 2 (s' := (40, [some (.ref 26), none, some (.int z2), some (.int z3), some (.int y4)], [(.int z2), (.int y4)], mkX M)) rfl ?_
  obtain ⟨h1, h2⟩ := h
  by_cases q5 : z2 ≤ y4
  · have h := h1 q5
    refine aG_icmp (cd := .ge) (b := true) (decide_eq_true q5) rfl ?_
    refine aG_n 1 (s' := (71, [some (.ref 26), none, some (.int z2), some (.int z3), some (.int y4)], [(.int z2)], mkX M)) rfl ?_
    exact aG_ret0 rfl rfl ⟨_, _, rfl, h⟩
  · have h := h2 q5
    refine aG_icmp (cd := .ge) (b := false) (decide_eq_false q5) rfl ?_
    refine aG_n 3 (s' := (47, [some (.ref 26), none, some (.int z2), some (.int z3), some (.int y4)], [(.int y4), (.int z3), (.ref 26)], mkX M)) rfl ?_
    refine aG_call rfl rfl (aG_mono (wk_X11_bit h) ?_)
    rintro _ ⟨r6, M7, rfl, h⟩
    refine aG_n 1 (s' := (51, [some (.ref 26), none, some (.int z2), some (.int z3), some (.int y4)], [(.int (nI 1)), (.int r6), (.ref 26)], mkX M7)) rfl ?_
    obtain ⟨h1, h2⟩ := h
    by_cases q8 : r6 = (nI 1)
    · have h := h1 q8
      refine aG_icmp (cd := .ne) (b := false) (aTne0 q8) rfl ?_
      refine aG_n 3 (s' := (60, [some (.ref 26), none, some (.int z2), some (.int z3), some (.int y4)], [(.int (nI 1)), (.int (nI 1)), (.ref 26)], mkX M7)) rfl ?_
      refine aG_call rfl rfl (aG_mono (wk_X0_step h) ?_)
      rintro _ ⟨r9, M10, rfl, h⟩
      refine aG_n 3 (s' := (37, [some (.ref 26), none, some (.int z2), some (.int z3), some (.int (y4 + (nI 1)))], [], mkX M10)) rfl ?_
      refine aG_le (a := [some (.ref 26), none, some (.int z2), some (.int z3), some (.int (y4 + (nI 1)))]) ⟨rfl, ⟨rfl, ⟨rfl, ⟨rfl, trivial⟩⟩⟩⟩ ?_
      exact hK37 _ _ h
    · have h := h2 q8
      refine aG_icmp (cd := .ne) (b := true) (aTne1 q8) rfl ?_
      refine aG_n 2 (s' := (60, [some (.ref 26), none, some (.int z2), some (.int z3), some (.int y4)], [(.int (nI 1)), (.int (nI 0)), (.ref 26)], mkX M7)) rfl ?_
      refine aG_call rfl rfl (aG_mono (wk_X0_step h) ?_)
      rintro _ ⟨r11, M12, rfl, h⟩
      refine aG_n 3 (s' := (37, [some (.ref 26), none, some (.int z2), some (.int z3), some (.int (y4 + (nI 1)))], [], mkX M12)) rfl ?_
      refine aG_le (a := [some (.ref 26), none, some (.int z2), some (.int z3), some (.int (y4 + (nI 1)))]) ⟨rfl, ⟨rfl, ⟨rfl, ⟨rfl, trivial⟩⟩⟩⟩ ?_
      exact hK37 _ _ h
def wL_X0_walk_37 (z2 : Int32) (z3 : Int32) (Q : Int32 → wM → Prop) : Nat → Int32 → wM → Prop
  | 0, _, _ => False
  | n + 1, y4, M => wb_X0_walk_37 z2 z3 (wL_X0_walk_37 z2 z3 Q n) y4 M Q
set_option maxRecDepth 20000 in
theorem wLk_X0_walk_37 {z2 : Int32} {z3 : Int32} {Q : Int32 → wM → Prop} : ∀ (n : Nat) (y4 : Int32) (M : wM), wL_X0_walk_37 z2 z3 Q n y4 M → aG 184 (37, [some (.ref 26), none, some (.int z2), some (.int z3), some (.int y4)], [], mkX M) (aPi mkX Q)
  | 0, _, _, h => h.elim
  | n + 1, y4, M, h => wbk_X0_walk_37 (fun y4 M h => wLk_X0_walk_37 n y4 M h) h
def w_X0_walk (x1 : Int32) (M : wM) (Q : Int32 → wM → Prop) : Prop := w_X5_aim x1 M (fun M2 => vp_in (gi M2 26 5) 16 ∧ (vp_in (gi M2 26 5) 16 ∧ (∃ n, wL_X0_walk_37 (gi M2 28 (gi M2 26 5).toNatClampNeg) (gi M2 29 (gi M2 26 5).toNatClampNeg) Q n (nI 0) M2)))
set_option maxRecDepth 20000 in
theorem wk_X0_walk {x1 : Int32} {M : wM} {Q : Int32 → wM → Prop} (h : w_X0_walk x1 M Q) : aG 184 (aEn 184 [(.ref 26), (.int x1)] (mkX M)) (aPi mkX Q) := by
  unfold w_X0_walk at h
  refine aG_n 3 (s' := (5, [some (.ref 26), some (.int x1), none, none, none], [(.int x1), (.ref 27)], mkX M)) rfl ?_
  refine aG_call rfl rfl (aG_mono (wk_X5_aim h) ?_)
  rintro _ ⟨M2, rfl, h⟩
  refine aG_n 5 (s' := (19, [some (.ref 26), some (.int x1), none, none, none], [(.int (gi M2 26 5)), (.ref 28)], mkX M2)) rfl ?_
  obtain ⟨f3, h⟩ := h
  refine aG_iald rfl rfl rfl f3 ?_
  refine aG_n 6 (s' := (32, [some (.ref 26), some (.int x1), some (.int (gi M2 28 (gi M2 26 5).toNatClampNeg)), none, none], [(.int (gi M2 26 5)), (.ref 29)], mkX M2)) rfl ?_
  obtain ⟨f4, h⟩ := h
  refine aG_iald rfl rfl rfl f4 ?_
  refine aG_n 3 (s' := (37, [some (.ref 26), some (.int x1), some (.int (gi M2 28 (gi M2 26 5).toNatClampNeg)), some (.int (gi M2 29 (gi M2 26 5).toNatClampNeg)), some (.int (nI 0))], [], mkX M2)) rfl ?_
  refine aG_le (a := [some (.ref 26), none, some (.int (gi M2 28 (gi M2 26 5).toNatClampNeg)), some (.int (gi M2 29 (gi M2 26 5).toNatClampNeg)), some (.int (nI 0))]) ⟨rfl, ⟨rfl, ⟨rfl, ⟨rfl, trivial⟩⟩⟩⟩ ?_
  obtain ⟨n, h⟩ := h
  exact wLk_X0_walk_37 n _ _ h
def wb_X6_resetAll_2 (K2 : Int32 → wM → Prop) (y1 : Int32) (M : wM) (Q : wM → Prop) : Prop := ((nI 5) ≤ y1 → Q M) ∧ (¬ (nI 5) ≤ y1 → w_X0_step (nI 1) (nI 1) M (fun r2 M3 => K2 (y1 + (nI 1)) M3))
set_option maxRecDepth 20000 in
theorem wbk_X6_resetAll_2 {K2 : Int32 → wM → Prop} {y1 : Int32} {M : wM} {Q : wM → Prop} (hK2 : ∀ (v1 : Int32) (M : wM), K2 v1 M → aG 185 (2, [some (.ref 52), some (.int v1)], [], mkX M) (aPv mkX Q)) (h : wb_X6_resetAll_2 K2 y1 M Q) : aG 185 (2, [some (.ref 52), some (.int y1)], [], mkX M) (aPv mkX Q) := by
  unfold wb_X6_resetAll_2 at h
  refine aG_n 2 (s' := (4, [some (.ref 52), some (.int y1)], [(.int (nI 5)), (.int y1)], mkX M)) rfl ?_
  obtain ⟨h1, h2⟩ := h
  by_cases q1 : (nI 5) ≤ y1
  · have h := h1 q1
    refine aG_icmp (cd := .ge) (b := true) (decide_eq_true q1) rfl ?_
    refine aG_n 0 (s' := (23, [some (.ref 52), some (.int y1)], [], mkX M)) rfl ?_
    exact aG_retV rfl rfl ⟨_, rfl, h⟩
  · have h := h2 q1
    refine aG_icmp (cd := .ge) (b := false) (decide_eq_false q1) rfl ?_
    refine aG_n 4 (s' := (13, [some (.ref 52), some (.int y1)], [(.int (nI 1)), (.int (nI 1)), (.ref 26)], mkX M)) rfl ?_
    refine aG_call rfl rfl (aG_mono (wk_X0_step h) ?_)
    rintro _ ⟨r2, M3, rfl, h⟩
    refine aG_n 3 (s' := (2, [some (.ref 52), some (.int (y1 + (nI 1)))], [], mkX M3)) rfl ?_
    refine aG_le (a := [some (.ref 52), some (.int (y1 + (nI 1)))]) ⟨rfl, ⟨rfl, trivial⟩⟩ ?_
    exact hK2 _ _ h
def wL_X6_resetAll_2 (Q : wM → Prop) : Nat → Int32 → wM → Prop
  | 0, _, _ => False
  | n + 1, y1, M => wb_X6_resetAll_2 (wL_X6_resetAll_2 Q n) y1 M Q
set_option maxRecDepth 20000 in
theorem wLk_X6_resetAll_2 {Q : wM → Prop} : ∀ (n : Nat) (y1 : Int32) (M : wM), wL_X6_resetAll_2 Q n y1 M → aG 185 (2, [some (.ref 52), some (.int y1)], [], mkX M) (aPv mkX Q)
  | 0, _, _, h => h.elim
  | n + 1, y1, M, h => wbk_X6_resetAll_2 (fun y1 M h => wLk_X6_resetAll_2 n y1 M h) h
def w_X6_resetAll (M : wM) (Q : wM → Prop) : Prop := ∃ n, wL_X6_resetAll_2 Q n (nI 0) M
set_option maxRecDepth 20000 in
theorem wk_X6_resetAll {M : wM} {Q : wM → Prop} (h : w_X6_resetAll M Q) : aG 185 (aEn 185 [(.ref 52)] (mkX M)) (aPv mkX Q) := by
  unfold w_X6_resetAll at h
  refine aG_n 2 (s' := (2, [some (.ref 52), some (.int (nI 0))], [], mkX M)) rfl ?_
  refine aG_le (a := [some (.ref 52), some (.int (nI 0))]) ⟨rfl, ⟨rfl, trivial⟩⟩ ?_
  obtain ⟨n, h⟩ := h
  exact wLk_X6_resetAll_2 n _ _ h
def wb_X6_restOfIdentity_4 (K4 : Int32 → Int32 → wM → Prop) (y1 : Int32) (y2 : Int32) (M : wM) (Q : Int32 → wM → Prop) : Prop := ((nI 32) ≤ y2 → Q y1 M) ∧ (¬ (nI 32) ≤ y2 → w_X0_step (nI 0) (nI 1) M (fun r2 M3 => K4 (y1 ||| (jshl r2 y2)) (y2 + (nI 1)) M3))
set_option maxRecDepth 20000 in
theorem wbk_X6_restOfIdentity_4 {K4 : Int32 → Int32 → wM → Prop} {y1 : Int32} {y2 : Int32} {M : wM} {Q : Int32 → wM → Prop} (hK4 : ∀ (v1 : Int32) (v2 : Int32) (M : wM), K4 v1 v2 M → aG 186 (4, [some (.ref 52), some (.int v1), some (.int v2)], [], mkX M) (aPi mkX Q)) (h : wb_X6_restOfIdentity_4 K4 y1 y2 M Q) : aG 186 (4, [some (.ref 52), some (.int y1), some (.int y2)], [], mkX M) (aPi mkX Q) := by
  unfold wb_X6_restOfIdentity_4 at h
  refine aG_n 2 (s' := (7, [some (.ref 52), some (.int y1), some (.int y2)], [(.int (nI 32)), (.int y2)], mkX M)) rfl ?_
  obtain ⟨h1, h2⟩ := h
  by_cases q1 : (nI 32) ≤ y2
  · have h := h1 q1
    refine aG_icmp (cd := .ge) (b := true) (decide_eq_true q1) rfl ?_
    refine aG_n 1 (s' := (31, [some (.ref 52), some (.int y1), some (.int y2)], [(.int y1)], mkX M)) rfl ?_
    exact aG_ret0 rfl rfl ⟨_, _, rfl, h⟩
  · have h := h2 q1
    refine aG_icmp (cd := .ge) (b := false) (decide_eq_false q1) rfl ?_
    refine aG_n 5 (s' := (17, [some (.ref 52), some (.int y1), some (.int y2)], [(.int (nI 1)), (.int (nI 0)), (.ref 26), (.int y1)], mkX M)) rfl ?_
    refine aG_call rfl rfl (aG_mono (wk_X0_step h) ?_)
    rintro _ ⟨r2, M3, rfl, h⟩
    refine aG_n 6 (s' := (4, [some (.ref 52), some (.int (y1 ||| (jshl r2 y2))), some (.int (y2 + (nI 1)))], [], mkX M3)) rfl ?_
    refine aG_le (a := [some (.ref 52), some (.int (y1 ||| (jshl r2 y2))), some (.int (y2 + (nI 1)))]) ⟨rfl, ⟨rfl, ⟨rfl, trivial⟩⟩⟩ ?_
    exact hK4 _ _ _ h
def wL_X6_restOfIdentity_4 (Q : Int32 → wM → Prop) : Nat → Int32 → Int32 → wM → Prop
  | 0, _, _, _ => False
  | n + 1, y1, y2, M => wb_X6_restOfIdentity_4 (wL_X6_restOfIdentity_4 Q n) y1 y2 M Q
set_option maxRecDepth 20000 in
theorem wLk_X6_restOfIdentity_4 {Q : Int32 → wM → Prop} : ∀ (n : Nat) (y1 : Int32) (y2 : Int32) (M : wM), wL_X6_restOfIdentity_4 Q n y1 y2 M → aG 186 (4, [some (.ref 52), some (.int y1), some (.int y2)], [], mkX M) (aPi mkX Q)
  | 0, _, _, _, h => h.elim
  | n + 1, y1, y2, M, h => wbk_X6_restOfIdentity_4 (fun y1 y2 M h => wLk_X6_restOfIdentity_4 n y1 y2 M h) h
def w_X6_restOfIdentity (M : wM) (Q : Int32 → wM → Prop) : Prop := ∃ n, wL_X6_restOfIdentity_4 Q n (nI 1) (nI 1) M
set_option maxRecDepth 20000 in
theorem wk_X6_restOfIdentity {M : wM} {Q : Int32 → wM → Prop} (h : w_X6_restOfIdentity M Q) : aG 186 (aEn 186 [(.ref 52)] (mkX M)) (aPi mkX Q) := by
  unfold w_X6_restOfIdentity at h
  refine aG_n 4 (s' := (4, [some (.ref 52), some (.int (nI 1)), some (.int (nI 1))], [], mkX M)) rfl ?_
  refine aG_le (a := [some (.ref 52), some (.int (nI 1)), some (.int (nI 1))]) ⟨rfl, ⟨rfl, ⟨rfl, trivial⟩⟩⟩ ?_
  obtain ⟨n, h⟩ := h
  exact wLk_X6_restOfIdentity_4 n _ _ _ h
def wb_X10_seekLikely_79 (z1 : Int32) (K67 : Int32 → wM → Prop) (K79 : Int32 → wM → Prop) (y2 : Int32) (M : wM) (Q : wM → Prop) : Prop := ((gi M 54 4) ≤ y2 → K67 (z1 + (nI 1)) M) ∧ (¬ (gi M 54 4) ≤ y2 → w_X10_tryGuess z1 y2 M (fun M9 => K79 (y2 + (nI 1)) M9))
set_option maxRecDepth 20000 in
theorem wbk_X10_seekLikely_79 {z1 : Int32} {K67 : Int32 → wM → Prop} {K79 : Int32 → wM → Prop} {y2 : Int32} {M : wM} {Q : wM → Prop} (hK67 : ∀ (v1 : Int32) (M : wM), K67 v1 M → aG 187 (67, [some (.ref 54), some (.int v1), none], [], mkX M) (aPv mkX Q)) (hK79 : ∀ (v2 : Int32) (M : wM), K79 v2 M → aG 187 (79, [some (.ref 54), some (.int z1), some (.int v2)], [], mkX M) (aPv mkX Q)) (h : wb_X10_seekLikely_79 z1 K67 K79 y2 M Q) : aG 187 (79, [some (.ref 54), some (.int z1), some (.int y2)], [], mkX M) (aPv mkX Q) := by
  unfold wb_X10_seekLikely_79 at h
  refine aG_n 3 (s' := (84, [some (.ref 54), some (.int z1), some (.int y2)], [(.int (gi M 54 4)), (.int y2)], mkX M)) rfl ?_
  obtain ⟨h1, h2⟩ := h
  by_cases q7 : (gi M 54 4) ≤ y2
  · have h := h1 q7
    refine aG_icmp (cd := .ge) (b := true) (decide_eq_true q7) rfl ?_
    refine aG_n 2 (s' := (67, [some (.ref 54), some (.int (z1 + (nI 1))), some (.int y2)], [], mkX M)) rfl ?_
    refine aG_le (a := [some (.ref 54), some (.int (z1 + (nI 1))), none]) ⟨rfl, ⟨rfl, trivial⟩⟩ ?_
    exact hK67 _ _ h
  · have h := h2 q7
    refine aG_icmp (cd := .ge) (b := false) (decide_eq_false q7) rfl ?_
    refine aG_n 3 (s' := (90, [some (.ref 54), some (.int z1), some (.int y2)], [(.int y2), (.int z1), (.ref 54)], mkX M)) rfl ?_
    refine aG_call rfl rfl (aG_mono (wk_X10_tryGuess h) ?_)
    rintro _ ⟨M9, rfl, h⟩
    refine aG_n 2 (s' := (79, [some (.ref 54), some (.int z1), some (.int (y2 + (nI 1)))], [], mkX M9)) rfl ?_
    refine aG_le (a := [some (.ref 54), some (.int z1), some (.int (y2 + (nI 1)))]) ⟨rfl, ⟨rfl, ⟨rfl, trivial⟩⟩⟩ ?_
    exact hK79 _ _ h
def wL_X10_seekLikely_79 (z1 : Int32) (K67 : Int32 → wM → Prop) (Q : wM → Prop) : Nat → Int32 → wM → Prop
  | 0, _, _ => False
  | n + 1, y2, M => wb_X10_seekLikely_79 z1 K67 (wL_X10_seekLikely_79 z1 K67 Q n) y2 M Q
set_option maxRecDepth 20000 in
theorem wLk_X10_seekLikely_79 {z1 : Int32} {K67 : Int32 → wM → Prop} {Q : wM → Prop} (hK67 : ∀ (v1 : Int32) (M : wM), K67 v1 M → aG 187 (67, [some (.ref 54), some (.int v1), none], [], mkX M) (aPv mkX Q)) : ∀ (n : Nat) (y2 : Int32) (M : wM), wL_X10_seekLikely_79 z1 K67 Q n y2 M → aG 187 (79, [some (.ref 54), some (.int z1), some (.int y2)], [], mkX M) (aPv mkX Q)
  | 0, _, _, h => h.elim
  | n + 1, y2, M, h => wbk_X10_seekLikely_79 hK67 (fun y2 M h => wLk_X10_seekLikely_79 hK67 n y2 M h) h
def wb_X10_seekLikely_67 (K67 : Int32 → wM → Prop) (y1 : Int32) (M : wM) (Q : wM → Prop) : Prop := ((gi M 54 4) ≤ y1 → Q M) ∧ (¬ (gi M 54 4) ≤ y1 → ∃ n, wL_X10_seekLikely_79 y1 K67 Q n (y1 + (nI 1)) M)
set_option maxRecDepth 20000 in
theorem wbk_X10_seekLikely_67 {K67 : Int32 → wM → Prop} {y1 : Int32} {M : wM} {Q : wM → Prop} (hK67 : ∀ (v1 : Int32) (M : wM), K67 v1 M → aG 187 (67, [some (.ref 54), some (.int v1), none], [], mkX M) (aPv mkX Q)) (h : wb_X10_seekLikely_67 K67 y1 M Q) : aG 187 (67, [some (.ref 54), some (.int y1), none], [], mkX M) (aPv mkX Q) := by
  unfold wb_X10_seekLikely_67 at h
  refine aG_n 3 (s' := (72, [some (.ref 54), some (.int y1), none], [(.int (gi M 54 4)), (.int y1)], mkX M)) rfl ?_
  obtain ⟨h1, h2⟩ := h
  by_cases q6 : (gi M 54 4) ≤ y1
  · have h := h1 q6
    refine aG_icmp (cd := .ge) (b := true) (decide_eq_true q6) rfl ?_
    refine aG_n 0 (s' := (105, [some (.ref 54), some (.int y1), none], [], mkX M)) rfl ?_
    exact aG_retV rfl rfl ⟨_, rfl, h⟩
  · have h := h2 q6
    refine aG_icmp (cd := .ge) (b := false) (decide_eq_false q6) rfl ?_
    refine aG_n 4 (s' := (79, [some (.ref 54), some (.int y1), some (.int (y1 + (nI 1)))], [], mkX M)) rfl ?_
    refine aG_le (a := [some (.ref 54), some (.int y1), some (.int (y1 + (nI 1)))]) ⟨rfl, ⟨rfl, ⟨rfl, trivial⟩⟩⟩ ?_
    obtain ⟨n, h⟩ := h
    exact wLk_X10_seekLikely_79 hK67 n _ _ h
def wL_X10_seekLikely_67 (Q : wM → Prop) : Nat → Int32 → wM → Prop
  | 0, _, _ => False
  | n + 1, y1, M => wb_X10_seekLikely_67 (wL_X10_seekLikely_67 Q n) y1 M Q
set_option maxRecDepth 20000 in
theorem wLk_X10_seekLikely_67 {Q : wM → Prop} : ∀ (n : Nat) (y1 : Int32) (M : wM), wL_X10_seekLikely_67 Q n y1 M → aG 187 (67, [some (.ref 54), some (.int y1), none], [], mkX M) (aPv mkX Q)
  | 0, _, _, h => h.elim
  | n + 1, y1, M, h => wbk_X10_seekLikely_67 (fun y1 M h => wLk_X10_seekLikely_67 n y1 M h) h
def wj_X10_seekLikely_53 (M : wM) (Q : wM → Prop) : Prop := ((gi M 54 8) = (nI 0) → ∃ n, wL_X10_seekLikely_67 Q n (nI 0) (si M 54 9 (nI 2))) ∧ (¬ (gi M 54 8) = (nI 0) → Q M)
set_option maxRecDepth 20000 in
theorem wjk_X10_seekLikely_53 {M : wM} {Q : wM → Prop} (h : wj_X10_seekLikely_53 M Q) : aG 187 (53, [some (.ref 54), none, none], [], mkX M) (aPv mkX Q) := by
  unfold wj_X10_seekLikely_53 at h
  refine aG_n 2 (s' := (57, [some (.ref 54), none, none], [(.int (gi M 54 8))], mkX M)) rfl ?_
  obtain ⟨h1, h2⟩ := h
  by_cases q5 : (gi M 54 8) = (nI 0)
  · have h := h1 q5
    refine aG_if (cd := .ne) (b := false) (aTne0 q5) rfl ?_
    refine aG_n 5 (s' := (67, [some (.ref 54), some (.int (nI 0)), none], [], mkX (si M 54 9 (nI 2)))) rfl ?_
    refine aG_le (a := [some (.ref 54), some (.int (nI 0)), none]) ⟨rfl, ⟨rfl, trivial⟩⟩ ?_
    obtain ⟨n, h⟩ := h
    exact wLk_X10_seekLikely_67 n _ _ h
  · have h := h2 q5
    refine aG_if (cd := .ne) (b := true) (aTne1 q5) rfl ?_
    refine aG_n 0 (s' := (105, [some (.ref 54), none, none], [], mkX M)) rfl ?_
    exact aG_retV rfl rfl ⟨_, rfl, h⟩
def wb_X10_seekLikely_32 (K32 : Int32 → wM → Prop) (y1 : Int32) (M : wM) (Q : wM → Prop) : Prop := ((gi M 54 4) ≤ y1 → wj_X10_seekLikely_53 M Q) ∧ (¬ (gi M 54 4) ≤ y1 → w_X10_tryGuess y1 (-4) M (fun M11 => K32 (y1 + (nI 1)) M11))
set_option maxRecDepth 20000 in
theorem wbk_X10_seekLikely_32 {K32 : Int32 → wM → Prop} {y1 : Int32} {M : wM} {Q : wM → Prop} (hK32 : ∀ (v1 : Int32) (M : wM), K32 v1 M → aG 187 (32, [some (.ref 54), some (.int v1), none], [], mkX M) (aPv mkX Q)) (h : wb_X10_seekLikely_32 K32 y1 M Q) : aG 187 (32, [some (.ref 54), some (.int y1), none], [], mkX M) (aPv mkX Q) := by
  unfold wb_X10_seekLikely_32 at h
  refine aG_n 3 (s' := (37, [some (.ref 54), some (.int y1), none], [(.int (gi M 54 4)), (.int y1)], mkX M)) rfl ?_
  obtain ⟨h1, h2⟩ := h
  by_cases q4 : (gi M 54 4) ≤ y1
  · have h := h1 q4
    refine aG_icmp (cd := .ge) (b := true) (decide_eq_true q4) rfl ?_
    refine aG_n 0 (s' := (53, [some (.ref 54), some (.int y1), none], [], mkX M)) rfl ?_
    refine aG_le (a := [some (.ref 54), none, none]) ⟨rfl, trivial⟩ ?_
    exact wjk_X10_seekLikely_53 h
  · have h := h2 q4
    refine aG_icmp (cd := .ge) (b := false) (decide_eq_false q4) rfl ?_
    refine aG_n 3 (s' := (44, [some (.ref 54), some (.int y1), none], [(.int (-4)), (.int y1), (.ref 54)], mkX M)) rfl ?_
    refine aG_call rfl rfl (aG_mono (wk_X10_tryGuess h) ?_)
    rintro _ ⟨M11, rfl, h⟩
    refine aG_n 2 (s' := (32, [some (.ref 54), some (.int (y1 + (nI 1))), none], [], mkX M11)) rfl ?_
    refine aG_le (a := [some (.ref 54), some (.int (y1 + (nI 1))), none]) ⟨rfl, ⟨rfl, trivial⟩⟩ ?_
    exact hK32 _ _ h
def wL_X10_seekLikely_32 (Q : wM → Prop) : Nat → Int32 → wM → Prop
  | 0, _, _ => False
  | n + 1, y1, M => wb_X10_seekLikely_32 (wL_X10_seekLikely_32 Q n) y1 M Q
set_option maxRecDepth 20000 in
theorem wLk_X10_seekLikely_32 {Q : wM → Prop} : ∀ (n : Nat) (y1 : Int32) (M : wM), wL_X10_seekLikely_32 Q n y1 M → aG 187 (32, [some (.ref 54), some (.int y1), none], [], mkX M) (aPv mkX Q)
  | 0, _, _, h => h.elim
  | n + 1, y1, M, h => wbk_X10_seekLikely_32 (fun y1 M h => wLk_X10_seekLikely_32 n y1 M h) h
def w_X10_seekLikely (M : wM) (Q : wM → Prop) : Prop := w_X10_tryGuess (-4) (-4) (si (si M 54 8 (nI 0)) 54 9 (nI 0)) (fun M2 => ((gi M2 54 8) = (nI 0) → ∃ n, wL_X10_seekLikely_32 Q n (nI 0) (si M2 54 9 (nI 1))) ∧ (¬ (gi M2 54 8) = (nI 0) → wj_X10_seekLikely_53 M2 Q))
set_option maxRecDepth 20000 in
theorem wk_X10_seekLikely {M : wM} {Q : wM → Prop} (h : w_X10_seekLikely M Q) : aG 187 (aEn 187 [(.ref 54)] (mkX M)) (aPv mkX Q) := by
  unfold w_X10_seekLikely at h
  refine aG_n 9 (s' := (15, [some (.ref 54), none, none], [(.int (-4)), (.int (-4)), (.ref 54)], mkX (si (si M 54 8 (nI 0)) 54 9 (nI 0)))) rfl ?_
  refine aG_call rfl rfl (aG_mono (wk_X10_tryGuess h) ?_)
  rintro _ ⟨M2, rfl, h⟩
  refine aG_n 2 (s' := (22, [some (.ref 54), none, none], [(.int (gi M2 54 8))], mkX M2)) rfl ?_
  obtain ⟨h1, h2⟩ := h
  by_cases q3 : (gi M2 54 8) = (nI 0)
  · have h := h1 q3
    refine aG_if (cd := .ne) (b := false) (aTne0 q3) rfl ?_
    refine aG_n 5 (s' := (32, [some (.ref 54), some (.int (nI 0)), none], [], mkX (si M2 54 9 (nI 1)))) rfl ?_
    refine aG_le (a := [some (.ref 54), some (.int (nI 0)), none]) ⟨rfl, ⟨rfl, trivial⟩⟩ ?_
    obtain ⟨n, h⟩ := h
    exact wLk_X10_seekLikely_32 n _ _ h
  · have h := h2 q3
    refine aG_if (cd := .ne) (b := true) (aTne1 q3) rfl ?_
    refine aG_n 0 (s' := (53, [some (.ref 54), none, none], [], mkX M2)) rfl ?_
    refine aG_le (a := [some (.ref 54), none, none]) ⟨rfl, trivial⟩ ?_
    exact wjk_X10_seekLikely_53 h
def wb_X10_seekPartingRow_17 (K17 : Int32 → wM → Prop) (y1 : Int32) (M : wM) (Q : wM → Prop) : Prop := ((jshl (nI 1) (gi M 12 0)) ≤ y1 → Q M) ∧ (¬ (jshl (nI 1) (gi M 12 0)) ≤ y1 → w_X10_greatestHeap y1 M (fun r2 M3 => ((gi M3 54 16) ≤ r2 → K17 (y1 + (nI 1)) M3) ∧ (¬ (gi M3 54 16) ≤ r2 → K17 (y1 + (nI 1)) (si (si M3 54 16 r2) 54 15 y1))))
set_option maxRecDepth 20000 in
theorem wbk_X10_seekPartingRow_17 {K17 : Int32 → wM → Prop} {y1 : Int32} {M : wM} {Q : wM → Prop} (hK17 : ∀ (v1 : Int32) (M : wM), K17 v1 M → aG 188 (17, [some (.ref 54), some (.int v1), none], [], mkX M) (aPv mkX Q)) (h : wb_X10_seekPartingRow_17 K17 y1 M Q) : aG 188 (17, [some (.ref 54), some (.int y1), none], [], mkX M) (aPv mkX Q) := by
  unfold wb_X10_seekPartingRow_17 at h
  refine aG_n 6 (s' := (27, [some (.ref 54), some (.int y1), none], [(.int (jshl (nI 1) (gi M 12 0))), (.int y1)], mkX M)) rfl ?_
  obtain ⟨h1, h2⟩ := h
  by_cases q1 : (jshl (nI 1) (gi M 12 0)) ≤ y1
  · have h := h1 q1
    refine aG_icmp (cd := .ge) (b := true) (decide_eq_true q1) rfl ?_
    refine aG_n 0 (s' := (60, [some (.ref 54), some (.int y1), none], [], mkX M)) rfl ?_
    exact aG_retV rfl rfl ⟨_, rfl, h⟩
  · have h := h2 q1
    refine aG_icmp (cd := .ge) (b := false) (decide_eq_false q1) rfl ?_
    refine aG_n 2 (s' := (32, [some (.ref 54), some (.int y1), none], [(.int y1), (.ref 54)], mkX M)) rfl ?_
    refine aG_call rfl rfl (aG_mono (wk_X10_greatestHeap h) ?_)
    rintro _ ⟨r2, M3, rfl, h⟩
    refine aG_n 4 (s' := (41, [some (.ref 54), some (.int y1), some (.int r2)], [(.int (gi M3 54 16)), (.int r2)], mkX M3)) rfl ?_
    obtain ⟨h1, h2⟩ := h
    by_cases q4 : (gi M3 54 16) ≤ r2
    · have h := h1 q4
      refine aG_icmp (cd := .ge) (b := true) (decide_eq_true q4) rfl ?_
      refine aG_n 2 (s' := (17, [some (.ref 54), some (.int (y1 + (nI 1))), some (.int r2)], [], mkX M3)) rfl ?_
      refine aG_le (a := [some (.ref 54), some (.int (y1 + (nI 1))), none]) ⟨rfl, ⟨rfl, trivial⟩⟩ ?_
      exact hK17 _ _ h
    · have h := h2 q4
      refine aG_icmp (cd := .ge) (b := false) (decide_eq_false q4) rfl ?_
      refine aG_n 8 (s' := (17, [some (.ref 54), some (.int (y1 + (nI 1))), some (.int r2)], [], mkX (si (si M3 54 16 r2) 54 15 y1))) rfl ?_
      refine aG_le (a := [some (.ref 54), some (.int (y1 + (nI 1))), none]) ⟨rfl, ⟨rfl, trivial⟩⟩ ?_
      exact hK17 _ _ h
def wL_X10_seekPartingRow_17 (Q : wM → Prop) : Nat → Int32 → wM → Prop
  | 0, _, _ => False
  | n + 1, y1, M => wb_X10_seekPartingRow_17 (wL_X10_seekPartingRow_17 Q n) y1 M Q
set_option maxRecDepth 20000 in
theorem wLk_X10_seekPartingRow_17 {Q : wM → Prop} : ∀ (n : Nat) (y1 : Int32) (M : wM), wL_X10_seekPartingRow_17 Q n y1 M → aG 188 (17, [some (.ref 54), some (.int y1), none], [], mkX M) (aPv mkX Q)
  | 0, _, _, h => h.elim
  | n + 1, y1, M, h => wbk_X10_seekPartingRow_17 (fun y1 M h => wLk_X10_seekPartingRow_17 n y1 M h) h
def w_X10_seekPartingRow (M : wM) (Q : wM → Prop) : Prop := ∃ n, wL_X10_seekPartingRow_17 Q n (nI 0) (si (si M 54 16 ((gi M 54 8) + (nI 1))) 54 15 (nI 0))
set_option maxRecDepth 20000 in
theorem wk_X10_seekPartingRow {M : wM} {Q : wM → Prop} (h : w_X10_seekPartingRow M Q) : aG 188 (aEn 188 [(.ref 54)] (mkX M)) (aPv mkX Q) := by
  unfold w_X10_seekPartingRow at h
  refine aG_n 11 (s' := (17, [some (.ref 54), some (.int (nI 0)), none], [], mkX (si (si M 54 16 ((gi M 54 8) + (nI 1))) 54 15 (nI 0)))) rfl ?_
  refine aG_le (a := [some (.ref 54), some (.int (nI 0)), none]) ⟨rfl, ⟨rfl, trivial⟩⟩ ?_
  obtain ⟨n, h⟩ := h
  exact wLk_X10_seekPartingRow_17 n _ _ h
def w_X11_tick (x1 : Int32) (x2 : Int32) (M : wM) (Q : Int32 → wM → Prop) : Prop := ((gi M 26 3) = (nI 0) → Q (-2) M) ∧ (¬ (gi M 26 3) = (nI 0) → w_X0_step x1 x2 M (fun r2 M3 => Q r2 M3))
set_option maxRecDepth 20000 in
theorem wk_X11_tick {x1 : Int32} {x2 : Int32} {M : wM} {Q : Int32 → wM → Prop} (h : w_X11_tick x1 x2 M Q) : aG 189 (aEn 189 [(.ref 0), (.int x1), (.int x2)] (mkX M)) (aPi mkX Q) := by
  unfold w_X11_tick at h
  refine aG_n 3 (s' := (7, [some (.ref 0), some (.int x1), some (.int x2)], [(.int (gi M 26 3))], mkX M)) rfl ?_
  obtain ⟨h1, h2⟩ := h
  by_cases q1 : (gi M 26 3) = (nI 0)
  · have h := h1 q1
    refine aG_if (cd := .ne) (b := false) (aTne0 q1) rfl ?_
    refine aG_n 2 (s' := (24, [some (.ref 0), some (.int x1), some (.int x2)], [(.int (-2))], mkX M)) rfl ?_
    exact aG_ret0 rfl rfl ⟨_, _, rfl, h⟩
  · have h := h2 q1
    refine aG_if (cd := .ne) (b := true) (aTne1 q1) rfl ?_
    refine aG_n 4 (s' := (21, [some (.ref 0), some (.int x1), some (.int x2)], [(.int x2), (.int x1), (.ref 26)], mkX M)) rfl ?_
    refine aG_call rfl rfl (aG_mono (wk_X0_step h) ?_)
    rintro _ ⟨r2, M3, rfl, h⟩
    refine aG_n 0 (s' := (24, [some (.ref 0), some (.int x1), some (.int x2)], [(.int r2)], mkX M3)) rfl ?_
    exact aG_ret0 rfl rfl ⟨_, _, rfl, h⟩
def wj_X11_ticks_72 (z1 : Int32) (z2 : Int32) (z3 : Int32) (z4 : Int32) (z5 : Int32) (s1 : Int32) (s2 : Int32) (K32 : Int32 → Int32 → wM → Prop) (M : wM) (Q : Int32 → wM → Prop) : Prop := w_X0_step s1 s2 M (fun r11 M12 => (r11 = (nI 1) → K32 (z4 ||| (jshl (nI 1) z5)) (z5 + (nI 1)) M12) ∧ (¬ r11 = (nI 1) → K32 z4 (z5 + (nI 1)) M12))
set_option maxRecDepth 20000 in
theorem wjk_X11_ticks_72 {z1 : Int32} {z2 : Int32} {z3 : Int32} {z4 : Int32} {z5 : Int32} {s1 : Int32} {s2 : Int32} {K32 : Int32 → Int32 → wM → Prop} {M : wM} {Q : Int32 → wM → Prop} (hK32 : ∀ (v4 : Int32) (v5 : Int32) (M : wM), K32 v4 v5 M → aG 190 (32, [some (.ref 0), some (.int z1), some (.int z2), some (.int z3), some (.int v4), some (.int v5)], [], mkX M) (aPi mkX Q)) (h : wj_X11_ticks_72 z1 z2 z3 z4 z5 s1 s2 K32 M Q) : aG 190 (72, [some (.ref 0), some (.int z1), some (.int z2), some (.int z3), some (.int z4), some (.int z5)], [(.int s2), (.int s1), (.ref 26)], mkX M) (aPi mkX Q) := by
  unfold wj_X11_ticks_72 at h
  refine aG_call rfl rfl (aG_mono (wk_X0_step h) ?_)
  rintro _ ⟨r11, M12, rfl, h⟩
  refine aG_n 1 (s' := (76, [some (.ref 0), some (.int z1), some (.int z2), some (.int z3), some (.int z4), some (.int z5)], [(.int (nI 1)), (.int r11)], mkX M12)) rfl ?_
  obtain ⟨h1, h2⟩ := h
  by_cases q13 : r11 = (nI 1)
  · have h := h1 q13
    refine aG_icmp (cd := .ne) (b := false) (aTne0 q13) rfl ?_
    refine aG_n 8 (s' := (32, [some (.ref 0), some (.int z1), some (.int z2), some (.int z3), some (.int (z4 ||| (jshl (nI 1) z5))), some (.int (z5 + (nI 1)))], [], mkX M12)) rfl ?_
    refine aG_le (a := [some (.ref 0), some (.int z1), some (.int z2), some (.int z3), some (.int (z4 ||| (jshl (nI 1) z5))), some (.int (z5 + (nI 1)))]) ⟨rfl, ⟨rfl, ⟨rfl, ⟨rfl, ⟨rfl, ⟨rfl, trivial⟩⟩⟩⟩⟩⟩ ?_
    exact hK32 _ _ _ h
  · have h := h2 q13
    refine aG_icmp (cd := .ne) (b := true) (aTne1 q13) rfl ?_
    refine aG_n 2 (s' := (32, [some (.ref 0), some (.int z1), some (.int z2), some (.int z3), some (.int z4), some (.int (z5 + (nI 1)))], [], mkX M12)) rfl ?_
    refine aG_le (a := [some (.ref 0), some (.int z1), some (.int z2), some (.int z3), some (.int z4), some (.int (z5 + (nI 1)))]) ⟨rfl, ⟨rfl, ⟨rfl, ⟨rfl, ⟨rfl, ⟨rfl, trivial⟩⟩⟩⟩⟩⟩ ?_
    exact hK32 _ _ _ h
def wb_X11_ticks_32 (z1 : Int32) (z2 : Int32) (z3 : Int32) (K32 : Int32 → Int32 → wM → Prop) (y4 : Int32) (y5 : Int32) (M : wM) (Q : Int32 → wM → Prop) : Prop := (z1 ≤ y5 → Q y4 M) ∧ (¬ z1 ≤ y5 → w_X11_bit z2 y5 M (fun r5 M6 => (r5 = (nI 1) → w_X11_bit z3 y5 M6 (fun r8 M9 => (r8 = (nI 1) → wj_X11_ticks_72 z1 z2 z3 y4 y5 (nI 1) (nI 1) K32 M9 Q) ∧ (¬ r8 = (nI 1) → wj_X11_ticks_72 z1 z2 z3 y4 y5 (nI 1) (nI 0) K32 M9 Q))) ∧ (¬ r5 = (nI 1) → w_X11_bit z3 y5 M6 (fun r14 M15 => (r14 = (nI 1) → wj_X11_ticks_72 z1 z2 z3 y4 y5 (nI 0) (nI 1) K32 M15 Q) ∧ (¬ r14 = (nI 1) → wj_X11_ticks_72 z1 z2 z3 y4 y5 (nI 0) (nI 0) K32 M15 Q)))))
set_option maxRecDepth 20000 in
theorem wbk_X11_ticks_32 {z1 : Int32} {z2 : Int32} {z3 : Int32} {K32 : Int32 → Int32 → wM → Prop} {y4 : Int32} {y5 : Int32} {M : wM} {Q : Int32 → wM → Prop} (hK32 : ∀ (v4 : Int32) (v5 : Int32) (M : wM), K32 v4 v5 M → aG 190 (32, [some (.ref 0), some (.int z1), some (.int z2), some (.int z3), some (.int v4), some (.int v5)], [], mkX M) (aPi mkX Q)) (h : wb_X11_ticks_32 z1 z2 z3 K32 y4 y5 M Q) : aG 190 (32, [some (.ref 0), some (.int z1), some (.int z2), some (.int z3), some (.int y4), some (.int y5)], [], mkX M) (aPi mkX Q) := by
  unfold wb_X11_ticks_32 at h
  refine aG_n 2 (s' := (35, [some (.ref 0), some (.int z1), some (.int z2), some (.int z3), some (.int y4), some (.int y5)], [(.int z1), (.int y5)], mkX M)) rfl ?_
  obtain ⟨h1, h2⟩ := h
  by_cases q4 : z1 ≤ y5
  · have h := h1 q4
    refine aG_icmp (cd := .ge) (b := true) (decide_eq_true q4) rfl ?_
    refine aG_n 1 (s' := (96, [some (.ref 0), some (.int z1), some (.int z2), some (.int z3), some (.int y4), some (.int y5)], [(.int y4)], mkX M)) rfl ?_
    exact aG_ret0 rfl rfl ⟨_, _, rfl, h⟩
  · have h := h2 q4
    refine aG_icmp (cd := .ge) (b := false) (decide_eq_false q4) rfl ?_
    refine aG_n 4 (s' := (45, [some (.ref 0), some (.int z1), some (.int z2), some (.int z3), some (.int y4), some (.int y5)], [(.int y5), (.int z2), (.ref 26)], mkX M)) rfl ?_
    refine aG_call rfl rfl (aG_mono (wk_X11_bit h) ?_)
    rintro _ ⟨r5, M6, rfl, h⟩
    refine aG_n 1 (s' := (49, [some (.ref 0), some (.int z1), some (.int z2), some (.int z3), some (.int y4), some (.int y5)], [(.int (nI 1)), (.int r5), (.ref 26)], mkX M6)) rfl ?_
    obtain ⟨h1, h2⟩ := h
    by_cases q7 : r5 = (nI 1)
    · have h := h1 q7
      refine aG_icmp (cd := .ne) (b := false) (aTne0 q7) rfl ?_
      refine aG_n 4 (s' := (60, [some (.ref 0), some (.int z1), some (.int z2), some (.int z3), some (.int y4), some (.int y5)], [(.int y5), (.int z3), (.int (nI 1)), (.ref 26)], mkX M6)) rfl ?_
      refine aG_call rfl rfl (aG_mono (wk_X11_bit h) ?_)
      rintro _ ⟨r8, M9, rfl, h⟩
      refine aG_n 1 (s' := (64, [some (.ref 0), some (.int z1), some (.int z2), some (.int z3), some (.int y4), some (.int y5)], [(.int (nI 1)), (.int r8), (.int (nI 1)), (.ref 26)], mkX M9)) rfl ?_
      obtain ⟨h1, h2⟩ := h
      by_cases q10 : r8 = (nI 1)
      · have h := h1 q10
        refine aG_icmp (cd := .ne) (b := false) (aTne0 q10) rfl ?_
        refine aG_n 2 (s' := (72, [some (.ref 0), some (.int z1), some (.int z2), some (.int z3), some (.int y4), some (.int y5)], [(.int (nI 1)), (.int (nI 1)), (.ref 26)], mkX M9)) rfl ?_
        refine aG_le (a := [some (.ref 0), some (.int z1), some (.int z2), some (.int z3), some (.int y4), some (.int y5)]) ⟨rfl, ⟨rfl, ⟨rfl, ⟨rfl, ⟨rfl, ⟨rfl, trivial⟩⟩⟩⟩⟩⟩ ?_
        exact wjk_X11_ticks_72 hK32 h
      · have h := h2 q10
        refine aG_icmp (cd := .ne) (b := true) (aTne1 q10) rfl ?_
        refine aG_n 1 (s' := (72, [some (.ref 0), some (.int z1), some (.int z2), some (.int z3), some (.int y4), some (.int y5)], [(.int (nI 0)), (.int (nI 1)), (.ref 26)], mkX M9)) rfl ?_
        refine aG_le (a := [some (.ref 0), some (.int z1), some (.int z2), some (.int z3), some (.int y4), some (.int y5)]) ⟨rfl, ⟨rfl, ⟨rfl, ⟨rfl, ⟨rfl, ⟨rfl, trivial⟩⟩⟩⟩⟩⟩ ?_
        exact wjk_X11_ticks_72 hK32 h
    · have h := h2 q7
      refine aG_icmp (cd := .ne) (b := true) (aTne1 q7) rfl ?_
      refine aG_n 3 (s' := (60, [some (.ref 0), some (.int z1), some (.int z2), some (.int z3), some (.int y4), some (.int y5)], [(.int y5), (.int z3), (.int (nI 0)), (.ref 26)], mkX M6)) rfl ?_
      refine aG_call rfl rfl (aG_mono (wk_X11_bit h) ?_)
      rintro _ ⟨r14, M15, rfl, h⟩
      refine aG_n 1 (s' := (64, [some (.ref 0), some (.int z1), some (.int z2), some (.int z3), some (.int y4), some (.int y5)], [(.int (nI 1)), (.int r14), (.int (nI 0)), (.ref 26)], mkX M15)) rfl ?_
      obtain ⟨h1, h2⟩ := h
      by_cases q16 : r14 = (nI 1)
      · have h := h1 q16
        refine aG_icmp (cd := .ne) (b := false) (aTne0 q16) rfl ?_
        refine aG_n 2 (s' := (72, [some (.ref 0), some (.int z1), some (.int z2), some (.int z3), some (.int y4), some (.int y5)], [(.int (nI 1)), (.int (nI 0)), (.ref 26)], mkX M15)) rfl ?_
        refine aG_le (a := [some (.ref 0), some (.int z1), some (.int z2), some (.int z3), some (.int y4), some (.int y5)]) ⟨rfl, ⟨rfl, ⟨rfl, ⟨rfl, ⟨rfl, ⟨rfl, trivial⟩⟩⟩⟩⟩⟩ ?_
        exact wjk_X11_ticks_72 hK32 h
      · have h := h2 q16
        refine aG_icmp (cd := .ne) (b := true) (aTne1 q16) rfl ?_
        refine aG_n 1 (s' := (72, [some (.ref 0), some (.int z1), some (.int z2), some (.int z3), some (.int y4), some (.int y5)], [(.int (nI 0)), (.int (nI 0)), (.ref 26)], mkX M15)) rfl ?_
        refine aG_le (a := [some (.ref 0), some (.int z1), some (.int z2), some (.int z3), some (.int y4), some (.int y5)]) ⟨rfl, ⟨rfl, ⟨rfl, ⟨rfl, ⟨rfl, ⟨rfl, trivial⟩⟩⟩⟩⟩⟩ ?_
        exact wjk_X11_ticks_72 hK32 h
def wL_X11_ticks_32 (z1 : Int32) (z2 : Int32) (z3 : Int32) (Q : Int32 → wM → Prop) : Nat → Int32 → Int32 → wM → Prop
  | 0, _, _, _ => False
  | n + 1, y4, y5, M => wb_X11_ticks_32 z1 z2 z3 (wL_X11_ticks_32 z1 z2 z3 Q n) y4 y5 M Q
set_option maxRecDepth 20000 in
theorem wLk_X11_ticks_32 {z1 : Int32} {z2 : Int32} {z3 : Int32} {Q : Int32 → wM → Prop} : ∀ (n : Nat) (y4 : Int32) (y5 : Int32) (M : wM), wL_X11_ticks_32 z1 z2 z3 Q n y4 y5 M → aG 190 (32, [some (.ref 0), some (.int z1), some (.int z2), some (.int z3), some (.int y4), some (.int y5)], [], mkX M) (aPi mkX Q)
  | 0, _, _, _, h => h.elim
  | n + 1, y4, y5, M, h => wbk_X11_ticks_32 (fun y4 y5 M h => wLk_X11_ticks_32 n y4 y5 M h) h
def w_X11_ticks (x1 : Int32) (x2 : Int32) (x3 : Int32) (M : wM) (Q : Int32 → wM → Prop) : Prop := (x1 < (nI 1) → Q (-1) M) ∧ (¬ x1 < (nI 1) → (x1 ≤ (nI 31) → ((gi M 26 3) = (nI 0) → Q (-2) M) ∧ (¬ (gi M 26 3) = (nI 0) → ∃ n, wL_X11_ticks_32 x1 x2 x3 Q n (nI 0) (nI 0) M)) ∧ (¬ x1 ≤ (nI 31) → Q (-1) M))
set_option maxRecDepth 20000 in
theorem wk_X11_ticks {x1 : Int32} {x2 : Int32} {x3 : Int32} {M : wM} {Q : Int32 → wM → Prop} (h : w_X11_ticks x1 x2 x3 M Q) : aG 190 (aEn 190 [(.ref 0), (.int x1), (.int x2), (.int x3)] (mkX M)) (aPi mkX Q) := by
  unfold w_X11_ticks at h
  refine aG_n 2 (s' := (2, [some (.ref 0), some (.int x1), some (.int x2), some (.int x3), none, none], [(.int (nI 1)), (.int x1)], mkX M)) rfl ?_
  obtain ⟨h1, h2⟩ := h
  by_cases q1 : x1 < (nI 1)
  · have h := h1 q1
    refine aG_icmp (cd := .lt) (b := true) (decide_eq_true q1) rfl ?_
    refine aG_n 1 (s' := (12, [some (.ref 0), some (.int x1), some (.int x2), some (.int x3), none, none], [(.int (-1))], mkX M)) rfl ?_
    exact aG_ret0 rfl rfl ⟨_, _, rfl, h⟩
  · have h := h2 q1
    refine aG_icmp (cd := .lt) (b := false) (decide_eq_false q1) rfl ?_
    refine aG_n 2 (s' := (8, [some (.ref 0), some (.int x1), some (.int x2), some (.int x3), none, none], [(.int (nI 31)), (.int x1)], mkX M)) rfl ?_
    obtain ⟨h1, h2⟩ := h
    by_cases q2 : x1 ≤ (nI 31)
    · have h := h1 q2
      refine aG_icmp (cd := .le) (b := true) (decide_eq_true q2) rfl ?_
      refine aG_n 3 (s' := (20, [some (.ref 0), some (.int x1), some (.int x2), some (.int x3), none, none], [(.int (gi M 26 3))], mkX M)) rfl ?_
      obtain ⟨h1, h2⟩ := h
      by_cases q3 : (gi M 26 3) = (nI 0)
      · have h := h1 q3
        refine aG_if (cd := .ne) (b := false) (aTne0 q3) rfl ?_
        refine aG_n 1 (s' := (25, [some (.ref 0), some (.int x1), some (.int x2), some (.int x3), none, none], [(.int (-2))], mkX M)) rfl ?_
        exact aG_ret0 rfl rfl ⟨_, _, rfl, h⟩
      · have h := h2 q3
        refine aG_if (cd := .ne) (b := true) (aTne1 q3) rfl ?_
        refine aG_n 4 (s' := (32, [some (.ref 0), some (.int x1), some (.int x2), some (.int x3), some (.int (nI 0)), some (.int (nI 0))], [], mkX M)) rfl ?_
        refine aG_le (a := [some (.ref 0), some (.int x1), some (.int x2), some (.int x3), some (.int (nI 0)), some (.int (nI 0))]) ⟨rfl, ⟨rfl, ⟨rfl, ⟨rfl, ⟨rfl, ⟨rfl, trivial⟩⟩⟩⟩⟩⟩ ?_
        obtain ⟨n, h⟩ := h
        exact wLk_X11_ticks_32 n _ _ _ h
    · have h := h2 q2
      refine aG_icmp (cd := .le) (b := false) (decide_eq_false q2) rfl ?_
      refine aG_n 1 (s' := (12, [some (.ref 0), some (.int x1), some (.int x2), some (.int x3), none, none], [(.int (-1))], mkX M)) rfl ?_
      exact aG_ret0 rfl rfl ⟨_, _, rfl, h⟩
def w_X11_net (M : wM) (Q : Int32 → wM → Prop) : Prop := w_X3_append M (fun r1 M2 => Q r1 M2)
set_option maxRecDepth 20000 in
theorem wk_X11_net {M : wM} {Q : Int32 → wM → Prop} (h : w_X11_net M Q) : aG 191 (aEn 191 [(.ref 0)] (mkX M)) (aPi mkX Q) := by
  unfold w_X11_net at h
  refine aG_n 2 (s' := (4, [some (.ref 0)], [(.ref 12)], mkX M)) rfl ?_
  refine aG_call rfl rfl (aG_mono (wk_X3_append h) ?_)
  rintro _ ⟨r1, M2, rfl, h⟩
  refine aG_n 0 (s' := (7, [some (.ref 0)], [(.int r1)], mkX M2)) rfl ?_
  exact aG_ret0 rfl rfl ⟨_, _, rfl, h⟩
def w_X11_word (x1 : Int32) (x2 : Int32) (x3 : Int32) (M : wM) (Q : Int32 → wM → Prop) : Prop := w_X11_isSort x1 M (fun r1 M2 => (r1 = (nI 0) → Q (-1) M2) ∧ (¬ r1 = (nI 0) → w_X3_has x2 M2 (fun r4 M5 => (r4 = (nI 0) → Q (-1) M5) ∧ (¬ r4 = (nI 0) → (x3 < (nI 0) → Q (-1) M5) ∧ (¬ x3 < (nI 0) → (x3 ≤ (nI 1) → w_X10_prepare x1 M5 (fun M10 => (x3 = (nI 0) → w_X10_column 55 x2 M10 (fun r12 M13 => Q r12 M13)) ∧ (¬ x3 = (nI 0) → w_X10_column 56 x2 M10 (fun r14 M15 => Q r14 M15)))) ∧ (¬ x3 ≤ (nI 1) → Q (-1) M5))))))
set_option maxRecDepth 20000 in
theorem wk_X11_word {x1 : Int32} {x2 : Int32} {x3 : Int32} {M : wM} {Q : Int32 → wM → Prop} (h : w_X11_word x1 x2 x3 M Q) : aG 192 (aEn 192 [(.ref 0), (.int x1), (.int x2), (.int x3)] (mkX M)) (aPi mkX Q) := by
  unfold w_X11_word at h
  refine aG_n 1 (s' := (1, [some (.ref 0), some (.int x1), some (.int x2), some (.int x3)], [(.int x1)], mkX M)) rfl ?_
  refine aG_call rfl rfl (aG_mono (wk_X11_isSort h) ?_)
  rintro _ ⟨r1, M2, rfl, h⟩
  refine aG_n 0 (s' := (4, [some (.ref 0), some (.int x1), some (.int x2), some (.int x3)], [(.int r1)], mkX M2)) rfl ?_
  obtain ⟨h1, h2⟩ := h
  by_cases q3 : r1 = (nI 0)
  · have h := h1 q3
    refine aG_if (cd := .eq) (b := true) (decide_eq_true q3) rfl ?_
    refine aG_n 1 (s' := (28, [some (.ref 0), some (.int x1), some (.int x2), some (.int x3)], [(.int (-1))], mkX M2)) rfl ?_
    exact aG_ret0 rfl rfl ⟨_, _, rfl, h⟩
  · have h := h2 q3
    refine aG_if (cd := .eq) (b := false) (decide_eq_false q3) rfl ?_
    refine aG_n 3 (s' := (12, [some (.ref 0), some (.int x1), some (.int x2), some (.int x3)], [(.int x2), (.ref 12)], mkX M2)) rfl ?_
    refine aG_call rfl rfl (aG_mono (wk_X3_has h) ?_)
    rintro _ ⟨r4, M5, rfl, h⟩
    refine aG_n 0 (s' := (15, [some (.ref 0), some (.int x1), some (.int x2), some (.int x3)], [(.int r4)], mkX M5)) rfl ?_
    obtain ⟨h1, h2⟩ := h
    by_cases q6 : r4 = (nI 0)
    · have h := h1 q6
      refine aG_if (cd := .eq) (b := true) (decide_eq_true q6) rfl ?_
      refine aG_n 1 (s' := (28, [some (.ref 0), some (.int x1), some (.int x2), some (.int x3)], [(.int (-1))], mkX M5)) rfl ?_
      exact aG_ret0 rfl rfl ⟨_, _, rfl, h⟩
    · have h := h2 q6
      refine aG_if (cd := .eq) (b := false) (decide_eq_false q6) rfl ?_
      refine aG_n 1 (s' := (19, [some (.ref 0), some (.int x1), some (.int x2), some (.int x3)], [(.int x3)], mkX M5)) rfl ?_
      obtain ⟨h1, h2⟩ := h
      by_cases q7 : x3 < (nI 0)
      · have h := h1 q7
        refine aG_if (cd := .lt) (b := true) (decide_eq_true q7) rfl ?_
        refine aG_n 1 (s' := (28, [some (.ref 0), some (.int x1), some (.int x2), some (.int x3)], [(.int (-1))], mkX M5)) rfl ?_
        exact aG_ret0 rfl rfl ⟨_, _, rfl, h⟩
      · have h := h2 q7
        refine aG_if (cd := .lt) (b := false) (decide_eq_false q7) rfl ?_
        refine aG_n 2 (s' := (24, [some (.ref 0), some (.int x1), some (.int x2), some (.int x3)], [(.int (nI 1)), (.int x3)], mkX M5)) rfl ?_
        obtain ⟨h1, h2⟩ := h
        by_cases q8 : x3 ≤ (nI 1)
        · have h := h1 q8
          refine aG_icmp (cd := .le) (b := true) (decide_eq_true q8) rfl ?_
          refine aG_n 3 (s' := (34, [some (.ref 0), some (.int x1), some (.int x2), some (.int x3)], [(.int x1), (.ref 54)], mkX M5)) rfl ?_
          refine aG_call rfl rfl (aG_mono (wk_X10_prepare h) ?_)
          rintro _ ⟨M10, rfl, h⟩
          refine aG_n 3 (s' := (42, [some (.ref 0), some (.int x1), some (.int x2), some (.int x3)], [(.int x3), (.ref 54)], mkX M10)) rfl ?_
          obtain ⟨h1, h2⟩ := h
          by_cases q11 : x3 = (nI 0)
          · have h := h1 q11
            refine aG_if (cd := .ne) (b := false) (aTne0 q11) rfl ?_
            refine aG_n 5 (s' := (63, [some (.ref 0), some (.int x1), some (.int x2), some (.int x3)], [(.int x2), (.ref 55), (.ref 54)], mkX M10)) rfl ?_
            refine aG_call rfl rfl (aG_mono (wk_X10_column h) ?_)
            rintro _ ⟨r12, M13, rfl, h⟩
            refine aG_n 0 (s' := (66, [some (.ref 0), some (.int x1), some (.int x2), some (.int x3)], [(.int r12)], mkX M13)) rfl ?_
            exact aG_ret0 rfl rfl ⟨_, _, rfl, h⟩
          · have h := h2 q11
            refine aG_if (cd := .ne) (b := true) (aTne1 q11) rfl ?_
            refine aG_n 4 (s' := (63, [some (.ref 0), some (.int x1), some (.int x2), some (.int x3)], [(.int x2), (.ref 56), (.ref 54)], mkX M10)) rfl ?_
            refine aG_call rfl rfl (aG_mono (wk_X10_column h) ?_)
            rintro _ ⟨r14, M15, rfl, h⟩
            refine aG_n 0 (s' := (66, [some (.ref 0), some (.int x1), some (.int x2), some (.int x3)], [(.int r14)], mkX M15)) rfl ?_
            exact aG_ret0 rfl rfl ⟨_, _, rfl, h⟩
        · have h := h2 q8
          refine aG_icmp (cd := .le) (b := false) (decide_eq_false q8) rfl ?_
          refine aG_n 1 (s' := (28, [some (.ref 0), some (.int x1), some (.int x2), some (.int x3)], [(.int (-1))], mkX M5)) rfl ?_
          exact aG_ret0 rfl rfl ⟨_, _, rfl, h⟩
def w_X11_answer (x1 : Int32) (x2 : Int32) (x3 : Int32) (x4 : Int32) (M : wM) (Q : Int32 → wM → Prop) : Prop := w_X11_isSort x1 M (fun r1 M2 => (r1 = (nI 0) → Q (-1) M2) ∧ (¬ r1 = (nI 0) → w_X3_has x2 M2 (fun r4 M5 => (r4 = (nI 0) → Q (-1) M5) ∧ (¬ r4 = (nI 0) → w_X10_prepare x1 M5 (fun M8 => w_X10_isGuess x3 x4 M8 (fun r9 M10 => (r9 = (nI 0) → Q (-1) M10) ∧ (¬ r9 = (nI 0) → w_X10_groupOf x3 M10 (fun r12 M13 => w_X10_groupOf x4 M13 (fun r14 M15 => w_X10_answerOf x2 r12 r14 M15 (fun r16 M17 => Q r16 M17))))))))))
set_option maxRecDepth 20000 in
theorem wk_X11_answer {x1 : Int32} {x2 : Int32} {x3 : Int32} {x4 : Int32} {M : wM} {Q : Int32 → wM → Prop} (h : w_X11_answer x1 x2 x3 x4 M Q) : aG 193 (aEn 193 [(.ref 0), (.int x1), (.int x2), (.int x3), (.int x4)] (mkX M)) (aPi mkX Q) := by
  unfold w_X11_answer at h
  refine aG_n 1 (s' := (1, [some (.ref 0), some (.int x1), some (.int x2), some (.int x3), some (.int x4)], [(.int x1)], mkX M)) rfl ?_
  refine aG_call rfl rfl (aG_mono (wk_X11_isSort h) ?_)
  rintro _ ⟨r1, M2, rfl, h⟩
  refine aG_n 0 (s' := (4, [some (.ref 0), some (.int x1), some (.int x2), some (.int x3), some (.int x4)], [(.int r1)], mkX M2)) rfl ?_
  obtain ⟨h1, h2⟩ := h
  by_cases q3 : r1 = (nI 0)
  · have h := h1 q3
    refine aG_if (cd := .eq) (b := true) (decide_eq_true q3) rfl ?_
    refine aG_n 1 (s' := (19, [some (.ref 0), some (.int x1), some (.int x2), some (.int x3), some (.int x4)], [(.int (-1))], mkX M2)) rfl ?_
    exact aG_ret0 rfl rfl ⟨_, _, rfl, h⟩
  · have h := h2 q3
    refine aG_if (cd := .eq) (b := false) (decide_eq_false q3) rfl ?_
    refine aG_n 3 (s' := (12, [some (.ref 0), some (.int x1), some (.int x2), some (.int x3), some (.int x4)], [(.int x2), (.ref 12)], mkX M2)) rfl ?_
    refine aG_call rfl rfl (aG_mono (wk_X3_has h) ?_)
    rintro _ ⟨r4, M5, rfl, h⟩
    refine aG_n 0 (s' := (15, [some (.ref 0), some (.int x1), some (.int x2), some (.int x3), some (.int x4)], [(.int r4)], mkX M5)) rfl ?_
    obtain ⟨h1, h2⟩ := h
    by_cases q6 : r4 = (nI 0)
    · have h := h1 q6
      refine aG_if (cd := .ne) (b := false) (aTne0 q6) rfl ?_
      refine aG_n 1 (s' := (19, [some (.ref 0), some (.int x1), some (.int x2), some (.int x3), some (.int x4)], [(.int (-1))], mkX M5)) rfl ?_
      exact aG_ret0 rfl rfl ⟨_, _, rfl, h⟩
    · have h := h2 q6
      refine aG_if (cd := .ne) (b := true) (aTne1 q6) rfl ?_
      refine aG_n 3 (s' := (25, [some (.ref 0), some (.int x1), some (.int x2), some (.int x3), some (.int x4)], [(.int x1), (.ref 54)], mkX M5)) rfl ?_
      refine aG_call rfl rfl (aG_mono (wk_X10_prepare h) ?_)
      rintro _ ⟨M8, rfl, h⟩
      refine aG_n 4 (s' := (35, [some (.ref 0), some (.int x1), some (.int x2), some (.int x3), some (.int x4)], [(.int x4), (.int x3), (.ref 54)], mkX M8)) rfl ?_
      refine aG_call rfl rfl (aG_mono (wk_X10_isGuess h) ?_)
      rintro _ ⟨r9, M10, rfl, h⟩
      refine aG_n 0 (s' := (38, [some (.ref 0), some (.int x1), some (.int x2), some (.int x3), some (.int x4)], [(.int r9)], mkX M10)) rfl ?_
      obtain ⟨h1, h2⟩ := h
      by_cases q11 : r9 = (nI 0)
      · have h := h1 q11
        refine aG_if (cd := .ne) (b := false) (aTne0 q11) rfl ?_
        refine aG_n 1 (s' := (42, [some (.ref 0), some (.int x1), some (.int x2), some (.int x3), some (.int x4)], [(.int (-1))], mkX M10)) rfl ?_
        exact aG_ret0 rfl rfl ⟨_, _, rfl, h⟩
      · have h := h2 q11
        refine aG_if (cd := .ne) (b := true) (aTne1 q11) rfl ?_
        refine aG_n 6 (s' := (53, [some (.ref 0), some (.int x1), some (.int x2), some (.int x3), some (.int x4)], [(.int x3), (.ref 54), (.int x2), (.ref 54)], mkX M10)) rfl ?_
        refine aG_call rfl rfl (aG_mono (wk_X10_groupOf h) ?_)
        rintro _ ⟨r12, M13, rfl, h⟩
        refine aG_n 3 (s' := (62, [some (.ref 0), some (.int x1), some (.int x2), some (.int x3), some (.int x4)], [(.int x4), (.ref 54), (.int r12), (.int x2), (.ref 54)], mkX M13)) rfl ?_
        refine aG_call rfl rfl (aG_mono (wk_X10_groupOf h) ?_)
        rintro _ ⟨r14, M15, rfl, h⟩
        refine aG_n 0 (s' := (65, [some (.ref 0), some (.int x1), some (.int x2), some (.int x3), some (.int x4)], [(.int r14), (.int r12), (.int x2), (.ref 54)], mkX M15)) rfl ?_
        refine aG_call rfl rfl (aG_mono (wk_X10_answerOf h) ?_)
        rintro _ ⟨r16, M17, rfl, h⟩
        refine aG_n 0 (s' := (68, [some (.ref 0), some (.int x1), some (.int x2), some (.int x3), some (.int x4)], [(.int r16)], mkX M17)) rfl ?_
        exact aG_ret0 rfl rfl ⟨_, _, rfl, h⟩
def w_X11_blind (x1 : Int32) (x2 : Int32) (M : wM) (Q : Int32 → wM → Prop) : Prop := w_X11_isSort x1 M (fun r1 M2 => (r1 = (nI 0) → Q (-1) M2) ∧ (¬ r1 = (nI 0) → (x2 < (nI 0) → Q (-1) M2) ∧ (¬ x2 < (nI 0) → (x2 ≤ (nI 2) → ((gi M2 12 0) = (nI 0) → Q (-2) M2) ∧ (¬ (gi M2 12 0) = (nI 0) → w_X10_prepare x1 M2 (fun M8 => w_X10_signFaults M8 (fun M10 => (x2 = nI 0 → w_X10_unseenFaults M10 (fun r12 M13 => Q r12 M13)) ∧ (¬ x2 = nI 0 → (x2 = nI 1 → w_X10_alikePairs M10 (fun r15 M16 => Q r15 M16)) ∧ (¬ x2 = nI 1 → w_X10_firstUnseenFault M10 (fun r17 M18 => Q r17 M18))))))) ∧ (¬ x2 ≤ (nI 2) → Q (-1) M2))))
set_option maxRecDepth 20000 in
theorem wk_X11_blind {x1 : Int32} {x2 : Int32} {M : wM} {Q : Int32 → wM → Prop} (h : w_X11_blind x1 x2 M Q) : aG 194 (aEn 194 [(.ref 0), (.int x1), (.int x2)] (mkX M)) (aPi mkX Q) := by
  unfold w_X11_blind at h
  refine aG_n 1 (s' := (1, [some (.ref 0), some (.int x1), some (.int x2)], [(.int x1)], mkX M)) rfl ?_
  refine aG_call rfl rfl (aG_mono (wk_X11_isSort h) ?_)
  rintro _ ⟨r1, M2, rfl, h⟩
  refine aG_n 0 (s' := (4, [some (.ref 0), some (.int x1), some (.int x2)], [(.int r1)], mkX M2)) rfl ?_
  obtain ⟨h1, h2⟩ := h
  by_cases q3 : r1 = (nI 0)
  · have h := h1 q3
    refine aG_if (cd := .eq) (b := true) (decide_eq_true q3) rfl ?_
    refine aG_n 1 (s' := (17, [some (.ref 0), some (.int x1), some (.int x2)], [(.int (-1))], mkX M2)) rfl ?_
    exact aG_ret0 rfl rfl ⟨_, _, rfl, h⟩
  · have h := h2 q3
    refine aG_if (cd := .eq) (b := false) (decide_eq_false q3) rfl ?_
    refine aG_n 1 (s' := (8, [some (.ref 0), some (.int x1), some (.int x2)], [(.int x2)], mkX M2)) rfl ?_
    obtain ⟨h1, h2⟩ := h
    by_cases q4 : x2 < (nI 0)
    · have h := h1 q4
      refine aG_if (cd := .lt) (b := true) (decide_eq_true q4) rfl ?_
      refine aG_n 1 (s' := (17, [some (.ref 0), some (.int x1), some (.int x2)], [(.int (-1))], mkX M2)) rfl ?_
      exact aG_ret0 rfl rfl ⟨_, _, rfl, h⟩
    · have h := h2 q4
      refine aG_if (cd := .lt) (b := false) (decide_eq_false q4) rfl ?_
      refine aG_n 2 (s' := (13, [some (.ref 0), some (.int x1), some (.int x2)], [(.int (nI 2)), (.int x2)], mkX M2)) rfl ?_
      obtain ⟨h1, h2⟩ := h
      by_cases q5 : x2 ≤ (nI 2)
      · have h := h1 q5
        refine aG_icmp (cd := .le) (b := true) (decide_eq_true q5) rfl ?_
        refine aG_n 3 (s' := (25, [some (.ref 0), some (.int x1), some (.int x2)], [(.int (gi M2 12 0))], mkX M2)) rfl ?_
        obtain ⟨h1, h2⟩ := h
        by_cases q6 : (gi M2 12 0) = (nI 0)
        · have h := h1 q6
          refine aG_if (cd := .ne) (b := false) (aTne0 q6) rfl ?_
          refine aG_n 1 (s' := (30, [some (.ref 0), some (.int x1), some (.int x2)], [(.int (-2))], mkX M2)) rfl ?_
          exact aG_ret0 rfl rfl ⟨_, _, rfl, h⟩
        · have h := h2 q6
          refine aG_if (cd := .ne) (b := true) (aTne1 q6) rfl ?_
          refine aG_n 3 (s' := (36, [some (.ref 0), some (.int x1), some (.int x2)], [(.int x1), (.ref 54)], mkX M2)) rfl ?_
          refine aG_call rfl rfl (aG_mono (wk_X10_prepare h) ?_)
          rintro _ ⟨M8, rfl, h⟩
          refine aG_n 2 (s' := (43, [some (.ref 0), some (.int x1), some (.int x2)], [(.ref 54)], mkX M8)) rfl ?_
          refine aG_call rfl rfl (aG_mono (wk_X10_signFaults h) ?_)
          rintro _ ⟨M10, rfl, h⟩
          refine aG_n 1 (s' := (47, [some (.ref 0), some (.int x1), some (.int x2)], [(.int x2)], mkX M10)) rfl ?_
          obtain ⟨h1, h⟩ := h
          by_cases q11 : x2 = nI 0
          · have h := h1 q11
            refine aG_lks rfl (by rw [q11] <;> rfl) ?_
            refine aG_n 2 (s' := (76, [some (.ref 0), some (.int x1), some (.int x2)], [(.ref 54)], mkX M10)) rfl ?_
            refine aG_call rfl rfl (aG_mono (wk_X10_unseenFaults h) ?_)
            rintro _ ⟨r12, M13, rfl, h⟩
            refine aG_n 0 (s' := (79, [some (.ref 0), some (.int x1), some (.int x2)], [(.int r12)], mkX M13)) rfl ?_
            exact aG_ret0 rfl rfl ⟨_, _, rfl, h⟩
          have h := h q11
          obtain ⟨h1, h⟩ := h
          by_cases q14 : x2 = nI 1
          · have h := h1 q14
            refine aG_lks rfl (by rw [q14] <;> rfl) ?_
            refine aG_n 2 (s' := (84, [some (.ref 0), some (.int x1), some (.int x2)], [(.ref 54)], mkX M10)) rfl ?_
            refine aG_call rfl rfl (aG_mono (wk_X10_alikePairs h) ?_)
            rintro _ ⟨r15, M16, rfl, h⟩
            refine aG_n 0 (s' := (87, [some (.ref 0), some (.int x1), some (.int x2)], [(.int r15)], mkX M16)) rfl ?_
            exact aG_ret0 rfl rfl ⟨_, _, rfl, h⟩
          have h := h q14
          refine aG_lks rfl (lks_out (fun q hq => ?_)) ?_
          · simp only [List.mem_cons, List.not_mem_nil, or_false] at hq
            rcases hq with rfl | rfl <;> exact ⟨by decide, by decide, by assumption⟩
          refine aG_n 2 (s' := (92, [some (.ref 0), some (.int x1), some (.int x2)], [(.ref 54)], mkX M10)) rfl ?_
          refine aG_call rfl rfl (aG_mono (wk_X10_firstUnseenFault h) ?_)
          rintro _ ⟨r17, M18, rfl, h⟩
          refine aG_n 0 (s' := (95, [some (.ref 0), some (.int x1), some (.int x2)], [(.int r17)], mkX M18)) rfl ?_
          exact aG_ret0 rfl rfl ⟨_, _, rfl, h⟩
      · have h := h2 q5
        refine aG_icmp (cd := .le) (b := false) (decide_eq_false q5) rfl ?_
        refine aG_n 1 (s' := (17, [some (.ref 0), some (.int x1), some (.int x2)], [(.int (-1))], mkX M2)) rfl ?_
        exact aG_ret0 rfl rfl ⟨_, _, rfl, h⟩
def wb_X12_parts_80 (K80 : Int32 → wM → Prop) (y1 : Int32) (M : wM) (Q : Int32 → wM → Prop) : Prop := ((nI 6) ≤ y1 → Q (gi M 0 0) M) ∧ (¬ (nI 6) ≤ y1 → vp_in y1 6 ∧ (vp_in y1 6 ∧ (vp_in y1 6 ∧ (vp_in y1 6 ∧ (vp_in y1 6 ∧ (vp_in y1 6 ∧ (vp_in y1 6 ∧ (vp_in y1 6 ∧ (vp_in y1 6 ∧ (vp_in y1 6 ∧ (vp_in y1 6 ∧ (vp_in y1 6 ∧ (K80 (y1 + (nI 1)) (si (si (si (si (si (si M 1 y1.toNatClampNeg (gi M 7 y1.toNatClampNeg)) 2 y1.toNatClampNeg (gi M 8 y1.toNatClampNeg)) 3 y1.toNatClampNeg (gi M 9 y1.toNatClampNeg)) 4 y1.toNatClampNeg (gi M 10 y1.toNatClampNeg)) 5 y1.toNatClampNeg (gi M 11 y1.toNatClampNeg)) 6 y1.toNatClampNeg (gi M 12 y1.toNatClampNeg)))))))))))))))
set_option maxRecDepth 20000 in
theorem wbk_X12_parts_80 {K80 : Int32 → wM → Prop} {y1 : Int32} {M : wM} {Q : Int32 → wM → Prop} (hK80 : ∀ (v1 : Int32) (M : wM), K80 v1 M → aG 195 (80, [some (.ref 0), some (.int v1)], [], mkM M) (aPi mkM Q)) (h : wb_X12_parts_80 K80 y1 M Q) : aG 195 (80, [some (.ref 0), some (.int y1)], [], mkM M) (aPi mkM Q) := by
  unfold wb_X12_parts_80 at h
  refine aG_n 2 (s' := (83, [some (.ref 0), some (.int y1)], [(.int (nI 6)), (.int y1)], mkM M)) rfl ?_
  obtain ⟨h1, h2⟩ := h
  by_cases q7 : (nI 6) ≤ y1
  · have h := h1 q7
    refine aG_icmp (cd := .ge) (b := true) (decide_eq_true q7) rfl ?_
    refine aG_n 2 (s' := (168, [some (.ref 0), some (.int y1)], [(.int (gi M 0 0))], mkM M)) rfl ?_
    exact aG_ret0 rfl rfl ⟨_, _, rfl, h⟩
  · have h := h2 q7
    refine aG_icmp (cd := .ge) (b := false) (decide_eq_false q7) rfl ?_
    refine aG_n 6 (s' := (96, [some (.ref 0), some (.int y1)], [(.int y1), (.ref 7), (.int y1), (.ref 1)], mkM M)) rfl ?_
    obtain ⟨f8, h⟩ := h
    refine aG_iald rfl rfl rfl f8 ?_
    refine aG_n 0 (s' := (97, [some (.ref 0), some (.int y1)], [(.int (gi M 7 y1.toNatClampNeg)), (.int y1), (.ref 1)], mkM M)) rfl ?_
    obtain ⟨f9, h⟩ := h
    refine aG_iast rfl rfl f9 ?_
    refine aG_n 6 (s' := (108, [some (.ref 0), some (.int y1)], [(.int y1), (.ref 8), (.int y1), (.ref 2)], mkM (si M 1 y1.toNatClampNeg (gi M 7 y1.toNatClampNeg)))) rfl ?_
    obtain ⟨f10, h⟩ := h
    refine aG_iald rfl rfl rfl f10 ?_
    refine aG_n 0 (s' := (109, [some (.ref 0), some (.int y1)], [(.int (gi M 8 y1.toNatClampNeg)), (.int y1), (.ref 2)], mkM (si M 1 y1.toNatClampNeg (gi M 7 y1.toNatClampNeg)))) rfl ?_
    obtain ⟨f11, h⟩ := h
    refine aG_iast rfl rfl f11 ?_
    refine aG_n 6 (s' := (120, [some (.ref 0), some (.int y1)], [(.int y1), (.ref 9), (.int y1), (.ref 3)], mkM (si (si M 1 y1.toNatClampNeg (gi M 7 y1.toNatClampNeg)) 2 y1.toNatClampNeg (gi M 8 y1.toNatClampNeg)))) rfl ?_
    obtain ⟨f12, h⟩ := h
    refine aG_iald rfl rfl rfl f12 ?_
    refine aG_n 0 (s' := (121, [some (.ref 0), some (.int y1)], [(.int (gi M 9 y1.toNatClampNeg)), (.int y1), (.ref 3)], mkM (si (si M 1 y1.toNatClampNeg (gi M 7 y1.toNatClampNeg)) 2 y1.toNatClampNeg (gi M 8 y1.toNatClampNeg)))) rfl ?_
    obtain ⟨f13, h⟩ := h
    refine aG_iast rfl rfl f13 ?_
    refine aG_n 6 (s' := (132, [some (.ref 0), some (.int y1)], [(.int y1), (.ref 10), (.int y1), (.ref 4)], mkM (si (si (si M 1 y1.toNatClampNeg (gi M 7 y1.toNatClampNeg)) 2 y1.toNatClampNeg (gi M 8 y1.toNatClampNeg)) 3 y1.toNatClampNeg (gi M 9 y1.toNatClampNeg)))) rfl ?_
    obtain ⟨f14, h⟩ := h
    refine aG_iald rfl rfl rfl f14 ?_
    refine aG_n 0 (s' := (133, [some (.ref 0), some (.int y1)], [(.int (gi M 10 y1.toNatClampNeg)), (.int y1), (.ref 4)], mkM (si (si (si M 1 y1.toNatClampNeg (gi M 7 y1.toNatClampNeg)) 2 y1.toNatClampNeg (gi M 8 y1.toNatClampNeg)) 3 y1.toNatClampNeg (gi M 9 y1.toNatClampNeg)))) rfl ?_
    obtain ⟨f15, h⟩ := h
    refine aG_iast rfl rfl f15 ?_
    refine aG_n 6 (s' := (144, [some (.ref 0), some (.int y1)], [(.int y1), (.ref 11), (.int y1), (.ref 5)], mkM (si (si (si (si M 1 y1.toNatClampNeg (gi M 7 y1.toNatClampNeg)) 2 y1.toNatClampNeg (gi M 8 y1.toNatClampNeg)) 3 y1.toNatClampNeg (gi M 9 y1.toNatClampNeg)) 4 y1.toNatClampNeg (gi M 10 y1.toNatClampNeg)))) rfl ?_
    obtain ⟨f16, h⟩ := h
    refine aG_iald rfl rfl rfl f16 ?_
    refine aG_n 0 (s' := (145, [some (.ref 0), some (.int y1)], [(.int (gi M 11 y1.toNatClampNeg)), (.int y1), (.ref 5)], mkM (si (si (si (si M 1 y1.toNatClampNeg (gi M 7 y1.toNatClampNeg)) 2 y1.toNatClampNeg (gi M 8 y1.toNatClampNeg)) 3 y1.toNatClampNeg (gi M 9 y1.toNatClampNeg)) 4 y1.toNatClampNeg (gi M 10 y1.toNatClampNeg)))) rfl ?_
    obtain ⟨f17, h⟩ := h
    refine aG_iast rfl rfl f17 ?_
    refine aG_n 6 (s' := (156, [some (.ref 0), some (.int y1)], [(.int y1), (.ref 12), (.int y1), (.ref 6)], mkM (si (si (si (si (si M 1 y1.toNatClampNeg (gi M 7 y1.toNatClampNeg)) 2 y1.toNatClampNeg (gi M 8 y1.toNatClampNeg)) 3 y1.toNatClampNeg (gi M 9 y1.toNatClampNeg)) 4 y1.toNatClampNeg (gi M 10 y1.toNatClampNeg)) 5 y1.toNatClampNeg (gi M 11 y1.toNatClampNeg)))) rfl ?_
    obtain ⟨f18, h⟩ := h
    refine aG_iald rfl rfl rfl f18 ?_
    refine aG_n 0 (s' := (157, [some (.ref 0), some (.int y1)], [(.int (gi M 12 y1.toNatClampNeg)), (.int y1), (.ref 6)], mkM (si (si (si (si (si M 1 y1.toNatClampNeg (gi M 7 y1.toNatClampNeg)) 2 y1.toNatClampNeg (gi M 8 y1.toNatClampNeg)) 3 y1.toNatClampNeg (gi M 9 y1.toNatClampNeg)) 4 y1.toNatClampNeg (gi M 10 y1.toNatClampNeg)) 5 y1.toNatClampNeg (gi M 11 y1.toNatClampNeg)))) rfl ?_
    obtain ⟨f19, h⟩ := h
    refine aG_iast rfl rfl f19 ?_
    refine aG_n 2 (s' := (80, [some (.ref 0), some (.int (y1 + (nI 1)))], [], mkM (si (si (si (si (si (si M 1 y1.toNatClampNeg (gi M 7 y1.toNatClampNeg)) 2 y1.toNatClampNeg (gi M 8 y1.toNatClampNeg)) 3 y1.toNatClampNeg (gi M 9 y1.toNatClampNeg)) 4 y1.toNatClampNeg (gi M 10 y1.toNatClampNeg)) 5 y1.toNatClampNeg (gi M 11 y1.toNatClampNeg)) 6 y1.toNatClampNeg (gi M 12 y1.toNatClampNeg)))) rfl ?_
    refine aG_le (a := [some (.ref 0), some (.int (y1 + (nI 1)))]) ⟨rfl, ⟨rfl, trivial⟩⟩ ?_
    exact hK80 _ _ h
def wL_X12_parts_80 (Q : Int32 → wM → Prop) : Nat → Int32 → wM → Prop
  | 0, _, _ => False
  | n + 1, y1, M => wb_X12_parts_80 (wL_X12_parts_80 Q n) y1 M Q
set_option maxRecDepth 20000 in
theorem wLk_X12_parts_80 {Q : Int32 → wM → Prop} : ∀ (n : Nat) (y1 : Int32) (M : wM), wL_X12_parts_80 Q n y1 M → aG 195 (80, [some (.ref 0), some (.int y1)], [], mkM M) (aPi mkM Q)
  | 0, _, _, h => h.elim
  | n + 1, y1, M, h => wbk_X12_parts_80 (fun y1 M h => wLk_X12_parts_80 n y1 M h) h
def wj_X12_parts_50 (M : wM) (Q : Int32 → wM → Prop) : Prop := ((gi M 0 20) ≤ (nI 0) → ∃ n, wL_X12_parts_80 Q n (nI 0) (si (si M 0 15 (nI 0)) 0 0 (gi M 0 7))) ∧ (¬ (gi M 0 20) ≤ (nI 0) → Q ((-10) - (gi M 0 21)) (si M 0 15 (nI 0)))
set_option maxRecDepth 20000 in
theorem wjk_X12_parts_50 {M : wM} {Q : Int32 → wM → Prop} (h : wj_X12_parts_50 M Q) : aG 195 (50, [some (.ref 0), none], [], mkM M) (aPi mkM Q) := by
  unfold wj_X12_parts_50 at h
  refine aG_n 5 (s' := (59, [some (.ref 0), none], [(.int (gi M 0 20))], mkM (si M 0 15 (nI 0)))) rfl ?_
  obtain ⟨h1, h2⟩ := h
  by_cases q6 : (gi M 0 20) ≤ (nI 0)
  · have h := h1 q6
    refine aG_if (cd := .le) (b := true) (decide_eq_true q6) rfl ?_
    refine aG_n 6 (s' := (80, [some (.ref 0), some (.int (nI 0))], [], mkM (si (si M 0 15 (nI 0)) 0 0 (gi M 0 7)))) rfl ?_
    refine aG_le (a := [some (.ref 0), some (.int (nI 0))]) ⟨rfl, ⟨rfl, trivial⟩⟩ ?_
    obtain ⟨n, h⟩ := h
    exact wLk_X12_parts_80 n _ _ h
  · have h := h2 q6
    refine aG_if (cd := .le) (b := false) (decide_eq_false q6) rfl ?_
    refine aG_n 4 (s' := (69, [some (.ref 0), none], [(.int ((-10) - (gi M 0 21)))], mkM (si M 0 15 (nI 0)))) rfl ?_
    exact aG_ret0 rfl rfl ⟨_, _, rfl, h⟩
def wb_X12_parts_29 (K29 : wM → Prop) (M : wM) (Q : Int32 → wM → Prop) : Prop := ((gi M 0 20) = (nI 0) → ((gi M 0 18) = (nI 0) → wj_X12_parts_50 M Q) ∧ (¬ (gi M 0 18) = (nI 0) → w_X12_readPart M (fun M21 => K29 M21))) ∧ (¬ (gi M 0 20) = (nI 0) → wj_X12_parts_50 M Q)
set_option maxRecDepth 20000 in
theorem wbk_X12_parts_29 {K29 : wM → Prop} {M : wM} {Q : Int32 → wM → Prop} (hK29 : ∀ (M : wM), K29 M → aG 195 (29, [some (.ref 0), none], [], mkM M) (aPi mkM Q)) (h : wb_X12_parts_29 K29 M Q) : aG 195 (29, [some (.ref 0), none], [], mkM M) (aPi mkM Q) := by
  unfold wb_X12_parts_29 at h
  refine aG_n 2 (s' := (33, [some (.ref 0), none], [(.int (gi M 0 20))], mkM M)) rfl ?_
  obtain ⟨h1, h2⟩ := h
  by_cases q4 : (gi M 0 20) = (nI 0)
  · have h := h1 q4
    refine aG_if (cd := .ne) (b := false) (aTne0 q4) rfl ?_
    refine aG_n 2 (s' := (40, [some (.ref 0), none], [(.int (gi M 0 18))], mkM M)) rfl ?_
    obtain ⟨h1, h2⟩ := h
    by_cases q5 : (gi M 0 18) = (nI 0)
    · have h := h1 q5
      refine aG_if (cd := .eq) (b := true) (decide_eq_true q5) rfl ?_
      refine aG_n 0 (s' := (50, [some (.ref 0), none], [], mkM M)) rfl ?_
      refine aG_le (a := [some (.ref 0), none]) ⟨rfl, trivial⟩ ?_
      exact wjk_X12_parts_50 h
    · have h := h2 q5
      refine aG_if (cd := .eq) (b := false) (decide_eq_false q5) rfl ?_
      refine aG_n 1 (s' := (44, [some (.ref 0), none], [(.ref 0)], mkM M)) rfl ?_
      refine aG_call rfl rfl (aG_mono (wk_X12_readPart h) ?_)
      rintro _ ⟨M21, rfl, h⟩
      refine aG_n 1 (s' := (29, [some (.ref 0), none], [], mkM M21)) rfl ?_
      refine aG_le (a := [some (.ref 0), none]) ⟨rfl, trivial⟩ ?_
      exact hK29 _ h
  · have h := h2 q4
    refine aG_if (cd := .ne) (b := true) (aTne1 q4) rfl ?_
    refine aG_n 0 (s' := (50, [some (.ref 0), none], [], mkM M)) rfl ?_
    refine aG_le (a := [some (.ref 0), none]) ⟨rfl, trivial⟩ ?_
    exact wjk_X12_parts_50 h
def wL_X12_parts_29 (Q : Int32 → wM → Prop) : Nat → wM → Prop
  | 0, _ => False
  | n + 1, M => wb_X12_parts_29 (wL_X12_parts_29 Q n) M Q
set_option maxRecDepth 20000 in
theorem wLk_X12_parts_29 {Q : Int32 → wM → Prop} : ∀ (n : Nat) (M : wM), wL_X12_parts_29 Q n M → aG 195 (29, [some (.ref 0), none], [], mkM M) (aPi mkM Q)
  | 0, _, h => h.elim
  | n + 1, M, h => wbk_X12_parts_29 (fun M h => wLk_X12_parts_29 n M h) h
def w_X12_parts (M : wM) (Q : Int32 → wM → Prop) : Prop := ((gi M 0 22) ≤ (nI 0) → w_X12_next (si (si (si M 0 20 (nI 0)) 0 16 (nI 0)) 0 7 (nI 0)) (fun M3 => ∃ n, wL_X12_parts_29 Q n M3)) ∧ (¬ (gi M 0 22) ≤ (nI 0) → Q (-2) M)
set_option maxRecDepth 20000 in
theorem wk_X12_parts {M : wM} {Q : Int32 → wM → Prop} (h : w_X12_parts M Q) : aG 195 (aEn 195 [(.ref 0)] (mkM M)) (aPi mkM Q) := by
  unfold w_X12_parts at h
  refine aG_n 2 (s' := (4, [some (.ref 0), none], [(.int (gi M 0 22))], mkM M)) rfl ?_
  obtain ⟨h1, h2⟩ := h
  by_cases q1 : (gi M 0 22) ≤ (nI 0)
  · have h := h1 q1
    refine aG_if (cd := .le) (b := true) (decide_eq_true q1) rfl ?_
    refine aG_n 10 (s' := (26, [some (.ref 0), none], [(.ref 0)], mkM (si (si (si M 0 20 (nI 0)) 0 16 (nI 0)) 0 7 (nI 0)))) rfl ?_
    refine aG_call rfl rfl (aG_mono (wk_X12_next h) ?_)
    rintro _ ⟨M3, rfl, h⟩
    refine aG_n 0 (s' := (29, [some (.ref 0), none], [], mkM M3)) rfl ?_
    refine aG_le (a := [some (.ref 0), none]) ⟨rfl, trivial⟩ ?_
    obtain ⟨n, h⟩ := h
    exact wLk_X12_parts_29 n _ h
  · have h := h2 q1
    refine aG_if (cd := .le) (b := false) (decide_eq_false q1) rfl ?_
    refine aG_n 1 (s' := (9, [some (.ref 0), none], [(.int (-2))], mkM M)) rfl ?_
    exact aG_ret0 rfl rfl ⟨_, _, rfl, h⟩
