/-! methods as predicates, and their walks (by gen/wpgen.py) -/
def wb_X12_feetOn_15 (z1 : Int32) (z3 : Int32) (K4 : Int32 → Int32 → wM → Prop) (K15 : Int32 → Int32 → wM → Prop) (y2 : Int32) (y4 : Int32) (M : wM) (Q : Int32 → wM → Prop) : Prop := ((nI 10) ≤ y4 → K4 y2 (z3 + (nI 1)) M) ∧ (¬ (nI 10) ≤ y4 → vp_in (((nI 10) * z3) + y4) 60 ∧ (((gi M 23 (((nI 10) * z3) + y4).toNatClampNeg) = z1 → K15 (y2 + (nI 1)) (y4 + (nI 1)) M) ∧ (¬ (gi M 23 (((nI 10) * z3) + y4).toNatClampNeg) = z1 → K15 (y2 + (nI 0)) (y4 + (nI 1)) M)))
set_option maxRecDepth 20000 in
theorem wbk_X12_feetOn_15 {z1 : Int32} {z3 : Int32} {K4 : Int32 → Int32 → wM → Prop} {K15 : Int32 → Int32 → wM → Prop} {y2 : Int32} {y4 : Int32} {M : wM} {Q : Int32 → wM → Prop} (hK4 : ∀ (v2 : Int32) (v3 : Int32) (M : wM), K4 v2 v3 M → aG 71 (4, [some (.ref 0), some (.int z1), some (.int v2), some (.int v3), none], [], mkM M) (aPi mkM Q)) (hK15 : ∀ (v2 : Int32) (v4 : Int32) (M : wM), K15 v2 v4 M → aG 71 (15, [some (.ref 0), some (.int z1), some (.int v2), some (.int z3), some (.int v4)], [], mkM M) (aPi mkM Q)) (h : wb_X12_feetOn_15 z1 z3 K4 K15 y2 y4 M Q) : aG 71 (15, [some (.ref 0), some (.int z1), some (.int y2), some (.int z3), some (.int y4)], [], mkM M) (aPi mkM Q) := by
  unfold wb_X12_feetOn_15 at h
  refine aG_n 2 (s' := (19, [some (.ref 0), some (.int z1), some (.int y2), some (.int z3), some (.int y4)], [(.int (nI 10)), (.int y4)], mkM M)) rfl ?_
  obtain ⟨h1, h2⟩ := h
  by_cases q2 : (nI 10) ≤ y4
  · have h := h1 q2
    refine aG_icmp (cd := .ge) (b := true) (decide_eq_true q2) rfl ?_
    refine aG_n 2 (s' := (4, [some (.ref 0), some (.int z1), some (.int y2), some (.int (z3 + (nI 1))), some (.int y4)], [], mkM M)) rfl ?_
    refine aG_le (a := [some (.ref 0), some (.int z1), some (.int y2), some (.int (z3 + (nI 1))), none]) ⟨rfl, ⟨rfl, ⟨rfl, ⟨rfl, trivial⟩⟩⟩⟩ ?_
    exact hK4 _ _ _ h
  · have h := h2 q2
    refine aG_icmp (cd := .ge) (b := false) (decide_eq_false q2) rfl ?_
    refine aG_n 8 (s' := (34, [some (.ref 0), some (.int z1), some (.int y2), some (.int z3), some (.int y4)], [(.int (((nI 10) * z3) + y4)), (.ref 23), (.int y2)], mkM M)) rfl ?_
    obtain ⟨f3, h⟩ := h
    refine aG_iald rfl rfl rfl f3 ?_
    refine aG_n 1 (s' := (36, [some (.ref 0), some (.int z1), some (.int y2), some (.int z3), some (.int y4)], [(.int z1), (.int (gi M 23 (((nI 10) * z3) + y4).toNatClampNeg)), (.int y2)], mkM M)) rfl ?_
    obtain ⟨h1, h2⟩ := h
    by_cases q4 : (gi M 23 (((nI 10) * z3) + y4).toNatClampNeg) = z1
    · have h := h1 q4
      refine aG_icmp (cd := .ne) (b := false) (aTne0 q4) rfl ?_
      refine aG_n 6 (s' := (15, [some (.ref 0), some (.int z1), some (.int (y2 + (nI 1))), some (.int z3), some (.int (y4 + (nI 1)))], [], mkM M)) rfl ?_
      refine aG_le (a := [some (.ref 0), some (.int z1), some (.int (y2 + (nI 1))), some (.int z3), some (.int (y4 + (nI 1)))]) ⟨rfl, ⟨rfl, ⟨rfl, ⟨rfl, ⟨rfl, trivial⟩⟩⟩⟩⟩ ?_
      exact hK15 _ _ _ h
    · have h := h2 q4
      refine aG_icmp (cd := .ne) (b := true) (aTne1 q4) rfl ?_
      refine aG_n 5 (s' := (15, [some (.ref 0), some (.int z1), some (.int (y2 + (nI 0))), some (.int z3), some (.int (y4 + (nI 1)))], [], mkM M)) rfl ?_
      refine aG_le (a := [some (.ref 0), some (.int z1), some (.int (y2 + (nI 0))), some (.int z3), some (.int (y4 + (nI 1)))]) ⟨rfl, ⟨rfl, ⟨rfl, ⟨rfl, ⟨rfl, trivial⟩⟩⟩⟩⟩ ?_
      exact hK15 _ _ _ h
def wL_X12_feetOn_15 (z1 : Int32) (z3 : Int32) (K4 : Int32 → Int32 → wM → Prop) (Q : Int32 → wM → Prop) : Nat → Int32 → Int32 → wM → Prop
  | 0, _, _, _ => False
  | n + 1, y2, y4, M => wb_X12_feetOn_15 z1 z3 K4 (wL_X12_feetOn_15 z1 z3 K4 Q n) y2 y4 M Q
set_option maxRecDepth 20000 in
theorem wLk_X12_feetOn_15 {z1 : Int32} {z3 : Int32} {K4 : Int32 → Int32 → wM → Prop} {Q : Int32 → wM → Prop} (hK4 : ∀ (v2 : Int32) (v3 : Int32) (M : wM), K4 v2 v3 M → aG 71 (4, [some (.ref 0), some (.int z1), some (.int v2), some (.int v3), none], [], mkM M) (aPi mkM Q)) : ∀ (n : Nat) (y2 : Int32) (y4 : Int32) (M : wM), wL_X12_feetOn_15 z1 z3 K4 Q n y2 y4 M → aG 71 (15, [some (.ref 0), some (.int z1), some (.int y2), some (.int z3), some (.int y4)], [], mkM M) (aPi mkM Q)
  | 0, _, _, _, h => h.elim
  | n + 1, y2, y4, M, h => wbk_X12_feetOn_15 hK4 (fun y2 y4 M h => wLk_X12_feetOn_15 hK4 n y2 y4 M h) h
def wb_X12_feetOn_4 (z1 : Int32) (K4 : Int32 → Int32 → wM → Prop) (y2 : Int32) (y3 : Int32) (M : wM) (Q : Int32 → wM → Prop) : Prop := ((gi M 0 22) ≤ y3 → Q y2 M) ∧ (¬ (gi M 0 22) ≤ y3 → ∃ n, wL_X12_feetOn_15 z1 y3 K4 Q n y2 (nI 0) M)
set_option maxRecDepth 20000 in
theorem wbk_X12_feetOn_4 {z1 : Int32} {K4 : Int32 → Int32 → wM → Prop} {y2 : Int32} {y3 : Int32} {M : wM} {Q : Int32 → wM → Prop} (hK4 : ∀ (v2 : Int32) (v3 : Int32) (M : wM), K4 v2 v3 M → aG 71 (4, [some (.ref 0), some (.int z1), some (.int v2), some (.int v3), none], [], mkM M) (aPi mkM Q)) (h : wb_X12_feetOn_4 z1 K4 y2 y3 M Q) : aG 71 (4, [some (.ref 0), some (.int z1), some (.int y2), some (.int y3), none], [], mkM M) (aPi mkM Q) := by
  unfold wb_X12_feetOn_4 at h
  refine aG_n 3 (s' := (9, [some (.ref 0), some (.int z1), some (.int y2), some (.int y3), none], [(.int (gi M 0 22)), (.int y3)], mkM M)) rfl ?_
  obtain ⟨h1, h2⟩ := h
  by_cases q1 : (gi M 0 22) ≤ y3
  · have h := h1 q1
    refine aG_icmp (cd := .ge) (b := true) (decide_eq_true q1) rfl ?_
    refine aG_n 1 (s' := (59, [some (.ref 0), some (.int z1), some (.int y2), some (.int y3), none], [(.int y2)], mkM M)) rfl ?_
    exact aG_ret0 rfl rfl ⟨_, _, rfl, h⟩
  · have h := h2 q1
    refine aG_icmp (cd := .ge) (b := false) (decide_eq_false q1) rfl ?_
    refine aG_n 2 (s' := (15, [some (.ref 0), some (.int z1), some (.int y2), some (.int y3), some (.int (nI 0))], [], mkM M)) rfl ?_
    refine aG_le (a := [some (.ref 0), some (.int z1), some (.int y2), some (.int y3), some (.int (nI 0))]) ⟨rfl, ⟨rfl, ⟨rfl, ⟨rfl, ⟨rfl, trivial⟩⟩⟩⟩⟩ ?_
    obtain ⟨n, h⟩ := h
    exact wLk_X12_feetOn_15 hK4 n _ _ _ h
def wL_X12_feetOn_4 (z1 : Int32) (Q : Int32 → wM → Prop) : Nat → Int32 → Int32 → wM → Prop
  | 0, _, _, _ => False
  | n + 1, y2, y3, M => wb_X12_feetOn_4 z1 (wL_X12_feetOn_4 z1 Q n) y2 y3 M Q
set_option maxRecDepth 20000 in
theorem wLk_X12_feetOn_4 {z1 : Int32} {Q : Int32 → wM → Prop} : ∀ (n : Nat) (y2 : Int32) (y3 : Int32) (M : wM), wL_X12_feetOn_4 z1 Q n y2 y3 M → aG 71 (4, [some (.ref 0), some (.int z1), some (.int y2), some (.int y3), none], [], mkM M) (aPi mkM Q)
  | 0, _, _, _, h => h.elim
  | n + 1, y2, y3, M, h => wbk_X12_feetOn_4 (fun y2 y3 M h => wLk_X12_feetOn_4 n y2 y3 M h) h
def w_X12_feetOn (x1 : Int32) (M : wM) (Q : Int32 → wM → Prop) : Prop := ∃ n, wL_X12_feetOn_4 x1 Q n (nI 0) (nI 0) M
set_option maxRecDepth 20000 in
theorem wk_X12_feetOn {x1 : Int32} {M : wM} {Q : Int32 → wM → Prop} (h : w_X12_feetOn x1 M Q) : aG 71 (aEn 71 [(.ref 0), (.int x1)] (mkM M)) (aPi mkM Q) := by
  unfold w_X12_feetOn at h
  refine aG_n 4 (s' := (4, [some (.ref 0), some (.int x1), some (.int (nI 0)), some (.int (nI 0)), none], [], mkM M)) rfl ?_
  refine aG_le (a := [some (.ref 0), some (.int x1), some (.int (nI 0)), some (.int (nI 0)), none]) ⟨rfl, ⟨rfl, ⟨rfl, ⟨rfl, trivial⟩⟩⟩⟩ ?_
  obtain ⟨n, h⟩ := h
  exact wLk_X12_feetOn_4 n _ _ _ h
def wb_X12_joined_5 (z1 : Nat) (z2 : Int32) (K5 : Int32 → Int32 → wM → Prop) (y3 : Int32) (y4 : Int32) (M : wM) (Q : Int32 → wM → Prop) : Prop := ((gi M 0 41) ≤ y4 → Q y3 M) ∧ (¬ (gi M 0 41) ≤ y4 → vp_in (((nI 8) * z2) + y4) (lnM z1) ∧ (((gi M z1 (((nI 8) * z2) + y4).toNatClampNeg) = (nI 0) → K5 (y3 ||| (nI 0)) (y4 + (nI 1)) M) ∧ (¬ (gi M z1 (((nI 8) * z2) + y4).toNatClampNeg) = (nI 0) → K5 (y3 ||| (jshl (nI 1) y4)) (y4 + (nI 1)) M)))
set_option maxRecDepth 20000 in
theorem wbk_X12_joined_5 {z1 : Nat} {z2 : Int32} {K5 : Int32 → Int32 → wM → Prop} {y3 : Int32} {y4 : Int32} {M : wM} {Q : Int32 → wM → Prop} (hz1 : iaM z1) (hK5 : ∀ (v3 : Int32) (v4 : Int32) (M : wM), K5 v3 v4 M → aG 72 (5, [some (.ref 0), some (.ref z1), some (.int z2), some (.int v3), some (.int v4)], [], mkM M) (aPi mkM Q)) (h : wb_X12_joined_5 z1 z2 K5 y3 y4 M Q) : aG 72 (5, [some (.ref 0), some (.ref z1), some (.int z2), some (.int y3), some (.int y4)], [], mkM M) (aPi mkM Q) := by
  unfold wb_X12_joined_5 at h
  refine aG_n 3 (s' := (11, [some (.ref 0), some (.ref z1), some (.int z2), some (.int y3), some (.int y4)], [(.int (gi M 0 41)), (.int y4)], mkM M)) rfl ?_
  obtain ⟨h1, h2⟩ := h
  by_cases q1 : (gi M 0 41) ≤ y4
  · have h := h1 q1
    refine aG_icmp (cd := .ge) (b := true) (decide_eq_true q1) rfl ?_
    refine aG_n 1 (s' := (44, [some (.ref 0), some (.ref z1), some (.int z2), some (.int y3), some (.int y4)], [(.int y3)], mkM M)) rfl ?_
    exact aG_ret0 rfl rfl ⟨_, _, rfl, h⟩
  · have h := h2 q1
    refine aG_icmp (cd := .ge) (b := false) (decide_eq_false q1) rfl ?_
    refine aG_n 7 (s' := (23, [some (.ref 0), some (.ref z1), some (.int z2), some (.int y3), some (.int y4)], [(.int (((nI 8) * z2) + y4)), (.ref z1), (.int y3)], mkM M)) rfl ?_
    obtain ⟨f2, h⟩ := h
    refine aG_iald rfl hz1 rfl f2 ?_
    refine aG_n 0 (s' := (24, [some (.ref 0), some (.ref z1), some (.int z2), some (.int y3), some (.int y4)], [(.int (gi M z1 (((nI 8) * z2) + y4).toNatClampNeg)), (.int y3)], mkM M)) rfl ?_
    obtain ⟨h1, h2⟩ := h
    by_cases q3 : (gi M z1 (((nI 8) * z2) + y4).toNatClampNeg) = (nI 0)
    · have h := h1 q3
      refine aG_if (cd := .eq) (b := true) (decide_eq_true q3) rfl ?_
      refine aG_n 5 (s' := (5, [some (.ref 0), some (.ref z1), some (.int z2), some (.int (y3 ||| (nI 0))), some (.int (y4 + (nI 1)))], [], mkM M)) rfl ?_
      refine aG_le (a := [some (.ref 0), some (.ref z1), some (.int z2), some (.int (y3 ||| (nI 0))), some (.int (y4 + (nI 1)))]) ⟨rfl, ⟨rfl, ⟨rfl, ⟨rfl, ⟨rfl, trivial⟩⟩⟩⟩⟩ ?_
      exact hK5 _ _ _ h
    · have h := h2 q3
      refine aG_if (cd := .eq) (b := false) (decide_eq_false q3) rfl ?_
      refine aG_n 8 (s' := (5, [some (.ref 0), some (.ref z1), some (.int z2), some (.int (y3 ||| (jshl (nI 1) y4))), some (.int (y4 + (nI 1)))], [], mkM M)) rfl ?_
      refine aG_le (a := [some (.ref 0), some (.ref z1), some (.int z2), some (.int (y3 ||| (jshl (nI 1) y4))), some (.int (y4 + (nI 1)))]) ⟨rfl, ⟨rfl, ⟨rfl, ⟨rfl, ⟨rfl, trivial⟩⟩⟩⟩⟩ ?_
      exact hK5 _ _ _ h
def wL_X12_joined_5 (z1 : Nat) (z2 : Int32) (Q : Int32 → wM → Prop) : Nat → Int32 → Int32 → wM → Prop
  | 0, _, _, _ => False
  | n + 1, y3, y4, M => wb_X12_joined_5 z1 z2 (wL_X12_joined_5 z1 z2 Q n) y3 y4 M Q
set_option maxRecDepth 20000 in
theorem wLk_X12_joined_5 {z1 : Nat} {z2 : Int32} {Q : Int32 → wM → Prop} (hz1 : iaM z1) : ∀ (n : Nat) (y3 : Int32) (y4 : Int32) (M : wM), wL_X12_joined_5 z1 z2 Q n y3 y4 M → aG 72 (5, [some (.ref 0), some (.ref z1), some (.int z2), some (.int y3), some (.int y4)], [], mkM M) (aPi mkM Q)
  | 0, _, _, _, h => h.elim
  | n + 1, y3, y4, M, h => wbk_X12_joined_5 hz1 (fun y3 y4 M h => wLk_X12_joined_5 hz1 n y3 y4 M h) h
def w_X12_joined (x1 : Nat) (x2 : Int32) (M : wM) (Q : Int32 → wM → Prop) : Prop := iaM x1 ∧ (∃ n, wL_X12_joined_5 x1 x2 Q n (nI 0) (nI 0) M)
set_option maxRecDepth 20000 in
theorem wk_X12_joined {x1 : Nat} {x2 : Int32} {M : wM} {Q : Int32 → wM → Prop} (h : w_X12_joined x1 x2 M Q) : aG 72 (aEn 72 [(.ref 0), (.ref x1), (.int x2)] (mkM M)) (aPi mkM Q) := by
  unfold w_X12_joined at h
  obtain ⟨hx1, h⟩ := h
  refine aG_n 4 (s' := (5, [some (.ref 0), some (.ref x1), some (.int x2), some (.int (nI 0)), some (.int (nI 0))], [], mkM M)) rfl ?_
  refine aG_le (a := [some (.ref 0), some (.ref x1), some (.int x2), some (.int (nI 0)), some (.int (nI 0))]) ⟨rfl, ⟨rfl, ⟨rfl, ⟨rfl, ⟨rfl, trivial⟩⟩⟩⟩⟩ ?_
  obtain ⟨n, h⟩ := h
  exact wLk_X12_joined_5 hx1 n _ _ _ h
def w_X12_levelBy (x0 : Int32) (x1 : Int32) (x2 : Int32) (M : wM) (Q : Int32 → wM → Prop) : Prop := (x1 ≤ (nI 1) → (x1 = (nI 0) → ((x2 &&& x0) = x0 → Q (nI 1) M) ∧ (¬ (x2 &&& x0) = x0 → Q (nI 0) M)) ∧ (¬ x1 = (nI 0) → ((x2 &&& x0) = (nI 0) → Q (nI 0) M) ∧ (¬ (x2 &&& x0) = (nI 0) → Q (nI 1) M))) ∧ (¬ x1 ≤ (nI 1) → Q (x1 - (nI 2)) M)
set_option maxRecDepth 20000 in
theorem wk_X12_levelBy {x0 : Int32} {x1 : Int32} {x2 : Int32} {M : wM} {Q : Int32 → wM → Prop} (h : w_X12_levelBy x0 x1 x2 M Q) : aG 73 (aEn 73 [(.int x0), (.int x1), (.int x2)] (mkM M)) (aPi mkM Q) := by
  unfold w_X12_levelBy at h
  refine aG_n 2 (s' := (2, [some (.int x0), some (.int x1), some (.int x2)], [(.int (nI 1)), (.int x1)], mkM M)) rfl ?_
  obtain ⟨h1, h2⟩ := h
  by_cases q1 : x1 ≤ (nI 1)
  · have h := h1 q1
    refine aG_icmp (cd := .le) (b := true) (decide_eq_true q1) rfl ?_
    refine aG_n 1 (s' := (12, [some (.int x0), some (.int x1), some (.int x2)], [(.int x1)], mkM M)) rfl ?_
    obtain ⟨h1, h2⟩ := h
    by_cases q2 : x1 = (nI 0)
    · have h := h1 q2
      refine aG_if (cd := .ne) (b := false) (aTne0 q2) rfl ?_
      refine aG_n 4 (s' := (19, [some (.int x0), some (.int x1), some (.int x2)], [(.int x0), (.int (x2 &&& x0))], mkM M)) rfl ?_
      obtain ⟨h1, h2⟩ := h
      by_cases q3 : (x2 &&& x0) = x0
      · have h := h1 q3
        refine aG_icmp (cd := .ne) (b := false) (aTne0 q3) rfl ?_
        refine aG_n 2 (s' := (41, [some (.int x0), some (.int x1), some (.int x2)], [(.int (nI 1))], mkM M)) rfl ?_
        exact aG_ret0 rfl rfl ⟨_, _, rfl, h⟩
      · have h := h2 q3
        refine aG_icmp (cd := .ne) (b := true) (aTne1 q3) rfl ?_
        refine aG_n 2 (s' := (41, [some (.int x0), some (.int x1), some (.int x2)], [(.int (nI 0))], mkM M)) rfl ?_
        exact aG_ret0 rfl rfl ⟨_, _, rfl, h⟩
    · have h := h2 q2
      refine aG_if (cd := .ne) (b := true) (aTne1 q2) rfl ?_
      refine aG_n 3 (s' := (33, [some (.int x0), some (.int x1), some (.int x2)], [(.int (x2 &&& x0))], mkM M)) rfl ?_
      obtain ⟨h1, h2⟩ := h
      by_cases q4 : (x2 &&& x0) = (nI 0)
      · have h := h1 q4
        refine aG_if (cd := .eq) (b := true) (decide_eq_true q4) rfl ?_
        refine aG_n 1 (s' := (41, [some (.int x0), some (.int x1), some (.int x2)], [(.int (nI 0))], mkM M)) rfl ?_
        exact aG_ret0 rfl rfl ⟨_, _, rfl, h⟩
      · have h := h2 q4
        refine aG_if (cd := .eq) (b := false) (decide_eq_false q4) rfl ?_
        refine aG_n 2 (s' := (41, [some (.int x0), some (.int x1), some (.int x2)], [(.int (nI 1))], mkM M)) rfl ?_
        exact aG_ret0 rfl rfl ⟨_, _, rfl, h⟩
  · have h := h2 q1
    refine aG_icmp (cd := .le) (b := false) (decide_eq_false q1) rfl ?_
    refine aG_n 4 (s' := (41, [some (.int x0), some (.int x1), some (.int x2)], [(.int (x1 - (nI 2)))], mkM M)) rfl ?_
    exact aG_ret0 rfl rfl ⟨_, _, rfl, h⟩
def wb_X12_wide_2 (K2 : Int32 → wM → Prop) (y1 : Int32) (M : wM) (Q : Int32 → wM → Prop) : Prop := (((gi M 0 41) + (nI 2)) ≤ (jshl (nI 1) y1) → Q y1 M) ∧ (¬ ((gi M 0 41) + (nI 2)) ≤ (jshl (nI 1) y1) → K2 (y1 + (nI 1)) M)
set_option maxRecDepth 20000 in
theorem wbk_X12_wide_2 {K2 : Int32 → wM → Prop} {y1 : Int32} {M : wM} {Q : Int32 → wM → Prop} (hK2 : ∀ (v1 : Int32) (M : wM), K2 v1 M → aG 74 (2, [some (.ref 0), some (.int v1)], [], mkM M) (aPi mkM Q)) (h : wb_X12_wide_2 K2 y1 M Q) : aG 74 (2, [some (.ref 0), some (.int y1)], [], mkM M) (aPi mkM Q) := by
  unfold wb_X12_wide_2 at h
  refine aG_n 7 (s' := (11, [some (.ref 0), some (.int y1)], [(.int ((gi M 0 41) + (nI 2))), (.int (jshl (nI 1) y1))], mkM M)) rfl ?_
  obtain ⟨h1, h2⟩ := h
  by_cases q1 : ((gi M 0 41) + (nI 2)) ≤ (jshl (nI 1) y1)
  · have h := h1 q1
    refine aG_icmp (cd := .ge) (b := true) (decide_eq_true q1) rfl ?_
    refine aG_n 1 (s' := (21, [some (.ref 0), some (.int y1)], [(.int y1)], mkM M)) rfl ?_
    exact aG_ret0 rfl rfl ⟨_, _, rfl, h⟩
  · have h := h2 q1
    refine aG_icmp (cd := .ge) (b := false) (decide_eq_false q1) rfl ?_
    refine aG_n 2 (s' := (2, [some (.ref 0), some (.int (y1 + (nI 1)))], [], mkM M)) rfl ?_
    refine aG_le (a := [some (.ref 0), some (.int (y1 + (nI 1)))]) ⟨rfl, ⟨rfl, trivial⟩⟩ ?_
    exact hK2 _ _ h
def wL_X12_wide_2 (Q : Int32 → wM → Prop) : Nat → Int32 → wM → Prop
  | 0, _, _ => False
  | n + 1, y1, M => wb_X12_wide_2 (wL_X12_wide_2 Q n) y1 M Q
set_option maxRecDepth 20000 in
theorem wLk_X12_wide_2 {Q : Int32 → wM → Prop} : ∀ (n : Nat) (y1 : Int32) (M : wM), wL_X12_wide_2 Q n y1 M → aG 74 (2, [some (.ref 0), some (.int y1)], [], mkM M) (aPi mkM Q)
  | 0, _, _, h => h.elim
  | n + 1, y1, M, h => wbk_X12_wide_2 (fun y1 M h => wLk_X12_wide_2 n y1 M h) h
def w_X12_wide (M : wM) (Q : Int32 → wM → Prop) : Prop := ∃ n, wL_X12_wide_2 Q n (nI 0) M
set_option maxRecDepth 20000 in
theorem wk_X12_wide {M : wM} {Q : Int32 → wM → Prop} (h : w_X12_wide M Q) : aG 74 (aEn 74 [(.ref 0)] (mkM M)) (aPi mkM Q) := by
  unfold w_X12_wide at h
  refine aG_n 2 (s' := (2, [some (.ref 0), some (.int (nI 0))], [], mkM M)) rfl ?_
  refine aG_le (a := [some (.ref 0), some (.int (nI 0))]) ⟨rfl, ⟨rfl, trivial⟩⟩ ?_
  obtain ⟨n, h⟩ := h
  exact wLk_X12_wide_2 n _ _ h
def w_X12_faults (M : wM) (Q : Int32 → wM → Prop) : Prop := Q (((nI 2) * (gi M 0 41)) + ((gi M 0 41) * ((gi M 0 41) - (nI 1)))) M
set_option maxRecDepth 20000 in
theorem wk_X12_faults {M : wM} {Q : Int32 → wM → Prop} (h : w_X12_faults M Q) : aG 75 (aEn 75 [(.ref 0)] (mkM M)) (aPi mkM Q) := by
  unfold w_X12_faults at h
  refine aG_n 12 (s' := (18, [some (.ref 0)], [(.int (((nI 2) * (gi M 0 41)) + ((gi M 0 41) * ((gi M 0 41) - (nI 1)))))], mkM M)) rfl ?_
  exact aG_ret0 rfl rfl ⟨_, _, rfl, h⟩
def wb_X12_lies_71 (z1 : Int32) (K71 : Int32 → Int32 → wM → Prop) (y2 : Int32) (y3 : Int32) (M : wM) (Q : wM → Prop) : Prop := (y2 < (((gi M 0 41) - (nI 1)) - y3) → vp_in (((nI 8) * y3) + ((y3 + (nI 1)) + y2)) 64 ∧ (vp_in (((nI 8) * y3) + ((y3 + (nI 1)) + y2)) 64 ∧ (vp_in (((nI 8) * ((y3 + (nI 1)) + y2)) + y3) 64 ∧ (vp_in (((nI 8) * ((y3 + (nI 1)) + y2)) + y3) 64 ∧ (Q (si (si M 31 (((nI 8) * y3) + ((y3 + (nI 1)) + y2)).toNatClampNeg ((gi M 31 (((nI 8) * y3) + ((y3 + (nI 1)) + y2)).toNatClampNeg) ||| (jshl (nI 1) (z1 - z1 / (nI 2) * (nI 2))))) 31 (((nI 8) * ((y3 + (nI 1)) + y2)) + y3).toNatClampNeg ((gi (si M 31 (((nI 8) * y3) + ((y3 + (nI 1)) + y2)).toNatClampNeg ((gi M 31 (((nI 8) * y3) + ((y3 + (nI 1)) + y2)).toNatClampNeg) ||| (jshl (nI 1) (z1 - z1 / (nI 2) * (nI 2))))) 31 (((nI 8) * ((y3 + (nI 1)) + y2)) + y3).toNatClampNeg) ||| (jshl (nI 1) (z1 - z1 / (nI 2) * (nI 2)))))))))) ∧ (¬ y2 < (((gi M 0 41) - (nI 1)) - y3) → K71 (y2 - (((gi M 0 41) - (nI 1)) - y3)) (y3 + (nI 1)) M)
set_option maxRecDepth 20000 in
theorem wbk_X12_lies_71 {z1 : Int32} {K71 : Int32 → Int32 → wM → Prop} {y2 : Int32} {y3 : Int32} {M : wM} {Q : wM → Prop} (hK71 : ∀ (v2 : Int32) (v3 : Int32) (M : wM), K71 v2 v3 M → aG 76 (71, [some (.ref 0), some (.int z1), some (.int v2), some (.int v3), none], [], mkM M) (aPv mkM Q)) (h : wb_X12_lies_71 z1 K71 y2 y3 M Q) : aG 76 (71, [some (.ref 0), some (.int z1), some (.int y2), some (.int y3), none], [], mkM M) (aPv mkM Q) := by
  unfold wb_X12_lies_71 at h
  refine aG_n 7 (s' := (80, [some (.ref 0), some (.int z1), some (.int y2), some (.int y3), none], [(.int (((gi M 0 41) - (nI 1)) - y3)), (.int y2)], mkM M)) rfl ?_
  obtain ⟨h1, h2⟩ := h
  by_cases q2 : y2 < (((gi M 0 41) - (nI 1)) - y3)
  · have h := h1 q2
    refine aG_icmp (cd := .lt) (b := true) (decide_eq_true q2) rfl ?_
    refine aG_n 14 (s' := (119, [some (.ref 0), some (.int z1), some (.int y2), some (.int y3), some (.int ((y3 + (nI 1)) + y2))], [(.int (((nI 8) * y3) + ((y3 + (nI 1)) + y2))), (.ref 31), (.int (((nI 8) * y3) + ((y3 + (nI 1)) + y2))), (.ref 31)], mkM M)) rfl ?_
    obtain ⟨f3, h⟩ := h
    refine aG_iald rfl rfl rfl f3 ?_
    refine aG_n 3 (s' := (123, [some (.ref 0), some (.int z1), some (.int y2), some (.int y3), some (.int ((y3 + (nI 1)) + y2))], [(.int (nI 2)), (.int z1), (.int (nI 1)), (.int (gi M 31 (((nI 8) * y3) + ((y3 + (nI 1)) + y2)).toNatClampNeg)), (.int (((nI 8) * y3) + ((y3 + (nI 1)) + y2))), (.ref 31)], mkM M)) rfl ?_
    refine aG_rem rfl (by decide) ?_
    refine aG_n 2 (s' := (126, [some (.ref 0), some (.int z1), some (.int y2), some (.int y3), some (.int ((y3 + (nI 1)) + y2))], [(.int ((gi M 31 (((nI 8) * y3) + ((y3 + (nI 1)) + y2)).toNatClampNeg) ||| (jshl (nI 1) (z1 - z1 / (nI 2) * (nI 2))))), (.int (((nI 8) * y3) + ((y3 + (nI 1)) + y2))), (.ref 31)], mkM M)) rfl ?_
    obtain ⟨f4, h⟩ := h
    refine aG_iast rfl rfl f4 ?_
    refine aG_n 8 (s' := (139, [some (.ref 0), some (.int z1), some (.int y2), some (.int y3), some (.int ((y3 + (nI 1)) + y2))], [(.int (((nI 8) * ((y3 + (nI 1)) + y2)) + y3)), (.ref 31), (.int (((nI 8) * ((y3 + (nI 1)) + y2)) + y3)), (.ref 31)], mkM (si M 31 (((nI 8) * y3) + ((y3 + (nI 1)) + y2)).toNatClampNeg ((gi M 31 (((nI 8) * y3) + ((y3 + (nI 1)) + y2)).toNatClampNeg) ||| (jshl (nI 1) (z1 - z1 / (nI 2) * (nI 2))))))) rfl ?_
    obtain ⟨f5, h⟩ := h
    refine aG_iald rfl rfl rfl f5 ?_
    refine aG_n 3 (s' := (143, [some (.ref 0), some (.int z1), some (.int y2), some (.int y3), some (.int ((y3 + (nI 1)) + y2))], [(.int (nI 2)), (.int z1), (.int (nI 1)), (.int (gi (si M 31 (((nI 8) * y3) + ((y3 + (nI 1)) + y2)).toNatClampNeg ((gi M 31 (((nI 8) * y3) + ((y3 + (nI 1)) + y2)).toNatClampNeg) ||| (jshl (nI 1) (z1 - z1 / (nI 2) * (nI 2))))) 31 (((nI 8) * ((y3 + (nI 1)) + y2)) + y3).toNatClampNeg)), (.int (((nI 8) * ((y3 + (nI 1)) + y2)) + y3)), (.ref 31)], mkM (si M 31 (((nI 8) * y3) + ((y3 + (nI 1)) + y2)).toNatClampNeg ((gi M 31 (((nI 8) * y3) + ((y3 + (nI 1)) + y2)).toNatClampNeg) ||| (jshl (nI 1) (z1 - z1 / (nI 2) * (nI 2))))))) rfl ?_
    refine aG_rem rfl (by decide) ?_
    refine aG_n 2 (s' := (146, [some (.ref 0), some (.int z1), some (.int y2), some (.int y3), some (.int ((y3 + (nI 1)) + y2))], [(.int ((gi (si M 31 (((nI 8) * y3) + ((y3 + (nI 1)) + y2)).toNatClampNeg ((gi M 31 (((nI 8) * y3) + ((y3 + (nI 1)) + y2)).toNatClampNeg) ||| (jshl (nI 1) (z1 - z1 / (nI 2) * (nI 2))))) 31 (((nI 8) * ((y3 + (nI 1)) + y2)) + y3).toNatClampNeg) ||| (jshl (nI 1) (z1 - z1 / (nI 2) * (nI 2))))), (.int (((nI 8) * ((y3 + (nI 1)) + y2)) + y3)), (.ref 31)], mkM (si M 31 (((nI 8) * y3) + ((y3 + (nI 1)) + y2)).toNatClampNeg ((gi M 31 (((nI 8) * y3) + ((y3 + (nI 1)) + y2)).toNatClampNeg) ||| (jshl (nI 1) (z1 - z1 / (nI 2) * (nI 2))))))) rfl ?_
    obtain ⟨f6, h⟩ := h
    refine aG_iast rfl rfl f6 ?_
    refine aG_n 0 (s' := (147, [some (.ref 0), some (.int z1), some (.int y2), some (.int y3), some (.int ((y3 + (nI 1)) + y2))], [], mkM (si (si M 31 (((nI 8) * y3) + ((y3 + (nI 1)) + y2)).toNatClampNeg ((gi M 31 (((nI 8) * y3) + ((y3 + (nI 1)) + y2)).toNatClampNeg) ||| (jshl (nI 1) (z1 - z1 / (nI 2) * (nI 2))))) 31 (((nI 8) * ((y3 + (nI 1)) + y2)) + y3).toNatClampNeg ((gi (si M 31 (((nI 8) * y3) + ((y3 + (nI 1)) + y2)).toNatClampNeg ((gi M 31 (((nI 8) * y3) + ((y3 + (nI 1)) + y2)).toNatClampNeg) ||| (jshl (nI 1) (z1 - z1 / (nI 2) * (nI 2))))) 31 (((nI 8) * ((y3 + (nI 1)) + y2)) + y3).toNatClampNeg) ||| (jshl (nI 1) (z1 - z1 / (nI 2) * (nI 2))))))) rfl ?_
    exact aG_retV rfl rfl ⟨_, rfl, h⟩
  · have h := h2 q2
    refine aG_icmp (cd := .lt) (b := false) (decide_eq_false q2) rfl ?_
    refine aG_n 11 (s' := (71, [some (.ref 0), some (.int z1), some (.int (y2 - (((gi M 0 41) - (nI 1)) - y3))), some (.int (y3 + (nI 1))), none], [], mkM M)) rfl ?_
    refine aG_le (a := [some (.ref 0), some (.int z1), some (.int (y2 - (((gi M 0 41) - (nI 1)) - y3))), some (.int (y3 + (nI 1))), none]) ⟨rfl, ⟨rfl, ⟨rfl, ⟨rfl, trivial⟩⟩⟩⟩ ?_
    exact hK71 _ _ _ h
def wL_X12_lies_71 (z1 : Int32) (Q : wM → Prop) : Nat → Int32 → Int32 → wM → Prop
  | 0, _, _, _ => False
  | n + 1, y2, y3, M => wb_X12_lies_71 z1 (wL_X12_lies_71 z1 Q n) y2 y3 M Q
set_option maxRecDepth 20000 in
theorem wLk_X12_lies_71 {z1 : Int32} {Q : wM → Prop} : ∀ (n : Nat) (y2 : Int32) (y3 : Int32) (M : wM), wL_X12_lies_71 z1 Q n y2 y3 M → aG 76 (71, [some (.ref 0), some (.int z1), some (.int y2), some (.int y3), none], [], mkM M) (aPv mkM Q)
  | 0, _, _, _, h => h.elim
  | n + 1, y2, y3, M, h => wbk_X12_lies_71 (fun y2 y3 M h => wLk_X12_lies_71 n y2 y3 M h) h
def wj_X12_lies_37 (z1 : Int32) (z2 : Int32) (s1 : Int32) (s2 : Int32) (M : wM) (Q : wM → Prop) : Prop := vp_in s1 8 ∧ (vp_in z2 8 ∧ (((gi (si M 32 s1.toNatClampNeg s2) 32 z2.toNatClampNeg) = (z1 - z1 / (nI 2) * (nI 2)) → Q (si M 32 s1.toNatClampNeg s2)) ∧ (¬ (gi (si M 32 s1.toNatClampNeg s2) 32 z2.toNatClampNeg) = (z1 - z1 / (nI 2) * (nI 2)) → vp_in z2 8 ∧ (Q (si (si M 32 s1.toNatClampNeg s2) 32 z2.toNatClampNeg (nI 0))))))
set_option maxRecDepth 20000 in
theorem wjk_X12_lies_37 {z1 : Int32} {z2 : Int32} {s1 : Int32} {s2 : Int32} {M : wM} {Q : wM → Prop} (h : wj_X12_lies_37 z1 z2 s1 s2 M Q) : aG 76 (37, [some (.ref 0), some (.int z1), some (.int z2), none, none], [(.int s2), (.int s1), (.ref 32)], mkM M) (aPv mkM Q) := by
  unfold wj_X12_lies_37 at h
  obtain ⟨f9, h⟩ := h
  refine aG_iast rfl rfl f9 ?_
  refine aG_n 3 (s' := (43, [some (.ref 0), some (.int z1), some (.int z2), none, none], [(.int z2), (.ref 32)], mkM (si M 32 s1.toNatClampNeg s2))) rfl ?_
  obtain ⟨f10, h⟩ := h
  refine aG_iald rfl rfl rfl f10 ?_
  refine aG_n 2 (s' := (46, [some (.ref 0), some (.int z1), some (.int z2), none, none], [(.int (nI 2)), (.int z1), (.int (gi (si M 32 s1.toNatClampNeg s2) 32 z2.toNatClampNeg))], mkM (si M 32 s1.toNatClampNeg s2))) rfl ?_
  refine aG_rem rfl (by decide) ?_
  refine aG_n 0 (s' := (47, [some (.ref 0), some (.int z1), some (.int z2), none, none], [(.int (z1 - z1 / (nI 2) * (nI 2))), (.int (gi (si M 32 s1.toNatClampNeg s2) 32 z2.toNatClampNeg))], mkM (si M 32 s1.toNatClampNeg s2))) rfl ?_
  obtain ⟨h1, h2⟩ := h
  by_cases q11 : (gi (si M 32 s1.toNatClampNeg s2) 32 z2.toNatClampNeg) = (z1 - z1 / (nI 2) * (nI 2))
  · have h := h1 q11
    refine aG_icmp (cd := .eq) (b := true) (decide_eq_true q11) rfl ?_
    refine aG_n 0 (s' := (57, [some (.ref 0), some (.int z1), some (.int z2), none, none], [], mkM (si M 32 s1.toNatClampNeg s2))) rfl ?_
    exact aG_retV rfl rfl ⟨_, rfl, h⟩
  · have h := h2 q11
    refine aG_icmp (cd := .eq) (b := false) (decide_eq_false q11) rfl ?_
    refine aG_n 4 (s' := (56, [some (.ref 0), some (.int z1), some (.int z2), none, none], [(.int (nI 0)), (.int z2), (.ref 32)], mkM (si M 32 s1.toNatClampNeg s2))) rfl ?_
    obtain ⟨f12, h⟩ := h
    refine aG_iast rfl rfl f12 ?_
    refine aG_n 0 (s' := (57, [some (.ref 0), some (.int z1), some (.int z2), none, none], [], mkM (si (si M 32 s1.toNatClampNeg s2) 32 z2.toNatClampNeg (nI 0)))) rfl ?_
    exact aG_retV rfl rfl ⟨_, rfl, h⟩
def w_X12_lies (x1 : Int32) (M : wM) (Q : wM → Prop) : Prop := (((nI 2) * (gi M 0 41)) ≤ x1 → ∃ n, wL_X12_lies_71 x1 Q n ((x1 - ((nI 2) * (gi M 0 41))) / (nI 2)) (nI 0) M) ∧ (¬ ((nI 2) * (gi M 0 41)) ≤ x1 → vp_in (x1 / (nI 2)) 8 ∧ (((gi M 32 (x1 / (nI 2)).toNatClampNeg) = (-4) → wj_X12_lies_37 x1 (x1 / (nI 2)) (x1 / (nI 2)) (x1 - x1 / (nI 2) * (nI 2)) M Q) ∧ (¬ (gi M 32 (x1 / (nI 2)).toNatClampNeg) = (-4) → wj_X12_lies_37 x1 (x1 / (nI 2)) (x1 / (nI 2)) (nI 0) M Q)))
set_option maxRecDepth 20000 in
theorem wk_X12_lies {x1 : Int32} {M : wM} {Q : wM → Prop} (h : w_X12_lies x1 M Q) : aG 76 (aEn 76 [(.ref 0), (.int x1)] (mkM M)) (aPv mkM Q) := by
  unfold w_X12_lies at h
  refine aG_n 5 (s' := (7, [some (.ref 0), some (.int x1), none, none, none], [(.int ((nI 2) * (gi M 0 41))), (.int x1)], mkM M)) rfl ?_
  obtain ⟨h1, h2⟩ := h
  by_cases q1 : ((nI 2) * (gi M 0 41)) ≤ x1
  · have h := h1 q1
    refine aG_icmp (cd := .ge) (b := true) (decide_eq_true q1) rfl ?_
    refine aG_n 7 (s' := (67, [some (.ref 0), some (.int x1), none, none, none], [(.int (nI 2)), (.int (x1 - ((nI 2) * (gi M 0 41))))], mkM M)) rfl ?_
    refine aG_div rfl (by decide) ?_
    refine aG_n 3 (s' := (71, [some (.ref 0), some (.int x1), some (.int ((x1 - ((nI 2) * (gi M 0 41))) / (nI 2))), some (.int (nI 0)), none], [], mkM M)) rfl ?_
    refine aG_le (a := [some (.ref 0), some (.int x1), some (.int ((x1 - ((nI 2) * (gi M 0 41))) / (nI 2))), some (.int (nI 0)), none]) ⟨rfl, ⟨rfl, ⟨rfl, ⟨rfl, trivial⟩⟩⟩⟩ ?_
    obtain ⟨n, h⟩ := h
    exact wLk_X12_lies_71 n _ _ _ h
  · have h := h2 q1
    refine aG_icmp (cd := .ge) (b := false) (decide_eq_false q1) rfl ?_
    refine aG_n 2 (s' := (12, [some (.ref 0), some (.int x1), none, none, none], [(.int (nI 2)), (.int x1)], mkM M)) rfl ?_
    refine aG_div rfl (by decide) ?_
    refine aG_n 7 (s' := (24, [some (.ref 0), some (.int x1), some (.int (x1 / (nI 2))), none, none], [(.int (x1 / (nI 2))), (.ref 32), (.int (x1 / (nI 2))), (.ref 32)], mkM M)) rfl ?_
    obtain ⟨f7, h⟩ := h
    refine aG_iald rfl rfl rfl f7 ?_
    refine aG_n 1 (s' := (27, [some (.ref 0), some (.int x1), some (.int (x1 / (nI 2))), none, none], [(.int (-4)), (.int (gi M 32 (x1 / (nI 2)).toNatClampNeg)), (.int (x1 / (nI 2))), (.ref 32)], mkM M)) rfl ?_
    obtain ⟨h1, h2⟩ := h
    by_cases q8 : (gi M 32 (x1 / (nI 2)).toNatClampNeg) = (-4)
    · have h := h1 q8
      refine aG_icmp (cd := .ne) (b := false) (aTne0 q8) rfl ?_
      refine aG_n 2 (s' := (32, [some (.ref 0), some (.int x1), some (.int (x1 / (nI 2))), none, none], [(.int (nI 2)), (.int x1), (.int (x1 / (nI 2))), (.ref 32)], mkM M)) rfl ?_
      refine aG_rem rfl (by decide) ?_
      refine aG_n 1 (s' := (37, [some (.ref 0), some (.int x1), some (.int (x1 / (nI 2))), none, none], [(.int (x1 - x1 / (nI 2) * (nI 2))), (.int (x1 / (nI 2))), (.ref 32)], mkM M)) rfl ?_
      refine aG_le (a := [some (.ref 0), some (.int x1), some (.int (x1 / (nI 2))), none, none]) ⟨rfl, ⟨rfl, ⟨rfl, trivial⟩⟩⟩ ?_
      exact wjk_X12_lies_37 h
    · have h := h2 q8
      refine aG_icmp (cd := .ne) (b := true) (aTne1 q8) rfl ?_
      refine aG_n 1 (s' := (37, [some (.ref 0), some (.int x1), some (.int (x1 / (nI 2))), none, none], [(.int (nI 0)), (.int (x1 / (nI 2))), (.ref 32)], mkM M)) rfl ?_
      refine aG_le (a := [some (.ref 0), some (.int x1), some (.int (x1 / (nI 2))), none, none]) ⟨rfl, ⟨rfl, ⟨rfl, trivial⟩⟩⟩ ?_
      exact wjk_X12_lies_37 h
def wb_X12_lengths_4 (K4 : Int32 → Int32 → wM → Prop) (y1 : Int32) (y2 : Int32) (M : wM) (Q : Int32 → wM → Prop) : Prop := ((gi M 0 22) ≤ y2 → Q y1 M) ∧ (¬ (gi M 0 22) ≤ y2 → vp_in y2 6 ∧ (vp_in (gi M 14 y2.toNatClampNeg) 6 ∧ (K4 (y1 + (gi M 1 (gi M 14 y2.toNatClampNeg).toNatClampNeg)) (y2 + (nI 1)) M)))
set_option maxRecDepth 20000 in
theorem wbk_X12_lengths_4 {K4 : Int32 → Int32 → wM → Prop} {y1 : Int32} {y2 : Int32} {M : wM} {Q : Int32 → wM → Prop} (hK4 : ∀ (v1 : Int32) (v2 : Int32) (M : wM), K4 v1 v2 M → aG 77 (4, [some (.ref 0), some (.int v1), some (.int v2)], [], mkM M) (aPi mkM Q)) (h : wb_X12_lengths_4 K4 y1 y2 M Q) : aG 77 (4, [some (.ref 0), some (.int y1), some (.int y2)], [], mkM M) (aPi mkM Q) := by
  unfold wb_X12_lengths_4 at h
  refine aG_n 3 (s' := (9, [some (.ref 0), some (.int y1), some (.int y2)], [(.int (gi M 0 22)), (.int y2)], mkM M)) rfl ?_
  obtain ⟨h1, h2⟩ := h
  by_cases q1 : (gi M 0 22) ≤ y2
  · have h := h1 q1
    refine aG_icmp (cd := .ge) (b := true) (decide_eq_true q1) rfl ?_
    refine aG_n 1 (s' := (33, [some (.ref 0), some (.int y1), some (.int y2)], [(.int y1)], mkM M)) rfl ?_
    exact aG_ret0 rfl rfl ⟨_, _, rfl, h⟩
  · have h := h2 q1
    refine aG_icmp (cd := .ge) (b := false) (decide_eq_false q1) rfl ?_
    refine aG_n 6 (s' := (22, [some (.ref 0), some (.int y1), some (.int y2)], [(.int y2), (.ref 14), (.ref 1), (.int y1)], mkM M)) rfl ?_
    obtain ⟨f2, h⟩ := h
    refine aG_iald rfl rfl rfl f2 ?_
    refine aG_n 0 (s' := (23, [some (.ref 0), some (.int y1), some (.int y2)], [(.int (gi M 14 y2.toNatClampNeg)), (.ref 1), (.int y1)], mkM M)) rfl ?_
    obtain ⟨f3, h⟩ := h
    refine aG_iald rfl rfl rfl f3 ?_
    refine aG_n 4 (s' := (4, [some (.ref 0), some (.int (y1 + (gi M 1 (gi M 14 y2.toNatClampNeg).toNatClampNeg))), some (.int (y2 + (nI 1)))], [], mkM M)) rfl ?_
    refine aG_le (a := [some (.ref 0), some (.int (y1 + (gi M 1 (gi M 14 y2.toNatClampNeg).toNatClampNeg))), some (.int (y2 + (nI 1)))]) ⟨rfl, ⟨rfl, ⟨rfl, trivial⟩⟩⟩ ?_
    exact hK4 _ _ _ h
def wL_X12_lengths_4 (Q : Int32 → wM → Prop) : Nat → Int32 → Int32 → wM → Prop
  | 0, _, _, _ => False
  | n + 1, y1, y2, M => wb_X12_lengths_4 (wL_X12_lengths_4 Q n) y1 y2 M Q
set_option maxRecDepth 20000 in
theorem wLk_X12_lengths_4 {Q : Int32 → wM → Prop} : ∀ (n : Nat) (y1 : Int32) (y2 : Int32) (M : wM), wL_X12_lengths_4 Q n y1 y2 M → aG 77 (4, [some (.ref 0), some (.int y1), some (.int y2)], [], mkM M) (aPi mkM Q)
  | 0, _, _, _, h => h.elim
  | n + 1, y1, y2, M, h => wbk_X12_lengths_4 (fun y1 y2 M h => wLk_X12_lengths_4 n y1 y2 M h) h
def w_X12_lengths (M : wM) (Q : Int32 → wM → Prop) : Prop := ∃ n, wL_X12_lengths_4 Q n (nI 0) (nI 0) M
set_option maxRecDepth 20000 in
theorem wk_X12_lengths {M : wM} {Q : Int32 → wM → Prop} (h : w_X12_lengths M Q) : aG 77 (aEn 77 [(.ref 0)] (mkM M)) (aPi mkM Q) := by
  unfold w_X12_lengths at h
  refine aG_n 4 (s' := (4, [some (.ref 0), some (.int (nI 0)), some (.int (nI 0))], [], mkM M)) rfl ?_
  refine aG_le (a := [some (.ref 0), some (.int (nI 0)), some (.int (nI 0))]) ⟨rfl, ⟨rfl, ⟨rfl, trivial⟩⟩⟩ ?_
  obtain ⟨n, h⟩ := h
  exact wLk_X12_lengths_4 n _ _ _ h
def w_J6_bitCount_0f7a4 (x0 : Int32) (M : wM) (Q : Int32 → wM → Prop) : Prop := Q ((((((((x0 - ((jushr x0 (nI 1)) &&& (nI 1431655765))) &&& (nI 858993459)) + ((jushr (x0 - ((jushr x0 (nI 1)) &&& (nI 1431655765))) (nI 2)) &&& (nI 858993459))) + (jushr (((x0 - ((jushr x0 (nI 1)) &&& (nI 1431655765))) &&& (nI 858993459)) + ((jushr (x0 - ((jushr x0 (nI 1)) &&& (nI 1431655765))) (nI 2)) &&& (nI 858993459))) (nI 4))) &&& (nI 252645135)) + (jushr (((((x0 - ((jushr x0 (nI 1)) &&& (nI 1431655765))) &&& (nI 858993459)) + ((jushr (x0 - ((jushr x0 (nI 1)) &&& (nI 1431655765))) (nI 2)) &&& (nI 858993459))) + (jushr (((x0 - ((jushr x0 (nI 1)) &&& (nI 1431655765))) &&& (nI 858993459)) + ((jushr (x0 - ((jushr x0 (nI 1)) &&& (nI 1431655765))) (nI 2)) &&& (nI 858993459))) (nI 4))) &&& (nI 252645135)) (nI 8))) + (jushr ((((((x0 - ((jushr x0 (nI 1)) &&& (nI 1431655765))) &&& (nI 858993459)) + ((jushr (x0 - ((jushr x0 (nI 1)) &&& (nI 1431655765))) (nI 2)) &&& (nI 858993459))) + (jushr (((x0 - ((jushr x0 (nI 1)) &&& (nI 1431655765))) &&& (nI 858993459)) + ((jushr (x0 - ((jushr x0 (nI 1)) &&& (nI 1431655765))) (nI 2)) &&& (nI 858993459))) (nI 4))) &&& (nI 252645135)) + (jushr (((((x0 - ((jushr x0 (nI 1)) &&& (nI 1431655765))) &&& (nI 858993459)) + ((jushr (x0 - ((jushr x0 (nI 1)) &&& (nI 1431655765))) (nI 2)) &&& (nI 858993459))) + (jushr (((x0 - ((jushr x0 (nI 1)) &&& (nI 1431655765))) &&& (nI 858993459)) + ((jushr (x0 - ((jushr x0 (nI 1)) &&& (nI 1431655765))) (nI 2)) &&& (nI 858993459))) (nI 4))) &&& (nI 252645135)) (nI 8))) (nI 16))) &&& (nI 63)) M
set_option maxRecDepth 20000 in
theorem wk_J6_bitCount_0f7a4 {x0 : Int32} {M : wM} {Q : Int32 → wM → Prop} (h : w_J6_bitCount_0f7a4 x0 M Q) : aG 78 (aEn 78 [(.int x0)] (mkX M)) (aPi mkX Q) := by
  unfold w_J6_bitCount_0f7a4 at h
  refine aG_n 41 (s' := (52, [some (.int (((((((x0 - ((jushr x0 (nI 1)) &&& (nI 1431655765))) &&& (nI 858993459)) + ((jushr (x0 - ((jushr x0 (nI 1)) &&& (nI 1431655765))) (nI 2)) &&& (nI 858993459))) + (jushr (((x0 - ((jushr x0 (nI 1)) &&& (nI 1431655765))) &&& (nI 858993459)) + ((jushr (x0 - ((jushr x0 (nI 1)) &&& (nI 1431655765))) (nI 2)) &&& (nI 858993459))) (nI 4))) &&& (nI 252645135)) + (jushr (((((x0 - ((jushr x0 (nI 1)) &&& (nI 1431655765))) &&& (nI 858993459)) + ((jushr (x0 - ((jushr x0 (nI 1)) &&& (nI 1431655765))) (nI 2)) &&& (nI 858993459))) + (jushr (((x0 - ((jushr x0 (nI 1)) &&& (nI 1431655765))) &&& (nI 858993459)) + ((jushr (x0 - ((jushr x0 (nI 1)) &&& (nI 1431655765))) (nI 2)) &&& (nI 858993459))) (nI 4))) &&& (nI 252645135)) (nI 8))) + (jushr ((((((x0 - ((jushr x0 (nI 1)) &&& (nI 1431655765))) &&& (nI 858993459)) + ((jushr (x0 - ((jushr x0 (nI 1)) &&& (nI 1431655765))) (nI 2)) &&& (nI 858993459))) + (jushr (((x0 - ((jushr x0 (nI 1)) &&& (nI 1431655765))) &&& (nI 858993459)) + ((jushr (x0 - ((jushr x0 (nI 1)) &&& (nI 1431655765))) (nI 2)) &&& (nI 858993459))) (nI 4))) &&& (nI 252645135)) + (jushr (((((x0 - ((jushr x0 (nI 1)) &&& (nI 1431655765))) &&& (nI 858993459)) + ((jushr (x0 - ((jushr x0 (nI 1)) &&& (nI 1431655765))) (nI 2)) &&& (nI 858993459))) + (jushr (((x0 - ((jushr x0 (nI 1)) &&& (nI 1431655765))) &&& (nI 858993459)) + ((jushr (x0 - ((jushr x0 (nI 1)) &&& (nI 1431655765))) (nI 2)) &&& (nI 858993459))) (nI 4))) &&& (nI 252645135)) (nI 8))) (nI 16))))], [(.int ((((((((x0 - ((jushr x0 (nI 1)) &&& (nI 1431655765))) &&& (nI 858993459)) + ((jushr (x0 - ((jushr x0 (nI 1)) &&& (nI 1431655765))) (nI 2)) &&& (nI 858993459))) + (jushr (((x0 - ((jushr x0 (nI 1)) &&& (nI 1431655765))) &&& (nI 858993459)) + ((jushr (x0 - ((jushr x0 (nI 1)) &&& (nI 1431655765))) (nI 2)) &&& (nI 858993459))) (nI 4))) &&& (nI 252645135)) + (jushr (((((x0 - ((jushr x0 (nI 1)) &&& (nI 1431655765))) &&& (nI 858993459)) + ((jushr (x0 - ((jushr x0 (nI 1)) &&& (nI 1431655765))) (nI 2)) &&& (nI 858993459))) + (jushr (((x0 - ((jushr x0 (nI 1)) &&& (nI 1431655765))) &&& (nI 858993459)) + ((jushr (x0 - ((jushr x0 (nI 1)) &&& (nI 1431655765))) (nI 2)) &&& (nI 858993459))) (nI 4))) &&& (nI 252645135)) (nI 8))) + (jushr ((((((x0 - ((jushr x0 (nI 1)) &&& (nI 1431655765))) &&& (nI 858993459)) + ((jushr (x0 - ((jushr x0 (nI 1)) &&& (nI 1431655765))) (nI 2)) &&& (nI 858993459))) + (jushr (((x0 - ((jushr x0 (nI 1)) &&& (nI 1431655765))) &&& (nI 858993459)) + ((jushr (x0 - ((jushr x0 (nI 1)) &&& (nI 1431655765))) (nI 2)) &&& (nI 858993459))) (nI 4))) &&& (nI 252645135)) + (jushr (((((x0 - ((jushr x0 (nI 1)) &&& (nI 1431655765))) &&& (nI 858993459)) + ((jushr (x0 - ((jushr x0 (nI 1)) &&& (nI 1431655765))) (nI 2)) &&& (nI 858993459))) + (jushr (((x0 - ((jushr x0 (nI 1)) &&& (nI 1431655765))) &&& (nI 858993459)) + ((jushr (x0 - ((jushr x0 (nI 1)) &&& (nI 1431655765))) (nI 2)) &&& (nI 858993459))) (nI 4))) &&& (nI 252645135)) (nI 8))) (nI 16))) &&& (nI 63)))], mkX M)) rfl ?_
  exact aG_ret0 rfl rfl ⟨_, _, rfl, h⟩
def wb_J7_fill_53178_5 (z0 : Nat) (z1 : Int32) (z3 : Int32) (K5 : Int32 → wM → Prop) (y2 : Int32) (M : wM) (Q : wM → Prop) : Prop := (z3 ≤ y2 → Q M) ∧ (¬ z3 ≤ y2 → vp_in y2 (lnX z0) ∧ (K5 (y2 + (nI 1)) (si M z0 y2.toNatClampNeg z1)))
set_option maxRecDepth 20000 in
theorem wbk_J7_fill_53178_5 {z0 : Nat} {z1 : Int32} {z3 : Int32} {K5 : Int32 → wM → Prop} {y2 : Int32} {M : wM} {Q : wM → Prop} (hz0 : iaX z0) (hK5 : ∀ (v2 : Int32) (M : wM), K5 v2 M → aG 79 (5, [some (.ref z0), some (.int z1), some (.int v2), some (.int z3)], [], mkX M) (aPv mkX Q)) (h : wb_J7_fill_53178_5 z0 z1 z3 K5 y2 M Q) : aG 79 (5, [some (.ref z0), some (.int z1), some (.int y2), some (.int z3)], [], mkX M) (aPv mkX Q) := by
  unfold wb_J7_fill_53178_5 at h
  refine aG_n 2 (s' := (7, [some (.ref z0), some (.int z1), some (.int y2), some (.int z3)], [(.int z3), (.int y2)], mkX M)) rfl ?_
  obtain ⟨h1, h2⟩ := h
  by_cases q1 : z3 ≤ y2
  · have h := h1 q1
    refine aG_icmp (cd := .ge) (b := true) (decide_eq_true q1) rfl ?_
    refine aG_n 0 (s' := (20, [some (.ref z0), some (.int z1), some (.int y2), some (.int z3)], [], mkX M)) rfl ?_
    exact aG_retV rfl rfl ⟨_, rfl, h⟩
  · have h := h2 q1
    refine aG_icmp (cd := .ge) (b := false) (decide_eq_false q1) rfl ?_
    refine aG_n 3 (s' := (13, [some (.ref z0), some (.int z1), some (.int y2), some (.int z3)], [(.int z1), (.int y2), (.ref z0)], mkX M)) rfl ?_
    obtain ⟨f2, h⟩ := h
    refine aG_iast rfl hz0 f2 ?_
    refine aG_n 2 (s' := (5, [some (.ref z0), some (.int z1), some (.int (y2 + (nI 1))), some (.int z3)], [], mkX (si M z0 y2.toNatClampNeg z1))) rfl ?_
    refine aG_le (a := [some (.ref z0), some (.int z1), some (.int (y2 + (nI 1))), some (.int z3)]) ⟨rfl, ⟨rfl, ⟨rfl, ⟨rfl, trivial⟩⟩⟩⟩ ?_
    exact hK5 _ _ h
def wL_J7_fill_53178_5 (z0 : Nat) (z1 : Int32) (z3 : Int32) (Q : wM → Prop) : Nat → Int32 → wM → Prop
  | 0, _, _ => False
  | n + 1, y2, M => wb_J7_fill_53178_5 z0 z1 z3 (wL_J7_fill_53178_5 z0 z1 z3 Q n) y2 M Q
set_option maxRecDepth 20000 in
theorem wLk_J7_fill_53178_5 {z0 : Nat} {z1 : Int32} {z3 : Int32} {Q : wM → Prop} (hz0 : iaX z0) : ∀ (n : Nat) (y2 : Int32) (M : wM), wL_J7_fill_53178_5 z0 z1 z3 Q n y2 M → aG 79 (5, [some (.ref z0), some (.int z1), some (.int y2), some (.int z3)], [], mkX M) (aPv mkX Q)
  | 0, _, _, h => h.elim
  | n + 1, y2, M, h => wbk_J7_fill_53178_5 hz0 (fun y2 M h => wLk_J7_fill_53178_5 hz0 n y2 M h) h
def w_J7_fill_53178 (x0 : Nat) (x1 : Int32) (M : wM) (Q : wM → Prop) : Prop := iaX x0 ∧ (∃ n, wL_J7_fill_53178_5 x0 x1 (nI (lnX x0)) Q n (nI 0) M)
set_option maxRecDepth 20000 in
theorem wk_J7_fill_53178 {x0 : Nat} {x1 : Int32} {M : wM} {Q : wM → Prop} (h : w_J7_fill_53178 x0 x1 M Q) : aG 79 (aEn 79 [(.ref x0), (.int x1)] (mkX M)) (aPv mkX Q) := by
  unfold w_J7_fill_53178 at h
  obtain ⟨hx0, h⟩ := h
  refine aG_n 3 (s' := (3, [some (.ref x0), some (.int x1), some (.int (nI 0)), none], [(.ref x0)], mkX M)) rfl ?_
  refine aG_alen rfl hx0 ?_
  refine aG_n 1 (s' := (5, [some (.ref x0), some (.int x1), some (.int (nI 0)), some (.int (nI (lnX x0)))], [], mkX M)) rfl ?_
  refine aG_le (a := [some (.ref x0), some (.int x1), some (.int (nI 0)), some (.int (nI (lnX x0)))]) ⟨rfl, ⟨rfl, ⟨rfl, ⟨rfl, trivial⟩⟩⟩⟩ ?_
  obtain ⟨n, h⟩ := h
  exact wLk_J7_fill_53178_5 hx0 n _ _ h
def w_X0_hasFoot (x1 : Int32) (x2 : Int32) (M : wM) (Q : Int32 → wM → Prop) : Prop := w_X0_has x1 M (fun r1 M2 => (r1 = (nI 0) → Q (nI 0) M2) ∧ (¬ r1 = (nI 0) → (x2 < (nI 0) → Q (nI 0) M2) ∧ (¬ x2 < (nI 0) → vp_in x1 6 ∧ (ptX (gp M2 x1.toNatClampNeg) ∧ (((gi M2 (gp M2 x1.toNatClampNeg) 1) ≤ x2 → Q (nI 0) M2) ∧ (¬ (gi M2 (gp M2 x1.toNatClampNeg) 1) ≤ x2 → Q (nI 1) M2))))))
set_option maxRecDepth 20000 in
theorem wk_X0_hasFoot {x1 : Int32} {x2 : Int32} {M : wM} {Q : Int32 → wM → Prop} (h : w_X0_hasFoot x1 x2 M Q) : aG 80 (aEn 80 [(.ref 26), (.int x1), (.int x2)] (mkX M)) (aPi mkX Q) := by
  unfold w_X0_hasFoot at h
  refine aG_n 2 (s' := (2, [some (.ref 26), some (.int x1), some (.int x2)], [(.int x1), (.ref 26)], mkX M)) rfl ?_
  refine aG_call rfl rfl (aG_mono (wk_X0_has h) ?_)
  rintro _ ⟨r1, M2, rfl, h⟩
  refine aG_n 0 (s' := (5, [some (.ref 26), some (.int x1), some (.int x2)], [(.int r1)], mkX M2)) rfl ?_
  obtain ⟨h1, h2⟩ := h
  by_cases q3 : r1 = (nI 0)
  · have h := h1 q3
    refine aG_if (cd := .eq) (b := true) (decide_eq_true q3) rfl ?_
    refine aG_n 1 (s' := (33, [some (.ref 26), some (.int x1), some (.int x2)], [(.int (nI 0))], mkX M2)) rfl ?_
    exact aG_retZ rfl rfl (Or.inl rfl) ⟨_, _, rfl, h⟩
  · have h := h2 q3
    refine aG_if (cd := .eq) (b := false) (decide_eq_false q3) rfl ?_
    refine aG_n 1 (s' := (9, [some (.ref 26), some (.int x1), some (.int x2)], [(.int x2)], mkX M2)) rfl ?_
    obtain ⟨h1, h2⟩ := h
    by_cases q4 : x2 < (nI 0)
    · have h := h1 q4
      refine aG_if (cd := .lt) (b := true) (decide_eq_true q4) rfl ?_
      refine aG_n 1 (s' := (33, [some (.ref 26), some (.int x1), some (.int x2)], [(.int (nI 0))], mkX M2)) rfl ?_
      exact aG_retZ rfl rfl (Or.inl rfl) ⟨_, _, rfl, h⟩
    · have h := h2 q4
      refine aG_if (cd := .lt) (b := false) (decide_eq_false q4) rfl ?_
      refine aG_n 4 (s' := (18, [some (.ref 26), some (.int x1), some (.int x2)], [(.int x1), (.ref 30), (.int x2)], mkX M2)) rfl ?_
      obtain ⟨f5, h⟩ := h
      refine aG_aald rfl rfl rfl f5 (rX_30 (P := (M2).2.2) (vin_lt f5)) ?_
      refine aG_n 0 (s' := (19, [some (.ref 26), some (.int x1), some (.int x2)], [(.ref (34 + 3 * x1.toNatClampNeg)), (.int x2)], mkX M2)) rfl ?_
      refine aG_getR rfl (shX_chip (vin_lt f5)) rfl rfl (rX_part (P := (M2).2.2) (vin_lt f5)) ?_
      obtain ⟨f6, h⟩ := h
      refine aG_n 0 (s' := (22, [some (.ref 26), some (.int x1), some (.int x2)], [(.ref (gp M2 x1.toNatClampNeg)), (.int x2)], mkX M2)) rfl ?_
      refine aG_get rfl f6 rfl rfl ?_
      refine aG_n 0 (s' := (25, [some (.ref 26), some (.int x1), some (.int x2)], [(.int (gi M2 (gp M2 x1.toNatClampNeg) 1)), (.int x2)], mkX M2)) rfl ?_
      obtain ⟨h1, h2⟩ := h
      by_cases q7 : (gi M2 (gp M2 x1.toNatClampNeg) 1) ≤ x2
      · have h := h1 q7
        refine aG_icmp (cd := .ge) (b := true) (decide_eq_true q7) rfl ?_
        refine aG_n 1 (s' := (33, [some (.ref 26), some (.int x1), some (.int x2)], [(.int (nI 0))], mkX M2)) rfl ?_
        exact aG_retZ rfl rfl (Or.inl rfl) ⟨_, _, rfl, h⟩
      · have h := h2 q7
        refine aG_icmp (cd := .ge) (b := false) (decide_eq_false q7) rfl ?_
        refine aG_n 2 (s' := (33, [some (.ref 26), some (.int x1), some (.int x2)], [(.int (nI 1))], mkX M2)) rfl ?_
        exact aG_retZ rfl rfl (Or.inr rfl) ⟨_, _, rfl, h⟩
def wb_X0_openCount_4 (K4 : Int32 → Int32 → wM → Prop) (y1 : Int32) (y2 : Int32) (M : wM) (Q : Int32 → wM → Prop) : Prop := ((gi M 26 3) ≤ y2 → Q y1 M) ∧ (¬ (gi M 26 3) ≤ y2 → vp_in y2 6 ∧ (w_J6_bitCount_0f7a4 (gi M (34 + 3 * y2.toNatClampNeg) 6) M (fun r3 M4 => K4 (y1 + r3) (y2 + (nI 1)) M4)))
set_option maxRecDepth 20000 in
theorem wbk_X0_openCount_4 {K4 : Int32 → Int32 → wM → Prop} {y1 : Int32} {y2 : Int32} {M : wM} {Q : Int32 → wM → Prop} (hK4 : ∀ (v1 : Int32) (v2 : Int32) (M : wM), K4 v1 v2 M → aG 81 (4, [some (.ref 26), some (.int v1), some (.int v2)], [], mkX M) (aPi mkX Q)) (h : wb_X0_openCount_4 K4 y1 y2 M Q) : aG 81 (4, [some (.ref 26), some (.int y1), some (.int y2)], [], mkX M) (aPi mkX Q) := by
  unfold wb_X0_openCount_4 at h
  refine aG_n 3 (s' := (9, [some (.ref 26), some (.int y1), some (.int y2)], [(.int (gi M 26 3)), (.int y2)], mkX M)) rfl ?_
  obtain ⟨h1, h2⟩ := h
  by_cases q1 : (gi M 26 3) ≤ y2
  · have h := h1 q1
    refine aG_icmp (cd := .ge) (b := true) (decide_eq_true q1) rfl ?_
    refine aG_n 1 (s' := (34, [some (.ref 26), some (.int y1), some (.int y2)], [(.int y1)], mkX M)) rfl ?_
    exact aG_ret0 rfl rfl ⟨_, _, rfl, h⟩
  · have h := h2 q1
    refine aG_icmp (cd := .ge) (b := false) (decide_eq_false q1) rfl ?_
    refine aG_n 4 (s' := (18, [some (.ref 26), some (.int y1), some (.int y2)], [(.int y2), (.ref 30), (.int y1)], mkX M)) rfl ?_
    obtain ⟨f2, h⟩ := h
    refine aG_aald rfl rfl rfl f2 (rX_30 (P := (M).2.2) (vin_lt f2)) ?_
    refine aG_n 0 (s' := (19, [some (.ref 26), some (.int y1), some (.int y2)], [(.ref (34 + 3 * y2.toNatClampNeg)), (.int y1)], mkX M)) rfl ?_
    refine aG_get rfl (shX_chip (vin_lt f2)) rfl rfl ?_
    refine aG_n 0 (s' := (22, [some (.ref 26), some (.int y1), some (.int y2)], [(.int (gi M (34 + 3 * y2.toNatClampNeg) 6)), (.int y1)], mkX M)) rfl ?_
    refine aG_call rfl rfl (aG_mono (wk_J6_bitCount_0f7a4 h) ?_)
    rintro _ ⟨r3, M4, rfl, h⟩
    refine aG_n 4 (s' := (4, [some (.ref 26), some (.int (y1 + r3)), some (.int (y2 + (nI 1)))], [], mkX M4)) rfl ?_
    refine aG_le (a := [some (.ref 26), some (.int (y1 + r3)), some (.int (y2 + (nI 1)))]) ⟨rfl, ⟨rfl, ⟨rfl, trivial⟩⟩⟩ ?_
    exact hK4 _ _ _ h
def wL_X0_openCount_4 (Q : Int32 → wM → Prop) : Nat → Int32 → Int32 → wM → Prop
  | 0, _, _, _ => False
  | n + 1, y1, y2, M => wb_X0_openCount_4 (wL_X0_openCount_4 Q n) y1 y2 M Q
set_option maxRecDepth 20000 in
theorem wLk_X0_openCount_4 {Q : Int32 → wM → Prop} : ∀ (n : Nat) (y1 : Int32) (y2 : Int32) (M : wM), wL_X0_openCount_4 Q n y1 y2 M → aG 81 (4, [some (.ref 26), some (.int y1), some (.int y2)], [], mkX M) (aPi mkX Q)
  | 0, _, _, _, h => h.elim
  | n + 1, y1, y2, M, h => wbk_X0_openCount_4 (fun y1 y2 M h => wLk_X0_openCount_4 n y1 y2 M h) h
def w_X0_openCount (M : wM) (Q : Int32 → wM → Prop) : Prop := ∃ n, wL_X0_openCount_4 Q n (nI 0) (nI 0) M
set_option maxRecDepth 20000 in
theorem wk_X0_openCount {M : wM} {Q : Int32 → wM → Prop} (h : w_X0_openCount M Q) : aG 81 (aEn 81 [(.ref 26)] (mkX M)) (aPi mkX Q) := by
  unfold w_X0_openCount at h
  refine aG_n 4 (s' := (4, [some (.ref 26), some (.int (nI 0)), some (.int (nI 0))], [], mkX M)) rfl ?_
  refine aG_le (a := [some (.ref 26), some (.int (nI 0)), some (.int (nI 0))]) ⟨rfl, ⟨rfl, ⟨rfl, trivial⟩⟩⟩ ?_
  obtain ⟨n, h⟩ := h
  exact wLk_X0_openCount_4 n _ _ _ h
def w_X1_become (c : Nat) (x1 : Int32) (x2 : Nat) (M : wM) (Q : wM → Prop) : Prop := c < 6 ∧ (ptX x2 ∧ (w_X4_firstOrder x2 (sp (si M (34 + 3 * c) 0 x1) c x2) (fun r1 M2 => Q (si M2 (34 + 3 * c) 2 r1))))
set_option maxRecDepth 20000 in
theorem wk_X1_become {c : Nat} {x1 : Int32} {x2 : Nat} {M : wM} {Q : wM → Prop} (h : w_X1_become c x1 x2 M Q) : aG 83 (aEn 83 [(.ref (34 + 3 * c)), (.int x1), (.ref x2)] (mkX M)) (aPv mkX Q) := by
  unfold w_X1_become at h
  obtain ⟨hc, h⟩ := h
  obtain ⟨hx2, h⟩ := h
  refine aG_n 2 (s' := (2, [some (.ref (34 + 3 * c)), some (.int x1), some (.ref x2)], [(.int x1), (.ref (34 + 3 * c))], mkX M)) rfl ?_
  refine aG_put rfl (shX_chip hc) rfl rfl ?_
  refine aG_n 2 (s' := (7, [some (.ref (34 + 3 * c)), some (.int x1), some (.ref x2)], [(.ref x2), (.ref (34 + 3 * c))], mkX (si M (34 + 3 * c) 0 x1))) rfl ?_
  refine aG_putR rfl (shX_chip hc) rfl rfl ?_
  show aG 83 (10, [some (.ref (34 + 3 * c)), some (.int x1), some (.ref x2)], [], ((shX, ((si M (34 + 3 * c) 0 x1)).1, ((si M (34 + 3 * c) 0 x1)).2.1, aUp (rX ((si M (34 + 3 * c) 0 x1)).2.2) (34 + 3 * c) 1 (some x2)) : aV)) _
  rw [mkX_sp hc]
  refine aG_n 2 (s' := (12, [some (.ref (34 + 3 * c)), some (.int x1), some (.ref x2)], [(.ref x2), (.ref (34 + 3 * c))], mkX (sp (si M (34 + 3 * c) 0 x1) c x2))) rfl ?_
  refine aG_ivv rfl rfl hx2 rfl rfl (aG_mono (wk_X4_firstOrder h) ?_)
  rintro _ ⟨r1, M2, rfl, h⟩
  refine aG_n 0 (s' := (15, [some (.ref (34 + 3 * c)), some (.int x1), some (.ref x2)], [(.int r1), (.ref (34 + 3 * c))], mkX M2)) rfl ?_
  refine aG_put rfl (shX_chip hc) rfl rfl ?_
  refine aG_n 0 (s' := (18, [some (.ref (34 + 3 * c)), some (.int x1), some (.ref x2)], [], mkX (si M2 (34 + 3 * c) 2 r1))) rfl ?_
  exact aG_retV rfl rfl ⟨_, rfl, h⟩
def w_X1_shiftData (c : Nat) (x1 : Int32) (M : wM) (Q : Int32 → wM → Prop) : Prop := c < 6 ∧ (w_X1_registerPlace c M (fun r1 M2 => vp_in r1 3 ∧ (vp_in r1 3 ∧ (w_X1_registerLength c M2 (fun r5 M6 => w_X1_shifted (gi M2 (35 + 3 * c) r1.toNatClampNeg) r5 x1 M6 (fun r7 M8 => vp_in r1 3 ∧ (Q ((gi M2 (35 + 3 * c) r1.toNatClampNeg) &&& (nI 1)) (si M8 (35 + 3 * c) r1.toNatClampNeg r7))))))))
set_option maxRecDepth 20000 in
theorem wk_X1_shiftData {c : Nat} {x1 : Int32} {M : wM} {Q : Int32 → wM → Prop} (h : w_X1_shiftData c x1 M Q) : aG 84 (aEn 84 [(.ref (34 + 3 * c)), (.int x1)] (mkX M)) (aPi mkX Q) := by
  unfold w_X1_shiftData at h
  obtain ⟨hc, h⟩ := h
  refine aG_n 1 (s' := (1, [some (.ref (34 + 3 * c)), some (.int x1), none, none], [(.ref (34 + 3 * c))], mkX M)) rfl ?_
  refine aG_ivv rfl rfl (shX_chip hc) rfl rfl (aG_mono (wk_X1_registerPlace h) ?_)
  rintro _ ⟨r1, M2, rfl, h⟩
  refine aG_n 2 (s' := (6, [some (.ref (34 + 3 * c)), some (.int x1), some (.int r1), none], [(.ref (34 + 3 * c))], mkX M2)) rfl ?_
  refine aG_getR rfl (shX_chip hc) rfl rfl (rX_reg (P := (M2).2.2) hc) ?_
  refine aG_n 1 (s' := (10, [some (.ref (34 + 3 * c)), some (.int x1), some (.int r1), none], [(.int r1), (.ref (35 + 3 * c))], mkX M2)) rfl ?_
  obtain ⟨f3, h⟩ := h
  refine aG_iald rfl (shX_reg hc) rfl f3 ?_
  refine aG_n 4 (s' := (15, [some (.ref (34 + 3 * c)), some (.int x1), some (.int r1), some (.int ((gi M2 (35 + 3 * c) r1.toNatClampNeg) &&& (nI 1)))], [(.ref (34 + 3 * c))], mkX M2)) rfl ?_
  refine aG_getR rfl (shX_chip hc) rfl rfl (rX_reg (P := (M2).2.2) hc) ?_
  refine aG_n 2 (s' := (20, [some (.ref (34 + 3 * c)), some (.int x1), some (.int r1), some (.int ((gi M2 (35 + 3 * c) r1.toNatClampNeg) &&& (nI 1)))], [(.ref (34 + 3 * c)), (.int r1), (.ref (35 + 3 * c))], mkX M2)) rfl ?_
  refine aG_getR rfl (shX_chip hc) rfl rfl (rX_reg (P := (M2).2.2) hc) ?_
  refine aG_n 1 (s' := (24, [some (.ref (34 + 3 * c)), some (.int x1), some (.int r1), some (.int ((gi M2 (35 + 3 * c) r1.toNatClampNeg) &&& (nI 1)))], [(.int r1), (.ref (35 + 3 * c)), (.int r1), (.ref (35 + 3 * c))], mkX M2)) rfl ?_
  obtain ⟨f4, h⟩ := h
  refine aG_iald rfl (shX_reg hc) rfl f4 ?_
  refine aG_n 1 (s' := (26, [some (.ref (34 + 3 * c)), some (.int x1), some (.int r1), some (.int ((gi M2 (35 + 3 * c) r1.toNatClampNeg) &&& (nI 1)))], [(.ref (34 + 3 * c)), (.int (gi M2 (35 + 3 * c) r1.toNatClampNeg)), (.int r1), (.ref (35 + 3 * c))], mkX M2)) rfl ?_
  refine aG_ivv rfl rfl (shX_chip hc) rfl rfl (aG_mono (wk_X1_registerLength h) ?_)
  rintro _ ⟨r5, M6, rfl, h⟩
  refine aG_n 1 (s' := (30, [some (.ref (34 + 3 * c)), some (.int x1), some (.int r1), some (.int ((gi M2 (35 + 3 * c) r1.toNatClampNeg) &&& (nI 1)))], [(.int x1), (.int r5), (.int (gi M2 (35 + 3 * c) r1.toNatClampNeg)), (.int r1), (.ref (35 + 3 * c))], mkX M6)) rfl ?_
  refine aG_call rfl rfl (aG_mono (wk_X1_shifted h) ?_)
  rintro _ ⟨r7, M8, rfl, h⟩
  refine aG_n 0 (s' := (33, [some (.ref (34 + 3 * c)), some (.int x1), some (.int r1), some (.int ((gi M2 (35 + 3 * c) r1.toNatClampNeg) &&& (nI 1)))], [(.int r7), (.int r1), (.ref (35 + 3 * c))], mkX M8)) rfl ?_
  obtain ⟨f9, h⟩ := h
  refine aG_iast rfl (shX_reg hc) f9 ?_
  refine aG_n 1 (s' := (35, [some (.ref (34 + 3 * c)), some (.int x1), some (.int r1), some (.int ((gi M2 (35 + 3 * c) r1.toNatClampNeg) &&& (nI 1)))], [(.int ((gi M2 (35 + 3 * c) r1.toNatClampNeg) &&& (nI 1)))], mkX (si M8 (35 + 3 * c) r1.toNatClampNeg r7))) rfl ?_
  exact aG_ret0 rfl rfl ⟨_, _, rfl, h⟩
def w_X1_shiftOrders (c : Nat) (x1 : Int32) (M : wM) (Q : Int32 → wM → Prop) : Prop := c < 6 ∧ (ptX (gp M c) ∧ (w_X1_shifted (gi M (34 + 3 * c) 3) (gi M (gp M c) 0) x1 M (fun r2 M3 => Q ((gi M (34 + 3 * c) 3) &&& (nI 1)) (si M3 (34 + 3 * c) 3 r2))))
set_option maxRecDepth 20000 in
theorem wk_X1_shiftOrders {c : Nat} {x1 : Int32} {M : wM} {Q : Int32 → wM → Prop} (h : w_X1_shiftOrders c x1 M Q) : aG 85 (aEn 85 [(.ref (34 + 3 * c)), (.int x1)] (mkX M)) (aPi mkX Q) := by
  unfold w_X1_shiftOrders at h
  obtain ⟨hc, h⟩ := h
  refine aG_n 1 (s' := (1, [some (.ref (34 + 3 * c)), some (.int x1), none], [(.ref (34 + 3 * c))], mkX M)) rfl ?_
  refine aG_get rfl (shX_chip hc) rfl rfl ?_
  refine aG_n 5 (s' := (9, [some (.ref (34 + 3 * c)), some (.int x1), some (.int ((gi M (34 + 3 * c) 3) &&& (nI 1)))], [(.ref (34 + 3 * c)), (.ref (34 + 3 * c))], mkX M)) rfl ?_
  refine aG_get rfl (shX_chip hc) rfl rfl ?_
  refine aG_n 1 (s' := (13, [some (.ref (34 + 3 * c)), some (.int x1), some (.int ((gi M (34 + 3 * c) 3) &&& (nI 1)))], [(.ref (34 + 3 * c)), (.int (gi M (34 + 3 * c) 3)), (.ref (34 + 3 * c))], mkX M)) rfl ?_
  refine aG_getR rfl (shX_chip hc) rfl rfl (rX_part (P := (M).2.2) hc) ?_
  obtain ⟨f1, h⟩ := h
  refine aG_n 0 (s' := (16, [some (.ref (34 + 3 * c)), some (.int x1), some (.int ((gi M (34 + 3 * c) 3) &&& (nI 1)))], [(.ref (gp M c)), (.int (gi M (34 + 3 * c) 3)), (.ref (34 + 3 * c))], mkX M)) rfl ?_
  refine aG_get rfl f1 rfl rfl ?_
  refine aG_n 1 (s' := (20, [some (.ref (34 + 3 * c)), some (.int x1), some (.int ((gi M (34 + 3 * c) 3) &&& (nI 1)))], [(.int x1), (.int (gi M (gp M c) 0)), (.int (gi M (34 + 3 * c) 3)), (.ref (34 + 3 * c))], mkX M)) rfl ?_
  refine aG_call rfl rfl (aG_mono (wk_X1_shifted h) ?_)
  rintro _ ⟨r2, M3, rfl, h⟩
  refine aG_n 0 (s' := (23, [some (.ref (34 + 3 * c)), some (.int x1), some (.int ((gi M (34 + 3 * c) 3) &&& (nI 1)))], [(.int r2), (.ref (34 + 3 * c))], mkX M3)) rfl ?_
  refine aG_put rfl (shX_chip hc) rfl rfl ?_
  refine aG_n 1 (s' := (27, [some (.ref (34 + 3 * c)), some (.int x1), some (.int ((gi M (34 + 3 * c) 3) &&& (nI 1)))], [(.int ((gi M (34 + 3 * c) 3) &&& (nI 1)))], mkX (si M3 (34 + 3 * c) 3 r2))) rfl ?_
  exact aG_ret0 rfl rfl ⟨_, _, rfl, h⟩
def wb_X1_lowered_26 (z0 : Nat) (z1 : Int32) (K26 : Int32 → Int32 → wM → Prop) (y2 : Int32) (y3 : Int32) (M : wM) (Q : Int32 → wM → Prop) : Prop := ((nI 10) ≤ y3 → Q y2 M) ∧ (¬ (nI 10) ≤ y3 → w_X11_bit z1 y3 M (fun r5 M6 => (r5 = (nI 1) → vp_in y3 10 ∧ (((gi M6 (36 + 3 * z0) y3.toNatClampNeg) = (-4) → K26 y2 (y3 + (nI 1)) M6) ∧ (¬ (gi M6 (36 + 3 * z0) y3.toNatClampNeg) = (-4) → vp_in y3 10 ∧ (K26 (y2 ||| (jshl (nI 1) (gi M6 (36 + 3 * z0) y3.toNatClampNeg))) (y3 + (nI 1)) M6)))) ∧ (¬ r5 = (nI 1) → K26 y2 (y3 + (nI 1)) M6)))
set_option maxRecDepth 20000 in
theorem wbk_X1_lowered_26 {z0 : Nat} {z1 : Int32} {K26 : Int32 → Int32 → wM → Prop} {y2 : Int32} {y3 : Int32} {M : wM} {Q : Int32 → wM → Prop} (hz0 : z0 < 6) (hK26 : ∀ (v2 : Int32) (v3 : Int32) (M : wM), K26 v2 v3 M → aG 86 (26, [some (.ref (34 + 3 * z0)), some (.int z1), some (.int v2), some (.int v3)], [], mkX M) (aPi mkX Q)) (h : wb_X1_lowered_26 z0 z1 K26 y2 y3 M Q) : aG 86 (26, [some (.ref (34 + 3 * z0)), some (.int z1), some (.int y2), some (.int y3)], [], mkX M) (aPi mkX Q) := by
  unfold wb_X1_lowered_26 at h
  refine aG_n 2 (s' := (29, [some (.ref (34 + 3 * z0)), some (.int z1), some (.int y2), some (.int y3)], [(.int (nI 10)), (.int y3)], mkX M)) rfl ?_
  obtain ⟨h1, h2⟩ := h
  by_cases q4 : (nI 10) ≤ y3
  · have h := h1 q4
    refine aG_icmp (cd := .ge) (b := true) (decide_eq_true q4) rfl ?_
    refine aG_n 1 (s' := (70, [some (.ref (34 + 3 * z0)), some (.int z1), some (.int y2), some (.int y3)], [(.int y2)], mkX M)) rfl ?_
    exact aG_ret0 rfl rfl ⟨_, _, rfl, h⟩
  · have h := h2 q4
    refine aG_icmp (cd := .ge) (b := false) (decide_eq_false q4) rfl ?_
    refine aG_n 2 (s' := (34, [some (.ref (34 + 3 * z0)), some (.int z1), some (.int y2), some (.int y3)], [(.int y3), (.int z1)], mkX M)) rfl ?_
    refine aG_call rfl rfl (aG_mono (wk_X11_bit h) ?_)
    rintro _ ⟨r5, M6, rfl, h⟩
    refine aG_n 1 (s' := (38, [some (.ref (34 + 3 * z0)), some (.int z1), some (.int y2), some (.int y3)], [(.int (nI 1)), (.int r5)], mkX M6)) rfl ?_
    obtain ⟨h1, h2⟩ := h
    by_cases q7 : r5 = (nI 1)
    · have h := h1 q7
      refine aG_icmp (cd := .ne) (b := false) (aTne0 q7) rfl ?_
      refine aG_n 1 (s' := (42, [some (.ref (34 + 3 * z0)), some (.int z1), some (.int y2), some (.int y3)], [(.ref (34 + 3 * z0))], mkX M6)) rfl ?_
      refine aG_getR rfl (shX_chip hz0) rfl rfl (rX_nat (P := (M6).2.2) hz0) ?_
      refine aG_n 1 (s' := (46, [some (.ref (34 + 3 * z0)), some (.int z1), some (.int y2), some (.int y3)], [(.int y3), (.ref (36 + 3 * z0))], mkX M6)) rfl ?_
      obtain ⟨f8, h⟩ := h
      refine aG_iald rfl (shX_nat hz0) rfl f8 ?_
      refine aG_n 1 (s' := (49, [some (.ref (34 + 3 * z0)), some (.int z1), some (.int y2), some (.int y3)], [(.int (-4)), (.int (gi M6 (36 + 3 * z0) y3.toNatClampNeg))], mkX M6)) rfl ?_
      obtain ⟨h1, h2⟩ := h
      by_cases q9 : (gi M6 (36 + 3 * z0) y3.toNatClampNeg) = (-4)
      · have h := h1 q9
        refine aG_icmp (cd := .eq) (b := true) (decide_eq_true q9) rfl ?_
        refine aG_n 2 (s' := (26, [some (.ref (34 + 3 * z0)), some (.int z1), some (.int y2), some (.int (y3 + (nI 1)))], [], mkX M6)) rfl ?_
        refine aG_le (a := [some (.ref (34 + 3 * z0)), some (.int z1), some (.int y2), some (.int (y3 + (nI 1)))]) ⟨rfl, ⟨rfl, ⟨rfl, ⟨rfl, trivial⟩⟩⟩⟩ ?_
        exact hK26 _ _ _ h
      · have h := h2 q9
        refine aG_icmp (cd := .eq) (b := false) (decide_eq_false q9) rfl ?_
        refine aG_n 3 (s' := (55, [some (.ref (34 + 3 * z0)), some (.int z1), some (.int y2), some (.int y3)], [(.ref (34 + 3 * z0)), (.int (nI 1)), (.int y2)], mkX M6)) rfl ?_
        refine aG_getR rfl (shX_chip hz0) rfl rfl (rX_nat (P := (M6).2.2) hz0) ?_
        refine aG_n 1 (s' := (59, [some (.ref (34 + 3 * z0)), some (.int z1), some (.int y2), some (.int y3)], [(.int y3), (.ref (36 + 3 * z0)), (.int (nI 1)), (.int y2)], mkX M6)) rfl ?_
        obtain ⟨f10, h⟩ := h
        refine aG_iald rfl (shX_nat hz0) rfl f10 ?_
        refine aG_n 5 (s' := (26, [some (.ref (34 + 3 * z0)), some (.int z1), some (.int (y2 ||| (jshl (nI 1) (gi M6 (36 + 3 * z0) y3.toNatClampNeg)))), some (.int (y3 + (nI 1)))], [], mkX M6)) rfl ?_
        refine aG_le (a := [some (.ref (34 + 3 * z0)), some (.int z1), some (.int (y2 ||| (jshl (nI 1) (gi M6 (36 + 3 * z0) y3.toNatClampNeg)))), some (.int (y3 + (nI 1)))]) ⟨rfl, ⟨rfl, ⟨rfl, ⟨rfl, trivial⟩⟩⟩⟩ ?_
        exact hK26 _ _ _ h
    · have h := h2 q7
      refine aG_icmp (cd := .ne) (b := true) (aTne1 q7) rfl ?_
      refine aG_n 2 (s' := (26, [some (.ref (34 + 3 * z0)), some (.int z1), some (.int y2), some (.int (y3 + (nI 1)))], [], mkX M6)) rfl ?_
      refine aG_le (a := [some (.ref (34 + 3 * z0)), some (.int z1), some (.int y2), some (.int (y3 + (nI 1)))]) ⟨rfl, ⟨rfl, ⟨rfl, ⟨rfl, trivial⟩⟩⟩⟩ ?_
      exact hK26 _ _ _ h
def wL_X1_lowered_26 (z0 : Nat) (z1 : Int32) (Q : Int32 → wM → Prop) : Nat → Int32 → Int32 → wM → Prop
  | 0, _, _, _ => False
  | n + 1, y2, y3, M => wb_X1_lowered_26 z0 z1 (wL_X1_lowered_26 z0 z1 Q n) y2 y3 M Q
set_option maxRecDepth 20000 in
theorem wLk_X1_lowered_26 {z0 : Nat} {z1 : Int32} {Q : Int32 → wM → Prop} (hz0 : z0 < 6) : ∀ (n : Nat) (y2 : Int32) (y3 : Int32) (M : wM), wL_X1_lowered_26 z0 z1 Q n y2 y3 M → aG 86 (26, [some (.ref (34 + 3 * z0)), some (.int z1), some (.int y2), some (.int y3)], [], mkX M) (aPi mkX Q)
  | 0, _, _, _, h => h.elim
  | n + 1, y2, y3, M, h => wbk_X1_lowered_26 hz0 (fun y2 y3 M h => wLk_X1_lowered_26 hz0 n y2 y3 M h) h
def w_X1_lowered (c : Nat) (M : wM) (Q : Int32 → wM → Prop) : Prop := c < 6 ∧ (ptX (gp M c) ∧ (w_X1_driven c M (fun r2 M3 => ∃ n, wL_X1_lowered_26 c (((gi M (gp M c) 5) &&& ((gi M (34 + 3 * c) 6) ^^^ (-1))) &&& (r2 ^^^ (-1))) Q n (nI 0) (nI 0) M3)))
set_option maxRecDepth 20000 in
theorem wk_X1_lowered {c : Nat} {M : wM} {Q : Int32 → wM → Prop} (h : w_X1_lowered c M Q) : aG 86 (aEn 86 [(.ref (34 + 3 * c))] (mkX M)) (aPi mkX Q) := by
  unfold w_X1_lowered at h
  obtain ⟨hc, h⟩ := h
  refine aG_n 1 (s' := (1, [some (.ref (34 + 3 * c)), none, none, none], [(.ref (34 + 3 * c))], mkX M)) rfl ?_
  refine aG_getR rfl (shX_chip hc) rfl rfl (rX_part (P := (M).2.2) hc) ?_
  obtain ⟨f1, h⟩ := h
  refine aG_n 0 (s' := (4, [some (.ref (34 + 3 * c)), none, none, none], [(.ref (gp M c))], mkX M)) rfl ?_
  refine aG_get rfl f1 rfl rfl ?_
  refine aG_n 1 (s' := (8, [some (.ref (34 + 3 * c)), none, none, none], [(.ref (34 + 3 * c)), (.int (gi M (gp M c) 5))], mkX M)) rfl ?_
  refine aG_get rfl (shX_chip hc) rfl rfl ?_
  refine aG_n 4 (s' := (15, [some (.ref (34 + 3 * c)), none, none, none], [(.ref (34 + 3 * c)), (.int ((gi M (gp M c) 5) &&& ((gi M (34 + 3 * c) 6) ^^^ (-1))))], mkX M)) rfl ?_
  refine aG_ivv rfl rfl (shX_chip hc) rfl rfl (aG_mono (wk_X1_driven h) ?_)
  rintro _ ⟨r2, M3, rfl, h⟩
  refine aG_n 8 (s' := (26, [some (.ref (34 + 3 * c)), some (.int (((gi M (gp M c) 5) &&& ((gi M (34 + 3 * c) 6) ^^^ (-1))) &&& (r2 ^^^ (-1)))), some (.int (nI 0)), some (.int (nI 0))], [], mkX M3)) rfl ?_
  refine aG_le (a := [some (.ref (34 + 3 * c)), some (.int (((gi M (gp M c) 5) &&& ((gi M (34 + 3 * c) 6) ^^^ (-1))) &&& (r2 ^^^ (-1)))), some (.int (nI 0)), some (.int (nI 0))]) ⟨rfl, ⟨rfl, ⟨rfl, ⟨rfl, trivial⟩⟩⟩⟩ ?_
  obtain ⟨n, h⟩ := h
  exact wLk_X1_lowered_26 hc n _ _ _ h
