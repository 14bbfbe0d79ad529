/-! methods as predicates, and their walks (by gen/wpgen.py) -/
def w_X12_in (x0 : Int64) (x2 : Int64) (x4 : Int64) (M : wM) (Q : Int32 → wM → Prop) : Prop := ((lg_cmp x0 x2) < (nI 0) → Q (nI 0) M) ∧ (¬ (lg_cmp x0 x2) < (nI 0) → ((nI 0) < (lg_cmp x0 x4) → Q (nI 0) M) ∧ (¬ (nI 0) < (lg_cmp x0 x4) → Q (nI 1) M))
set_option maxRecDepth 20000 in
theorem wk_X12_in {x0 : Int64} {x2 : Int64} {x4 : Int64} {M : wM} {Q : Int32 → wM → Prop} (h : w_X12_in x0 x2 x4 M Q) : aG 52 (aEn 52 [(.long x0), (.long x2), (.long x4)] (mkM M)) (aPi mkM Q) := by
  unfold w_X12_in at h
  refine aG_n 3 (s' := (3, [some (.long x0), none, some (.long x2), none, some (.long x4), none], [(.int (lg_cmp x0 x2))], mkM M)) rfl ?_
  obtain ⟨h1, h2⟩ := h
  by_cases q1 : (lg_cmp x0 x2) < (nI 0)
  · have h := h1 q1
    refine aG_if (cd := .lt) (b := true) (decide_eq_true q1) rfl ?_
    refine aG_n 1 (s' := (18, [some (.long x0), none, some (.long x2), none, some (.long x4), none], [(.int (nI 0))], mkM M)) rfl ?_
    exact aG_retZ rfl rfl (Or.inl rfl) ⟨_, _, rfl, h⟩
  · have h := h2 q1
    refine aG_if (cd := .lt) (b := false) (decide_eq_false q1) rfl ?_
    refine aG_n 3 (s' := (10, [some (.long x0), none, some (.long x2), none, some (.long x4), none], [(.int (lg_cmp x0 x4))], mkM M)) rfl ?_
    obtain ⟨h1, h2⟩ := h
    by_cases q2 : (nI 0) < (lg_cmp x0 x4)
    · have h := h1 q2
      refine aG_if (cd := .gt) (b := true) (decide_eq_true q2) rfl ?_
      refine aG_n 1 (s' := (18, [some (.long x0), none, some (.long x2), none, some (.long x4), none], [(.int (nI 0))], mkM M)) rfl ?_
      exact aG_retZ rfl rfl (Or.inl rfl) ⟨_, _, rfl, h⟩
    · have h := h2 q2
      refine aG_if (cd := .gt) (b := false) (decide_eq_false q2) rfl ?_
      refine aG_n 2 (s' := (18, [some (.long x0), none, some (.long x2), none, some (.long x4), none], [(.int (nI 1))], mkM M)) rfl ?_
      exact aG_retZ rfl rfl (Or.inr rfl) ⟨_, _, rfl, h⟩
def wb_X12_bits_4 (z0 : Int32) (K4 : Int32 → Int32 → wM → Prop) (y1 : Int32) (y2 : Int32) (M : wM) (Q : Int32 → wM → Prop) : Prop := ((nI 16) ≤ y2 → Q y1 M) ∧ (¬ (nI 16) ≤ y2 → K4 (y1 + ((jshr z0 y2) &&& (nI 1))) (y2 + (nI 1)) M)
set_option maxRecDepth 20000 in
theorem wbk_X12_bits_4 {z0 : Int32} {K4 : Int32 → Int32 → wM → Prop} {y1 : Int32} {y2 : Int32} {M : wM} {Q : Int32 → wM → Prop} (hK4 : ∀ (v1 : Int32) (v2 : Int32) (M : wM), K4 v1 v2 M → aG 53 (4, [some (.int z0), some (.int v1), some (.int v2)], [], mkM M) (aPi mkM Q)) (h : wb_X12_bits_4 z0 K4 y1 y2 M Q) : aG 53 (4, [some (.int z0), some (.int y1), some (.int y2)], [], mkM M) (aPi mkM Q) := by
  unfold wb_X12_bits_4 at h
  refine aG_n 2 (s' := (7, [some (.int z0), some (.int y1), some (.int y2)], [(.int (nI 16)), (.int y2)], mkM M)) rfl ?_
  obtain ⟨h1, h2⟩ := h
  by_cases q1 : (nI 16) ≤ y2
  · have h := h1 q1
    refine aG_icmp (cd := .ge) (b := true) (decide_eq_true q1) rfl ?_
    refine aG_n 1 (s' := (25, [some (.int z0), some (.int y1), some (.int y2)], [(.int y1)], mkM M)) rfl ?_
    exact aG_ret0 rfl rfl ⟨_, _, rfl, h⟩
  · have h := h2 q1
    refine aG_icmp (cd := .ge) (b := false) (decide_eq_false q1) rfl ?_
    refine aG_n 10 (s' := (4, [some (.int z0), some (.int (y1 + ((jshr z0 y2) &&& (nI 1)))), some (.int (y2 + (nI 1)))], [], mkM M)) rfl ?_
    refine aG_le (a := [some (.int z0), some (.int (y1 + ((jshr z0 y2) &&& (nI 1)))), some (.int (y2 + (nI 1)))]) ⟨rfl, ⟨rfl, ⟨rfl, trivial⟩⟩⟩ ?_
    exact hK4 _ _ _ h
def wL_X12_bits_4 (z0 : Int32) (Q : Int32 → wM → Prop) : Nat → Int32 → Int32 → wM → Prop
  | 0, _, _, _ => False
  | n + 1, y1, y2, M => wb_X12_bits_4 z0 (wL_X12_bits_4 z0 Q n) y1 y2 M Q
set_option maxRecDepth 20000 in
theorem wLk_X12_bits_4 {z0 : Int32} {Q : Int32 → wM → Prop} : ∀ (n : Nat) (y1 : Int32) (y2 : Int32) (M : wM), wL_X12_bits_4 z0 Q n y1 y2 M → aG 53 (4, [some (.int z0), some (.int y1), some (.int y2)], [], mkM M) (aPi mkM Q)
  | 0, _, _, _, h => h.elim
  | n + 1, y1, y2, M, h => wbk_X12_bits_4 (fun y1 y2 M h => wLk_X12_bits_4 n y1 y2 M h) h
def w_X12_bits (x0 : Int32) (M : wM) (Q : Int32 → wM → Prop) : Prop := ∃ n, wL_X12_bits_4 x0 Q n (nI 0) (nI 0) M
set_option maxRecDepth 20000 in
theorem wk_X12_bits {x0 : Int32} {M : wM} {Q : Int32 → wM → Prop} (h : w_X12_bits x0 M Q) : aG 53 (aEn 53 [(.int x0)] (mkM M)) (aPi mkM Q) := by
  unfold w_X12_bits at h
  refine aG_n 4 (s' := (4, [some (.int x0), some (.int (nI 0)), some (.int (nI 0))], [], mkM M)) rfl ?_
  refine aG_le (a := [some (.int x0), some (.int (nI 0)), some (.int (nI 0))]) ⟨rfl, ⟨rfl, ⟨rfl, trivial⟩⟩⟩ ?_
  obtain ⟨n, h⟩ := h
  exact wLk_X12_bits_4 n _ _ _ h
def wb_X12_feed_19 (z1 : Int64) (K19 : Int32 → wM → Prop) (y3 : Int32) (M : wM) (Q : Int32 → wM → Prop) : Prop := (y3 < (nI 0) → Q (gi M 0 15) M) ∧ (¬ y3 < (nI 0) → vp_in (gi M 0 15) 240 ∧ (K19 (y3 + (-8)) (si (si M 13 (gi M 0 15).toNatClampNeg ((jlshr z1 y3) &&& (lN 255)).toInt32) 0 15 ((gi M 0 15) + (nI 1)))))
set_option maxRecDepth 20000 in
theorem wbk_X12_feed_19 {z1 : Int64} {K19 : Int32 → wM → Prop} {y3 : Int32} {M : wM} {Q : Int32 → wM → Prop} (hK19 : ∀ (v3 : Int32) (M : wM), K19 v3 M → aG 54 (19, [some (.ref 0), some (.long z1), none, some (.int v3)], [], mkM M) (aPi mkM Q)) (h : wb_X12_feed_19 z1 K19 y3 M Q) : aG 54 (19, [some (.ref 0), some (.long z1), none, some (.int y3)], [], mkM M) (aPi mkM Q) := by
  unfold wb_X12_feed_19 at h
  refine aG_n 1 (s' := (20, [some (.ref 0), some (.long z1), none, some (.int y3)], [(.int y3)], mkM M)) rfl ?_
  obtain ⟨h1, h2⟩ := h
  by_cases q2 : y3 < (nI 0)
  · have h := h1 q2
    refine aG_if (cd := .lt) (b := true) (decide_eq_true q2) rfl ?_
    refine aG_n 2 (s' := (60, [some (.ref 0), some (.long z1), none, some (.int y3)], [(.int (gi M 0 15))], mkM M)) rfl ?_
    exact aG_ret0 rfl rfl ⟨_, _, rfl, h⟩
  · have h := h2 q2
    refine aG_if (cd := .lt) (b := false) (decide_eq_false q2) rfl ?_
    refine aG_n 10 (s' := (39, [some (.ref 0), some (.long z1), none, some (.int y3)], [(.int ((jlshr z1 y3) &&& (lN 255)).toInt32), (.int (gi M 0 15)), (.ref 13)], mkM M)) rfl ?_
    obtain ⟨f3, h⟩ := h
    refine aG_iast rfl rfl f3 ?_
    refine aG_n 8 (s' := (19, [some (.ref 0), some (.long z1), none, some (.int (y3 + (-8)))], [], mkM (si (si M 13 (gi M 0 15).toNatClampNeg ((jlshr z1 y3) &&& (lN 255)).toInt32) 0 15 ((gi M 0 15) + (nI 1))))) rfl ?_
    refine aG_le (a := [some (.ref 0), some (.long z1), none, some (.int (y3 + (-8)))]) ⟨rfl, ⟨rfl, ⟨rfl, trivial⟩⟩⟩ ?_
    exact hK19 _ _ h
def wL_X12_feed_19 (z1 : Int64) (Q : Int32 → wM → Prop) : Nat → Int32 → wM → Prop
  | 0, _, _ => False
  | n + 1, y3, M => wb_X12_feed_19 z1 (wL_X12_feed_19 z1 Q n) y3 M Q
set_option maxRecDepth 20000 in
theorem wLk_X12_feed_19 {z1 : Int64} {Q : Int32 → wM → Prop} : ∀ (n : Nat) (y3 : Int32) (M : wM), wL_X12_feed_19 z1 Q n y3 M → aG 54 (19, [some (.ref 0), some (.long z1), none, some (.int y3)], [], mkM M) (aPi mkM Q)
  | 0, _, _, h => h.elim
  | n + 1, y3, M, h => wbk_X12_feed_19 (fun y3 M h => wLk_X12_feed_19 n y3 M h) h
def w_X12_feed (x1 : Int64) (M : wM) (Q : Int32 → wM → Prop) : Prop := (((gi M 0 15) + (nI 8)) ≤ (nI 240) → ∃ n, wL_X12_feed_19 x1 Q n (nI 56) M) ∧ (¬ ((gi M 0 15) + (nI 8)) ≤ (nI 240) → Q (-3) M)
set_option maxRecDepth 20000 in
theorem wk_X12_feed {x1 : Int64} {M : wM} {Q : Int32 → wM → Prop} (h : w_X12_feed x1 M Q) : aG 54 (aEn 54 [(.ref 0), (.long x1)] (mkM M)) (aPi mkM Q) := by
  unfold w_X12_feed at h
  refine aG_n 5 (s' := (10, [some (.ref 0), some (.long x1), none, none], [(.int (nI 240)), (.int ((gi M 0 15) + (nI 8)))], mkM M)) rfl ?_
  obtain ⟨h1, h2⟩ := h
  by_cases q1 : ((gi M 0 15) + (nI 8)) ≤ (nI 240)
  · have h := h1 q1
    refine aG_icmp (cd := .le) (b := true) (decide_eq_true q1) rfl ?_
    refine aG_n 2 (s' := (19, [some (.ref 0), some (.long x1), none, some (.int (nI 56))], [], mkM M)) rfl ?_
    refine aG_le (a := [some (.ref 0), some (.long x1), none, some (.int (nI 56))]) ⟨rfl, ⟨rfl, ⟨rfl, trivial⟩⟩⟩ ?_
    obtain ⟨n, h⟩ := h
    exact wLk_X12_feed_19 n _ _ h
  · have h := h2 q1
    refine aG_icmp (cd := .le) (b := false) (decide_eq_false q1) rfl ?_
    refine aG_n 1 (s' := (15, [some (.ref 0), some (.long x1), none, none], [(.int (-3))], mkM M)) rfl ?_
    exact aG_ret0 rfl rfl ⟨_, _, rfl, h⟩
def w_X12_wants (x1 : Int32) (x2 : Int32) (M : wM) (Q : wM → Prop) : Prop := (x1 = (nI 0) → ((gi M 0 20) = (nI 0) → Q (si (si M 0 20 x2) 0 21 (gi M 0 17))) ∧ (¬ (gi M 0 20) = (nI 0) → Q M)) ∧ (¬ x1 = (nI 0) → Q M)
set_option maxRecDepth 20000 in
theorem wk_X12_wants {x1 : Int32} {x2 : Int32} {M : wM} {Q : wM → Prop} (h : w_X12_wants x1 x2 M Q) : aG 55 (aEn 55 [(.ref 0), (.int x1), (.int x2)] (mkM M)) (aPv mkM Q) := by
  unfold w_X12_wants at h
  refine aG_n 1 (s' := (1, [some (.ref 0), some (.int x1), some (.int x2)], [(.int x1)], mkM M)) rfl ?_
  obtain ⟨h1, h2⟩ := h
  by_cases q1 : x1 = (nI 0)
  · have h := h1 q1
    refine aG_if (cd := .ne) (b := false) (aTne0 q1) rfl ?_
    refine aG_n 2 (s' := (8, [some (.ref 0), some (.int x1), some (.int x2)], [(.int (gi M 0 20))], mkM M)) rfl ?_
    obtain ⟨h1, h2⟩ := h
    by_cases q2 : (gi M 0 20) = (nI 0)
    · have h := h1 q2
      refine aG_if (cd := .ne) (b := false) (aTne0 q2) rfl ?_
      refine aG_n 7 (s' := (24, [some (.ref 0), some (.int x1), some (.int x2)], [], mkM (si (si M 0 20 x2) 0 21 (gi M 0 17)))) rfl ?_
      exact aG_retV rfl rfl ⟨_, rfl, h⟩
    · have h := h2 q2
      refine aG_if (cd := .ne) (b := true) (aTne1 q2) rfl ?_
      refine aG_n 0 (s' := (24, [some (.ref 0), some (.int x1), some (.int x2)], [], mkM M)) rfl ?_
      exact aG_retV rfl rfl ⟨_, rfl, h⟩
  · have h := h2 q1
    refine aG_if (cd := .ne) (b := true) (aTne1 q1) rfl ?_
    refine aG_n 0 (s' := (24, [some (.ref 0), some (.int x1), some (.int x2)], [], mkM M)) rfl ?_
    exact aG_retV rfl rfl ⟨_, rfl, h⟩
def w_X12_look (x1 : Int32) (M : wM) (Q : Int32 → wM → Prop) : Prop := ((gi M 0 15) ≤ x1 → Q (-1) M) ∧ (¬ (gi M 0 15) ≤ x1 → vp_in x1 240 ∧ (Q (gi M 13 x1.toNatClampNeg) M))
set_option maxRecDepth 20000 in
theorem wk_X12_look {x1 : Int32} {M : wM} {Q : Int32 → wM → Prop} (h : w_X12_look x1 M Q) : aG 56 (aEn 56 [(.ref 0), (.int x1)] (mkM M)) (aPi mkM Q) := by
  unfold w_X12_look at h
  refine aG_n 3 (s' := (5, [some (.ref 0), some (.int x1)], [(.int (gi M 0 15)), (.int x1)], mkM M)) rfl ?_
  obtain ⟨h1, h2⟩ := h
  by_cases q1 : (gi M 0 15) ≤ x1
  · have h := h1 q1
    refine aG_icmp (cd := .ge) (b := true) (decide_eq_true q1) rfl ?_
    refine aG_n 1 (s' := (18, [some (.ref 0), some (.int x1)], [(.int (-1))], mkM M)) rfl ?_
    exact aG_ret0 rfl rfl ⟨_, _, rfl, h⟩
  · have h := h2 q1
    refine aG_icmp (cd := .ge) (b := false) (decide_eq_false q1) rfl ?_
    refine aG_n 3 (s' := (13, [some (.ref 0), some (.int x1)], [(.int x1), (.ref 13)], mkM M)) rfl ?_
    obtain ⟨f2, h⟩ := h
    refine aG_iald rfl rfl rfl f2 ?_
    refine aG_n 1 (s' := (18, [some (.ref 0), some (.int x1)], [(.int (gi M 13 x1.toNatClampNeg))], mkM M)) rfl ?_
    exact aG_ret0 rfl rfl ⟨_, _, rfl, h⟩
def w_X12_isThere (x1 : Int32) (M : wM) (Q : Int32 → wM → Prop) : Prop := (x1 = (nI 0) → vp_in (gi M 0 7) 6 ∧ (((gi M 8 (gi M 0 7).toNatClampNeg) = (-4) → Q (nI 0) M) ∧ (¬ (gi M 8 (gi M 0 7).toNatClampNeg) = (-4) → Q (nI 1) M))) ∧ (¬ x1 = (nI 0) → (x1 = (nI 1) → vp_in (gi M 0 7) 6 ∧ (((gi M 9 (gi M 0 7).toNatClampNeg) = (-4) → Q (nI 0) M) ∧ (¬ (gi M 9 (gi M 0 7).toNatClampNeg) = (-4) → Q (nI 1) M))) ∧ (¬ x1 = (nI 1) → (x1 = (nI 2) → vp_in (gi M 0 7) 6 ∧ (((gi M 10 (gi M 0 7).toNatClampNeg) = (-4) → Q (nI 0) M) ∧ (¬ (gi M 10 (gi M 0 7).toNatClampNeg) = (-4) → Q (nI 1) M))) ∧ (¬ x1 = (nI 2) → vp_in (gi M 0 7) 6 ∧ (((gi M 11 (gi M 0 7).toNatClampNeg) ≤ (nI 0) → Q (nI 0) M) ∧ (¬ (gi M 11 (gi M 0 7).toNatClampNeg) ≤ (nI 0) → Q (nI 1) M)))))
set_option maxRecDepth 20000 in
theorem wk_X12_isThere {x1 : Int32} {M : wM} {Q : Int32 → wM → Prop} (h : w_X12_isThere x1 M Q) : aG 57 (aEn 57 [(.ref 0), (.int x1)] (mkM M)) (aPi mkM Q) := by
  unfold w_X12_isThere at h
  refine aG_n 4 (s' := (6, [some (.ref 0), some (.int x1), some (.int (gi M 0 7))], [(.int x1)], mkM M)) rfl ?_
  obtain ⟨h1, h2⟩ := h
  by_cases q1 : x1 = (nI 0)
  · have h := h1 q1
    refine aG_if (cd := .ne) (b := false) (aTne0 q1) rfl ?_
    refine aG_n 3 (s' := (14, [some (.ref 0), some (.int x1), some (.int (gi M 0 7))], [(.int (gi M 0 7)), (.ref 8)], mkM M)) rfl ?_
    obtain ⟨f2, h⟩ := h
    refine aG_iald rfl rfl rfl f2 ?_
    refine aG_n 1 (s' := (17, [some (.ref 0), some (.int x1), some (.int (gi M 0 7))], [(.int (-4)), (.int (gi M 8 (gi M 0 7).toNatClampNeg))], mkM M)) rfl ?_
    obtain ⟨h1, h2⟩ := h
    by_cases q3 : (gi M 8 (gi M 0 7).toNatClampNeg) = (-4)
    · have h := h1 q3
      refine aG_icmp (cd := .eq) (b := true) (decide_eq_true q3) rfl ?_
      refine aG_n 2 (s' := (90, [some (.ref 0), some (.int x1), some (.int (gi M 0 7))], [(.int (nI 0))], mkM M)) rfl ?_
      exact aG_retZ rfl rfl (Or.inl rfl) ⟨_, _, rfl, h⟩
    · have h := h2 q3
      refine aG_icmp (cd := .eq) (b := false) (decide_eq_false q3) rfl ?_
      refine aG_n 2 (s' := (90, [some (.ref 0), some (.int x1), some (.int (gi M 0 7))], [(.int (nI 1))], mkM M)) rfl ?_
      exact aG_retZ rfl rfl (Or.inr rfl) ⟨_, _, rfl, h⟩
  · have h := h2 q1
    refine aG_if (cd := .ne) (b := true) (aTne1 q1) rfl ?_
    refine aG_n 2 (s' := (30, [some (.ref 0), some (.int x1), some (.int (gi M 0 7))], [(.int (nI 1)), (.int x1)], mkM M)) rfl ?_
    obtain ⟨h1, h2⟩ := h
    by_cases q4 : x1 = (nI 1)
    · have h := h1 q4
      refine aG_icmp (cd := .ne) (b := false) (aTne0 q4) rfl ?_
      refine aG_n 3 (s' := (38, [some (.ref 0), some (.int x1), some (.int (gi M 0 7))], [(.int (gi M 0 7)), (.ref 9)], mkM M)) rfl ?_
      obtain ⟨f5, h⟩ := h
      refine aG_iald rfl rfl rfl f5 ?_
      refine aG_n 1 (s' := (41, [some (.ref 0), some (.int x1), some (.int (gi M 0 7))], [(.int (-4)), (.int (gi M 9 (gi M 0 7).toNatClampNeg))], mkM M)) rfl ?_
      obtain ⟨h1, h2⟩ := h
      by_cases q6 : (gi M 9 (gi M 0 7).toNatClampNeg) = (-4)
      · have h := h1 q6
        refine aG_icmp (cd := .eq) (b := true) (decide_eq_true q6) rfl ?_
        refine aG_n 2 (s' := (90, [some (.ref 0), some (.int x1), some (.int (gi M 0 7))], [(.int (nI 0))], mkM M)) rfl ?_
        exact aG_retZ rfl rfl (Or.inl rfl) ⟨_, _, rfl, h⟩
      · have h := h2 q6
        refine aG_icmp (cd := .eq) (b := false) (decide_eq_false q6) rfl ?_
        refine aG_n 2 (s' := (90, [some (.ref 0), some (.int x1), some (.int (gi M 0 7))], [(.int (nI 1))], mkM M)) rfl ?_
        exact aG_retZ rfl rfl (Or.inr rfl) ⟨_, _, rfl, h⟩
    · have h := h2 q4
      refine aG_icmp (cd := .ne) (b := true) (aTne1 q4) rfl ?_
      refine aG_n 2 (s' := (54, [some (.ref 0), some (.int x1), some (.int (gi M 0 7))], [(.int (nI 2)), (.int x1)], mkM M)) rfl ?_
      obtain ⟨h1, h2⟩ := h
      by_cases q7 : x1 = (nI 2)
      · have h := h1 q7
        refine aG_icmp (cd := .ne) (b := false) (aTne0 q7) rfl ?_
        refine aG_n 3 (s' := (62, [some (.ref 0), some (.int x1), some (.int (gi M 0 7))], [(.int (gi M 0 7)), (.ref 10)], mkM M)) rfl ?_
        obtain ⟨f8, h⟩ := h
        refine aG_iald rfl rfl rfl f8 ?_
        refine aG_n 1 (s' := (65, [some (.ref 0), some (.int x1), some (.int (gi M 0 7))], [(.int (-4)), (.int (gi M 10 (gi M 0 7).toNatClampNeg))], mkM M)) rfl ?_
        obtain ⟨h1, h2⟩ := h
        by_cases q9 : (gi M 10 (gi M 0 7).toNatClampNeg) = (-4)
        · have h := h1 q9
          refine aG_icmp (cd := .eq) (b := true) (decide_eq_true q9) rfl ?_
          refine aG_n 2 (s' := (90, [some (.ref 0), some (.int x1), some (.int (gi M 0 7))], [(.int (nI 0))], mkM M)) rfl ?_
          exact aG_retZ rfl rfl (Or.inl rfl) ⟨_, _, rfl, h⟩
        · have h := h2 q9
          refine aG_icmp (cd := .eq) (b := false) (decide_eq_false q9) rfl ?_
          refine aG_n 2 (s' := (90, [some (.ref 0), some (.int x1), some (.int (gi M 0 7))], [(.int (nI 1))], mkM M)) rfl ?_
          exact aG_retZ rfl rfl (Or.inr rfl) ⟨_, _, rfl, h⟩
      · have h := h2 q7
        refine aG_icmp (cd := .ne) (b := true) (aTne1 q7) rfl ?_
        refine aG_n 3 (s' := (81, [some (.ref 0), some (.int x1), some (.int (gi M 0 7))], [(.int (gi M 0 7)), (.ref 11)], mkM M)) rfl ?_
        obtain ⟨f10, h⟩ := h
        refine aG_iald rfl rfl rfl f10 ?_
        refine aG_n 0 (s' := (82, [some (.ref 0), some (.int x1), some (.int (gi M 0 7))], [(.int (gi M 11 (gi M 0 7).toNatClampNeg))], mkM M)) rfl ?_
        obtain ⟨h1, h2⟩ := h
        by_cases q11 : (gi M 11 (gi M 0 7).toNatClampNeg) ≤ (nI 0)
        · have h := h1 q11
          refine aG_if (cd := .le) (b := true) (decide_eq_true q11) rfl ?_
          refine aG_n 1 (s' := (90, [some (.ref 0), some (.int x1), some (.int (gi M 0 7))], [(.int (nI 0))], mkM M)) rfl ?_
          exact aG_retZ rfl rfl (Or.inl rfl) ⟨_, _, rfl, h⟩
        · have h := h2 q11
          refine aG_if (cd := .le) (b := false) (decide_eq_false q11) rfl ?_
          refine aG_n 2 (s' := (90, [some (.ref 0), some (.int x1), some (.int (gi M 0 7))], [(.int (nI 1))], mkM M)) rfl ?_
          exact aG_retZ rfl rfl (Or.inr rfl) ⟨_, _, rfl, h⟩
def w_X12_fault (M : wM) (Q : Int32 → wM → Prop) : Prop := Q (gi M 0 20) M
set_option maxRecDepth 20000 in
theorem wk_X12_fault {M : wM} {Q : Int32 → wM → Prop} (h : w_X12_fault M Q) : aG 58 (aEn 58 [(.ref 0)] (mkM M)) (aPi mkM Q) := by
  unfold w_X12_fault at h
  refine aG_n 2 (s' := (4, [some (.ref 0)], [(.int (gi M 0 20))], mkM M)) rfl ?_
  exact aG_ret0 rfl rfl ⟨_, _, rfl, h⟩
def w_X12_resets (x1 : Int32) (M : wM) (Q : wM → Prop) : Prop := vp_in x1 6 ∧ (vp_in (gi M 14 x1.toNatClampNeg) 6 ∧ (((gi M 2 (gi M 14 x1.toNatClampNeg).toNatClampNeg) = (-4) → vp_in x1 6 ∧ (Q (si M 15 x1.toNatClampNeg (nI 0)))) ∧ (¬ (gi M 2 (gi M 14 x1.toNatClampNeg).toNatClampNeg) = (-4) → vp_in x1 6 ∧ (Q (si M 15 x1.toNatClampNeg (nI 1))))))
set_option maxRecDepth 20000 in
theorem wk_X12_resets {x1 : Int32} {M : wM} {Q : wM → Prop} (h : w_X12_resets x1 M Q) : aG 59 (aEn 59 [(.ref 0), (.int x1)] (mkM M)) (aPv mkM Q) := by
  unfold w_X12_resets at h
  refine aG_n 8 (s' := (14, [some (.ref 0), some (.int x1)], [(.int x1), (.ref 14), (.ref 2), (.int x1), (.ref 15)], mkM M)) rfl ?_
  obtain ⟨f1, h⟩ := h
  refine aG_iald rfl rfl rfl f1 ?_
  refine aG_n 0 (s' := (15, [some (.ref 0), some (.int x1)], [(.int (gi M 14 x1.toNatClampNeg)), (.ref 2), (.int x1), (.ref 15)], mkM M)) rfl ?_
  obtain ⟨f2, h⟩ := h
  refine aG_iald rfl rfl rfl f2 ?_
  refine aG_n 1 (s' := (18, [some (.ref 0), some (.int x1)], [(.int (-4)), (.int (gi M 2 (gi M 14 x1.toNatClampNeg).toNatClampNeg)), (.int x1), (.ref 15)], mkM M)) rfl ?_
  obtain ⟨h1, h2⟩ := h
  by_cases q3 : (gi M 2 (gi M 14 x1.toNatClampNeg).toNatClampNeg) = (-4)
  · have h := h1 q3
    refine aG_icmp (cd := .eq) (b := true) (decide_eq_true q3) rfl ?_
    refine aG_n 1 (s' := (26, [some (.ref 0), some (.int x1)], [(.int (nI 0)), (.int x1), (.ref 15)], mkM M)) rfl ?_
    obtain ⟨f4, h⟩ := h
    refine aG_iast rfl rfl f4 ?_
    refine aG_n 0 (s' := (27, [some (.ref 0), some (.int x1)], [], mkM (si M 15 x1.toNatClampNeg (nI 0)))) rfl ?_
    exact aG_retV rfl rfl ⟨_, rfl, h⟩
  · have h := h2 q3
    refine aG_icmp (cd := .eq) (b := false) (decide_eq_false q3) rfl ?_
    refine aG_n 2 (s' := (26, [some (.ref 0), some (.int x1)], [(.int (nI 1)), (.int x1), (.ref 15)], mkM M)) rfl ?_
    obtain ⟨f5, h⟩ := h
    refine aG_iast rfl rfl f5 ?_
    refine aG_n 0 (s' := (27, [some (.ref 0), some (.int x1)], [], mkM (si M 15 x1.toNatClampNeg (nI 1)))) rfl ?_
    exact aG_retV rfl rfl ⟨_, rfl, h⟩
def w_X12_isOut (x1 : Int32) (x2 : Int32) (M : wM) (Q : Int32 → wM → Prop) : Prop := vp_in x1 6 ∧ (vp_in (gi M 14 x1.toNatClampNeg) 6 ∧ ((((jshr (gi M 6 (gi M 14 x1.toNatClampNeg).toNatClampNeg) x2) &&& (nI 1)) = (nI 1) → Q (nI 1) M) ∧ (¬ ((jshr (gi M 6 (gi M 14 x1.toNatClampNeg).toNatClampNeg) x2) &&& (nI 1)) = (nI 1) → Q (nI 0) M)))
set_option maxRecDepth 20000 in
theorem wk_X12_isOut {x1 : Int32} {x2 : Int32} {M : wM} {Q : Int32 → wM → Prop} (h : w_X12_isOut x1 x2 M Q) : aG 60 (aEn 60 [(.ref 0), (.int x1), (.int x2)] (mkM M)) (aPi mkM Q) := by
  unfold w_X12_isOut at h
  refine aG_n 5 (s' := (9, [some (.ref 0), some (.int x1), some (.int x2)], [(.int x1), (.ref 14), (.ref 6)], mkM M)) rfl ?_
  obtain ⟨f1, h⟩ := h
  refine aG_iald rfl rfl rfl f1 ?_
  refine aG_n 0 (s' := (10, [some (.ref 0), some (.int x1), some (.int x2)], [(.int (gi M 14 x1.toNatClampNeg)), (.ref 6)], mkM M)) rfl ?_
  obtain ⟨f2, h⟩ := h
  refine aG_iald rfl rfl rfl f2 ?_
  refine aG_n 5 (s' := (16, [some (.ref 0), some (.int x1), some (.int x2)], [(.int (nI 1)), (.int ((jshr (gi M 6 (gi M 14 x1.toNatClampNeg).toNatClampNeg) x2) &&& (nI 1)))], mkM M)) rfl ?_
  obtain ⟨h1, h2⟩ := h
  by_cases q3 : ((jshr (gi M 6 (gi M 14 x1.toNatClampNeg).toNatClampNeg) x2) &&& (nI 1)) = (nI 1)
  · have h := h1 q3
    refine aG_icmp (cd := .ne) (b := false) (aTne0 q3) rfl ?_
    refine aG_n 2 (s' := (24, [some (.ref 0), some (.int x1), some (.int x2)], [(.int (nI 1))], mkM M)) rfl ?_
    exact aG_retZ rfl rfl (Or.inr rfl) ⟨_, _, rfl, h⟩
  · have h := h2 q3
    refine aG_icmp (cd := .ne) (b := true) (aTne1 q3) rfl ?_
    refine aG_n 1 (s' := (24, [some (.ref 0), some (.int x1), some (.int x2)], [(.int (nI 0))], mkM M)) rfl ?_
    exact aG_retZ rfl rfl (Or.inl rfl) ⟨_, _, rfl, h⟩
def w_X12_isOpen (x1 : Int32) (x2 : Int32) (M : wM) (Q : Int32 → wM → Prop) : Prop := vp_in x1 6 ∧ ((((jshr (gi M 21 x1.toNatClampNeg) x2) &&& (nI 1)) = (nI 1) → Q (nI 1) M) ∧ (¬ ((jshr (gi M 21 x1.toNatClampNeg) x2) &&& (nI 1)) = (nI 1) → Q (nI 0) M))
set_option maxRecDepth 20000 in
theorem wk_X12_isOpen {x1 : Int32} {x2 : Int32} {M : wM} {Q : Int32 → wM → Prop} (h : w_X12_isOpen x1 x2 M Q) : aG 61 (aEn 61 [(.ref 0), (.int x1), (.int x2)] (mkM M)) (aPi mkM Q) := by
  unfold w_X12_isOpen at h
  refine aG_n 3 (s' := (5, [some (.ref 0), some (.int x1), some (.int x2)], [(.int x1), (.ref 21)], mkM M)) rfl ?_
  obtain ⟨f1, h⟩ := h
  refine aG_iald rfl rfl rfl f1 ?_
  refine aG_n 5 (s' := (11, [some (.ref 0), some (.int x1), some (.int x2)], [(.int (nI 1)), (.int ((jshr (gi M 21 x1.toNatClampNeg) x2) &&& (nI 1)))], mkM M)) rfl ?_
  obtain ⟨h1, h2⟩ := h
  by_cases q2 : ((jshr (gi M 21 x1.toNatClampNeg) x2) &&& (nI 1)) = (nI 1)
  · have h := h1 q2
    refine aG_icmp (cd := .ne) (b := false) (aTne0 q2) rfl ?_
    refine aG_n 2 (s' := (19, [some (.ref 0), some (.int x1), some (.int x2)], [(.int (nI 1))], mkM M)) rfl ?_
    exact aG_retZ rfl rfl (Or.inr rfl) ⟨_, _, rfl, h⟩
  · have h := h2 q2
    refine aG_icmp (cd := .ne) (b := true) (aTne1 q2) rfl ?_
    refine aG_n 1 (s' := (19, [some (.ref 0), some (.int x1), some (.int x2)], [(.int (nI 0))], mkM M)) rfl ?_
    exact aG_retZ rfl rfl (Or.inl rfl) ⟨_, _, rfl, h⟩
def w_X12_drives (x1 : Int32) (x2 : Int32) (M : wM) (Q : Int32 → wM → Prop) : Prop := vp_in x1 6 ∧ (((gi M 15 x1.toNatClampNeg) = (nI 3) → vp_in x1 6 ∧ (Q ((jshr (gi M 20 x1.toNatClampNeg) x2) &&& (nI 1)) M)) ∧ (¬ (gi M 15 x1.toNatClampNeg) = (nI 3) → Q (nI 0) M))
set_option maxRecDepth 20000 in
theorem wk_X12_drives {x1 : Int32} {x2 : Int32} {M : wM} {Q : Int32 → wM → Prop} (h : w_X12_drives x1 x2 M Q) : aG 62 (aEn 62 [(.ref 0), (.int x1), (.int x2)] (mkM M)) (aPi mkM Q) := by
  unfold w_X12_drives at h
  refine aG_n 3 (s' := (5, [some (.ref 0), some (.int x1), some (.int x2)], [(.int x1), (.ref 15)], mkM M)) rfl ?_
  obtain ⟨f1, h⟩ := h
  refine aG_iald rfl rfl rfl f1 ?_
  refine aG_n 1 (s' := (7, [some (.ref 0), some (.int x1), some (.int x2)], [(.int (nI 3)), (.int (gi M 15 x1.toNatClampNeg))], mkM M)) rfl ?_
  obtain ⟨h1, h2⟩ := h
  by_cases q2 : (gi M 15 x1.toNatClampNeg) = (nI 3)
  · have h := h1 q2
    refine aG_icmp (cd := .ne) (b := false) (aTne0 q2) rfl ?_
    refine aG_n 3 (s' := (15, [some (.ref 0), some (.int x1), some (.int x2)], [(.int x1), (.ref 20)], mkM M)) rfl ?_
    obtain ⟨f3, h⟩ := h
    refine aG_iald rfl rfl rfl f3 ?_
    refine aG_n 5 (s' := (24, [some (.ref 0), some (.int x1), some (.int x2)], [(.int ((jshr (gi M 20 x1.toNatClampNeg) x2) &&& (nI 1)))], mkM M)) rfl ?_
    exact aG_ret0 rfl rfl ⟨_, _, rfl, h⟩
  · have h := h2 q2
    refine aG_icmp (cd := .ne) (b := true) (aTne1 q2) rfl ?_
    refine aG_n 1 (s' := (24, [some (.ref 0), some (.int x1), some (.int x2)], [(.int (nI 0))], mkM M)) rfl ?_
    exact aG_ret0 rfl rfl ⟨_, _, rfl, h⟩
def w_X12_rowNow (x1 : Int32) (M : wM) (Q : Int32 → wM → Prop) : Prop := vp_in x1 6 ∧ (((gi M 15 x1.toNatClampNeg) = (nI 0) → vp_in x1 6 ∧ (Q (gi M 17 x1.toNatClampNeg) M)) ∧ (¬ (gi M 15 x1.toNatClampNeg) = (nI 0) → vp_in x1 6 ∧ (((gi M 15 x1.toNatClampNeg) = (nI 1) → vp_in x1 6 ∧ (Q (gi M 18 x1.toNatClampNeg) M)) ∧ (¬ (gi M 15 x1.toNatClampNeg) = (nI 1) → vp_in x1 6 ∧ (Q (gi M 19 x1.toNatClampNeg) M)))))
set_option maxRecDepth 20000 in
theorem wk_X12_rowNow {x1 : Int32} {M : wM} {Q : Int32 → wM → Prop} (h : w_X12_rowNow x1 M Q) : aG 63 (aEn 63 [(.ref 0), (.int x1)] (mkM M)) (aPi mkM Q) := by
  unfold w_X12_rowNow at h
  refine aG_n 3 (s' := (5, [some (.ref 0), some (.int x1)], [(.int x1), (.ref 15)], mkM M)) rfl ?_
  obtain ⟨f1, h⟩ := h
  refine aG_iald rfl rfl rfl f1 ?_
  refine aG_n 0 (s' := (6, [some (.ref 0), some (.int x1)], [(.int (gi M 15 x1.toNatClampNeg))], mkM M)) rfl ?_
  obtain ⟨h1, h2⟩ := h
  by_cases q2 : (gi M 15 x1.toNatClampNeg) = (nI 0)
  · have h := h1 q2
    refine aG_if (cd := .ne) (b := false) (aTne0 q2) rfl ?_
    refine aG_n 3 (s' := (14, [some (.ref 0), some (.int x1)], [(.int x1), (.ref 17)], mkM M)) rfl ?_
    obtain ⟨f3, h⟩ := h
    refine aG_iald rfl rfl rfl f3 ?_
    refine aG_n 1 (s' := (43, [some (.ref 0), some (.int x1)], [(.int (gi M 17 x1.toNatClampNeg))], mkM M)) rfl ?_
    exact aG_ret0 rfl rfl ⟨_, _, rfl, h⟩
  · have h := h2 q2
    refine aG_if (cd := .ne) (b := true) (aTne1 q2) rfl ?_
    refine aG_n 3 (s' := (23, [some (.ref 0), some (.int x1)], [(.int x1), (.ref 15)], mkM M)) rfl ?_
    obtain ⟨f4, h⟩ := h
    refine aG_iald rfl rfl rfl f4 ?_
    refine aG_n 1 (s' := (25, [some (.ref 0), some (.int x1)], [(.int (nI 1)), (.int (gi M 15 x1.toNatClampNeg))], mkM M)) rfl ?_
    obtain ⟨h1, h2⟩ := h
    by_cases q5 : (gi M 15 x1.toNatClampNeg) = (nI 1)
    · have h := h1 q5
      refine aG_icmp (cd := .ne) (b := false) (aTne0 q5) rfl ?_
      refine aG_n 3 (s' := (33, [some (.ref 0), some (.int x1)], [(.int x1), (.ref 18)], mkM M)) rfl ?_
      obtain ⟨f6, h⟩ := h
      refine aG_iald rfl rfl rfl f6 ?_
      refine aG_n 1 (s' := (43, [some (.ref 0), some (.int x1)], [(.int (gi M 18 x1.toNatClampNeg))], mkM M)) rfl ?_
      exact aG_ret0 rfl rfl ⟨_, _, rfl, h⟩
    · have h := h2 q5
      refine aG_icmp (cd := .ne) (b := true) (aTne1 q5) rfl ?_
      refine aG_n 3 (s' := (42, [some (.ref 0), some (.int x1)], [(.int x1), (.ref 19)], mkM M)) rfl ?_
      obtain ⟨f7, h⟩ := h
      refine aG_iald rfl rfl rfl f7 ?_
      refine aG_n 0 (s' := (43, [some (.ref 0), some (.int x1)], [(.int (gi M 19 x1.toNatClampNeg))], mkM M)) rfl ?_
      exact aG_ret0 rfl rfl ⟨_, _, rfl, h⟩
def w_X12_goes (x0 : Int32) (x1 : Int32) (M : wM) (Q : Int32 → wM → Prop) : Prop := (x0 = nI 0 → (x1 = (nI 0) → Q (nI 1) M) ∧ (¬ x1 = (nI 0) → Q (nI 0) M)) ∧ (¬ x0 = nI 0 → (x0 = nI 1 → (x1 = (nI 0) → Q (nI 1) M) ∧ (¬ x1 = (nI 0) → Q (nI 2) M)) ∧ (¬ x0 = nI 1 → (x0 = nI 2 → (x1 = (nI 0) → Q (nI 3) M) ∧ (¬ x1 = (nI 0) → Q (nI 9) M)) ∧ (¬ x0 = nI 2 → (x0 = nI 3 → (x1 = (nI 0) → Q (nI 4) M) ∧ (¬ x1 = (nI 0) → Q (nI 5) M)) ∧ (¬ x0 = nI 3 → (x0 = nI 4 → (x1 = (nI 0) → Q (nI 4) M) ∧ (¬ x1 = (nI 0) → Q (nI 5) M)) ∧ (¬ x0 = nI 4 → (x0 = nI 5 → (x1 = (nI 0) → Q (nI 6) M) ∧ (¬ x1 = (nI 0) → Q (nI 8) M)) ∧ (¬ x0 = nI 5 → (x0 = nI 6 → (x1 = (nI 0) → Q (nI 6) M) ∧ (¬ x1 = (nI 0) → Q (nI 7) M)) ∧ (¬ x0 = nI 6 → (x0 = nI 7 → (x1 = (nI 0) → Q (nI 4) M) ∧ (¬ x1 = (nI 0) → Q (nI 8) M)) ∧ (¬ x0 = nI 7 → (x0 = nI 8 → (x1 = (nI 0) → Q (nI 1) M) ∧ (¬ x1 = (nI 0) → Q (nI 2) M)) ∧ (¬ x0 = nI 8 → (x0 = nI 9 → (x1 = (nI 0) → Q (nI 10) M) ∧ (¬ x1 = (nI 0) → Q (nI 0) M)) ∧ (¬ x0 = nI 9 → (x0 = nI 10 → (x1 = (nI 0) → Q (nI 11) M) ∧ (¬ x1 = (nI 0) → Q (nI 12) M)) ∧ (¬ x0 = nI 10 → (x0 = nI 11 → (x1 = (nI 0) → Q (nI 11) M) ∧ (¬ x1 = (nI 0) → Q (nI 12) M)) ∧ (¬ x0 = nI 11 → (x0 = nI 12 → (x1 = (nI 0) → Q (nI 13) M) ∧ (¬ x1 = (nI 0) → Q (nI 15) M)) ∧ (¬ x0 = nI 12 → (x0 = nI 13 → (x1 = (nI 0) → Q (nI 13) M) ∧ (¬ x1 = (nI 0) → Q (nI 14) M)) ∧ (¬ x0 = nI 13 → (x0 = nI 14 → (x1 = (nI 0) → Q (nI 11) M) ∧ (¬ x1 = (nI 0) → Q (nI 15) M)) ∧ (¬ x0 = nI 14 → (x1 = (nI 0) → Q (nI 1) M) ∧ (¬ x1 = (nI 0) → Q (nI 2) M))))))))))))))))
set_option maxRecDepth 20000 in
theorem wk_X12_goes {x0 : Int32} {x1 : Int32} {M : wM} {Q : Int32 → wM → Prop} (h : w_X12_goes x0 x1 M Q) : aG 64 (aEn 64 [(.int x0), (.int x1)] (mkM M)) (aPi mkM Q) := by
  unfold w_X12_goes at h
  refine aG_n 1 (s' := (1, [some (.int x0), some (.int x1)], [(.int x0)], mkM M)) rfl ?_
  obtain ⟨h1, h⟩ := h
  by_cases q1 : x0 = nI 0
  · have h := h1 q1
    refine aG_tbl rfl (by rw [q1] <;> decide) (by rw [q1] <;> rfl) ?_
    refine aG_n 1 (s' := (77, [some (.int x0), some (.int x1)], [(.int x1)], mkM M)) rfl ?_
    obtain ⟨h1, h2⟩ := h
    by_cases q2 : x1 = (nI 0)
    · have h := h1 q2
      refine aG_if (cd := .eq) (b := true) (decide_eq_true q2) rfl ?_
      refine aG_n 1 (s' := (85, [some (.int x0), some (.int x1)], [(.int (nI 1))], mkM M)) rfl ?_
      exact aG_ret0 rfl rfl ⟨_, _, rfl, h⟩
    · have h := h2 q2
      refine aG_if (cd := .eq) (b := false) (decide_eq_false q2) rfl ?_
      refine aG_n 2 (s' := (85, [some (.int x0), some (.int x1)], [(.int (nI 0))], mkM M)) rfl ?_
      exact aG_ret0 rfl rfl ⟨_, _, rfl, h⟩
  have h := h q1
  obtain ⟨h1, h⟩ := h
  by_cases q3 : x0 = nI 1
  · have h := h1 q3
    refine aG_tbl rfl (by rw [q3] <;> decide) (by rw [q3] <;> rfl) ?_
    refine aG_n 1 (s' := (87, [some (.int x0), some (.int x1)], [(.int x1)], mkM M)) rfl ?_
    obtain ⟨h1, h2⟩ := h
    by_cases q4 : x1 = (nI 0)
    · have h := h1 q4
      refine aG_if (cd := .eq) (b := true) (decide_eq_true q4) rfl ?_
      refine aG_n 1 (s' := (95, [some (.int x0), some (.int x1)], [(.int (nI 1))], mkM M)) rfl ?_
      exact aG_ret0 rfl rfl ⟨_, _, rfl, h⟩
    · have h := h2 q4
      refine aG_if (cd := .eq) (b := false) (decide_eq_false q4) rfl ?_
      refine aG_n 2 (s' := (95, [some (.int x0), some (.int x1)], [(.int (nI 2))], mkM M)) rfl ?_
      exact aG_ret0 rfl rfl ⟨_, _, rfl, h⟩
  have h := h q3
  obtain ⟨h1, h⟩ := h
  by_cases q5 : x0 = nI 2
  · have h := h1 q5
    refine aG_tbl rfl (by rw [q5] <;> decide) (by rw [q5] <;> rfl) ?_
    refine aG_n 1 (s' := (97, [some (.int x0), some (.int x1)], [(.int x1)], mkM M)) rfl ?_
    obtain ⟨h1, h2⟩ := h
    by_cases q6 : x1 = (nI 0)
    · have h := h1 q6
      refine aG_if (cd := .eq) (b := true) (decide_eq_true q6) rfl ?_
      refine aG_n 1 (s' := (106, [some (.int x0), some (.int x1)], [(.int (nI 3))], mkM M)) rfl ?_
      exact aG_ret0 rfl rfl ⟨_, _, rfl, h⟩
    · have h := h2 q6
      refine aG_if (cd := .eq) (b := false) (decide_eq_false q6) rfl ?_
      refine aG_n 2 (s' := (106, [some (.int x0), some (.int x1)], [(.int (nI 9))], mkM M)) rfl ?_
      exact aG_ret0 rfl rfl ⟨_, _, rfl, h⟩
  have h := h q5
  obtain ⟨h1, h⟩ := h
  by_cases q7 : x0 = nI 3
  · have h := h1 q7
    refine aG_tbl rfl (by rw [q7] <;> decide) (by rw [q7] <;> rfl) ?_
    refine aG_n 1 (s' := (108, [some (.int x0), some (.int x1)], [(.int x1)], mkM M)) rfl ?_
    obtain ⟨h1, h2⟩ := h
    by_cases q8 : x1 = (nI 0)
    · have h := h1 q8
      refine aG_if (cd := .eq) (b := true) (decide_eq_true q8) rfl ?_
      refine aG_n 1 (s' := (116, [some (.int x0), some (.int x1)], [(.int (nI 4))], mkM M)) rfl ?_
      exact aG_ret0 rfl rfl ⟨_, _, rfl, h⟩
    · have h := h2 q8
      refine aG_if (cd := .eq) (b := false) (decide_eq_false q8) rfl ?_
      refine aG_n 2 (s' := (116, [some (.int x0), some (.int x1)], [(.int (nI 5))], mkM M)) rfl ?_
      exact aG_ret0 rfl rfl ⟨_, _, rfl, h⟩
  have h := h q7
  obtain ⟨h1, h⟩ := h
  by_cases q9 : x0 = nI 4
  · have h := h1 q9
    refine aG_tbl rfl (by rw [q9] <;> decide) (by rw [q9] <;> rfl) ?_
    refine aG_n 1 (s' := (118, [some (.int x0), some (.int x1)], [(.int x1)], mkM M)) rfl ?_
    obtain ⟨h1, h2⟩ := h
    by_cases q10 : x1 = (nI 0)
    · have h := h1 q10
      refine aG_if (cd := .eq) (b := true) (decide_eq_true q10) rfl ?_
      refine aG_n 1 (s' := (126, [some (.int x0), some (.int x1)], [(.int (nI 4))], mkM M)) rfl ?_
      exact aG_ret0 rfl rfl ⟨_, _, rfl, h⟩
    · have h := h2 q10
      refine aG_if (cd := .eq) (b := false) (decide_eq_false q10) rfl ?_
      refine aG_n 2 (s' := (126, [some (.int x0), some (.int x1)], [(.int (nI 5))], mkM M)) rfl ?_
      exact aG_ret0 rfl rfl ⟨_, _, rfl, h⟩
  have h := h q9
  obtain ⟨h1, h⟩ := h
  by_cases q11 : x0 = nI 5
  · have h := h1 q11
    refine aG_tbl rfl (by rw [q11] <;> decide) (by rw [q11] <;> rfl) ?_
    refine aG_n 1 (s' := (128, [some (.int x0), some (.int x1)], [(.int x1)], mkM M)) rfl ?_
    obtain ⟨h1, h2⟩ := h
    by_cases q12 : x1 = (nI 0)
    · have h := h1 q12
      refine aG_if (cd := .eq) (b := true) (decide_eq_true q12) rfl ?_
      refine aG_n 1 (s' := (138, [some (.int x0), some (.int x1)], [(.int (nI 6))], mkM M)) rfl ?_
      exact aG_ret0 rfl rfl ⟨_, _, rfl, h⟩
    · have h := h2 q12
      refine aG_if (cd := .eq) (b := false) (decide_eq_false q12) rfl ?_
      refine aG_n 2 (s' := (138, [some (.int x0), some (.int x1)], [(.int (nI 8))], mkM M)) rfl ?_
      exact aG_ret0 rfl rfl ⟨_, _, rfl, h⟩
  have h := h q11
  obtain ⟨h1, h⟩ := h
  by_cases q13 : x0 = nI 6
  · have h := h1 q13
    refine aG_tbl rfl (by rw [q13] <;> decide) (by rw [q13] <;> rfl) ?_
    refine aG_n 1 (s' := (140, [some (.int x0), some (.int x1)], [(.int x1)], mkM M)) rfl ?_
    obtain ⟨h1, h2⟩ := h
    by_cases q14 : x1 = (nI 0)
    · have h := h1 q14
      refine aG_if (cd := .eq) (b := true) (decide_eq_true q14) rfl ?_
      refine aG_n 1 (s' := (150, [some (.int x0), some (.int x1)], [(.int (nI 6))], mkM M)) rfl ?_
      exact aG_ret0 rfl rfl ⟨_, _, rfl, h⟩
    · have h := h2 q14
      refine aG_if (cd := .eq) (b := false) (decide_eq_false q14) rfl ?_
      refine aG_n 2 (s' := (150, [some (.int x0), some (.int x1)], [(.int (nI 7))], mkM M)) rfl ?_
      exact aG_ret0 rfl rfl ⟨_, _, rfl, h⟩
  have h := h q13
  obtain ⟨h1, h⟩ := h
  by_cases q15 : x0 = nI 7
  · have h := h1 q15
    refine aG_tbl rfl (by rw [q15] <;> decide) (by rw [q15] <;> rfl) ?_
    refine aG_n 1 (s' := (152, [some (.int x0), some (.int x1)], [(.int x1)], mkM M)) rfl ?_
    obtain ⟨h1, h2⟩ := h
    by_cases q16 : x1 = (nI 0)
    · have h := h1 q16
      refine aG_if (cd := .eq) (b := true) (decide_eq_true q16) rfl ?_
      refine aG_n 1 (s' := (161, [some (.int x0), some (.int x1)], [(.int (nI 4))], mkM M)) rfl ?_
      exact aG_ret0 rfl rfl ⟨_, _, rfl, h⟩
    · have h := h2 q16
      refine aG_if (cd := .eq) (b := false) (decide_eq_false q16) rfl ?_
      refine aG_n 2 (s' := (161, [some (.int x0), some (.int x1)], [(.int (nI 8))], mkM M)) rfl ?_
      exact aG_ret0 rfl rfl ⟨_, _, rfl, h⟩
  have h := h q15
  obtain ⟨h1, h⟩ := h
  by_cases q17 : x0 = nI 8
  · have h := h1 q17
    refine aG_tbl rfl (by rw [q17] <;> decide) (by rw [q17] <;> rfl) ?_
    refine aG_n 1 (s' := (163, [some (.int x0), some (.int x1)], [(.int x1)], mkM M)) rfl ?_
    obtain ⟨h1, h2⟩ := h
    by_cases q18 : x1 = (nI 0)
    · have h := h1 q18
      refine aG_if (cd := .eq) (b := true) (decide_eq_true q18) rfl ?_
      refine aG_n 1 (s' := (171, [some (.int x0), some (.int x1)], [(.int (nI 1))], mkM M)) rfl ?_
      exact aG_ret0 rfl rfl ⟨_, _, rfl, h⟩
    · have h := h2 q18
      refine aG_if (cd := .eq) (b := false) (decide_eq_false q18) rfl ?_
      refine aG_n 2 (s' := (171, [some (.int x0), some (.int x1)], [(.int (nI 2))], mkM M)) rfl ?_
      exact aG_ret0 rfl rfl ⟨_, _, rfl, h⟩
  have h := h q17
  obtain ⟨h1, h⟩ := h
  by_cases q19 : x0 = nI 9
  · have h := h1 q19
    refine aG_tbl rfl (by rw [q19] <;> decide) (by rw [q19] <;> rfl) ?_
    refine aG_n 1 (s' := (173, [some (.int x0), some (.int x1)], [(.int x1)], mkM M)) rfl ?_
    obtain ⟨h1, h2⟩ := h
    by_cases q20 : x1 = (nI 0)
    · have h := h1 q20
      refine aG_if (cd := .eq) (b := true) (decide_eq_true q20) rfl ?_
      refine aG_n 1 (s' := (182, [some (.int x0), some (.int x1)], [(.int (nI 10))], mkM M)) rfl ?_
      exact aG_ret0 rfl rfl ⟨_, _, rfl, h⟩
    · have h := h2 q20
      refine aG_if (cd := .eq) (b := false) (decide_eq_false q20) rfl ?_
      refine aG_n 2 (s' := (182, [some (.int x0), some (.int x1)], [(.int (nI 0))], mkM M)) rfl ?_
      exact aG_ret0 rfl rfl ⟨_, _, rfl, h⟩
  have h := h q19
  obtain ⟨h1, h⟩ := h
  by_cases q21 : x0 = nI 10
  · have h := h1 q21
    refine aG_tbl rfl (by rw [q21] <;> decide) (by rw [q21] <;> rfl) ?_
    refine aG_n 1 (s' := (184, [some (.int x0), some (.int x1)], [(.int x1)], mkM M)) rfl ?_
    obtain ⟨h1, h2⟩ := h
    by_cases q22 : x1 = (nI 0)
    · have h := h1 q22
      refine aG_if (cd := .eq) (b := true) (decide_eq_true q22) rfl ?_
      refine aG_n 1 (s' := (194, [some (.int x0), some (.int x1)], [(.int (nI 11))], mkM M)) rfl ?_
      exact aG_ret0 rfl rfl ⟨_, _, rfl, h⟩
    · have h := h2 q22
      refine aG_if (cd := .eq) (b := false) (decide_eq_false q22) rfl ?_
      refine aG_n 2 (s' := (194, [some (.int x0), some (.int x1)], [(.int (nI 12))], mkM M)) rfl ?_
      exact aG_ret0 rfl rfl ⟨_, _, rfl, h⟩
  have h := h q21
  obtain ⟨h1, h⟩ := h
  by_cases q23 : x0 = nI 11
  · have h := h1 q23
    refine aG_tbl rfl (by rw [q23] <;> decide) (by rw [q23] <;> rfl) ?_
    refine aG_n 1 (s' := (196, [some (.int x0), some (.int x1)], [(.int x1)], mkM M)) rfl ?_
    obtain ⟨h1, h2⟩ := h
    by_cases q24 : x1 = (nI 0)
    · have h := h1 q24
      refine aG_if (cd := .eq) (b := true) (decide_eq_true q24) rfl ?_
      refine aG_n 1 (s' := (206, [some (.int x0), some (.int x1)], [(.int (nI 11))], mkM M)) rfl ?_
      exact aG_ret0 rfl rfl ⟨_, _, rfl, h⟩
    · have h := h2 q24
      refine aG_if (cd := .eq) (b := false) (decide_eq_false q24) rfl ?_
      refine aG_n 2 (s' := (206, [some (.int x0), some (.int x1)], [(.int (nI 12))], mkM M)) rfl ?_
      exact aG_ret0 rfl rfl ⟨_, _, rfl, h⟩
  have h := h q23
  obtain ⟨h1, h⟩ := h
  by_cases q25 : x0 = nI 12
  · have h := h1 q25
    refine aG_tbl rfl (by rw [q25] <;> decide) (by rw [q25] <;> rfl) ?_
    refine aG_n 1 (s' := (208, [some (.int x0), some (.int x1)], [(.int x1)], mkM M)) rfl ?_
    obtain ⟨h1, h2⟩ := h
    by_cases q26 : x1 = (nI 0)
    · have h := h1 q26
      refine aG_if (cd := .eq) (b := true) (decide_eq_true q26) rfl ?_
      refine aG_n 1 (s' := (218, [some (.int x0), some (.int x1)], [(.int (nI 13))], mkM M)) rfl ?_
      exact aG_ret0 rfl rfl ⟨_, _, rfl, h⟩
    · have h := h2 q26
      refine aG_if (cd := .eq) (b := false) (decide_eq_false q26) rfl ?_
      refine aG_n 2 (s' := (218, [some (.int x0), some (.int x1)], [(.int (nI 15))], mkM M)) rfl ?_
      exact aG_ret0 rfl rfl ⟨_, _, rfl, h⟩
  have h := h q25
  obtain ⟨h1, h⟩ := h
  by_cases q27 : x0 = nI 13
  · have h := h1 q27
    refine aG_tbl rfl (by rw [q27] <;> decide) (by rw [q27] <;> rfl) ?_
    refine aG_n 1 (s' := (220, [some (.int x0), some (.int x1)], [(.int x1)], mkM M)) rfl ?_
    obtain ⟨h1, h2⟩ := h
    by_cases q28 : x1 = (nI 0)
    · have h := h1 q28
      refine aG_if (cd := .eq) (b := true) (decide_eq_true q28) rfl ?_
      refine aG_n 1 (s' := (230, [some (.int x0), some (.int x1)], [(.int (nI 13))], mkM M)) rfl ?_
      exact aG_ret0 rfl rfl ⟨_, _, rfl, h⟩
    · have h := h2 q28
      refine aG_if (cd := .eq) (b := false) (decide_eq_false q28) rfl ?_
      refine aG_n 2 (s' := (230, [some (.int x0), some (.int x1)], [(.int (nI 14))], mkM M)) rfl ?_
      exact aG_ret0 rfl rfl ⟨_, _, rfl, h⟩
  have h := h q27
  obtain ⟨h1, h⟩ := h
  by_cases q29 : x0 = nI 14
  · have h := h1 q29
    refine aG_tbl rfl (by rw [q29] <;> decide) (by rw [q29] <;> rfl) ?_
    refine aG_n 1 (s' := (232, [some (.int x0), some (.int x1)], [(.int x1)], mkM M)) rfl ?_
    obtain ⟨h1, h2⟩ := h
    by_cases q30 : x1 = (nI 0)
    · have h := h1 q30
      refine aG_if (cd := .eq) (b := true) (decide_eq_true q30) rfl ?_
      refine aG_n 1 (s' := (242, [some (.int x0), some (.int x1)], [(.int (nI 11))], mkM M)) rfl ?_
      exact aG_ret0 rfl rfl ⟨_, _, rfl, h⟩
    · have h := h2 q30
      refine aG_if (cd := .eq) (b := false) (decide_eq_false q30) rfl ?_
      refine aG_n 2 (s' := (242, [some (.int x0), some (.int x1)], [(.int (nI 15))], mkM M)) rfl ?_
      exact aG_ret0 rfl rfl ⟨_, _, rfl, h⟩
  have h := h q29
  refine aG_tbd rfl (tbl_out 14 (fun k hk _ => ?_) (by decide)) ?_
  · have hk2 : k = 0 ∨ k = 1 ∨ k = 2 ∨ k = 3 ∨ k = 4 ∨ k = 5 ∨ k = 6 ∨ k = 7 ∨ k = 8 ∨ k = 9 ∨ k = 10 ∨ k = 11 ∨ k = 12 ∨ k = 13 ∨ k = 14 := by omega
    rcases hk2 with rfl | rfl | rfl | rfl | rfl | rfl | rfl | rfl | rfl | rfl | rfl | rfl | rfl | rfl | rfl <;> assumption
  refine aG_n 1 (s' := (244, [some (.int x0), some (.int x1)], [(.int x1)], mkM M)) rfl ?_
  obtain ⟨h1, h2⟩ := h
  by_cases q31 : x1 = (nI 0)
  · have h := h1 q31
    refine aG_if (cd := .eq) (b := true) (decide_eq_true q31) rfl ?_
    refine aG_n 1 (s' := (252, [some (.int x0), some (.int x1)], [(.int (nI 1))], mkM M)) rfl ?_
    exact aG_ret0 rfl rfl ⟨_, _, rfl, h⟩
  · have h := h2 q31
    refine aG_if (cd := .eq) (b := false) (decide_eq_false q31) rfl ?_
    refine aG_n 2 (s' := (252, [some (.int x0), some (.int x1)], [(.int (nI 2))], mkM M)) rfl ?_
    exact aG_ret0 rfl rfl ⟨_, _, rfl, h⟩
def w_X12_through (x1 : Int32) (x2 : Int32) (M : wM) (Q : Int32 → wM → Prop) : Prop := vp_in x1 7 ∧ (((gi M 22 x1.toNatClampNeg) = (-4) → Q x2 M) ∧ (¬ (gi M 22 x1.toNatClampNeg) = (-4) → vp_in x1 7 ∧ (Q (gi M 22 x1.toNatClampNeg) M)))
set_option maxRecDepth 20000 in
theorem wk_X12_through {x1 : Int32} {x2 : Int32} {M : wM} {Q : Int32 → wM → Prop} (h : w_X12_through x1 x2 M Q) : aG 65 (aEn 65 [(.ref 0), (.int x1), (.int x2)] (mkM M)) (aPi mkM Q) := by
  unfold w_X12_through at h
  refine aG_n 3 (s' := (5, [some (.ref 0), some (.int x1), some (.int x2)], [(.int x1), (.ref 22)], mkM M)) rfl ?_
  obtain ⟨f1, h⟩ := h
  refine aG_iald rfl rfl rfl f1 ?_
  refine aG_n 1 (s' := (8, [some (.ref 0), some (.int x1), some (.int x2)], [(.int (-4)), (.int (gi M 22 x1.toNatClampNeg))], mkM M)) rfl ?_
  obtain ⟨h1, h2⟩ := h
  by_cases q2 : (gi M 22 x1.toNatClampNeg) = (-4)
  · have h := h1 q2
    refine aG_icmp (cd := .ne) (b := false) (aTne0 q2) rfl ?_
    refine aG_n 2 (s' := (21, [some (.ref 0), some (.int x1), some (.int x2)], [(.int x2)], mkM M)) rfl ?_
    exact aG_ret0 rfl rfl ⟨_, _, rfl, h⟩
  · have h := h2 q2
    refine aG_icmp (cd := .ne) (b := true) (aTne1 q2) rfl ?_
    refine aG_n 3 (s' := (20, [some (.ref 0), some (.int x1), some (.int x2)], [(.int x1), (.ref 22)], mkM M)) rfl ?_
    obtain ⟨f3, h⟩ := h
    refine aG_iald rfl rfl rfl f3 ?_
    refine aG_n 0 (s' := (21, [some (.ref 0), some (.int x1), some (.int x2)], [(.int (gi M 22 x1.toNatClampNeg))], mkM M)) rfl ?_
    exact aG_ret0 rfl rfl ⟨_, _, rfl, h⟩
def w_X12_shiftData (x1 : Int32) (x2 : Int32) (M : wM) (Q : wM → Prop) : Prop := vp_in x1 6 ∧ (((gi M 15 x1.toNatClampNeg) = (nI 0) → vp_in x1 6 ∧ (Q (si M 17 x1.toNatClampNeg x2))) ∧ (¬ (gi M 15 x1.toNatClampNeg) = (nI 0) → vp_in x1 6 ∧ (((gi M 15 x1.toNatClampNeg) = (nI 1) → vp_in x1 6 ∧ (vp_in x1 6 ∧ (Q (si M 18 x1.toNatClampNeg ((jushr (gi M 18 x1.toNatClampNeg) (nI 1)) ||| (jshl x2 (nI 31))))))) ∧ (¬ (gi M 15 x1.toNatClampNeg) = (nI 1) → vp_in x1 6 ∧ (vp_in x1 6 ∧ (vp_in (gi M 14 x1.toNatClampNeg) 6 ∧ (vp_in x1 6 ∧ (Q (si M 19 x1.toNatClampNeg ((jshr (gi M 19 x1.toNatClampNeg) (nI 1)) ||| (jshl x2 ((gi M 5 (gi M 14 x1.toNatClampNeg).toNatClampNeg) - (nI 1)))))))))))))
set_option maxRecDepth 20000 in
theorem wk_X12_shiftData {x1 : Int32} {x2 : Int32} {M : wM} {Q : wM → Prop} (h : w_X12_shiftData x1 x2 M Q) : aG 66 (aEn 66 [(.ref 0), (.int x1), (.int x2)] (mkM M)) (aPv mkM Q) := by
  unfold w_X12_shiftData at h
  refine aG_n 3 (s' := (5, [some (.ref 0), some (.int x1), some (.int x2)], [(.int x1), (.ref 15)], mkM M)) rfl ?_
  obtain ⟨f1, h⟩ := h
  refine aG_iald rfl rfl rfl f1 ?_
  refine aG_n 0 (s' := (6, [some (.ref 0), some (.int x1), some (.int x2)], [(.int (gi M 15 x1.toNatClampNeg))], mkM M)) rfl ?_
  obtain ⟨h1, h2⟩ := h
  by_cases q2 : (gi M 15 x1.toNatClampNeg) = (nI 0)
  · have h := h1 q2
    refine aG_if (cd := .ne) (b := false) (aTne0 q2) rfl ?_
    refine aG_n 4 (s' := (15, [some (.ref 0), some (.int x1), some (.int x2)], [(.int x2), (.int x1), (.ref 17)], mkM M)) rfl ?_
    obtain ⟨f3, h⟩ := h
    refine aG_iast rfl rfl f3 ?_
    refine aG_n 1 (s' := (81, [some (.ref 0), some (.int x1), some (.int x2)], [], mkM (si M 17 x1.toNatClampNeg x2))) rfl ?_
    exact aG_retV rfl rfl ⟨_, rfl, h⟩
  · have h := h2 q2
    refine aG_if (cd := .ne) (b := true) (aTne1 q2) rfl ?_
    refine aG_n 3 (s' := (24, [some (.ref 0), some (.int x1), some (.int x2)], [(.int x1), (.ref 15)], mkM M)) rfl ?_
    obtain ⟨f4, h⟩ := h
    refine aG_iald rfl rfl rfl f4 ?_
    refine aG_n 1 (s' := (26, [some (.ref 0), some (.int x1), some (.int x2)], [(.int (nI 1)), (.int (gi M 15 x1.toNatClampNeg))], mkM M)) rfl ?_
    obtain ⟨h1, h2⟩ := h
    by_cases q5 : (gi M 15 x1.toNatClampNeg) = (nI 1)
    · have h := h1 q5
      refine aG_icmp (cd := .ne) (b := false) (aTne0 q5) rfl ?_
      refine aG_n 6 (s' := (39, [some (.ref 0), some (.int x1), some (.int x2)], [(.int x1), (.ref 18), (.int x1), (.ref 18)], mkM M)) rfl ?_
      obtain ⟨f6, h⟩ := h
      refine aG_iald rfl rfl rfl f6 ?_
      refine aG_n 6 (s' := (47, [some (.ref 0), some (.int x1), some (.int x2)], [(.int ((jushr (gi M 18 x1.toNatClampNeg) (nI 1)) ||| (jshl x2 (nI 31)))), (.int x1), (.ref 18)], mkM M)) rfl ?_
      obtain ⟨f7, h⟩ := h
      refine aG_iast rfl rfl f7 ?_
      refine aG_n 1 (s' := (81, [some (.ref 0), some (.int x1), some (.int x2)], [], mkM (si M 18 x1.toNatClampNeg ((jushr (gi M 18 x1.toNatClampNeg) (nI 1)) ||| (jshl x2 (nI 31)))))) rfl ?_
      exact aG_retV rfl rfl ⟨_, rfl, h⟩
    · have h := h2 q5
      refine aG_icmp (cd := .ne) (b := true) (aTne1 q5) rfl ?_
      refine aG_n 6 (s' := (61, [some (.ref 0), some (.int x1), some (.int x2)], [(.int x1), (.ref 19), (.int x1), (.ref 19)], mkM M)) rfl ?_
      obtain ⟨f8, h⟩ := h
      refine aG_iald rfl rfl rfl f8 ?_
      refine aG_n 8 (s' := (74, [some (.ref 0), some (.int x1), some (.int x2)], [(.int x1), (.ref 14), (.ref 5), (.int x2), (.int (jshr (gi M 19 x1.toNatClampNeg) (nI 1))), (.int x1), (.ref 19)], mkM M)) rfl ?_
      obtain ⟨f9, h⟩ := h
      refine aG_iald rfl rfl rfl f9 ?_
      refine aG_n 0 (s' := (75, [some (.ref 0), some (.int x1), some (.int x2)], [(.int (gi M 14 x1.toNatClampNeg)), (.ref 5), (.int x2), (.int (jshr (gi M 19 x1.toNatClampNeg) (nI 1))), (.int x1), (.ref 19)], mkM M)) rfl ?_
      obtain ⟨f10, h⟩ := h
      refine aG_iald rfl rfl rfl f10 ?_
      refine aG_n 4 (s' := (80, [some (.ref 0), some (.int x1), some (.int x2)], [(.int ((jshr (gi M 19 x1.toNatClampNeg) (nI 1)) ||| (jshl x2 ((gi M 5 (gi M 14 x1.toNatClampNeg).toNatClampNeg) - (nI 1))))), (.int x1), (.ref 19)], mkM M)) rfl ?_
      obtain ⟨f11, h⟩ := h
      refine aG_iast rfl rfl f11 ?_
      refine aG_n 0 (s' := (81, [some (.ref 0), some (.int x1), some (.int x2)], [], mkM (si M 19 x1.toNatClampNeg ((jshr (gi M 19 x1.toNatClampNeg) (nI 1)) ||| (jshl x2 ((gi M 5 (gi M 14 x1.toNatClampNeg).toNatClampNeg) - (nI 1))))))) rfl ?_
      exact aG_retV rfl rfl ⟨_, rfl, h⟩
def w_X12_orderBy (x1 : Int32) (M : wM) (Q : Int32 → wM → Prop) : Prop := vp_in x1 6 ∧ (vp_in x1 6 ∧ (vp_in (gi M 14 x1.toNatClampNeg) 6 ∧ (vp_in (gi M 14 x1.toNatClampNeg) 6 ∧ (((gi M 16 x1.toNatClampNeg) = (gi M 4 (gi M 14 x1.toNatClampNeg).toNatClampNeg) → Q (nI 3) M) ∧ (¬ (gi M 16 x1.toNatClampNeg) = (gi M 4 (gi M 14 x1.toNatClampNeg).toNatClampNeg) → vp_in (gi M 14 x1.toNatClampNeg) 6 ∧ (((gi M 16 x1.toNatClampNeg) = (gi M 3 (gi M 14 x1.toNatClampNeg).toNatClampNeg) → Q (nI 2) M) ∧ (¬ (gi M 16 x1.toNatClampNeg) = (gi M 3 (gi M 14 x1.toNatClampNeg).toNatClampNeg) → ((gi M 16 x1.toNatClampNeg) = (((jshl (nI 1) (gi M 1 (gi M 14 x1.toNatClampNeg).toNatClampNeg)) - (nI 1)) - (nI 1)) → vp_in (gi M 14 x1.toNatClampNeg) 6 ∧ (((gi M 2 (gi M 14 x1.toNatClampNeg).toNatClampNeg) = (-4) → Q (nI 0) M) ∧ (¬ (gi M 2 (gi M 14 x1.toNatClampNeg).toNatClampNeg) = (-4) → Q (nI 1) M))) ∧ (¬ (gi M 16 x1.toNatClampNeg) = (((jshl (nI 1) (gi M 1 (gi M 14 x1.toNatClampNeg).toNatClampNeg)) - (nI 1)) - (nI 1)) → Q (nI 0) M))))))))
set_option maxRecDepth 20000 in
theorem wk_X12_orderBy {x1 : Int32} {M : wM} {Q : Int32 → wM → Prop} (h : w_X12_orderBy x1 M Q) : aG 67 (aEn 67 [(.ref 0), (.int x1)] (mkM M)) (aPi mkM Q) := by
  unfold w_X12_orderBy at h
  refine aG_n 3 (s' := (5, [some (.ref 0), some (.int x1), none, none, none], [(.int x1), (.ref 14)], mkM M)) rfl ?_
  obtain ⟨f1, h⟩ := h
  refine aG_iald rfl rfl rfl f1 ?_
  refine aG_n 4 (s' := (12, [some (.ref 0), some (.int x1), some (.int (gi M 14 x1.toNatClampNeg)), none, none], [(.int x1), (.ref 16)], mkM M)) rfl ?_
  obtain ⟨f2, h⟩ := h
  refine aG_iald rfl rfl rfl f2 ?_
  refine aG_n 5 (s' := (20, [some (.ref 0), some (.int x1), some (.int (gi M 14 x1.toNatClampNeg)), some (.int (gi M 16 x1.toNatClampNeg)), none], [(.int (gi M 14 x1.toNatClampNeg)), (.ref 1), (.int (nI 1))], mkM M)) rfl ?_
  obtain ⟨f3, h⟩ := h
  refine aG_iald rfl rfl rfl f3 ?_
  refine aG_n 8 (s' := (32, [some (.ref 0), some (.int x1), some (.int (gi M 14 x1.toNatClampNeg)), some (.int (gi M 16 x1.toNatClampNeg)), some (.int ((jshl (nI 1) (gi M 1 (gi M 14 x1.toNatClampNeg).toNatClampNeg)) - (nI 1)))], [(.int (gi M 14 x1.toNatClampNeg)), (.ref 4), (.int (gi M 16 x1.toNatClampNeg))], mkM M)) rfl ?_
  obtain ⟨f4, h⟩ := h
  refine aG_iald rfl rfl rfl f4 ?_
  refine aG_n 0 (s' := (33, [some (.ref 0), some (.int x1), some (.int (gi M 14 x1.toNatClampNeg)), some (.int (gi M 16 x1.toNatClampNeg)), some (.int ((jshl (nI 1) (gi M 1 (gi M 14 x1.toNatClampNeg).toNatClampNeg)) - (nI 1)))], [(.int (gi M 4 (gi M 14 x1.toNatClampNeg).toNatClampNeg)), (.int (gi M 16 x1.toNatClampNeg))], mkM M)) rfl ?_
  obtain ⟨h1, h2⟩ := h
  by_cases q5 : (gi M 16 x1.toNatClampNeg) = (gi M 4 (gi M 14 x1.toNatClampNeg).toNatClampNeg)
  · have h := h1 q5
    refine aG_icmp (cd := .ne) (b := false) (aTne0 q5) rfl ?_
    refine aG_n 2 (s' := (78, [some (.ref 0), some (.int x1), some (.int (gi M 14 x1.toNatClampNeg)), some (.int (gi M 16 x1.toNatClampNeg)), some (.int ((jshl (nI 1) (gi M 1 (gi M 14 x1.toNatClampNeg).toNatClampNeg)) - (nI 1)))], [(.int (nI 3))], mkM M)) rfl ?_
    exact aG_ret0 rfl rfl ⟨_, _, rfl, h⟩
  · have h := h2 q5
    refine aG_icmp (cd := .ne) (b := true) (aTne1 q5) rfl ?_
    refine aG_n 4 (s' := (46, [some (.ref 0), some (.int x1), some (.int (gi M 14 x1.toNatClampNeg)), some (.int (gi M 16 x1.toNatClampNeg)), some (.int ((jshl (nI 1) (gi M 1 (gi M 14 x1.toNatClampNeg).toNatClampNeg)) - (nI 1)))], [(.int (gi M 14 x1.toNatClampNeg)), (.ref 3), (.int (gi M 16 x1.toNatClampNeg))], mkM M)) rfl ?_
    obtain ⟨f6, h⟩ := h
    refine aG_iald rfl rfl rfl f6 ?_
    refine aG_n 0 (s' := (47, [some (.ref 0), some (.int x1), some (.int (gi M 14 x1.toNatClampNeg)), some (.int (gi M 16 x1.toNatClampNeg)), some (.int ((jshl (nI 1) (gi M 1 (gi M 14 x1.toNatClampNeg).toNatClampNeg)) - (nI 1)))], [(.int (gi M 3 (gi M 14 x1.toNatClampNeg).toNatClampNeg)), (.int (gi M 16 x1.toNatClampNeg))], mkM M)) rfl ?_
    obtain ⟨h1, h2⟩ := h
    by_cases q7 : (gi M 16 x1.toNatClampNeg) = (gi M 3 (gi M 14 x1.toNatClampNeg).toNatClampNeg)
    · have h := h1 q7
      refine aG_icmp (cd := .ne) (b := false) (aTne0 q7) rfl ?_
      refine aG_n 2 (s' := (78, [some (.ref 0), some (.int x1), some (.int (gi M 14 x1.toNatClampNeg)), some (.int (gi M 16 x1.toNatClampNeg)), some (.int ((jshl (nI 1) (gi M 1 (gi M 14 x1.toNatClampNeg).toNatClampNeg)) - (nI 1)))], [(.int (nI 2))], mkM M)) rfl ?_
      exact aG_ret0 rfl rfl ⟨_, _, rfl, h⟩
    · have h := h2 q7
      refine aG_icmp (cd := .ne) (b := true) (aTne1 q7) rfl ?_
      refine aG_n 4 (s' := (59, [some (.ref 0), some (.int x1), some (.int (gi M 14 x1.toNatClampNeg)), some (.int (gi M 16 x1.toNatClampNeg)), some (.int ((jshl (nI 1) (gi M 1 (gi M 14 x1.toNatClampNeg).toNatClampNeg)) - (nI 1)))], [(.int (((jshl (nI 1) (gi M 1 (gi M 14 x1.toNatClampNeg).toNatClampNeg)) - (nI 1)) - (nI 1))), (.int (gi M 16 x1.toNatClampNeg))], mkM M)) rfl ?_
      obtain ⟨h1, h2⟩ := h
      by_cases q8 : (gi M 16 x1.toNatClampNeg) = (((jshl (nI 1) (gi M 1 (gi M 14 x1.toNatClampNeg).toNatClampNeg)) - (nI 1)) - (nI 1))
      · have h := h1 q8
        refine aG_icmp (cd := .ne) (b := false) (aTne0 q8) rfl ?_
        refine aG_n 3 (s' := (67, [some (.ref 0), some (.int x1), some (.int (gi M 14 x1.toNatClampNeg)), some (.int (gi M 16 x1.toNatClampNeg)), some (.int ((jshl (nI 1) (gi M 1 (gi M 14 x1.toNatClampNeg).toNatClampNeg)) - (nI 1)))], [(.int (gi M 14 x1.toNatClampNeg)), (.ref 2)], mkM M)) rfl ?_
        obtain ⟨f9, h⟩ := h
        refine aG_iald rfl rfl rfl f9 ?_
        refine aG_n 1 (s' := (70, [some (.ref 0), some (.int x1), some (.int (gi M 14 x1.toNatClampNeg)), some (.int (gi M 16 x1.toNatClampNeg)), some (.int ((jshl (nI 1) (gi M 1 (gi M 14 x1.toNatClampNeg).toNatClampNeg)) - (nI 1)))], [(.int (-4)), (.int (gi M 2 (gi M 14 x1.toNatClampNeg).toNatClampNeg))], mkM M)) rfl ?_
        obtain ⟨h1, h2⟩ := h
        by_cases q10 : (gi M 2 (gi M 14 x1.toNatClampNeg).toNatClampNeg) = (-4)
        · have h := h1 q10
          refine aG_icmp (cd := .eq) (b := true) (decide_eq_true q10) rfl ?_
          refine aG_n 1 (s' := (78, [some (.ref 0), some (.int x1), some (.int (gi M 14 x1.toNatClampNeg)), some (.int (gi M 16 x1.toNatClampNeg)), some (.int ((jshl (nI 1) (gi M 1 (gi M 14 x1.toNatClampNeg).toNatClampNeg)) - (nI 1)))], [(.int (nI 0))], mkM M)) rfl ?_
          exact aG_ret0 rfl rfl ⟨_, _, rfl, h⟩
        · have h := h2 q10
          refine aG_icmp (cd := .eq) (b := false) (decide_eq_false q10) rfl ?_
          refine aG_n 2 (s' := (78, [some (.ref 0), some (.int x1), some (.int (gi M 14 x1.toNatClampNeg)), some (.int (gi M 16 x1.toNatClampNeg)), some (.int ((jshl (nI 1) (gi M 1 (gi M 14 x1.toNatClampNeg).toNatClampNeg)) - (nI 1)))], [(.int (nI 1))], mkM M)) rfl ?_
          exact aG_ret0 rfl rfl ⟨_, _, rfl, h⟩
      · have h := h2 q8
        refine aG_icmp (cd := .ne) (b := true) (aTne1 q8) rfl ?_
        refine aG_n 1 (s' := (78, [some (.ref 0), some (.int x1), some (.int (gi M 14 x1.toNatClampNeg)), some (.int (gi M 16 x1.toNatClampNeg)), some (.int ((jshl (nI 1) (gi M 1 (gi M 14 x1.toNatClampNeg).toNatClampNeg)) - (nI 1)))], [(.int (nI 0))], mkM M)) rfl ?_
        exact aG_ret0 rfl rfl ⟨_, _, rfl, h⟩
def w_X12_now (x1 : Int32) (M : wM) (Q : Int32 → wM → Prop) : Prop := (x1 = (nI 0) → Q (gi M 0 33) M) ∧ (¬ x1 = (nI 0) → (x1 = (nI 1) → Q (gi M 0 34) M) ∧ (¬ x1 = (nI 1) → Q (-1) M))
set_option maxRecDepth 20000 in
theorem wk_X12_now {x1 : Int32} {M : wM} {Q : Int32 → wM → Prop} (h : w_X12_now x1 M Q) : aG 68 (aEn 68 [(.ref 0), (.int x1)] (mkM M)) (aPi mkM Q) := by
  unfold w_X12_now at h
  refine aG_n 1 (s' := (1, [some (.ref 0), some (.int x1)], [(.int x1)], mkM M)) rfl ?_
  obtain ⟨h1, h2⟩ := h
  by_cases q1 : x1 = (nI 0)
  · have h := h1 q1
    refine aG_if (cd := .ne) (b := false) (aTne0 q1) rfl ?_
    refine aG_n 3 (s' := (24, [some (.ref 0), some (.int x1)], [(.int (gi M 0 33))], mkM M)) rfl ?_
    exact aG_ret0 rfl rfl ⟨_, _, rfl, h⟩
  · have h := h2 q1
    refine aG_if (cd := .ne) (b := true) (aTne1 q1) rfl ?_
    refine aG_n 2 (s' := (13, [some (.ref 0), some (.int x1)], [(.int (nI 1)), (.int x1)], mkM M)) rfl ?_
    obtain ⟨h1, h2⟩ := h
    by_cases q2 : x1 = (nI 1)
    · have h := h1 q2
      refine aG_icmp (cd := .ne) (b := false) (aTne0 q2) rfl ?_
      refine aG_n 3 (s' := (24, [some (.ref 0), some (.int x1)], [(.int (gi M 0 34))], mkM M)) rfl ?_
      exact aG_ret0 rfl rfl ⟨_, _, rfl, h⟩
    · have h := h2 q2
      refine aG_icmp (cd := .ne) (b := true) (aTne1 q2) rfl ?_
      refine aG_n 1 (s' := (24, [some (.ref 0), some (.int x1)], [(.int (-1))], mkM M)) rfl ?_
      exact aG_ret0 rfl rfl ⟨_, _, rfl, h⟩
def w_X12_log (x1 : Int32) (M : wM) (Q : Int32 → wM → Prop) : Prop := ((nI 0) ≤ x1 → ((gi M 0 38) ≤ x1 → Q (-4) M) ∧ (¬ (gi M 0 38) ≤ x1 → vp_in x1 100 ∧ (Q (gi M 25 x1.toNatClampNeg) M))) ∧ (¬ (nI 0) ≤ x1 → Q (-1) M)
set_option maxRecDepth 20000 in
theorem wk_X12_log {x1 : Int32} {M : wM} {Q : Int32 → wM → Prop} (h : w_X12_log x1 M Q) : aG 69 (aEn 69 [(.ref 0), (.int x1)] (mkM M)) (aPi mkM Q) := by
  unfold w_X12_log at h
  refine aG_n 1 (s' := (1, [some (.ref 0), some (.int x1)], [(.int x1)], mkM M)) rfl ?_
  obtain ⟨h1, h2⟩ := h
  by_cases q1 : (nI 0) ≤ x1
  · have h := h1 q1
    refine aG_if (cd := .ge) (b := true) (decide_eq_true q1) rfl ?_
    refine aG_n 3 (s' := (13, [some (.ref 0), some (.int x1)], [(.int (gi M 0 38)), (.int x1)], mkM M)) rfl ?_
    obtain ⟨h1, h2⟩ := h
    by_cases q2 : (gi M 0 38) ≤ x1
    · have h := h1 q2
      refine aG_icmp (cd := .ge) (b := true) (decide_eq_true q2) rfl ?_
      refine aG_n 1 (s' := (27, [some (.ref 0), some (.int x1)], [(.int (-4))], mkM M)) rfl ?_
      exact aG_ret0 rfl rfl ⟨_, _, rfl, h⟩
    · have h := h2 q2
      refine aG_icmp (cd := .ge) (b := false) (decide_eq_false q2) rfl ?_
      refine aG_n 3 (s' := (21, [some (.ref 0), some (.int x1)], [(.int x1), (.ref 25)], mkM M)) rfl ?_
      obtain ⟨f3, h⟩ := h
      refine aG_iald rfl rfl rfl f3 ?_
      refine aG_n 1 (s' := (27, [some (.ref 0), some (.int x1)], [(.int (gi M 25 x1.toNatClampNeg))], mkM M)) rfl ?_
      exact aG_ret0 rfl rfl ⟨_, _, rfl, h⟩
  · have h := h2 q1
    refine aG_if (cd := .ge) (b := false) (decide_eq_false q1) rfl ?_
    refine aG_n 2 (s' := (27, [some (.ref 0), some (.int x1)], [(.int (-1))], mkM M)) rfl ?_
    exact aG_ret0 rfl rfl ⟨_, _, rfl, h⟩
def wb_X12_net_25 (K25 : Int32 → wM → Prop) (y1 : Int32) (M : wM) (Q : Int32 → wM → Prop) : Prop := ((nI 8) ≤ y1 → Q ((((gi M 0 41) + (nI 1))) - (nI 1)) (si M 0 41 ((gi M 0 41) + (nI 1)))) ∧ (¬ (nI 8) ≤ y1 → vp_in (((nI 8) * (gi M 0 41)) + y1) 64 ∧ (vp_in (((nI 8) * y1) + (gi M 0 41)) 64 ∧ (K25 (y1 + (nI 1)) (si (si M 28 (((nI 8) * (gi M 0 41)) + y1).toNatClampNeg (nI 0)) 28 (((nI 8) * y1) + (gi M 0 41)).toNatClampNeg (nI 0)))))
set_option maxRecDepth 20000 in
theorem wbk_X12_net_25 {K25 : Int32 → wM → Prop} {y1 : Int32} {M : wM} {Q : Int32 → wM → Prop} (hK25 : ∀ (v1 : Int32) (M : wM), K25 v1 M → aG 70 (25, [some (.ref 0), some (.int v1)], [], mkM M) (aPi mkM Q)) (h : wb_X12_net_25 K25 y1 M Q) : aG 70 (25, [some (.ref 0), some (.int y1)], [], mkM M) (aPi mkM Q) := by
  unfold wb_X12_net_25 at h
  refine aG_n 2 (s' := (28, [some (.ref 0), some (.int y1)], [(.int (nI 8)), (.int y1)], mkM M)) rfl ?_
  obtain ⟨h1, h2⟩ := h
  by_cases q3 : (nI 8) ≤ y1
  · have h := h1 q3
    refine aG_icmp (cd := .ge) (b := true) (decide_eq_true q3) rfl ?_
    refine aG_n 10 (s' := (83, [some (.ref 0), some (.int y1)], [(.int ((((gi M 0 41) + (nI 1))) - (nI 1)))], mkM (si M 0 41 ((gi M 0 41) + (nI 1))))) rfl ?_
    exact aG_ret0 rfl rfl ⟨_, _, rfl, h⟩
  · have h := h2 q3
    refine aG_icmp (cd := .ge) (b := false) (decide_eq_false q3) rfl ?_
    refine aG_n 9 (s' := (45, [some (.ref 0), some (.int y1)], [(.int (nI 0)), (.int (((nI 8) * (gi M 0 41)) + y1)), (.ref 28)], mkM M)) rfl ?_
    obtain ⟨f4, h⟩ := h
    refine aG_iast rfl rfl f4 ?_
    refine aG_n 9 (s' := (60, [some (.ref 0), some (.int y1)], [(.int (nI 0)), (.int (((nI 8) * y1) + (gi M 0 41))), (.ref 28)], mkM (si M 28 (((nI 8) * (gi M 0 41)) + y1).toNatClampNeg (nI 0)))) rfl ?_
    obtain ⟨f5, h⟩ := h
    refine aG_iast rfl rfl f5 ?_
    refine aG_n 2 (s' := (25, [some (.ref 0), some (.int (y1 + (nI 1)))], [], mkM (si (si M 28 (((nI 8) * (gi M 0 41)) + y1).toNatClampNeg (nI 0)) 28 (((nI 8) * y1) + (gi M 0 41)).toNatClampNeg (nI 0)))) rfl ?_
    refine aG_le (a := [some (.ref 0), some (.int (y1 + (nI 1)))]) ⟨rfl, ⟨rfl, trivial⟩⟩ ?_
    exact hK25 _ _ h
def wL_X12_net_25 (Q : Int32 → wM → Prop) : Nat → Int32 → wM → Prop
  | 0, _, _ => False
  | n + 1, y1, M => wb_X12_net_25 (wL_X12_net_25 Q n) y1 M Q
set_option maxRecDepth 20000 in
theorem wLk_X12_net_25 {Q : Int32 → wM → Prop} : ∀ (n : Nat) (y1 : Int32) (M : wM), wL_X12_net_25 Q n y1 M → aG 70 (25, [some (.ref 0), some (.int y1)], [], mkM M) (aPi mkM Q)
  | 0, _, _, h => h.elim
  | n + 1, y1, M, h => wbk_X12_net_25 (fun y1 M h => wLk_X12_net_25 n y1 M h) h
def w_X12_net (M : wM) (Q : Int32 → wM → Prop) : Prop := ((gi M 0 41) = (nI 8) → Q (-3) M) ∧ (¬ (gi M 0 41) = (nI 8) → vp_in (gi M 0 41) 8 ∧ (∃ n, wL_X12_net_25 Q n (nI 0) (si M 27 (gi M 0 41).toNatClampNeg (-4))))
set_option maxRecDepth 20000 in
theorem wk_X12_net {M : wM} {Q : Int32 → wM → Prop} (h : w_X12_net M Q) : aG 70 (aEn 70 [(.ref 0)] (mkM M)) (aPi mkM Q) := by
  unfold w_X12_net at h
  refine aG_n 3 (s' := (6, [some (.ref 0), none], [(.int (nI 8)), (.int (gi M 0 41))], mkM M)) rfl ?_
  obtain ⟨h1, h2⟩ := h
  by_cases q1 : (gi M 0 41) = (nI 8)
  · have h := h1 q1
    refine aG_icmp (cd := .ne) (b := false) (aTne0 q1) rfl ?_
    refine aG_n 1 (s' := (11, [some (.ref 0), none], [(.int (-3))], mkM M)) rfl ?_
    exact aG_ret0 rfl rfl ⟨_, _, rfl, h⟩
  · have h := h2 q1
    refine aG_icmp (cd := .ne) (b := true) (aTne1 q1) rfl ?_
    refine aG_n 5 (s' := (22, [some (.ref 0), none], [(.int (-4)), (.int (gi M 0 41)), (.ref 27)], mkM M)) rfl ?_
    obtain ⟨f2, h⟩ := h
    refine aG_iast rfl rfl f2 ?_
    refine aG_n 2 (s' := (25, [some (.ref 0), some (.int (nI 0))], [], mkM (si M 27 (gi M 0 41).toNatClampNeg (-4)))) rfl ?_
    refine aG_le (a := [some (.ref 0), some (.int (nI 0))]) ⟨rfl, ⟨rfl, trivial⟩⟩ ?_
    obtain ⟨n, h⟩ := h
    exact wLk_X12_net_25 n _ _ h
