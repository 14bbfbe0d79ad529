/-! methods as predicates, and their walks (by gen/wpgen.py) -/
def wb_X12_findPath_75 (z1 : Int32) (z2 : Int32) (K21 : Int32 → wM → Prop) (K40 : Int32 → wM → Prop) (K75 : Int32 → Int32 → wM → Prop) (y4 : Int32) (y5 : Int32) (M : wM) (Q : wM → Prop) : Prop := ((gi M 0 36) ≤ y5 → (y4 = z2 → K40 (nI 1) M) ∧ (¬ y4 = z2 → K40 (nI 0) M)) ∧ (¬ (gi M 0 36) ≤ y5 → (((jshr (gi M 0 37) y5) &&& (nI 1)) = (nI 1) → w_X12_goes y4 (nI 1) M (fun r8 M9 => K75 r8 (y5 + (nI 1)) M9)) ∧ (¬ ((jshr (gi M 0 37) y5) &&& (nI 1)) = (nI 1) → w_X12_goes y4 (nI 0) M (fun r10 M11 => K75 r10 (y5 + (nI 1)) M11)))
set_option maxRecDepth 20000 in
theorem wbk_X12_findPath_75 {z1 : Int32} {z2 : Int32} {K21 : Int32 → wM → Prop} {K40 : Int32 → wM → Prop} {K75 : Int32 → Int32 → wM → Prop} {y4 : Int32} {y5 : Int32} {M : wM} {Q : wM → Prop} (hK21 : ∀ (v3 : Int32) (M : wM), K21 v3 M → aG 124 (21, [some (.ref 0), some (.int z1), some (.int z2), some (.int v3), none, none], [], mkM M) (aPv mkM Q)) (hK40 : ∀ (v3 : Int32) (M : wM), K40 v3 M → aG 124 (40, [some (.ref 0), some (.int z1), some (.int z2), some (.int v3), none, none], [], mkM M) (aPv mkM Q)) (hK75 : ∀ (v4 : Int32) (v5 : Int32) (M : wM), K75 v4 v5 M → aG 124 (75, [some (.ref 0), some (.int z1), some (.int z2), none, some (.int v4), some (.int v5)], [], mkM M) (aPv mkM Q)) (h : wb_X12_findPath_75 z1 z2 K21 K40 K75 y4 y5 M Q) : aG 124 (75, [some (.ref 0), some (.int z1), some (.int z2), none, some (.int y4), some (.int y5)], [], mkM M) (aPv mkM Q) := by
  unfold wb_X12_findPath_75 at h
  refine aG_n 3 (s' := (81, [some (.ref 0), some (.int z1), some (.int z2), none, some (.int y4), some (.int y5)], [(.int (gi M 0 36)), (.int y5)], mkM M)) rfl ?_
  obtain ⟨h1, h2⟩ := h
  by_cases q5 : (gi M 0 36) ≤ y5
  · have h := h1 q5
    refine aG_icmp (cd := .ge) (b := true) (decide_eq_true q5) rfl ?_
    refine aG_n 2 (s' := (118, [some (.ref 0), some (.int z1), some (.int z2), none, some (.int y4), some (.int y5)], [(.int z2), (.int y4)], mkM M)) rfl ?_
    obtain ⟨h1, h2⟩ := h
    by_cases q6 : y4 = z2
    · have h := h1 q6
      refine aG_icmp (cd := .ne) (b := false) (aTne0 q6) rfl ?_
      refine aG_n 4 (s' := (40, [some (.ref 0), some (.int z1), some (.int z2), some (.int (nI 1)), some (.int y4), some (.int y5)], [], mkM M)) rfl ?_
      refine aG_le (a := [some (.ref 0), some (.int z1), some (.int z2), some (.int (nI 1)), none, none]) ⟨rfl, ⟨rfl, ⟨rfl, ⟨rfl, trivial⟩⟩⟩⟩ ?_
      exact hK40 _ _ h
    · have h := h2 q6
      refine aG_icmp (cd := .ne) (b := true) (aTne1 q6) rfl ?_
      refine aG_n 3 (s' := (40, [some (.ref 0), some (.int z1), some (.int z2), some (.int (nI 0)), some (.int y4), some (.int y5)], [], mkM M)) rfl ?_
      refine aG_le (a := [some (.ref 0), some (.int z1), some (.int z2), some (.int (nI 0)), none, none]) ⟨rfl, ⟨rfl, ⟨rfl, ⟨rfl, trivial⟩⟩⟩⟩ ?_
      exact hK40 _ _ h
  · have h := h2 q5
    refine aG_icmp (cd := .ge) (b := false) (decide_eq_false q5) rfl ?_
    refine aG_n 8 (s' := (96, [some (.ref 0), some (.int z1), some (.int z2), none, some (.int y4), some (.int y5)], [(.int (nI 1)), (.int ((jshr (gi M 0 37) y5) &&& (nI 1))), (.int y4)], mkM M)) rfl ?_
    obtain ⟨h1, h2⟩ := h
    by_cases q7 : ((jshr (gi M 0 37) y5) &&& (nI 1)) = (nI 1)
    · have h := h1 q7
      refine aG_icmp (cd := .ne) (b := false) (aTne0 q7) rfl ?_
      refine aG_n 2 (s' := (104, [some (.ref 0), some (.int z1), some (.int z2), none, some (.int y4), some (.int y5)], [(.int (nI 1)), (.int y4)], mkM M)) rfl ?_
      refine aG_call rfl rfl (aG_mono (wk_X12_goes h) ?_)
      rintro _ ⟨r8, M9, rfl, h⟩
      refine aG_n 3 (s' := (75, [some (.ref 0), some (.int z1), some (.int z2), none, some (.int r8), some (.int (y5 + (nI 1)))], [], mkM M9)) rfl ?_
      refine aG_le (a := [some (.ref 0), some (.int z1), some (.int z2), none, some (.int r8), some (.int (y5 + (nI 1)))]) ⟨rfl, ⟨rfl, ⟨rfl, ⟨rfl, ⟨rfl, trivial⟩⟩⟩⟩⟩ ?_
      exact hK75 _ _ _ h
    · have h := h2 q7
      refine aG_icmp (cd := .ne) (b := true) (aTne1 q7) rfl ?_
      refine aG_n 1 (s' := (104, [some (.ref 0), some (.int z1), some (.int z2), none, some (.int y4), some (.int y5)], [(.int (nI 0)), (.int y4)], mkM M)) rfl ?_
      refine aG_call rfl rfl (aG_mono (wk_X12_goes h) ?_)
      rintro _ ⟨r10, M11, rfl, h⟩
      refine aG_n 3 (s' := (75, [some (.ref 0), some (.int z1), some (.int z2), none, some (.int r10), some (.int (y5 + (nI 1)))], [], mkM M11)) rfl ?_
      refine aG_le (a := [some (.ref 0), some (.int z1), some (.int z2), none, some (.int r10), some (.int (y5 + (nI 1)))]) ⟨rfl, ⟨rfl, ⟨rfl, ⟨rfl, ⟨rfl, trivial⟩⟩⟩⟩⟩ ?_
      exact hK75 _ _ _ h
def wL_X12_findPath_75 (z1 : Int32) (z2 : Int32) (K21 : Int32 → wM → Prop) (K40 : Int32 → wM → Prop) (Q : wM → Prop) : Nat → Int32 → Int32 → wM → Prop
  | 0, _, _, _ => False
  | n + 1, y4, y5, M => wb_X12_findPath_75 z1 z2 K21 K40 (wL_X12_findPath_75 z1 z2 K21 K40 Q n) y4 y5 M Q
set_option maxRecDepth 20000 in
theorem wLk_X12_findPath_75 {z1 : Int32} {z2 : Int32} {K21 : Int32 → wM → Prop} {K40 : Int32 → wM → Prop} {Q : wM → Prop} (hK21 : ∀ (v3 : Int32) (M : wM), K21 v3 M → aG 124 (21, [some (.ref 0), some (.int z1), some (.int z2), some (.int v3), none, none], [], mkM M) (aPv mkM Q)) (hK40 : ∀ (v3 : Int32) (M : wM), K40 v3 M → aG 124 (40, [some (.ref 0), some (.int z1), some (.int z2), some (.int v3), none, none], [], mkM M) (aPv mkM Q)) : ∀ (n : Nat) (y4 : Int32) (y5 : Int32) (M : wM), wL_X12_findPath_75 z1 z2 K21 K40 Q n y4 y5 M → aG 124 (75, [some (.ref 0), some (.int z1), some (.int z2), none, some (.int y4), some (.int y5)], [], mkM M) (aPv mkM Q)
  | 0, _, _, _, h => h.elim
  | n + 1, y4, y5, M, h => wbk_X12_findPath_75 hK21 hK40 (fun y4 y5 M h => wLk_X12_findPath_75 hK21 hK40 n y4 y5 M h) h
def wb_X12_findPath_40 (z1 : Int32) (z2 : Int32) (K21 : Int32 → wM → Prop) (K40 : Int32 → wM → Prop) (y3 : Int32) (M : wM) (Q : wM → Prop) : Prop := (y3 = (nI 0) → ((jshl (nI 1) (gi M 0 36)) ≤ ((gi M 0 37) + (nI 1)) → K21 y3 M) ∧ (¬ (jshl (nI 1) (gi M 0 36)) ≤ ((gi M 0 37) + (nI 1)) → ∃ n, wL_X12_findPath_75 z1 z2 K21 K40 Q n z1 (nI 0) (si M 0 37 ((gi M 0 37) + (nI 1))))) ∧ (¬ y3 = (nI 0) → K21 y3 M)
set_option maxRecDepth 20000 in
theorem wbk_X12_findPath_40 {z1 : Int32} {z2 : Int32} {K21 : Int32 → wM → Prop} {K40 : Int32 → wM → Prop} {y3 : Int32} {M : wM} {Q : wM → Prop} (hK21 : ∀ (v3 : Int32) (M : wM), K21 v3 M → aG 124 (21, [some (.ref 0), some (.int z1), some (.int z2), some (.int v3), none, none], [], mkM M) (aPv mkM Q)) (hK40 : ∀ (v3 : Int32) (M : wM), K40 v3 M → aG 124 (40, [some (.ref 0), some (.int z1), some (.int z2), some (.int v3), none, none], [], mkM M) (aPv mkM Q)) (h : wb_X12_findPath_40 z1 z2 K21 K40 y3 M Q) : aG 124 (40, [some (.ref 0), some (.int z1), some (.int z2), some (.int y3), none, none], [], mkM M) (aPv mkM Q) := by
  unfold wb_X12_findPath_40 at h
  refine aG_n 1 (s' := (41, [some (.ref 0), some (.int z1), some (.int z2), some (.int y3), none, none], [(.int y3)], mkM M)) rfl ?_
  obtain ⟨h1, h2⟩ := h
  by_cases q3 : y3 = (nI 0)
  · have h := h1 q3
    refine aG_if (cd := .ne) (b := false) (aTne0 q3) rfl ?_
    refine aG_n 8 (s' := (56, [some (.ref 0), some (.int z1), some (.int z2), some (.int y3), none, none], [(.int (jshl (nI 1) (gi M 0 36))), (.int ((gi M 0 37) + (nI 1)))], mkM M)) rfl ?_
    obtain ⟨h1, h2⟩ := h
    by_cases q4 : (jshl (nI 1) (gi M 0 36)) ≤ ((gi M 0 37) + (nI 1))
    · have h := h1 q4
      refine aG_icmp (cd := .ge) (b := true) (decide_eq_true q4) rfl ?_
      refine aG_n 0 (s' := (21, [some (.ref 0), some (.int z1), some (.int z2), some (.int y3), none, none], [], mkM M)) rfl ?_
      refine aG_le (a := [some (.ref 0), some (.int z1), some (.int z2), some (.int y3), none, none]) ⟨rfl, ⟨rfl, ⟨rfl, ⟨rfl, trivial⟩⟩⟩⟩ ?_
      exact hK21 _ _ h
    · have h := h2 q4
      refine aG_icmp (cd := .ge) (b := false) (decide_eq_false q4) rfl ?_
      refine aG_n 10 (s' := (75, [some (.ref 0), some (.int z1), some (.int z2), some (.int y3), some (.int z1), some (.int (nI 0))], [], mkM (si M 0 37 ((gi M 0 37) + (nI 1))))) rfl ?_
      refine aG_le (a := [some (.ref 0), some (.int z1), some (.int z2), none, some (.int z1), some (.int (nI 0))]) ⟨rfl, ⟨rfl, ⟨rfl, ⟨rfl, ⟨rfl, trivial⟩⟩⟩⟩⟩ ?_
      obtain ⟨n, h⟩ := h
      exact wLk_X12_findPath_75 hK21 hK40 n _ _ _ h
  · have h := h2 q3
    refine aG_if (cd := .ne) (b := true) (aTne1 q3) rfl ?_
    refine aG_n 0 (s' := (21, [some (.ref 0), some (.int z1), some (.int z2), some (.int y3), none, none], [], mkM M)) rfl ?_
    refine aG_le (a := [some (.ref 0), some (.int z1), some (.int z2), some (.int y3), none, none]) ⟨rfl, ⟨rfl, ⟨rfl, ⟨rfl, trivial⟩⟩⟩⟩ ?_
    exact hK21 _ _ h
def wL_X12_findPath_40 (z1 : Int32) (z2 : Int32) (K21 : Int32 → wM → Prop) (Q : wM → Prop) : Nat → Int32 → wM → Prop
  | 0, _, _ => False
  | n + 1, y3, M => wb_X12_findPath_40 z1 z2 K21 (wL_X12_findPath_40 z1 z2 K21 Q n) y3 M Q
set_option maxRecDepth 20000 in
theorem wLk_X12_findPath_40 {z1 : Int32} {z2 : Int32} {K21 : Int32 → wM → Prop} {Q : wM → Prop} (hK21 : ∀ (v3 : Int32) (M : wM), K21 v3 M → aG 124 (21, [some (.ref 0), some (.int z1), some (.int z2), some (.int v3), none, none], [], mkM M) (aPv mkM Q)) : ∀ (n : Nat) (y3 : Int32) (M : wM), wL_X12_findPath_40 z1 z2 K21 Q n y3 M → aG 124 (40, [some (.ref 0), some (.int z1), some (.int z2), some (.int y3), none, none], [], mkM M) (aPv mkM Q)
  | 0, _, _, h => h.elim
  | n + 1, y3, M, h => wbk_X12_findPath_40 hK21 (fun y3 M h => wLk_X12_findPath_40 hK21 n y3 M h) h
def wb_X12_findPath_21 (z1 : Int32) (z2 : Int32) (K21 : Int32 → wM → Prop) (y3 : Int32) (M : wM) (Q : wM → Prop) : Prop := (y3 = (nI 0) → ∃ n, wL_X12_findPath_40 z1 z2 K21 Q n y3 (si (si M 0 36 ((gi M 0 36) + (nI 1))) 0 37 (-1))) ∧ (¬ y3 = (nI 0) → Q M)
set_option maxRecDepth 20000 in
theorem wbk_X12_findPath_21 {z1 : Int32} {z2 : Int32} {K21 : Int32 → wM → Prop} {y3 : Int32} {M : wM} {Q : wM → Prop} (hK21 : ∀ (v3 : Int32) (M : wM), K21 v3 M → aG 124 (21, [some (.ref 0), some (.int z1), some (.int z2), some (.int v3), none, none], [], mkM M) (aPv mkM Q)) (h : wb_X12_findPath_21 z1 z2 K21 y3 M Q) : aG 124 (21, [some (.ref 0), some (.int z1), some (.int z2), some (.int y3), none, none], [], mkM M) (aPv mkM Q) := by
  unfold wb_X12_findPath_21 at h
  refine aG_n 1 (s' := (22, [some (.ref 0), some (.int z1), some (.int z2), some (.int y3), none, none], [(.int y3)], mkM M)) rfl ?_
  obtain ⟨h1, h2⟩ := h
  by_cases q2 : y3 = (nI 0)
  · have h := h1 q2
    refine aG_if (cd := .ne) (b := false) (aTne0 q2) rfl ?_
    refine aG_n 9 (s' := (40, [some (.ref 0), some (.int z1), some (.int z2), some (.int y3), none, none], [], mkM (si (si M 0 36 ((gi M 0 36) + (nI 1))) 0 37 (-1)))) rfl ?_
    refine aG_le (a := [some (.ref 0), some (.int z1), some (.int z2), some (.int y3), none, none]) ⟨rfl, ⟨rfl, ⟨rfl, ⟨rfl, trivial⟩⟩⟩⟩ ?_
    obtain ⟨n, h⟩ := h
    exact wLk_X12_findPath_40 hK21 n _ _ h
  · have h := h2 q2
    refine aG_if (cd := .ne) (b := true) (aTne1 q2) rfl ?_
    refine aG_n 0 (s' := (130, [some (.ref 0), some (.int z1), some (.int z2), some (.int y3), none, none], [], mkM M)) rfl ?_
    exact aG_retV rfl rfl ⟨_, rfl, h⟩
def wL_X12_findPath_21 (z1 : Int32) (z2 : Int32) (Q : wM → Prop) : Nat → Int32 → wM → Prop
  | 0, _, _ => False
  | n + 1, y3, M => wb_X12_findPath_21 z1 z2 (wL_X12_findPath_21 z1 z2 Q n) y3 M Q
set_option maxRecDepth 20000 in
theorem wLk_X12_findPath_21 {z1 : Int32} {z2 : Int32} {Q : wM → Prop} : ∀ (n : Nat) (y3 : Int32) (M : wM), wL_X12_findPath_21 z1 z2 Q n y3 M → aG 124 (21, [some (.ref 0), some (.int z1), some (.int z2), some (.int y3), none, none], [], mkM M) (aPv mkM Q)
  | 0, _, _, h => h.elim
  | n + 1, y3, M, h => wbk_X12_findPath_21 (fun y3 M h => wLk_X12_findPath_21 n y3 M h) h
def wj_X12_findPath_20 (z1 : Int32) (z2 : Int32) (s0 : Int32) (M : wM) (Q : wM → Prop) : Prop := ∃ n, wL_X12_findPath_21 z1 z2 Q n s0 M
set_option maxRecDepth 20000 in
theorem wjk_X12_findPath_20 {z1 : Int32} {z2 : Int32} {s0 : Int32} {M : wM} {Q : wM → Prop} (h : wj_X12_findPath_20 z1 z2 s0 M Q) : aG 124 (20, [some (.ref 0), some (.int z1), some (.int z2), none, none, none], [(.int s0)], mkM M) (aPv mkM Q) := by
  unfold wj_X12_findPath_20 at h
  refine aG_n 1 (s' := (21, [some (.ref 0), some (.int z1), some (.int z2), some (.int s0), none, none], [], mkM M)) rfl ?_
  refine aG_le (a := [some (.ref 0), some (.int z1), some (.int z2), some (.int s0), none, none]) ⟨rfl, ⟨rfl, ⟨rfl, ⟨rfl, trivial⟩⟩⟩⟩ ?_
  obtain ⟨n, h⟩ := h
  exact wLk_X12_findPath_21 n _ _ h
def w_X12_findPath (x1 : Int32) (x2 : Int32) (M : wM) (Q : wM → Prop) : Prop := (x1 = x2 → wj_X12_findPath_20 x1 x2 (nI 1) (si (si M 0 36 (nI 0)) 0 37 (nI 0)) Q) ∧ (¬ x1 = x2 → wj_X12_findPath_20 x1 x2 (nI 0) (si (si M 0 36 (nI 0)) 0 37 (nI 0)) Q)
set_option maxRecDepth 20000 in
theorem wk_X12_findPath {x1 : Int32} {x2 : Int32} {M : wM} {Q : wM → Prop} (h : w_X12_findPath x1 x2 M Q) : aG 124 (aEn 124 [(.ref 0), (.int x1), (.int x2)] (mkM M)) (aPv mkM Q) := by
  unfold w_X12_findPath at h
  refine aG_n 8 (s' := (12, [some (.ref 0), some (.int x1), some (.int x2), none, none, none], [(.int x2), (.int x1)], mkM (si (si M 0 36 (nI 0)) 0 37 (nI 0)))) rfl ?_
  obtain ⟨h1, h2⟩ := h
  by_cases q1 : x1 = x2
  · have h := h1 q1
    refine aG_icmp (cd := .ne) (b := false) (aTne0 q1) rfl ?_
    refine aG_n 2 (s' := (20, [some (.ref 0), some (.int x1), some (.int x2), none, none, none], [(.int (nI 1))], mkM (si (si M 0 36 (nI 0)) 0 37 (nI 0)))) rfl ?_
    refine aG_le (a := [some (.ref 0), some (.int x1), some (.int x2), none, none, none]) ⟨rfl, ⟨rfl, ⟨rfl, trivial⟩⟩⟩ ?_
    exact wjk_X12_findPath_20 h
  · have h := h2 q1
    refine aG_icmp (cd := .ne) (b := true) (aTne1 q1) rfl ?_
    refine aG_n 1 (s' := (20, [some (.ref 0), some (.int x1), some (.int x2), none, none, none], [(.int (nI 0))], mkM (si (si M 0 36 (nI 0)) 0 37 (nI 0)))) rfl ?_
    refine aG_le (a := [some (.ref 0), some (.int x1), some (.int x2), none, none, none]) ⟨rfl, ⟨rfl, ⟨rfl, trivial⟩⟩⟩ ?_
    exact wjk_X12_findPath_20 h
def w_X12_isNet (x1 : Int32) (M : wM) (Q : Int32 → wM → Prop) : Prop := w_X12_in x1.toInt64 (lN 0) ((gi M 0 41) - (nI 1)).toInt64 M (fun r1 M2 => (r1 = nI 0 ∨ r1 = nI 1) ∧ Q r1 M2)
set_option maxRecDepth 20000 in
theorem wk_X12_isNet {x1 : Int32} {M : wM} {Q : Int32 → wM → Prop} (h : w_X12_isNet x1 M Q) : aG 125 (aEn 125 [(.ref 0), (.int x1)] (mkM M)) (aPi mkM Q) := by
  unfold w_X12_isNet at h
  refine aG_n 8 (s' := (10, [some (.ref 0), some (.int x1)], [(.long ((gi M 0 41) - (nI 1)).toInt64), (.long (lN 0)), (.long x1.toInt64)], mkM M)) rfl ?_
  refine aG_call rfl rfl (aG_mono (wk_X12_in h) ?_)
  rintro _ ⟨r1, M2, rfl, h⟩
  refine aG_n 0 (s' := (13, [some (.ref 0), some (.int x1)], [(.int r1)], mkM M2)) rfl ?_
  exact aG_retZ rfl rfl h.1 ⟨_, _, rfl, h.2⟩
def wb_X12_ownOf_15 (z1 : Int32) (z3 : Int32) (K4 : Int32 → Int32 → wM → Prop) (K15 : Int32 → Int32 → wM → Prop) (y2 : Int32) (y4 : Int32) (M : wM) (Q : Int32 → wM → Prop) : Prop := vp_in z3 6 ∧ (vp_in (gi M 14 z3.toNatClampNeg) 6 ∧ (((gi M 5 (gi M 14 z3.toNatClampNeg).toNatClampNeg) ≤ y4 → K4 y2 (z3 + (nI 1)) M) ∧ (¬ (gi M 5 (gi M 14 z3.toNatClampNeg).toNatClampNeg) ≤ y4 → vp_in (((nI 10) * z3) + y4) 60 ∧ (((gi M 23 (((nI 10) * z3) + y4).toNatClampNeg) = z1 → w_X12_isOut z3 y4 M (fun r7 M8 => (r7 = (nI 0) → K15 y2 (y4 + (nI 1)) M8) ∧ (¬ r7 = (nI 0) → w_X12_isOpen z3 y4 M8 (fun r10 M11 => (r10 = (nI 0) → w_X12_drives z3 y4 M11 (fun r13 M14 => K15 (y2 &&& r13) (y4 + (nI 1)) M14)) ∧ (¬ r10 = (nI 0) → K15 y2 (y4 + (nI 1)) M11))))) ∧ (¬ (gi M 23 (((nI 10) * z3) + y4).toNatClampNeg) = z1 → K15 y2 (y4 + (nI 1)) M)))))
set_option maxRecDepth 20000 in
theorem wbk_X12_ownOf_15 {z1 : Int32} {z3 : Int32} {K4 : Int32 → Int32 → wM → Prop} {K15 : Int32 → Int32 → wM → Prop} {y2 : Int32} {y4 : Int32} {M : wM} {Q : Int32 → wM → Prop} (hK4 : ∀ (v2 : Int32) (v3 : Int32) (M : wM), K4 v2 v3 M → aG 126 (4, [some (.ref 0), some (.int z1), some (.int v2), some (.int v3), none], [], mkM M) (aPi mkM Q)) (hK15 : ∀ (v2 : Int32) (v4 : Int32) (M : wM), K15 v2 v4 M → aG 126 (15, [some (.ref 0), some (.int z1), some (.int v2), some (.int z3), some (.int v4)], [], mkM M) (aPi mkM Q)) (h : wb_X12_ownOf_15 z1 z3 K4 K15 y2 y4 M Q) : aG 126 (15, [some (.ref 0), some (.int z1), some (.int y2), some (.int z3), some (.int y4)], [], mkM M) (aPi mkM Q) := by
  unfold wb_X12_ownOf_15 at h
  refine aG_n 6 (s' := (26, [some (.ref 0), some (.int z1), some (.int y2), some (.int z3), some (.int y4)], [(.int z3), (.ref 14), (.ref 5), (.int y4)], mkM M)) rfl ?_
  obtain ⟨f2, h⟩ := h
  refine aG_iald rfl rfl rfl f2 ?_
  refine aG_n 0 (s' := (27, [some (.ref 0), some (.int z1), some (.int y2), some (.int z3), some (.int y4)], [(.int (gi M 14 z3.toNatClampNeg)), (.ref 5), (.int y4)], mkM M)) rfl ?_
  obtain ⟨f3, h⟩ := h
  refine aG_iald rfl rfl rfl f3 ?_
  refine aG_n 0 (s' := (28, [some (.ref 0), some (.int z1), some (.int y2), some (.int z3), some (.int y4)], [(.int (gi M 5 (gi M 14 z3.toNatClampNeg).toNatClampNeg)), (.int y4)], mkM M)) rfl ?_
  obtain ⟨h1, h2⟩ := h
  by_cases q4 : (gi M 5 (gi M 14 z3.toNatClampNeg).toNatClampNeg) ≤ y4
  · have h := h1 q4
    refine aG_icmp (cd := .ge) (b := true) (decide_eq_true q4) rfl ?_
    refine aG_n 2 (s' := (4, [some (.ref 0), some (.int z1), some (.int y2), some (.int (z3 + (nI 1))), some (.int y4)], [], mkM M)) rfl ?_
    refine aG_le (a := [some (.ref 0), some (.int z1), some (.int y2), some (.int (z3 + (nI 1))), none]) ⟨rfl, ⟨rfl, ⟨rfl, ⟨rfl, trivial⟩⟩⟩⟩ ?_
    exact hK4 _ _ _ h
  · have h := h2 q4
    refine aG_icmp (cd := .ge) (b := false) (decide_eq_false q4) rfl ?_
    refine aG_n 7 (s' := (42, [some (.ref 0), some (.int z1), some (.int y2), some (.int z3), some (.int y4)], [(.int (((nI 10) * z3) + y4)), (.ref 23)], mkM M)) rfl ?_
    obtain ⟨f5, h⟩ := h
    refine aG_iald rfl rfl rfl f5 ?_
    refine aG_n 1 (s' := (44, [some (.ref 0), some (.int z1), some (.int y2), some (.int z3), some (.int y4)], [(.int z1), (.int (gi M 23 (((nI 10) * z3) + y4).toNatClampNeg))], mkM M)) rfl ?_
    obtain ⟨h1, h2⟩ := h
    by_cases q6 : (gi M 23 (((nI 10) * z3) + y4).toNatClampNeg) = z1
    · have h := h1 q6
      refine aG_icmp (cd := .ne) (b := false) (aTne0 q6) rfl ?_
      refine aG_n 3 (s' := (51, [some (.ref 0), some (.int z1), some (.int y2), some (.int z3), some (.int y4)], [(.int y4), (.int z3), (.ref 0)], mkM M)) rfl ?_
      refine aG_call rfl rfl (aG_mono (wk_X12_isOut h) ?_)
      rintro _ ⟨r7, M8, rfl, h⟩
      refine aG_n 0 (s' := (54, [some (.ref 0), some (.int z1), some (.int y2), some (.int z3), some (.int y4)], [(.int r7)], mkM M8)) rfl ?_
      obtain ⟨h1, h2⟩ := h
      by_cases q9 : r7 = (nI 0)
      · have h := h1 q9
        refine aG_if (cd := .eq) (b := true) (decide_eq_true q9) rfl ?_
        refine aG_n 4 (s' := (15, [some (.ref 0), some (.int z1), some (.int y2), some (.int z3), some (.int (y4 + (nI 1)))], [], mkM M8)) rfl ?_
        refine aG_le (a := [some (.ref 0), some (.int z1), some (.int y2), some (.int z3), some (.int (y4 + (nI 1)))]) ⟨rfl, ⟨rfl, ⟨rfl, ⟨rfl, ⟨rfl, trivial⟩⟩⟩⟩⟩ ?_
        exact hK15 _ _ _ h
      · have h := h2 q9
        refine aG_if (cd := .eq) (b := false) (decide_eq_false q9) rfl ?_
        refine aG_n 3 (s' := (61, [some (.ref 0), some (.int z1), some (.int y2), some (.int z3), some (.int y4)], [(.int y4), (.int z3), (.ref 0)], mkM M8)) rfl ?_
        refine aG_call rfl rfl (aG_mono (wk_X12_isOpen h) ?_)
        rintro _ ⟨r10, M11, rfl, h⟩
        refine aG_n 0 (s' := (64, [some (.ref 0), some (.int z1), some (.int y2), some (.int z3), some (.int y4)], [(.int r10)], mkM M11)) rfl ?_
        obtain ⟨h1, h2⟩ := h
        by_cases q12 : r10 = (nI 0)
        · have h := h1 q12
          refine aG_if (cd := .ne) (b := false) (aTne0 q12) rfl ?_
          refine aG_n 4 (s' := (72, [some (.ref 0), some (.int z1), some (.int y2), some (.int z3), some (.int y4)], [(.int y4), (.int z3), (.ref 0), (.int y2)], mkM M11)) rfl ?_
          refine aG_call rfl rfl (aG_mono (wk_X12_drives h) ?_)
          rintro _ ⟨r13, M14, rfl, h⟩
          refine aG_n 5 (s' := (15, [some (.ref 0), some (.int z1), some (.int (y2 &&& r13)), some (.int z3), some (.int (y4 + (nI 1)))], [], mkM M14)) rfl ?_
          refine aG_le (a := [some (.ref 0), some (.int z1), some (.int (y2 &&& r13)), some (.int z3), some (.int (y4 + (nI 1)))]) ⟨rfl, ⟨rfl, ⟨rfl, ⟨rfl, ⟨rfl, trivial⟩⟩⟩⟩⟩ ?_
          exact hK15 _ _ _ h
        · have h := h2 q12
          refine aG_if (cd := .ne) (b := true) (aTne1 q12) rfl ?_
          refine aG_n 4 (s' := (15, [some (.ref 0), some (.int z1), some (.int y2), some (.int z3), some (.int (y4 + (nI 1)))], [], mkM M11)) rfl ?_
          refine aG_le (a := [some (.ref 0), some (.int z1), some (.int y2), some (.int z3), some (.int (y4 + (nI 1)))]) ⟨rfl, ⟨rfl, ⟨rfl, ⟨rfl, ⟨rfl, trivial⟩⟩⟩⟩⟩ ?_
          exact hK15 _ _ _ h
    · have h := h2 q6
      refine aG_icmp (cd := .ne) (b := true) (aTne1 q6) rfl ?_
      refine aG_n 4 (s' := (15, [some (.ref 0), some (.int z1), some (.int y2), some (.int z3), some (.int (y4 + (nI 1)))], [], mkM M)) rfl ?_
      refine aG_le (a := [some (.ref 0), some (.int z1), some (.int y2), some (.int z3), some (.int (y4 + (nI 1)))]) ⟨rfl, ⟨rfl, ⟨rfl, ⟨rfl, ⟨rfl, trivial⟩⟩⟩⟩⟩ ?_
      exact hK15 _ _ _ h
def wL_X12_ownOf_15 (z1 : Int32) (z3 : Int32) (K4 : Int32 → Int32 → wM → Prop) (Q : Int32 → wM → Prop) : Nat → Int32 → Int32 → wM → Prop
  | 0, _, _, _ => False
  | n + 1, y2, y4, M => wb_X12_ownOf_15 z1 z3 K4 (wL_X12_ownOf_15 z1 z3 K4 Q n) y2 y4 M Q
set_option maxRecDepth 20000 in
theorem wLk_X12_ownOf_15 {z1 : Int32} {z3 : Int32} {K4 : Int32 → Int32 → wM → Prop} {Q : Int32 → wM → Prop} (hK4 : ∀ (v2 : Int32) (v3 : Int32) (M : wM), K4 v2 v3 M → aG 126 (4, [some (.ref 0), some (.int z1), some (.int v2), some (.int v3), none], [], mkM M) (aPi mkM Q)) : ∀ (n : Nat) (y2 : Int32) (y4 : Int32) (M : wM), wL_X12_ownOf_15 z1 z3 K4 Q n y2 y4 M → aG 126 (15, [some (.ref 0), some (.int z1), some (.int y2), some (.int z3), some (.int y4)], [], mkM M) (aPi mkM Q)
  | 0, _, _, _, h => h.elim
  | n + 1, y2, y4, M, h => wbk_X12_ownOf_15 hK4 (fun y2 y4 M h => wLk_X12_ownOf_15 hK4 n y2 y4 M h) h
def wb_X12_ownOf_4 (z1 : Int32) (K4 : Int32 → Int32 → wM → Prop) (y2 : Int32) (y3 : Int32) (M : wM) (Q : Int32 → wM → Prop) : Prop := ((gi M 0 22) ≤ y3 → Q y2 M) ∧ (¬ (gi M 0 22) ≤ y3 → ∃ n, wL_X12_ownOf_15 z1 y3 K4 Q n y2 (nI 0) M)
set_option maxRecDepth 20000 in
theorem wbk_X12_ownOf_4 {z1 : Int32} {K4 : Int32 → Int32 → wM → Prop} {y2 : Int32} {y3 : Int32} {M : wM} {Q : Int32 → wM → Prop} (hK4 : ∀ (v2 : Int32) (v3 : Int32) (M : wM), K4 v2 v3 M → aG 126 (4, [some (.ref 0), some (.int z1), some (.int v2), some (.int v3), none], [], mkM M) (aPi mkM Q)) (h : wb_X12_ownOf_4 z1 K4 y2 y3 M Q) : aG 126 (4, [some (.ref 0), some (.int z1), some (.int y2), some (.int y3), none], [], mkM M) (aPi mkM Q) := by
  unfold wb_X12_ownOf_4 at h
  refine aG_n 3 (s' := (9, [some (.ref 0), some (.int z1), some (.int y2), some (.int y3), none], [(.int (gi M 0 22)), (.int y3)], mkM M)) rfl ?_
  obtain ⟨h1, h2⟩ := h
  by_cases q1 : (gi M 0 22) ≤ y3
  · have h := h1 q1
    refine aG_icmp (cd := .ge) (b := true) (decide_eq_true q1) rfl ?_
    refine aG_n 1 (s' := (94, [some (.ref 0), some (.int z1), some (.int y2), some (.int y3), none], [(.int y2)], mkM M)) rfl ?_
    exact aG_ret0 rfl rfl ⟨_, _, rfl, h⟩
  · have h := h2 q1
    refine aG_icmp (cd := .ge) (b := false) (decide_eq_false q1) rfl ?_
    refine aG_n 2 (s' := (15, [some (.ref 0), some (.int z1), some (.int y2), some (.int y3), some (.int (nI 0))], [], mkM M)) rfl ?_
    refine aG_le (a := [some (.ref 0), some (.int z1), some (.int y2), some (.int y3), some (.int (nI 0))]) ⟨rfl, ⟨rfl, ⟨rfl, ⟨rfl, ⟨rfl, trivial⟩⟩⟩⟩⟩ ?_
    obtain ⟨n, h⟩ := h
    exact wLk_X12_ownOf_15 hK4 n _ _ _ h
def wL_X12_ownOf_4 (z1 : Int32) (Q : Int32 → wM → Prop) : Nat → Int32 → Int32 → wM → Prop
  | 0, _, _, _ => False
  | n + 1, y2, y3, M => wb_X12_ownOf_4 z1 (wL_X12_ownOf_4 z1 Q n) y2 y3 M Q
set_option maxRecDepth 20000 in
theorem wLk_X12_ownOf_4 {z1 : Int32} {Q : Int32 → wM → Prop} : ∀ (n : Nat) (y2 : Int32) (y3 : Int32) (M : wM), wL_X12_ownOf_4 z1 Q n y2 y3 M → aG 126 (4, [some (.ref 0), some (.int z1), some (.int y2), some (.int y3), none], [], mkM M) (aPi mkM Q)
  | 0, _, _, _, h => h.elim
  | n + 1, y2, y3, M, h => wbk_X12_ownOf_4 (fun y2 y3 M h => wLk_X12_ownOf_4 n y2 y3 M h) h
def w_X12_ownOf (x1 : Int32) (M : wM) (Q : Int32 → wM → Prop) : Prop := ∃ n, wL_X12_ownOf_4 x1 Q n (nI 1) (nI 0) M
set_option maxRecDepth 20000 in
theorem wk_X12_ownOf {x1 : Int32} {M : wM} {Q : Int32 → wM → Prop} (h : w_X12_ownOf x1 M Q) : aG 126 (aEn 126 [(.ref 0), (.int x1)] (mkM M)) (aPi mkM Q) := by
  unfold w_X12_ownOf at h
  refine aG_n 4 (s' := (4, [some (.ref 0), some (.int x1), some (.int (nI 1)), some (.int (nI 0)), none], [], mkM M)) rfl ?_
  refine aG_le (a := [some (.ref 0), some (.int x1), some (.int (nI 1)), some (.int (nI 0)), none]) ⟨rfl, ⟨rfl, ⟨rfl, ⟨rfl, trivial⟩⟩⟩⟩ ?_
  obtain ⟨n, h⟩ := h
  exact wLk_X12_ownOf_4 n _ _ _ h
def wb_X12_findTogether_218 (z1 : Nat) (z2 : Nat) (z3 : Int32) (K124 : Int32 → wM → Prop) (K218 : Int32 → Int32 → wM → Prop) (y4 : Int32) (y5 : Int32) (M : wM) (Q : wM → Prop) : Prop := (y5 < (nI 0) → vp_in z3 8 ∧ (K124 (z3 + (nI 1)) (si M 30 z3.toNatClampNeg y4))) ∧ (¬ y5 < (nI 0) → vp_in z3 8 ∧ ((((jshr (gi M 29 z3.toNatClampNeg) y5) &&& (nI 1)) = (nI 1) → vp_in y5 (lnM z2) ∧ (((gi M z2 y5.toNatClampNeg) = (-4) → K218 y4 (y5 + (-1)) M) ∧ (¬ (gi M z2 y5.toNatClampNeg) = (-4) → vp_in y5 (lnM z2) ∧ (K218 ((nI 2) + (gi M z2 y5.toNatClampNeg)) (y5 + (-1)) M)))) ∧ (¬ ((jshr (gi M 29 z3.toNatClampNeg) y5) &&& (nI 1)) = (nI 1) → K218 y4 (y5 + (-1)) M)))
set_option maxRecDepth 20000 in
theorem wbk_X12_findTogether_218 {z1 : Nat} {z2 : Nat} {z3 : Int32} {K124 : Int32 → wM → Prop} {K218 : Int32 → Int32 → wM → Prop} {y4 : Int32} {y5 : Int32} {M : wM} {Q : wM → Prop} (hz1 : iaM z1) (hz2 : iaM z2) (hK124 : ∀ (v3 : Int32) (M : wM), K124 v3 M → aG 127 (124, [some (.ref 0), some (.ref z1), some (.ref z2), some (.int v3), none, none, none], [], mkM M) (aPv mkM Q)) (hK218 : ∀ (v4 : Int32) (v5 : Int32) (M : wM), K218 v4 v5 M → aG 127 (218, [some (.ref 0), some (.ref z1), some (.ref z2), some (.int z3), some (.int v4), some (.int v5), none], [], mkM M) (aPv mkM Q)) (h : wb_X12_findTogether_218 z1 z2 z3 K124 K218 y4 y5 M Q) : aG 127 (218, [some (.ref 0), some (.ref z1), some (.ref z2), some (.int z3), some (.int y4), some (.int y5), none], [], mkM M) (aPv mkM Q) := by
  unfold wb_X12_findTogether_218 at h
  refine aG_n 1 (s' := (220, [some (.ref 0), some (.ref z1), some (.ref z2), some (.int z3), some (.int y4), some (.int y5), none], [(.int y5)], mkM M)) rfl ?_
  obtain ⟨h1, h2⟩ := h
  by_cases q5 : y5 < (nI 0)
  · have h := h1 q5
    refine aG_if (cd := .lt) (b := true) (decide_eq_true q5) rfl ?_
    refine aG_n 4 (s' := (273, [some (.ref 0), some (.ref z1), some (.ref z2), some (.int z3), some (.int y4), some (.int y5), none], [(.int y4), (.int z3), (.ref 30)], mkM M)) rfl ?_
    obtain ⟨f6, h⟩ := h
    refine aG_iast rfl rfl f6 ?_
    refine aG_n 2 (s' := (124, [some (.ref 0), some (.ref z1), some (.ref z2), some (.int (z3 + (nI 1))), some (.int y4), some (.int y5), none], [], mkM (si M 30 z3.toNatClampNeg y4))) rfl ?_
    refine aG_le (a := [some (.ref 0), some (.ref z1), some (.ref z2), some (.int (z3 + (nI 1))), none, none, none]) ⟨rfl, ⟨rfl, ⟨rfl, ⟨rfl, trivial⟩⟩⟩⟩ ?_
    exact hK124 _ _ h
  · have h := h2 q5
    refine aG_if (cd := .lt) (b := false) (decide_eq_false q5) rfl ?_
    refine aG_n 3 (s' := (228, [some (.ref 0), some (.ref z1), some (.ref z2), some (.int z3), some (.int y4), some (.int y5), none], [(.int z3), (.ref 29)], mkM M)) rfl ?_
    obtain ⟨f7, h⟩ := h
    refine aG_iald rfl rfl rfl f7 ?_
    refine aG_n 5 (s' := (235, [some (.ref 0), some (.ref z1), some (.ref z2), some (.int z3), some (.int y4), some (.int y5), none], [(.int (nI 1)), (.int ((jshr (gi M 29 z3.toNatClampNeg) y5) &&& (nI 1)))], mkM M)) rfl ?_
    obtain ⟨h1, h2⟩ := h
    by_cases q8 : ((jshr (gi M 29 z3.toNatClampNeg) y5) &&& (nI 1)) = (nI 1)
    · have h := h1 q8
      refine aG_icmp (cd := .ne) (b := false) (aTne0 q8) rfl ?_
      refine aG_n 2 (s' := (241, [some (.ref 0), some (.ref z1), some (.ref z2), some (.int z3), some (.int y4), some (.int y5), none], [(.int y5), (.ref z2)], mkM M)) rfl ?_
      obtain ⟨f9, h⟩ := h
      refine aG_iald rfl hz2 rfl f9 ?_
      refine aG_n 1 (s' := (244, [some (.ref 0), some (.ref z1), some (.ref z2), some (.int z3), some (.int y4), some (.int y5), none], [(.int (-4)), (.int (gi M z2 y5.toNatClampNeg))], mkM M)) rfl ?_
      obtain ⟨h1, h2⟩ := h
      by_cases q10 : (gi M z2 y5.toNatClampNeg) = (-4)
      · have h := h1 q10
        refine aG_icmp (cd := .eq) (b := true) (decide_eq_true q10) rfl ?_
        refine aG_n 4 (s' := (218, [some (.ref 0), some (.ref z1), some (.ref z2), some (.int z3), some (.int y4), some (.int (y5 + (-1))), none], [], mkM M)) rfl ?_
        refine aG_le (a := [some (.ref 0), some (.ref z1), some (.ref z2), some (.int z3), some (.int y4), some (.int (y5 + (-1))), none]) ⟨rfl, ⟨rfl, ⟨rfl, ⟨rfl, ⟨rfl, ⟨rfl, trivial⟩⟩⟩⟩⟩⟩ ?_
        exact hK218 _ _ _ h
      · have h := h2 q10
        refine aG_icmp (cd := .eq) (b := false) (decide_eq_false q10) rfl ?_
        refine aG_n 3 (s' := (251, [some (.ref 0), some (.ref z1), some (.ref z2), some (.int z3), some (.int y4), some (.int y5), none], [(.int y5), (.ref z2), (.int (nI 2))], mkM M)) rfl ?_
        obtain ⟨f11, h⟩ := h
        refine aG_iald rfl hz2 rfl f11 ?_
        refine aG_n 5 (s' := (218, [some (.ref 0), some (.ref z1), some (.ref z2), some (.int z3), some (.int ((nI 2) + (gi M z2 y5.toNatClampNeg))), some (.int (y5 + (-1))), none], [], mkM M)) rfl ?_
        refine aG_le (a := [some (.ref 0), some (.ref z1), some (.ref z2), some (.int z3), some (.int ((nI 2) + (gi M z2 y5.toNatClampNeg))), some (.int (y5 + (-1))), none]) ⟨rfl, ⟨rfl, ⟨rfl, ⟨rfl, ⟨rfl, ⟨rfl, trivial⟩⟩⟩⟩⟩⟩ ?_
        exact hK218 _ _ _ h
    · have h := h2 q8
      refine aG_icmp (cd := .ne) (b := true) (aTne1 q8) rfl ?_
      refine aG_n 4 (s' := (218, [some (.ref 0), some (.ref z1), some (.ref z2), some (.int z3), some (.int y4), some (.int (y5 + (-1))), none], [], mkM M)) rfl ?_
      refine aG_le (a := [some (.ref 0), some (.ref z1), some (.ref z2), some (.int z3), some (.int y4), some (.int (y5 + (-1))), none]) ⟨rfl, ⟨rfl, ⟨rfl, ⟨rfl, ⟨rfl, ⟨rfl, trivial⟩⟩⟩⟩⟩⟩ ?_
      exact hK218 _ _ _ h
def wL_X12_findTogether_218 (z1 : Nat) (z2 : Nat) (z3 : Int32) (K124 : Int32 → wM → Prop) (Q : wM → Prop) : Nat → Int32 → Int32 → wM → Prop
  | 0, _, _, _ => False
  | n + 1, y4, y5, M => wb_X12_findTogether_218 z1 z2 z3 K124 (wL_X12_findTogether_218 z1 z2 z3 K124 Q n) y4 y5 M Q
set_option maxRecDepth 20000 in
theorem wLk_X12_findTogether_218 {z1 : Nat} {z2 : Nat} {z3 : Int32} {K124 : Int32 → wM → Prop} {Q : wM → Prop} (hz1 : iaM z1) (hz2 : iaM z2) (hK124 : ∀ (v3 : Int32) (M : wM), K124 v3 M → aG 127 (124, [some (.ref 0), some (.ref z1), some (.ref z2), some (.int v3), none, none, none], [], mkM M) (aPv mkM Q)) : ∀ (n : Nat) (y4 : Int32) (y5 : Int32) (M : wM), wL_X12_findTogether_218 z1 z2 z3 K124 Q n y4 y5 M → aG 127 (218, [some (.ref 0), some (.ref z1), some (.ref z2), some (.int z3), some (.int y4), some (.int y5), none], [], mkM M) (aPv mkM Q)
  | 0, _, _, _, h => h.elim
  | n + 1, y4, y5, M, h => wbk_X12_findTogether_218 hz1 hz2 hK124 (fun y4 y5 M h => wLk_X12_findTogether_218 hz1 hz2 hK124 n y4 y5 M h) h
def wb_X12_findTogether_150 (z1 : Nat) (z2 : Nat) (z3 : Int32) (z5 : Int32) (K124 : Int32 → wM → Prop) (K138 : Int32 → Int32 → wM → Prop) (K150 : Int32 → Int32 → wM → Prop) (y4 : Int32) (y6 : Int32) (M : wM) (Q : wM → Prop) : Prop := ((gi M 0 41) ≤ y6 → K138 y4 (z5 + (nI 1)) M) ∧ (¬ (gi M 0 41) ≤ y6 → vp_in z3 8 ∧ ((((jshr (gi M 29 z3.toNatClampNeg) z5) &&& (nI 1)) = (nI 1) → vp_in (((nI 8) * z5) + y6) (lnM z1) ∧ ((((gi M z1 (((nI 8) * z5) + y6).toNatClampNeg) &&& (nI 1)) = (nI 1) → K150 (nI 0) (y6 + (nI 1)) M) ∧ (¬ ((gi M z1 (((nI 8) * z5) + y6).toNatClampNeg) &&& (nI 1)) = (nI 1) → K150 y4 (y6 + (nI 1)) M))) ∧ (¬ ((jshr (gi M 29 z3.toNatClampNeg) z5) &&& (nI 1)) = (nI 1) → K150 y4 (y6 + (nI 1)) M)))
set_option maxRecDepth 20000 in
theorem wbk_X12_findTogether_150 {z1 : Nat} {z2 : Nat} {z3 : Int32} {z5 : Int32} {K124 : Int32 → wM → Prop} {K138 : Int32 → Int32 → wM → Prop} {K150 : Int32 → Int32 → wM → Prop} {y4 : Int32} {y6 : Int32} {M : wM} {Q : wM → Prop} (hz1 : iaM z1) (hz2 : iaM z2) (hK124 : ∀ (v3 : Int32) (M : wM), K124 v3 M → aG 127 (124, [some (.ref 0), some (.ref z1), some (.ref z2), some (.int v3), none, none, none], [], mkM M) (aPv mkM Q)) (hK138 : ∀ (v4 : Int32) (v5 : Int32) (M : wM), K138 v4 v5 M → aG 127 (138, [some (.ref 0), some (.ref z1), some (.ref z2), some (.int z3), some (.int v4), some (.int v5), none], [], mkM M) (aPv mkM Q)) (hK150 : ∀ (v4 : Int32) (v6 : Int32) (M : wM), K150 v4 v6 M → aG 127 (150, [some (.ref 0), some (.ref z1), some (.ref z2), some (.int z3), some (.int v4), some (.int z5), some (.int v6)], [], mkM M) (aPv mkM Q)) (h : wb_X12_findTogether_150 z1 z2 z3 z5 K124 K138 K150 y4 y6 M Q) : aG 127 (150, [some (.ref 0), some (.ref z1), some (.ref z2), some (.int z3), some (.int y4), some (.int z5), some (.int y6)], [], mkM M) (aPv mkM Q) := by
  unfold wb_X12_findTogether_150 at h
  refine aG_n 3 (s' := (156, [some (.ref 0), some (.ref z1), some (.ref z2), some (.int z3), some (.int y4), some (.int z5), some (.int y6)], [(.int (gi M 0 41)), (.int y6)], mkM M)) rfl ?_
  obtain ⟨h1, h2⟩ := h
  by_cases q12 : (gi M 0 41) ≤ y6
  · have h := h1 q12
    refine aG_icmp (cd := .ge) (b := true) (decide_eq_true q12) rfl ?_
    refine aG_n 2 (s' := (138, [some (.ref 0), some (.ref z1), some (.ref z2), some (.int z3), some (.int y4), some (.int (z5 + (nI 1))), some (.int y6)], [], mkM M)) rfl ?_
    refine aG_le (a := [some (.ref 0), some (.ref z1), some (.ref z2), some (.int z3), some (.int y4), some (.int (z5 + (nI 1))), none]) ⟨rfl, ⟨rfl, ⟨rfl, ⟨rfl, ⟨rfl, ⟨rfl, trivial⟩⟩⟩⟩⟩⟩ ?_
    exact hK138 _ _ _ h
  · have h := h2 q12
    refine aG_icmp (cd := .ge) (b := false) (decide_eq_false q12) rfl ?_
    refine aG_n 3 (s' := (164, [some (.ref 0), some (.ref z1), some (.ref z2), some (.int z3), some (.int y4), some (.int z5), some (.int y6)], [(.int z3), (.ref 29)], mkM M)) rfl ?_
    obtain ⟨f13, h⟩ := h
    refine aG_iald rfl rfl rfl f13 ?_
    refine aG_n 5 (s' := (171, [some (.ref 0), some (.ref z1), some (.ref z2), some (.int z3), some (.int y4), some (.int z5), some (.int y6)], [(.int (nI 1)), (.int ((jshr (gi M 29 z3.toNatClampNeg) z5) &&& (nI 1)))], mkM M)) rfl ?_
    obtain ⟨h1, h2⟩ := h
    by_cases q14 : ((jshr (gi M 29 z3.toNatClampNeg) z5) &&& (nI 1)) = (nI 1)
    · have h := h1 q14
      refine aG_icmp (cd := .ne) (b := false) (aTne0 q14) rfl ?_
      refine aG_n 6 (s' := (183, [some (.ref 0), some (.ref z1), some (.ref z2), some (.int z3), some (.int y4), some (.int z5), some (.int y6)], [(.int (((nI 8) * z5) + y6)), (.ref z1)], mkM M)) rfl ?_
      obtain ⟨f15, h⟩ := h
      refine aG_iald rfl hz1 rfl f15 ?_
      refine aG_n 3 (s' := (187, [some (.ref 0), some (.ref z1), some (.ref z2), some (.int z3), some (.int y4), some (.int z5), some (.int y6)], [(.int (nI 1)), (.int ((gi M z1 (((nI 8) * z5) + y6).toNatClampNeg) &&& (nI 1)))], mkM M)) rfl ?_
      obtain ⟨h1, h2⟩ := h
      by_cases q16 : ((gi M z1 (((nI 8) * z5) + y6).toNatClampNeg) &&& (nI 1)) = (nI 1)
      · have h := h1 q16
        refine aG_icmp (cd := .ne) (b := false) (aTne0 q16) rfl ?_
        refine aG_n 5 (s' := (150, [some (.ref 0), some (.ref z1), some (.ref z2), some (.int z3), some (.int (nI 0)), some (.int z5), some (.int (y6 + (nI 1)))], [], mkM M)) rfl ?_
        refine aG_le (a := [some (.ref 0), some (.ref z1), some (.ref z2), some (.int z3), some (.int (nI 0)), some (.int z5), some (.int (y6 + (nI 1)))]) ⟨rfl, ⟨rfl, ⟨rfl, ⟨rfl, ⟨rfl, ⟨rfl, ⟨rfl, trivial⟩⟩⟩⟩⟩⟩⟩ ?_
        exact hK150 _ _ _ h
      · have h := h2 q16
        refine aG_icmp (cd := .ne) (b := true) (aTne1 q16) rfl ?_
        refine aG_n 4 (s' := (150, [some (.ref 0), some (.ref z1), some (.ref z2), some (.int z3), some (.int y4), some (.int z5), some (.int (y6 + (nI 1)))], [], mkM M)) rfl ?_
        refine aG_le (a := [some (.ref 0), some (.ref z1), some (.ref z2), some (.int z3), some (.int y4), some (.int z5), some (.int (y6 + (nI 1)))]) ⟨rfl, ⟨rfl, ⟨rfl, ⟨rfl, ⟨rfl, ⟨rfl, ⟨rfl, trivial⟩⟩⟩⟩⟩⟩⟩ ?_
        exact hK150 _ _ _ h
    · have h := h2 q14
      refine aG_icmp (cd := .ne) (b := true) (aTne1 q14) rfl ?_
      refine aG_n 4 (s' := (150, [some (.ref 0), some (.ref z1), some (.ref z2), some (.int z3), some (.int y4), some (.int z5), some (.int (y6 + (nI 1)))], [], mkM M)) rfl ?_
      refine aG_le (a := [some (.ref 0), some (.ref z1), some (.ref z2), some (.int z3), some (.int y4), some (.int z5), some (.int (y6 + (nI 1)))]) ⟨rfl, ⟨rfl, ⟨rfl, ⟨rfl, ⟨rfl, ⟨rfl, ⟨rfl, trivial⟩⟩⟩⟩⟩⟩⟩ ?_
      exact hK150 _ _ _ h
def wL_X12_findTogether_150 (z1 : Nat) (z2 : Nat) (z3 : Int32) (z5 : Int32) (K124 : Int32 → wM → Prop) (K138 : Int32 → Int32 → wM → Prop) (Q : wM → Prop) : Nat → Int32 → Int32 → wM → Prop
  | 0, _, _, _ => False
  | n + 1, y4, y6, M => wb_X12_findTogether_150 z1 z2 z3 z5 K124 K138 (wL_X12_findTogether_150 z1 z2 z3 z5 K124 K138 Q n) y4 y6 M Q
set_option maxRecDepth 20000 in
theorem wLk_X12_findTogether_150 {z1 : Nat} {z2 : Nat} {z3 : Int32} {z5 : Int32} {K124 : Int32 → wM → Prop} {K138 : Int32 → Int32 → wM → Prop} {Q : wM → Prop} (hz1 : iaM z1) (hz2 : iaM z2) (hK124 : ∀ (v3 : Int32) (M : wM), K124 v3 M → aG 127 (124, [some (.ref 0), some (.ref z1), some (.ref z2), some (.int v3), none, none, none], [], mkM M) (aPv mkM Q)) (hK138 : ∀ (v4 : Int32) (v5 : Int32) (M : wM), K138 v4 v5 M → aG 127 (138, [some (.ref 0), some (.ref z1), some (.ref z2), some (.int z3), some (.int v4), some (.int v5), none], [], mkM M) (aPv mkM Q)) : ∀ (n : Nat) (y4 : Int32) (y6 : Int32) (M : wM), wL_X12_findTogether_150 z1 z2 z3 z5 K124 K138 Q n y4 y6 M → aG 127 (150, [some (.ref 0), some (.ref z1), some (.ref z2), some (.int z3), some (.int y4), some (.int z5), some (.int y6)], [], mkM M) (aPv mkM Q)
  | 0, _, _, _, h => h.elim
  | n + 1, y4, y6, M, h => wbk_X12_findTogether_150 hz1 hz2 hK124 hK138 (fun y4 y6 M h => wLk_X12_findTogether_150 hz1 hz2 hK124 hK138 n y4 y6 M h) h
def wb_X12_findTogether_138 (z1 : Nat) (z2 : Nat) (z3 : Int32) (K124 : Int32 → wM → Prop) (K138 : Int32 → Int32 → wM → Prop) (y4 : Int32) (y5 : Int32) (M : wM) (Q : wM → Prop) : Prop := ((gi M 0 41) ≤ y5 → ∃ n, wL_X12_findTogether_218 z1 z2 z3 K124 Q n y4 ((gi M 0 41) - (nI 1)) M) ∧ (¬ (gi M 0 41) ≤ y5 → ∃ n, wL_X12_findTogether_150 z1 z2 z3 y5 K124 K138 Q n y4 (nI 0) M)
set_option maxRecDepth 20000 in
theorem wbk_X12_findTogether_138 {z1 : Nat} {z2 : Nat} {z3 : Int32} {K124 : Int32 → wM → Prop} {K138 : Int32 → Int32 → wM → Prop} {y4 : Int32} {y5 : Int32} {M : wM} {Q : wM → Prop} (hz1 : iaM z1) (hz2 : iaM z2) (hK124 : ∀ (v3 : Int32) (M : wM), K124 v3 M → aG 127 (124, [some (.ref 0), some (.ref z1), some (.ref z2), some (.int v3), none, none, none], [], mkM M) (aPv mkM Q)) (hK138 : ∀ (v4 : Int32) (v5 : Int32) (M : wM), K138 v4 v5 M → aG 127 (138, [some (.ref 0), some (.ref z1), some (.ref z2), some (.int z3), some (.int v4), some (.int v5), none], [], mkM M) (aPv mkM Q)) (h : wb_X12_findTogether_138 z1 z2 z3 K124 K138 y4 y5 M Q) : aG 127 (138, [some (.ref 0), some (.ref z1), some (.ref z2), some (.int z3), some (.int y4), some (.int y5), none], [], mkM M) (aPv mkM Q) := by
  unfold wb_X12_findTogether_138 at h
  refine aG_n 3 (s' := (144, [some (.ref 0), some (.ref z1), some (.ref z2), some (.int z3), some (.int y4), some (.int y5), none], [(.int (gi M 0 41)), (.int y5)], mkM M)) rfl ?_
  obtain ⟨h1, h2⟩ := h
  by_cases q4 : (gi M 0 41) ≤ y5
  · have h := h1 q4
    refine aG_icmp (cd := .ge) (b := true) (decide_eq_true q4) rfl ?_
    refine aG_n 5 (s' := (218, [some (.ref 0), some (.ref z1), some (.ref z2), some (.int z3), some (.int y4), some (.int ((gi M 0 41) - (nI 1))), none], [], mkM M)) rfl ?_
    refine aG_le (a := [some (.ref 0), some (.ref z1), some (.ref z2), some (.int z3), some (.int y4), some (.int ((gi M 0 41) - (nI 1))), none]) ⟨rfl, ⟨rfl, ⟨rfl, ⟨rfl, ⟨rfl, ⟨rfl, trivial⟩⟩⟩⟩⟩⟩ ?_
    obtain ⟨n, h⟩ := h
    exact wLk_X12_findTogether_218 hz1 hz2 hK124 n _ _ _ h
  · have h := h2 q4
    refine aG_icmp (cd := .ge) (b := false) (decide_eq_false q4) rfl ?_
    refine aG_n 2 (s' := (150, [some (.ref 0), some (.ref z1), some (.ref z2), some (.int z3), some (.int y4), some (.int y5), some (.int (nI 0))], [], mkM M)) rfl ?_
    refine aG_le (a := [some (.ref 0), some (.ref z1), some (.ref z2), some (.int z3), some (.int y4), some (.int y5), some (.int (nI 0))]) ⟨rfl, ⟨rfl, ⟨rfl, ⟨rfl, ⟨rfl, ⟨rfl, ⟨rfl, trivial⟩⟩⟩⟩⟩⟩⟩ ?_
    obtain ⟨n, h⟩ := h
    exact wLk_X12_findTogether_150 hz1 hz2 hK124 hK138 n _ _ _ h
def wL_X12_findTogether_138 (z1 : Nat) (z2 : Nat) (z3 : Int32) (K124 : Int32 → wM → Prop) (Q : wM → Prop) : Nat → Int32 → Int32 → wM → Prop
  | 0, _, _, _ => False
  | n + 1, y4, y5, M => wb_X12_findTogether_138 z1 z2 z3 K124 (wL_X12_findTogether_138 z1 z2 z3 K124 Q n) y4 y5 M Q
set_option maxRecDepth 20000 in
theorem wLk_X12_findTogether_138 {z1 : Nat} {z2 : Nat} {z3 : Int32} {K124 : Int32 → wM → Prop} {Q : wM → Prop} (hz1 : iaM z1) (hz2 : iaM z2) (hK124 : ∀ (v3 : Int32) (M : wM), K124 v3 M → aG 127 (124, [some (.ref 0), some (.ref z1), some (.ref z2), some (.int v3), none, none, none], [], mkM M) (aPv mkM Q)) : ∀ (n : Nat) (y4 : Int32) (y5 : Int32) (M : wM), wL_X12_findTogether_138 z1 z2 z3 K124 Q n y4 y5 M → aG 127 (138, [some (.ref 0), some (.ref z1), some (.ref z2), some (.int z3), some (.int y4), some (.int y5), none], [], mkM M) (aPv mkM Q)
  | 0, _, _, _, h => h.elim
  | n + 1, y4, y5, M, h => wbk_X12_findTogether_138 hz1 hz2 hK124 (fun y4 y5 M h => wLk_X12_findTogether_138 hz1 hz2 hK124 n y4 y5 M h) h
def wb_X12_findTogether_124 (z1 : Nat) (z2 : Nat) (K124 : Int32 → wM → Prop) (y3 : Int32) (M : wM) (Q : wM → Prop) : Prop := ((gi M 0 41) ≤ y3 → Q M) ∧ (¬ (gi M 0 41) ≤ y3 → ∃ n, wL_X12_findTogether_138 z1 z2 y3 K124 Q n (nI 1) (nI 0) M)
set_option maxRecDepth 20000 in
theorem wbk_X12_findTogether_124 {z1 : Nat} {z2 : Nat} {K124 : Int32 → wM → Prop} {y3 : Int32} {M : wM} {Q : wM → Prop} (hz1 : iaM z1) (hz2 : iaM z2) (hK124 : ∀ (v3 : Int32) (M : wM), K124 v3 M → aG 127 (124, [some (.ref 0), some (.ref z1), some (.ref z2), some (.int v3), none, none, none], [], mkM M) (aPv mkM Q)) (h : wb_X12_findTogether_124 z1 z2 K124 y3 M Q) : aG 127 (124, [some (.ref 0), some (.ref z1), some (.ref z2), some (.int y3), none, none, none], [], mkM M) (aPv mkM Q) := by
  unfold wb_X12_findTogether_124 at h
  refine aG_n 3 (s' := (129, [some (.ref 0), some (.ref z1), some (.ref z2), some (.int y3), none, none, none], [(.int (gi M 0 41)), (.int y3)], mkM M)) rfl ?_
  obtain ⟨h1, h2⟩ := h
  by_cases q3 : (gi M 0 41) ≤ y3
  · have h := h1 q3
    refine aG_icmp (cd := .ge) (b := true) (decide_eq_true q3) rfl ?_
    refine aG_n 0 (s' := (280, [some (.ref 0), some (.ref z1), some (.ref z2), some (.int y3), none, none, none], [], mkM M)) rfl ?_
    exact aG_retV rfl rfl ⟨_, rfl, h⟩
  · have h := h2 q3
    refine aG_icmp (cd := .ge) (b := false) (decide_eq_false q3) rfl ?_
    refine aG_n 4 (s' := (138, [some (.ref 0), some (.ref z1), some (.ref z2), some (.int y3), some (.int (nI 1)), some (.int (nI 0)), none], [], mkM M)) rfl ?_
    refine aG_le (a := [some (.ref 0), some (.ref z1), some (.ref z2), some (.int y3), some (.int (nI 1)), some (.int (nI 0)), none]) ⟨rfl, ⟨rfl, ⟨rfl, ⟨rfl, ⟨rfl, ⟨rfl, trivial⟩⟩⟩⟩⟩⟩ ?_
    obtain ⟨n, h⟩ := h
    exact wLk_X12_findTogether_138 hz1 hz2 hK124 n _ _ _ h
def wL_X12_findTogether_124 (z1 : Nat) (z2 : Nat) (Q : wM → Prop) : Nat → Int32 → wM → Prop
  | 0, _, _ => False
  | n + 1, y3, M => wb_X12_findTogether_124 z1 z2 (wL_X12_findTogether_124 z1 z2 Q n) y3 M Q
set_option maxRecDepth 20000 in
theorem wLk_X12_findTogether_124 {z1 : Nat} {z2 : Nat} {Q : wM → Prop} (hz1 : iaM z1) (hz2 : iaM z2) : ∀ (n : Nat) (y3 : Int32) (M : wM), wL_X12_findTogether_124 z1 z2 Q n y3 M → aG 127 (124, [some (.ref 0), some (.ref z1), some (.ref z2), some (.int y3), none, none, none], [], mkM M) (aPv mkM Q)
  | 0, _, _, h => h.elim
  | n + 1, y3, M, h => wbk_X12_findTogether_124 hz1 hz2 (fun y3 M h => wLk_X12_findTogether_124 hz1 hz2 n y3 M h) h
def wb_X12_findTogether_50 (z1 : Nat) (z2 : Nat) (z3 : Int32) (z4 : Int32) (K27 : Int32 → wM → Prop) (K38 : Int32 → wM → Prop) (K50 : Int32 → wM → Prop) (y5 : Int32) (M : wM) (Q : wM → Prop) : Prop := ((gi M 0 41) ≤ y5 → K38 (z4 + (nI 1)) M) ∧ (¬ (gi M 0 41) ≤ y5 → vp_in z4 8 ∧ (vp_in z4 8 ∧ ((((jshr (gi M 29 z4.toNatClampNeg) y5) &&& (nI 1)) = (nI 1) → vp_in y5 8 ∧ (w_X12_joined z1 y5 M (fun r23 M24 => vp_in z4 8 ∧ (K50 (y5 + (nI 1)) (si M24 29 z4.toNatClampNeg ((gi M 29 z4.toNatClampNeg) ||| ((gi M 29 y5.toNatClampNeg) ||| r23))))))) ∧ (¬ ((jshr (gi M 29 z4.toNatClampNeg) y5) &&& (nI 1)) = (nI 1) → vp_in z4 8 ∧ (K50 (y5 + (nI 1)) (si M 29 z4.toNatClampNeg ((gi M 29 z4.toNatClampNeg) ||| (nI 0))))))))
set_option maxRecDepth 20000 in
theorem wbk_X12_findTogether_50 {z1 : Nat} {z2 : Nat} {z3 : Int32} {z4 : Int32} {K27 : Int32 → wM → Prop} {K38 : Int32 → wM → Prop} {K50 : Int32 → wM → Prop} {y5 : Int32} {M : wM} {Q : wM → Prop} (hz1 : iaM z1) (hz2 : iaM z2) (hK27 : ∀ (v3 : Int32) (M : wM), K27 v3 M → aG 127 (27, [some (.ref 0), some (.ref z1), some (.ref z2), some (.int v3), none, none, none], [], mkM M) (aPv mkM Q)) (hK38 : ∀ (v4 : Int32) (M : wM), K38 v4 M → aG 127 (38, [some (.ref 0), some (.ref z1), some (.ref z2), some (.int z3), some (.int v4), none, none], [], mkM M) (aPv mkM Q)) (hK50 : ∀ (v5 : Int32) (M : wM), K50 v5 M → aG 127 (50, [some (.ref 0), some (.ref z1), some (.ref z2), some (.int z3), some (.int z4), some (.int v5), none], [], mkM M) (aPv mkM Q)) (h : wb_X12_findTogether_50 z1 z2 z3 z4 K27 K38 K50 y5 M Q) : aG 127 (50, [some (.ref 0), some (.ref z1), some (.ref z2), some (.int z3), some (.int z4), some (.int y5), none], [], mkM M) (aPv mkM Q) := by
  unfold wb_X12_findTogether_50 at h
  refine aG_n 3 (s' := (56, [some (.ref 0), some (.ref z1), some (.ref z2), some (.int z3), some (.int z4), some (.int y5), none], [(.int (gi M 0 41)), (.int y5)], mkM M)) rfl ?_
  obtain ⟨h1, h2⟩ := h
  by_cases q18 : (gi M 0 41) ≤ y5
  · have h := h1 q18
    refine aG_icmp (cd := .ge) (b := true) (decide_eq_true q18) rfl ?_
    refine aG_n 2 (s' := (38, [some (.ref 0), some (.ref z1), some (.ref z2), some (.int z3), some (.int (z4 + (nI 1))), some (.int y5), none], [], mkM M)) rfl ?_
    refine aG_le (a := [some (.ref 0), some (.ref z1), some (.ref z2), some (.int z3), some (.int (z4 + (nI 1))), none, none]) ⟨rfl, ⟨rfl, ⟨rfl, ⟨rfl, ⟨rfl, trivial⟩⟩⟩⟩⟩ ?_
    exact hK38 _ _ h
  · have h := h2 q18
    refine aG_icmp (cd := .ge) (b := false) (decide_eq_false q18) rfl ?_
    refine aG_n 4 (s' := (66, [some (.ref 0), some (.ref z1), some (.ref z2), some (.int z3), some (.int z4), some (.int y5), none], [(.int z4), (.ref 29), (.int z4), (.ref 29)], mkM M)) rfl ?_
    obtain ⟨f19, h⟩ := h
    refine aG_iald rfl rfl rfl f19 ?_
    refine aG_n 3 (s' := (73, [some (.ref 0), some (.ref z1), some (.ref z2), some (.int z3), some (.int z4), some (.int y5), none], [(.int z4), (.ref 29), (.int (gi M 29 z4.toNatClampNeg)), (.int z4), (.ref 29)], mkM M)) rfl ?_
    obtain ⟨f20, h⟩ := h
    refine aG_iald rfl rfl rfl f20 ?_
    refine aG_n 5 (s' := (80, [some (.ref 0), some (.ref z1), some (.ref z2), some (.int z3), some (.int z4), some (.int y5), none], [(.int (nI 1)), (.int ((jshr (gi M 29 z4.toNatClampNeg) y5) &&& (nI 1))), (.int (gi M 29 z4.toNatClampNeg)), (.int z4), (.ref 29)], mkM M)) rfl ?_
    obtain ⟨h1, h2⟩ := h
    by_cases q21 : ((jshr (gi M 29 z4.toNatClampNeg) y5) &&& (nI 1)) = (nI 1)
    · have h := h1 q21
      refine aG_icmp (cd := .ne) (b := false) (aTne0 q21) rfl ?_
      refine aG_n 3 (s' := (89, [some (.ref 0), some (.ref z1), some (.ref z2), some (.int z3), some (.int z4), some (.int y5), none], [(.int y5), (.ref 29), (.int (gi M 29 z4.toNatClampNeg)), (.int z4), (.ref 29)], mkM M)) rfl ?_
      obtain ⟨f22, h⟩ := h
      refine aG_iald rfl rfl rfl f22 ?_
      refine aG_n 3 (s' := (94, [some (.ref 0), some (.ref z1), some (.ref z2), some (.int z3), some (.int z4), some (.int y5), none], [(.int y5), (.ref z1), (.ref 0), (.int (gi M 29 y5.toNatClampNeg)), (.int (gi M 29 z4.toNatClampNeg)), (.int z4), (.ref 29)], mkM M)) rfl ?_
      refine aG_call rfl rfl (aG_mono (wk_X12_joined h) ?_)
      rintro _ ⟨r23, M24, rfl, h⟩
      refine aG_n 3 (s' := (103, [some (.ref 0), some (.ref z1), some (.ref z2), some (.int z3), some (.int z4), some (.int y5), none], [(.int ((gi M 29 z4.toNatClampNeg) ||| ((gi M 29 y5.toNatClampNeg) ||| r23))), (.int z4), (.ref 29)], mkM M24)) rfl ?_
      obtain ⟨f25, h⟩ := h
      refine aG_iast rfl rfl f25 ?_
      refine aG_n 2 (s' := (50, [some (.ref 0), some (.ref z1), some (.ref z2), some (.int z3), some (.int z4), some (.int (y5 + (nI 1))), none], [], mkM (si M24 29 z4.toNatClampNeg ((gi M 29 z4.toNatClampNeg) ||| ((gi M 29 y5.toNatClampNeg) ||| r23))))) rfl ?_
      refine aG_le (a := [some (.ref 0), some (.ref z1), some (.ref z2), some (.int z3), some (.int z4), some (.int (y5 + (nI 1))), none]) ⟨rfl, ⟨rfl, ⟨rfl, ⟨rfl, ⟨rfl, ⟨rfl, trivial⟩⟩⟩⟩⟩⟩ ?_
      exact hK50 _ _ h
    · have h := h2 q21
      refine aG_icmp (cd := .ne) (b := true) (aTne1 q21) rfl ?_
      refine aG_n 2 (s' := (103, [some (.ref 0), some (.ref z1), some (.ref z2), some (.int z3), some (.int z4), some (.int y5), none], [(.int ((gi M 29 z4.toNatClampNeg) ||| (nI 0))), (.int z4), (.ref 29)], mkM M)) rfl ?_
      obtain ⟨f26, h⟩ := h
      refine aG_iast rfl rfl f26 ?_
      refine aG_n 2 (s' := (50, [some (.ref 0), some (.ref z1), some (.ref z2), some (.int z3), some (.int z4), some (.int (y5 + (nI 1))), none], [], mkM (si M 29 z4.toNatClampNeg ((gi M 29 z4.toNatClampNeg) ||| (nI 0))))) rfl ?_
      refine aG_le (a := [some (.ref 0), some (.ref z1), some (.ref z2), some (.int z3), some (.int z4), some (.int (y5 + (nI 1))), none]) ⟨rfl, ⟨rfl, ⟨rfl, ⟨rfl, ⟨rfl, ⟨rfl, trivial⟩⟩⟩⟩⟩⟩ ?_
      exact hK50 _ _ h
def wL_X12_findTogether_50 (z1 : Nat) (z2 : Nat) (z3 : Int32) (z4 : Int32) (K27 : Int32 → wM → Prop) (K38 : Int32 → wM → Prop) (Q : wM → Prop) : Nat → Int32 → wM → Prop
  | 0, _, _ => False
  | n + 1, y5, M => wb_X12_findTogether_50 z1 z2 z3 z4 K27 K38 (wL_X12_findTogether_50 z1 z2 z3 z4 K27 K38 Q n) y5 M Q
set_option maxRecDepth 20000 in
theorem wLk_X12_findTogether_50 {z1 : Nat} {z2 : Nat} {z3 : Int32} {z4 : Int32} {K27 : Int32 → wM → Prop} {K38 : Int32 → wM → Prop} {Q : wM → Prop} (hz1 : iaM z1) (hz2 : iaM z2) (hK27 : ∀ (v3 : Int32) (M : wM), K27 v3 M → aG 127 (27, [some (.ref 0), some (.ref z1), some (.ref z2), some (.int v3), none, none, none], [], mkM M) (aPv mkM Q)) (hK38 : ∀ (v4 : Int32) (M : wM), K38 v4 M → aG 127 (38, [some (.ref 0), some (.ref z1), some (.ref z2), some (.int z3), some (.int v4), none, none], [], mkM M) (aPv mkM Q)) : ∀ (n : Nat) (y5 : Int32) (M : wM), wL_X12_findTogether_50 z1 z2 z3 z4 K27 K38 Q n y5 M → aG 127 (50, [some (.ref 0), some (.ref z1), some (.ref z2), some (.int z3), some (.int z4), some (.int y5), none], [], mkM M) (aPv mkM Q)
  | 0, _, _, h => h.elim
  | n + 1, y5, M, h => wbk_X12_findTogether_50 hz1 hz2 hK27 hK38 (fun y5 M h => wLk_X12_findTogether_50 hz1 hz2 hK27 hK38 n y5 M h) h
def wb_X12_findTogether_38 (z1 : Nat) (z2 : Nat) (z3 : Int32) (K27 : Int32 → wM → Prop) (K38 : Int32 → wM → Prop) (y4 : Int32) (M : wM) (Q : wM → Prop) : Prop := ((gi M 0 41) ≤ y4 → K27 (z3 + (nI 1)) M) ∧ (¬ (gi M 0 41) ≤ y4 → ∃ n, wL_X12_findTogether_50 z1 z2 z3 y4 K27 K38 Q n (nI 0) M)
set_option maxRecDepth 20000 in
theorem wbk_X12_findTogether_38 {z1 : Nat} {z2 : Nat} {z3 : Int32} {K27 : Int32 → wM → Prop} {K38 : Int32 → wM → Prop} {y4 : Int32} {M : wM} {Q : wM → Prop} (hz1 : iaM z1) (hz2 : iaM z2) (hK27 : ∀ (v3 : Int32) (M : wM), K27 v3 M → aG 127 (27, [some (.ref 0), some (.ref z1), some (.ref z2), some (.int v3), none, none, none], [], mkM M) (aPv mkM Q)) (hK38 : ∀ (v4 : Int32) (M : wM), K38 v4 M → aG 127 (38, [some (.ref 0), some (.ref z1), some (.ref z2), some (.int z3), some (.int v4), none, none], [], mkM M) (aPv mkM Q)) (h : wb_X12_findTogether_38 z1 z2 z3 K27 K38 y4 M Q) : aG 127 (38, [some (.ref 0), some (.ref z1), some (.ref z2), some (.int z3), some (.int y4), none, none], [], mkM M) (aPv mkM Q) := by
  unfold wb_X12_findTogether_38 at h
  refine aG_n 3 (s' := (44, [some (.ref 0), some (.ref z1), some (.ref z2), some (.int z3), some (.int y4), none, none], [(.int (gi M 0 41)), (.int y4)], mkM M)) rfl ?_
  obtain ⟨h1, h2⟩ := h
  by_cases q17 : (gi M 0 41) ≤ y4
  · have h := h1 q17
    refine aG_icmp (cd := .ge) (b := true) (decide_eq_true q17) rfl ?_
    refine aG_n 2 (s' := (27, [some (.ref 0), some (.ref z1), some (.ref z2), some (.int (z3 + (nI 1))), some (.int y4), none, none], [], mkM M)) rfl ?_
    refine aG_le (a := [some (.ref 0), some (.ref z1), some (.ref z2), some (.int (z3 + (nI 1))), none, none, none]) ⟨rfl, ⟨rfl, ⟨rfl, ⟨rfl, trivial⟩⟩⟩⟩ ?_
    exact hK27 _ _ h
  · have h := h2 q17
    refine aG_icmp (cd := .ge) (b := false) (decide_eq_false q17) rfl ?_
    refine aG_n 2 (s' := (50, [some (.ref 0), some (.ref z1), some (.ref z2), some (.int z3), some (.int y4), some (.int (nI 0)), none], [], mkM M)) rfl ?_
    refine aG_le (a := [some (.ref 0), some (.ref z1), some (.ref z2), some (.int z3), some (.int y4), some (.int (nI 0)), none]) ⟨rfl, ⟨rfl, ⟨rfl, ⟨rfl, ⟨rfl, ⟨rfl, trivial⟩⟩⟩⟩⟩⟩ ?_
    obtain ⟨n, h⟩ := h
    exact wLk_X12_findTogether_50 hz1 hz2 hK27 hK38 n _ _ h
def wL_X12_findTogether_38 (z1 : Nat) (z2 : Nat) (z3 : Int32) (K27 : Int32 → wM → Prop) (Q : wM → Prop) : Nat → Int32 → wM → Prop
  | 0, _, _ => False
  | n + 1, y4, M => wb_X12_findTogether_38 z1 z2 z3 K27 (wL_X12_findTogether_38 z1 z2 z3 K27 Q n) y4 M Q
set_option maxRecDepth 20000 in
theorem wLk_X12_findTogether_38 {z1 : Nat} {z2 : Nat} {z3 : Int32} {K27 : Int32 → wM → Prop} {Q : wM → Prop} (hz1 : iaM z1) (hz2 : iaM z2) (hK27 : ∀ (v3 : Int32) (M : wM), K27 v3 M → aG 127 (27, [some (.ref 0), some (.ref z1), some (.ref z2), some (.int v3), none, none, none], [], mkM M) (aPv mkM Q)) : ∀ (n : Nat) (y4 : Int32) (M : wM), wL_X12_findTogether_38 z1 z2 z3 K27 Q n y4 M → aG 127 (38, [some (.ref 0), some (.ref z1), some (.ref z2), some (.int z3), some (.int y4), none, none], [], mkM M) (aPv mkM Q)
  | 0, _, _, h => h.elim
  | n + 1, y4, M, h => wbk_X12_findTogether_38 hz1 hz2 hK27 (fun y4 M h => wLk_X12_findTogether_38 hz1 hz2 hK27 n y4 M h) h
def wb_X12_findTogether_27 (z1 : Nat) (z2 : Nat) (K27 : Int32 → wM → Prop) (y3 : Int32) (M : wM) (Q : wM → Prop) : Prop := ((gi M 0 41) ≤ y3 → ∃ n, wL_X12_findTogether_124 z1 z2 Q n (nI 0) M) ∧ (¬ (gi M 0 41) ≤ y3 → ∃ n, wL_X12_findTogether_38 z1 z2 y3 K27 Q n (nI 0) M)
set_option maxRecDepth 20000 in
theorem wbk_X12_findTogether_27 {z1 : Nat} {z2 : Nat} {K27 : Int32 → wM → Prop} {y3 : Int32} {M : wM} {Q : wM → Prop} (hz1 : iaM z1) (hz2 : iaM z2) (hK27 : ∀ (v3 : Int32) (M : wM), K27 v3 M → aG 127 (27, [some (.ref 0), some (.ref z1), some (.ref z2), some (.int v3), none, none, none], [], mkM M) (aPv mkM Q)) (h : wb_X12_findTogether_27 z1 z2 K27 y3 M Q) : aG 127 (27, [some (.ref 0), some (.ref z1), some (.ref z2), some (.int y3), none, none, none], [], mkM M) (aPv mkM Q) := by
  unfold wb_X12_findTogether_27 at h
  refine aG_n 3 (s' := (32, [some (.ref 0), some (.ref z1), some (.ref z2), some (.int y3), none, none, none], [(.int (gi M 0 41)), (.int y3)], mkM M)) rfl ?_
  obtain ⟨h1, h2⟩ := h
  by_cases q2 : (gi M 0 41) ≤ y3
  · have h := h1 q2
    refine aG_icmp (cd := .ge) (b := true) (decide_eq_true q2) rfl ?_
    refine aG_n 2 (s' := (124, [some (.ref 0), some (.ref z1), some (.ref z2), some (.int (nI 0)), none, none, none], [], mkM M)) rfl ?_
    refine aG_le (a := [some (.ref 0), some (.ref z1), some (.ref z2), some (.int (nI 0)), none, none, none]) ⟨rfl, ⟨rfl, ⟨rfl, ⟨rfl, trivial⟩⟩⟩⟩ ?_
    obtain ⟨n, h⟩ := h
    exact wLk_X12_findTogether_124 hz1 hz2 n _ _ h
  · have h := h2 q2
    refine aG_icmp (cd := .ge) (b := false) (decide_eq_false q2) rfl ?_
    refine aG_n 2 (s' := (38, [some (.ref 0), some (.ref z1), some (.ref z2), some (.int y3), some (.int (nI 0)), none, none], [], mkM M)) rfl ?_
    refine aG_le (a := [some (.ref 0), some (.ref z1), some (.ref z2), some (.int y3), some (.int (nI 0)), none, none]) ⟨rfl, ⟨rfl, ⟨rfl, ⟨rfl, ⟨rfl, trivial⟩⟩⟩⟩⟩ ?_
    obtain ⟨n, h⟩ := h
    exact wLk_X12_findTogether_38 hz1 hz2 hK27 n _ _ h
def wL_X12_findTogether_27 (z1 : Nat) (z2 : Nat) (Q : wM → Prop) : Nat → Int32 → wM → Prop
  | 0, _, _ => False
  | n + 1, y3, M => wb_X12_findTogether_27 z1 z2 (wL_X12_findTogether_27 z1 z2 Q n) y3 M Q
set_option maxRecDepth 20000 in
theorem wLk_X12_findTogether_27 {z1 : Nat} {z2 : Nat} {Q : wM → Prop} (hz1 : iaM z1) (hz2 : iaM z2) : ∀ (n : Nat) (y3 : Int32) (M : wM), wL_X12_findTogether_27 z1 z2 Q n y3 M → aG 127 (27, [some (.ref 0), some (.ref z1), some (.ref z2), some (.int y3), none, none, none], [], mkM M) (aPv mkM Q)
  | 0, _, _, h => h.elim
  | n + 1, y3, M, h => wbk_X12_findTogether_27 hz1 hz2 (fun y3 M h => wLk_X12_findTogether_27 hz1 hz2 n y3 M h) h
def wb_X12_findTogether_2 (z1 : Nat) (z2 : Nat) (K2 : Int32 → wM → Prop) (y3 : Int32) (M : wM) (Q : wM → Prop) : Prop := ((gi M 0 41) ≤ y3 → ∃ n, wL_X12_findTogether_27 z1 z2 Q n (nI 0) M) ∧ (¬ (gi M 0 41) ≤ y3 → vp_in y3 8 ∧ (K2 (y3 + (nI 1)) (si M 29 y3.toNatClampNeg (jshl (nI 1) y3))))
set_option maxRecDepth 20000 in
theorem wbk_X12_findTogether_2 {z1 : Nat} {z2 : Nat} {K2 : Int32 → wM → Prop} {y3 : Int32} {M : wM} {Q : wM → Prop} (hz1 : iaM z1) (hz2 : iaM z2) (hK2 : ∀ (v3 : Int32) (M : wM), K2 v3 M → aG 127 (2, [some (.ref 0), some (.ref z1), some (.ref z2), some (.int v3), none, none, none], [], mkM M) (aPv mkM Q)) (h : wb_X12_findTogether_2 z1 z2 K2 y3 M Q) : aG 127 (2, [some (.ref 0), some (.ref z1), some (.ref z2), some (.int y3), none, none, none], [], mkM M) (aPv mkM Q) := by
  unfold wb_X12_findTogether_2 at h
  refine aG_n 3 (s' := (7, [some (.ref 0), some (.ref z1), some (.ref z2), some (.int y3), none, none, none], [(.int (gi M 0 41)), (.int y3)], mkM M)) rfl ?_
  obtain ⟨h1, h2⟩ := h
  by_cases q1 : (gi M 0 41) ≤ y3
  · have h := h1 q1
    refine aG_icmp (cd := .ge) (b := true) (decide_eq_true q1) rfl ?_
    refine aG_n 2 (s' := (27, [some (.ref 0), some (.ref z1), some (.ref z2), some (.int (nI 0)), none, none, none], [], mkM M)) rfl ?_
    refine aG_le (a := [some (.ref 0), some (.ref z1), some (.ref z2), some (.int (nI 0)), none, none, none]) ⟨rfl, ⟨rfl, ⟨rfl, ⟨rfl, trivial⟩⟩⟩⟩ ?_
    obtain ⟨n, h⟩ := h
    exact wLk_X12_findTogether_27 hz1 hz2 n _ _ h
  · have h := h2 q1
    refine aG_icmp (cd := .ge) (b := false) (decide_eq_false q1) rfl ?_
    refine aG_n 6 (s' := (18, [some (.ref 0), some (.ref z1), some (.ref z2), some (.int y3), none, none, none], [(.int (jshl (nI 1) y3)), (.int y3), (.ref 29)], mkM M)) rfl ?_
    obtain ⟨f27, h⟩ := h
    refine aG_iast rfl rfl f27 ?_
    refine aG_n 2 (s' := (2, [some (.ref 0), some (.ref z1), some (.ref z2), some (.int (y3 + (nI 1))), none, none, none], [], mkM (si M 29 y3.toNatClampNeg (jshl (nI 1) y3)))) rfl ?_
    refine aG_le (a := [some (.ref 0), some (.ref z1), some (.ref z2), some (.int (y3 + (nI 1))), none, none, none]) ⟨rfl, ⟨rfl, ⟨rfl, ⟨rfl, trivial⟩⟩⟩⟩ ?_
    exact hK2 _ _ h
def wL_X12_findTogether_2 (z1 : Nat) (z2 : Nat) (Q : wM → Prop) : Nat → Int32 → wM → Prop
  | 0, _, _ => False
  | n + 1, y3, M => wb_X12_findTogether_2 z1 z2 (wL_X12_findTogether_2 z1 z2 Q n) y3 M Q
set_option maxRecDepth 20000 in
theorem wLk_X12_findTogether_2 {z1 : Nat} {z2 : Nat} {Q : wM → Prop} (hz1 : iaM z1) (hz2 : iaM z2) : ∀ (n : Nat) (y3 : Int32) (M : wM), wL_X12_findTogether_2 z1 z2 Q n y3 M → aG 127 (2, [some (.ref 0), some (.ref z1), some (.ref z2), some (.int y3), none, none, none], [], mkM M) (aPv mkM Q)
  | 0, _, _, h => h.elim
  | n + 1, y3, M, h => wbk_X12_findTogether_2 hz1 hz2 (fun y3 M h => wLk_X12_findTogether_2 hz1 hz2 n y3 M h) h
def w_X12_findTogether (x1 : Nat) (x2 : Nat) (M : wM) (Q : wM → Prop) : Prop := iaM x1 ∧ (iaM x2 ∧ (∃ n, wL_X12_findTogether_2 x1 x2 Q n (nI 0) M))
set_option maxRecDepth 20000 in
theorem wk_X12_findTogether {x1 : Nat} {x2 : Nat} {M : wM} {Q : wM → Prop} (h : w_X12_findTogether x1 x2 M Q) : aG 127 (aEn 127 [(.ref 0), (.ref x1), (.ref x2)] (mkM M)) (aPv mkM Q) := by
  unfold w_X12_findTogether at h
  obtain ⟨hx1, h⟩ := h
  obtain ⟨hx2, h⟩ := h
  refine aG_n 2 (s' := (2, [some (.ref 0), some (.ref x1), some (.ref x2), some (.int (nI 0)), none, none, none], [], mkM M)) rfl ?_
  refine aG_le (a := [some (.ref 0), some (.ref x1), some (.ref x2), some (.int (nI 0)), none, none, none]) ⟨rfl, ⟨rfl, ⟨rfl, ⟨rfl, trivial⟩⟩⟩⟩ ?_
  obtain ⟨n, h⟩ := h
  exact wLk_X12_findTogether_2 hx1 hx2 n _ _ h
