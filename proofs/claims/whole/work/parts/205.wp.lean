/-! methods as predicates, and their walks (by gen/wpgen.py) -/
def wb_X10_listFaults_63 (z1 : Int32) (K48 : Int32 → wM → Prop) (K63 : Int32 → wM → Prop) (y2 : Int32) (M : wM) (Q : wM → Prop) : Prop := ((gi M 12 0) ≤ y2 → K48 (z1 + (nI 1)) M) ∧ (¬ (gi M 12 0) ≤ y2 → w_X2_of ((jshl (nI 1) z1) ||| (jshl (nI 1) y2)) (nI 2) M (fun r4 M5 => w_X10_addFault r4 M5 (fun M7 => w_X2_of ((jshl (nI 1) z1) ||| (jshl (nI 1) y2)) (nI 3) M7 (fun r8 M9 => w_X10_addFault r8 M9 (fun M11 => K63 (y2 + (nI 1)) M11)))))
set_option maxRecDepth 20000 in
theorem wbk_X10_listFaults_63 {z1 : Int32} {K48 : Int32 → wM → Prop} {K63 : Int32 → wM → Prop} {y2 : Int32} {M : wM} {Q : wM → Prop} (hK48 : ∀ (v1 : Int32) (M : wM), K48 v1 M → aG 105 (48, [some (.ref 54), some (.int v1), none], [], mkX M) (aPv mkX Q)) (hK63 : ∀ (v2 : Int32) (M : wM), K63 v2 M → aG 105 (63, [some (.ref 54), some (.int z1), some (.int v2)], [], mkX M) (aPv mkX Q)) (h : wb_X10_listFaults_63 z1 K48 K63 y2 M Q) : aG 105 (63, [some (.ref 54), some (.int z1), some (.int y2)], [], mkX M) (aPv mkX Q) := by
  unfold wb_X10_listFaults_63 at h
  refine aG_n 4 (s' := (71, [some (.ref 54), some (.int z1), some (.int y2)], [(.int (gi M 12 0)), (.int y2)], mkX M)) rfl ?_
  obtain ⟨h1, h2⟩ := h
  by_cases q3 : (gi M 12 0) ≤ y2
  · have h := h1 q3
    refine aG_icmp (cd := .ge) (b := true) (decide_eq_true q3) rfl ?_
    refine aG_n 2 (s' := (48, [some (.ref 54), some (.int (z1 + (nI 1))), some (.int y2)], [], mkX M)) rfl ?_
    refine aG_le (a := [some (.ref 54), some (.int (z1 + (nI 1))), none]) ⟨rfl, ⟨rfl, trivial⟩⟩ ?_
    exact hK48 _ _ h
  · have h := h2 q3
    refine aG_icmp (cd := .ge) (b := false) (decide_eq_false q3) rfl ?_
    refine aG_n 9 (s' := (83, [some (.ref 54), some (.int z1), some (.int y2)], [(.int (nI 2)), (.int ((jshl (nI 1) z1) ||| (jshl (nI 1) y2))), (.ref 54)], mkX M)) rfl ?_
    refine aG_call rfl rfl (aG_mono (wk_X2_of h) ?_)
    rintro _ ⟨r4, M5, rfl, h⟩
    refine aG_n 0 (s' := (86, [some (.ref 54), some (.int z1), some (.int y2)], [(.int r4), (.ref 54)], mkX M5)) rfl ?_
    refine aG_call rfl rfl (aG_mono (wk_X10_addFault h) ?_)
    rintro _ ⟨M7, rfl, h⟩
    refine aG_n 9 (s' := (98, [some (.ref 54), some (.int z1), some (.int y2)], [(.int (nI 3)), (.int ((jshl (nI 1) z1) ||| (jshl (nI 1) y2))), (.ref 54)], mkX M7)) rfl ?_
    refine aG_call rfl rfl (aG_mono (wk_X2_of h) ?_)
    rintro _ ⟨r8, M9, rfl, h⟩
    refine aG_n 0 (s' := (101, [some (.ref 54), some (.int z1), some (.int y2)], [(.int r8), (.ref 54)], mkX M9)) rfl ?_
    refine aG_call rfl rfl (aG_mono (wk_X10_addFault h) ?_)
    rintro _ ⟨M11, rfl, h⟩
    refine aG_n 2 (s' := (63, [some (.ref 54), some (.int z1), some (.int (y2 + (nI 1)))], [], mkX M11)) rfl ?_
    refine aG_le (a := [some (.ref 54), some (.int z1), some (.int (y2 + (nI 1)))]) ⟨rfl, ⟨rfl, ⟨rfl, trivial⟩⟩⟩ ?_
    exact hK63 _ _ h
def wL_X10_listFaults_63 (z1 : Int32) (K48 : Int32 → wM → Prop) (Q : wM → Prop) : Nat → Int32 → wM → Prop
  | 0, _, _ => False
  | n + 1, y2, M => wb_X10_listFaults_63 z1 K48 (wL_X10_listFaults_63 z1 K48 Q n) y2 M Q
set_option maxRecDepth 20000 in
theorem wLk_X10_listFaults_63 {z1 : Int32} {K48 : Int32 → wM → Prop} {Q : wM → Prop} (hK48 : ∀ (v1 : Int32) (M : wM), K48 v1 M → aG 105 (48, [some (.ref 54), some (.int v1), none], [], mkX M) (aPv mkX Q)) : ∀ (n : Nat) (y2 : Int32) (M : wM), wL_X10_listFaults_63 z1 K48 Q n y2 M → aG 105 (63, [some (.ref 54), some (.int z1), some (.int y2)], [], mkX M) (aPv mkX Q)
  | 0, _, _, h => h.elim
  | n + 1, y2, M, h => wbk_X10_listFaults_63 hK48 (fun y2 M h => wLk_X10_listFaults_63 hK48 n y2 M h) h
def wb_X10_listFaults_48 (K48 : Int32 → wM → Prop) (y1 : Int32) (M : wM) (Q : wM → Prop) : Prop := ((gi M 12 0) ≤ y1 → Q M) ∧ (¬ (gi M 12 0) ≤ y1 → ∃ n, wL_X10_listFaults_63 y1 K48 Q n (y1 + (nI 1)) M)
set_option maxRecDepth 20000 in
theorem wbk_X10_listFaults_48 {K48 : Int32 → wM → Prop} {y1 : Int32} {M : wM} {Q : wM → Prop} (hK48 : ∀ (v1 : Int32) (M : wM), K48 v1 M → aG 105 (48, [some (.ref 54), some (.int v1), none], [], mkX M) (aPv mkX Q)) (h : wb_X10_listFaults_48 K48 y1 M Q) : aG 105 (48, [some (.ref 54), some (.int y1), none], [], mkX M) (aPv mkX Q) := by
  unfold wb_X10_listFaults_48 at h
  refine aG_n 4 (s' := (56, [some (.ref 54), some (.int y1), none], [(.int (gi M 12 0)), (.int y1)], mkX M)) rfl ?_
  obtain ⟨h1, h2⟩ := h
  by_cases q2 : (gi M 12 0) ≤ y1
  · have h := h1 q2
    refine aG_icmp (cd := .ge) (b := true) (decide_eq_true q2) rfl ?_
    refine aG_n 0 (s' := (116, [some (.ref 54), some (.int y1), none], [], mkX M)) rfl ?_
    exact aG_retV rfl rfl ⟨_, rfl, h⟩
  · have h := h2 q2
    refine aG_icmp (cd := .ge) (b := false) (decide_eq_false q2) rfl ?_
    refine aG_n 4 (s' := (63, [some (.ref 54), some (.int y1), some (.int (y1 + (nI 1)))], [], mkX M)) rfl ?_
    refine aG_le (a := [some (.ref 54), some (.int y1), some (.int (y1 + (nI 1)))]) ⟨rfl, ⟨rfl, ⟨rfl, trivial⟩⟩⟩ ?_
    obtain ⟨n, h⟩ := h
    exact wLk_X10_listFaults_63 hK48 n _ _ h
def wL_X10_listFaults_48 (Q : wM → Prop) : Nat → Int32 → wM → Prop
  | 0, _, _ => False
  | n + 1, y1, M => wb_X10_listFaults_48 (wL_X10_listFaults_48 Q n) y1 M Q
set_option maxRecDepth 20000 in
theorem wLk_X10_listFaults_48 {Q : wM → Prop} : ∀ (n : Nat) (y1 : Int32) (M : wM), wL_X10_listFaults_48 Q n y1 M → aG 105 (48, [some (.ref 54), some (.int y1), none], [], mkX M) (aPv mkX Q)
  | 0, _, _, h => h.elim
  | n + 1, y1, M, h => wbk_X10_listFaults_48 (fun y1 M h => wLk_X10_listFaults_48 n y1 M h) h
def wb_X10_listFaults_7 (K7 : Int32 → wM → Prop) (y1 : Int32) (M : wM) (Q : wM → Prop) : Prop := ((gi M 12 0) ≤ y1 → ∃ n, wL_X10_listFaults_48 Q n (nI 0) M) ∧ (¬ (gi M 12 0) ≤ y1 → w_X2_of (jshl (nI 1) y1) (nI 0) M (fun r12 M13 => w_X10_addFault r12 M13 (fun M15 => w_X2_of (jshl (nI 1) y1) (nI 1) M15 (fun r16 M17 => w_X10_addFault r16 M17 (fun M19 => K7 (y1 + (nI 1)) M19)))))
set_option maxRecDepth 20000 in
theorem wbk_X10_listFaults_7 {K7 : Int32 → wM → Prop} {y1 : Int32} {M : wM} {Q : wM → Prop} (hK7 : ∀ (v1 : Int32) (M : wM), K7 v1 M → aG 105 (7, [some (.ref 54), some (.int v1), none], [], mkX M) (aPv mkX Q)) (h : wb_X10_listFaults_7 K7 y1 M Q) : aG 105 (7, [some (.ref 54), some (.int y1), none], [], mkX M) (aPv mkX Q) := by
  unfold wb_X10_listFaults_7 at h
  refine aG_n 4 (s' := (15, [some (.ref 54), some (.int y1), none], [(.int (gi M 12 0)), (.int y1)], mkX M)) rfl ?_
  obtain ⟨h1, h2⟩ := h
  by_cases q1 : (gi M 12 0) ≤ y1
  · have h := h1 q1
    refine aG_icmp (cd := .ge) (b := true) (decide_eq_true q1) rfl ?_
    refine aG_n 2 (s' := (48, [some (.ref 54), some (.int (nI 0)), none], [], mkX M)) rfl ?_
    refine aG_le (a := [some (.ref 54), some (.int (nI 0)), none]) ⟨rfl, ⟨rfl, trivial⟩⟩ ?_
    obtain ⟨n, h⟩ := h
    exact wLk_X10_listFaults_48 n _ _ h
  · have h := h2 q1
    refine aG_icmp (cd := .ge) (b := false) (decide_eq_false q1) rfl ?_
    refine aG_n 5 (s' := (23, [some (.ref 54), some (.int y1), none], [(.int (nI 0)), (.int (jshl (nI 1) y1)), (.ref 54)], mkX M)) rfl ?_
    refine aG_call rfl rfl (aG_mono (wk_X2_of h) ?_)
    rintro _ ⟨r12, M13, rfl, h⟩
    refine aG_n 0 (s' := (26, [some (.ref 54), some (.int y1), none], [(.int r12), (.ref 54)], mkX M13)) rfl ?_
    refine aG_call rfl rfl (aG_mono (wk_X10_addFault h) ?_)
    rintro _ ⟨M15, rfl, h⟩
    refine aG_n 5 (s' := (34, [some (.ref 54), some (.int y1), none], [(.int (nI 1)), (.int (jshl (nI 1) y1)), (.ref 54)], mkX M15)) rfl ?_
    refine aG_call rfl rfl (aG_mono (wk_X2_of h) ?_)
    rintro _ ⟨r16, M17, rfl, h⟩
    refine aG_n 0 (s' := (37, [some (.ref 54), some (.int y1), none], [(.int r16), (.ref 54)], mkX M17)) rfl ?_
    refine aG_call rfl rfl (aG_mono (wk_X10_addFault h) ?_)
    rintro _ ⟨M19, rfl, h⟩
    refine aG_n 2 (s' := (7, [some (.ref 54), some (.int (y1 + (nI 1))), none], [], mkX M19)) rfl ?_
    refine aG_le (a := [some (.ref 54), some (.int (y1 + (nI 1))), none]) ⟨rfl, ⟨rfl, trivial⟩⟩ ?_
    exact hK7 _ _ h
def wL_X10_listFaults_7 (Q : wM → Prop) : Nat → Int32 → wM → Prop
  | 0, _, _ => False
  | n + 1, y1, M => wb_X10_listFaults_7 (wL_X10_listFaults_7 Q n) y1 M Q
set_option maxRecDepth 20000 in
theorem wLk_X10_listFaults_7 {Q : wM → Prop} : ∀ (n : Nat) (y1 : Int32) (M : wM), wL_X10_listFaults_7 Q n y1 M → aG 105 (7, [some (.ref 54), some (.int y1), none], [], mkX M) (aPv mkX Q)
  | 0, _, _, h => h.elim
  | n + 1, y1, M, h => wbk_X10_listFaults_7 (fun y1 M h => wLk_X10_listFaults_7 n y1 M h) h
def w_X10_listFaults (M : wM) (Q : wM → Prop) : Prop := ∃ n, wL_X10_listFaults_7 Q n (nI 0) (si M 54 4 (nI 0))
set_option maxRecDepth 20000 in
theorem wk_X10_listFaults {M : wM} {Q : wM → Prop} (h : w_X10_listFaults M Q) : aG 105 (aEn 105 [(.ref 54)] (mkX M)) (aPv mkX Q) := by
  unfold w_X10_listFaults at h
  refine aG_n 5 (s' := (7, [some (.ref 54), some (.int (nI 0)), none], [], mkX (si M 54 4 (nI 0)))) rfl ?_
  refine aG_le (a := [some (.ref 54), some (.int (nI 0)), none]) ⟨rfl, ⟨rfl, trivial⟩⟩ ?_
  obtain ⟨n, h⟩ := h
  exact wLk_X10_listFaults_7 n _ _ h
def w_X10_isGuess (x1 : Int32) (x2 : Int32) (M : wM) (Q : Int32 → wM → Prop) : Prop := (x2 = (-4) → (x1 = (-4) → Q (nI 1) M) ∧ (¬ x1 = (-4) → w_X10_isFault x1 M (fun r3 M4 => (r3 = (nI 0) → Q (nI 0) M4) ∧ (¬ r3 = (nI 0) → Q (nI 1) M4)))) ∧ (¬ x2 = (-4) → w_X10_isFault x1 M (fun r6 M7 => (r6 = (nI 0) → Q (nI 0) M7) ∧ (¬ r6 = (nI 0) → w_X10_isFault x2 M7 (fun r9 M10 => (r9 = (nI 0) → Q (nI 0) M10) ∧ (¬ r9 = (nI 0) → (x1 = x2 → Q (nI 0) M10) ∧ (¬ x1 = x2 → Q (nI 1) M10))))))
set_option maxRecDepth 20000 in
theorem wk_X10_isGuess {x1 : Int32} {x2 : Int32} {M : wM} {Q : Int32 → wM → Prop} (h : w_X10_isGuess x1 x2 M Q) : aG 106 (aEn 106 [(.ref 54), (.int x1), (.int x2)] (mkX M)) (aPi mkX Q) := by
  unfold w_X10_isGuess at h
  refine aG_n 2 (s' := (3, [some (.ref 54), some (.int x1), some (.int x2)], [(.int (-4)), (.int x2)], mkX M)) rfl ?_
  obtain ⟨h1, h2⟩ := h
  by_cases q1 : x2 = (-4)
  · have h := h1 q1
    refine aG_icmp (cd := .ne) (b := false) (aTne0 q1) rfl ?_
    refine aG_n 2 (s' := (9, [some (.ref 54), some (.int x1), some (.int x2)], [(.int (-4)), (.int x1)], mkX M)) rfl ?_
    obtain ⟨h1, h2⟩ := h
    by_cases q2 : x1 = (-4)
    · have h := h1 q2
      refine aG_icmp (cd := .eq) (b := true) (decide_eq_true q2) rfl ?_
      refine aG_n 2 (s' := (25, [some (.ref 54), some (.int x1), some (.int x2)], [(.int (nI 1))], mkX M)) rfl ?_
      exact aG_retZ rfl rfl (Or.inr rfl) ⟨_, _, rfl, h⟩
    · have h := h2 q2
      refine aG_icmp (cd := .eq) (b := false) (decide_eq_false q2) rfl ?_
      refine aG_n 2 (s' := (14, [some (.ref 54), some (.int x1), some (.int x2)], [(.int x1), (.ref 54)], mkX M)) rfl ?_
      refine aG_call rfl rfl (aG_mono (wk_X10_isFault h) ?_)
      rintro _ ⟨r3, M4, rfl, h⟩
      refine aG_n 0 (s' := (17, [some (.ref 54), some (.int x1), some (.int x2)], [(.int r3)], mkX M4)) rfl ?_
      obtain ⟨h1, h2⟩ := h
      by_cases q5 : r3 = (nI 0)
      · have h := h1 q5
        refine aG_if (cd := .eq) (b := true) (decide_eq_true q5) rfl ?_
        refine aG_n 1 (s' := (25, [some (.ref 54), some (.int x1), some (.int x2)], [(.int (nI 0))], mkX M4)) rfl ?_
        exact aG_retZ rfl rfl (Or.inl rfl) ⟨_, _, rfl, h⟩
      · have h := h2 q5
        refine aG_if (cd := .eq) (b := false) (decide_eq_false q5) rfl ?_
        refine aG_n 2 (s' := (25, [some (.ref 54), some (.int x1), some (.int x2)], [(.int (nI 1))], mkX M4)) rfl ?_
        exact aG_retZ rfl rfl (Or.inr rfl) ⟨_, _, rfl, h⟩
  · have h := h2 q1
    refine aG_icmp (cd := .ne) (b := true) (aTne1 q1) rfl ?_
    refine aG_n 2 (s' := (28, [some (.ref 54), some (.int x1), some (.int x2)], [(.int x1), (.ref 54)], mkX M)) rfl ?_
    refine aG_call rfl rfl (aG_mono (wk_X10_isFault h) ?_)
    rintro _ ⟨r6, M7, rfl, h⟩
    refine aG_n 0 (s' := (31, [some (.ref 54), some (.int x1), some (.int x2)], [(.int r6)], mkX M7)) rfl ?_
    obtain ⟨h1, h2⟩ := h
    by_cases q8 : r6 = (nI 0)
    · have h := h1 q8
      refine aG_if (cd := .eq) (b := true) (decide_eq_true q8) rfl ?_
      refine aG_n 1 (s' := (52, [some (.ref 54), some (.int x1), some (.int x2)], [(.int (nI 0))], mkX M7)) rfl ?_
      exact aG_retZ rfl rfl (Or.inl rfl) ⟨_, _, rfl, h⟩
    · have h := h2 q8
      refine aG_if (cd := .eq) (b := false) (decide_eq_false q8) rfl ?_
      refine aG_n 2 (s' := (36, [some (.ref 54), some (.int x1), some (.int x2)], [(.int x2), (.ref 54)], mkX M7)) rfl ?_
      refine aG_call rfl rfl (aG_mono (wk_X10_isFault h) ?_)
      rintro _ ⟨r9, M10, rfl, h⟩
      refine aG_n 0 (s' := (39, [some (.ref 54), some (.int x1), some (.int x2)], [(.int r9)], mkX M10)) rfl ?_
      obtain ⟨h1, h2⟩ := h
      by_cases q11 : r9 = (nI 0)
      · have h := h1 q11
        refine aG_if (cd := .eq) (b := true) (decide_eq_true q11) rfl ?_
        refine aG_n 1 (s' := (52, [some (.ref 54), some (.int x1), some (.int x2)], [(.int (nI 0))], mkX M10)) rfl ?_
        exact aG_retZ rfl rfl (Or.inl rfl) ⟨_, _, rfl, h⟩
      · have h := h2 q11
        refine aG_if (cd := .eq) (b := false) (decide_eq_false q11) rfl ?_
        refine aG_n 2 (s' := (44, [some (.ref 54), some (.int x1), some (.int x2)], [(.int x2), (.int x1)], mkX M10)) rfl ?_
        obtain ⟨h1, h2⟩ := h
        by_cases q12 : x1 = x2
        · have h := h1 q12
          refine aG_icmp (cd := .eq) (b := true) (decide_eq_true q12) rfl ?_
          refine aG_n 1 (s' := (52, [some (.ref 54), some (.int x1), some (.int x2)], [(.int (nI 0))], mkX M10)) rfl ?_
          exact aG_retZ rfl rfl (Or.inl rfl) ⟨_, _, rfl, h⟩
        · have h := h2 q12
          refine aG_icmp (cd := .eq) (b := false) (decide_eq_false q12) rfl ?_
          refine aG_n 2 (s' := (52, [some (.ref 54), some (.int x1), some (.int x2)], [(.int (nI 1))], mkX M10)) rfl ?_
          exact aG_retZ rfl rfl (Or.inr rfl) ⟨_, _, rfl, h⟩
def w_X10_groupOf (x1 : Int32) (M : wM) (Q : Int32 → wM → Prop) : Prop := w_X10_isFault x1 M (fun r1 M2 => (r1 = (nI 0) → Q (nI 0) M2) ∧ (¬ r1 = (nI 0) → vp_in x1 72 ∧ (Q (gi M2 57 x1.toNatClampNeg) M2)))
set_option maxRecDepth 20000 in
theorem wk_X10_groupOf {x1 : Int32} {M : wM} {Q : Int32 → wM → Prop} (h : w_X10_groupOf x1 M Q) : aG 107 (aEn 107 [(.ref 54), (.int x1)] (mkX M)) (aPi mkX Q) := by
  unfold w_X10_groupOf at h
  refine aG_n 2 (s' := (2, [some (.ref 54), some (.int x1)], [(.int x1), (.ref 54)], mkX M)) rfl ?_
  refine aG_call rfl rfl (aG_mono (wk_X10_isFault h) ?_)
  rintro _ ⟨r1, M2, rfl, h⟩
  refine aG_n 0 (s' := (5, [some (.ref 54), some (.int x1)], [(.int r1)], mkX M2)) rfl ?_
  obtain ⟨h1, h2⟩ := h
  by_cases q3 : r1 = (nI 0)
  · have h := h1 q3
    refine aG_if (cd := .eq) (b := true) (decide_eq_true q3) rfl ?_
    refine aG_n 1 (s' := (18, [some (.ref 54), some (.int x1)], [(.int (nI 0))], mkX M2)) rfl ?_
    exact aG_ret0 rfl rfl ⟨_, _, rfl, h⟩
  · have h := h2 q3
    refine aG_if (cd := .eq) (b := false) (decide_eq_false q3) rfl ?_
    refine aG_n 3 (s' := (13, [some (.ref 54), some (.int x1)], [(.int x1), (.ref 57)], mkX M2)) rfl ?_
    obtain ⟨f4, h⟩ := h
    refine aG_iald rfl rfl rfl f4 ?_
    refine aG_n 1 (s' := (18, [some (.ref 54), some (.int x1)], [(.int (gi M2 57 x1.toNatClampNeg))], mkX M2)) rfl ?_
    exact aG_ret0 rfl rfl ⟨_, _, rfl, h⟩
def wb_X10_column_5 (z1 : Nat) (z2 : Int32) (K5 : Int32 → Int32 → wM → Prop) (y3 : Int32) (y4 : Int32) (M : wM) (Q : Int32 → wM → Prop) : Prop := ((gi M 54 1) ≤ y4 → Q y3 M) ∧ (¬ (gi M 54 1) ≤ y4 → vp_in y4 (lnX z1) ∧ (w_X11_bit (gi M z1 y4.toNatClampNeg) z2 M (fun r3 M4 => K5 (y3 ||| (jshl r3 y4)) (y4 + (nI 1)) M4)))
set_option maxRecDepth 20000 in
theorem wbk_X10_column_5 {z1 : Nat} {z2 : Int32} {K5 : Int32 → Int32 → wM → Prop} {y3 : Int32} {y4 : Int32} {M : wM} {Q : Int32 → wM → Prop} (hz1 : iaX z1) (hK5 : ∀ (v3 : Int32) (v4 : Int32) (M : wM), K5 v3 v4 M → aG 108 (5, [some (.ref 54), some (.ref z1), some (.int z2), some (.int v3), some (.int v4)], [], mkX M) (aPi mkX Q)) (h : wb_X10_column_5 z1 z2 K5 y3 y4 M Q) : aG 108 (5, [some (.ref 54), some (.ref z1), some (.int z2), some (.int y3), some (.int y4)], [], mkX M) (aPi mkX Q) := by
  unfold wb_X10_column_5 at h
  refine aG_n 3 (s' := (11, [some (.ref 54), some (.ref z1), some (.int z2), some (.int y3), some (.int y4)], [(.int (gi M 54 1)), (.int y4)], mkX M)) rfl ?_
  obtain ⟨h1, h2⟩ := h
  by_cases q1 : (gi M 54 1) ≤ y4
  · have h := h1 q1
    refine aG_icmp (cd := .ge) (b := true) (decide_eq_true q1) rfl ?_
    refine aG_n 1 (s' := (35, [some (.ref 54), some (.ref z1), some (.int z2), some (.int y3), some (.int y4)], [(.int y3)], mkX M)) rfl ?_
    exact aG_ret0 rfl rfl ⟨_, _, rfl, h⟩
  · have h := h2 q1
    refine aG_icmp (cd := .ge) (b := false) (decide_eq_false q1) rfl ?_
    refine aG_n 3 (s' := (18, [some (.ref 54), some (.ref z1), some (.int z2), some (.int y3), some (.int y4)], [(.int y4), (.ref z1), (.int y3)], mkX M)) rfl ?_
    obtain ⟨f2, h⟩ := h
    refine aG_iald rfl hz1 rfl f2 ?_
    refine aG_n 1 (s' := (20, [some (.ref 54), some (.ref z1), some (.int z2), some (.int y3), some (.int y4)], [(.int z2), (.int (gi M z1 y4.toNatClampNeg)), (.int y3)], mkX M)) rfl ?_
    refine aG_call rfl rfl (aG_mono (wk_X11_bit h) ?_)
    rintro _ ⟨r3, M4, rfl, h⟩
    refine aG_n 6 (s' := (5, [some (.ref 54), some (.ref z1), some (.int z2), some (.int (y3 ||| (jshl r3 y4))), some (.int (y4 + (nI 1)))], [], mkX M4)) rfl ?_
    refine aG_le (a := [some (.ref 54), some (.ref z1), some (.int z2), some (.int (y3 ||| (jshl r3 y4))), some (.int (y4 + (nI 1)))]) ⟨rfl, ⟨rfl, ⟨rfl, ⟨rfl, ⟨rfl, trivial⟩⟩⟩⟩⟩ ?_
    exact hK5 _ _ _ h
def wL_X10_column_5 (z1 : Nat) (z2 : Int32) (Q : Int32 → wM → Prop) : Nat → Int32 → Int32 → wM → Prop
  | 0, _, _, _ => False
  | n + 1, y3, y4, M => wb_X10_column_5 z1 z2 (wL_X10_column_5 z1 z2 Q n) y3 y4 M Q
set_option maxRecDepth 20000 in
theorem wLk_X10_column_5 {z1 : Nat} {z2 : Int32} {Q : Int32 → wM → Prop} (hz1 : iaX z1) : ∀ (n : Nat) (y3 : Int32) (y4 : Int32) (M : wM), wL_X10_column_5 z1 z2 Q n y3 y4 M → aG 108 (5, [some (.ref 54), some (.ref z1), some (.int z2), some (.int y3), some (.int y4)], [], mkX M) (aPi mkX Q)
  | 0, _, _, _, h => h.elim
  | n + 1, y3, y4, M, h => wbk_X10_column_5 hz1 (fun y3 y4 M h => wLk_X10_column_5 hz1 n y3 y4 M h) h
def w_X10_column (x1 : Nat) (x2 : Int32) (M : wM) (Q : Int32 → wM → Prop) : Prop := iaX x1 ∧ (∃ n, wL_X10_column_5 x1 x2 Q n (nI 0) (nI 0) M)
set_option maxRecDepth 20000 in
theorem wk_X10_column {x1 : Nat} {x2 : Int32} {M : wM} {Q : Int32 → wM → Prop} (h : w_X10_column x1 x2 M Q) : aG 108 (aEn 108 [(.ref 54), (.ref x1), (.int x2)] (mkX M)) (aPi mkX Q) := by
  unfold w_X10_column at h
  obtain ⟨hx1, h⟩ := h
  refine aG_n 4 (s' := (5, [some (.ref 54), some (.ref x1), some (.int x2), some (.int (nI 0)), some (.int (nI 0))], [], mkX M)) rfl ?_
  refine aG_le (a := [some (.ref 54), some (.ref x1), some (.int x2), some (.int (nI 0)), some (.int (nI 0))]) ⟨rfl, ⟨rfl, ⟨rfl, ⟨rfl, ⟨rfl, trivial⟩⟩⟩⟩⟩ ?_
  obtain ⟨n, h⟩ := h
  exact wLk_X10_column_5 hx1 n _ _ _ h
def wb_X10_signOf_5 (z1 : Int32) (K5 : Int64 → Int32 → wM → Prop) (y2 : Int64) (y4 : Int32) (M : wM) (Q : Int64 → wM → Prop) : Prop := ((gi M 54 1) ≤ y4 → Q y2 M) ∧ (¬ (gi M 54 1) ≤ y4 → vp_in y4 8 ∧ (w_X2_settle (gi M 55 y4.toNatClampNeg) z1 M (fun r3 M4 => K5 ((jlshl y2 (nI 8)) ||| r3.toInt64) (y4 + (nI 1)) M4)))
set_option maxRecDepth 20000 in
theorem wbk_X10_signOf_5 {z1 : Int32} {K5 : Int64 → Int32 → wM → Prop} {y2 : Int64} {y4 : Int32} {M : wM} {Q : Int64 → wM → Prop} (hK5 : ∀ (v2 : Int64) (v4 : Int32) (M : wM), K5 v2 v4 M → aG 109 (5, [some (.ref 54), some (.int z1), some (.long v2), none, some (.int v4)], [], mkX M) (aPl mkX Q)) (h : wb_X10_signOf_5 z1 K5 y2 y4 M Q) : aG 109 (5, [some (.ref 54), some (.int z1), some (.long y2), none, some (.int y4)], [], mkX M) (aPl mkX Q) := by
  unfold wb_X10_signOf_5 at h
  refine aG_n 3 (s' := (11, [some (.ref 54), some (.int z1), some (.long y2), none, some (.int y4)], [(.int (gi M 54 1)), (.int y4)], mkX M)) rfl ?_
  obtain ⟨h1, h2⟩ := h
  by_cases q1 : (gi M 54 1) ≤ y4
  · have h := h1 q1
    refine aG_icmp (cd := .ge) (b := true) (decide_eq_true q1) rfl ?_
    refine aG_n 1 (s' := (39, [some (.ref 54), some (.int z1), some (.long y2), none, some (.int y4)], [(.long y2)], mkX M)) rfl ?_
    exact aG_retL rfl rfl ⟨_, _, rfl, h⟩
  · have h := h2 q1
    refine aG_icmp (cd := .ge) (b := false) (decide_eq_false q1) rfl ?_
    refine aG_n 6 (s' := (24, [some (.ref 54), some (.int z1), some (.long y2), none, some (.int y4)], [(.int y4), (.ref 55), (.long (jlshl y2 (nI 8)))], mkX M)) rfl ?_
    obtain ⟨f2, h⟩ := h
    refine aG_iald rfl rfl rfl f2 ?_
    refine aG_n 1 (s' := (26, [some (.ref 54), some (.int z1), some (.long y2), none, some (.int y4)], [(.int z1), (.int (gi M 55 y4.toNatClampNeg)), (.long (jlshl y2 (nI 8)))], mkX M)) rfl ?_
    refine aG_call rfl rfl (aG_mono (wk_X2_settle h) ?_)
    rintro _ ⟨r3, M4, rfl, h⟩
    refine aG_n 5 (s' := (5, [some (.ref 54), some (.int z1), some (.long ((jlshl y2 (nI 8)) ||| r3.toInt64)), none, some (.int (y4 + (nI 1)))], [], mkX M4)) rfl ?_
    refine aG_le (a := [some (.ref 54), some (.int z1), some (.long ((jlshl y2 (nI 8)) ||| r3.toInt64)), none, some (.int (y4 + (nI 1)))]) ⟨rfl, ⟨rfl, ⟨rfl, ⟨rfl, trivial⟩⟩⟩⟩ ?_
    exact hK5 _ _ _ h
def wL_X10_signOf_5 (z1 : Int32) (Q : Int64 → wM → Prop) : Nat → Int64 → Int32 → wM → Prop
  | 0, _, _, _ => False
  | n + 1, y2, y4, M => wb_X10_signOf_5 z1 (wL_X10_signOf_5 z1 Q n) y2 y4 M Q
set_option maxRecDepth 20000 in
theorem wLk_X10_signOf_5 {z1 : Int32} {Q : Int64 → wM → Prop} : ∀ (n : Nat) (y2 : Int64) (y4 : Int32) (M : wM), wL_X10_signOf_5 z1 Q n y2 y4 M → aG 109 (5, [some (.ref 54), some (.int z1), some (.long y2), none, some (.int y4)], [], mkX M) (aPl mkX Q)
  | 0, _, _, _, h => h.elim
  | n + 1, y2, y4, M, h => wbk_X10_signOf_5 (fun y2 y4 M h => wLk_X10_signOf_5 n y2 y4 M h) h
def w_X10_signOf (x1 : Int32) (M : wM) (Q : Int64 → wM → Prop) : Prop := ∃ n, wL_X10_signOf_5 x1 Q n (lN 0) (nI 0) M
set_option maxRecDepth 20000 in
theorem wk_X10_signOf {x1 : Int32} {M : wM} {Q : Int64 → wM → Prop} (h : w_X10_signOf x1 M Q) : aG 109 (aEn 109 [(.ref 54), (.int x1)] (mkX M)) (aPl mkX Q) := by
  unfold w_X10_signOf at h
  refine aG_n 4 (s' := (5, [some (.ref 54), some (.int x1), some (.long (lN 0)), none, some (.int (nI 0))], [], mkX M)) rfl ?_
  refine aG_le (a := [some (.ref 54), some (.int x1), some (.long (lN 0)), none, some (.int (nI 0))]) ⟨rfl, ⟨rfl, ⟨rfl, ⟨rfl, trivial⟩⟩⟩⟩ ?_
  obtain ⟨n, h⟩ := h
  exact wLk_X10_signOf_5 n _ _ _ h
def w_X11_feed (x1 : Int64) (M : wM) (Q : Int32 → wM → Prop) : Prop := w_X9_append x1 M (fun r1 M2 => (r1 = (nI 0) → Q (-3) M2) ∧ (¬ r1 = (nI 0) → Q (gi M2 1 1) M2))
set_option maxRecDepth 20000 in
theorem wk_X11_feed {x1 : Int64} {M : wM} {Q : Int32 → wM → Prop} (h : w_X11_feed x1 M Q) : aG 110 (aEn 110 [(.ref 0), (.long x1)] (mkX M)) (aPi mkX Q) := by
  unfold w_X11_feed at h
  refine aG_n 3 (s' := (5, [some (.ref 0), some (.long x1), none], [(.long x1), (.ref 1)], mkX M)) rfl ?_
  refine aG_call rfl rfl (aG_mono (wk_X9_append h) ?_)
  rintro _ ⟨r1, M2, rfl, h⟩
  refine aG_n 0 (s' := (8, [some (.ref 0), some (.long x1), none], [(.int r1)], mkX M2)) rfl ?_
  obtain ⟨h1, h2⟩ := h
  by_cases q3 : r1 = (nI 0)
  · have h := h1 q3
    refine aG_if (cd := .eq) (b := true) (decide_eq_true q3) rfl ?_
    refine aG_n 1 (s' := (23, [some (.ref 0), some (.long x1), none], [(.int (-3))], mkX M2)) rfl ?_
    exact aG_ret0 rfl rfl ⟨_, _, rfl, h⟩
  · have h := h2 q3
    refine aG_if (cd := .eq) (b := false) (decide_eq_false q3) rfl ?_
    refine aG_n 4 (s' := (23, [some (.ref 0), some (.long x1), none], [(.int (gi M2 1 1))], mkX M2)) rfl ?_
    exact aG_ret0 rfl rfl ⟨_, _, rfl, h⟩
def w_X11_part (x1 : Int32) (x2 : Int32) (M : wM) (Q : Int32 → wM → Prop) : Prop := (x1 < (nI 0) → Q (-1) M) ∧ (¬ x1 < (nI 0) → (x1 < (gi M 0 3) → vp_in x1 6 ∧ ((x2 = nI 0 → Q (gi M (65 + x1.toNatClampNeg) 0) M) ∧ (¬ x2 = nI 0 → (x2 = nI 1 → Q (gi M (65 + x1.toNatClampNeg) 2) M) ∧ (¬ x2 = nI 1 → (x2 = nI 2 → Q (gi M (65 + x1.toNatClampNeg) 3) M) ∧ (¬ x2 = nI 2 → (x2 = nI 3 → Q (gi M (65 + x1.toNatClampNeg) 4) M) ∧ (¬ x2 = nI 3 → (x2 = nI 4 → Q (gi M (65 + x1.toNatClampNeg) 1) M) ∧ (¬ x2 = nI 4 → (x2 = nI 5 → w_J6_bitCount_0f7a4 (gi M (65 + x1.toNatClampNeg) 5) M (fun r10 M11 => Q r10 M11)) ∧ (¬ x2 = nI 5 → (x2 < (nI 10) → Q (-1) M) ∧ (¬ x2 < (nI 10) → ((gi M (65 + x1.toNatClampNeg) 1) ≤ (x2 - (nI 10)) → Q (-1) M) ∧ (¬ (gi M (65 + x1.toNatClampNeg) 1) ≤ (x2 - (nI 10)) → w_X11_bit (gi M (65 + x1.toNatClampNeg) 5) (x2 - (nI 10)) M (fun r14 M15 => Q r14 M15))))))))))) ∧ (¬ x1 < (gi M 0 3) → Q (-1) M))
set_option maxRecDepth 20000 in
theorem wk_X11_part {x1 : Int32} {x2 : Int32} {M : wM} {Q : Int32 → wM → Prop} (h : w_X11_part x1 x2 M Q) : aG 111 (aEn 111 [(.ref 0), (.int x1), (.int x2)] (mkX M)) (aPi mkX Q) := by
  unfold w_X11_part at h
  refine aG_n 1 (s' := (1, [some (.ref 0), some (.int x1), some (.int x2), none], [(.int x1)], mkX M)) rfl ?_
  obtain ⟨h1, h2⟩ := h
  by_cases q1 : x1 < (nI 0)
  · have h := h1 q1
    refine aG_if (cd := .lt) (b := true) (decide_eq_true q1) rfl ?_
    refine aG_n 1 (s' := (13, [some (.ref 0), some (.int x1), some (.int x2), none], [(.int (-1))], mkX M)) rfl ?_
    exact aG_ret0 rfl rfl ⟨_, _, rfl, h⟩
  · have h := h2 q1
    refine aG_if (cd := .lt) (b := false) (decide_eq_false q1) rfl ?_
    refine aG_n 3 (s' := (9, [some (.ref 0), some (.int x1), some (.int x2), none], [(.int (gi M 0 3)), (.int x1)], mkX M)) rfl ?_
    obtain ⟨h1, h2⟩ := h
    by_cases q2 : x1 < (gi M 0 3)
    · have h := h1 q2
      refine aG_icmp (cd := .lt) (b := true) (decide_eq_true q2) rfl ?_
      refine aG_n 3 (s' := (19, [some (.ref 0), some (.int x1), some (.int x2), none], [(.int x1), (.ref 11)], mkX M)) rfl ?_
      obtain ⟨f3, h⟩ := h
      refine aG_aald rfl rfl rfl f3 (rX_11 (P := (M).2.2) (vin_lt f3)) ?_
      refine aG_n 2 (s' := (22, [some (.ref 0), some (.int x1), some (.int x2), some (.ref (65 + x1.toNatClampNeg))], [(.int x2)], mkX M)) rfl ?_
      obtain ⟨h1, h⟩ := h
      by_cases q4 : x2 = nI 0
      · have h := h1 q4
        refine aG_tbl rfl (by rw [q4] <;> decide) (by rw [q4] <;> rfl) ?_
        refine aG_n 1 (s' := (61, [some (.ref 0), some (.int x1), some (.int x2), some (.ref (65 + x1.toNatClampNeg))], [(.ref (65 + x1.toNatClampNeg))], mkX M)) rfl ?_
        refine aG_get rfl (ptX_65 (vin_lt f3)) rfl rfl ?_
        refine aG_n 0 (s' := (64, [some (.ref 0), some (.int x1), some (.int x2), some (.ref (65 + x1.toNatClampNeg))], [(.int (gi M (65 + x1.toNatClampNeg) 0))], mkX M)) rfl ?_
        exact aG_ret0 rfl rfl ⟨_, _, rfl, h⟩
      have h := h q4
      obtain ⟨h1, h⟩ := h
      by_cases q5 : x2 = nI 1
      · have h := h1 q5
        refine aG_tbl rfl (by rw [q5] <;> decide) (by rw [q5] <;> rfl) ?_
        refine aG_n 1 (s' := (66, [some (.ref 0), some (.int x1), some (.int x2), some (.ref (65 + x1.toNatClampNeg))], [(.ref (65 + x1.toNatClampNeg))], mkX M)) rfl ?_
        refine aG_get rfl (ptX_65 (vin_lt f3)) rfl rfl ?_
        refine aG_n 0 (s' := (69, [some (.ref 0), some (.int x1), some (.int x2), some (.ref (65 + x1.toNatClampNeg))], [(.int (gi M (65 + x1.toNatClampNeg) 2))], mkX M)) rfl ?_
        exact aG_ret0 rfl rfl ⟨_, _, rfl, h⟩
      have h := h q5
      obtain ⟨h1, h⟩ := h
      by_cases q6 : x2 = nI 2
      · have h := h1 q6
        refine aG_tbl rfl (by rw [q6] <;> decide) (by rw [q6] <;> rfl) ?_
        refine aG_n 1 (s' := (71, [some (.ref 0), some (.int x1), some (.int x2), some (.ref (65 + x1.toNatClampNeg))], [(.ref (65 + x1.toNatClampNeg))], mkX M)) rfl ?_
        refine aG_get rfl (ptX_65 (vin_lt f3)) rfl rfl ?_
        refine aG_n 0 (s' := (74, [some (.ref 0), some (.int x1), some (.int x2), some (.ref (65 + x1.toNatClampNeg))], [(.int (gi M (65 + x1.toNatClampNeg) 3))], mkX M)) rfl ?_
        exact aG_ret0 rfl rfl ⟨_, _, rfl, h⟩
      have h := h q6
      obtain ⟨h1, h⟩ := h
      by_cases q7 : x2 = nI 3
      · have h := h1 q7
        refine aG_tbl rfl (by rw [q7] <;> decide) (by rw [q7] <;> rfl) ?_
        refine aG_n 1 (s' := (76, [some (.ref 0), some (.int x1), some (.int x2), some (.ref (65 + x1.toNatClampNeg))], [(.ref (65 + x1.toNatClampNeg))], mkX M)) rfl ?_
        refine aG_get rfl (ptX_65 (vin_lt f3)) rfl rfl ?_
        refine aG_n 0 (s' := (79, [some (.ref 0), some (.int x1), some (.int x2), some (.ref (65 + x1.toNatClampNeg))], [(.int (gi M (65 + x1.toNatClampNeg) 4))], mkX M)) rfl ?_
        exact aG_ret0 rfl rfl ⟨_, _, rfl, h⟩
      have h := h q7
      obtain ⟨h1, h⟩ := h
      by_cases q8 : x2 = nI 4
      · have h := h1 q8
        refine aG_tbl rfl (by rw [q8] <;> decide) (by rw [q8] <;> rfl) ?_
        refine aG_n 1 (s' := (81, [some (.ref 0), some (.int x1), some (.int x2), some (.ref (65 + x1.toNatClampNeg))], [(.ref (65 + x1.toNatClampNeg))], mkX M)) rfl ?_
        refine aG_get rfl (ptX_65 (vin_lt f3)) rfl rfl ?_
        refine aG_n 0 (s' := (84, [some (.ref 0), some (.int x1), some (.int x2), some (.ref (65 + x1.toNatClampNeg))], [(.int (gi M (65 + x1.toNatClampNeg) 1))], mkX M)) rfl ?_
        exact aG_ret0 rfl rfl ⟨_, _, rfl, h⟩
      have h := h q8
      obtain ⟨h1, h⟩ := h
      by_cases q9 : x2 = nI 5
      · have h := h1 q9
        refine aG_tbl rfl (by rw [q9] <;> decide) (by rw [q9] <;> rfl) ?_
        refine aG_n 1 (s' := (86, [some (.ref 0), some (.int x1), some (.int x2), some (.ref (65 + x1.toNatClampNeg))], [(.ref (65 + x1.toNatClampNeg))], mkX M)) rfl ?_
        refine aG_get rfl (ptX_65 (vin_lt f3)) rfl rfl ?_
        refine aG_n 0 (s' := (89, [some (.ref 0), some (.int x1), some (.int x2), some (.ref (65 + x1.toNatClampNeg))], [(.int (gi M (65 + x1.toNatClampNeg) 5))], mkX M)) rfl ?_
        refine aG_call rfl rfl (aG_mono (wk_J6_bitCount_0f7a4 h) ?_)
        rintro _ ⟨r10, M11, rfl, h⟩
        refine aG_n 0 (s' := (92, [some (.ref 0), some (.int x1), some (.int x2), some (.ref (65 + x1.toNatClampNeg))], [(.int r10)], mkX M11)) rfl ?_
        exact aG_ret0 rfl rfl ⟨_, _, rfl, h⟩
      have h := h q9
      refine aG_tbd rfl (tbl_out 5 (fun k hk _ => ?_) (by decide)) ?_
      · have hk2 : k = 0 ∨ k = 1 ∨ k = 2 ∨ k = 3 ∨ k = 4 ∨ k = 5 := by omega
        rcases hk2 with rfl | rfl | rfl | rfl | rfl | rfl <;> assumption
      refine aG_n 2 (s' := (96, [some (.ref 0), some (.int x1), some (.int x2), some (.ref (65 + x1.toNatClampNeg))], [(.int (nI 10)), (.int x2)], mkX M)) rfl ?_
      obtain ⟨h1, h2⟩ := h
      by_cases q12 : x2 < (nI 10)
      · have h := h1 q12
        refine aG_icmp (cd := .lt) (b := true) (decide_eq_true q12) rfl ?_
        refine aG_n 1 (s' := (125, [some (.ref 0), some (.int x1), some (.int x2), some (.ref (65 + x1.toNatClampNeg))], [(.int (-1))], mkX M)) rfl ?_
        exact aG_ret0 rfl rfl ⟨_, _, rfl, h⟩
      · have h := h2 q12
        refine aG_icmp (cd := .lt) (b := false) (decide_eq_false q12) rfl ?_
        refine aG_n 4 (s' := (104, [some (.ref 0), some (.int x1), some (.int x2), some (.ref (65 + x1.toNatClampNeg))], [(.ref (65 + x1.toNatClampNeg)), (.int (x2 - (nI 10)))], mkX M)) rfl ?_
        refine aG_get rfl (ptX_65 (vin_lt f3)) rfl rfl ?_
        refine aG_n 0 (s' := (107, [some (.ref 0), some (.int x1), some (.int x2), some (.ref (65 + x1.toNatClampNeg))], [(.int (gi M (65 + x1.toNatClampNeg) 1)), (.int (x2 - (nI 10)))], mkX M)) rfl ?_
        obtain ⟨h1, h2⟩ := h
        by_cases q13 : (gi M (65 + x1.toNatClampNeg) 1) ≤ (x2 - (nI 10))
        · have h := h1 q13
          refine aG_icmp (cd := .ge) (b := true) (decide_eq_true q13) rfl ?_
          refine aG_n 1 (s' := (125, [some (.ref 0), some (.int x1), some (.int x2), some (.ref (65 + x1.toNatClampNeg))], [(.int (-1))], mkX M)) rfl ?_
          exact aG_ret0 rfl rfl ⟨_, _, rfl, h⟩
        · have h := h2 q13
          refine aG_icmp (cd := .ge) (b := false) (decide_eq_false q13) rfl ?_
          refine aG_n 1 (s' := (111, [some (.ref 0), some (.int x1), some (.int x2), some (.ref (65 + x1.toNatClampNeg))], [(.ref (65 + x1.toNatClampNeg))], mkX M)) rfl ?_
          refine aG_get rfl (ptX_65 (vin_lt f3)) rfl rfl ?_
          refine aG_n 3 (s' := (118, [some (.ref 0), some (.int x1), some (.int x2), some (.ref (65 + x1.toNatClampNeg))], [(.int (x2 - (nI 10))), (.int (gi M (65 + x1.toNatClampNeg) 5))], mkX M)) rfl ?_
          refine aG_call rfl rfl (aG_mono (wk_X11_bit h) ?_)
          rintro _ ⟨r14, M15, rfl, h⟩
          refine aG_n 1 (s' := (125, [some (.ref 0), some (.int x1), some (.int x2), some (.ref (65 + x1.toNatClampNeg))], [(.int r14)], mkX M15)) rfl ?_
          exact aG_ret0 rfl rfl ⟨_, _, rfl, h⟩
    · have h := h2 q2
      refine aG_icmp (cd := .lt) (b := false) (decide_eq_false q2) rfl ?_
      refine aG_n 1 (s' := (13, [some (.ref 0), some (.int x1), some (.int x2), none], [(.int (-1))], mkX M)) rfl ?_
      exact aG_ret0 rfl rfl ⟨_, _, rfl, h⟩
def w_X11_cut (x1 : Int32) (x2 : Int32) (M : wM) (Q : Int32 → wM → Prop) : Prop := (x1 < (nI 0) → Q (-1) M) ∧ (¬ x1 < (nI 0) → ((gi M 26 3) < x1 → Q (-1) M) ∧ (¬ (gi M 26 3) < x1 → w_X11_isLevelOrNone x2 M (fun r3 M4 => (r3 = (nI 0) → Q (-1) M4) ∧ (¬ r3 = (nI 0) → vp_in x1 7 ∧ (vp_in x1 7 ∧ (Q (gi M4 31 x1.toNatClampNeg) (si M4 31 x1.toNatClampNeg x2)))))))
set_option maxRecDepth 20000 in
theorem wk_X11_cut {x1 : Int32} {x2 : Int32} {M : wM} {Q : Int32 → wM → Prop} (h : w_X11_cut x1 x2 M Q) : aG 112 (aEn 112 [(.ref 0), (.int x1), (.int x2)] (mkX M)) (aPi mkX Q) := by
  unfold w_X11_cut at h
  refine aG_n 1 (s' := (1, [some (.ref 0), some (.int x1), some (.int x2), none], [(.int x1)], mkX M)) rfl ?_
  obtain ⟨h1, h2⟩ := h
  by_cases q1 : x1 < (nI 0)
  · have h := h1 q1
    refine aG_if (cd := .lt) (b := true) (decide_eq_true q1) rfl ?_
    refine aG_n 1 (s' := (23, [some (.ref 0), some (.int x1), some (.int x2), none], [(.int (-1))], mkX M)) rfl ?_
    exact aG_ret0 rfl rfl ⟨_, _, rfl, h⟩
  · have h := h2 q1
    refine aG_if (cd := .lt) (b := false) (decide_eq_false q1) rfl ?_
    refine aG_n 4 (s' := (12, [some (.ref 0), some (.int x1), some (.int x2), none], [(.int (gi M 26 3)), (.int x1)], mkX M)) rfl ?_
    obtain ⟨h1, h2⟩ := h
    by_cases q2 : (gi M 26 3) < x1
    · have h := h1 q2
      refine aG_icmp (cd := .gt) (b := true) (decide_eq_true q2) rfl ?_
      refine aG_n 1 (s' := (23, [some (.ref 0), some (.int x1), some (.int x2), none], [(.int (-1))], mkX M)) rfl ?_
      exact aG_ret0 rfl rfl ⟨_, _, rfl, h⟩
    · have h := h2 q2
      refine aG_icmp (cd := .gt) (b := false) (decide_eq_false q2) rfl ?_
      refine aG_n 1 (s' := (16, [some (.ref 0), some (.int x1), some (.int x2), none], [(.int x2)], mkX M)) rfl ?_
      refine aG_call rfl rfl (aG_mono (wk_X11_isLevelOrNone h) ?_)
      rintro _ ⟨r3, M4, rfl, h⟩
      refine aG_n 0 (s' := (19, [some (.ref 0), some (.int x1), some (.int x2), none], [(.int r3)], mkX M4)) rfl ?_
      obtain ⟨h1, h2⟩ := h
      by_cases q5 : r3 = (nI 0)
      · have h := h1 q5
        refine aG_if (cd := .ne) (b := false) (aTne0 q5) rfl ?_
        refine aG_n 1 (s' := (23, [some (.ref 0), some (.int x1), some (.int x2), none], [(.int (-1))], mkX M4)) rfl ?_
        exact aG_ret0 rfl rfl ⟨_, _, rfl, h⟩
      · have h := h2 q5
        refine aG_if (cd := .ne) (b := true) (aTne1 q5) rfl ?_
        refine aG_n 4 (s' := (32, [some (.ref 0), some (.int x1), some (.int x2), none], [(.int x1), (.ref 31)], mkX M4)) rfl ?_
        obtain ⟨f6, h⟩ := h
        refine aG_iald rfl rfl rfl f6 ?_
        refine aG_n 6 (s' := (43, [some (.ref 0), some (.int x1), some (.int x2), some (.int (gi M4 31 x1.toNatClampNeg))], [(.int x2), (.int x1), (.ref 31)], mkX M4)) rfl ?_
        obtain ⟨f7, h⟩ := h
        refine aG_iast rfl rfl f7 ?_
        refine aG_n 1 (s' := (45, [some (.ref 0), some (.int x1), some (.int x2), some (.int (gi M4 31 x1.toNatClampNeg))], [(.int (gi M4 31 x1.toNatClampNeg))], mkX (si M4 31 x1.toNatClampNeg x2))) rfl ?_
        exact aG_ret0 rfl rfl ⟨_, _, rfl, h⟩
def w_X11_lay (x1 : Int32) (x2 : Int32) (x3 : Int32) (M : wM) (Q : Int32 → wM → Prop) : Prop := w_X11_isSheet x1 M (fun r1 M2 => (r1 = (nI 0) → Q (-1) M2) ∧ (¬ r1 = (nI 0) → vp_in x1 4 ∧ (w_X8_faultOf x1.toNatClampNeg (gi M2 (71 + 2 * x1.toNatClampNeg) 0) x2 (nI 1) M2 (fun r5 M6 => (r5 = (nI 0) → vp_in x2 100 ∧ (Q (nI 1) (si M6 (72 + 2 * x1.toNatClampNeg) x2.toNatClampNeg x3))) ∧ (¬ r5 = (nI 0) → Q ((-10) - r5) M6)))))
set_option maxRecDepth 20000 in
theorem wk_X11_lay {x1 : Int32} {x2 : Int32} {x3 : Int32} {M : wM} {Q : Int32 → wM → Prop} (h : w_X11_lay x1 x2 x3 M Q) : aG 113 (aEn 113 [(.ref 0), (.int x1), (.int x2), (.int x3)] (mkX M)) (aPi mkX Q) := by
  unfold w_X11_lay at h
  refine aG_n 1 (s' := (1, [some (.ref 0), some (.int x1), some (.int x2), some (.int x3), none, none], [(.int x1)], mkX M)) rfl ?_
  refine aG_call rfl rfl (aG_mono (wk_X11_isSheet h) ?_)
  rintro _ ⟨r1, M2, rfl, h⟩
  refine aG_n 0 (s' := (4, [some (.ref 0), some (.int x1), some (.int x2), some (.int x3), none, none], [(.int r1)], mkX M2)) rfl ?_
  obtain ⟨h1, h2⟩ := h
  by_cases q3 : r1 = (nI 0)
  · have h := h1 q3
    refine aG_if (cd := .ne) (b := false) (aTne0 q3) rfl ?_
    refine aG_n 1 (s' := (8, [some (.ref 0), some (.int x1), some (.int x2), some (.int x3), none, none], [(.int (-1))], mkX M2)) rfl ?_
    exact aG_ret0 rfl rfl ⟨_, _, rfl, h⟩
  · have h := h2 q3
    refine aG_if (cd := .ne) (b := true) (aTne1 q3) rfl ?_
    refine aG_n 3 (s' := (14, [some (.ref 0), some (.int x1), some (.int x2), some (.int x3), none, none], [(.int x1), (.ref 64)], mkX M2)) rfl ?_
    obtain ⟨f4, h⟩ := h
    refine aG_aald rfl rfl rfl f4 (rX_64 (P := (M2).2.2) (vin_lt f4)) ?_
    refine aG_n 3 (s' := (21, [some (.ref 0), some (.int x1), some (.int x2), some (.int x3), some (.ref (71 + 2 * x1.toNatClampNeg)), none], [(.ref (71 + 2 * x1.toNatClampNeg)), (.ref (71 + 2 * x1.toNatClampNeg))], mkX M2)) rfl ?_
    refine aG_get rfl (shX_she (vin_lt f4)) rfl rfl ?_
    refine aG_n 2 (s' := (26, [some (.ref 0), some (.int x1), some (.int x2), some (.int x3), some (.ref (71 + 2 * x1.toNatClampNeg)), none], [(.int (nI 1)), (.int x2), (.int (gi M2 (71 + 2 * x1.toNatClampNeg) 0)), (.ref (71 + 2 * x1.toNatClampNeg))], mkX M2)) rfl ?_
    refine aG_ivv rfl rfl (shX_she (vin_lt f4)) rfl rfl (aG_mono (wk_X8_faultOf h) ?_)
    rintro _ ⟨r5, M6, rfl, h⟩
    refine aG_n 2 (s' := (33, [some (.ref 0), some (.int x1), some (.int x2), some (.int x3), some (.ref (71 + 2 * x1.toNatClampNeg)), some (.int r5)], [(.int r5)], mkX M6)) rfl ?_
    obtain ⟨h1, h2⟩ := h
    by_cases q7 : r5 = (nI 0)
    · have h := h1 q7
      refine aG_if (cd := .eq) (b := true) (decide_eq_true q7) rfl ?_
      refine aG_n 1 (s' := (44, [some (.ref 0), some (.int x1), some (.int x2), some (.int x3), some (.ref (71 + 2 * x1.toNatClampNeg)), some (.int r5)], [(.ref (71 + 2 * x1.toNatClampNeg))], mkX M6)) rfl ?_
      refine aG_getR rfl (shX_she (vin_lt f4)) rfl rfl (rX_cel (P := (M6).2.2) (vin_lt f4)) ?_
      refine aG_n 2 (s' := (49, [some (.ref 0), some (.int x1), some (.int x2), some (.int x3), some (.ref (71 + 2 * x1.toNatClampNeg)), some (.int r5)], [(.int x3), (.int x2), (.ref (72 + 2 * x1.toNatClampNeg))], mkX M6)) rfl ?_
      obtain ⟨f8, h⟩ := h
      refine aG_iast rfl (shX_cel (vin_lt f4)) f8 ?_
      refine aG_n 1 (s' := (51, [some (.ref 0), some (.int x1), some (.int x2), some (.int x3), some (.ref (71 + 2 * x1.toNatClampNeg)), some (.int r5)], [(.int (nI 1))], mkX (si M6 (72 + 2 * x1.toNatClampNeg) x2.toNatClampNeg x3))) rfl ?_
      exact aG_ret0 rfl rfl ⟨_, _, rfl, h⟩
    · have h := h2 q7
      refine aG_if (cd := .eq) (b := false) (decide_eq_false q7) rfl ?_
      refine aG_n 3 (s' := (41, [some (.ref 0), some (.int x1), some (.int x2), some (.int x3), some (.ref (71 + 2 * x1.toNatClampNeg)), some (.int r5)], [(.int ((-10) - r5))], mkX M6)) rfl ?_
      exact aG_ret0 rfl rfl ⟨_, _, rfl, h⟩
def w_X12_end (x1 : Int32) (M : wM) (Q : Int32 → wM → Prop) : Prop := w_X12_in x1.toInt64 (lN 0) (gi M 0 15).toInt64 M (fun r1 M2 => (r1 = (nI 0) → Q (-1) M2) ∧ (¬ r1 = (nI 0) → Q (gi M2 0 15) (si M2 0 15 x1)))
set_option maxRecDepth 20000 in
theorem wk_X12_end {x1 : Int32} {M : wM} {Q : Int32 → wM → Prop} (h : w_X12_end x1 M Q) : aG 114 (aEn 114 [(.ref 0), (.int x1)] (mkM M)) (aPi mkM Q) := by
  unfold w_X12_end at h
  refine aG_n 6 (s' := (8, [some (.ref 0), some (.int x1), none], [(.long (gi M 0 15).toInt64), (.long (lN 0)), (.long x1.toInt64)], mkM M)) rfl ?_
  refine aG_call rfl rfl (aG_mono (wk_X12_in h) ?_)
  rintro _ ⟨r1, M2, rfl, h⟩
  refine aG_n 0 (s' := (11, [some (.ref 0), some (.int x1), none], [(.int r1)], mkM M2)) rfl ?_
  obtain ⟨h1, h2⟩ := h
  by_cases q3 : r1 = (nI 0)
  · have h := h1 q3
    refine aG_if (cd := .ne) (b := false) (aTne0 q3) rfl ?_
    refine aG_n 1 (s' := (15, [some (.ref 0), some (.int x1), none], [(.int (-1))], mkM M2)) rfl ?_
    exact aG_ret0 rfl rfl ⟨_, _, rfl, h⟩
  · have h := h2 q3
    refine aG_if (cd := .ne) (b := true) (aTne1 q3) rfl ?_
    refine aG_n 7 (s' := (27, [some (.ref 0), some (.int x1), some (.int (gi M2 0 15))], [(.int (gi M2 0 15))], mkM (si M2 0 15 x1))) rfl ?_
    exact aG_ret0 rfl rfl ⟨_, _, rfl, h⟩
def wb_X12_next_140 (K140 : wM → Prop) (M : wM) (Q : wM → Prop) : Prop := w_X12_look (gi M 0 16) M (fun r19 M20 => w_X12_in r19.toInt64 (lN 48) (lN 57) M20 (fun r21 M22 => (r21 = (nI 0) → ((nI 9) < ((gi M22 0 16) - (gi M22 0 17)) → w_X12_wants (nI 0) (nI 1) M22 (fun M26 => Q M26)) ∧ (¬ (nI 9) < ((gi M22 0 16) - (gi M22 0 17)) → w_X12_wants (nI 1) (nI 1) M22 (fun M28 => Q M28))) ∧ (¬ r21 = (nI 0) → ((nI 9) ≤ ((gi M22 0 16) - (gi M22 0 17)) → K140 (si (si M22 0 19 (gi M22 0 19)) 0 16 ((gi M22 0 16) + (nI 1)))) ∧ (¬ (nI 9) ≤ ((gi M22 0 16) - (gi M22 0 17)) → w_X12_look (gi M22 0 16) M22 (fun r30 M31 => K140 (si (si M31 0 19 ((((nI 10) * (gi M22 0 19)) + r30) - (nI 48))) 0 16 ((gi M31 0 16) + (nI 1))))))))
set_option maxRecDepth 20000 in
theorem wbk_X12_next_140 {K140 : wM → Prop} {M : wM} {Q : wM → Prop} (hK140 : ∀ (M : wM), K140 M → aG 115 (140, [some (.ref 0), none], [], mkM M) (aPv mkM Q)) (h : wb_X12_next_140 K140 M Q) : aG 115 (140, [some (.ref 0), none], [], mkM M) (aPv mkM Q) := by
  unfold wb_X12_next_140 at h
  refine aG_n 3 (s' := (145, [some (.ref 0), none], [(.int (gi M 0 16)), (.ref 0)], mkM M)) rfl ?_
  refine aG_call rfl rfl (aG_mono (wk_X12_look h) ?_)
  rintro _ ⟨r19, M20, rfl, h⟩
  refine aG_n 3 (s' := (155, [some (.ref 0), none], [(.long (lN 57)), (.long (lN 48)), (.long r19.toInt64)], mkM M20)) rfl ?_
  refine aG_call rfl rfl (aG_mono (wk_X12_in h) ?_)
  rintro _ ⟨r21, M22, rfl, h⟩
  refine aG_n 0 (s' := (158, [some (.ref 0), none], [(.int r21)], mkM M22)) rfl ?_
  obtain ⟨h1, h2⟩ := h
  by_cases q23 : r21 = (nI 0)
  · have h := h1 q23
    refine aG_if (cd := .eq) (b := true) (decide_eq_true q23) rfl ?_
    refine aG_n 7 (s' := (230, [some (.ref 0), none], [(.int (nI 9)), (.int ((gi M22 0 16) - (gi M22 0 17))), (.ref 0)], mkM M22)) rfl ?_
    obtain ⟨h1, h2⟩ := h
    by_cases q24 : (nI 9) < ((gi M22 0 16) - (gi M22 0 17))
    · have h := h1 q24
      refine aG_icmp (cd := .gt) (b := true) (decide_eq_true q24) rfl ?_
      refine aG_n 2 (s' := (239, [some (.ref 0), none], [(.int (nI 1)), (.int (nI 0)), (.ref 0)], mkM M22)) rfl ?_
      refine aG_call rfl rfl (aG_mono (wk_X12_wants h) ?_)
      rintro _ ⟨M26, rfl, h⟩
      refine aG_n 1 (s' := (276, [some (.ref 0), none], [], mkM M26)) rfl ?_
      exact aG_retV rfl rfl ⟨_, rfl, h⟩
    · have h := h2 q24
      refine aG_icmp (cd := .gt) (b := false) (decide_eq_false q24) rfl ?_
      refine aG_n 3 (s' := (239, [some (.ref 0), none], [(.int (nI 1)), (.int (nI 1)), (.ref 0)], mkM M22)) rfl ?_
      refine aG_call rfl rfl (aG_mono (wk_X12_wants h) ?_)
      rintro _ ⟨M28, rfl, h⟩
      refine aG_n 1 (s' := (276, [some (.ref 0), none], [], mkM M28)) rfl ?_
      exact aG_retV rfl rfl ⟨_, rfl, h⟩
  · have h := h2 q23
    refine aG_if (cd := .eq) (b := false) (decide_eq_false q23) rfl ?_
    refine aG_n 7 (s' := (173, [some (.ref 0), none], [(.int (nI 9)), (.int ((gi M22 0 16) - (gi M22 0 17))), (.ref 0)], mkM M22)) rfl ?_
    obtain ⟨h1, h2⟩ := h
    by_cases q29 : (nI 9) ≤ ((gi M22 0 16) - (gi M22 0 17))
    · have h := h1 q29
      refine aG_icmp (cd := .ge) (b := true) (decide_eq_true q29) rfl ?_
      refine aG_n 10 (s' := (140, [some (.ref 0), none], [], mkM (si (si M22 0 19 (gi M22 0 19)) 0 16 ((gi M22 0 16) + (nI 1))))) rfl ?_
      refine aG_le (a := [some (.ref 0), none]) ⟨rfl, trivial⟩ ?_
      exact hK140 _ h
    · have h := h2 q29
      refine aG_icmp (cd := .ge) (b := false) (decide_eq_false q29) rfl ?_
      refine aG_n 7 (s' := (188, [some (.ref 0), none], [(.int (gi M22 0 16)), (.ref 0), (.int ((nI 10) * (gi M22 0 19))), (.ref 0)], mkM M22)) rfl ?_
      refine aG_call rfl rfl (aG_mono (wk_X12_look h) ?_)
      rintro _ ⟨r30, M31, rfl, h⟩
      refine aG_n 12 (s' := (140, [some (.ref 0), none], [], mkM (si (si M31 0 19 ((((nI 10) * (gi M22 0 19)) + r30) - (nI 48))) 0 16 ((gi M31 0 16) + (nI 1))))) rfl ?_
      refine aG_le (a := [some (.ref 0), none]) ⟨rfl, trivial⟩ ?_
      exact hK140 _ h
def wL_X12_next_140 (Q : wM → Prop) : Nat → wM → Prop
  | 0, _ => False
  | n + 1, M => wb_X12_next_140 (wL_X12_next_140 Q n) M Q
set_option maxRecDepth 20000 in
theorem wLk_X12_next_140 {Q : wM → Prop} : ∀ (n : Nat) (M : wM), wL_X12_next_140 Q n M → aG 115 (140, [some (.ref 0), none], [], mkM M) (aPv mkM Q)
  | 0, _, h => h.elim
  | n + 1, M, h => wbk_X12_next_140 (fun M h => wLk_X12_next_140 n M h) h
def wb_X12_next_82 (K82 : wM → Prop) (M : wM) (Q : wM → Prop) : Prop := w_X12_look (gi M 0 16) M (fun r32 M33 => w_X12_in r32.toInt64 (lN 97) (lN 122) M33 (fun r34 M35 => (r34 = (nI 0) → Q M35) ∧ (¬ r34 = (nI 0) → K82 (si M35 0 16 ((gi M35 0 16) + (nI 1))))))
set_option maxRecDepth 20000 in
theorem wbk_X12_next_82 {K82 : wM → Prop} {M : wM} {Q : wM → Prop} (hK82 : ∀ (M : wM), K82 M → aG 115 (82, [some (.ref 0), none], [], mkM M) (aPv mkM Q)) (h : wb_X12_next_82 K82 M Q) : aG 115 (82, [some (.ref 0), none], [], mkM M) (aPv mkM Q) := by
  unfold wb_X12_next_82 at h
  refine aG_n 3 (s' := (87, [some (.ref 0), none], [(.int (gi M 0 16)), (.ref 0)], mkM M)) rfl ?_
  refine aG_call rfl rfl (aG_mono (wk_X12_look h) ?_)
  rintro _ ⟨r32, M33, rfl, h⟩
  refine aG_n 3 (s' := (97, [some (.ref 0), none], [(.long (lN 122)), (.long (lN 97)), (.long r32.toInt64)], mkM M33)) rfl ?_
  refine aG_call rfl rfl (aG_mono (wk_X12_in h) ?_)
  rintro _ ⟨r34, M35, rfl, h⟩
  refine aG_n 0 (s' := (100, [some (.ref 0), none], [(.int r34)], mkM M35)) rfl ?_
  obtain ⟨h1, h2⟩ := h
  by_cases q36 : r34 = (nI 0)
  · have h := h1 q36
    refine aG_if (cd := .eq) (b := true) (decide_eq_true q36) rfl ?_
    refine aG_n 0 (s' := (276, [some (.ref 0), none], [], mkM M35)) rfl ?_
    exact aG_retV rfl rfl ⟨_, rfl, h⟩
  · have h := h2 q36
    refine aG_if (cd := .eq) (b := false) (decide_eq_false q36) rfl ?_
    refine aG_n 7 (s' := (82, [some (.ref 0), none], [], mkM (si M35 0 16 ((gi M35 0 16) + (nI 1))))) rfl ?_
    refine aG_le (a := [some (.ref 0), none]) ⟨rfl, trivial⟩ ?_
    exact hK82 _ h
def wL_X12_next_82 (Q : wM → Prop) : Nat → wM → Prop
  | 0, _ => False
  | n + 1, M => wb_X12_next_82 (wL_X12_next_82 Q n) M Q
set_option maxRecDepth 20000 in
theorem wLk_X12_next_82 {Q : wM → Prop} : ∀ (n : Nat) (M : wM), wL_X12_next_82 Q n M → aG 115 (82, [some (.ref 0), none], [], mkM M) (aPv mkM Q)
  | 0, _, h => h.elim
  | n + 1, M, h => wbk_X12_next_82 (fun M h => wLk_X12_next_82 n M h) h
def wb_X12_next_8 (K8 : wM → Prop) (M : wM) (Q : wM → Prop) : Prop := w_X12_look (gi M 0 16) M (fun r2 M3 => (r2 = (nI 32) → K8 (si M3 0 16 ((gi M3 0 16) + (nI 1)))) ∧ (¬ r2 = (nI 32) → w_X12_look (gi M3 0 16) (si M3 0 17 (gi M3 0 16)) (fun r5 M6 => ((nI 0) ≤ r5 → w_X12_in r5.toInt64 (lN 97) (lN 122) M6 (fun r8 M9 => (r8 = (nI 0) → w_X12_in r5.toInt64 (lN 48) (lN 57) M9 (fun r11 M12 => (r11 = (nI 0) → (r5 = (nI 59) → w_X12_wants (nI 1) (nI 1) (si M12 0 18 (nI 3)) (fun M16 => Q (si M16 0 16 ((gi M16 0 16) + (nI 1))))) ∧ (¬ r5 = (nI 59) → w_X12_wants (nI 0) (nI 1) (si M12 0 18 (nI 3)) (fun M18 => Q (si M18 0 16 ((gi M18 0 16) + (nI 1)))))) ∧ (¬ r11 = (nI 0) → ∃ n, wL_X12_next_140 Q n (si (si M12 0 18 (nI 2)) 0 19 (nI 0))))) ∧ (¬ r8 = (nI 0) → ∃ n, wL_X12_next_82 Q n (si M9 0 18 (nI 1))))) ∧ (¬ (nI 0) ≤ r5 → Q (si M6 0 18 (nI 0))))))
set_option maxRecDepth 20000 in
theorem wbk_X12_next_8 {K8 : wM → Prop} {M : wM} {Q : wM → Prop} (hK8 : ∀ (M : wM), K8 M → aG 115 (8, [some (.ref 0), none], [], mkM M) (aPv mkM Q)) (h : wb_X12_next_8 K8 M Q) : aG 115 (8, [some (.ref 0), none], [], mkM M) (aPv mkM Q) := by
  unfold wb_X12_next_8 at h
  refine aG_n 3 (s' := (13, [some (.ref 0), none], [(.int (gi M 0 16)), (.ref 0)], mkM M)) rfl ?_
  refine aG_call rfl rfl (aG_mono (wk_X12_look h) ?_)
  rintro _ ⟨r2, M3, rfl, h⟩
  refine aG_n 1 (s' := (18, [some (.ref 0), none], [(.int (nI 32)), (.int r2)], mkM M3)) rfl ?_
  obtain ⟨h1, h2⟩ := h
  by_cases q4 : r2 = (nI 32)
  · have h := h1 q4
    refine aG_icmp (cd := .ne) (b := false) (aTne0 q4) rfl ?_
    refine aG_n 7 (s' := (8, [some (.ref 0), none], [], mkM (si M3 0 16 ((gi M3 0 16) + (nI 1))))) rfl ?_
    refine aG_le (a := [some (.ref 0), none]) ⟨rfl, trivial⟩ ?_
    exact hK8 _ h
  · have h := h2 q4
    refine aG_icmp (cd := .ne) (b := true) (aTne1 q4) rfl ?_
    refine aG_n 7 (s' := (47, [some (.ref 0), none], [(.int (gi M3 0 16)), (.ref 0)], mkM (si M3 0 17 (gi M3 0 16)))) rfl ?_
    refine aG_call rfl rfl (aG_mono (wk_X12_look h) ?_)
    rintro _ ⟨r5, M6, rfl, h⟩
    refine aG_n 2 (s' := (52, [some (.ref 0), some (.int r5)], [(.int r5)], mkM M6)) rfl ?_
    obtain ⟨h1, h2⟩ := h
    by_cases q7 : (nI 0) ≤ r5
    · have h := h1 q7
      refine aG_if (cd := .ge) (b := true) (decide_eq_true q7) rfl ?_
      refine aG_n 4 (s' := (71, [some (.ref 0), some (.int r5)], [(.long (lN 122)), (.long (lN 97)), (.long r5.toInt64)], mkM M6)) rfl ?_
      refine aG_call rfl rfl (aG_mono (wk_X12_in h) ?_)
      rintro _ ⟨r8, M9, rfl, h⟩
      refine aG_n 0 (s' := (74, [some (.ref 0), some (.int r5)], [(.int r8)], mkM M9)) rfl ?_
      obtain ⟨h1, h2⟩ := h
      by_cases q10 : r8 = (nI 0)
      · have h := h1 q10
        refine aG_if (cd := .eq) (b := true) (decide_eq_true q10) rfl ?_
        refine aG_n 4 (s' := (124, [some (.ref 0), some (.int r5)], [(.long (lN 57)), (.long (lN 48)), (.long r5.toInt64)], mkM M9)) rfl ?_
        refine aG_call rfl rfl (aG_mono (wk_X12_in h) ?_)
        rintro _ ⟨r11, M12, rfl, h⟩
        refine aG_n 0 (s' := (127, [some (.ref 0), some (.int r5)], [(.int r11)], mkM M12)) rfl ?_
        obtain ⟨h1, h2⟩ := h
        by_cases q13 : r11 = (nI 0)
        · have h := h1 q13
          refine aG_if (cd := .eq) (b := true) (decide_eq_true q13) rfl ?_
          refine aG_n 6 (s' := (254, [some (.ref 0), some (.int r5)], [(.int (nI 59)), (.int r5), (.ref 0)], mkM (si M12 0 18 (nI 3)))) rfl ?_
          obtain ⟨h1, h2⟩ := h
          by_cases q14 : r5 = (nI 59)
          · have h := h1 q14
            refine aG_icmp (cd := .ne) (b := false) (aTne0 q14) rfl ?_
            refine aG_n 3 (s' := (263, [some (.ref 0), some (.int r5)], [(.int (nI 1)), (.int (nI 1)), (.ref 0)], mkM (si M12 0 18 (nI 3)))) rfl ?_
            refine aG_call rfl rfl (aG_mono (wk_X12_wants h) ?_)
            rintro _ ⟨M16, rfl, h⟩
            refine aG_n 6 (s' := (276, [some (.ref 0), some (.int r5)], [], mkM (si M16 0 16 ((gi M16 0 16) + (nI 1))))) rfl ?_
            exact aG_retV rfl rfl ⟨_, rfl, h⟩
          · have h := h2 q14
            refine aG_icmp (cd := .ne) (b := true) (aTne1 q14) rfl ?_
            refine aG_n 2 (s' := (263, [some (.ref 0), some (.int r5)], [(.int (nI 1)), (.int (nI 0)), (.ref 0)], mkM (si M12 0 18 (nI 3)))) rfl ?_
            refine aG_call rfl rfl (aG_mono (wk_X12_wants h) ?_)
            rintro _ ⟨M18, rfl, h⟩
            refine aG_n 6 (s' := (276, [some (.ref 0), some (.int r5)], [], mkM (si M18 0 16 ((gi M18 0 16) + (nI 1))))) rfl ?_
            exact aG_retV rfl rfl ⟨_, rfl, h⟩
        · have h := h2 q13
          refine aG_if (cd := .eq) (b := false) (decide_eq_false q13) rfl ?_
          refine aG_n 6 (s' := (140, [some (.ref 0), some (.int r5)], [], mkM (si (si M12 0 18 (nI 2)) 0 19 (nI 0)))) rfl ?_
          refine aG_le (a := [some (.ref 0), none]) ⟨rfl, trivial⟩ ?_
          obtain ⟨n, h⟩ := h
          exact wLk_X12_next_140 n _ h
      · have h := h2 q10
        refine aG_if (cd := .eq) (b := false) (decide_eq_false q10) rfl ?_
        refine aG_n 3 (s' := (82, [some (.ref 0), some (.int r5)], [], mkM (si M9 0 18 (nI 1)))) rfl ?_
        refine aG_le (a := [some (.ref 0), none]) ⟨rfl, trivial⟩ ?_
        obtain ⟨n, h⟩ := h
        exact wLk_X12_next_82 n _ h
    · have h := h2 q7
      refine aG_if (cd := .ge) (b := false) (decide_eq_false q7) rfl ?_
      refine aG_n 4 (s' := (276, [some (.ref 0), some (.int r5)], [], mkM (si M6 0 18 (nI 0)))) rfl ?_
      exact aG_retV rfl rfl ⟨_, rfl, h⟩
def wL_X12_next_8 (Q : wM → Prop) : Nat → wM → Prop
  | 0, _ => False
  | n + 1, M => wb_X12_next_8 (wL_X12_next_8 Q n) M Q
set_option maxRecDepth 20000 in
theorem wLk_X12_next_8 {Q : wM → Prop} : ∀ (n : Nat) (M : wM), wL_X12_next_8 Q n M → aG 115 (8, [some (.ref 0), none], [], mkM M) (aPv mkM Q)
  | 0, _, h => h.elim
  | n + 1, M, h => wbk_X12_next_8 (fun M h => wLk_X12_next_8 n M h) h
def w_X12_next (M : wM) (Q : wM → Prop) : Prop := ((gi M 0 20) ≤ (nI 0) → ∃ n, wL_X12_next_8 Q n M) ∧ (¬ (gi M 0 20) ≤ (nI 0) → Q M)
set_option maxRecDepth 20000 in
theorem wk_X12_next {M : wM} {Q : wM → Prop} (h : w_X12_next M Q) : aG 115 (aEn 115 [(.ref 0)] (mkM M)) (aPv mkM Q) := by
  unfold w_X12_next at h
  refine aG_n 2 (s' := (4, [some (.ref 0), none], [(.int (gi M 0 20))], mkM M)) rfl ?_
  obtain ⟨h1, h2⟩ := h
  by_cases q1 : (gi M 0 20) ≤ (nI 0)
  · have h := h1 q1
    refine aG_if (cd := .le) (b := true) (decide_eq_true q1) rfl ?_
    refine aG_n 0 (s' := (8, [some (.ref 0), none], [], mkM M)) rfl ?_
    refine aG_le (a := [some (.ref 0), none]) ⟨rfl, trivial⟩ ?_
    obtain ⟨n, h⟩ := h
    exact wLk_X12_next_8 n _ h
  · have h := h2 q1
    refine aG_if (cd := .le) (b := false) (decide_eq_false q1) rfl ?_
    refine aG_n 0 (s' := (7, [some (.ref 0), none], [], mkM M)) rfl ?_
    exact aG_retV rfl rfl ⟨_, rfl, h⟩
def w_X12_is (x1 : Int32) (x2 : Int32) (x3 : Int32) (x4 : Int32) (x5 : Int32) (M : wM) (Q : Int32 → wM → Prop) : Prop := ((gi M 0 18) = (nI 1) → (((gi M 0 16) - (gi M 0 17)) = x1 → w_X12_look (gi M 0 17) M (fun r3 M4 => (r3 = x2 → w_X12_look ((gi M4 0 17) + (nI 1)) M4 (fun r6 M7 => (r6 = x3 → (x1 < (nI 3) → Q (nI 1) M7) ∧ (¬ x1 < (nI 3) → w_X12_look ((gi M7 0 17) + (nI 2)) M7 (fun r10 M11 => (r10 = x4 → w_X12_look ((gi M11 0 17) + (nI 3)) M11 (fun r13 M14 => (r13 = x5 → Q (nI 1) M14) ∧ (¬ r13 = x5 → Q (nI 0) M14))) ∧ (¬ r10 = x4 → Q (nI 0) M11)))) ∧ (¬ r6 = x3 → Q (nI 0) M7))) ∧ (¬ r3 = x2 → Q (nI 0) M4))) ∧ (¬ ((gi M 0 16) - (gi M 0 17)) = x1 → Q (nI 0) M)) ∧ (¬ (gi M 0 18) = (nI 1) → Q (nI 0) M)
set_option maxRecDepth 20000 in
theorem wk_X12_is {x1 : Int32} {x2 : Int32} {x3 : Int32} {x4 : Int32} {x5 : Int32} {M : wM} {Q : Int32 → wM → Prop} (h : w_X12_is x1 x2 x3 x4 x5 M Q) : aG 116 (aEn 116 [(.ref 0), (.int x1), (.int x2), (.int x3), (.int x4), (.int x5)] (mkM M)) (aPi mkM Q) := by
  unfold w_X12_is at h
  refine aG_n 3 (s' := (5, [some (.ref 0), some (.int x1), some (.int x2), some (.int x3), some (.int x4), some (.int x5)], [(.int (nI 1)), (.int (gi M 0 18))], mkM M)) rfl ?_
  obtain ⟨h1, h2⟩ := h
  by_cases q1 : (gi M 0 18) = (nI 1)
  · have h := h1 q1
    refine aG_icmp (cd := .ne) (b := false) (aTne0 q1) rfl ?_
    refine aG_n 6 (s' := (18, [some (.ref 0), some (.int x1), some (.int x2), some (.int x3), some (.int x4), some (.int x5)], [(.int x1), (.int ((gi M 0 16) - (gi M 0 17)))], mkM M)) rfl ?_
    obtain ⟨h1, h2⟩ := h
    by_cases q2 : ((gi M 0 16) - (gi M 0 17)) = x1
    · have h := h1 q2
      refine aG_icmp (cd := .ne) (b := false) (aTne0 q2) rfl ?_
      refine aG_n 3 (s' := (26, [some (.ref 0), some (.int x1), some (.int x2), some (.int x3), some (.int x4), some (.int x5)], [(.int (gi M 0 17)), (.ref 0)], mkM M)) rfl ?_
      refine aG_call rfl rfl (aG_mono (wk_X12_look h) ?_)
      rintro _ ⟨r3, M4, rfl, h⟩
      refine aG_n 1 (s' := (30, [some (.ref 0), some (.int x1), some (.int x2), some (.int x3), some (.int x4), some (.int x5)], [(.int x2), (.int r3)], mkM M4)) rfl ?_
      obtain ⟨h1, h2⟩ := h
      by_cases q5 : r3 = x2
      · have h := h1 q5
        refine aG_icmp (cd := .ne) (b := false) (aTne0 q5) rfl ?_
        refine aG_n 5 (s' := (40, [some (.ref 0), some (.int x1), some (.int x2), some (.int x3), some (.int x4), some (.int x5)], [(.int ((gi M4 0 17) + (nI 1))), (.ref 0)], mkM M4)) rfl ?_
        refine aG_call rfl rfl (aG_mono (wk_X12_look h) ?_)
        rintro _ ⟨r6, M7, rfl, h⟩
        refine aG_n 1 (s' := (44, [some (.ref 0), some (.int x1), some (.int x2), some (.int x3), some (.int x4), some (.int x5)], [(.int x3), (.int r6)], mkM M7)) rfl ?_
        obtain ⟨h1, h2⟩ := h
        by_cases q8 : r6 = x3
        · have h := h1 q8
          refine aG_icmp (cd := .ne) (b := false) (aTne0 q8) rfl ?_
          refine aG_n 2 (s' := (49, [some (.ref 0), some (.int x1), some (.int x2), some (.int x3), some (.int x4), some (.int x5)], [(.int (nI 3)), (.int x1)], mkM M7)) rfl ?_
          obtain ⟨h1, h2⟩ := h
          by_cases q9 : x1 < (nI 3)
          · have h := h1 q9
            refine aG_icmp (cd := .lt) (b := true) (decide_eq_true q9) rfl ?_
            refine aG_n 2 (s' := (87, [some (.ref 0), some (.int x1), some (.int x2), some (.int x3), some (.int x4), some (.int x5)], [(.int (nI 1))], mkM M7)) rfl ?_
            exact aG_retZ rfl rfl (Or.inr rfl) ⟨_, _, rfl, h⟩
          · have h := h2 q9
            refine aG_icmp (cd := .lt) (b := false) (decide_eq_false q9) rfl ?_
            refine aG_n 5 (s' := (59, [some (.ref 0), some (.int x1), some (.int x2), some (.int x3), some (.int x4), some (.int x5)], [(.int ((gi M7 0 17) + (nI 2))), (.ref 0)], mkM M7)) rfl ?_
            refine aG_call rfl rfl (aG_mono (wk_X12_look h) ?_)
            rintro _ ⟨r10, M11, rfl, h⟩
            refine aG_n 1 (s' := (64, [some (.ref 0), some (.int x1), some (.int x2), some (.int x3), some (.int x4), some (.int x5)], [(.int x4), (.int r10)], mkM M11)) rfl ?_
            obtain ⟨h1, h2⟩ := h
            by_cases q12 : r10 = x4
            · have h := h1 q12
              refine aG_icmp (cd := .ne) (b := false) (aTne0 q12) rfl ?_
              refine aG_n 5 (s' := (74, [some (.ref 0), some (.int x1), some (.int x2), some (.int x3), some (.int x4), some (.int x5)], [(.int ((gi M11 0 17) + (nI 3))), (.ref 0)], mkM M11)) rfl ?_
              refine aG_call rfl rfl (aG_mono (wk_X12_look h) ?_)
              rintro _ ⟨r13, M14, rfl, h⟩
              refine aG_n 1 (s' := (79, [some (.ref 0), some (.int x1), some (.int x2), some (.int x3), some (.int x4), some (.int x5)], [(.int x5), (.int r13)], mkM M14)) rfl ?_
              obtain ⟨h1, h2⟩ := h
              by_cases q15 : r13 = x5
              · have h := h1 q15
                refine aG_icmp (cd := .ne) (b := false) (aTne0 q15) rfl ?_
                refine aG_n 2 (s' := (87, [some (.ref 0), some (.int x1), some (.int x2), some (.int x3), some (.int x4), some (.int x5)], [(.int (nI 1))], mkM M14)) rfl ?_
                exact aG_retZ rfl rfl (Or.inr rfl) ⟨_, _, rfl, h⟩
              · have h := h2 q15
                refine aG_icmp (cd := .ne) (b := true) (aTne1 q15) rfl ?_
                refine aG_n 1 (s' := (87, [some (.ref 0), some (.int x1), some (.int x2), some (.int x3), some (.int x4), some (.int x5)], [(.int (nI 0))], mkM M14)) rfl ?_
                exact aG_retZ rfl rfl (Or.inl rfl) ⟨_, _, rfl, h⟩
            · have h := h2 q12
              refine aG_icmp (cd := .ne) (b := true) (aTne1 q12) rfl ?_
              refine aG_n 1 (s' := (87, [some (.ref 0), some (.int x1), some (.int x2), some (.int x3), some (.int x4), some (.int x5)], [(.int (nI 0))], mkM M11)) rfl ?_
              exact aG_retZ rfl rfl (Or.inl rfl) ⟨_, _, rfl, h⟩
        · have h := h2 q8
          refine aG_icmp (cd := .ne) (b := true) (aTne1 q8) rfl ?_
          refine aG_n 1 (s' := (87, [some (.ref 0), some (.int x1), some (.int x2), some (.int x3), some (.int x4), some (.int x5)], [(.int (nI 0))], mkM M7)) rfl ?_
          exact aG_retZ rfl rfl (Or.inl rfl) ⟨_, _, rfl, h⟩
      · have h := h2 q5
        refine aG_icmp (cd := .ne) (b := true) (aTne1 q5) rfl ?_
        refine aG_n 1 (s' := (87, [some (.ref 0), some (.int x1), some (.int x2), some (.int x3), some (.int x4), some (.int x5)], [(.int (nI 0))], mkM M4)) rfl ?_
        exact aG_retZ rfl rfl (Or.inl rfl) ⟨_, _, rfl, h⟩
    · have h := h2 q2
      refine aG_icmp (cd := .ne) (b := true) (aTne1 q2) rfl ?_
      refine aG_n 1 (s' := (87, [some (.ref 0), some (.int x1), some (.int x2), some (.int x3), some (.int x4), some (.int x5)], [(.int (nI 0))], mkM M)) rfl ?_
      exact aG_retZ rfl rfl (Or.inl rfl) ⟨_, _, rfl, h⟩
  · have h := h2 q1
    refine aG_icmp (cd := .ne) (b := true) (aTne1 q1) rfl ?_
    refine aG_n 1 (s' := (87, [some (.ref 0), some (.int x1), some (.int x2), some (.int x3), some (.int x4), some (.int x5)], [(.int (nI 0))], mkM M)) rfl ?_
    exact aG_retZ rfl rfl (Or.inl rfl) ⟨_, _, rfl, h⟩
