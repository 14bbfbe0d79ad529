/-! methods as predicates, and their walks (by gen/wpgen.py) -/
def w_X7_takeName (M : wM) (Q : Int32 → wM → Prop) : Prop := w_X7_take M (fun r1 M2 => (r1 = (nI 0) → Q (nI 0) M2) ∧ (¬ r1 = (nI 0) → ((gi M2 3 5) = (nI 1) → Q (nI 1) M2) ∧ (¬ (gi M2 3 5) = (nI 1) → w_X7_refuse (nI 2) M2 (fun r5 M6 => (r5 = (nI 0) → Q (nI 0) M6) ∧ (¬ r5 = (nI 0) → Q (nI 1) M6)))))
set_option maxRecDepth 20000 in
theorem wk_X7_takeName {M : wM} {Q : Int32 → wM → Prop} (h : w_X7_takeName M Q) : aG 139 (aEn 139 [(.ref 3)] (mkX M)) (aPi mkX Q) := by
  unfold w_X7_takeName at h
  refine aG_n 1 (s' := (1, [some (.ref 3)], [(.ref 3)], mkX M)) rfl ?_
  refine aG_call rfl rfl (aG_mono (wk_X7_take h) ?_)
  rintro _ ⟨r1, M2, rfl, h⟩
  refine aG_n 0 (s' := (4, [some (.ref 3)], [(.int r1)], mkX M2)) rfl ?_
  obtain ⟨h1, h2⟩ := h
  by_cases q3 : r1 = (nI 0)
  · have h := h1 q3
    refine aG_if (cd := .eq) (b := true) (decide_eq_true q3) rfl ?_
    refine aG_n 1 (s' := (28, [some (.ref 3)], [(.int (nI 0))], mkX M2)) rfl ?_
    exact aG_retZ rfl rfl (Or.inl rfl) ⟨_, _, rfl, h⟩
  · have h := h2 q3
    refine aG_if (cd := .eq) (b := false) (decide_eq_false q3) rfl ?_
    refine aG_n 3 (s' := (12, [some (.ref 3)], [(.int (nI 1)), (.int (gi M2 3 5))], mkX M2)) rfl ?_
    obtain ⟨h1, h2⟩ := h
    by_cases q4 : (gi M2 3 5) = (nI 1)
    · have h := h1 q4
      refine aG_icmp (cd := .eq) (b := true) (decide_eq_true q4) rfl ?_
      refine aG_n 2 (s' := (28, [some (.ref 3)], [(.int (nI 1))], mkX M2)) rfl ?_
      exact aG_retZ rfl rfl (Or.inr rfl) ⟨_, _, rfl, h⟩
    · have h := h2 q4
      refine aG_icmp (cd := .eq) (b := false) (decide_eq_false q4) rfl ?_
      refine aG_n 2 (s' := (17, [some (.ref 3)], [(.int (nI 2)), (.ref 3)], mkX M2)) rfl ?_
      refine aG_call rfl rfl (aG_mono (wk_X7_refuse h) ?_)
      rintro _ ⟨r5, M6, rfl, h⟩
      refine aG_n 0 (s' := (20, [some (.ref 3)], [(.int r5)], mkX M6)) rfl ?_
      obtain ⟨h1, h2⟩ := h
      by_cases q7 : r5 = (nI 0)
      · have h := h1 q7
        refine aG_if (cd := .eq) (b := true) (decide_eq_true q7) rfl ?_
        refine aG_n 1 (s' := (28, [some (.ref 3)], [(.int (nI 0))], mkX M6)) rfl ?_
        exact aG_retZ rfl rfl (Or.inl rfl) ⟨_, _, rfl, h⟩
      · have h := h2 q7
        refine aG_if (cd := .eq) (b := false) (decide_eq_false q7) rfl ?_
        refine aG_n 2 (s' := (28, [some (.ref 3)], [(.int (nI 1))], mkX M6)) rfl ?_
        exact aG_retZ rfl rfl (Or.inr rfl) ⟨_, _, rfl, h⟩
def wb_X7_takeNumber_33 (z1 : Int32) (z2 : Int32) (K33 : Int32 → wM → Prop) (y3 : Int32) (M : wM) (Q : Int32 → wM → Prop) : Prop := ((gi M 3 7) ≤ y3 → ((gi M 3 8) < z1 → w_X7_refuse (nI 3) M (fun r7 M8 => (r7 = (nI 0) → Q (nI 0) M8) ∧ (¬ r7 = (nI 0) → Q (nI 1) M8))) ∧ (¬ (gi M 3 8) < z1 → ((gi M 3 8) ≤ z2 → Q (nI 1) M) ∧ (¬ (gi M 3 8) ≤ z2 → w_X7_refuse (nI 3) M (fun r11 M12 => (r11 = (nI 0) → Q (nI 0) M12) ∧ (¬ r11 = (nI 0) → Q (nI 1) M12))))) ∧ (¬ (gi M 3 7) ≤ y3 → vp_in y3 240 ∧ (K33 (y3 + (nI 1)) (si M 3 8 (((gi M 3 8) * (nI 10)) + ((gi M 2 y3.toNatClampNeg) - (nI 48))))))
set_option maxRecDepth 20000 in
theorem wbk_X7_takeNumber_33 {z1 : Int32} {z2 : Int32} {K33 : Int32 → wM → Prop} {y3 : Int32} {M : wM} {Q : Int32 → wM → Prop} (hK33 : ∀ (v3 : Int32) (M : wM), K33 v3 M → aG 140 (33, [some (.ref 3), some (.int z1), some (.int z2), some (.int v3)], [], mkX M) (aPi mkX Q)) (h : wb_X7_takeNumber_33 z1 z2 K33 y3 M Q) : aG 140 (33, [some (.ref 3), some (.int z1), some (.int z2), some (.int y3)], [], mkX M) (aPi mkX Q) := by
  unfold wb_X7_takeNumber_33 at h
  refine aG_n 3 (s' := (38, [some (.ref 3), some (.int z1), some (.int z2), some (.int y3)], [(.int (gi M 3 7)), (.int y3)], mkX M)) rfl ?_
  obtain ⟨h1, h2⟩ := h
  by_cases q5 : (gi M 3 7) ≤ y3
  · have h := h1 q5
    refine aG_icmp (cd := .ge) (b := true) (decide_eq_true q5) rfl ?_
    refine aG_n 3 (s' := (76, [some (.ref 3), some (.int z1), some (.int z2), some (.int y3)], [(.int z1), (.int (gi M 3 8))], mkX M)) rfl ?_
    obtain ⟨h1, h2⟩ := h
    by_cases q6 : (gi M 3 8) < z1
    · have h := h1 q6
      refine aG_icmp (cd := .lt) (b := true) (decide_eq_true q6) rfl ?_
      refine aG_n 2 (s' := (89, [some (.ref 3), some (.int z1), some (.int z2), some (.int y3)], [(.int (nI 3)), (.ref 3)], mkX M)) rfl ?_
      refine aG_call rfl rfl (aG_mono (wk_X7_refuse h) ?_)
      rintro _ ⟨r7, M8, rfl, h⟩
      refine aG_n 0 (s' := (92, [some (.ref 3), some (.int z1), some (.int z2), some (.int y3)], [(.int r7)], mkX M8)) rfl ?_
      obtain ⟨h1, h2⟩ := h
      by_cases q9 : r7 = (nI 0)
      · have h := h1 q9
        refine aG_if (cd := .eq) (b := true) (decide_eq_true q9) rfl ?_
        refine aG_n 1 (s' := (100, [some (.ref 3), some (.int z1), some (.int z2), some (.int y3)], [(.int (nI 0))], mkX M8)) rfl ?_
        exact aG_retZ rfl rfl (Or.inl rfl) ⟨_, _, rfl, h⟩
      · have h := h2 q9
        refine aG_if (cd := .eq) (b := false) (decide_eq_false q9) rfl ?_
        refine aG_n 2 (s' := (100, [some (.ref 3), some (.int z1), some (.int z2), some (.int y3)], [(.int (nI 1))], mkX M8)) rfl ?_
        exact aG_retZ rfl rfl (Or.inr rfl) ⟨_, _, rfl, h⟩
    · have h := h2 q6
      refine aG_icmp (cd := .lt) (b := false) (decide_eq_false q6) rfl ?_
      refine aG_n 3 (s' := (84, [some (.ref 3), some (.int z1), some (.int z2), some (.int y3)], [(.int z2), (.int (gi M 3 8))], mkX M)) rfl ?_
      obtain ⟨h1, h2⟩ := h
      by_cases q10 : (gi M 3 8) ≤ z2
      · have h := h1 q10
        refine aG_icmp (cd := .le) (b := true) (decide_eq_true q10) rfl ?_
        refine aG_n 2 (s' := (100, [some (.ref 3), some (.int z1), some (.int z2), some (.int y3)], [(.int (nI 1))], mkX M)) rfl ?_
        exact aG_retZ rfl rfl (Or.inr rfl) ⟨_, _, rfl, h⟩
      · have h := h2 q10
        refine aG_icmp (cd := .le) (b := false) (decide_eq_false q10) rfl ?_
        refine aG_n 2 (s' := (89, [some (.ref 3), some (.int z1), some (.int z2), some (.int y3)], [(.int (nI 3)), (.ref 3)], mkX M)) rfl ?_
        refine aG_call rfl rfl (aG_mono (wk_X7_refuse h) ?_)
        rintro _ ⟨r11, M12, rfl, h⟩
        refine aG_n 0 (s' := (92, [some (.ref 3), some (.int z1), some (.int z2), some (.int y3)], [(.int r11)], mkX M12)) rfl ?_
        obtain ⟨h1, h2⟩ := h
        by_cases q13 : r11 = (nI 0)
        · have h := h1 q13
          refine aG_if (cd := .eq) (b := true) (decide_eq_true q13) rfl ?_
          refine aG_n 1 (s' := (100, [some (.ref 3), some (.int z1), some (.int z2), some (.int y3)], [(.int (nI 0))], mkX M12)) rfl ?_
          exact aG_retZ rfl rfl (Or.inl rfl) ⟨_, _, rfl, h⟩
        · have h := h2 q13
          refine aG_if (cd := .eq) (b := false) (decide_eq_false q13) rfl ?_
          refine aG_n 2 (s' := (100, [some (.ref 3), some (.int z1), some (.int z2), some (.int y3)], [(.int (nI 1))], mkX M12)) rfl ?_
          exact aG_retZ rfl rfl (Or.inr rfl) ⟨_, _, rfl, h⟩
  · have h := h2 q5
    refine aG_icmp (cd := .ge) (b := false) (decide_eq_false q5) rfl ?_
    refine aG_n 9 (s' := (57, [some (.ref 3), some (.int z1), some (.int z2), some (.int y3)], [(.int y3), (.ref 2), (.int ((gi M 3 8) * (nI 10))), (.ref 3)], mkX M)) rfl ?_
    obtain ⟨f14, h⟩ := h
    refine aG_bald rfl rfl f14 ?_
    refine aG_n 6 (s' := (33, [some (.ref 3), some (.int z1), some (.int z2), some (.int (y3 + (nI 1)))], [], mkX (si M 3 8 (((gi M 3 8) * (nI 10)) + ((gi M 2 y3.toNatClampNeg) - (nI 48)))))) rfl ?_
    refine aG_le (a := [some (.ref 3), some (.int z1), some (.int z2), some (.int (y3 + (nI 1)))]) ⟨rfl, ⟨rfl, ⟨rfl, ⟨rfl, trivial⟩⟩⟩⟩ ?_
    exact hK33 _ _ h
def wL_X7_takeNumber_33 (z1 : Int32) (z2 : Int32) (Q : Int32 → wM → Prop) : Nat → Int32 → wM → Prop
  | 0, _, _ => False
  | n + 1, y3, M => wb_X7_takeNumber_33 z1 z2 (wL_X7_takeNumber_33 z1 z2 Q n) y3 M Q
set_option maxRecDepth 20000 in
theorem wLk_X7_takeNumber_33 {z1 : Int32} {z2 : Int32} {Q : Int32 → wM → Prop} : ∀ (n : Nat) (y3 : Int32) (M : wM), wL_X7_takeNumber_33 z1 z2 Q n y3 M → aG 140 (33, [some (.ref 3), some (.int z1), some (.int z2), some (.int y3)], [], mkX M) (aPi mkX Q)
  | 0, _, _, h => h.elim
  | n + 1, y3, M, h => wbk_X7_takeNumber_33 (fun y3 M h => wLk_X7_takeNumber_33 n y3 M h) h
def w_X7_takeNumber (x1 : Int32) (x2 : Int32) (M : wM) (Q : Int32 → wM → Prop) : Prop := w_X7_take M (fun r1 M2 => (r1 = (nI 0) → Q (nI 0) M2) ∧ (¬ r1 = (nI 0) → ((gi M2 3 5) = (nI 2) → ∃ n, wL_X7_takeNumber_33 x1 x2 Q n (gi M2 3 6) (si M2 3 8 (nI 0))) ∧ (¬ (gi M2 3 5) = (nI 2) → w_X7_refuse (nI 2) M2 (fun r15 M16 => (r15 = nI 0 ∨ r15 = nI 1) ∧ Q r15 M16))))
set_option maxRecDepth 20000 in
theorem wk_X7_takeNumber {x1 : Int32} {x2 : Int32} {M : wM} {Q : Int32 → wM → Prop} (h : w_X7_takeNumber x1 x2 M Q) : aG 140 (aEn 140 [(.ref 3), (.int x1), (.int x2)] (mkX M)) (aPi mkX Q) := by
  unfold w_X7_takeNumber at h
  refine aG_n 1 (s' := (1, [some (.ref 3), some (.int x1), some (.int x2), none], [(.ref 3)], mkX M)) rfl ?_
  refine aG_call rfl rfl (aG_mono (wk_X7_take h) ?_)
  rintro _ ⟨r1, M2, rfl, h⟩
  refine aG_n 0 (s' := (4, [some (.ref 3), some (.int x1), some (.int x2), none], [(.int r1)], mkX M2)) rfl ?_
  obtain ⟨h1, h2⟩ := h
  by_cases q3 : r1 = (nI 0)
  · have h := h1 q3
    refine aG_if (cd := .ne) (b := false) (aTne0 q3) rfl ?_
    refine aG_n 1 (s' := (8, [some (.ref 3), some (.int x1), some (.int x2), none], [(.int (nI 0))], mkX M2)) rfl ?_
    exact aG_retZ rfl rfl (Or.inl rfl) ⟨_, _, rfl, h⟩
  · have h := h2 q3
    refine aG_if (cd := .ne) (b := true) (aTne1 q3) rfl ?_
    refine aG_n 3 (s' := (14, [some (.ref 3), some (.int x1), some (.int x2), none], [(.int (nI 2)), (.int (gi M2 3 5))], mkX M2)) rfl ?_
    obtain ⟨h1, h2⟩ := h
    by_cases q4 : (gi M2 3 5) = (nI 2)
    · have h := h1 q4
      refine aG_icmp (cd := .eq) (b := true) (decide_eq_true q4) rfl ?_
      refine aG_n 6 (s' := (33, [some (.ref 3), some (.int x1), some (.int x2), some (.int (gi M2 3 6))], [], mkX (si M2 3 8 (nI 0)))) rfl ?_
      refine aG_le (a := [some (.ref 3), some (.int x1), some (.int x2), some (.int (gi M2 3 6))]) ⟨rfl, ⟨rfl, ⟨rfl, ⟨rfl, trivial⟩⟩⟩⟩ ?_
      obtain ⟨n, h⟩ := h
      exact wLk_X7_takeNumber_33 n _ _ h
    · have h := h2 q4
      refine aG_icmp (cd := .eq) (b := false) (decide_eq_false q4) rfl ?_
      refine aG_n 2 (s' := (19, [some (.ref 3), some (.int x1), some (.int x2), none], [(.int (nI 2)), (.ref 3)], mkX M2)) rfl ?_
      refine aG_call rfl rfl (aG_mono (wk_X7_refuse h) ?_)
      rintro _ ⟨r15, M16, rfl, h⟩
      refine aG_n 0 (s' := (22, [some (.ref 3), some (.int x1), some (.int x2), none], [(.int r15)], mkX M16)) rfl ?_
      exact aG_retZ rfl rfl h.1 ⟨_, _, rfl, h.2⟩
def wj_X10_testRow_13 (z2 : Int32) (M : wM) (Q : Int32 → wM → Prop) : Prop := w_X10_width M (fun r2 M3 => (r2 ≤ z2 → w_X10_countingRow (z2 - r2) M3 (fun r5 M6 => Q ((r5 ^^^ (-1)) &&& ((jshl (nI 1) (gi M6 12 0)) - (nI 1))) M6)) ∧ (¬ r2 ≤ z2 → w_X10_countingRow z2 M3 (fun r7 M8 => Q r7 M8)))
set_option maxRecDepth 20000 in
theorem wjk_X10_testRow_13 {z2 : Int32} {M : wM} {Q : Int32 → wM → Prop} (h : wj_X10_testRow_13 z2 M Q) : aG 141 (13, [some (.ref 54), none, some (.int z2), none], [], mkX M) (aPi mkX Q) := by
  unfold wj_X10_testRow_13 at h
  refine aG_n 1 (s' := (14, [some (.ref 54), none, some (.int z2), none], [(.ref 54)], mkX M)) rfl ?_
  refine aG_call rfl rfl (aG_mono (wk_X10_width h) ?_)
  rintro _ ⟨r2, M3, rfl, h⟩
  refine aG_n 3 (s' := (20, [some (.ref 54), none, some (.int z2), some (.int r2)], [(.int r2), (.int z2)], mkX M3)) rfl ?_
  obtain ⟨h1, h2⟩ := h
  by_cases q4 : r2 ≤ z2
  · have h := h1 q4
    refine aG_icmp (cd := .ge) (b := true) (decide_eq_true q4) rfl ?_
    refine aG_n 4 (s' := (35, [some (.ref 54), none, some (.int z2), some (.int r2)], [(.int (z2 - r2)), (.ref 54)], mkX M3)) rfl ?_
    refine aG_call rfl rfl (aG_mono (wk_X10_countingRow h) ?_)
    rintro _ ⟨r5, M6, rfl, h⟩
    refine aG_n 10 (s' := (52, [some (.ref 54), none, some (.int z2), some (.int r2)], [(.int ((r5 ^^^ (-1)) &&& ((jshl (nI 1) (gi M6 12 0)) - (nI 1))))], mkX M6)) rfl ?_
    exact aG_ret0 rfl rfl ⟨_, _, rfl, h⟩
  · have h := h2 q4
    refine aG_icmp (cd := .ge) (b := false) (decide_eq_false q4) rfl ?_
    refine aG_n 2 (s' := (25, [some (.ref 54), none, some (.int z2), some (.int r2)], [(.int z2), (.ref 54)], mkX M3)) rfl ?_
    refine aG_call rfl rfl (aG_mono (wk_X10_countingRow h) ?_)
    rintro _ ⟨r7, M8, rfl, h⟩
    refine aG_n 1 (s' := (52, [some (.ref 54), none, some (.int z2), some (.int r2)], [(.int r7)], mkX M8)) rfl ?_
    exact aG_ret0 rfl rfl ⟨_, _, rfl, h⟩
def w_X10_testRow (x1 : Int32) (x2 : Int32) (M : wM) (Q : Int32 → wM → Prop) : Prop := (x1 = (nI 0) → wj_X10_testRow_13 x2 M Q) ∧ (¬ x1 = (nI 0) → (x1 = (nI 1) → wj_X10_testRow_13 x2 M Q) ∧ (¬ x1 = (nI 1) → Q (jshl (nI 1) x2) M))
set_option maxRecDepth 20000 in
theorem wk_X10_testRow {x1 : Int32} {x2 : Int32} {M : wM} {Q : Int32 → wM → Prop} (h : w_X10_testRow x1 x2 M Q) : aG 141 (aEn 141 [(.ref 54), (.int x1), (.int x2)] (mkX M)) (aPi mkX Q) := by
  unfold w_X10_testRow at h
  refine aG_n 1 (s' := (1, [some (.ref 54), some (.int x1), some (.int x2), none], [(.int x1)], mkX M)) rfl ?_
  obtain ⟨h1, h2⟩ := h
  by_cases q1 : x1 = (nI 0)
  · have h := h1 q1
    refine aG_if (cd := .eq) (b := true) (decide_eq_true q1) rfl ?_
    refine aG_n 0 (s' := (13, [some (.ref 54), some (.int x1), some (.int x2), none], [], mkX M)) rfl ?_
    refine aG_le (a := [some (.ref 54), none, some (.int x2), none]) ⟨rfl, ⟨rfl, trivial⟩⟩ ?_
    exact wjk_X10_testRow_13 h
  · have h := h2 q1
    refine aG_if (cd := .eq) (b := false) (decide_eq_false q1) rfl ?_
    refine aG_n 2 (s' := (6, [some (.ref 54), some (.int x1), some (.int x2), none], [(.int (nI 1)), (.int x1)], mkX M)) rfl ?_
    obtain ⟨h1, h2⟩ := h
    by_cases q9 : x1 = (nI 1)
    · have h := h1 q9
      refine aG_icmp (cd := .eq) (b := true) (decide_eq_true q9) rfl ?_
      refine aG_n 0 (s' := (13, [some (.ref 54), some (.int x1), some (.int x2), none], [], mkX M)) rfl ?_
      refine aG_le (a := [some (.ref 54), none, some (.int x2), none]) ⟨rfl, ⟨rfl, trivial⟩⟩ ?_
      exact wjk_X10_testRow_13 h
    · have h := h2 q9
      refine aG_icmp (cd := .eq) (b := false) (decide_eq_false q9) rfl ?_
      refine aG_n 3 (s' := (12, [some (.ref 54), some (.int x1), some (.int x2), none], [(.int (jshl (nI 1) x2))], mkX M)) rfl ?_
      exact aG_ret0 rfl rfl ⟨_, _, rfl, h⟩
def w_X10_levelsBy (x0 : Int32) (x1 : Int32) (x2 : Int32) (M : wM) (Q : Int32 → wM → Prop) : Prop := w_X2_meet x1 x2 M (fun r1 M2 => (r1 = (nI 0) → w_X2_settle x0 x1 M2 (fun r4 M5 => w_X2_settle r4 x2 M5 (fun r6 M7 => Q r6 M7))) ∧ (¬ r1 = (nI 0) → w_X2_united x1 x2 M2 (fun r8 M9 => w_X2_settle x0 r8 M9 (fun r10 M11 => Q r10 M11))))
set_option maxRecDepth 20000 in
theorem wk_X10_levelsBy {x0 : Int32} {x1 : Int32} {x2 : Int32} {M : wM} {Q : Int32 → wM → Prop} (h : w_X10_levelsBy x0 x1 x2 M Q) : aG 142 (aEn 142 [(.int x0), (.int x1), (.int x2)] (mkX M)) (aPi mkX Q) := by
  unfold w_X10_levelsBy at h
  refine aG_n 2 (s' := (2, [some (.int x0), some (.int x1), some (.int x2)], [(.int x2), (.int x1)], mkX M)) rfl ?_
  refine aG_call rfl rfl (aG_mono (wk_X2_meet h) ?_)
  rintro _ ⟨r1, M2, rfl, h⟩
  refine aG_n 0 (s' := (5, [some (.int x0), some (.int x1), some (.int x2)], [(.int r1)], mkX M2)) rfl ?_
  obtain ⟨h1, h2⟩ := h
  by_cases q3 : r1 = (nI 0)
  · have h := h1 q3
    refine aG_if (cd := .eq) (b := true) (decide_eq_true q3) rfl ?_
    refine aG_n 2 (s' := (20, [some (.int x0), some (.int x1), some (.int x2)], [(.int x1), (.int x0)], mkX M2)) rfl ?_
    refine aG_call rfl rfl (aG_mono (wk_X2_settle h) ?_)
    rintro _ ⟨r4, M5, rfl, h⟩
    refine aG_n 1 (s' := (24, [some (.int x0), some (.int x1), some (.int x2)], [(.int x2), (.int r4)], mkX M5)) rfl ?_
    refine aG_call rfl rfl (aG_mono (wk_X2_settle h) ?_)
    rintro _ ⟨r6, M7, rfl, h⟩
    refine aG_n 0 (s' := (27, [some (.int x0), some (.int x1), some (.int x2)], [(.int r6)], mkX M7)) rfl ?_
    exact aG_ret0 rfl rfl ⟨_, _, rfl, h⟩
  · have h := h2 q3
    refine aG_if (cd := .eq) (b := false) (decide_eq_false q3) rfl ?_
    refine aG_n 3 (s' := (11, [some (.int x0), some (.int x1), some (.int x2)], [(.int x2), (.int x1), (.int x0)], mkX M2)) rfl ?_
    refine aG_call rfl rfl (aG_mono (wk_X2_united h) ?_)
    rintro _ ⟨r8, M9, rfl, h⟩
    refine aG_n 0 (s' := (14, [some (.int x0), some (.int x1), some (.int x2)], [(.int r8), (.int x0)], mkX M9)) rfl ?_
    refine aG_call rfl rfl (aG_mono (wk_X2_settle h) ?_)
    rintro _ ⟨r10, M11, rfl, h⟩
    refine aG_n 0 (s' := (17, [some (.int x0), some (.int x1), some (.int x2)], [(.int r10)], mkX M11)) rfl ?_
    exact aG_ret0 rfl rfl ⟨_, _, rfl, h⟩
def wb_X10_signFaults_11 (K11 : Int32 → wM → Prop) (y1 : Int32) (M : wM) (Q : wM → Prop) : Prop := ((gi M 54 4) ≤ y1 → Q M) ∧ (¬ (gi M 54 4) ≤ y1 → vp_in y1 72 ∧ (w_X10_signOf (gi M 57 y1.toNatClampNeg) M (fun r5 M6 => vp_in y1 72 ∧ (K11 (y1 + (nI 1)) (sl M6 58 y1.toNatClampNeg r5)))))
set_option maxRecDepth 20000 in
theorem wbk_X10_signFaults_11 {K11 : Int32 → wM → Prop} {y1 : Int32} {M : wM} {Q : wM → Prop} (hK11 : ∀ (v1 : Int32) (M : wM), K11 v1 M → aG 143 (11, [some (.ref 54), some (.int v1)], [], mkX M) (aPv mkX Q)) (h : wb_X10_signFaults_11 K11 y1 M Q) : aG 143 (11, [some (.ref 54), some (.int y1)], [], mkX M) (aPv mkX Q) := by
  unfold wb_X10_signFaults_11 at h
  refine aG_n 3 (s' := (16, [some (.ref 54), some (.int y1)], [(.int (gi M 54 4)), (.int y1)], mkX M)) rfl ?_
  obtain ⟨h1, h2⟩ := h
  by_cases q3 : (gi M 54 4) ≤ y1
  · have h := h1 q3
    refine aG_icmp (cd := .ge) (b := true) (decide_eq_true q3) rfl ?_
    refine aG_n 0 (s' := (41, [some (.ref 54), some (.int y1)], [], mkX M)) rfl ?_
    exact aG_retV rfl rfl ⟨_, rfl, h⟩
  · have h := h2 q3
    refine aG_icmp (cd := .ge) (b := false) (decide_eq_false q3) rfl ?_
    refine aG_n 7 (s' := (30, [some (.ref 54), some (.int y1)], [(.int y1), (.ref 57), (.ref 54), (.int y1), (.ref 58)], mkX M)) rfl ?_
    obtain ⟨f4, h⟩ := h
    refine aG_iald rfl rfl rfl f4 ?_
    refine aG_n 0 (s' := (31, [some (.ref 54), some (.int y1)], [(.int (gi M 57 y1.toNatClampNeg)), (.ref 54), (.int y1), (.ref 58)], mkX M)) rfl ?_
    refine aG_call rfl rfl (aG_mono (wk_X10_signOf h) ?_)
    rintro _ ⟨r5, M6, rfl, h⟩
    refine aG_n 0 (s' := (34, [some (.ref 54), some (.int y1)], [(.long r5), (.int y1), (.ref 58)], mkX M6)) rfl ?_
    obtain ⟨f7, h⟩ := h
    refine aG_last rfl rfl f7 ?_
    refine aG_n 2 (s' := (11, [some (.ref 54), some (.int (y1 + (nI 1)))], [], mkX (sl M6 58 y1.toNatClampNeg r5))) rfl ?_
    refine aG_le (a := [some (.ref 54), some (.int (y1 + (nI 1)))]) ⟨rfl, ⟨rfl, trivial⟩⟩ ?_
    exact hK11 _ _ h
def wL_X10_signFaults_11 (Q : wM → Prop) : Nat → Int32 → wM → Prop
  | 0, _, _ => False
  | n + 1, y1, M => wb_X10_signFaults_11 (wL_X10_signFaults_11 Q n) y1 M Q
set_option maxRecDepth 20000 in
theorem wLk_X10_signFaults_11 {Q : wM → Prop} : ∀ (n : Nat) (y1 : Int32) (M : wM), wL_X10_signFaults_11 Q n y1 M → aG 143 (11, [some (.ref 54), some (.int y1)], [], mkX M) (aPv mkX Q)
  | 0, _, _, h => h.elim
  | n + 1, y1, M, h => wbk_X10_signFaults_11 (fun y1 M h => wLk_X10_signFaults_11 n y1 M h) h
def w_X10_signFaults (M : wM) (Q : wM → Prop) : Prop := w_X10_signOf (nI 0) M (fun r1 M2 => ∃ n, wL_X10_signFaults_11 Q n (nI 0) (sl M2 54 7 r1))
set_option maxRecDepth 20000 in
theorem wk_X10_signFaults {M : wM} {Q : wM → Prop} (h : w_X10_signFaults M Q) : aG 143 (aEn 143 [(.ref 54)] (mkX M)) (aPv mkX Q) := by
  unfold w_X10_signFaults at h
  refine aG_n 3 (s' := (3, [some (.ref 54), none], [(.int (nI 0)), (.ref 54), (.ref 54)], mkX M)) rfl ?_
  refine aG_call rfl rfl (aG_mono (wk_X10_signOf h) ?_)
  rintro _ ⟨r1, M2, rfl, h⟩
  refine aG_n 3 (s' := (11, [some (.ref 54), some (.int (nI 0))], [], mkX (sl M2 54 7 r1))) rfl ?_
  refine aG_le (a := [some (.ref 54), some (.int (nI 0))]) ⟨rfl, ⟨rfl, trivial⟩⟩ ?_
  obtain ⟨n, h⟩ := h
  exact wLk_X10_signFaults_11 n _ _ h
def w_X11_path (x1 : Int32) (x2 : Int32) (x3 : Int32) (M : wM) (Q : Int32 → wM → Prop) : Prop := w_X11_isState x1 M (fun r1 M2 => (r1 = (nI 0) → Q (-1) M2) ∧ (¬ r1 = (nI 0) → w_X11_isState x2 M2 (fun r4 M5 => (r4 = (nI 0) → Q (-1) M5) ∧ (¬ r4 = (nI 0) → (x3 < (nI 0) → Q (-1) M5) ∧ (¬ x3 < (nI 0) → (x3 ≤ (nI 1) → w_X5_aim x2 M5 (fun M10 => (x3 = (nI 0) → vp_in x1 16 ∧ (Q (gi M10 28 x1.toNatClampNeg) M10)) ∧ (¬ x3 = (nI 0) → vp_in x1 16 ∧ (Q (gi M10 29 x1.toNatClampNeg) M10)))) ∧ (¬ x3 ≤ (nI 1) → Q (-1) M5))))))
set_option maxRecDepth 20000 in
theorem wk_X11_path {x1 : Int32} {x2 : Int32} {x3 : Int32} {M : wM} {Q : Int32 → wM → Prop} (h : w_X11_path x1 x2 x3 M Q) : aG 144 (aEn 144 [(.ref 0), (.int x1), (.int x2), (.int x3)] (mkX M)) (aPi mkX Q) := by
  unfold w_X11_path at h
  refine aG_n 1 (s' := (1, [some (.ref 0), some (.int x1), some (.int x2), some (.int x3)], [(.int x1)], mkX M)) rfl ?_
  refine aG_call rfl rfl (aG_mono (wk_X11_isState h) ?_)
  rintro _ ⟨r1, M2, rfl, h⟩
  refine aG_n 0 (s' := (4, [some (.ref 0), some (.int x1), some (.int x2), some (.int x3)], [(.int r1)], mkX M2)) rfl ?_
  obtain ⟨h1, h2⟩ := h
  by_cases q3 : r1 = (nI 0)
  · have h := h1 q3
    refine aG_if (cd := .eq) (b := true) (decide_eq_true q3) rfl ?_
    refine aG_n 1 (s' := (24, [some (.ref 0), some (.int x1), some (.int x2), some (.int x3)], [(.int (-1))], mkX M2)) rfl ?_
    exact aG_ret0 rfl rfl ⟨_, _, rfl, h⟩
  · have h := h2 q3
    refine aG_if (cd := .eq) (b := false) (decide_eq_false q3) rfl ?_
    refine aG_n 1 (s' := (8, [some (.ref 0), some (.int x1), some (.int x2), some (.int x3)], [(.int x2)], mkX M2)) rfl ?_
    refine aG_call rfl rfl (aG_mono (wk_X11_isState h) ?_)
    rintro _ ⟨r4, M5, rfl, h⟩
    refine aG_n 0 (s' := (11, [some (.ref 0), some (.int x1), some (.int x2), some (.int x3)], [(.int r4)], mkX M5)) rfl ?_
    obtain ⟨h1, h2⟩ := h
    by_cases q6 : r4 = (nI 0)
    · have h := h1 q6
      refine aG_if (cd := .eq) (b := true) (decide_eq_true q6) rfl ?_
      refine aG_n 1 (s' := (24, [some (.ref 0), some (.int x1), some (.int x2), some (.int x3)], [(.int (-1))], mkX M5)) rfl ?_
      exact aG_ret0 rfl rfl ⟨_, _, rfl, h⟩
    · have h := h2 q6
      refine aG_if (cd := .eq) (b := false) (decide_eq_false q6) rfl ?_
      refine aG_n 1 (s' := (15, [some (.ref 0), some (.int x1), some (.int x2), some (.int x3)], [(.int x3)], mkX M5)) rfl ?_
      obtain ⟨h1, h2⟩ := h
      by_cases q7 : x3 < (nI 0)
      · have h := h1 q7
        refine aG_if (cd := .lt) (b := true) (decide_eq_true q7) rfl ?_
        refine aG_n 1 (s' := (24, [some (.ref 0), some (.int x1), some (.int x2), some (.int x3)], [(.int (-1))], mkX M5)) rfl ?_
        exact aG_ret0 rfl rfl ⟨_, _, rfl, h⟩
      · have h := h2 q7
        refine aG_if (cd := .lt) (b := false) (decide_eq_false q7) rfl ?_
        refine aG_n 2 (s' := (20, [some (.ref 0), some (.int x1), some (.int x2), some (.int x3)], [(.int (nI 1)), (.int x3)], mkX M5)) rfl ?_
        obtain ⟨h1, h2⟩ := h
        by_cases q8 : x3 ≤ (nI 1)
        · have h := h1 q8
          refine aG_icmp (cd := .le) (b := true) (decide_eq_true q8) rfl ?_
          refine aG_n 4 (s' := (33, [some (.ref 0), some (.int x1), some (.int x2), some (.int x3)], [(.int x2), (.ref 27)], mkX M5)) rfl ?_
          refine aG_call rfl rfl (aG_mono (wk_X5_aim h) ?_)
          rintro _ ⟨M10, rfl, h⟩
          refine aG_n 1 (s' := (37, [some (.ref 0), some (.int x1), some (.int x2), some (.int x3)], [(.int x3)], mkX M10)) rfl ?_
          obtain ⟨h1, h2⟩ := h
          by_cases q11 : x3 = (nI 0)
          · have h := h1 q11
            refine aG_if (cd := .ne) (b := false) (aTne0 q11) rfl ?_
            refine aG_n 5 (s' := (51, [some (.ref 0), some (.int x1), some (.int x2), some (.int x3)], [(.int x1), (.ref 28)], mkX M10)) rfl ?_
            obtain ⟨f12, h⟩ := h
            refine aG_iald rfl rfl rfl f12 ?_
            refine aG_n 1 (s' := (67, [some (.ref 0), some (.int x1), some (.int x2), some (.int x3)], [(.int (gi M10 28 x1.toNatClampNeg))], mkX M10)) rfl ?_
            exact aG_ret0 rfl rfl ⟨_, _, rfl, h⟩
          · have h := h2 q11
            refine aG_if (cd := .ne) (b := true) (aTne1 q11) rfl ?_
            refine aG_n 5 (s' := (66, [some (.ref 0), some (.int x1), some (.int x2), some (.int x3)], [(.int x1), (.ref 29)], mkX M10)) rfl ?_
            obtain ⟨f13, h⟩ := h
            refine aG_iald rfl rfl rfl f13 ?_
            refine aG_n 0 (s' := (67, [some (.ref 0), some (.int x1), some (.int x2), some (.int x3)], [(.int (gi M10 29 x1.toNatClampNeg))], mkX M10)) rfl ?_
            exact aG_ret0 rfl rfl ⟨_, _, rfl, h⟩
        · have h := h2 q8
          refine aG_icmp (cd := .le) (b := false) (decide_eq_false q8) rfl ?_
          refine aG_n 1 (s' := (24, [some (.ref 0), some (.int x1), some (.int x2), some (.int x3)], [(.int (-1))], mkX M5)) rfl ?_
          exact aG_ret0 rfl rfl ⟨_, _, rfl, h⟩
def w_X11_join (x1 : Int32) (x2 : Int32) (x3 : Int32) (M : wM) (Q : Int32 → wM → Prop) : Prop := w_X3_has x1 M (fun r1 M2 => (r1 = (nI 0) → Q (-1) M2) ∧ (¬ r1 = (nI 0) → w_X0_hasFoot x2 x3 M2 (fun r4 M5 => (r4 = (nI 0) → Q (-1) M5) ∧ (¬ r4 = (nI 0) → vp_in x2 6 ∧ (vp_in x3 10 ∧ (((gi M5 (36 + 3 * x2.toNatClampNeg) x3.toNatClampNeg) = (-4) → vp_in x2 6 ∧ (vp_in x3 10 ∧ (vp_in x1 8 ∧ (vp_in x1 8 ∧ (vp_in x1 8 ∧ (Q (gi (si (si M5 (36 + 3 * x2.toNatClampNeg) x3.toNatClampNeg x1) 13 x1.toNatClampNeg ((gi (si M5 (36 + 3 * x2.toNatClampNeg) x3.toNatClampNeg x1) 13 x1.toNatClampNeg) + (nI 1))) 13 x1.toNatClampNeg) (si (si M5 (36 + 3 * x2.toNatClampNeg) x3.toNatClampNeg x1) 13 x1.toNatClampNeg ((gi (si M5 (36 + 3 * x2.toNatClampNeg) x3.toNatClampNeg x1) 13 x1.toNatClampNeg) + (nI 1))))))))) ∧ (¬ (gi M5 (36 + 3 * x2.toNatClampNeg) x3.toNatClampNeg) = (-4) → Q (-2) M5)))))))
set_option maxRecDepth 20000 in
theorem wk_X11_join {x1 : Int32} {x2 : Int32} {x3 : Int32} {M : wM} {Q : Int32 → wM → Prop} (h : w_X11_join x1 x2 x3 M Q) : aG 145 (aEn 145 [(.ref 0), (.int x1), (.int x2), (.int x3)] (mkX M)) (aPi mkX Q) := by
  unfold w_X11_join at h
  refine aG_n 3 (s' := (5, [some (.ref 0), some (.int x1), some (.int x2), some (.int x3)], [(.int x1), (.ref 12)], mkX M)) rfl ?_
  refine aG_call rfl rfl (aG_mono (wk_X3_has h) ?_)
  rintro _ ⟨r1, M2, rfl, h⟩
  refine aG_n 0 (s' := (8, [some (.ref 0), some (.int x1), some (.int x2), some (.int x3)], [(.int r1)], mkX M2)) rfl ?_
  obtain ⟨h1, h2⟩ := h
  by_cases q3 : r1 = (nI 0)
  · have h := h1 q3
    refine aG_if (cd := .eq) (b := true) (decide_eq_true q3) rfl ?_
    refine aG_n 1 (s' := (24, [some (.ref 0), some (.int x1), some (.int x2), some (.int x3)], [(.int (-1))], mkX M2)) rfl ?_
    exact aG_ret0 rfl rfl ⟨_, _, rfl, h⟩
  · have h := h2 q3
    refine aG_if (cd := .eq) (b := false) (decide_eq_false q3) rfl ?_
    refine aG_n 4 (s' := (17, [some (.ref 0), some (.int x1), some (.int x2), some (.int x3)], [(.int x3), (.int x2), (.ref 26)], mkX M2)) rfl ?_
    refine aG_call rfl rfl (aG_mono (wk_X0_hasFoot h) ?_)
    rintro _ ⟨r4, M5, rfl, h⟩
    refine aG_n 0 (s' := (20, [some (.ref 0), some (.int x1), some (.int x2), some (.int x3)], [(.int r4)], mkX M5)) rfl ?_
    obtain ⟨h1, h2⟩ := h
    by_cases q6 : r4 = (nI 0)
    · have h := h1 q6
      refine aG_if (cd := .ne) (b := false) (aTne0 q6) rfl ?_
      refine aG_n 1 (s' := (24, [some (.ref 0), some (.int x1), some (.int x2), some (.int x3)], [(.int (-1))], mkX M5)) rfl ?_
      exact aG_ret0 rfl rfl ⟨_, _, rfl, h⟩
    · have h := h2 q6
      refine aG_if (cd := .ne) (b := true) (aTne1 q6) rfl ?_
      refine aG_n 4 (s' := (33, [some (.ref 0), some (.int x1), some (.int x2), some (.int x3)], [(.int x2), (.ref 30)], mkX M5)) rfl ?_
      obtain ⟨f7, h⟩ := h
      refine aG_aald rfl rfl rfl f7 (rX_30 (P := (M5).2.2) (vin_lt f7)) ?_
      refine aG_n 0 (s' := (34, [some (.ref 0), some (.int x1), some (.int x2), some (.int x3)], [(.ref (34 + 3 * x2.toNatClampNeg))], mkX M5)) rfl ?_
      refine aG_getR rfl (shX_chip (vin_lt f7)) rfl rfl (rX_nat (P := (M5).2.2) (vin_lt f7)) ?_
      refine aG_n 1 (s' := (38, [some (.ref 0), some (.int x1), some (.int x2), some (.int x3)], [(.int x3), (.ref (36 + 3 * x2.toNatClampNeg))], mkX M5)) rfl ?_
      obtain ⟨f8, h⟩ := h
      refine aG_iald rfl (shX_nat (vin_lt f7)) rfl f8 ?_
      refine aG_n 1 (s' := (41, [some (.ref 0), some (.int x1), some (.int x2), some (.int x3)], [(.int (-4)), (.int (gi M5 (36 + 3 * x2.toNatClampNeg) x3.toNatClampNeg))], mkX M5)) rfl ?_
      obtain ⟨h1, h2⟩ := h
      by_cases q9 : (gi M5 (36 + 3 * x2.toNatClampNeg) x3.toNatClampNeg) = (-4)
      · have h := h1 q9
        refine aG_icmp (cd := .eq) (b := true) (decide_eq_true q9) rfl ?_
        refine aG_n 4 (s' := (55, [some (.ref 0), some (.int x1), some (.int x2), some (.int x3)], [(.int x2), (.ref 30)], mkX M5)) rfl ?_
        obtain ⟨f10, h⟩ := h
        refine aG_aald rfl rfl rfl f10 (rX_30 (P := (M5).2.2) (vin_lt f10)) ?_
        refine aG_n 0 (s' := (56, [some (.ref 0), some (.int x1), some (.int x2), some (.int x3)], [(.ref (34 + 3 * x2.toNatClampNeg))], mkX M5)) rfl ?_
        refine aG_getR rfl (shX_chip (vin_lt f10)) rfl rfl (rX_nat (P := (M5).2.2) (vin_lt f10)) ?_
        refine aG_n 2 (s' := (61, [some (.ref 0), some (.int x1), some (.int x2), some (.int x3)], [(.int x1), (.int x3), (.ref (36 + 3 * x2.toNatClampNeg))], mkX M5)) rfl ?_
        obtain ⟨f11, h⟩ := h
        refine aG_iast rfl (shX_nat (vin_lt f10)) f11 ?_
        refine aG_n 5 (s' := (71, [some (.ref 0), some (.int x1), some (.int x2), some (.int x3)], [(.int x1), (.ref 13), (.int x1), (.ref 13)], mkX (si M5 (36 + 3 * x2.toNatClampNeg) x3.toNatClampNeg x1))) rfl ?_
        obtain ⟨f12, h⟩ := h
        refine aG_iald rfl rfl rfl f12 ?_
        refine aG_n 2 (s' := (74, [some (.ref 0), some (.int x1), some (.int x2), some (.int x3)], [(.int ((gi (si M5 (36 + 3 * x2.toNatClampNeg) x3.toNatClampNeg x1) 13 x1.toNatClampNeg) + (nI 1))), (.int x1), (.ref 13)], mkX (si M5 (36 + 3 * x2.toNatClampNeg) x3.toNatClampNeg x1))) rfl ?_
        obtain ⟨f13, h⟩ := h
        refine aG_iast rfl rfl f13 ?_
        refine aG_n 4 (s' := (83, [some (.ref 0), some (.int x1), some (.int x2), some (.int x3)], [(.int x1), (.ref 13)], mkX (si (si M5 (36 + 3 * x2.toNatClampNeg) x3.toNatClampNeg x1) 13 x1.toNatClampNeg ((gi (si M5 (36 + 3 * x2.toNatClampNeg) x3.toNatClampNeg x1) 13 x1.toNatClampNeg) + (nI 1))))) rfl ?_
        obtain ⟨f14, h⟩ := h
        refine aG_iald rfl rfl rfl f14 ?_
        refine aG_n 0 (s' := (84, [some (.ref 0), some (.int x1), some (.int x2), some (.int x3)], [(.int (gi (si (si M5 (36 + 3 * x2.toNatClampNeg) x3.toNatClampNeg x1) 13 x1.toNatClampNeg ((gi (si M5 (36 + 3 * x2.toNatClampNeg) x3.toNatClampNeg x1) 13 x1.toNatClampNeg) + (nI 1))) 13 x1.toNatClampNeg))], mkX (si (si M5 (36 + 3 * x2.toNatClampNeg) x3.toNatClampNeg x1) 13 x1.toNatClampNeg ((gi (si M5 (36 + 3 * x2.toNatClampNeg) x3.toNatClampNeg x1) 13 x1.toNatClampNeg) + (nI 1))))) rfl ?_
        exact aG_ret0 rfl rfl ⟨_, _, rfl, h⟩
      · have h := h2 q9
        refine aG_icmp (cd := .eq) (b := false) (decide_eq_false q9) rfl ?_
        refine aG_n 1 (s' := (46, [some (.ref 0), some (.int x1), some (.int x2), some (.int x3)], [(.int (-2))], mkX M5)) rfl ?_
        exact aG_ret0 rfl rfl ⟨_, _, rfl, h⟩
def w_X11_open (x1 : Int32) (x2 : Int32) (x3 : Int32) (M : wM) (Q : Int32 → wM → Prop) : Prop := w_X0_hasFoot x1 x2 M (fun r1 M2 => (r1 = (nI 0) → Q (-1) M2) ∧ (¬ r1 = (nI 0) → vp_in x1 6 ∧ (w_X11_bit (gi M2 (34 + 3 * x1.toNatClampNeg) 6) x2 M2 (fun r5 M6 => (x3 = (nI 0) → Q r5 (si M6 (34 + 3 * x1.toNatClampNeg) 6 ((gi M6 (34 + 3 * x1.toNatClampNeg) 6) &&& ((jshl (nI 1) x2) ^^^ (-1))))) ∧ (¬ x3 = (nI 0) → Q r5 (si M6 (34 + 3 * x1.toNatClampNeg) 6 ((gi M6 (34 + 3 * x1.toNatClampNeg) 6) ||| (jshl (nI 1) x2))))))))
set_option maxRecDepth 20000 in
theorem wk_X11_open {x1 : Int32} {x2 : Int32} {x3 : Int32} {M : wM} {Q : Int32 → wM → Prop} (h : w_X11_open x1 x2 x3 M Q) : aG 146 (aEn 146 [(.ref 0), (.int x1), (.int x2), (.int x3)] (mkX M)) (aPi mkX Q) := by
  unfold w_X11_open at h
  refine aG_n 4 (s' := (6, [some (.ref 0), some (.int x1), some (.int x2), some (.int x3), none, none], [(.int x2), (.int x1), (.ref 26)], mkX M)) rfl ?_
  refine aG_call rfl rfl (aG_mono (wk_X0_hasFoot h) ?_)
  rintro _ ⟨r1, M2, rfl, h⟩
  refine aG_n 0 (s' := (9, [some (.ref 0), some (.int x1), some (.int x2), some (.int x3), none, none], [(.int r1)], mkX M2)) rfl ?_
  obtain ⟨h1, h2⟩ := h
  by_cases q3 : r1 = (nI 0)
  · have h := h1 q3
    refine aG_if (cd := .ne) (b := false) (aTne0 q3) rfl ?_
    refine aG_n 1 (s' := (13, [some (.ref 0), some (.int x1), some (.int x2), some (.int x3), none, none], [(.int (-1))], mkX M2)) rfl ?_
    exact aG_ret0 rfl rfl ⟨_, _, rfl, h⟩
  · have h := h2 q3
    refine aG_if (cd := .ne) (b := true) (aTne1 q3) rfl ?_
    refine aG_n 4 (s' := (22, [some (.ref 0), some (.int x1), some (.int x2), some (.int x3), none, none], [(.int x1), (.ref 30)], mkX M2)) rfl ?_
    obtain ⟨f4, h⟩ := h
    refine aG_aald rfl rfl rfl f4 (rX_30 (P := (M2).2.2) (vin_lt f4)) ?_
    refine aG_n 2 (s' := (27, [some (.ref 0), some (.int x1), some (.int x2), some (.int x3), some (.ref (34 + 3 * x1.toNatClampNeg)), none], [(.ref (34 + 3 * x1.toNatClampNeg))], mkX M2)) rfl ?_
    refine aG_get rfl (shX_chip (vin_lt f4)) rfl rfl ?_
    refine aG_n 1 (s' := (31, [some (.ref 0), some (.int x1), some (.int x2), some (.int x3), some (.ref (34 + 3 * x1.toNatClampNeg)), none], [(.int x2), (.int (gi M2 (34 + 3 * x1.toNatClampNeg) 6))], mkX M2)) rfl ?_
    refine aG_call rfl rfl (aG_mono (wk_X11_bit h) ?_)
    rintro _ ⟨r5, M6, rfl, h⟩
    refine aG_n 3 (s' := (39, [some (.ref 0), some (.int x1), some (.int x2), some (.int x3), some (.ref (34 + 3 * x1.toNatClampNeg)), some (.int r5)], [(.int x3), (.ref (34 + 3 * x1.toNatClampNeg))], mkX M6)) rfl ?_
    obtain ⟨h1, h2⟩ := h
    by_cases q7 : x3 = (nI 0)
    · have h := h1 q7
      refine aG_if (cd := .eq) (b := true) (decide_eq_true q7) rfl ?_
      refine aG_n 1 (s' := (56, [some (.ref 0), some (.int x1), some (.int x2), some (.int x3), some (.ref (34 + 3 * x1.toNatClampNeg)), some (.int r5)], [(.ref (34 + 3 * x1.toNatClampNeg)), (.ref (34 + 3 * x1.toNatClampNeg))], mkX M6)) rfl ?_
      refine aG_get rfl (shX_chip (vin_lt f4)) rfl rfl ?_
      refine aG_n 6 (s' := (65, [some (.ref 0), some (.int x1), some (.int x2), some (.int x3), some (.ref (34 + 3 * x1.toNatClampNeg)), some (.int r5)], [(.int ((gi M6 (34 + 3 * x1.toNatClampNeg) 6) &&& ((jshl (nI 1) x2) ^^^ (-1)))), (.ref (34 + 3 * x1.toNatClampNeg))], mkX M6)) rfl ?_
      refine aG_put rfl (shX_chip (vin_lt f4)) rfl rfl ?_
      refine aG_n 1 (s' := (70, [some (.ref 0), some (.int x1), some (.int x2), some (.int x3), some (.ref (34 + 3 * x1.toNatClampNeg)), some (.int r5)], [(.int r5)], mkX (si M6 (34 + 3 * x1.toNatClampNeg) 6 ((gi M6 (34 + 3 * x1.toNatClampNeg) 6) &&& ((jshl (nI 1) x2) ^^^ (-1)))))) rfl ?_
      exact aG_ret0 rfl rfl ⟨_, _, rfl, h⟩
    · have h := h2 q7
      refine aG_if (cd := .eq) (b := false) (decide_eq_false q7) rfl ?_
      refine aG_n 1 (s' := (44, [some (.ref 0), some (.int x1), some (.int x2), some (.int x3), some (.ref (34 + 3 * x1.toNatClampNeg)), some (.int r5)], [(.ref (34 + 3 * x1.toNatClampNeg)), (.ref (34 + 3 * x1.toNatClampNeg))], mkX M6)) rfl ?_
      refine aG_get rfl (shX_chip (vin_lt f4)) rfl rfl ?_
      refine aG_n 5 (s' := (65, [some (.ref 0), some (.int x1), some (.int x2), some (.int x3), some (.ref (34 + 3 * x1.toNatClampNeg)), some (.int r5)], [(.int ((gi M6 (34 + 3 * x1.toNatClampNeg) 6) ||| (jshl (nI 1) x2))), (.ref (34 + 3 * x1.toNatClampNeg))], mkX M6)) rfl ?_
      refine aG_put rfl (shX_chip (vin_lt f4)) rfl rfl ?_
      refine aG_n 1 (s' := (70, [some (.ref 0), some (.int x1), some (.int x2), some (.int x3), some (.ref (34 + 3 * x1.toNatClampNeg)), some (.int r5)], [(.int r5)], mkX (si M6 (34 + 3 * x1.toNatClampNeg) 6 ((gi M6 (34 + 3 * x1.toNatClampNeg) 6) ||| (jshl (nI 1) x2))))) rfl ?_
      exact aG_ret0 rfl rfl ⟨_, _, rfl, h⟩
def w_X11_rows (x1 : Int32) (M : wM) (Q : Int32 → wM → Prop) : Prop := w_X11_isSort x1 M (fun r1 M2 => (r1 = (nI 0) → Q (-1) M2) ∧ (¬ r1 = (nI 0) → ((gi M2 12 0) = (nI 0) → Q (-2) M2) ∧ (¬ (gi M2 12 0) = (nI 0) → w_X10_rowCount x1 M2 (fun r5 M6 => Q r5 M6))))
set_option maxRecDepth 20000 in
theorem wk_X11_rows {x1 : Int32} {M : wM} {Q : Int32 → wM → Prop} (h : w_X11_rows x1 M Q) : aG 147 (aEn 147 [(.ref 0), (.int x1)] (mkX M)) (aPi mkX Q) := by
  unfold w_X11_rows at h
  refine aG_n 1 (s' := (1, [some (.ref 0), some (.int x1)], [(.int x1)], mkX M)) rfl ?_
  refine aG_call rfl rfl (aG_mono (wk_X11_isSort h) ?_)
  rintro _ ⟨r1, M2, rfl, h⟩
  refine aG_n 0 (s' := (4, [some (.ref 0), some (.int x1)], [(.int r1)], mkX M2)) rfl ?_
  obtain ⟨h1, h2⟩ := h
  by_cases q3 : r1 = (nI 0)
  · have h := h1 q3
    refine aG_if (cd := .ne) (b := false) (aTne0 q3) rfl ?_
    refine aG_n 1 (s' := (8, [some (.ref 0), some (.int x1)], [(.int (-1))], mkX M2)) rfl ?_
    exact aG_ret0 rfl rfl ⟨_, _, rfl, h⟩
  · have h := h2 q3
    refine aG_if (cd := .ne) (b := true) (aTne1 q3) rfl ?_
    refine aG_n 3 (s' := (16, [some (.ref 0), some (.int x1)], [(.int (gi M2 12 0))], mkX M2)) rfl ?_
    obtain ⟨h1, h2⟩ := h
    by_cases q4 : (gi M2 12 0) = (nI 0)
    · have h := h1 q4
      refine aG_if (cd := .ne) (b := false) (aTne0 q4) rfl ?_
      refine aG_n 2 (s' := (32, [some (.ref 0), some (.int x1)], [(.int (-2))], mkX M2)) rfl ?_
      exact aG_ret0 rfl rfl ⟨_, _, rfl, h⟩
    · have h := h2 q4
      refine aG_if (cd := .ne) (b := true) (aTne1 q4) rfl ?_
      refine aG_n 3 (s' := (29, [some (.ref 0), some (.int x1)], [(.int x1), (.ref 54)], mkX M2)) rfl ?_
      refine aG_call rfl rfl (aG_mono (wk_X10_rowCount h) ?_)
      rintro _ ⟨r5, M6, rfl, h⟩
      refine aG_n 0 (s' := (32, [some (.ref 0), some (.int x1)], [(.int r5)], mkX M6)) rfl ?_
      exact aG_ret0 rfl rfl ⟨_, _, rfl, h⟩
def w_X11_sheet (x1 : Int32) (x2 : Int32) (x3 : Int32) (M : wM) (Q : Int32 → wM → Prop) : Prop := w_X11_isSheet x1 M (fun r1 M2 => (r1 = (nI 0) → Q (-1) M2) ∧ (¬ r1 = (nI 0) → w_X11_isLane x2 M2 (fun r4 M5 => (r4 = (nI 0) → Q (-1) M5) ∧ (¬ r4 = (nI 0) → (x3 ≤ (nI 100) → ((nI 0) ≤ x3 → vp_in x1 4 ∧ (w_X8_renew x1.toNatClampNeg x2 x3 M5 (fun M11 => Q (nI 1) M11))) ∧ (¬ (nI 0) ≤ x3 → Q (-14) M5)) ∧ (¬ x3 ≤ (nI 100) → Q (-1) M5)))))
set_option maxRecDepth 20000 in
theorem wk_X11_sheet {x1 : Int32} {x2 : Int32} {x3 : Int32} {M : wM} {Q : Int32 → wM → Prop} (h : w_X11_sheet x1 x2 x3 M Q) : aG 148 (aEn 148 [(.ref 0), (.int x1), (.int x2), (.int x3)] (mkX M)) (aPi mkX Q) := by
  unfold w_X11_sheet at h
  refine aG_n 1 (s' := (1, [some (.ref 0), some (.int x1), some (.int x2), some (.int x3)], [(.int x1)], mkX M)) rfl ?_
  refine aG_call rfl rfl (aG_mono (wk_X11_isSheet h) ?_)
  rintro _ ⟨r1, M2, rfl, h⟩
  refine aG_n 0 (s' := (4, [some (.ref 0), some (.int x1), some (.int x2), some (.int x3)], [(.int r1)], mkX M2)) rfl ?_
  obtain ⟨h1, h2⟩ := h
  by_cases q3 : r1 = (nI 0)
  · have h := h1 q3
    refine aG_if (cd := .eq) (b := true) (decide_eq_true q3) rfl ?_
    refine aG_n 1 (s' := (21, [some (.ref 0), some (.int x1), some (.int x2), some (.int x3)], [(.int (-1))], mkX M2)) rfl ?_
    exact aG_ret0 rfl rfl ⟨_, _, rfl, h⟩
  · have h := h2 q3
    refine aG_if (cd := .eq) (b := false) (decide_eq_false q3) rfl ?_
    refine aG_n 1 (s' := (8, [some (.ref 0), some (.int x1), some (.int x2), some (.int x3)], [(.int x2)], mkX M2)) rfl ?_
    refine aG_call rfl rfl (aG_mono (wk_X11_isLane h) ?_)
    rintro _ ⟨r4, M5, rfl, h⟩
    refine aG_n 0 (s' := (11, [some (.ref 0), some (.int x1), some (.int x2), some (.int x3)], [(.int r4)], mkX M5)) rfl ?_
    obtain ⟨h1, h2⟩ := h
    by_cases q6 : r4 = (nI 0)
    · have h := h1 q6
      refine aG_if (cd := .eq) (b := true) (decide_eq_true q6) rfl ?_
      refine aG_n 1 (s' := (21, [some (.ref 0), some (.int x1), some (.int x2), some (.int x3)], [(.int (-1))], mkX M5)) rfl ?_
      exact aG_ret0 rfl rfl ⟨_, _, rfl, h⟩
    · have h := h2 q6
      refine aG_if (cd := .eq) (b := false) (decide_eq_false q6) rfl ?_
      refine aG_n 2 (s' := (17, [some (.ref 0), some (.int x1), some (.int x2), some (.int x3)], [(.int (nI 100)), (.int x3)], mkX M5)) rfl ?_
      obtain ⟨h1, h2⟩ := h
      by_cases q7 : x3 ≤ (nI 100)
      · have h := h1 q7
        refine aG_icmp (cd := .le) (b := true) (decide_eq_true q7) rfl ?_
        refine aG_n 1 (s' := (23, [some (.ref 0), some (.int x1), some (.int x2), some (.int x3)], [(.int x3)], mkX M5)) rfl ?_
        obtain ⟨h1, h2⟩ := h
        by_cases q8 : (nI 0) ≤ x3
        · have h := h1 q8
          refine aG_if (cd := .ge) (b := true) (decide_eq_true q8) rfl ?_
          refine aG_n 3 (s' := (34, [some (.ref 0), some (.int x1), some (.int x2), some (.int x3)], [(.int x1), (.ref 64)], mkX M5)) rfl ?_
          obtain ⟨f9, h⟩ := h
          refine aG_aald rfl rfl rfl f9 (rX_64 (P := (M5).2.2) (vin_lt f9)) ?_
          refine aG_n 2 (s' := (37, [some (.ref 0), some (.int x1), some (.int x2), some (.int x3)], [(.int x3), (.int x2), (.ref (71 + 2 * x1.toNatClampNeg))], mkX M5)) rfl ?_
          refine aG_ivv rfl rfl (shX_she (vin_lt f9)) rfl rfl (aG_mono (wk_X8_renew h) ?_)
          rintro _ ⟨M11, rfl, h⟩
          refine aG_n 1 (s' := (41, [some (.ref 0), some (.int x1), some (.int x2), some (.int x3)], [(.int (nI 1))], mkX M11)) rfl ?_
          exact aG_ret0 rfl rfl ⟨_, _, rfl, h⟩
        · have h := h2 q8
          refine aG_if (cd := .ge) (b := false) (decide_eq_false q8) rfl ?_
          refine aG_n 1 (s' := (28, [some (.ref 0), some (.int x1), some (.int x2), some (.int x3)], [(.int (-14))], mkX M5)) rfl ?_
          exact aG_ret0 rfl rfl ⟨_, _, rfl, h⟩
      · have h := h2 q7
        refine aG_icmp (cd := .le) (b := false) (decide_eq_false q7) rfl ?_
        refine aG_n 1 (s' := (21, [some (.ref 0), some (.int x1), some (.int x2), some (.int x3)], [(.int (-1))], mkX M5)) rfl ?_
        exact aG_ret0 rfl rfl ⟨_, _, rfl, h⟩
def w_X11_count (x1 : Int32) (M : wM) (Q : Int32 → wM → Prop) : Prop := (x1 = nI 0 → Q (gi M 0 3) M) ∧ (¬ x1 = nI 0 → (x1 = nI 1 → Q (gi M 26 3) M) ∧ (¬ x1 = nI 1 → (x1 = nI 2 → w_X0_orderBits M (fun r4 M5 => Q r4 M5)) ∧ (¬ x1 = nI 2 → (x1 = nI 3 → w_X0_cellCount M (fun r7 M8 => Q r7 M8)) ∧ (¬ x1 = nI 3 → (x1 = nI 4 → Q (gi M 12 0) M) ∧ (¬ x1 = nI 4 → (x1 = nI 5 → w_X3_shortCount M (fun r11 M12 => Q r11 M12)) ∧ (¬ x1 = nI 5 → (x1 = nI 6 → w_X3_stuckCount M (fun r14 M15 => Q r14 M15)) ∧ (¬ x1 = nI 6 → (x1 = nI 7 → w_X0_openCount M (fun r17 M18 => Q r17 M18)) ∧ (¬ x1 = nI 7 → (x1 = nI 8 → Q (gi M 26 8) M) ∧ (¬ x1 = nI 8 → (x1 = nI 9 → Q (gi M 1 1) M) ∧ (¬ x1 = nI 9 → (x1 = nI 10 → vp_in (nI 0) 4 ∧ (((gi M (71 + 2 * (nI 0).toNatClampNeg) 0) = (-4) → Q (-4) M) ∧ (¬ (gi M (71 + 2 * (nI 0).toNatClampNeg) 0) = (-4) → vp_in (nI 0) 4 ∧ (Q (gi M (71 + 2 * (nI 0).toNatClampNeg) 1) M)))) ∧ (¬ x1 = nI 10 → Q (-1) M)))))))))))
set_option maxRecDepth 20000 in
theorem wk_X11_count {x1 : Int32} {M : wM} {Q : Int32 → wM → Prop} (h : w_X11_count x1 M Q) : aG 149 (aEn 149 [(.ref 0), (.int x1)] (mkX M)) (aPi mkX Q) := by
  unfold w_X11_count at h
  refine aG_n 1 (s' := (1, [some (.ref 0), some (.int x1)], [(.int x1)], mkX M)) rfl ?_
  obtain ⟨h1, h⟩ := h
  by_cases q1 : x1 = nI 0
  · have h := h1 q1
    refine aG_tbl rfl (by rw [q1] <;> decide) (by rw [q1] <;> rfl) ?_
    refine aG_n 2 (s' := (64, [some (.ref 0), some (.int x1)], [(.int (gi M 0 3))], mkX M)) rfl ?_
    exact aG_ret0 rfl rfl ⟨_, _, rfl, h⟩
  have h := h q1
  obtain ⟨h1, h⟩ := h
  by_cases q2 : x1 = nI 1
  · have h := h1 q2
    refine aG_tbl rfl (by rw [q2] <;> decide) (by rw [q2] <;> rfl) ?_
    refine aG_n 3 (s' := (72, [some (.ref 0), some (.int x1)], [(.int (gi M 26 3))], mkX M)) rfl ?_
    exact aG_ret0 rfl rfl ⟨_, _, rfl, h⟩
  have h := h q2
  obtain ⟨h1, h⟩ := h
  by_cases q3 : x1 = nI 2
  · have h := h1 q3
    refine aG_tbl rfl (by rw [q3] <;> decide) (by rw [q3] <;> rfl) ?_
    refine aG_n 2 (s' := (77, [some (.ref 0), some (.int x1)], [(.ref 26)], mkX M)) rfl ?_
    refine aG_call rfl rfl (aG_mono (wk_X0_orderBits h) ?_)
    rintro _ ⟨r4, M5, rfl, h⟩
    refine aG_n 0 (s' := (80, [some (.ref 0), some (.int x1)], [(.int r4)], mkX M5)) rfl ?_
    exact aG_ret0 rfl rfl ⟨_, _, rfl, h⟩
  have h := h q3
  obtain ⟨h1, h⟩ := h
  by_cases q6 : x1 = nI 3
  · have h := h1 q6
    refine aG_tbl rfl (by rw [q6] <;> decide) (by rw [q6] <;> rfl) ?_
    refine aG_n 2 (s' := (85, [some (.ref 0), some (.int x1)], [(.ref 26)], mkX M)) rfl ?_
    refine aG_call rfl rfl (aG_mono (wk_X0_cellCount h) ?_)
    rintro _ ⟨r7, M8, rfl, h⟩
    refine aG_n 0 (s' := (88, [some (.ref 0), some (.int x1)], [(.int r7)], mkX M8)) rfl ?_
    exact aG_ret0 rfl rfl ⟨_, _, rfl, h⟩
  have h := h q6
  obtain ⟨h1, h⟩ := h
  by_cases q9 : x1 = nI 4
  · have h := h1 q9
    refine aG_tbl rfl (by rw [q9] <;> decide) (by rw [q9] <;> rfl) ?_
    refine aG_n 3 (s' := (96, [some (.ref 0), some (.int x1)], [(.int (gi M 12 0))], mkX M)) rfl ?_
    exact aG_ret0 rfl rfl ⟨_, _, rfl, h⟩
  have h := h q9
  obtain ⟨h1, h⟩ := h
  by_cases q10 : x1 = nI 5
  · have h := h1 q10
    refine aG_tbl rfl (by rw [q10] <;> decide) (by rw [q10] <;> rfl) ?_
    refine aG_n 2 (s' := (101, [some (.ref 0), some (.int x1)], [(.ref 12)], mkX M)) rfl ?_
    refine aG_call rfl rfl (aG_mono (wk_X3_shortCount h) ?_)
    rintro _ ⟨r11, M12, rfl, h⟩
    refine aG_n 0 (s' := (104, [some (.ref 0), some (.int x1)], [(.int r11)], mkX M12)) rfl ?_
    exact aG_ret0 rfl rfl ⟨_, _, rfl, h⟩
  have h := h q10
  obtain ⟨h1, h⟩ := h
  by_cases q13 : x1 = nI 6
  · have h := h1 q13
    refine aG_tbl rfl (by rw [q13] <;> decide) (by rw [q13] <;> rfl) ?_
    refine aG_n 2 (s' := (109, [some (.ref 0), some (.int x1)], [(.ref 12)], mkX M)) rfl ?_
    refine aG_call rfl rfl (aG_mono (wk_X3_stuckCount h) ?_)
    rintro _ ⟨r14, M15, rfl, h⟩
    refine aG_n 0 (s' := (112, [some (.ref 0), some (.int x1)], [(.int r14)], mkX M15)) rfl ?_
    exact aG_ret0 rfl rfl ⟨_, _, rfl, h⟩
  have h := h q13
  obtain ⟨h1, h⟩ := h
  by_cases q16 : x1 = nI 7
  · have h := h1 q16
    refine aG_tbl rfl (by rw [q16] <;> decide) (by rw [q16] <;> rfl) ?_
    refine aG_n 2 (s' := (117, [some (.ref 0), some (.int x1)], [(.ref 26)], mkX M)) rfl ?_
    refine aG_call rfl rfl (aG_mono (wk_X0_openCount h) ?_)
    rintro _ ⟨r17, M18, rfl, h⟩
    refine aG_n 0 (s' := (120, [some (.ref 0), some (.int x1)], [(.int r17)], mkX M18)) rfl ?_
    exact aG_ret0 rfl rfl ⟨_, _, rfl, h⟩
  have h := h q16
  obtain ⟨h1, h⟩ := h
  by_cases q19 : x1 = nI 8
  · have h := h1 q19
    refine aG_tbl rfl (by rw [q19] <;> decide) (by rw [q19] <;> rfl) ?_
    refine aG_n 3 (s' := (128, [some (.ref 0), some (.int x1)], [(.int (gi M 26 8))], mkX M)) rfl ?_
    exact aG_ret0 rfl rfl ⟨_, _, rfl, h⟩
  have h := h q19
  obtain ⟨h1, h⟩ := h
  by_cases q20 : x1 = nI 9
  · have h := h1 q20
    refine aG_tbl rfl (by rw [q20] <;> decide) (by rw [q20] <;> rfl) ?_
    refine aG_n 3 (s' := (136, [some (.ref 0), some (.int x1)], [(.int (gi M 1 1))], mkX M)) rfl ?_
    exact aG_ret0 rfl rfl ⟨_, _, rfl, h⟩
  have h := h q20
  obtain ⟨h1, h⟩ := h
  by_cases q21 : x1 = nI 10
  · have h := h1 q21
    refine aG_tbl rfl (by rw [q21] <;> decide) (by rw [q21] <;> rfl) ?_
    refine aG_n 3 (s' := (142, [some (.ref 0), some (.int x1)], [(.int (nI 0)), (.ref 64)], mkX M)) rfl ?_
    obtain ⟨f22, h⟩ := h
    refine aG_aald rfl rfl rfl f22 (rX_64 (P := (M).2.2) (vin_lt f22)) ?_
    refine aG_n 0 (s' := (143, [some (.ref 0), some (.int x1)], [(.ref (71 + 2 * (nI 0).toNatClampNeg))], mkX M)) rfl ?_
    refine aG_get rfl (shX_she (vin_lt f22)) rfl rfl ?_
    refine aG_n 1 (s' := (148, [some (.ref 0), some (.int x1)], [(.int (-4)), (.int (gi M (71 + 2 * (nI 0).toNatClampNeg) 0))], mkX M)) rfl ?_
    obtain ⟨h1, h2⟩ := h
    by_cases q23 : (gi M (71 + 2 * (nI 0).toNatClampNeg) 0) = (-4)
    · have h := h1 q23
      refine aG_icmp (cd := .ne) (b := false) (aTne0 q23) rfl ?_
      refine aG_n 2 (s' := (165, [some (.ref 0), some (.int x1)], [(.int (-4))], mkX M)) rfl ?_
      exact aG_ret0 rfl rfl ⟨_, _, rfl, h⟩
    · have h := h2 q23
      refine aG_icmp (cd := .ne) (b := true) (aTne1 q23) rfl ?_
      refine aG_n 3 (s' := (161, [some (.ref 0), some (.int x1)], [(.int (nI 0)), (.ref 64)], mkX M)) rfl ?_
      obtain ⟨f24, h⟩ := h
      refine aG_aald rfl rfl rfl f24 (rX_64 (P := (M).2.2) (vin_lt f24)) ?_
      refine aG_n 0 (s' := (162, [some (.ref 0), some (.int x1)], [(.ref (71 + 2 * (nI 0).toNatClampNeg))], mkX M)) rfl ?_
      refine aG_get rfl (shX_she (vin_lt f24)) rfl rfl ?_
      refine aG_n 0 (s' := (165, [some (.ref 0), some (.int x1)], [(.int (gi M (71 + 2 * (nI 0).toNatClampNeg) 1))], mkX M)) rfl ?_
      exact aG_ret0 rfl rfl ⟨_, _, rfl, h⟩
  have h := h q21
  refine aG_tbd rfl (tbl_out 10 (fun k hk _ => ?_) (by decide)) ?_
  · have hk2 : k = 0 ∨ k = 1 ∨ k = 2 ∨ k = 3 ∨ k = 4 ∨ k = 5 ∨ k = 6 ∨ k = 7 ∨ k = 8 ∨ k = 9 ∨ k = 10 := by omega
    rcases hk2 with rfl | rfl | rfl | rfl | rfl | rfl | rfl | rfl | rfl | rfl | rfl <;> assumption
  refine aG_n 1 (s' := (167, [some (.ref 0), some (.int x1)], [(.int (-1))], mkX M)) rfl ?_
  exact aG_ret0 rfl rfl ⟨_, _, rfl, h⟩
def w_X12_isPart (M : wM) (Q : Int32 → wM → Prop) : Prop := w_X12_is (nI 4) (nI 112) (nI 97) (nI 114) (nI 116) M (fun r1 M2 => (r1 = nI 0 ∨ r1 = nI 1) ∧ Q r1 M2)
set_option maxRecDepth 20000 in
theorem wk_X12_isPart {M : wM} {Q : Int32 → wM → Prop} (h : w_X12_isPart M Q) : aG 150 (aEn 150 [(.ref 0)] (mkM M)) (aPi mkM Q) := by
  unfold w_X12_isPart at h
  refine aG_n 6 (s' := (10, [some (.ref 0)], [(.int (nI 116)), (.int (nI 114)), (.int (nI 97)), (.int (nI 112)), (.int (nI 4)), (.ref 0)], mkM M)) rfl ?_
  refine aG_call rfl rfl (aG_mono (wk_X12_is h) ?_)
  rintro _ ⟨r1, M2, rfl, h⟩
  refine aG_n 0 (s' := (13, [some (.ref 0)], [(.int r1)], mkM M2)) rfl ?_
  exact aG_retZ rfl rfl h.1 ⟨_, _, rfl, h.2⟩
def wj_X12_itemNow_114 (M : wM) (Q : Int32 → wM → Prop) : Prop := w_X12_is (nI 5) (nI 99) (nI 101) (nI 108) (nI 108) M (fun r10 M11 => (r10 = (nI 0) → Q (-4) M11) ∧ (¬ r10 = (nI 0) → w_X12_look ((gi M11 0 17) + (nI 4)) M11 (fun r13 M14 => (r13 = (nI 115) → Q (nI 3) M14) ∧ (¬ r13 = (nI 115) → Q (-4) M14))))
set_option maxRecDepth 20000 in
theorem wjk_X12_itemNow_114 {M : wM} {Q : Int32 → wM → Prop} (h : wj_X12_itemNow_114 M Q) : aG 151 (114, [some (.ref 0)], [], mkM M) (aPi mkM Q) := by
  unfold wj_X12_itemNow_114 at h
  refine aG_n 6 (s' := (124, [some (.ref 0)], [(.int (nI 108)), (.int (nI 108)), (.int (nI 101)), (.int (nI 99)), (.int (nI 5)), (.ref 0)], mkM M)) rfl ?_
  refine aG_call rfl rfl (aG_mono (wk_X12_is h) ?_)
  rintro _ ⟨r10, M11, rfl, h⟩
  refine aG_n 0 (s' := (127, [some (.ref 0)], [(.int r10)], mkM M11)) rfl ?_
  obtain ⟨h1, h2⟩ := h
  by_cases q12 : r10 = (nI 0)
  · have h := h1 q12
    refine aG_if (cd := .eq) (b := true) (decide_eq_true q12) rfl ?_
    refine aG_n 1 (s' := (151, [some (.ref 0)], [(.int (-4))], mkM M11)) rfl ?_
    exact aG_ret0 rfl rfl ⟨_, _, rfl, h⟩
  · have h := h2 q12
    refine aG_if (cd := .eq) (b := false) (decide_eq_false q12) rfl ?_
    refine aG_n 5 (s' := (137, [some (.ref 0)], [(.int ((gi M11 0 17) + (nI 4))), (.ref 0)], mkM M11)) rfl ?_
    refine aG_call rfl rfl (aG_mono (wk_X12_look h) ?_)
    rintro _ ⟨r13, M14, rfl, h⟩
    refine aG_n 1 (s' := (142, [some (.ref 0)], [(.int (nI 115)), (.int r13)], mkM M14)) rfl ?_
    obtain ⟨h1, h2⟩ := h
    by_cases q15 : r13 = (nI 115)
    · have h := h1 q15
      refine aG_icmp (cd := .ne) (b := false) (aTne0 q15) rfl ?_
      refine aG_n 2 (s' := (151, [some (.ref 0)], [(.int (nI 3))], mkM M14)) rfl ?_
      exact aG_ret0 rfl rfl ⟨_, _, rfl, h⟩
    · have h := h2 q15
      refine aG_icmp (cd := .ne) (b := true) (aTne1 q15) rfl ?_
      refine aG_n 1 (s' := (151, [some (.ref 0)], [(.int (-4))], mkM M14)) rfl ?_
      exact aG_ret0 rfl rfl ⟨_, _, rfl, h⟩
def wj_X12_itemNow_65 (M : wM) (Q : Int32 → wM → Prop) : Prop := w_X12_is (nI 6) (nI 101) (nI 120) (nI 116) (nI 101) M (fun r7 M8 => (r7 = (nI 0) → wj_X12_itemNow_114 M8 Q) ∧ (¬ r7 = (nI 0) → w_X12_look ((gi M8 0 17) + (nI 4)) M8 (fun r16 M17 => (r16 = (nI 115) → w_X12_look ((gi M17 0 17) + (nI 5)) M17 (fun r19 M20 => (r19 = (nI 116) → Q (nI 2) M20) ∧ (¬ r19 = (nI 116) → wj_X12_itemNow_114 M20 Q))) ∧ (¬ r16 = (nI 115) → wj_X12_itemNow_114 M17 Q))))
set_option maxRecDepth 20000 in
theorem wjk_X12_itemNow_65 {M : wM} {Q : Int32 → wM → Prop} (h : wj_X12_itemNow_65 M Q) : aG 151 (65, [some (.ref 0)], [], mkM M) (aPi mkM Q) := by
  unfold wj_X12_itemNow_65 at h
  refine aG_n 6 (s' := (76, [some (.ref 0)], [(.int (nI 101)), (.int (nI 116)), (.int (nI 120)), (.int (nI 101)), (.int (nI 6)), (.ref 0)], mkM M)) rfl ?_
  refine aG_call rfl rfl (aG_mono (wk_X12_is h) ?_)
  rintro _ ⟨r7, M8, rfl, h⟩
  refine aG_n 0 (s' := (79, [some (.ref 0)], [(.int r7)], mkM M8)) rfl ?_
  obtain ⟨h1, h2⟩ := h
  by_cases q9 : r7 = (nI 0)
  · have h := h1 q9
    refine aG_if (cd := .eq) (b := true) (decide_eq_true q9) rfl ?_
    refine aG_n 0 (s' := (114, [some (.ref 0)], [], mkM M8)) rfl ?_
    refine aG_le (a := [some (.ref 0)]) ⟨rfl, trivial⟩ ?_
    exact wjk_X12_itemNow_114 h
  · have h := h2 q9
    refine aG_if (cd := .eq) (b := false) (decide_eq_false q9) rfl ?_
    refine aG_n 5 (s' := (89, [some (.ref 0)], [(.int ((gi M8 0 17) + (nI 4))), (.ref 0)], mkM M8)) rfl ?_
    refine aG_call rfl rfl (aG_mono (wk_X12_look h) ?_)
    rintro _ ⟨r16, M17, rfl, h⟩
    refine aG_n 1 (s' := (94, [some (.ref 0)], [(.int (nI 115)), (.int r16)], mkM M17)) rfl ?_
    obtain ⟨h1, h2⟩ := h
    by_cases q18 : r16 = (nI 115)
    · have h := h1 q18
      refine aG_icmp (cd := .ne) (b := false) (aTne0 q18) rfl ?_
      refine aG_n 5 (s' := (104, [some (.ref 0)], [(.int ((gi M17 0 17) + (nI 5))), (.ref 0)], mkM M17)) rfl ?_
      refine aG_call rfl rfl (aG_mono (wk_X12_look h) ?_)
      rintro _ ⟨r19, M20, rfl, h⟩
      refine aG_n 1 (s' := (109, [some (.ref 0)], [(.int (nI 116)), (.int r19)], mkM M20)) rfl ?_
      obtain ⟨h1, h2⟩ := h
      by_cases q21 : r19 = (nI 116)
      · have h := h1 q21
        refine aG_icmp (cd := .ne) (b := false) (aTne0 q21) rfl ?_
        refine aG_n 1 (s' := (113, [some (.ref 0)], [(.int (nI 2))], mkM M20)) rfl ?_
        exact aG_ret0 rfl rfl ⟨_, _, rfl, h⟩
      · have h := h2 q21
        refine aG_icmp (cd := .ne) (b := true) (aTne1 q21) rfl ?_
        refine aG_n 0 (s' := (114, [some (.ref 0)], [], mkM M20)) rfl ?_
        refine aG_le (a := [some (.ref 0)]) ⟨rfl, trivial⟩ ?_
        exact wjk_X12_itemNow_114 h
    · have h := h2 q18
      refine aG_icmp (cd := .ne) (b := true) (aTne1 q18) rfl ?_
      refine aG_n 0 (s' := (114, [some (.ref 0)], [], mkM M17)) rfl ?_
      refine aG_le (a := [some (.ref 0)]) ⟨rfl, trivial⟩ ?_
      exact wjk_X12_itemNow_114 h
def w_X12_itemNow (M : wM) (Q : Int32 → wM → Prop) : Prop := w_X12_is (nI 2) (nI 105) (nI 100) (nI 0) (nI 0) M (fun r1 M2 => (r1 = (nI 0) → w_X12_is (nI 6) (nI 115) (nI 97) (nI 109) (nI 112) M2 (fun r4 M5 => (r4 = (nI 0) → wj_X12_itemNow_65 M5 Q) ∧ (¬ r4 = (nI 0) → w_X12_look ((gi M5 0 17) + (nI 4)) M5 (fun r22 M23 => (r22 = (nI 108) → w_X12_look ((gi M23 0 17) + (nI 5)) M23 (fun r25 M26 => (r25 = (nI 101) → Q (nI 1) M26) ∧ (¬ r25 = (nI 101) → wj_X12_itemNow_65 M26 Q))) ∧ (¬ r22 = (nI 108) → wj_X12_itemNow_65 M23 Q))))) ∧ (¬ r1 = (nI 0) → Q (nI 0) M2))
set_option maxRecDepth 20000 in
theorem wk_X12_itemNow {M : wM} {Q : Int32 → wM → Prop} (h : w_X12_itemNow M Q) : aG 151 (aEn 151 [(.ref 0)] (mkM M)) (aPi mkM Q) := by
  unfold w_X12_itemNow at h
  refine aG_n 6 (s' := (8, [some (.ref 0)], [(.int (nI 0)), (.int (nI 0)), (.int (nI 100)), (.int (nI 105)), (.int (nI 2)), (.ref 0)], mkM M)) rfl ?_
  refine aG_call rfl rfl (aG_mono (wk_X12_is h) ?_)
  rintro _ ⟨r1, M2, rfl, h⟩
  refine aG_n 0 (s' := (11, [some (.ref 0)], [(.int r1)], mkM M2)) rfl ?_
  obtain ⟨h1, h2⟩ := h
  by_cases q3 : r1 = (nI 0)
  · have h := h1 q3
    refine aG_if (cd := .eq) (b := true) (decide_eq_true q3) rfl ?_
    refine aG_n 6 (s' := (27, [some (.ref 0)], [(.int (nI 112)), (.int (nI 109)), (.int (nI 97)), (.int (nI 115)), (.int (nI 6)), (.ref 0)], mkM M2)) rfl ?_
    refine aG_call rfl rfl (aG_mono (wk_X12_is h) ?_)
    rintro _ ⟨r4, M5, rfl, h⟩
    refine aG_n 0 (s' := (30, [some (.ref 0)], [(.int r4)], mkM M5)) rfl ?_
    obtain ⟨h1, h2⟩ := h
    by_cases q6 : r4 = (nI 0)
    · have h := h1 q6
      refine aG_if (cd := .eq) (b := true) (decide_eq_true q6) rfl ?_
      refine aG_n 0 (s' := (65, [some (.ref 0)], [], mkM M5)) rfl ?_
      refine aG_le (a := [some (.ref 0)]) ⟨rfl, trivial⟩ ?_
      exact wjk_X12_itemNow_65 h
    · have h := h2 q6
      refine aG_if (cd := .eq) (b := false) (decide_eq_false q6) rfl ?_
      refine aG_n 5 (s' := (40, [some (.ref 0)], [(.int ((gi M5 0 17) + (nI 4))), (.ref 0)], mkM M5)) rfl ?_
      refine aG_call rfl rfl (aG_mono (wk_X12_look h) ?_)
      rintro _ ⟨r22, M23, rfl, h⟩
      refine aG_n 1 (s' := (45, [some (.ref 0)], [(.int (nI 108)), (.int r22)], mkM M23)) rfl ?_
      obtain ⟨h1, h2⟩ := h
      by_cases q24 : r22 = (nI 108)
      · have h := h1 q24
        refine aG_icmp (cd := .ne) (b := false) (aTne0 q24) rfl ?_
        refine aG_n 5 (s' := (55, [some (.ref 0)], [(.int ((gi M23 0 17) + (nI 5))), (.ref 0)], mkM M23)) rfl ?_
        refine aG_call rfl rfl (aG_mono (wk_X12_look h) ?_)
        rintro _ ⟨r25, M26, rfl, h⟩
        refine aG_n 1 (s' := (60, [some (.ref 0)], [(.int (nI 101)), (.int r25)], mkM M26)) rfl ?_
        obtain ⟨h1, h2⟩ := h
        by_cases q27 : r25 = (nI 101)
        · have h := h1 q27
          refine aG_icmp (cd := .ne) (b := false) (aTne0 q27) rfl ?_
          refine aG_n 1 (s' := (64, [some (.ref 0)], [(.int (nI 1))], mkM M26)) rfl ?_
          exact aG_ret0 rfl rfl ⟨_, _, rfl, h⟩
        · have h := h2 q27
          refine aG_icmp (cd := .ne) (b := true) (aTne1 q27) rfl ?_
          refine aG_n 0 (s' := (65, [some (.ref 0)], [], mkM M26)) rfl ?_
          refine aG_le (a := [some (.ref 0)]) ⟨rfl, trivial⟩ ?_
          exact wjk_X12_itemNow_65 h
      · have h := h2 q24
        refine aG_icmp (cd := .ne) (b := true) (aTne1 q24) rfl ?_
        refine aG_n 0 (s' := (65, [some (.ref 0)], [], mkM M23)) rfl ?_
        refine aG_le (a := [some (.ref 0)]) ⟨rfl, trivial⟩ ?_
        exact wjk_X12_itemNow_65 h
  · have h := h2 q3
    refine aG_if (cd := .eq) (b := false) (decide_eq_false q3) rfl ?_
    refine aG_n 1 (s' := (15, [some (.ref 0)], [(.int (nI 0))], mkM M2)) rfl ?_
    exact aG_ret0 rfl rfl ⟨_, _, rfl, h⟩
def w_X12_path (x1 : Int32) (x2 : Int32) (x3 : Int32) (M : wM) (Q : Int32 → wM → Prop) : Prop := w_X12_in x1.toInt64 (lN 0) (lN 15) M (fun r1 M2 => (r1 = (nI 0) → Q (-1) M2) ∧ (¬ r1 = (nI 0) → w_X12_in x2.toInt64 (lN 0) (lN 15) M2 (fun r4 M5 => (r4 = (nI 0) → Q (-1) M5) ∧ (¬ r4 = (nI 0) → w_X12_in x3.toInt64 (lN 0) (lN 1) M5 (fun r7 M8 => (r7 = (nI 0) → Q (-1) M8) ∧ (¬ r7 = (nI 0) → w_X12_findPath x1 x2 M8 (fun M11 => (x3 = (nI 0) → Q (gi M11 0 36) M11) ∧ (¬ x3 = (nI 0) → Q (gi M11 0 37) M11))))))))
set_option maxRecDepth 20000 in
theorem wk_X12_path {x1 : Int32} {x2 : Int32} {x3 : Int32} {M : wM} {Q : Int32 → wM → Prop} (h : w_X12_path x1 x2 x3 M Q) : aG 152 (aEn 152 [(.ref 0), (.int x1), (.int x2), (.int x3)] (mkM M)) (aPi mkM Q) := by
  unfold w_X12_path at h
  refine aG_n 4 (s' := (6, [some (.ref 0), some (.int x1), some (.int x2), some (.int x3)], [(.long (lN 15)), (.long (lN 0)), (.long x1.toInt64)], mkM M)) rfl ?_
  refine aG_call rfl rfl (aG_mono (wk_X12_in h) ?_)
  rintro _ ⟨r1, M2, rfl, h⟩
  refine aG_n 0 (s' := (9, [some (.ref 0), some (.int x1), some (.int x2), some (.int x3)], [(.int r1)], mkM M2)) rfl ?_
  obtain ⟨h1, h2⟩ := h
  by_cases q3 : r1 = (nI 0)
  · have h := h1 q3
    refine aG_if (cd := .eq) (b := true) (decide_eq_true q3) rfl ?_
    refine aG_n 1 (s' := (35, [some (.ref 0), some (.int x1), some (.int x2), some (.int x3)], [(.int (-1))], mkM M2)) rfl ?_
    exact aG_ret0 rfl rfl ⟨_, _, rfl, h⟩
  · have h := h2 q3
    refine aG_if (cd := .eq) (b := false) (decide_eq_false q3) rfl ?_
    refine aG_n 4 (s' := (18, [some (.ref 0), some (.int x1), some (.int x2), some (.int x3)], [(.long (lN 15)), (.long (lN 0)), (.long x2.toInt64)], mkM M2)) rfl ?_
    refine aG_call rfl rfl (aG_mono (wk_X12_in h) ?_)
    rintro _ ⟨r4, M5, rfl, h⟩
    refine aG_n 0 (s' := (21, [some (.ref 0), some (.int x1), some (.int x2), some (.int x3)], [(.int r4)], mkM M5)) rfl ?_
    obtain ⟨h1, h2⟩ := h
    by_cases q6 : r4 = (nI 0)
    · have h := h1 q6
      refine aG_if (cd := .eq) (b := true) (decide_eq_true q6) rfl ?_
      refine aG_n 1 (s' := (35, [some (.ref 0), some (.int x1), some (.int x2), some (.int x3)], [(.int (-1))], mkM M5)) rfl ?_
      exact aG_ret0 rfl rfl ⟨_, _, rfl, h⟩
    · have h := h2 q6
      refine aG_if (cd := .eq) (b := false) (decide_eq_false q6) rfl ?_
      refine aG_n 4 (s' := (28, [some (.ref 0), some (.int x1), some (.int x2), some (.int x3)], [(.long (lN 1)), (.long (lN 0)), (.long x3.toInt64)], mkM M5)) rfl ?_
      refine aG_call rfl rfl (aG_mono (wk_X12_in h) ?_)
      rintro _ ⟨r7, M8, rfl, h⟩
      refine aG_n 0 (s' := (31, [some (.ref 0), some (.int x1), some (.int x2), some (.int x3)], [(.int r7)], mkM M8)) rfl ?_
      obtain ⟨h1, h2⟩ := h
      by_cases q9 : r7 = (nI 0)
      · have h := h1 q9
        refine aG_if (cd := .ne) (b := false) (aTne0 q9) rfl ?_
        refine aG_n 1 (s' := (35, [some (.ref 0), some (.int x1), some (.int x2), some (.int x3)], [(.int (-1))], mkM M8)) rfl ?_
        exact aG_ret0 rfl rfl ⟨_, _, rfl, h⟩
      · have h := h2 q9
        refine aG_if (cd := .ne) (b := true) (aTne1 q9) rfl ?_
        refine aG_n 3 (s' := (39, [some (.ref 0), some (.int x1), some (.int x2), some (.int x3)], [(.int x2), (.int x1), (.ref 0)], mkM M8)) rfl ?_
        refine aG_call rfl rfl (aG_mono (wk_X12_findPath h) ?_)
        rintro _ ⟨M11, rfl, h⟩
        refine aG_n 1 (s' := (43, [some (.ref 0), some (.int x1), some (.int x2), some (.int x3)], [(.int x3)], mkM M11)) rfl ?_
        obtain ⟨h1, h2⟩ := h
        by_cases q12 : x3 = (nI 0)
        · have h := h1 q12
          refine aG_if (cd := .ne) (b := false) (aTne0 q12) rfl ?_
          refine aG_n 3 (s' := (57, [some (.ref 0), some (.int x1), some (.int x2), some (.int x3)], [(.int (gi M11 0 36))], mkM M11)) rfl ?_
          exact aG_ret0 rfl rfl ⟨_, _, rfl, h⟩
        · have h := h2 q12
          refine aG_if (cd := .ne) (b := true) (aTne1 q12) rfl ?_
          refine aG_n 2 (s' := (57, [some (.ref 0), some (.int x1), some (.int x2), some (.int x3)], [(.int (gi M11 0 37))], mkM M11)) rfl ?_
          exact aG_ret0 rfl rfl ⟨_, _, rfl, h⟩
