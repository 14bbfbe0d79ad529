/-! methods as predicates, and their walks (by gen/wpgen.py) -/
def w_X12_join (x1 : Int32) (x2 : Int32) (x3 : Int32) (M : wM) (Q : Int32 → wM → Prop) : Prop := w_X12_isNet x1 M (fun r1 M2 => (r1 = (nI 0) → Q (-1) M2) ∧ (¬ r1 = (nI 0) → w_X12_isCell x2 x3 M2 (fun r4 M5 => (r4 = (nI 0) → Q (-1) M5) ∧ (¬ r4 = (nI 0) → vp_in (((nI 10) * x2) + x3) 60 ∧ (((gi M5 23 (((nI 10) * x2) + x3).toNatClampNeg) = (-4) → vp_in (((nI 10) * x2) + x3) 60 ∧ (w_X12_feetOn x1 (si M5 23 (((nI 10) * x2) + x3).toNatClampNeg x1) (fun r10 M11 => Q r10 M11))) ∧ (¬ (gi M5 23 (((nI 10) * x2) + x3).toNatClampNeg) = (-4) → Q (-2) M5))))))
set_option maxRecDepth 20000 in
theorem wk_X12_join {x1 : Int32} {x2 : Int32} {x3 : Int32} {M : wM} {Q : Int32 → wM → Prop} (h : w_X12_join x1 x2 x3 M Q) : aG 177 (aEn 177 [(.ref 0), (.int x1), (.int x2), (.int x3)] (mkM M)) (aPi mkM Q) := by
  unfold w_X12_join at h
  refine aG_n 2 (s' := (2, [some (.ref 0), some (.int x1), some (.int x2), some (.int x3)], [(.int x1), (.ref 0)], mkM M)) rfl ?_
  refine aG_call rfl rfl (aG_mono (wk_X12_isNet h) ?_)
  rintro _ ⟨r1, M2, rfl, h⟩
  refine aG_n 0 (s' := (5, [some (.ref 0), some (.int x1), some (.int x2), some (.int x3)], [(.int r1)], mkM M2)) rfl ?_
  obtain ⟨h1, h2⟩ := h
  by_cases q3 : r1 = (nI 0)
  · have h := h1 q3
    refine aG_if (cd := .eq) (b := true) (decide_eq_true q3) rfl ?_
    refine aG_n 1 (s' := (18, [some (.ref 0), some (.int x1), some (.int x2), some (.int x3)], [(.int (-1))], mkM M2)) rfl ?_
    exact aG_ret0 rfl rfl ⟨_, _, rfl, h⟩
  · have h := h2 q3
    refine aG_if (cd := .eq) (b := false) (decide_eq_false q3) rfl ?_
    refine aG_n 3 (s' := (11, [some (.ref 0), some (.int x1), some (.int x2), some (.int x3)], [(.int x3), (.int x2), (.ref 0)], mkM M2)) rfl ?_
    refine aG_call rfl rfl (aG_mono (wk_X12_isCell h) ?_)
    rintro _ ⟨r4, M5, rfl, h⟩
    refine aG_n 0 (s' := (14, [some (.ref 0), some (.int x1), some (.int x2), some (.int x3)], [(.int r4)], mkM M5)) rfl ?_
    obtain ⟨h1, h2⟩ := h
    by_cases q6 : r4 = (nI 0)
    · have h := h1 q6
      refine aG_if (cd := .ne) (b := false) (aTne0 q6) rfl ?_
      refine aG_n 1 (s' := (18, [some (.ref 0), some (.int x1), some (.int x2), some (.int x3)], [(.int (-1))], mkM M5)) rfl ?_
      exact aG_ret0 rfl rfl ⟨_, _, rfl, h⟩
    · have h := h2 q6
      refine aG_if (cd := .ne) (b := true) (aTne1 q6) rfl ?_
      refine aG_n 7 (s' := (29, [some (.ref 0), some (.int x1), some (.int x2), some (.int x3)], [(.int (((nI 10) * x2) + x3)), (.ref 23)], mkM M5)) rfl ?_
      obtain ⟨f7, h⟩ := h
      refine aG_iald rfl rfl rfl f7 ?_
      refine aG_n 1 (s' := (32, [some (.ref 0), some (.int x1), some (.int x2), some (.int x3)], [(.int (-4)), (.int (gi M5 23 (((nI 10) * x2) + x3).toNatClampNeg))], mkM M5)) rfl ?_
      obtain ⟨h1, h2⟩ := h
      by_cases q8 : (gi M5 23 (((nI 10) * x2) + x3).toNatClampNeg) = (-4)
      · have h := h1 q8
        refine aG_icmp (cd := .eq) (b := true) (decide_eq_true q8) rfl ?_
        refine aG_n 8 (s' := (49, [some (.ref 0), some (.int x1), some (.int x2), some (.int x3)], [(.int x1), (.int (((nI 10) * x2) + x3)), (.ref 23)], mkM M5)) rfl ?_
        obtain ⟨f9, h⟩ := h
        refine aG_iast rfl rfl f9 ?_
        refine aG_n 2 (s' := (52, [some (.ref 0), some (.int x1), some (.int x2), some (.int x3)], [(.int x1), (.ref 0)], mkM (si M5 23 (((nI 10) * x2) + x3).toNatClampNeg x1))) rfl ?_
        refine aG_call rfl rfl (aG_mono (wk_X12_feetOn h) ?_)
        rintro _ ⟨r10, M11, rfl, h⟩
        refine aG_n 0 (s' := (55, [some (.ref 0), some (.int x1), some (.int x2), some (.int x3)], [(.int r10)], mkM M11)) rfl ?_
        exact aG_ret0 rfl rfl ⟨_, _, rfl, h⟩
      · have h := h2 q8
        refine aG_icmp (cd := .eq) (b := false) (decide_eq_false q8) rfl ?_
        refine aG_n 1 (s' := (37, [some (.ref 0), some (.int x1), some (.int x2), some (.int x3)], [(.int (-2))], mkM M5)) rfl ?_
        exact aG_ret0 rfl rfl ⟨_, _, rfl, h⟩
def w_X12_open (x1 : Int32) (x2 : Int32) (x3 : Int32) (M : wM) (Q : Int32 → wM → Prop) : Prop := w_X12_isCell x1 x2 M (fun r1 M2 => (r1 = (nI 0) → Q (-1) M2) ∧ (¬ r1 = (nI 0) → vp_in x1 6 ∧ ((x3 = (nI 0) → vp_in x1 6 ∧ (vp_in x1 6 ∧ (Q ((jshr (gi M2 21 x1.toNatClampNeg) x2) &&& (nI 1)) (si M2 21 x1.toNatClampNeg ((gi M2 21 x1.toNatClampNeg) &&& ((jshl (nI 1) x2) ^^^ (-1))))))) ∧ (¬ x3 = (nI 0) → vp_in x1 6 ∧ (vp_in x1 6 ∧ (Q ((jshr (gi M2 21 x1.toNatClampNeg) x2) &&& (nI 1)) (si M2 21 x1.toNatClampNeg ((gi M2 21 x1.toNatClampNeg) ||| (jshl (nI 1) x2)))))))))
set_option maxRecDepth 20000 in
theorem wk_X12_open {x1 : Int32} {x2 : Int32} {x3 : Int32} {M : wM} {Q : Int32 → wM → Prop} (h : w_X12_open x1 x2 x3 M Q) : aG 178 (aEn 178 [(.ref 0), (.int x1), (.int x2), (.int x3)] (mkM M)) (aPi mkM Q) := by
  unfold w_X12_open at h
  refine aG_n 3 (s' := (3, [some (.ref 0), some (.int x1), some (.int x2), some (.int x3), none], [(.int x2), (.int x1), (.ref 0)], mkM M)) rfl ?_
  refine aG_call rfl rfl (aG_mono (wk_X12_isCell h) ?_)
  rintro _ ⟨r1, M2, rfl, h⟩
  refine aG_n 0 (s' := (6, [some (.ref 0), some (.int x1), some (.int x2), some (.int x3), none], [(.int r1)], mkM M2)) rfl ?_
  obtain ⟨h1, h2⟩ := h
  by_cases q3 : r1 = (nI 0)
  · have h := h1 q3
    refine aG_if (cd := .ne) (b := false) (aTne0 q3) rfl ?_
    refine aG_n 1 (s' := (10, [some (.ref 0), some (.int x1), some (.int x2), some (.int x3), none], [(.int (-1))], mkM M2)) rfl ?_
    exact aG_ret0 rfl rfl ⟨_, _, rfl, h⟩
  · have h := h2 q3
    refine aG_if (cd := .ne) (b := true) (aTne1 q3) rfl ?_
    refine aG_n 3 (s' := (16, [some (.ref 0), some (.int x1), some (.int x2), some (.int x3), none], [(.int x1), (.ref 21)], mkM M2)) rfl ?_
    obtain ⟨f4, h⟩ := h
    refine aG_iald rfl rfl rfl f4 ?_
    refine aG_n 9 (s' := (29, [some (.ref 0), some (.int x1), some (.int x2), some (.int x3), some (.int ((jshr (gi M2 21 x1.toNatClampNeg) x2) &&& (nI 1)))], [(.int x3), (.int x1), (.ref 21)], mkM M2)) rfl ?_
    obtain ⟨h1, h2⟩ := h
    by_cases q5 : x3 = (nI 0)
    · have h := h1 q5
      refine aG_if (cd := .eq) (b := true) (decide_eq_true q5) rfl ?_
      refine aG_n 3 (s' := (50, [some (.ref 0), some (.int x1), some (.int x2), some (.int x3), some (.int ((jshr (gi M2 21 x1.toNatClampNeg) x2) &&& (nI 1)))], [(.int x1), (.ref 21), (.int x1), (.ref 21)], mkM M2)) rfl ?_
      obtain ⟨f6, h⟩ := h
      refine aG_iald rfl rfl rfl f6 ?_
      refine aG_n 6 (s' := (57, [some (.ref 0), some (.int x1), some (.int x2), some (.int x3), some (.int ((jshr (gi M2 21 x1.toNatClampNeg) x2) &&& (nI 1)))], [(.int ((gi M2 21 x1.toNatClampNeg) &&& ((jshl (nI 1) x2) ^^^ (-1)))), (.int x1), (.ref 21)], mkM M2)) rfl ?_
      obtain ⟨f7, h⟩ := h
      refine aG_iast rfl rfl f7 ?_
      refine aG_n 1 (s' := (60, [some (.ref 0), some (.int x1), some (.int x2), some (.int x3), some (.int ((jshr (gi M2 21 x1.toNatClampNeg) x2) &&& (nI 1)))], [(.int ((jshr (gi M2 21 x1.toNatClampNeg) x2) &&& (nI 1)))], mkM (si M2 21 x1.toNatClampNeg ((gi M2 21 x1.toNatClampNeg) &&& ((jshl (nI 1) x2) ^^^ (-1)))))) rfl ?_
      exact aG_ret0 rfl rfl ⟨_, _, rfl, h⟩
    · have h := h2 q5
      refine aG_if (cd := .eq) (b := false) (decide_eq_false q5) rfl ?_
      refine aG_n 3 (s' := (37, [some (.ref 0), some (.int x1), some (.int x2), some (.int x3), some (.int ((jshr (gi M2 21 x1.toNatClampNeg) x2) &&& (nI 1)))], [(.int x1), (.ref 21), (.int x1), (.ref 21)], mkM M2)) rfl ?_
      obtain ⟨f8, h⟩ := h
      refine aG_iald rfl rfl rfl f8 ?_
      refine aG_n 5 (s' := (57, [some (.ref 0), some (.int x1), some (.int x2), some (.int x3), some (.int ((jshr (gi M2 21 x1.toNatClampNeg) x2) &&& (nI 1)))], [(.int ((gi M2 21 x1.toNatClampNeg) ||| (jshl (nI 1) x2))), (.int x1), (.ref 21)], mkM M2)) rfl ?_
      obtain ⟨f9, h⟩ := h
      refine aG_iast rfl rfl f9 ?_
      refine aG_n 1 (s' := (60, [some (.ref 0), some (.int x1), some (.int x2), some (.int x3), some (.int ((jshr (gi M2 21 x1.toNatClampNeg) x2) &&& (nI 1)))], [(.int ((jshr (gi M2 21 x1.toNatClampNeg) x2) &&& (nI 1)))], mkM (si M2 21 x1.toNatClampNeg ((gi M2 21 x1.toNatClampNeg) ||| (jshl (nI 1) x2))))) rfl ?_
      exact aG_ret0 rfl rfl ⟨_, _, rfl, h⟩
def w_X12_levelNow (x1 : Int32) (M : wM) (Q : Int32 → wM → Prop) : Prop := w_X12_findTogether 28 27 M (fun M2 => vp_in x1 8 ∧ (vp_in x1 8 ∧ (w_X12_allOwn M2 (fun r5 M6 => w_X12_levelBy (gi M2 29 x1.toNatClampNeg) (gi M2 30 x1.toNatClampNeg) r5 M6 (fun r7 M8 => Q r7 M8)))))
set_option maxRecDepth 20000 in
theorem wk_X12_levelNow {x1 : Int32} {M : wM} {Q : Int32 → wM → Prop} (h : w_X12_levelNow x1 M Q) : aG 179 (aEn 179 [(.ref 0), (.int x1)] (mkM M)) (aPi mkM Q) := by
  unfold w_X12_levelNow at h
  refine aG_n 5 (s' := (9, [some (.ref 0), some (.int x1)], [(.ref 27), (.ref 28), (.ref 0)], mkM M)) rfl ?_
  refine aG_call rfl rfl (aG_mono (wk_X12_findTogether h) ?_)
  rintro _ ⟨M2, rfl, h⟩
  refine aG_n 3 (s' := (17, [some (.ref 0), some (.int x1)], [(.int x1), (.ref 29)], mkM M2)) rfl ?_
  obtain ⟨f3, h⟩ := h
  refine aG_iald rfl rfl rfl f3 ?_
  refine aG_n 3 (s' := (23, [some (.ref 0), some (.int x1)], [(.int x1), (.ref 30), (.int (gi M2 29 x1.toNatClampNeg))], mkM M2)) rfl ?_
  obtain ⟨f4, h⟩ := h
  refine aG_iald rfl rfl rfl f4 ?_
  refine aG_n 1 (s' := (25, [some (.ref 0), some (.int x1)], [(.ref 0), (.int (gi M2 30 x1.toNatClampNeg)), (.int (gi M2 29 x1.toNatClampNeg))], mkM M2)) rfl ?_
  refine aG_call rfl rfl (aG_mono (wk_X12_allOwn h) ?_)
  rintro _ ⟨r5, M6, rfl, h⟩
  refine aG_n 0 (s' := (28, [some (.ref 0), some (.int x1)], [(.int r5), (.int (gi M2 30 x1.toNatClampNeg)), (.int (gi M2 29 x1.toNatClampNeg))], mkM M6)) rfl ?_
  refine aG_call rfl rfl (aG_mono (wk_X12_levelBy h) ?_)
  rintro _ ⟨r7, M8, rfl, h⟩
  refine aG_n 0 (s' := (31, [some (.ref 0), some (.int x1)], [(.int r7)], mkM M8)) rfl ?_
  exact aG_ret0 rfl rfl ⟨_, _, rfl, h⟩
def wb_X12_word_42 (z1 : Int32) (z2 : Int32) (K42 : Int32 → Int32 → wM → Prop) (y4 : Int32) (y5 : Int32) (M : wM) (Q : Int32 → wM → Prop) : Prop := w_X12_rowsOf z1 M (fun r11 M12 => (r11 ≤ y5 → Q y4 M12) ∧ (¬ r11 ≤ y5 → w_X12_rowAt z1 y5 M12 (fun r14 M15 => K42 (y4 ||| (jshl ((jshr r14 z2) &&& (nI 1)) y5)) (y5 + (nI 1)) M15)))
set_option maxRecDepth 20000 in
theorem wbk_X12_word_42 {z1 : Int32} {z2 : Int32} {K42 : Int32 → Int32 → wM → Prop} {y4 : Int32} {y5 : Int32} {M : wM} {Q : Int32 → wM → Prop} (hK42 : ∀ (v4 : Int32) (v5 : Int32) (M : wM), K42 v4 v5 M → aG 180 (42, [some (.ref 0), some (.int z1), some (.int z2), none, some (.int v4), some (.int v5)], [], mkM M) (aPi mkM Q)) (h : wb_X12_word_42 z1 z2 K42 y4 y5 M Q) : aG 180 (42, [some (.ref 0), some (.int z1), some (.int z2), none, some (.int y4), some (.int y5)], [], mkM M) (aPi mkM Q) := by
  unfold wb_X12_word_42 at h
  refine aG_n 3 (s' := (46, [some (.ref 0), some (.int z1), some (.int z2), none, some (.int y4), some (.int y5)], [(.int z1), (.ref 0), (.int y5)], mkM M)) rfl ?_
  refine aG_call rfl rfl (aG_mono (wk_X12_rowsOf h) ?_)
  rintro _ ⟨r11, M12, rfl, h⟩
  refine aG_n 0 (s' := (49, [some (.ref 0), some (.int z1), some (.int z2), none, some (.int y4), some (.int y5)], [(.int r11), (.int y5)], mkM M12)) rfl ?_
  obtain ⟨h1, h2⟩ := h
  by_cases q13 : r11 ≤ y5
  · have h := h1 q13
    refine aG_icmp (cd := .ge) (b := true) (decide_eq_true q13) rfl ?_
    refine aG_n 1 (s' := (79, [some (.ref 0), some (.int z1), some (.int z2), none, some (.int y4), some (.int y5)], [(.int y4)], mkM M12)) rfl ?_
    exact aG_ret0 rfl rfl ⟨_, _, rfl, h⟩
  · have h := h2 q13
    refine aG_icmp (cd := .ge) (b := false) (decide_eq_false q13) rfl ?_
    refine aG_n 4 (s' := (58, [some (.ref 0), some (.int z1), some (.int z2), none, some (.int y4), some (.int y5)], [(.int y5), (.int z1), (.ref 0), (.int y4)], mkM M12)) rfl ?_
    refine aG_call rfl rfl (aG_mono (wk_X12_rowAt h) ?_)
    rintro _ ⟨r14, M15, rfl, h⟩
    refine aG_n 10 (s' := (42, [some (.ref 0), some (.int z1), some (.int z2), none, some (.int (y4 ||| (jshl ((jshr r14 z2) &&& (nI 1)) y5))), some (.int (y5 + (nI 1)))], [], mkM M15)) rfl ?_
    refine aG_le (a := [some (.ref 0), some (.int z1), some (.int z2), none, some (.int (y4 ||| (jshl ((jshr r14 z2) &&& (nI 1)) y5))), some (.int (y5 + (nI 1)))]) ⟨rfl, ⟨rfl, ⟨rfl, ⟨rfl, ⟨rfl, trivial⟩⟩⟩⟩⟩ ?_
    exact hK42 _ _ _ h
def wL_X12_word_42 (z1 : Int32) (z2 : Int32) (Q : Int32 → wM → Prop) : Nat → Int32 → Int32 → wM → Prop
  | 0, _, _, _ => False
  | n + 1, y4, y5, M => wb_X12_word_42 z1 z2 (wL_X12_word_42 z1 z2 Q n) y4 y5 M Q
set_option maxRecDepth 20000 in
theorem wLk_X12_word_42 {z1 : Int32} {z2 : Int32} {Q : Int32 → wM → Prop} : ∀ (n : Nat) (y4 : Int32) (y5 : Int32) (M : wM), wL_X12_word_42 z1 z2 Q n y4 y5 M → aG 180 (42, [some (.ref 0), some (.int z1), some (.int z2), none, some (.int y4), some (.int y5)], [], mkM M) (aPi mkM Q)
  | 0, _, _, _, h => h.elim
  | n + 1, y4, y5, M, h => wbk_X12_word_42 (fun y4 y5 M h => wLk_X12_word_42 n y4 y5 M h) h
def w_X12_word (x1 : Int32) (x2 : Int32) (x3 : Int32) (M : wM) (Q : Int32 → wM → Prop) : Prop := w_X12_in x1.toInt64 (lN 0) (lN 2) M (fun r1 M2 => (r1 = (nI 0) → Q (-1) M2) ∧ (¬ r1 = (nI 0) → w_X12_isNet x2 M2 (fun r4 M5 => (r4 = (nI 0) → Q (-1) M5) ∧ (¬ r4 = (nI 0) → w_X12_in x3.toInt64 (lN 0) (lN 1) M5 (fun r7 M8 => (r7 = (nI 0) → Q (-1) M8) ∧ (¬ r7 = (nI 0) → (x3 = (nI 0) → ∃ n, wL_X12_word_42 x1 x2 Q n (nI 0) (nI 0) M8) ∧ (¬ x3 = (nI 0) → w_X12_findTogether 28 27 M8 (fun M17 => w_X12_answerNow x1 x2 M17 (fun r18 M19 => Q r18 M19)))))))))
set_option maxRecDepth 20000 in
theorem wk_X12_word {x1 : Int32} {x2 : Int32} {x3 : Int32} {M : wM} {Q : Int32 → wM → Prop} (h : w_X12_word x1 x2 x3 M Q) : aG 180 (aEn 180 [(.ref 0), (.int x1), (.int x2), (.int x3)] (mkM M)) (aPi mkM Q) := by
  unfold w_X12_word at h
  refine aG_n 4 (s' := (6, [some (.ref 0), some (.int x1), some (.int x2), some (.int x3), none, none], [(.long (lN 2)), (.long (lN 0)), (.long x1.toInt64)], mkM M)) rfl ?_
  refine aG_call rfl rfl (aG_mono (wk_X12_in h) ?_)
  rintro _ ⟨r1, M2, rfl, h⟩
  refine aG_n 0 (s' := (9, [some (.ref 0), some (.int x1), some (.int x2), some (.int x3), none, none], [(.int r1)], mkM M2)) rfl ?_
  obtain ⟨h1, h2⟩ := h
  by_cases q3 : r1 = (nI 0)
  · have h := h1 q3
    refine aG_if (cd := .eq) (b := true) (decide_eq_true q3) rfl ?_
    refine aG_n 1 (s' := (31, [some (.ref 0), some (.int x1), some (.int x2), some (.int x3), none, none], [(.int (-1))], mkM M2)) rfl ?_
    exact aG_ret0 rfl rfl ⟨_, _, rfl, h⟩
  · have h := h2 q3
    refine aG_if (cd := .eq) (b := false) (decide_eq_false q3) rfl ?_
    refine aG_n 2 (s' := (14, [some (.ref 0), some (.int x1), some (.int x2), some (.int x3), none, none], [(.int x2), (.ref 0)], mkM M2)) rfl ?_
    refine aG_call rfl rfl (aG_mono (wk_X12_isNet h) ?_)
    rintro _ ⟨r4, M5, rfl, h⟩
    refine aG_n 0 (s' := (17, [some (.ref 0), some (.int x1), some (.int x2), some (.int x3), none, none], [(.int r4)], mkM M5)) rfl ?_
    obtain ⟨h1, h2⟩ := h
    by_cases q6 : r4 = (nI 0)
    · have h := h1 q6
      refine aG_if (cd := .eq) (b := true) (decide_eq_true q6) rfl ?_
      refine aG_n 1 (s' := (31, [some (.ref 0), some (.int x1), some (.int x2), some (.int x3), none, none], [(.int (-1))], mkM M5)) rfl ?_
      exact aG_ret0 rfl rfl ⟨_, _, rfl, h⟩
    · have h := h2 q6
      refine aG_if (cd := .eq) (b := false) (decide_eq_false q6) rfl ?_
      refine aG_n 4 (s' := (24, [some (.ref 0), some (.int x1), some (.int x2), some (.int x3), none, none], [(.long (lN 1)), (.long (lN 0)), (.long x3.toInt64)], mkM M5)) rfl ?_
      refine aG_call rfl rfl (aG_mono (wk_X12_in h) ?_)
      rintro _ ⟨r7, M8, rfl, h⟩
      refine aG_n 0 (s' := (27, [some (.ref 0), some (.int x1), some (.int x2), some (.int x3), none, none], [(.int r7)], mkM M8)) rfl ?_
      obtain ⟨h1, h2⟩ := h
      by_cases q9 : r7 = (nI 0)
      · have h := h1 q9
        refine aG_if (cd := .ne) (b := false) (aTne0 q9) rfl ?_
        refine aG_n 1 (s' := (31, [some (.ref 0), some (.int x1), some (.int x2), some (.int x3), none, none], [(.int (-1))], mkM M8)) rfl ?_
        exact aG_ret0 rfl rfl ⟨_, _, rfl, h⟩
      · have h := h2 q9
        refine aG_if (cd := .ne) (b := true) (aTne1 q9) rfl ?_
        refine aG_n 1 (s' := (33, [some (.ref 0), some (.int x1), some (.int x2), some (.int x3), none, none], [(.int x3)], mkM M8)) rfl ?_
        obtain ⟨h1, h2⟩ := h
        by_cases q10 : x3 = (nI 0)
        · have h := h1 q10
          refine aG_if (cd := .ne) (b := false) (aTne0 q10) rfl ?_
          refine aG_n 4 (s' := (42, [some (.ref 0), some (.int x1), some (.int x2), some (.int x3), some (.int (nI 0)), some (.int (nI 0))], [], mkM M8)) rfl ?_
          refine aG_le (a := [some (.ref 0), some (.int x1), some (.int x2), none, some (.int (nI 0)), some (.int (nI 0))]) ⟨rfl, ⟨rfl, ⟨rfl, ⟨rfl, ⟨rfl, trivial⟩⟩⟩⟩⟩ ?_
          obtain ⟨n, h⟩ := h
          exact wLk_X12_word_42 n _ _ _ h
        · have h := h2 q10
          refine aG_if (cd := .ne) (b := true) (aTne1 q10) rfl ?_
          refine aG_n 5 (s' := (89, [some (.ref 0), some (.int x1), some (.int x2), some (.int x3), none, none], [(.ref 27), (.ref 28), (.ref 0)], mkM M8)) rfl ?_
          refine aG_call rfl rfl (aG_mono (wk_X12_findTogether h) ?_)
          rintro _ ⟨M17, rfl, h⟩
          refine aG_n 3 (s' := (95, [some (.ref 0), some (.int x1), some (.int x2), some (.int x3), none, none], [(.int x2), (.int x1), (.ref 0)], mkM M17)) rfl ?_
          refine aG_call rfl rfl (aG_mono (wk_X12_answerNow h) ?_)
          rintro _ ⟨r18, M19, rfl, h⟩
          refine aG_n 0 (s' := (98, [some (.ref 0), some (.int x1), some (.int x2), some (.int x3), none, none], [(.int r18)], mkM M19)) rfl ?_
          exact aG_ret0 rfl rfl ⟨_, _, rfl, h⟩
def wj_X12_answer_87 (z1 : Int32) (z2 : Int32) (z3 : Int32) (z4 : Int32) (s0 : Int32) (M : wM) (Q : Int32 → wM → Prop) : Prop := (s0 = (nI 0) → Q (-1) M) ∧ (¬ s0 = (nI 0) → w_X12_guesses z3 z4 M (fun M6 => w_X12_answerNow z1 z2 M6 (fun r7 M8 => Q r7 M8)))
set_option maxRecDepth 20000 in
theorem wjk_X12_answer_87 {z1 : Int32} {z2 : Int32} {z3 : Int32} {z4 : Int32} {s0 : Int32} {M : wM} {Q : Int32 → wM → Prop} (h : wj_X12_answer_87 z1 z2 z3 z4 s0 M Q) : aG 181 (87, [some (.ref 0), some (.int z1), some (.int z2), some (.int z3), some (.int z4), none], [(.int s0)], mkM M) (aPi mkM Q) := by
  unfold wj_X12_answer_87 at h
  refine aG_n 2 (s' := (91, [some (.ref 0), some (.int z1), some (.int z2), some (.int z3), some (.int z4), some (.int s0)], [(.int s0)], mkM M)) rfl ?_
  obtain ⟨h1, h2⟩ := h
  by_cases q4 : s0 = (nI 0)
  · have h := h1 q4
    refine aG_if (cd := .ne) (b := false) (aTne0 q4) rfl ?_
    refine aG_n 1 (s' := (95, [some (.ref 0), some (.int z1), some (.int z2), some (.int z3), some (.int z4), some (.int s0)], [(.int (-1))], mkM M)) rfl ?_
    exact aG_ret0 rfl rfl ⟨_, _, rfl, h⟩
  · have h := h2 q4
    refine aG_if (cd := .ne) (b := true) (aTne1 q4) rfl ?_
    refine aG_n 3 (s' := (100, [some (.ref 0), some (.int z1), some (.int z2), some (.int z3), some (.int z4), some (.int s0)], [(.int z4), (.int z3), (.ref 0)], mkM M)) rfl ?_
    refine aG_call rfl rfl (aG_mono (wk_X12_guesses h) ?_)
    rintro _ ⟨M6, rfl, h⟩
    refine aG_n 3 (s' := (106, [some (.ref 0), some (.int z1), some (.int z2), some (.int z3), some (.int z4), some (.int s0)], [(.int z2), (.int z1), (.ref 0)], mkM M6)) rfl ?_
    refine aG_call rfl rfl (aG_mono (wk_X12_answerNow h) ?_)
    rintro _ ⟨r7, M8, rfl, h⟩
    refine aG_n 0 (s' := (109, [some (.ref 0), some (.int z1), some (.int z2), some (.int z3), some (.int z4), some (.int s0)], [(.int r7)], mkM M8)) rfl ?_
    exact aG_ret0 rfl rfl ⟨_, _, rfl, h⟩
def w_X12_answer (x1 : Int32) (x2 : Int32) (x3 : Int32) (x4 : Int32) (M : wM) (Q : Int32 → wM → Prop) : Prop := w_X12_in x1.toInt64 (lN 0) (lN 2) M (fun r1 M2 => (r1 = (nI 0) → wj_X12_answer_87 x1 x2 x3 x4 (nI 0) M2 Q) ∧ (¬ r1 = (nI 0) → w_X12_isNet x2 M2 (fun r9 M10 => (r9 = (nI 0) → wj_X12_answer_87 x1 x2 x3 x4 (nI 0) M10 Q) ∧ (¬ r9 = (nI 0) → (x3 = (-4) → (x4 = (-4) → wj_X12_answer_87 x1 x2 x3 x4 (nI 1) M10 Q) ∧ (¬ x4 = (-4) → wj_X12_answer_87 x1 x2 x3 x4 (nI 0) M10 Q)) ∧ (¬ x3 = (-4) → w_X12_faults M10 (fun r14 M15 => w_X12_in x3.toInt64 (lN 0) (r14 - (nI 1)).toInt64 M15 (fun r16 M17 => (r16 = (nI 0) → wj_X12_answer_87 x1 x2 x3 x4 (nI 0) M17 Q) ∧ (¬ r16 = (nI 0) → (x4 = (-4) → wj_X12_answer_87 x1 x2 x3 x4 (nI 1) M17 Q) ∧ (¬ x4 = (-4) → w_X12_faults M17 (fun r20 M21 => w_X12_in x4.toInt64 (lN 0) (r20 - (nI 1)).toInt64 M21 (fun r22 M23 => (r22 = (nI 0) → wj_X12_answer_87 x1 x2 x3 x4 (nI 0) M23 Q) ∧ (¬ r22 = (nI 0) → (x4 = x3 → wj_X12_answer_87 x1 x2 x3 x4 (nI 0) M23 Q) ∧ (¬ x4 = x3 → wj_X12_answer_87 x1 x2 x3 x4 (nI 1) M23 Q)))))))))))))
set_option maxRecDepth 20000 in
theorem wk_X12_answer {x1 : Int32} {x2 : Int32} {x3 : Int32} {x4 : Int32} {M : wM} {Q : Int32 → wM → Prop} (h : w_X12_answer x1 x2 x3 x4 M Q) : aG 181 (aEn 181 [(.ref 0), (.int x1), (.int x2), (.int x3), (.int x4)] (mkM M)) (aPi mkM Q) := by
  unfold w_X12_answer at h
  refine aG_n 4 (s' := (6, [some (.ref 0), some (.int x1), some (.int x2), some (.int x3), some (.int x4), none], [(.long (lN 2)), (.long (lN 0)), (.long x1.toInt64)], mkM M)) rfl ?_
  refine aG_call rfl rfl (aG_mono (wk_X12_in h) ?_)
  rintro _ ⟨r1, M2, rfl, h⟩
  refine aG_n 0 (s' := (9, [some (.ref 0), some (.int x1), some (.int x2), some (.int x3), some (.int x4), none], [(.int r1)], mkM M2)) rfl ?_
  obtain ⟨h1, h2⟩ := h
  by_cases q3 : r1 = (nI 0)
  · have h := h1 q3
    refine aG_if (cd := .eq) (b := true) (decide_eq_true q3) rfl ?_
    refine aG_n 1 (s' := (87, [some (.ref 0), some (.int x1), some (.int x2), some (.int x3), some (.int x4), none], [(.int (nI 0))], mkM M2)) rfl ?_
    refine aG_le (a := [some (.ref 0), some (.int x1), some (.int x2), some (.int x3), some (.int x4), none]) ⟨rfl, ⟨rfl, ⟨rfl, ⟨rfl, ⟨rfl, trivial⟩⟩⟩⟩⟩ ?_
    exact wjk_X12_answer_87 h
  · have h := h2 q3
    refine aG_if (cd := .eq) (b := false) (decide_eq_false q3) rfl ?_
    refine aG_n 2 (s' := (14, [some (.ref 0), some (.int x1), some (.int x2), some (.int x3), some (.int x4), none], [(.int x2), (.ref 0)], mkM M2)) rfl ?_
    refine aG_call rfl rfl (aG_mono (wk_X12_isNet h) ?_)
    rintro _ ⟨r9, M10, rfl, h⟩
    refine aG_n 0 (s' := (17, [some (.ref 0), some (.int x1), some (.int x2), some (.int x3), some (.int x4), none], [(.int r9)], mkM M10)) rfl ?_
    obtain ⟨h1, h2⟩ := h
    by_cases q11 : r9 = (nI 0)
    · have h := h1 q11
      refine aG_if (cd := .eq) (b := true) (decide_eq_true q11) rfl ?_
      refine aG_n 1 (s' := (87, [some (.ref 0), some (.int x1), some (.int x2), some (.int x3), some (.int x4), none], [(.int (nI 0))], mkM M10)) rfl ?_
      refine aG_le (a := [some (.ref 0), some (.int x1), some (.int x2), some (.int x3), some (.int x4), none]) ⟨rfl, ⟨rfl, ⟨rfl, ⟨rfl, ⟨rfl, trivial⟩⟩⟩⟩⟩ ?_
      exact wjk_X12_answer_87 h
    · have h := h2 q11
      refine aG_if (cd := .eq) (b := false) (decide_eq_false q11) rfl ?_
      refine aG_n 2 (s' := (23, [some (.ref 0), some (.int x1), some (.int x2), some (.int x3), some (.int x4), none], [(.int (-4)), (.int x3)], mkM M10)) rfl ?_
      obtain ⟨h1, h2⟩ := h
      by_cases q12 : x3 = (-4)
      · have h := h1 q12
        refine aG_icmp (cd := .ne) (b := false) (aTne0 q12) rfl ?_
        refine aG_n 2 (s' := (30, [some (.ref 0), some (.int x1), some (.int x2), some (.int x3), some (.int x4), none], [(.int (-4)), (.int x4)], mkM M10)) rfl ?_
        obtain ⟨h1, h2⟩ := h
        by_cases q13 : x4 = (-4)
        · have h := h1 q13
          refine aG_icmp (cd := .ne) (b := false) (aTne0 q13) rfl ?_
          refine aG_n 3 (s' := (87, [some (.ref 0), some (.int x1), some (.int x2), some (.int x3), some (.int x4), none], [(.int (nI 1))], mkM M10)) rfl ?_
          refine aG_le (a := [some (.ref 0), some (.int x1), some (.int x2), some (.int x3), some (.int x4), none]) ⟨rfl, ⟨rfl, ⟨rfl, ⟨rfl, ⟨rfl, trivial⟩⟩⟩⟩⟩ ?_
          exact wjk_X12_answer_87 h
        · have h := h2 q13
          refine aG_icmp (cd := .ne) (b := true) (aTne1 q13) rfl ?_
          refine aG_n 1 (s' := (87, [some (.ref 0), some (.int x1), some (.int x2), some (.int x3), some (.int x4), none], [(.int (nI 0))], mkM M10)) rfl ?_
          refine aG_le (a := [some (.ref 0), some (.int x1), some (.int x2), some (.int x3), some (.int x4), none]) ⟨rfl, ⟨rfl, ⟨rfl, ⟨rfl, ⟨rfl, trivial⟩⟩⟩⟩⟩ ?_
          exact wjk_X12_answer_87 h
      · have h := h2 q12
        refine aG_icmp (cd := .ne) (b := true) (aTne1 q12) rfl ?_
        refine aG_n 4 (s' := (40, [some (.ref 0), some (.int x1), some (.int x2), some (.int x3), some (.int x4), none], [(.ref 0), (.long (lN 0)), (.long x3.toInt64)], mkM M10)) rfl ?_
        refine aG_call rfl rfl (aG_mono (wk_X12_faults h) ?_)
        rintro _ ⟨r14, M15, rfl, h⟩
        refine aG_n 3 (s' := (46, [some (.ref 0), some (.int x1), some (.int x2), some (.int x3), some (.int x4), none], [(.long (r14 - (nI 1)).toInt64), (.long (lN 0)), (.long x3.toInt64)], mkM M15)) rfl ?_
        refine aG_call rfl rfl (aG_mono (wk_X12_in h) ?_)
        rintro _ ⟨r16, M17, rfl, h⟩
        refine aG_n 0 (s' := (49, [some (.ref 0), some (.int x1), some (.int x2), some (.int x3), some (.int x4), none], [(.int r16)], mkM M17)) rfl ?_
        obtain ⟨h1, h2⟩ := h
        by_cases q18 : r16 = (nI 0)
        · have h := h1 q18
          refine aG_if (cd := .eq) (b := true) (decide_eq_true q18) rfl ?_
          refine aG_n 1 (s' := (87, [some (.ref 0), some (.int x1), some (.int x2), some (.int x3), some (.int x4), none], [(.int (nI 0))], mkM M17)) rfl ?_
          refine aG_le (a := [some (.ref 0), some (.int x1), some (.int x2), some (.int x3), some (.int x4), none]) ⟨rfl, ⟨rfl, ⟨rfl, ⟨rfl, ⟨rfl, trivial⟩⟩⟩⟩⟩ ?_
          exact wjk_X12_answer_87 h
        · have h := h2 q18
          refine aG_if (cd := .eq) (b := false) (decide_eq_false q18) rfl ?_
          refine aG_n 2 (s' := (56, [some (.ref 0), some (.int x1), some (.int x2), some (.int x3), some (.int x4), none], [(.int (-4)), (.int x4)], mkM M17)) rfl ?_
          obtain ⟨h1, h2⟩ := h
          by_cases q19 : x4 = (-4)
          · have h := h1 q19
            refine aG_icmp (cd := .eq) (b := true) (decide_eq_true q19) rfl ?_
            refine aG_n 2 (s' := (87, [some (.ref 0), some (.int x1), some (.int x2), some (.int x3), some (.int x4), none], [(.int (nI 1))], mkM M17)) rfl ?_
            refine aG_le (a := [some (.ref 0), some (.int x1), some (.int x2), some (.int x3), some (.int x4), none]) ⟨rfl, ⟨rfl, ⟨rfl, ⟨rfl, ⟨rfl, trivial⟩⟩⟩⟩⟩ ?_
            exact wjk_X12_answer_87 h
          · have h := h2 q19
            refine aG_icmp (cd := .eq) (b := false) (decide_eq_false q19) rfl ?_
            refine aG_n 4 (s' := (64, [some (.ref 0), some (.int x1), some (.int x2), some (.int x3), some (.int x4), none], [(.ref 0), (.long (lN 0)), (.long x4.toInt64)], mkM M17)) rfl ?_
            refine aG_call rfl rfl (aG_mono (wk_X12_faults h) ?_)
            rintro _ ⟨r20, M21, rfl, h⟩
            refine aG_n 3 (s' := (70, [some (.ref 0), some (.int x1), some (.int x2), some (.int x3), some (.int x4), none], [(.long (r20 - (nI 1)).toInt64), (.long (lN 0)), (.long x4.toInt64)], mkM M21)) rfl ?_
            refine aG_call rfl rfl (aG_mono (wk_X12_in h) ?_)
            rintro _ ⟨r22, M23, rfl, h⟩
            refine aG_n 0 (s' := (73, [some (.ref 0), some (.int x1), some (.int x2), some (.int x3), some (.int x4), none], [(.int r22)], mkM M23)) rfl ?_
            obtain ⟨h1, h2⟩ := h
            by_cases q24 : r22 = (nI 0)
            · have h := h1 q24
              refine aG_if (cd := .eq) (b := true) (decide_eq_true q24) rfl ?_
              refine aG_n 1 (s' := (87, [some (.ref 0), some (.int x1), some (.int x2), some (.int x3), some (.int x4), none], [(.int (nI 0))], mkM M23)) rfl ?_
              refine aG_le (a := [some (.ref 0), some (.int x1), some (.int x2), some (.int x3), some (.int x4), none]) ⟨rfl, ⟨rfl, ⟨rfl, ⟨rfl, ⟨rfl, trivial⟩⟩⟩⟩⟩ ?_
              exact wjk_X12_answer_87 h
            · have h := h2 q24
              refine aG_if (cd := .eq) (b := false) (decide_eq_false q24) rfl ?_
              refine aG_n 2 (s' := (79, [some (.ref 0), some (.int x1), some (.int x2), some (.int x3), some (.int x4), none], [(.int x3), (.int x4)], mkM M23)) rfl ?_
              obtain ⟨h1, h2⟩ := h
              by_cases q25 : x4 = x3
              · have h := h1 q25
                refine aG_icmp (cd := .eq) (b := true) (decide_eq_true q25) rfl ?_
                refine aG_n 1 (s' := (87, [some (.ref 0), some (.int x1), some (.int x2), some (.int x3), some (.int x4), none], [(.int (nI 0))], mkM M23)) rfl ?_
                refine aG_le (a := [some (.ref 0), some (.int x1), some (.int x2), some (.int x3), some (.int x4), none]) ⟨rfl, ⟨rfl, ⟨rfl, ⟨rfl, ⟨rfl, trivial⟩⟩⟩⟩⟩ ?_
                exact wjk_X12_answer_87 h
              · have h := h2 q25
                refine aG_icmp (cd := .eq) (b := false) (decide_eq_false q25) rfl ?_
                refine aG_n 2 (s' := (87, [some (.ref 0), some (.int x1), some (.int x2), some (.int x3), some (.int x4), none], [(.int (nI 1))], mkM M23)) rfl ?_
                refine aG_le (a := [some (.ref 0), some (.int x1), some (.int x2), some (.int x3), some (.int x4), none]) ⟨rfl, ⟨rfl, ⟨rfl, ⟨rfl, ⟨rfl, trivial⟩⟩⟩⟩⟩ ?_
                exact wjk_X12_answer_87 h
def wb_X12_tries_84 (K84 : Int32 → wM → Prop) (y5 : Int32) (M : wM) (Q : wM → Prop) : Prop := ((gi M 0 41) ≤ y5 → Q (si M 0 48 ((gi M 0 48) + (nI 1)))) ∧ (¬ (gi M 0 41) ≤ y5 → vp_in y5 8 ∧ (vp_in (((nI 8) * (gi M 0 48)) + y5) 20800 ∧ (vp_in y5 8 ∧ (vp_in (((nI 8) * (gi M 0 48)) + y5) 20800 ∧ (K84 (y5 + (nI 1)) (si (si M 35 (((nI 8) * (gi M 0 48)) + y5).toNatClampNeg (gi M 29 y5.toNatClampNeg)) 36 (((nI 8) * (gi M 0 48)) + y5).toNatClampNeg (gi M 30 y5.toNatClampNeg)))))))
set_option maxRecDepth 20000 in
theorem wbk_X12_tries_84 {K84 : Int32 → wM → Prop} {y5 : Int32} {M : wM} {Q : wM → Prop} (hK84 : ∀ (v5 : Int32) (M : wM), K84 v5 M → aG 182 (84, [some (.ref 0), none, none, none, none, some (.int v5)], [], mkM M) (aPv mkM Q)) (h : wb_X12_tries_84 K84 y5 M Q) : aG 182 (84, [some (.ref 0), none, none, none, none, some (.int y5)], [], mkM M) (aPv mkM Q) := by
  unfold wb_X12_tries_84 at h
  refine aG_n 3 (s' := (90, [some (.ref 0), none, none, none, none, some (.int y5)], [(.int (gi M 0 41)), (.int y5)], mkM M)) rfl ?_
  obtain ⟨h1, h2⟩ := h
  by_cases q7 : (gi M 0 41) ≤ y5
  · have h := h1 q7
    refine aG_icmp (cd := .ge) (b := true) (decide_eq_true q7) rfl ?_
    refine aG_n 6 (s' := (153, [some (.ref 0), none, none, none, none, some (.int y5)], [], mkM (si M 0 48 ((gi M 0 48) + (nI 1))))) rfl ?_
    exact aG_retV rfl rfl ⟨_, rfl, h⟩
  · have h := h2 q7
    refine aG_icmp (cd := .ge) (b := false) (decide_eq_false q7) rfl ?_
    refine aG_n 11 (s' := (113, [some (.ref 0), none, none, none, none, some (.int y5)], [(.int y5), (.ref 29), (.int (((nI 8) * (gi M 0 48)) + y5)), (.ref 35)], mkM M)) rfl ?_
    obtain ⟨f8, h⟩ := h
    refine aG_iald rfl rfl rfl f8 ?_
    refine aG_n 0 (s' := (114, [some (.ref 0), none, none, none, none, some (.int y5)], [(.int (gi M 29 y5.toNatClampNeg)), (.int (((nI 8) * (gi M 0 48)) + y5)), (.ref 35)], mkM M)) rfl ?_
    obtain ⟨f9, h⟩ := h
    refine aG_iast rfl rfl f9 ?_
    refine aG_n 11 (s' := (135, [some (.ref 0), none, none, none, none, some (.int y5)], [(.int y5), (.ref 30), (.int (((nI 8) * (gi M 0 48)) + y5)), (.ref 36)], mkM (si M 35 (((nI 8) * (gi M 0 48)) + y5).toNatClampNeg (gi M 29 y5.toNatClampNeg)))) rfl ?_
    obtain ⟨f10, h⟩ := h
    refine aG_iald rfl rfl rfl f10 ?_
    refine aG_n 0 (s' := (136, [some (.ref 0), none, none, none, none, some (.int y5)], [(.int (gi M 30 y5.toNatClampNeg)), (.int (((nI 8) * (gi M 0 48)) + y5)), (.ref 36)], mkM (si M 35 (((nI 8) * (gi M 0 48)) + y5).toNatClampNeg (gi M 29 y5.toNatClampNeg)))) rfl ?_
    obtain ⟨f11, h⟩ := h
    refine aG_iast rfl rfl f11 ?_
    refine aG_n 2 (s' := (84, [some (.ref 0), none, none, none, none, some (.int (y5 + (nI 1)))], [], mkM (si (si M 35 (((nI 8) * (gi M 0 48)) + y5).toNatClampNeg (gi M 29 y5.toNatClampNeg)) 36 (((nI 8) * (gi M 0 48)) + y5).toNatClampNeg (gi M 30 y5.toNatClampNeg)))) rfl ?_
    refine aG_le (a := [some (.ref 0), none, none, none, none, some (.int (y5 + (nI 1)))]) ⟨rfl, ⟨rfl, trivial⟩⟩ ?_
    exact hK84 _ _ h
def wL_X12_tries_84 (Q : wM → Prop) : Nat → Int32 → wM → Prop
  | 0, _, _ => False
  | n + 1, y5, M => wb_X12_tries_84 (wL_X12_tries_84 Q n) y5 M Q
set_option maxRecDepth 20000 in
theorem wLk_X12_tries_84 {Q : wM → Prop} : ∀ (n : Nat) (y5 : Int32) (M : wM), wL_X12_tries_84 Q n y5 M → aG 182 (84, [some (.ref 0), none, none, none, none, some (.int y5)], [], mkM M) (aPv mkM Q)
  | 0, _, _, h => h.elim
  | n + 1, y5, M, h => wbk_X12_tries_84 (fun y5 M h => wLk_X12_tries_84 n y5 M h) h
def wj_X12_tries_56 (z2 : Int32) (z3 : Int32) (z4 : Int32) (M : wM) (Q : wM → Prop) : Prop := (z4 = (nI 0) → Q M) ∧ (¬ z4 = (nI 0) → vp_in (gi M 0 48) 2600 ∧ (vp_in (gi M 0 48) 2600 ∧ (∃ n, wL_X12_tries_84 Q n (nI 0) (si (si M 33 (gi M 0 48).toNatClampNeg z2) 34 (gi M 0 48).toNatClampNeg z3))))
set_option maxRecDepth 20000 in
theorem wjk_X12_tries_56 {z2 : Int32} {z3 : Int32} {z4 : Int32} {M : wM} {Q : wM → Prop} (h : wj_X12_tries_56 z2 z3 z4 M Q) : aG 182 (56, [some (.ref 0), none, some (.int z2), some (.int z3), some (.int z4), none], [], mkM M) (aPv mkM Q) := by
  unfold wj_X12_tries_56 at h
  refine aG_n 1 (s' := (58, [some (.ref 0), none, some (.int z2), some (.int z3), some (.int z4), none], [(.int z4)], mkM M)) rfl ?_
  obtain ⟨h1, h2⟩ := h
  by_cases q4 : z4 = (nI 0)
  · have h := h1 q4
    refine aG_if (cd := .eq) (b := true) (decide_eq_true q4) rfl ?_
    refine aG_n 0 (s' := (153, [some (.ref 0), none, some (.int z2), some (.int z3), some (.int z4), none], [], mkM M)) rfl ?_
    exact aG_retV rfl rfl ⟨_, rfl, h⟩
  · have h := h2 q4
    refine aG_if (cd := .eq) (b := false) (decide_eq_false q4) rfl ?_
    refine aG_n 5 (s' := (70, [some (.ref 0), none, some (.int z2), some (.int z3), some (.int z4), none], [(.int z2), (.int (gi M 0 48)), (.ref 33)], mkM M)) rfl ?_
    obtain ⟨f5, h⟩ := h
    refine aG_iast rfl rfl f5 ?_
    refine aG_n 5 (s' := (80, [some (.ref 0), none, some (.int z2), some (.int z3), some (.int z4), none], [(.int z3), (.int (gi M 0 48)), (.ref 34)], mkM (si M 33 (gi M 0 48).toNatClampNeg z2))) rfl ?_
    obtain ⟨f6, h⟩ := h
    refine aG_iast rfl rfl f6 ?_
    refine aG_n 2 (s' := (84, [some (.ref 0), none, some (.int z2), some (.int z3), some (.int z4), some (.int (nI 0))], [], mkM (si (si M 33 (gi M 0 48).toNatClampNeg z2) 34 (gi M 0 48).toNatClampNeg z3))) rfl ?_
    refine aG_le (a := [some (.ref 0), none, none, none, none, some (.int (nI 0))]) ⟨rfl, ⟨rfl, trivial⟩⟩ ?_
    obtain ⟨n, h⟩ := h
    exact wLk_X12_tries_84 n _ _ h
def wb_X12_tries_12 (z1 : Int32) (z2 : Int32) (z3 : Int32) (K12 : Int32 → Int32 → wM → Prop) (y4 : Int32) (y5 : Int32) (M : wM) (Q : wM → Prop) : Prop := ((gi M 0 41) ≤ y5 → wj_X12_tries_56 z2 z3 y4 M Q) ∧ (¬ (gi M 0 41) ≤ y5 → (y4 = (nI 0) → wj_X12_tries_56 z2 z3 y4 M Q) ∧ (¬ y4 = (nI 0) → w_X12_answerNow z1 y5 M (fun r13 M14 => vp_in y5 8 ∧ ((r13 = (gi M14 37 y5.toNatClampNeg) → K12 (nI 1) (y5 + (nI 1)) M14) ∧ (¬ r13 = (gi M14 37 y5.toNatClampNeg) → K12 (nI 0) (y5 + (nI 1)) M14)))))
set_option maxRecDepth 20000 in
theorem wbk_X12_tries_12 {z1 : Int32} {z2 : Int32} {z3 : Int32} {K12 : Int32 → Int32 → wM → Prop} {y4 : Int32} {y5 : Int32} {M : wM} {Q : wM → Prop} (hK12 : ∀ (v4 : Int32) (v5 : Int32) (M : wM), K12 v4 v5 M → aG 182 (12, [some (.ref 0), some (.int z1), some (.int z2), some (.int z3), some (.int v4), some (.int v5)], [], mkM M) (aPv mkM Q)) (h : wb_X12_tries_12 z1 z2 z3 K12 y4 y5 M Q) : aG 182 (12, [some (.ref 0), some (.int z1), some (.int z2), some (.int z3), some (.int y4), some (.int y5)], [], mkM M) (aPv mkM Q) := by
  unfold wb_X12_tries_12 at h
  refine aG_n 3 (s' := (18, [some (.ref 0), some (.int z1), some (.int z2), some (.int z3), some (.int y4), some (.int y5)], [(.int (gi M 0 41)), (.int y5)], mkM M)) rfl ?_
  obtain ⟨h1, h2⟩ := h
  by_cases q3 : (gi M 0 41) ≤ y5
  · have h := h1 q3
    refine aG_icmp (cd := .ge) (b := true) (decide_eq_true q3) rfl ?_
    refine aG_n 0 (s' := (56, [some (.ref 0), some (.int z1), some (.int z2), some (.int z3), some (.int y4), some (.int y5)], [], mkM M)) rfl ?_
    refine aG_le (a := [some (.ref 0), none, some (.int z2), some (.int z3), some (.int y4), none]) ⟨rfl, ⟨rfl, ⟨rfl, ⟨rfl, trivial⟩⟩⟩⟩ ?_
    exact wjk_X12_tries_56 h
  · have h := h2 q3
    refine aG_icmp (cd := .ge) (b := false) (decide_eq_false q3) rfl ?_
    refine aG_n 1 (s' := (23, [some (.ref 0), some (.int z1), some (.int z2), some (.int z3), some (.int y4), some (.int y5)], [(.int y4)], mkM M)) rfl ?_
    obtain ⟨h1, h2⟩ := h
    by_cases q12 : y4 = (nI 0)
    · have h := h1 q12
      refine aG_if (cd := .eq) (b := true) (decide_eq_true q12) rfl ?_
      refine aG_n 0 (s' := (56, [some (.ref 0), some (.int z1), some (.int z2), some (.int z3), some (.int y4), some (.int y5)], [], mkM M)) rfl ?_
      refine aG_le (a := [some (.ref 0), none, some (.int z2), some (.int z3), some (.int y4), none]) ⟨rfl, ⟨rfl, ⟨rfl, ⟨rfl, trivial⟩⟩⟩⟩ ?_
      exact wjk_X12_tries_56 h
    · have h := h2 q12
      refine aG_if (cd := .eq) (b := false) (decide_eq_false q12) rfl ?_
      refine aG_n 3 (s' := (30, [some (.ref 0), some (.int z1), some (.int z2), some (.int z3), some (.int y4), some (.int y5)], [(.int y5), (.int z1), (.ref 0)], mkM M)) rfl ?_
      refine aG_call rfl rfl (aG_mono (wk_X12_answerNow h) ?_)
      rintro _ ⟨r13, M14, rfl, h⟩
      refine aG_n 3 (s' := (39, [some (.ref 0), some (.int z1), some (.int z2), some (.int z3), some (.int y4), some (.int y5)], [(.int y5), (.ref 37), (.int r13)], mkM M14)) rfl ?_
      obtain ⟨f15, h⟩ := h
      refine aG_iald rfl rfl rfl f15 ?_
      refine aG_n 0 (s' := (40, [some (.ref 0), some (.int z1), some (.int z2), some (.int z3), some (.int y4), some (.int y5)], [(.int (gi M14 37 y5.toNatClampNeg)), (.int r13)], mkM M14)) rfl ?_
      obtain ⟨h1, h2⟩ := h
      by_cases q16 : r13 = (gi M14 37 y5.toNatClampNeg)
      · have h := h1 q16
        refine aG_icmp (cd := .ne) (b := false) (aTne0 q16) rfl ?_
        refine aG_n 5 (s' := (12, [some (.ref 0), some (.int z1), some (.int z2), some (.int z3), some (.int (nI 1)), some (.int (y5 + (nI 1)))], [], mkM M14)) rfl ?_
        refine aG_le (a := [some (.ref 0), some (.int z1), some (.int z2), some (.int z3), some (.int (nI 1)), some (.int (y5 + (nI 1)))]) ⟨rfl, ⟨rfl, ⟨rfl, ⟨rfl, ⟨rfl, ⟨rfl, trivial⟩⟩⟩⟩⟩⟩ ?_
        exact hK12 _ _ _ h
      · have h := h2 q16
        refine aG_icmp (cd := .ne) (b := true) (aTne1 q16) rfl ?_
        refine aG_n 4 (s' := (12, [some (.ref 0), some (.int z1), some (.int z2), some (.int z3), some (.int (nI 0)), some (.int (y5 + (nI 1)))], [], mkM M14)) rfl ?_
        refine aG_le (a := [some (.ref 0), some (.int z1), some (.int z2), some (.int z3), some (.int (nI 0)), some (.int (y5 + (nI 1)))]) ⟨rfl, ⟨rfl, ⟨rfl, ⟨rfl, ⟨rfl, ⟨rfl, trivial⟩⟩⟩⟩⟩⟩ ?_
        exact hK12 _ _ _ h
def wL_X12_tries_12 (z1 : Int32) (z2 : Int32) (z3 : Int32) (Q : wM → Prop) : Nat → Int32 → Int32 → wM → Prop
  | 0, _, _, _ => False
  | n + 1, y4, y5, M => wb_X12_tries_12 z1 z2 z3 (wL_X12_tries_12 z1 z2 z3 Q n) y4 y5 M Q
set_option maxRecDepth 20000 in
theorem wLk_X12_tries_12 {z1 : Int32} {z2 : Int32} {z3 : Int32} {Q : wM → Prop} : ∀ (n : Nat) (y4 : Int32) (y5 : Int32) (M : wM), wL_X12_tries_12 z1 z2 z3 Q n y4 y5 M → aG 182 (12, [some (.ref 0), some (.int z1), some (.int z2), some (.int z3), some (.int y4), some (.int y5)], [], mkM M) (aPv mkM Q)
  | 0, _, _, _, h => h.elim
  | n + 1, y4, y5, M, h => wbk_X12_tries_12 (fun y4 y5 M h => wLk_X12_tries_12 n y4 y5 M h) h
def w_X12_tries (x1 : Int32) (x2 : Int32) (x3 : Int32) (M : wM) (Q : wM → Prop) : Prop := w_X12_guesses x2 x3 M (fun M2 => ∃ n, wL_X12_tries_12 x1 x2 x3 Q n (nI 1) (nI 0) M2)
set_option maxRecDepth 20000 in
theorem wk_X12_tries {x1 : Int32} {x2 : Int32} {x3 : Int32} {M : wM} {Q : wM → Prop} (h : w_X12_tries x1 x2 x3 M Q) : aG 182 (aEn 182 [(.ref 0), (.int x1), (.int x2), (.int x3)] (mkM M)) (aPv mkM Q) := by
  unfold w_X12_tries at h
  refine aG_n 3 (s' := (3, [some (.ref 0), some (.int x1), some (.int x2), some (.int x3), none, none], [(.int x3), (.int x2), (.ref 0)], mkM M)) rfl ?_
  refine aG_call rfl rfl (aG_mono (wk_X12_guesses h) ?_)
  rintro _ ⟨M2, rfl, h⟩
  refine aG_n 4 (s' := (12, [some (.ref 0), some (.int x1), some (.int x2), some (.int x3), some (.int (nI 1)), some (.int (nI 0))], [], mkM M2)) rfl ?_
  refine aG_le (a := [some (.ref 0), some (.int x1), some (.int x2), some (.int x3), some (.int (nI 1)), some (.int (nI 0))]) ⟨rfl, ⟨rfl, ⟨rfl, ⟨rfl, ⟨rfl, ⟨rfl, trivial⟩⟩⟩⟩⟩⟩ ?_
  obtain ⟨n, h⟩ := h
  exact wLk_X12_tries_12 n _ _ _ h
def wb_X12_blind_232 (z1 : Int32) (z2 : Int32) (z3 : Int32) (z4 : Int32) (z5 : Int32) (z6 : Int32) (z7 : Int32) (z8 : Int32) (K84 : Int32 → Int32 → Int32 → Int32 → wM → Prop) (K214 : Int32 → Int32 → wM → Prop) (K232 : Int32 → Int32 → wM → Prop) (y9 : Int32) (y10 : Int32) (M : wM) (Q : Int32 → wM → Prop) : Prop := ((gi M 0 41) ≤ y10 → (y9 = (nI 0) → K214 (z5 + (nI 0)) (z8 + (nI 1)) M) ∧ (¬ y9 = (nI 0) → K214 (z5 + (nI 1)) (z8 + (nI 1)) M)) ∧ (¬ (gi M 0 41) ≤ y10 → (y9 = (nI 0) → K232 (nI 0) (y10 + (nI 1)) M) ∧ (¬ y9 = (nI 0) → vp_in (((nI 8) * z6) + y10) 576 ∧ (vp_in (((nI 8) * z8) + y10) 576 ∧ (((gi M 38 (((nI 8) * z6) + y10).toNatClampNeg) = (gi M 38 (((nI 8) * z8) + y10).toNatClampNeg) → K232 (nI 1) (y10 + (nI 1)) M) ∧ (¬ (gi M 38 (((nI 8) * z6) + y10).toNatClampNeg) = (gi M 38 (((nI 8) * z8) + y10).toNatClampNeg) → K232 (nI 0) (y10 + (nI 1)) M)))))
set_option maxRecDepth 20000 in
theorem wbk_X12_blind_232 {z1 : Int32} {z2 : Int32} {z3 : Int32} {z4 : Int32} {z5 : Int32} {z6 : Int32} {z7 : Int32} {z8 : Int32} {K84 : Int32 → Int32 → Int32 → Int32 → wM → Prop} {K214 : Int32 → Int32 → wM → Prop} {K232 : Int32 → Int32 → wM → Prop} {y9 : Int32} {y10 : Int32} {M : wM} {Q : Int32 → wM → Prop} (hK84 : ∀ (v3 : Int32) (v4 : Int32) (v5 : Int32) (v6 : Int32) (M : wM), K84 v3 v4 v5 v6 M → aG 183 (84, [some (.ref 0), some (.int z1), some (.int z2), some (.int v3), some (.int v4), some (.int v5), some (.int v6), none, none, none, none], [], mkM M) (aPi mkM Q)) (hK214 : ∀ (v5 : Int32) (v8 : Int32) (M : wM), K214 v5 v8 M → aG 183 (214, [some (.ref 0), some (.int z1), some (.int z2), some (.int z3), some (.int z4), some (.int v5), some (.int z6), some (.int z7), some (.int v8), none, none], [], mkM M) (aPi mkM Q)) (hK232 : ∀ (v9 : Int32) (v10 : Int32) (M : wM), K232 v9 v10 M → aG 183 (232, [some (.ref 0), some (.int z1), some (.int z2), some (.int z3), some (.int z4), some (.int z5), some (.int z6), some (.int z7), some (.int z8), some (.int v9), some (.int v10)], [], mkM M) (aPi mkM Q)) (h : wb_X12_blind_232 z1 z2 z3 z4 z5 z6 z7 z8 K84 K214 K232 y9 y10 M Q) : aG 183 (232, [some (.ref 0), some (.int z1), some (.int z2), some (.int z3), some (.int z4), some (.int z5), some (.int z6), some (.int z7), some (.int z8), some (.int y9), some (.int y10)], [], mkM M) (aPi mkM Q) := by
  unfold wb_X12_blind_232 at h
  refine aG_n 3 (s' := (238, [some (.ref 0), some (.int z1), some (.int z2), some (.int z3), some (.int z4), some (.int z5), some (.int z6), some (.int z7), some (.int z8), some (.int y9), some (.int y10)], [(.int (gi M 0 41)), (.int y10)], mkM M)) rfl ?_
  obtain ⟨h1, h2⟩ := h
  by_cases q24 : (gi M 0 41) ≤ y10
  · have h := h1 q24
    refine aG_icmp (cd := .ge) (b := true) (decide_eq_true q24) rfl ?_
    refine aG_n 2 (s' := (292, [some (.ref 0), some (.int z1), some (.int z2), some (.int z3), some (.int z4), some (.int z5), some (.int z6), some (.int z7), some (.int z8), some (.int y9), some (.int y10)], [(.int y9), (.int z5)], mkM M)) rfl ?_
    obtain ⟨h1, h2⟩ := h
    by_cases q25 : y9 = (nI 0)
    · have h := h1 q25
      refine aG_if (cd := .eq) (b := true) (decide_eq_true q25) rfl ?_
      refine aG_n 5 (s' := (214, [some (.ref 0), some (.int z1), some (.int z2), some (.int z3), some (.int z4), some (.int (z5 + (nI 0))), some (.int z6), some (.int z7), some (.int (z8 + (nI 1))), some (.int y9), some (.int y10)], [], mkM M)) rfl ?_
      refine aG_le (a := [some (.ref 0), some (.int z1), some (.int z2), some (.int z3), some (.int z4), some (.int (z5 + (nI 0))), some (.int z6), some (.int z7), some (.int (z8 + (nI 1))), none, none]) ⟨rfl, ⟨rfl, ⟨rfl, ⟨rfl, ⟨rfl, ⟨rfl, ⟨rfl, ⟨rfl, ⟨rfl, trivial⟩⟩⟩⟩⟩⟩⟩⟩⟩ ?_
      exact hK214 _ _ _ h
    · have h := h2 q25
      refine aG_if (cd := .eq) (b := false) (decide_eq_false q25) rfl ?_
      refine aG_n 6 (s' := (214, [some (.ref 0), some (.int z1), some (.int z2), some (.int z3), some (.int z4), some (.int (z5 + (nI 1))), some (.int z6), some (.int z7), some (.int (z8 + (nI 1))), some (.int y9), some (.int y10)], [], mkM M)) rfl ?_
      refine aG_le (a := [some (.ref 0), some (.int z1), some (.int z2), some (.int z3), some (.int z4), some (.int (z5 + (nI 1))), some (.int z6), some (.int z7), some (.int (z8 + (nI 1))), none, none]) ⟨rfl, ⟨rfl, ⟨rfl, ⟨rfl, ⟨rfl, ⟨rfl, ⟨rfl, ⟨rfl, ⟨rfl, trivial⟩⟩⟩⟩⟩⟩⟩⟩⟩ ?_
      exact hK214 _ _ _ h
  · have h := h2 q24
    refine aG_icmp (cd := .ge) (b := false) (decide_eq_false q24) rfl ?_
    refine aG_n 1 (s' := (243, [some (.ref 0), some (.int z1), some (.int z2), some (.int z3), some (.int z4), some (.int z5), some (.int z6), some (.int z7), some (.int z8), some (.int y9), some (.int y10)], [(.int y9)], mkM M)) rfl ?_
    obtain ⟨h1, h2⟩ := h
    by_cases q26 : y9 = (nI 0)
    · have h := h1 q26
      refine aG_if (cd := .eq) (b := true) (decide_eq_true q26) rfl ?_
      refine aG_n 4 (s' := (232, [some (.ref 0), some (.int z1), some (.int z2), some (.int z3), some (.int z4), some (.int z5), some (.int z6), some (.int z7), some (.int z8), some (.int (nI 0)), some (.int (y10 + (nI 1)))], [], mkM M)) rfl ?_
      refine aG_le (a := [some (.ref 0), some (.int z1), some (.int z2), some (.int z3), some (.int z4), some (.int z5), some (.int z6), some (.int z7), some (.int z8), some (.int (nI 0)), some (.int (y10 + (nI 1)))]) ⟨rfl, ⟨rfl, ⟨rfl, ⟨rfl, ⟨rfl, ⟨rfl, ⟨rfl, ⟨rfl, ⟨rfl, ⟨rfl, ⟨rfl, trivial⟩⟩⟩⟩⟩⟩⟩⟩⟩⟩⟩ ?_
      exact hK232 _ _ _ h
    · have h := h2 q26
      refine aG_if (cd := .eq) (b := false) (decide_eq_false q26) rfl ?_
      refine aG_n 7 (s' := (258, [some (.ref 0), some (.int z1), some (.int z2), some (.int z3), some (.int z4), some (.int z5), some (.int z6), some (.int z7), some (.int z8), some (.int y9), some (.int y10)], [(.int (((nI 8) * z6) + y10)), (.ref 38)], mkM M)) rfl ?_
      obtain ⟨f27, h⟩ := h
      refine aG_iald rfl rfl rfl f27 ?_
      refine aG_n 7 (s' := (271, [some (.ref 0), some (.int z1), some (.int z2), some (.int z3), some (.int z4), some (.int z5), some (.int z6), some (.int z7), some (.int z8), some (.int y9), some (.int y10)], [(.int (((nI 8) * z8) + y10)), (.ref 38), (.int (gi M 38 (((nI 8) * z6) + y10).toNatClampNeg))], mkM M)) rfl ?_
      obtain ⟨f28, h⟩ := h
      refine aG_iald rfl rfl rfl f28 ?_
      refine aG_n 0 (s' := (272, [some (.ref 0), some (.int z1), some (.int z2), some (.int z3), some (.int z4), some (.int z5), some (.int z6), some (.int z7), some (.int z8), some (.int y9), some (.int y10)], [(.int (gi M 38 (((nI 8) * z8) + y10).toNatClampNeg)), (.int (gi M 38 (((nI 8) * z6) + y10).toNatClampNeg))], mkM M)) rfl ?_
      obtain ⟨h1, h2⟩ := h
      by_cases q29 : (gi M 38 (((nI 8) * z6) + y10).toNatClampNeg) = (gi M 38 (((nI 8) * z8) + y10).toNatClampNeg)
      · have h := h1 q29
        refine aG_icmp (cd := .ne) (b := false) (aTne0 q29) rfl ?_
        refine aG_n 5 (s' := (232, [some (.ref 0), some (.int z1), some (.int z2), some (.int z3), some (.int z4), some (.int z5), some (.int z6), some (.int z7), some (.int z8), some (.int (nI 1)), some (.int (y10 + (nI 1)))], [], mkM M)) rfl ?_
        refine aG_le (a := [some (.ref 0), some (.int z1), some (.int z2), some (.int z3), some (.int z4), some (.int z5), some (.int z6), some (.int z7), some (.int z8), some (.int (nI 1)), some (.int (y10 + (nI 1)))]) ⟨rfl, ⟨rfl, ⟨rfl, ⟨rfl, ⟨rfl, ⟨rfl, ⟨rfl, ⟨rfl, ⟨rfl, ⟨rfl, ⟨rfl, trivial⟩⟩⟩⟩⟩⟩⟩⟩⟩⟩⟩ ?_
        exact hK232 _ _ _ h
      · have h := h2 q29
        refine aG_icmp (cd := .ne) (b := true) (aTne1 q29) rfl ?_
        refine aG_n 4 (s' := (232, [some (.ref 0), some (.int z1), some (.int z2), some (.int z3), some (.int z4), some (.int z5), some (.int z6), some (.int z7), some (.int z8), some (.int (nI 0)), some (.int (y10 + (nI 1)))], [], mkM M)) rfl ?_
        refine aG_le (a := [some (.ref 0), some (.int z1), some (.int z2), some (.int z3), some (.int z4), some (.int z5), some (.int z6), some (.int z7), some (.int z8), some (.int (nI 0)), some (.int (y10 + (nI 1)))]) ⟨rfl, ⟨rfl, ⟨rfl, ⟨rfl, ⟨rfl, ⟨rfl, ⟨rfl, ⟨rfl, ⟨rfl, ⟨rfl, ⟨rfl, trivial⟩⟩⟩⟩⟩⟩⟩⟩⟩⟩⟩ ?_
        exact hK232 _ _ _ h
def wL_X12_blind_232 (z1 : Int32) (z2 : Int32) (z3 : Int32) (z4 : Int32) (z5 : Int32) (z6 : Int32) (z7 : Int32) (z8 : Int32) (K84 : Int32 → Int32 → Int32 → Int32 → wM → Prop) (K214 : Int32 → Int32 → wM → Prop) (Q : Int32 → wM → Prop) : Nat → Int32 → Int32 → wM → Prop
  | 0, _, _, _ => False
  | n + 1, y9, y10, M => wb_X12_blind_232 z1 z2 z3 z4 z5 z6 z7 z8 K84 K214 (wL_X12_blind_232 z1 z2 z3 z4 z5 z6 z7 z8 K84 K214 Q n) y9 y10 M Q
set_option maxRecDepth 20000 in
theorem wLk_X12_blind_232 {z1 : Int32} {z2 : Int32} {z3 : Int32} {z4 : Int32} {z5 : Int32} {z6 : Int32} {z7 : Int32} {z8 : Int32} {K84 : Int32 → Int32 → Int32 → Int32 → wM → Prop} {K214 : Int32 → Int32 → wM → Prop} {Q : Int32 → wM → Prop} (hK84 : ∀ (v3 : Int32) (v4 : Int32) (v5 : Int32) (v6 : Int32) (M : wM), K84 v3 v4 v5 v6 M → aG 183 (84, [some (.ref 0), some (.int z1), some (.int z2), some (.int v3), some (.int v4), some (.int v5), some (.int v6), none, none, none, none], [], mkM M) (aPi mkM Q)) (hK214 : ∀ (v5 : Int32) (v8 : Int32) (M : wM), K214 v5 v8 M → aG 183 (214, [some (.ref 0), some (.int z1), some (.int z2), some (.int z3), some (.int z4), some (.int v5), some (.int z6), some (.int z7), some (.int v8), none, none], [], mkM M) (aPi mkM Q)) : ∀ (n : Nat) (y9 : Int32) (y10 : Int32) (M : wM), wL_X12_blind_232 z1 z2 z3 z4 z5 z6 z7 z8 K84 K214 Q n y9 y10 M → aG 183 (232, [some (.ref 0), some (.int z1), some (.int z2), some (.int z3), some (.int z4), some (.int z5), some (.int z6), some (.int z7), some (.int z8), some (.int y9), some (.int y10)], [], mkM M) (aPi mkM Q)
  | 0, _, _, _, h => h.elim
  | n + 1, y9, y10, M, h => wbk_X12_blind_232 hK84 hK214 (fun y9 y10 M h => wLk_X12_blind_232 hK84 hK214 n y9 y10 M h) h
def wb_X12_blind_214 (z1 : Int32) (z2 : Int32) (z3 : Int32) (z4 : Int32) (z6 : Int32) (z7 : Int32) (K84 : Int32 → Int32 → Int32 → Int32 → wM → Prop) (K214 : Int32 → Int32 → wM → Prop) (y5 : Int32) (y8 : Int32) (M : wM) (Q : Int32 → wM → Prop) : Prop := (z6 ≤ y8 → K84 z3 z4 y5 (z6 + (nI 1)) M) ∧ (¬ z6 ≤ y8 → (z7 = (nI 0) → K84 z3 z4 y5 (z6 + (nI 1)) M) ∧ (¬ z7 = (nI 0) → ∃ n, wL_X12_blind_232 z1 z2 z3 z4 y5 z6 z7 y8 K84 K214 Q n (nI 1) (nI 0) M))
set_option maxRecDepth 20000 in
theorem wbk_X12_blind_214 {z1 : Int32} {z2 : Int32} {z3 : Int32} {z4 : Int32} {z6 : Int32} {z7 : Int32} {K84 : Int32 → Int32 → Int32 → Int32 → wM → Prop} {K214 : Int32 → Int32 → wM → Prop} {y5 : Int32} {y8 : Int32} {M : wM} {Q : Int32 → wM → Prop} (hK84 : ∀ (v3 : Int32) (v4 : Int32) (v5 : Int32) (v6 : Int32) (M : wM), K84 v3 v4 v5 v6 M → aG 183 (84, [some (.ref 0), some (.int z1), some (.int z2), some (.int v3), some (.int v4), some (.int v5), some (.int v6), none, none, none, none], [], mkM M) (aPi mkM Q)) (hK214 : ∀ (v5 : Int32) (v8 : Int32) (M : wM), K214 v5 v8 M → aG 183 (214, [some (.ref 0), some (.int z1), some (.int z2), some (.int z3), some (.int z4), some (.int v5), some (.int z6), some (.int z7), some (.int v8), none, none], [], mkM M) (aPi mkM Q)) (h : wb_X12_blind_214 z1 z2 z3 z4 z6 z7 K84 K214 y5 y8 M Q) : aG 183 (214, [some (.ref 0), some (.int z1), some (.int z2), some (.int z3), some (.int z4), some (.int y5), some (.int z6), some (.int z7), some (.int y8), none, none], [], mkM M) (aPi mkM Q) := by
  unfold wb_X12_blind_214 at h
  refine aG_n 2 (s' := (218, [some (.ref 0), some (.int z1), some (.int z2), some (.int z3), some (.int z4), some (.int y5), some (.int z6), some (.int z7), some (.int y8), none, none], [(.int z6), (.int y8)], mkM M)) rfl ?_
  obtain ⟨h1, h2⟩ := h
  by_cases q22 : z6 ≤ y8
  · have h := h1 q22
    refine aG_icmp (cd := .ge) (b := true) (decide_eq_true q22) rfl ?_
    refine aG_n 2 (s' := (84, [some (.ref 0), some (.int z1), some (.int z2), some (.int z3), some (.int z4), some (.int y5), some (.int (z6 + (nI 1))), some (.int z7), some (.int y8), none, none], [], mkM M)) rfl ?_
    refine aG_le (a := [some (.ref 0), some (.int z1), some (.int z2), some (.int z3), some (.int z4), some (.int y5), some (.int (z6 + (nI 1))), none, none, none, none]) ⟨rfl, ⟨rfl, ⟨rfl, ⟨rfl, ⟨rfl, ⟨rfl, ⟨rfl, trivial⟩⟩⟩⟩⟩⟩⟩ ?_
    exact hK84 _ _ _ _ _ h
  · have h := h2 q22
    refine aG_icmp (cd := .ge) (b := false) (decide_eq_false q22) rfl ?_
    refine aG_n 1 (s' := (223, [some (.ref 0), some (.int z1), some (.int z2), some (.int z3), some (.int z4), some (.int y5), some (.int z6), some (.int z7), some (.int y8), none, none], [(.int z7)], mkM M)) rfl ?_
    obtain ⟨h1, h2⟩ := h
    by_cases q23 : z7 = (nI 0)
    · have h := h1 q23
      refine aG_if (cd := .eq) (b := true) (decide_eq_true q23) rfl ?_
      refine aG_n 2 (s' := (84, [some (.ref 0), some (.int z1), some (.int z2), some (.int z3), some (.int z4), some (.int y5), some (.int (z6 + (nI 1))), some (.int z7), some (.int y8), none, none], [], mkM M)) rfl ?_
      refine aG_le (a := [some (.ref 0), some (.int z1), some (.int z2), some (.int z3), some (.int z4), some (.int y5), some (.int (z6 + (nI 1))), none, none, none, none]) ⟨rfl, ⟨rfl, ⟨rfl, ⟨rfl, ⟨rfl, ⟨rfl, ⟨rfl, trivial⟩⟩⟩⟩⟩⟩⟩ ?_
      exact hK84 _ _ _ _ _ h
    · have h := h2 q23
      refine aG_if (cd := .eq) (b := false) (decide_eq_false q23) rfl ?_
      refine aG_n 4 (s' := (232, [some (.ref 0), some (.int z1), some (.int z2), some (.int z3), some (.int z4), some (.int y5), some (.int z6), some (.int z7), some (.int y8), some (.int (nI 1)), some (.int (nI 0))], [], mkM M)) rfl ?_
      refine aG_le (a := [some (.ref 0), some (.int z1), some (.int z2), some (.int z3), some (.int z4), some (.int y5), some (.int z6), some (.int z7), some (.int y8), some (.int (nI 1)), some (.int (nI 0))]) ⟨rfl, ⟨rfl, ⟨rfl, ⟨rfl, ⟨rfl, ⟨rfl, ⟨rfl, ⟨rfl, ⟨rfl, ⟨rfl, ⟨rfl, trivial⟩⟩⟩⟩⟩⟩⟩⟩⟩⟩⟩ ?_
      obtain ⟨n, h⟩ := h
      exact wLk_X12_blind_232 hK84 hK214 n _ _ _ h
def wL_X12_blind_214 (z1 : Int32) (z2 : Int32) (z3 : Int32) (z4 : Int32) (z6 : Int32) (z7 : Int32) (K84 : Int32 → Int32 → Int32 → Int32 → wM → Prop) (Q : Int32 → wM → Prop) : Nat → Int32 → Int32 → wM → Prop
  | 0, _, _, _ => False
  | n + 1, y5, y8, M => wb_X12_blind_214 z1 z2 z3 z4 z6 z7 K84 (wL_X12_blind_214 z1 z2 z3 z4 z6 z7 K84 Q n) y5 y8 M Q
set_option maxRecDepth 20000 in
theorem wLk_X12_blind_214 {z1 : Int32} {z2 : Int32} {z3 : Int32} {z4 : Int32} {z6 : Int32} {z7 : Int32} {K84 : Int32 → Int32 → Int32 → Int32 → wM → Prop} {Q : Int32 → wM → Prop} (hK84 : ∀ (v3 : Int32) (v4 : Int32) (v5 : Int32) (v6 : Int32) (M : wM), K84 v3 v4 v5 v6 M → aG 183 (84, [some (.ref 0), some (.int z1), some (.int z2), some (.int v3), some (.int v4), some (.int v5), some (.int v6), none, none, none, none], [], mkM M) (aPi mkM Q)) : ∀ (n : Nat) (y5 : Int32) (y8 : Int32) (M : wM), wL_X12_blind_214 z1 z2 z3 z4 z6 z7 K84 Q n y5 y8 M → aG 183 (214, [some (.ref 0), some (.int z1), some (.int z2), some (.int z3), some (.int z4), some (.int y5), some (.int z6), some (.int z7), some (.int y8), none, none], [], mkM M) (aPi mkM Q)
  | 0, _, _, _, h => h.elim
  | n + 1, y5, y8, M, h => wbk_X12_blind_214 hK84 (fun y5 y8 M h => wLk_X12_blind_214 hK84 n y5 y8 M h) h
def wj_X12_blind_209 (z1 : Int32) (z2 : Int32) (z3 : Int32) (z5 : Int32) (z6 : Int32) (z7 : Int32) (s0 : Int32) (K84 : Int32 → Int32 → Int32 → Int32 → wM → Prop) (M : wM) (Q : Int32 → wM → Prop) : Prop := ∃ n, wL_X12_blind_214 z1 z2 z3 s0 z6 z7 K84 Q n z5 (nI 0) M
set_option maxRecDepth 20000 in
theorem wjk_X12_blind_209 {z1 : Int32} {z2 : Int32} {z3 : Int32} {z5 : Int32} {z6 : Int32} {z7 : Int32} {s0 : Int32} {K84 : Int32 → Int32 → Int32 → Int32 → wM → Prop} {M : wM} {Q : Int32 → wM → Prop} (hK84 : ∀ (v3 : Int32) (v4 : Int32) (v5 : Int32) (v6 : Int32) (M : wM), K84 v3 v4 v5 v6 M → aG 183 (84, [some (.ref 0), some (.int z1), some (.int z2), some (.int v3), some (.int v4), some (.int v5), some (.int v6), none, none, none, none], [], mkM M) (aPi mkM Q)) (h : wj_X12_blind_209 z1 z2 z3 z5 z6 z7 s0 K84 M Q) : aG 183 (209, [some (.ref 0), some (.int z1), some (.int z2), some (.int z3), none, some (.int z5), some (.int z6), some (.int z7), none, none, none], [(.int s0)], mkM M) (aPi mkM Q) := by
  unfold wj_X12_blind_209 at h
  refine aG_n 3 (s' := (214, [some (.ref 0), some (.int z1), some (.int z2), some (.int z3), some (.int s0), some (.int z5), some (.int z6), some (.int z7), some (.int (nI 0)), none, none], [], mkM M)) rfl ?_
  refine aG_le (a := [some (.ref 0), some (.int z1), some (.int z2), some (.int z3), some (.int s0), some (.int z5), some (.int z6), some (.int z7), some (.int (nI 0)), none, none]) ⟨rfl, ⟨rfl, ⟨rfl, ⟨rfl, ⟨rfl, ⟨rfl, ⟨rfl, ⟨rfl, ⟨rfl, trivial⟩⟩⟩⟩⟩⟩⟩⟩⟩ ?_
  obtain ⟨n, h⟩ := h
  exact wLk_X12_blind_214 hK84 n _ _ _ h
def wj_X12_blind_188 (z1 : Int32) (z2 : Int32) (z4 : Int32) (z5 : Int32) (z6 : Int32) (z7 : Int32) (s0 : Int32) (s1 : Int32) (K84 : Int32 → Int32 → Int32 → Int32 → wM → Prop) (M : wM) (Q : Int32 → wM → Prop) : Prop := (z7 = (nI 0) → (z4 = (-4) → wj_X12_blind_209 z1 z2 (s0 + s1) z5 z6 z7 z6 K84 M Q) ∧ (¬ z4 = (-4) → wj_X12_blind_209 z1 z2 (s0 + s1) z5 z6 z7 z4 K84 M Q)) ∧ (¬ z7 = (nI 0) → wj_X12_blind_209 z1 z2 (s0 + s1) z5 z6 z7 z4 K84 M Q)
set_option maxRecDepth 20000 in
theorem wjk_X12_blind_188 {z1 : Int32} {z2 : Int32} {z4 : Int32} {z5 : Int32} {z6 : Int32} {z7 : Int32} {s0 : Int32} {s1 : Int32} {K84 : Int32 → Int32 → Int32 → Int32 → wM → Prop} {M : wM} {Q : Int32 → wM → Prop} (hK84 : ∀ (v3 : Int32) (v4 : Int32) (v5 : Int32) (v6 : Int32) (M : wM), K84 v3 v4 v5 v6 M → aG 183 (84, [some (.ref 0), some (.int z1), some (.int z2), some (.int v3), some (.int v4), some (.int v5), some (.int v6), none, none, none, none], [], mkM M) (aPi mkM Q)) (h : wj_X12_blind_188 z1 z2 z4 z5 z6 z7 s0 s1 K84 M Q) : aG 183 (188, [some (.ref 0), some (.int z1), some (.int z2), none, some (.int z4), some (.int z5), some (.int z6), some (.int z7), none, none, none], [(.int s1), (.int s0)], mkM M) (aPi mkM Q) := by
  unfold wj_X12_blind_188 at h
  refine aG_n 3 (s' := (192, [some (.ref 0), some (.int z1), some (.int z2), some (.int (s0 + s1)), some (.int z4), some (.int z5), some (.int z6), some (.int z7), none, none, none], [(.int z7)], mkM M)) rfl ?_
  obtain ⟨h1, h2⟩ := h
  by_cases q20 : z7 = (nI 0)
  · have h := h1 q20
    refine aG_if (cd := .ne) (b := false) (aTne0 q20) rfl ?_
    refine aG_n 2 (s' := (199, [some (.ref 0), some (.int z1), some (.int z2), some (.int (s0 + s1)), some (.int z4), some (.int z5), some (.int z6), some (.int z7), none, none, none], [(.int (-4)), (.int z4)], mkM M)) rfl ?_
    obtain ⟨h1, h2⟩ := h
    by_cases q21 : z4 = (-4)
    · have h := h1 q21
      refine aG_icmp (cd := .ne) (b := false) (aTne0 q21) rfl ?_
      refine aG_n 2 (s' := (209, [some (.ref 0), some (.int z1), some (.int z2), some (.int (s0 + s1)), some (.int z4), some (.int z5), some (.int z6), some (.int z7), none, none, none], [(.int z6)], mkM M)) rfl ?_
      refine aG_le (a := [some (.ref 0), some (.int z1), some (.int z2), some (.int (s0 + s1)), none, some (.int z5), some (.int z6), some (.int z7), none, none, none]) ⟨rfl, ⟨rfl, ⟨rfl, ⟨rfl, ⟨rfl, ⟨rfl, ⟨rfl, trivial⟩⟩⟩⟩⟩⟩⟩ ?_
      exact wjk_X12_blind_209 hK84 h
    · have h := h2 q21
      refine aG_icmp (cd := .ne) (b := true) (aTne1 q21) rfl ?_
      refine aG_n 1 (s' := (209, [some (.ref 0), some (.int z1), some (.int z2), some (.int (s0 + s1)), some (.int z4), some (.int z5), some (.int z6), some (.int z7), none, none, none], [(.int z4)], mkM M)) rfl ?_
      refine aG_le (a := [some (.ref 0), some (.int z1), some (.int z2), some (.int (s0 + s1)), none, some (.int z5), some (.int z6), some (.int z7), none, none, none]) ⟨rfl, ⟨rfl, ⟨rfl, ⟨rfl, ⟨rfl, ⟨rfl, ⟨rfl, trivial⟩⟩⟩⟩⟩⟩⟩ ?_
      exact wjk_X12_blind_209 hK84 h
  · have h := h2 q20
    refine aG_if (cd := .ne) (b := true) (aTne1 q20) rfl ?_
    refine aG_n 1 (s' := (209, [some (.ref 0), some (.int z1), some (.int z2), some (.int (s0 + s1)), some (.int z4), some (.int z5), some (.int z6), some (.int z7), none, none, none], [(.int z4)], mkM M)) rfl ?_
    refine aG_le (a := [some (.ref 0), some (.int z1), some (.int z2), some (.int (s0 + s1)), none, some (.int z5), some (.int z6), some (.int z7), none, none, none]) ⟨rfl, ⟨rfl, ⟨rfl, ⟨rfl, ⟨rfl, ⟨rfl, ⟨rfl, trivial⟩⟩⟩⟩⟩⟩⟩ ?_
    exact wjk_X12_blind_209 hK84 h
def wb_X12_blind_107 (z1 : Int32) (z2 : Int32) (z3 : Int32) (z4 : Int32) (z5 : Int32) (z6 : Int32) (K84 : Int32 → Int32 → Int32 → Int32 → wM → Prop) (K107 : Int32 → Int32 → wM → Prop) (y7 : Int32) (y8 : Int32) (M : wM) (Q : Int32 → wM → Prop) : Prop := ((gi M 0 41) ≤ y8 → (y7 = (nI 0) → wj_X12_blind_188 z1 z2 z4 z5 z6 y7 z3 (nI 1) K84 M Q) ∧ (¬ y7 = (nI 0) → wj_X12_blind_188 z1 z2 z4 z5 z6 y7 z3 (nI 0) K84 M Q)) ∧ (¬ (gi M 0 41) ≤ y8 → w_X12_answerNow z1 y8 M (fun r30 M31 => vp_in (((nI 8) * z6) + y8) 576 ∧ ((y7 = (nI 0) → vp_in (((nI 8) * z6) + y8) 576 ∧ (vp_in y8 8 ∧ (((gi (si M31 38 (((nI 8) * z6) + y8).toNatClampNeg r30) 38 (((nI 8) * z6) + y8).toNatClampNeg) = (gi M31 37 y8.toNatClampNeg) → K107 (nI 0) (y8 + (nI 1)) (si M31 38 (((nI 8) * z6) + y8).toNatClampNeg r30)) ∧ (¬ (gi (si M31 38 (((nI 8) * z6) + y8).toNatClampNeg r30) 38 (((nI 8) * z6) + y8).toNatClampNeg) = (gi M31 37 y8.toNatClampNeg) → K107 (nI 1) (y8 + (nI 1)) (si M31 38 (((nI 8) * z6) + y8).toNatClampNeg r30))))) ∧ (¬ y7 = (nI 0) → K107 (nI 1) (y8 + (nI 1)) (si M31 38 (((nI 8) * z6) + y8).toNatClampNeg r30)))))
set_option maxRecDepth 20000 in
theorem wbk_X12_blind_107 {z1 : Int32} {z2 : Int32} {z3 : Int32} {z4 : Int32} {z5 : Int32} {z6 : Int32} {K84 : Int32 → Int32 → Int32 → Int32 → wM → Prop} {K107 : Int32 → Int32 → wM → Prop} {y7 : Int32} {y8 : Int32} {M : wM} {Q : Int32 → wM → Prop} (hK84 : ∀ (v3 : Int32) (v4 : Int32) (v5 : Int32) (v6 : Int32) (M : wM), K84 v3 v4 v5 v6 M → aG 183 (84, [some (.ref 0), some (.int z1), some (.int z2), some (.int v3), some (.int v4), some (.int v5), some (.int v6), none, none, none, none], [], mkM M) (aPi mkM Q)) (hK107 : ∀ (v7 : Int32) (v8 : Int32) (M : wM), K107 v7 v8 M → aG 183 (107, [some (.ref 0), some (.int z1), some (.int z2), some (.int z3), some (.int z4), some (.int z5), some (.int z6), some (.int v7), some (.int v8), none, none], [], mkM M) (aPi mkM Q)) (h : wb_X12_blind_107 z1 z2 z3 z4 z5 z6 K84 K107 y7 y8 M Q) : aG 183 (107, [some (.ref 0), some (.int z1), some (.int z2), some (.int z3), some (.int z4), some (.int z5), some (.int z6), some (.int y7), some (.int y8), none, none], [], mkM M) (aPi mkM Q) := by
  unfold wb_X12_blind_107 at h
  refine aG_n 3 (s' := (113, [some (.ref 0), some (.int z1), some (.int z2), some (.int z3), some (.int z4), some (.int z5), some (.int z6), some (.int y7), some (.int y8), none, none], [(.int (gi M 0 41)), (.int y8)], mkM M)) rfl ?_
  obtain ⟨h1, h2⟩ := h
  by_cases q18 : (gi M 0 41) ≤ y8
  · have h := h1 q18
    refine aG_icmp (cd := .ge) (b := true) (decide_eq_true q18) rfl ?_
    refine aG_n 2 (s' := (180, [some (.ref 0), some (.int z1), some (.int z2), some (.int z3), some (.int z4), some (.int z5), some (.int z6), some (.int y7), some (.int y8), none, none], [(.int y7), (.int z3)], mkM M)) rfl ?_
    obtain ⟨h1, h2⟩ := h
    by_cases q19 : y7 = (nI 0)
    · have h := h1 q19
      refine aG_if (cd := .eq) (b := true) (decide_eq_true q19) rfl ?_
      refine aG_n 1 (s' := (188, [some (.ref 0), some (.int z1), some (.int z2), some (.int z3), some (.int z4), some (.int z5), some (.int z6), some (.int y7), some (.int y8), none, none], [(.int (nI 1)), (.int z3)], mkM M)) rfl ?_
      refine aG_le (a := [some (.ref 0), some (.int z1), some (.int z2), none, some (.int z4), some (.int z5), some (.int z6), some (.int y7), none, none, none]) ⟨rfl, ⟨rfl, ⟨rfl, ⟨rfl, ⟨rfl, ⟨rfl, ⟨rfl, trivial⟩⟩⟩⟩⟩⟩⟩ ?_
      exact wjk_X12_blind_188 hK84 h
    · have h := h2 q19
      refine aG_if (cd := .eq) (b := false) (decide_eq_false q19) rfl ?_
      refine aG_n 2 (s' := (188, [some (.ref 0), some (.int z1), some (.int z2), some (.int z3), some (.int z4), some (.int z5), some (.int z6), some (.int y7), some (.int y8), none, none], [(.int (nI 0)), (.int z3)], mkM M)) rfl ?_
      refine aG_le (a := [some (.ref 0), some (.int z1), some (.int z2), none, some (.int z4), some (.int z5), some (.int z6), some (.int y7), none, none, none]) ⟨rfl, ⟨rfl, ⟨rfl, ⟨rfl, ⟨rfl, ⟨rfl, ⟨rfl, trivial⟩⟩⟩⟩⟩⟩⟩ ?_
      exact wjk_X12_blind_188 hK84 h
  · have h := h2 q18
    refine aG_icmp (cd := .ge) (b := false) (decide_eq_false q18) rfl ?_
    refine aG_n 10 (s' := (132, [some (.ref 0), some (.int z1), some (.int z2), some (.int z3), some (.int z4), some (.int z5), some (.int z6), some (.int y7), some (.int y8), none, none], [(.int y8), (.int z1), (.ref 0), (.int (((nI 8) * z6) + y8)), (.ref 38)], mkM M)) rfl ?_
    refine aG_call rfl rfl (aG_mono (wk_X12_answerNow h) ?_)
    rintro _ ⟨r30, M31, rfl, h⟩
    refine aG_n 0 (s' := (135, [some (.ref 0), some (.int z1), some (.int z2), some (.int z3), some (.int z4), some (.int z5), some (.int z6), some (.int y7), some (.int y8), none, none], [(.int r30), (.int (((nI 8) * z6) + y8)), (.ref 38)], mkM M31)) rfl ?_
    obtain ⟨f32, h⟩ := h
    refine aG_iast rfl rfl f32 ?_
    refine aG_n 1 (s' := (138, [some (.ref 0), some (.int z1), some (.int z2), some (.int z3), some (.int z4), some (.int z5), some (.int z6), some (.int y7), some (.int y8), none, none], [(.int y7)], mkM (si M31 38 (((nI 8) * z6) + y8).toNatClampNeg r30))) rfl ?_
    obtain ⟨h1, h2⟩ := h
    by_cases q33 : y7 = (nI 0)
    · have h := h1 q33
      refine aG_if (cd := .ne) (b := false) (aTne0 q33) rfl ?_
      refine aG_n 7 (s' := (153, [some (.ref 0), some (.int z1), some (.int z2), some (.int z3), some (.int z4), some (.int z5), some (.int z6), some (.int y7), some (.int y8), none, none], [(.int (((nI 8) * z6) + y8)), (.ref 38)], mkM (si M31 38 (((nI 8) * z6) + y8).toNatClampNeg r30))) rfl ?_
      obtain ⟨f34, h⟩ := h
      refine aG_iald rfl rfl rfl f34 ?_
      refine aG_n 3 (s' := (160, [some (.ref 0), some (.int z1), some (.int z2), some (.int z3), some (.int z4), some (.int z5), some (.int z6), some (.int y7), some (.int y8), none, none], [(.int y8), (.ref 37), (.int (gi (si M31 38 (((nI 8) * z6) + y8).toNatClampNeg r30) 38 (((nI 8) * z6) + y8).toNatClampNeg))], mkM (si M31 38 (((nI 8) * z6) + y8).toNatClampNeg r30))) rfl ?_
      obtain ⟨f35, h⟩ := h
      refine aG_iald rfl rfl rfl f35 ?_
      refine aG_n 0 (s' := (161, [some (.ref 0), some (.int z1), some (.int z2), some (.int z3), some (.int z4), some (.int z5), some (.int z6), some (.int y7), some (.int y8), none, none], [(.int (gi M31 37 y8.toNatClampNeg)), (.int (gi (si M31 38 (((nI 8) * z6) + y8).toNatClampNeg r30) 38 (((nI 8) * z6) + y8).toNatClampNeg))], mkM (si M31 38 (((nI 8) * z6) + y8).toNatClampNeg r30))) rfl ?_
      obtain ⟨h1, h2⟩ := h
      by_cases q36 : (gi (si M31 38 (((nI 8) * z6) + y8).toNatClampNeg r30) 38 (((nI 8) * z6) + y8).toNatClampNeg) = (gi M31 37 y8.toNatClampNeg)
      · have h := h1 q36
        refine aG_icmp (cd := .eq) (b := true) (decide_eq_true q36) rfl ?_
        refine aG_n 4 (s' := (107, [some (.ref 0), some (.int z1), some (.int z2), some (.int z3), some (.int z4), some (.int z5), some (.int z6), some (.int (nI 0)), some (.int (y8 + (nI 1))), none, none], [], mkM (si M31 38 (((nI 8) * z6) + y8).toNatClampNeg r30))) rfl ?_
        refine aG_le (a := [some (.ref 0), some (.int z1), some (.int z2), some (.int z3), some (.int z4), some (.int z5), some (.int z6), some (.int (nI 0)), some (.int (y8 + (nI 1))), none, none]) ⟨rfl, ⟨rfl, ⟨rfl, ⟨rfl, ⟨rfl, ⟨rfl, ⟨rfl, ⟨rfl, ⟨rfl, trivial⟩⟩⟩⟩⟩⟩⟩⟩⟩ ?_
        exact hK107 _ _ _ h
      · have h := h2 q36
        refine aG_icmp (cd := .eq) (b := false) (decide_eq_false q36) rfl ?_
        refine aG_n 5 (s' := (107, [some (.ref 0), some (.int z1), some (.int z2), some (.int z3), some (.int z4), some (.int z5), some (.int z6), some (.int (nI 1)), some (.int (y8 + (nI 1))), none, none], [], mkM (si M31 38 (((nI 8) * z6) + y8).toNatClampNeg r30))) rfl ?_
        refine aG_le (a := [some (.ref 0), some (.int z1), some (.int z2), some (.int z3), some (.int z4), some (.int z5), some (.int z6), some (.int (nI 1)), some (.int (y8 + (nI 1))), none, none]) ⟨rfl, ⟨rfl, ⟨rfl, ⟨rfl, ⟨rfl, ⟨rfl, ⟨rfl, ⟨rfl, ⟨rfl, trivial⟩⟩⟩⟩⟩⟩⟩⟩⟩ ?_
        exact hK107 _ _ _ h
    · have h := h2 q33
      refine aG_if (cd := .ne) (b := true) (aTne1 q33) rfl ?_
      refine aG_n 5 (s' := (107, [some (.ref 0), some (.int z1), some (.int z2), some (.int z3), some (.int z4), some (.int z5), some (.int z6), some (.int (nI 1)), some (.int (y8 + (nI 1))), none, none], [], mkM (si M31 38 (((nI 8) * z6) + y8).toNatClampNeg r30))) rfl ?_
      refine aG_le (a := [some (.ref 0), some (.int z1), some (.int z2), some (.int z3), some (.int z4), some (.int z5), some (.int z6), some (.int (nI 1)), some (.int (y8 + (nI 1))), none, none]) ⟨rfl, ⟨rfl, ⟨rfl, ⟨rfl, ⟨rfl, ⟨rfl, ⟨rfl, ⟨rfl, ⟨rfl, trivial⟩⟩⟩⟩⟩⟩⟩⟩⟩ ?_
      exact hK107 _ _ _ h
def wL_X12_blind_107 (z1 : Int32) (z2 : Int32) (z3 : Int32) (z4 : Int32) (z5 : Int32) (z6 : Int32) (K84 : Int32 → Int32 → Int32 → Int32 → wM → Prop) (Q : Int32 → wM → Prop) : Nat → Int32 → Int32 → wM → Prop
  | 0, _, _, _ => False
  | n + 1, y7, y8, M => wb_X12_blind_107 z1 z2 z3 z4 z5 z6 K84 (wL_X12_blind_107 z1 z2 z3 z4 z5 z6 K84 Q n) y7 y8 M Q
set_option maxRecDepth 20000 in
theorem wLk_X12_blind_107 {z1 : Int32} {z2 : Int32} {z3 : Int32} {z4 : Int32} {z5 : Int32} {z6 : Int32} {K84 : Int32 → Int32 → Int32 → Int32 → wM → Prop} {Q : Int32 → wM → Prop} (hK84 : ∀ (v3 : Int32) (v4 : Int32) (v5 : Int32) (v6 : Int32) (M : wM), K84 v3 v4 v5 v6 M → aG 183 (84, [some (.ref 0), some (.int z1), some (.int z2), some (.int v3), some (.int v4), some (.int v5), some (.int v6), none, none, none, none], [], mkM M) (aPi mkM Q)) : ∀ (n : Nat) (y7 : Int32) (y8 : Int32) (M : wM), wL_X12_blind_107 z1 z2 z3 z4 z5 z6 K84 Q n y7 y8 M → aG 183 (107, [some (.ref 0), some (.int z1), some (.int z2), some (.int z3), some (.int z4), some (.int z5), some (.int z6), some (.int y7), some (.int y8), none, none], [], mkM M) (aPi mkM Q)
  | 0, _, _, _, h => h.elim
  | n + 1, y7, y8, M, h => wbk_X12_blind_107 hK84 (fun y7 y8 M h => wLk_X12_blind_107 hK84 n y7 y8 M h) h
def wb_X12_blind_84 (z1 : Int32) (z2 : Int32) (K84 : Int32 → Int32 → Int32 → Int32 → wM → Prop) (y3 : Int32) (y4 : Int32) (y5 : Int32) (y6 : Int32) (M : wM) (Q : Int32 → wM → Prop) : Prop := w_X12_faults M (fun r11 M12 => (r11 ≤ y6 → (z2 = (nI 0) → Q y3 M12) ∧ (¬ z2 = (nI 0) → (z2 = (nI 1) → Q y5 M12) ∧ (¬ z2 = (nI 1) → Q y4 M12))) ∧ (¬ r11 ≤ y6 → w_X12_guesses y6 (-4) M12 (fun M17 => ∃ n, wL_X12_blind_107 z1 z2 y3 y4 y5 y6 K84 Q n (nI 0) (nI 0) M17)))
set_option maxRecDepth 20000 in
theorem wbk_X12_blind_84 {z1 : Int32} {z2 : Int32} {K84 : Int32 → Int32 → Int32 → Int32 → wM → Prop} {y3 : Int32} {y4 : Int32} {y5 : Int32} {y6 : Int32} {M : wM} {Q : Int32 → wM → Prop} (hK84 : ∀ (v3 : Int32) (v4 : Int32) (v5 : Int32) (v6 : Int32) (M : wM), K84 v3 v4 v5 v6 M → aG 183 (84, [some (.ref 0), some (.int z1), some (.int z2), some (.int v3), some (.int v4), some (.int v5), some (.int v6), none, none, none, none], [], mkM M) (aPi mkM Q)) (h : wb_X12_blind_84 z1 z2 K84 y3 y4 y5 y6 M Q) : aG 183 (84, [some (.ref 0), some (.int z1), some (.int z2), some (.int y3), some (.int y4), some (.int y5), some (.int y6), none, none, none, none], [], mkM M) (aPi mkM Q) := by
  unfold wb_X12_blind_84 at h
  refine aG_n 2 (s' := (87, [some (.ref 0), some (.int z1), some (.int z2), some (.int y3), some (.int y4), some (.int y5), some (.int y6), none, none, none, none], [(.ref 0), (.int y6)], mkM M)) rfl ?_
  refine aG_call rfl rfl (aG_mono (wk_X12_faults h) ?_)
  rintro _ ⟨r11, M12, rfl, h⟩
  refine aG_n 0 (s' := (90, [some (.ref 0), some (.int z1), some (.int z2), some (.int y3), some (.int y4), some (.int y5), some (.int y6), none, none, none, none], [(.int r11), (.int y6)], mkM M12)) rfl ?_
  obtain ⟨h1, h2⟩ := h
  by_cases q13 : r11 ≤ y6
  · have h := h1 q13
    refine aG_icmp (cd := .ge) (b := true) (decide_eq_true q13) rfl ?_
    refine aG_n 1 (s' := (316, [some (.ref 0), some (.int z1), some (.int z2), some (.int y3), some (.int y4), some (.int y5), some (.int y6), none, none, none, none], [(.int z2)], mkM M12)) rfl ?_
    obtain ⟨h1, h2⟩ := h
    by_cases q14 : z2 = (nI 0)
    · have h := h1 q14
      refine aG_if (cd := .ne) (b := false) (aTne0 q14) rfl ?_
      refine aG_n 2 (s' := (335, [some (.ref 0), some (.int z1), some (.int z2), some (.int y3), some (.int y4), some (.int y5), some (.int y6), none, none, none, none], [(.int y3)], mkM M12)) rfl ?_
      exact aG_ret0 rfl rfl ⟨_, _, rfl, h⟩
    · have h := h2 q14
      refine aG_if (cd := .ne) (b := true) (aTne1 q14) rfl ?_
      refine aG_n 2 (s' := (325, [some (.ref 0), some (.int z1), some (.int z2), some (.int y3), some (.int y4), some (.int y5), some (.int y6), none, none, none, none], [(.int (nI 1)), (.int z2)], mkM M12)) rfl ?_
      obtain ⟨h1, h2⟩ := h
      by_cases q15 : z2 = (nI 1)
      · have h := h1 q15
        refine aG_icmp (cd := .ne) (b := false) (aTne0 q15) rfl ?_
        refine aG_n 2 (s' := (335, [some (.ref 0), some (.int z1), some (.int z2), some (.int y3), some (.int y4), some (.int y5), some (.int y6), none, none, none, none], [(.int y5)], mkM M12)) rfl ?_
        exact aG_ret0 rfl rfl ⟨_, _, rfl, h⟩
      · have h := h2 q15
        refine aG_icmp (cd := .ne) (b := true) (aTne1 q15) rfl ?_
        refine aG_n 1 (s' := (335, [some (.ref 0), some (.int z1), some (.int z2), some (.int y3), some (.int y4), some (.int y5), some (.int y6), none, none, none, none], [(.int y4)], mkM M12)) rfl ?_
        exact aG_ret0 rfl rfl ⟨_, _, rfl, h⟩
  · have h := h2 q13
    refine aG_icmp (cd := .ge) (b := false) (decide_eq_false q13) rfl ?_
    refine aG_n 3 (s' := (98, [some (.ref 0), some (.int z1), some (.int z2), some (.int y3), some (.int y4), some (.int y5), some (.int y6), none, none, none, none], [(.int (-4)), (.int y6), (.ref 0)], mkM M12)) rfl ?_
    refine aG_call rfl rfl (aG_mono (wk_X12_guesses h) ?_)
    rintro _ ⟨M17, rfl, h⟩
    refine aG_n 4 (s' := (107, [some (.ref 0), some (.int z1), some (.int z2), some (.int y3), some (.int y4), some (.int y5), some (.int y6), some (.int (nI 0)), some (.int (nI 0)), none, none], [], mkM M17)) rfl ?_
    refine aG_le (a := [some (.ref 0), some (.int z1), some (.int z2), some (.int y3), some (.int y4), some (.int y5), some (.int y6), some (.int (nI 0)), some (.int (nI 0)), none, none]) ⟨rfl, ⟨rfl, ⟨rfl, ⟨rfl, ⟨rfl, ⟨rfl, ⟨rfl, ⟨rfl, ⟨rfl, trivial⟩⟩⟩⟩⟩⟩⟩⟩⟩ ?_
    obtain ⟨n, h⟩ := h
    exact wLk_X12_blind_107 hK84 n _ _ _ h
def wL_X12_blind_84 (z1 : Int32) (z2 : Int32) (Q : Int32 → wM → Prop) : Nat → Int32 → Int32 → Int32 → Int32 → wM → Prop
  | 0, _, _, _, _, _ => False
  | n + 1, y3, y4, y5, y6, M => wb_X12_blind_84 z1 z2 (wL_X12_blind_84 z1 z2 Q n) y3 y4 y5 y6 M Q
set_option maxRecDepth 20000 in
theorem wLk_X12_blind_84 {z1 : Int32} {z2 : Int32} {Q : Int32 → wM → Prop} : ∀ (n : Nat) (y3 : Int32) (y4 : Int32) (y5 : Int32) (y6 : Int32) (M : wM), wL_X12_blind_84 z1 z2 Q n y3 y4 y5 y6 M → aG 183 (84, [some (.ref 0), some (.int z1), some (.int z2), some (.int y3), some (.int y4), some (.int y5), some (.int y6), none, none, none, none], [], mkM M) (aPi mkM Q)
  | 0, _, _, _, _, _, h => h.elim
  | n + 1, y3, y4, y5, y6, M, h => wbk_X12_blind_84 (fun y3 y4 y5 y6 M h => wLk_X12_blind_84 n y3 y4 y5 y6 M h) h
def wb_X12_blind_46 (z1 : Int32) (z2 : Int32) (K46 : Int32 → wM → Prop) (y3 : Int32) (M : wM) (Q : Int32 → wM → Prop) : Prop := ((gi M 0 41) ≤ y3 → ∃ n, wL_X12_blind_84 z1 z2 Q n (nI 0) (-4) (nI 0) (nI 0) M) ∧ (¬ (gi M 0 41) ≤ y3 → w_X12_answerNow z1 y3 M (fun r37 M38 => vp_in y3 8 ∧ (K46 (y3 + (nI 1)) (si M38 37 y3.toNatClampNeg r37))))
set_option maxRecDepth 20000 in
theorem wbk_X12_blind_46 {z1 : Int32} {z2 : Int32} {K46 : Int32 → wM → Prop} {y3 : Int32} {M : wM} {Q : Int32 → wM → Prop} (hK46 : ∀ (v3 : Int32) (M : wM), K46 v3 M → aG 183 (46, [some (.ref 0), some (.int z1), some (.int z2), some (.int v3), none, none, none, none, none, none, none], [], mkM M) (aPi mkM Q)) (h : wb_X12_blind_46 z1 z2 K46 y3 M Q) : aG 183 (46, [some (.ref 0), some (.int z1), some (.int z2), some (.int y3), none, none, none, none, none, none, none], [], mkM M) (aPi mkM Q) := by
  unfold wb_X12_blind_46 at h
  refine aG_n 3 (s' := (51, [some (.ref 0), some (.int z1), some (.int z2), some (.int y3), none, none, none, none, none, none, none], [(.int (gi M 0 41)), (.int y3)], mkM M)) rfl ?_
  obtain ⟨h1, h2⟩ := h
  by_cases q10 : (gi M 0 41) ≤ y3
  · have h := h1 q10
    refine aG_icmp (cd := .ge) (b := true) (decide_eq_true q10) rfl ?_
    refine aG_n 8 (s' := (84, [some (.ref 0), some (.int z1), some (.int z2), some (.int (nI 0)), some (.int (-4)), some (.int (nI 0)), some (.int (nI 0)), none, none, none, none], [], mkM M)) rfl ?_
    refine aG_le (a := [some (.ref 0), some (.int z1), some (.int z2), some (.int (nI 0)), some (.int (-4)), some (.int (nI 0)), some (.int (nI 0)), none, none, none, none]) ⟨rfl, ⟨rfl, ⟨rfl, ⟨rfl, ⟨rfl, ⟨rfl, ⟨rfl, trivial⟩⟩⟩⟩⟩⟩⟩ ?_
    obtain ⟨n, h⟩ := h
    exact wLk_X12_blind_84 n _ _ _ _ _ h
  · have h := h2 q10
    refine aG_icmp (cd := .ge) (b := false) (decide_eq_false q10) rfl ?_
    refine aG_n 6 (s' := (62, [some (.ref 0), some (.int z1), some (.int z2), some (.int y3), none, none, none, none, none, none, none], [(.int y3), (.int z1), (.ref 0), (.int y3), (.ref 37)], mkM M)) rfl ?_
    refine aG_call rfl rfl (aG_mono (wk_X12_answerNow h) ?_)
    rintro _ ⟨r37, M38, rfl, h⟩
    refine aG_n 0 (s' := (65, [some (.ref 0), some (.int z1), some (.int z2), some (.int y3), none, none, none, none, none, none, none], [(.int r37), (.int y3), (.ref 37)], mkM M38)) rfl ?_
    obtain ⟨f39, h⟩ := h
    refine aG_iast rfl rfl f39 ?_
    refine aG_n 2 (s' := (46, [some (.ref 0), some (.int z1), some (.int z2), some (.int (y3 + (nI 1))), none, none, none, none, none, none, none], [], mkM (si M38 37 y3.toNatClampNeg r37))) rfl ?_
    refine aG_le (a := [some (.ref 0), some (.int z1), some (.int z2), some (.int (y3 + (nI 1))), none, none, none, none, none, none, none]) ⟨rfl, ⟨rfl, ⟨rfl, ⟨rfl, trivial⟩⟩⟩⟩ ?_
    exact hK46 _ _ h
def wL_X12_blind_46 (z1 : Int32) (z2 : Int32) (Q : Int32 → wM → Prop) : Nat → Int32 → wM → Prop
  | 0, _, _ => False
  | n + 1, y3, M => wb_X12_blind_46 z1 z2 (wL_X12_blind_46 z1 z2 Q n) y3 M Q
set_option maxRecDepth 20000 in
theorem wLk_X12_blind_46 {z1 : Int32} {z2 : Int32} {Q : Int32 → wM → Prop} : ∀ (n : Nat) (y3 : Int32) (M : wM), wL_X12_blind_46 z1 z2 Q n y3 M → aG 183 (46, [some (.ref 0), some (.int z1), some (.int z2), some (.int y3), none, none, none, none, none, none, none], [], mkM M) (aPi mkM Q)
  | 0, _, _, h => h.elim
  | n + 1, y3, M, h => wbk_X12_blind_46 (fun y3 M h => wLk_X12_blind_46 n y3 M h) h
def w_X12_blind (x1 : Int32) (x2 : Int32) (M : wM) (Q : Int32 → wM → Prop) : Prop := w_X12_in x1.toInt64 (lN 0) (lN 2) M (fun r1 M2 => (r1 = (nI 0) → Q (-1) M2) ∧ (¬ r1 = (nI 0) → w_X12_in x2.toInt64 (lN 0) (lN 2) M2 (fun r4 M5 => (r4 = (nI 0) → Q (-1) M5) ∧ (¬ r4 = (nI 0) → ((gi M5 0 41) = (nI 0) → Q (-2) M5) ∧ (¬ (gi M5 0 41) = (nI 0) → w_X12_guesses (-4) (-4) M5 (fun M9 => ∃ n, wL_X12_blind_46 x1 x2 Q n (nI 0) M9))))))
set_option maxRecDepth 20000 in
theorem wk_X12_blind {x1 : Int32} {x2 : Int32} {M : wM} {Q : Int32 → wM → Prop} (h : w_X12_blind x1 x2 M Q) : aG 183 (aEn 183 [(.ref 0), (.int x1), (.int x2)] (mkM M)) (aPi mkM Q) := by
  unfold w_X12_blind at h
  refine aG_n 4 (s' := (6, [some (.ref 0), some (.int x1), some (.int x2), none, none, none, none, none, none, none, none], [(.long (lN 2)), (.long (lN 0)), (.long x1.toInt64)], mkM M)) rfl ?_
  refine aG_call rfl rfl (aG_mono (wk_X12_in h) ?_)
  rintro _ ⟨r1, M2, rfl, h⟩
  refine aG_n 0 (s' := (9, [some (.ref 0), some (.int x1), some (.int x2), none, none, none, none, none, none, none, none], [(.int r1)], mkM M2)) rfl ?_
  obtain ⟨h1, h2⟩ := h
  by_cases q3 : r1 = (nI 0)
  · have h := h1 q3
    refine aG_if (cd := .eq) (b := true) (decide_eq_true q3) rfl ?_
    refine aG_n 1 (s' := (25, [some (.ref 0), some (.int x1), some (.int x2), none, none, none, none, none, none, none, none], [(.int (-1))], mkM M2)) rfl ?_
    exact aG_ret0 rfl rfl ⟨_, _, rfl, h⟩
  · have h := h2 q3
    refine aG_if (cd := .eq) (b := false) (decide_eq_false q3) rfl ?_
    refine aG_n 4 (s' := (18, [some (.ref 0), some (.int x1), some (.int x2), none, none, none, none, none, none, none, none], [(.long (lN 2)), (.long (lN 0)), (.long x2.toInt64)], mkM M2)) rfl ?_
    refine aG_call rfl rfl (aG_mono (wk_X12_in h) ?_)
    rintro _ ⟨r4, M5, rfl, h⟩
    refine aG_n 0 (s' := (21, [some (.ref 0), some (.int x1), some (.int x2), none, none, none, none, none, none, none, none], [(.int r4)], mkM M5)) rfl ?_
    obtain ⟨h1, h2⟩ := h
    by_cases q6 : r4 = (nI 0)
    · have h := h1 q6
      refine aG_if (cd := .ne) (b := false) (aTne0 q6) rfl ?_
      refine aG_n 1 (s' := (25, [some (.ref 0), some (.int x1), some (.int x2), none, none, none, none, none, none, none, none], [(.int (-1))], mkM M5)) rfl ?_
      exact aG_ret0 rfl rfl ⟨_, _, rfl, h⟩
    · have h := h2 q6
      refine aG_if (cd := .ne) (b := true) (aTne1 q6) rfl ?_
      refine aG_n 2 (s' := (30, [some (.ref 0), some (.int x1), some (.int x2), none, none, none, none, none, none, none, none], [(.int (gi M5 0 41))], mkM M5)) rfl ?_
      obtain ⟨h1, h2⟩ := h
      by_cases q7 : (gi M5 0 41) = (nI 0)
      · have h := h1 q7
        refine aG_if (cd := .ne) (b := false) (aTne0 q7) rfl ?_
        refine aG_n 1 (s' := (35, [some (.ref 0), some (.int x1), some (.int x2), none, none, none, none, none, none, none, none], [(.int (-2))], mkM M5)) rfl ?_
        exact aG_ret0 rfl rfl ⟨_, _, rfl, h⟩
      · have h := h2 q7
        refine aG_if (cd := .ne) (b := true) (aTne1 q7) rfl ?_
        refine aG_n 3 (s' := (41, [some (.ref 0), some (.int x1), some (.int x2), none, none, none, none, none, none, none, none], [(.int (-4)), (.int (-4)), (.ref 0)], mkM M5)) rfl ?_
        refine aG_call rfl rfl (aG_mono (wk_X12_guesses h) ?_)
        rintro _ ⟨M9, rfl, h⟩
        refine aG_n 2 (s' := (46, [some (.ref 0), some (.int x1), some (.int x2), some (.int (nI 0)), none, none, none, none, none, none, none], [], mkM M9)) rfl ?_
        refine aG_le (a := [some (.ref 0), some (.int x1), some (.int x2), some (.int (nI 0)), none, none, none, none, none, none, none]) ⟨rfl, ⟨rfl, ⟨rfl, ⟨rfl, trivial⟩⟩⟩⟩ ?_
        obtain ⟨n, h⟩ := h
        exact wLk_X12_blind_46 n _ _ h
