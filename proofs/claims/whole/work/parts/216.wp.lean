/-! methods as predicates, and their walks (by gen/wpgen.py) -/
def wj_X7_readItem_188 (z1 : Nat) (s1 : Int32) (M : wM) (Q : Int32 → wM → Prop) : Prop := w_X7_isNew s1 M (fun r12 M13 => (r12 = (nI 0) → Q (nI 0) M13) ∧ (¬ r12 = (nI 0) → w_X7_takeName M13 (fun r15 M16 => (r15 = (nI 0) → Q (nI 0) M16) ∧ (¬ r15 = (nI 0) → w_X7_putCells z1 M16 (fun r18 M19 => (r18 = (nI 0) → Q (nI 0) M19) ∧ (¬ r18 = (nI 0) → Q (nI 1) M19))))))
set_option maxRecDepth 20000 in
theorem wjk_X7_readItem_188 {z1 : Nat} {s1 : Int32} {M : wM} {Q : Int32 → wM → Prop} (hz1 : ptX z1) (h : wj_X7_readItem_188 z1 s1 M Q) : aG 211 (188, [some (.ref 3), some (.ref z1)], [(.int s1), (.ref 3)], mkX M) (aPi mkX Q) := by
  unfold wj_X7_readItem_188 at h
  refine aG_call rfl rfl (aG_mono (wk_X7_isNew h) ?_)
  rintro _ ⟨r12, M13, rfl, h⟩
  refine aG_n 0 (s' := (191, [some (.ref 3), some (.ref z1)], [(.int r12)], mkX M13)) rfl ?_
  obtain ⟨h1, h2⟩ := h
  by_cases q14 : r12 = (nI 0)
  · have h := h1 q14
    refine aG_if (cd := .eq) (b := true) (decide_eq_true q14) rfl ?_
    refine aG_n 1 (s' := (214, [some (.ref 3), some (.ref z1)], [(.int (nI 0))], mkX M13)) rfl ?_
    exact aG_retZ rfl rfl (Or.inl rfl) ⟨_, _, rfl, h⟩
  · have h := h2 q14
    refine aG_if (cd := .eq) (b := false) (decide_eq_false q14) rfl ?_
    refine aG_n 1 (s' := (195, [some (.ref 3), some (.ref z1)], [(.ref 3)], mkX M13)) rfl ?_
    refine aG_call rfl rfl (aG_mono (wk_X7_takeName h) ?_)
    rintro _ ⟨r15, M16, rfl, h⟩
    refine aG_n 0 (s' := (198, [some (.ref 3), some (.ref z1)], [(.int r15)], mkX M16)) rfl ?_
    obtain ⟨h1, h2⟩ := h
    by_cases q17 : r15 = (nI 0)
    · have h := h1 q17
      refine aG_if (cd := .eq) (b := true) (decide_eq_true q17) rfl ?_
      refine aG_n 1 (s' := (214, [some (.ref 3), some (.ref z1)], [(.int (nI 0))], mkX M16)) rfl ?_
      exact aG_retZ rfl rfl (Or.inl rfl) ⟨_, _, rfl, h⟩
    · have h := h2 q17
      refine aG_if (cd := .eq) (b := false) (decide_eq_false q17) rfl ?_
      refine aG_n 2 (s' := (203, [some (.ref 3), some (.ref z1)], [(.ref z1), (.ref 3)], mkX M16)) rfl ?_
      refine aG_call rfl rfl (aG_mono (wk_X7_putCells h) ?_)
      rintro _ ⟨r18, M19, rfl, h⟩
      refine aG_n 0 (s' := (206, [some (.ref 3), some (.ref z1)], [(.int r18)], mkX M19)) rfl ?_
      obtain ⟨h1, h2⟩ := h
      by_cases q20 : r18 = (nI 0)
      · have h := h1 q20
        refine aG_if (cd := .eq) (b := true) (decide_eq_true q20) rfl ?_
        refine aG_n 1 (s' := (214, [some (.ref 3), some (.ref z1)], [(.int (nI 0))], mkX M19)) rfl ?_
        exact aG_retZ rfl rfl (Or.inl rfl) ⟨_, _, rfl, h⟩
      · have h := h2 q20
        refine aG_if (cd := .eq) (b := false) (decide_eq_false q20) rfl ?_
        refine aG_n 2 (s' := (214, [some (.ref 3), some (.ref z1)], [(.int (nI 1))], mkX M19)) rfl ?_
        exact aG_retZ rfl rfl (Or.inr rfl) ⟨_, _, rfl, h⟩
def wj_X7_readItem_134 (z1 : Nat) (s1 : Int32) (M : wM) (Q : Int32 → wM → Prop) : Prop := w_X7_isNew s1 M (fun r22 M23 => (r22 = (nI 0) → Q (nI 0) M23) ∧ (¬ r22 = (nI 0) → w_X7_greatestCode z1 M23 (fun r25 M26 => w_X7_takeNumber (nI 0) r25 M26 (fun r27 M28 => (r27 = (nI 0) → Q (nI 0) M28) ∧ (¬ r27 = (nI 0) → w_X7_putExtest z1 M28 (fun r30 M31 => (r30 = (nI 0) → Q (nI 0) M31) ∧ (¬ r30 = (nI 0) → Q (nI 1) M31)))))))
set_option maxRecDepth 20000 in
theorem wjk_X7_readItem_134 {z1 : Nat} {s1 : Int32} {M : wM} {Q : Int32 → wM → Prop} (hz1 : ptX z1) (h : wj_X7_readItem_134 z1 s1 M Q) : aG 211 (134, [some (.ref 3), some (.ref z1)], [(.int s1), (.ref 3)], mkX M) (aPi mkX Q) := by
  unfold wj_X7_readItem_134 at h
  refine aG_call rfl rfl (aG_mono (wk_X7_isNew h) ?_)
  rintro _ ⟨r22, M23, rfl, h⟩
  refine aG_n 0 (s' := (137, [some (.ref 3), some (.ref z1)], [(.int r22)], mkX M23)) rfl ?_
  obtain ⟨h1, h2⟩ := h
  by_cases q24 : r22 = (nI 0)
  · have h := h1 q24
    refine aG_if (cd := .eq) (b := true) (decide_eq_true q24) rfl ?_
    refine aG_n 1 (s' := (165, [some (.ref 3), some (.ref z1)], [(.int (nI 0))], mkX M23)) rfl ?_
    exact aG_retZ rfl rfl (Or.inl rfl) ⟨_, _, rfl, h⟩
  · have h := h2 q24
    refine aG_if (cd := .eq) (b := false) (decide_eq_false q24) rfl ?_
    refine aG_n 3 (s' := (143, [some (.ref 3), some (.ref z1)], [(.ref z1), (.int (nI 0)), (.ref 3)], mkX M23)) rfl ?_
    refine aG_call rfl rfl (aG_mono (wk_X7_greatestCode h) ?_)
    rintro _ ⟨r25, M26, rfl, h⟩
    refine aG_n 0 (s' := (146, [some (.ref 3), some (.ref z1)], [(.int r25), (.int (nI 0)), (.ref 3)], mkX M26)) rfl ?_
    refine aG_call rfl rfl (aG_mono (wk_X7_takeNumber h) ?_)
    rintro _ ⟨r27, M28, rfl, h⟩
    refine aG_n 0 (s' := (149, [some (.ref 3), some (.ref z1)], [(.int r27)], mkX M28)) rfl ?_
    obtain ⟨h1, h2⟩ := h
    by_cases q29 : r27 = (nI 0)
    · have h := h1 q29
      refine aG_if (cd := .eq) (b := true) (decide_eq_true q29) rfl ?_
      refine aG_n 1 (s' := (165, [some (.ref 3), some (.ref z1)], [(.int (nI 0))], mkX M28)) rfl ?_
      exact aG_retZ rfl rfl (Or.inl rfl) ⟨_, _, rfl, h⟩
    · have h := h2 q29
      refine aG_if (cd := .eq) (b := false) (decide_eq_false q29) rfl ?_
      refine aG_n 2 (s' := (154, [some (.ref 3), some (.ref z1)], [(.ref z1), (.ref 3)], mkX M28)) rfl ?_
      refine aG_call rfl rfl (aG_mono (wk_X7_putExtest h) ?_)
      rintro _ ⟨r30, M31, rfl, h⟩
      refine aG_n 0 (s' := (157, [some (.ref 3), some (.ref z1)], [(.int r30)], mkX M31)) rfl ?_
      obtain ⟨h1, h2⟩ := h
      by_cases q32 : r30 = (nI 0)
      · have h := h1 q32
        refine aG_if (cd := .eq) (b := true) (decide_eq_true q32) rfl ?_
        refine aG_n 1 (s' := (165, [some (.ref 3), some (.ref z1)], [(.int (nI 0))], mkX M31)) rfl ?_
        exact aG_retZ rfl rfl (Or.inl rfl) ⟨_, _, rfl, h⟩
      · have h := h2 q32
        refine aG_if (cd := .eq) (b := false) (decide_eq_false q32) rfl ?_
        refine aG_n 2 (s' := (165, [some (.ref 3), some (.ref z1)], [(.int (nI 1))], mkX M31)) rfl ?_
        exact aG_retZ rfl rfl (Or.inr rfl) ⟨_, _, rfl, h⟩
def wj_X7_readItem_78 (z1 : Nat) (s1 : Int32) (M : wM) (Q : Int32 → wM → Prop) : Prop := w_X7_isNew s1 M (fun r34 M35 => (r34 = (nI 0) → Q (nI 0) M35) ∧ (¬ r34 = (nI 0) → w_X7_greatestCode z1 M35 (fun r37 M38 => w_X7_takeNumber (nI 0) r37 M38 (fun r39 M40 => (r39 = (nI 0) → Q (nI 0) M40) ∧ (¬ r39 = (nI 0) → w_X7_putSample z1 M40 (fun r42 M43 => (r42 = (nI 0) → Q (nI 0) M43) ∧ (¬ r42 = (nI 0) → Q (nI 1) M43)))))))
set_option maxRecDepth 20000 in
theorem wjk_X7_readItem_78 {z1 : Nat} {s1 : Int32} {M : wM} {Q : Int32 → wM → Prop} (hz1 : ptX z1) (h : wj_X7_readItem_78 z1 s1 M Q) : aG 211 (78, [some (.ref 3), some (.ref z1)], [(.int s1), (.ref 3)], mkX M) (aPi mkX Q) := by
  unfold wj_X7_readItem_78 at h
  refine aG_call rfl rfl (aG_mono (wk_X7_isNew h) ?_)
  rintro _ ⟨r34, M35, rfl, h⟩
  refine aG_n 0 (s' := (81, [some (.ref 3), some (.ref z1)], [(.int r34)], mkX M35)) rfl ?_
  obtain ⟨h1, h2⟩ := h
  by_cases q36 : r34 = (nI 0)
  · have h := h1 q36
    refine aG_if (cd := .eq) (b := true) (decide_eq_true q36) rfl ?_
    refine aG_n 1 (s' := (109, [some (.ref 3), some (.ref z1)], [(.int (nI 0))], mkX M35)) rfl ?_
    exact aG_retZ rfl rfl (Or.inl rfl) ⟨_, _, rfl, h⟩
  · have h := h2 q36
    refine aG_if (cd := .eq) (b := false) (decide_eq_false q36) rfl ?_
    refine aG_n 3 (s' := (87, [some (.ref 3), some (.ref z1)], [(.ref z1), (.int (nI 0)), (.ref 3)], mkX M35)) rfl ?_
    refine aG_call rfl rfl (aG_mono (wk_X7_greatestCode h) ?_)
    rintro _ ⟨r37, M38, rfl, h⟩
    refine aG_n 0 (s' := (90, [some (.ref 3), some (.ref z1)], [(.int r37), (.int (nI 0)), (.ref 3)], mkX M38)) rfl ?_
    refine aG_call rfl rfl (aG_mono (wk_X7_takeNumber h) ?_)
    rintro _ ⟨r39, M40, rfl, h⟩
    refine aG_n 0 (s' := (93, [some (.ref 3), some (.ref z1)], [(.int r39)], mkX M40)) rfl ?_
    obtain ⟨h1, h2⟩ := h
    by_cases q41 : r39 = (nI 0)
    · have h := h1 q41
      refine aG_if (cd := .eq) (b := true) (decide_eq_true q41) rfl ?_
      refine aG_n 1 (s' := (109, [some (.ref 3), some (.ref z1)], [(.int (nI 0))], mkX M40)) rfl ?_
      exact aG_retZ rfl rfl (Or.inl rfl) ⟨_, _, rfl, h⟩
    · have h := h2 q41
      refine aG_if (cd := .eq) (b := false) (decide_eq_false q41) rfl ?_
      refine aG_n 2 (s' := (98, [some (.ref 3), some (.ref z1)], [(.ref z1), (.ref 3)], mkX M40)) rfl ?_
      refine aG_call rfl rfl (aG_mono (wk_X7_putSample h) ?_)
      rintro _ ⟨r42, M43, rfl, h⟩
      refine aG_n 0 (s' := (101, [some (.ref 3), some (.ref z1)], [(.int r42)], mkX M43)) rfl ?_
      obtain ⟨h1, h2⟩ := h
      by_cases q44 : r42 = (nI 0)
      · have h := h1 q44
        refine aG_if (cd := .eq) (b := true) (decide_eq_true q44) rfl ?_
        refine aG_n 1 (s' := (109, [some (.ref 3), some (.ref z1)], [(.int (nI 0))], mkX M43)) rfl ?_
        exact aG_retZ rfl rfl (Or.inl rfl) ⟨_, _, rfl, h⟩
      · have h := h2 q44
        refine aG_if (cd := .eq) (b := false) (decide_eq_false q44) rfl ?_
        refine aG_n 2 (s' := (109, [some (.ref 3), some (.ref z1)], [(.int (nI 1))], mkX M43)) rfl ?_
        exact aG_retZ rfl rfl (Or.inr rfl) ⟨_, _, rfl, h⟩
def wj_X7_readItem_24 (z1 : Nat) (s1 : Int32) (M : wM) (Q : Int32 → wM → Prop) : Prop := w_X7_isNew s1 M (fun r46 M47 => (r46 = (nI 0) → Q (nI 0) M47) ∧ (¬ r46 = (nI 0) → w_X7_takeNumber (nI 0) (nI 999999999) M47 (fun r49 M50 => (r49 = (nI 0) → Q (nI 0) M50) ∧ (¬ r49 = (nI 0) → w_X7_putIdentity z1 M50 (fun r52 M53 => (r52 = (nI 0) → Q (nI 0) M53) ∧ (¬ r52 = (nI 0) → Q (nI 1) M53))))))
set_option maxRecDepth 20000 in
theorem wjk_X7_readItem_24 {z1 : Nat} {s1 : Int32} {M : wM} {Q : Int32 → wM → Prop} (hz1 : ptX z1) (h : wj_X7_readItem_24 z1 s1 M Q) : aG 211 (24, [some (.ref 3), some (.ref z1)], [(.int s1), (.ref 3)], mkX M) (aPi mkX Q) := by
  unfold wj_X7_readItem_24 at h
  refine aG_call rfl rfl (aG_mono (wk_X7_isNew h) ?_)
  rintro _ ⟨r46, M47, rfl, h⟩
  refine aG_n 0 (s' := (27, [some (.ref 3), some (.ref z1)], [(.int r46)], mkX M47)) rfl ?_
  obtain ⟨h1, h2⟩ := h
  by_cases q48 : r46 = (nI 0)
  · have h := h1 q48
    refine aG_if (cd := .eq) (b := true) (decide_eq_true q48) rfl ?_
    refine aG_n 1 (s' := (53, [some (.ref 3), some (.ref z1)], [(.int (nI 0))], mkX M47)) rfl ?_
    exact aG_retZ rfl rfl (Or.inl rfl) ⟨_, _, rfl, h⟩
  · have h := h2 q48
    refine aG_if (cd := .eq) (b := false) (decide_eq_false q48) rfl ?_
    refine aG_n 3 (s' := (34, [some (.ref 3), some (.ref z1)], [(.int (nI 999999999)), (.int (nI 0)), (.ref 3)], mkX M47)) rfl ?_
    refine aG_call rfl rfl (aG_mono (wk_X7_takeNumber h) ?_)
    rintro _ ⟨r49, M50, rfl, h⟩
    refine aG_n 0 (s' := (37, [some (.ref 3), some (.ref z1)], [(.int r49)], mkX M50)) rfl ?_
    obtain ⟨h1, h2⟩ := h
    by_cases q51 : r49 = (nI 0)
    · have h := h1 q51
      refine aG_if (cd := .eq) (b := true) (decide_eq_true q51) rfl ?_
      refine aG_n 1 (s' := (53, [some (.ref 3), some (.ref z1)], [(.int (nI 0))], mkX M50)) rfl ?_
      exact aG_retZ rfl rfl (Or.inl rfl) ⟨_, _, rfl, h⟩
    · have h := h2 q51
      refine aG_if (cd := .eq) (b := false) (decide_eq_false q51) rfl ?_
      refine aG_n 2 (s' := (42, [some (.ref 3), some (.ref z1)], [(.ref z1), (.ref 3)], mkX M50)) rfl ?_
      refine aG_call rfl rfl (aG_mono (wk_X7_putIdentity h) ?_)
      rintro _ ⟨r52, M53, rfl, h⟩
      refine aG_n 0 (s' := (45, [some (.ref 3), some (.ref z1)], [(.int r52)], mkX M53)) rfl ?_
      obtain ⟨h1, h2⟩ := h
      by_cases q54 : r52 = (nI 0)
      · have h := h1 q54
        refine aG_if (cd := .eq) (b := true) (decide_eq_true q54) rfl ?_
        refine aG_n 1 (s' := (53, [some (.ref 3), some (.ref z1)], [(.int (nI 0))], mkX M53)) rfl ?_
        exact aG_retZ rfl rfl (Or.inl rfl) ⟨_, _, rfl, h⟩
      · have h := h2 q54
        refine aG_if (cd := .eq) (b := false) (decide_eq_false q54) rfl ?_
        refine aG_n 2 (s' := (53, [some (.ref 3), some (.ref z1)], [(.int (nI 1))], mkX M53)) rfl ?_
        exact aG_retZ rfl rfl (Or.inr rfl) ⟨_, _, rfl, h⟩
def w_X7_readItem (x1 : Nat) (M : wM) (Q : Int32 → wM → Prop) : Prop := ptX x1 ∧ (nmP M ∧ (((nmX M 1) = (nI 0) → nmP M ∧ (((nmX M 2) = (nI 0) → nmP M ∧ (((nmX M 3) = (nI 0) → nmP M ∧ (((nmX M 4) = (nI 0) → w_X7_refuse (nI 2) M (fun r9 M10 => (r9 = nI 0 ∨ r9 = nI 1) ∧ Q r9 M10)) ∧ (¬ (nmX M 4) = (nI 0) → ((gi M x1 1) = (nI 0) → wj_X7_readItem_188 x1 (nI 1) M Q) ∧ (¬ (gi M x1 1) = (nI 0) → wj_X7_readItem_188 x1 (nI 0) M Q)))) ∧ (¬ (nmX M 3) = (nI 0) → ((gi M x1 4) = (-4) → wj_X7_readItem_134 x1 (nI 1) M Q) ∧ (¬ (gi M x1 4) = (-4) → wj_X7_readItem_134 x1 (nI 0) M Q)))) ∧ (¬ (nmX M 2) = (nI 0) → ((gi M x1 3) = (-4) → wj_X7_readItem_78 x1 (nI 1) M Q) ∧ (¬ (gi M x1 3) = (-4) → wj_X7_readItem_78 x1 (nI 0) M Q)))) ∧ (¬ (nmX M 1) = (nI 0) → ((gi M x1 2) = (-4) → wj_X7_readItem_24 x1 (nI 1) M Q) ∧ (¬ (gi M x1 2) = (-4) → wj_X7_readItem_24 x1 (nI 0) M Q))))
set_option maxRecDepth 20000 in
theorem wk_X7_readItem {x1 : Nat} {M : wM} {Q : Int32 → wM → Prop} (h : w_X7_readItem x1 M Q) : aG 211 (aEn 211 [(.ref 3), (.ref x1)] (mkX M)) (aPi mkX Q) := by
  unfold w_X7_readItem at h
  obtain ⟨hx1, h⟩ := h
  refine aG_n 2 (s' := (3, [some (.ref 3), some (.ref x1)], [(.ref (1000010 + 1)), (.ref 3)], mkX M)) rfl ?_
  obtain ⟨f1, h⟩ := h
  refine aG_name rfl rfl (nm_ok (w := 1) f1 (by decide)) ?_
  refine aG_n 0 (s' := (6, [some (.ref 3), some (.ref x1)], [(.int (nmX M 1))], mkX M)) rfl ?_
  obtain ⟨h1, h2⟩ := h
  by_cases q2 : (nmX M 1) = (nI 0)
  · have h := h1 q2
    refine aG_if (cd := .eq) (b := true) (decide_eq_true q2) rfl ?_
    refine aG_n 2 (s' := (57, [some (.ref 3), some (.ref x1)], [(.ref (1000010 + 2)), (.ref 3)], mkX M)) rfl ?_
    obtain ⟨f3, h⟩ := h
    refine aG_name rfl rfl (nm_ok (w := 2) f3 (by decide)) ?_
    refine aG_n 0 (s' := (60, [some (.ref 3), some (.ref x1)], [(.int (nmX M 2))], mkX M)) rfl ?_
    obtain ⟨h1, h2⟩ := h
    by_cases q4 : (nmX M 2) = (nI 0)
    · have h := h1 q4
      refine aG_if (cd := .eq) (b := true) (decide_eq_true q4) rfl ?_
      refine aG_n 2 (s' := (113, [some (.ref 3), some (.ref x1)], [(.ref (1000010 + 3)), (.ref 3)], mkX M)) rfl ?_
      obtain ⟨f5, h⟩ := h
      refine aG_name rfl rfl (nm_ok (w := 3) f5 (by decide)) ?_
      refine aG_n 0 (s' := (116, [some (.ref 3), some (.ref x1)], [(.int (nmX M 3))], mkX M)) rfl ?_
      obtain ⟨h1, h2⟩ := h
      by_cases q6 : (nmX M 3) = (nI 0)
      · have h := h1 q6
        refine aG_if (cd := .eq) (b := true) (decide_eq_true q6) rfl ?_
        refine aG_n 2 (s' := (169, [some (.ref 3), some (.ref x1)], [(.ref (1000010 + 4)), (.ref 3)], mkX M)) rfl ?_
        obtain ⟨f7, h⟩ := h
        refine aG_name rfl rfl (nm_ok (w := 4) f7 (by decide)) ?_
        refine aG_n 0 (s' := (172, [some (.ref 3), some (.ref x1)], [(.int (nmX M 4))], mkX M)) rfl ?_
        obtain ⟨h1, h2⟩ := h
        by_cases q8 : (nmX M 4) = (nI 0)
        · have h := h1 q8
          refine aG_if (cd := .eq) (b := true) (decide_eq_true q8) rfl ?_
          refine aG_n 2 (s' := (217, [some (.ref 3), some (.ref x1)], [(.int (nI 2)), (.ref 3)], mkX M)) rfl ?_
          refine aG_call rfl rfl (aG_mono (wk_X7_refuse h) ?_)
          rintro _ ⟨r9, M10, rfl, h⟩
          refine aG_n 0 (s' := (220, [some (.ref 3), some (.ref x1)], [(.int r9)], mkX M10)) rfl ?_
          exact aG_retZ rfl rfl h.1 ⟨_, _, rfl, h.2⟩
        · have h := h2 q8
          refine aG_if (cd := .eq) (b := false) (decide_eq_false q8) rfl ?_
          refine aG_n 2 (s' := (177, [some (.ref 3), some (.ref x1)], [(.ref x1), (.ref 3)], mkX M)) rfl ?_
          refine aG_get rfl hx1 rfl rfl ?_
          refine aG_n 0 (s' := (180, [some (.ref 3), some (.ref x1)], [(.int (gi M x1 1)), (.ref 3)], mkX M)) rfl ?_
          obtain ⟨h1, h2⟩ := h
          by_cases q11 : (gi M x1 1) = (nI 0)
          · have h := h1 q11
            refine aG_if (cd := .ne) (b := false) (aTne0 q11) rfl ?_
            refine aG_n 2 (s' := (188, [some (.ref 3), some (.ref x1)], [(.int (nI 1)), (.ref 3)], mkX M)) rfl ?_
            refine aG_le (a := [some (.ref 3), some (.ref x1)]) ⟨rfl, ⟨rfl, trivial⟩⟩ ?_
            exact wjk_X7_readItem_188 hx1 h
          · have h := h2 q11
            refine aG_if (cd := .ne) (b := true) (aTne1 q11) rfl ?_
            refine aG_n 1 (s' := (188, [some (.ref 3), some (.ref x1)], [(.int (nI 0)), (.ref 3)], mkX M)) rfl ?_
            refine aG_le (a := [some (.ref 3), some (.ref x1)]) ⟨rfl, ⟨rfl, trivial⟩⟩ ?_
            exact wjk_X7_readItem_188 hx1 h
      · have h := h2 q6
        refine aG_if (cd := .eq) (b := false) (decide_eq_false q6) rfl ?_
        refine aG_n 2 (s' := (121, [some (.ref 3), some (.ref x1)], [(.ref x1), (.ref 3)], mkX M)) rfl ?_
        refine aG_get rfl hx1 rfl rfl ?_
        refine aG_n 1 (s' := (126, [some (.ref 3), some (.ref x1)], [(.int (-4)), (.int (gi M x1 4)), (.ref 3)], mkX M)) rfl ?_
        obtain ⟨h1, h2⟩ := h
        by_cases q21 : (gi M x1 4) = (-4)
        · have h := h1 q21
          refine aG_icmp (cd := .ne) (b := false) (aTne0 q21) rfl ?_
          refine aG_n 2 (s' := (134, [some (.ref 3), some (.ref x1)], [(.int (nI 1)), (.ref 3)], mkX M)) rfl ?_
          refine aG_le (a := [some (.ref 3), some (.ref x1)]) ⟨rfl, ⟨rfl, trivial⟩⟩ ?_
          exact wjk_X7_readItem_134 hx1 h
        · have h := h2 q21
          refine aG_icmp (cd := .ne) (b := true) (aTne1 q21) rfl ?_
          refine aG_n 1 (s' := (134, [some (.ref 3), some (.ref x1)], [(.int (nI 0)), (.ref 3)], mkX M)) rfl ?_
          refine aG_le (a := [some (.ref 3), some (.ref x1)]) ⟨rfl, ⟨rfl, trivial⟩⟩ ?_
          exact wjk_X7_readItem_134 hx1 h
    · have h := h2 q4
      refine aG_if (cd := .eq) (b := false) (decide_eq_false q4) rfl ?_
      refine aG_n 2 (s' := (65, [some (.ref 3), some (.ref x1)], [(.ref x1), (.ref 3)], mkX M)) rfl ?_
      refine aG_get rfl hx1 rfl rfl ?_
      refine aG_n 1 (s' := (70, [some (.ref 3), some (.ref x1)], [(.int (-4)), (.int (gi M x1 3)), (.ref 3)], mkX M)) rfl ?_
      obtain ⟨h1, h2⟩ := h
      by_cases q33 : (gi M x1 3) = (-4)
      · have h := h1 q33
        refine aG_icmp (cd := .ne) (b := false) (aTne0 q33) rfl ?_
        refine aG_n 2 (s' := (78, [some (.ref 3), some (.ref x1)], [(.int (nI 1)), (.ref 3)], mkX M)) rfl ?_
        refine aG_le (a := [some (.ref 3), some (.ref x1)]) ⟨rfl, ⟨rfl, trivial⟩⟩ ?_
        exact wjk_X7_readItem_78 hx1 h
      · have h := h2 q33
        refine aG_icmp (cd := .ne) (b := true) (aTne1 q33) rfl ?_
        refine aG_n 1 (s' := (78, [some (.ref 3), some (.ref x1)], [(.int (nI 0)), (.ref 3)], mkX M)) rfl ?_
        refine aG_le (a := [some (.ref 3), some (.ref x1)]) ⟨rfl, ⟨rfl, trivial⟩⟩ ?_
        exact wjk_X7_readItem_78 hx1 h
  · have h := h2 q2
    refine aG_if (cd := .eq) (b := false) (decide_eq_false q2) rfl ?_
    refine aG_n 2 (s' := (11, [some (.ref 3), some (.ref x1)], [(.ref x1), (.ref 3)], mkX M)) rfl ?_
    refine aG_get rfl hx1 rfl rfl ?_
    refine aG_n 1 (s' := (16, [some (.ref 3), some (.ref x1)], [(.int (-4)), (.int (gi M x1 2)), (.ref 3)], mkX M)) rfl ?_
    obtain ⟨h1, h2⟩ := h
    by_cases q45 : (gi M x1 2) = (-4)
    · have h := h1 q45
      refine aG_icmp (cd := .ne) (b := false) (aTne0 q45) rfl ?_
      refine aG_n 2 (s' := (24, [some (.ref 3), some (.ref x1)], [(.int (nI 1)), (.ref 3)], mkX M)) rfl ?_
      refine aG_le (a := [some (.ref 3), some (.ref x1)]) ⟨rfl, ⟨rfl, trivial⟩⟩ ?_
      exact wjk_X7_readItem_24 hx1 h
    · have h := h2 q45
      refine aG_icmp (cd := .ne) (b := true) (aTne1 q45) rfl ?_
      refine aG_n 1 (s' := (24, [some (.ref 3), some (.ref x1)], [(.int (nI 0)), (.ref 3)], mkX M)) rfl ?_
      refine aG_le (a := [some (.ref 3), some (.ref x1)]) ⟨rfl, ⟨rfl, trivial⟩⟩ ?_
      exact wjk_X7_readItem_24 hx1 h
def w_X11_scan (x1 : Int32) (x2 : Int32) (x3 : Int32) (x4 : Int32) (x5 : Int32) (M : wM) (Q : Int32 → wM → Prop) : Prop := (x5 < (nI 1) → Q (-1) M) ∧ (¬ x5 < (nI 1) → ((nI 99) < x5 → Q (-1) M) ∧ (¬ (nI 99) < x5 → w_X11_isSheet x2 M (fun r3 M4 => (r3 = (nI 0) → Q (-1) M4) ∧ (¬ r3 = (nI 0) → w_X11_isLane x3 M4 (fun r6 M7 => (r6 = (nI 0) → Q (-1) M7) ∧ (¬ r6 = (nI 0) → ((gi M7 26 3) = (nI 0) → Q (-2) M7) ∧ (¬ (gi M7 26 3) = (nI 0) → vp_in x2 4 ∧ (w_X8_faultOf x2.toNatClampNeg x3 x4 x5 M7 (fun r11 M12 => (r11 = (nI 0) → vp_in x2 4 ∧ (w_X0_shiftRow x1 (72 + 2 * x2.toNatClampNeg) x4 x5 M12 (fun r15 M16 => Q r15 M16))) ∧ (¬ r11 = (nI 0) → Q ((-10) - r11) M12))))))))))
set_option maxRecDepth 20000 in
theorem wk_X11_scan {x1 : Int32} {x2 : Int32} {x3 : Int32} {x4 : Int32} {x5 : Int32} {M : wM} {Q : Int32 → wM → Prop} (h : w_X11_scan x1 x2 x3 x4 x5 M Q) : aG 212 (aEn 212 [(.ref 0), (.int x1), (.int x2), (.int x3), (.int x4), (.int x5)] (mkX M)) (aPi mkX Q) := by
  unfold w_X11_scan at h
  refine aG_n 2 (s' := (3, [some (.ref 0), some (.int x1), some (.int x2), some (.int x3), some (.int x4), some (.int x5), none], [(.int (nI 1)), (.int x5)], mkX M)) rfl ?_
  obtain ⟨h1, h2⟩ := h
  by_cases q1 : x5 < (nI 1)
  · have h := h1 q1
    refine aG_icmp (cd := .lt) (b := true) (decide_eq_true q1) rfl ?_
    refine aG_n 1 (s' := (28, [some (.ref 0), some (.int x1), some (.int x2), some (.int x3), some (.int x4), some (.int x5), none], [(.int (-1))], mkX M)) rfl ?_
    exact aG_ret0 rfl rfl ⟨_, _, rfl, h⟩
  · have h := h2 q1
    refine aG_icmp (cd := .lt) (b := false) (decide_eq_false q1) rfl ?_
    refine aG_n 2 (s' := (10, [some (.ref 0), some (.int x1), some (.int x2), some (.int x3), some (.int x4), some (.int x5), none], [(.int (nI 99)), (.int x5)], mkX M)) rfl ?_
    obtain ⟨h1, h2⟩ := h
    by_cases q2 : (nI 99) < x5
    · have h := h1 q2
      refine aG_icmp (cd := .gt) (b := true) (decide_eq_true q2) rfl ?_
      refine aG_n 1 (s' := (28, [some (.ref 0), some (.int x1), some (.int x2), some (.int x3), some (.int x4), some (.int x5), none], [(.int (-1))], mkX M)) rfl ?_
      exact aG_ret0 rfl rfl ⟨_, _, rfl, h⟩
    · have h := h2 q2
      refine aG_icmp (cd := .gt) (b := false) (decide_eq_false q2) rfl ?_
      refine aG_n 1 (s' := (14, [some (.ref 0), some (.int x1), some (.int x2), some (.int x3), some (.int x4), some (.int x5), none], [(.int x2)], mkX M)) rfl ?_
      refine aG_call rfl rfl (aG_mono (wk_X11_isSheet h) ?_)
      rintro _ ⟨r3, M4, rfl, h⟩
      refine aG_n 0 (s' := (17, [some (.ref 0), some (.int x1), some (.int x2), some (.int x3), some (.int x4), some (.int x5), none], [(.int r3)], mkX M4)) rfl ?_
      obtain ⟨h1, h2⟩ := h
      by_cases q5 : r3 = (nI 0)
      · have h := h1 q5
        refine aG_if (cd := .eq) (b := true) (decide_eq_true q5) rfl ?_
        refine aG_n 1 (s' := (28, [some (.ref 0), some (.int x1), some (.int x2), some (.int x3), some (.int x4), some (.int x5), none], [(.int (-1))], mkX M4)) rfl ?_
        exact aG_ret0 rfl rfl ⟨_, _, rfl, h⟩
      · have h := h2 q5
        refine aG_if (cd := .eq) (b := false) (decide_eq_false q5) rfl ?_
        refine aG_n 1 (s' := (21, [some (.ref 0), some (.int x1), some (.int x2), some (.int x3), some (.int x4), some (.int x5), none], [(.int x3)], mkX M4)) rfl ?_
        refine aG_call rfl rfl (aG_mono (wk_X11_isLane h) ?_)
        rintro _ ⟨r6, M7, rfl, h⟩
        refine aG_n 0 (s' := (24, [some (.ref 0), some (.int x1), some (.int x2), some (.int x3), some (.int x4), some (.int x5), none], [(.int r6)], mkX M7)) rfl ?_
        obtain ⟨h1, h2⟩ := h
        by_cases q8 : r6 = (nI 0)
        · have h := h1 q8
          refine aG_if (cd := .ne) (b := false) (aTne0 q8) rfl ?_
          refine aG_n 1 (s' := (28, [some (.ref 0), some (.int x1), some (.int x2), some (.int x3), some (.int x4), some (.int x5), none], [(.int (-1))], mkX M7)) rfl ?_
          exact aG_ret0 rfl rfl ⟨_, _, rfl, h⟩
        · have h := h2 q8
          refine aG_if (cd := .ne) (b := true) (aTne1 q8) rfl ?_
          refine aG_n 3 (s' := (36, [some (.ref 0), some (.int x1), some (.int x2), some (.int x3), some (.int x4), some (.int x5), none], [(.int (gi M7 26 3))], mkX M7)) rfl ?_
          obtain ⟨h1, h2⟩ := h
          by_cases q9 : (gi M7 26 3) = (nI 0)
          · have h := h1 q9
            refine aG_if (cd := .ne) (b := false) (aTne0 q9) rfl ?_
            refine aG_n 1 (s' := (41, [some (.ref 0), some (.int x1), some (.int x2), some (.int x3), some (.int x4), some (.int x5), none], [(.int (-2))], mkX M7)) rfl ?_
            exact aG_ret0 rfl rfl ⟨_, _, rfl, h⟩
          · have h := h2 q9
            refine aG_if (cd := .ne) (b := true) (aTne1 q9) rfl ?_
            refine aG_n 3 (s' := (47, [some (.ref 0), some (.int x1), some (.int x2), some (.int x3), some (.int x4), some (.int x5), none], [(.int x2), (.ref 64)], mkX M7)) rfl ?_
            obtain ⟨f10, h⟩ := h
            refine aG_aald rfl rfl rfl f10 (rX_64 (P := (M7).2.2) (vin_lt f10)) ?_
            refine aG_n 3 (s' := (53, [some (.ref 0), some (.int x1), some (.int x2), some (.int x3), some (.int x4), some (.int x5), none], [(.int x5), (.int x4), (.int x3), (.ref (71 + 2 * x2.toNatClampNeg))], mkX M7)) rfl ?_
            refine aG_ivv rfl rfl (shX_she (vin_lt f10)) rfl rfl (aG_mono (wk_X8_faultOf h) ?_)
            rintro _ ⟨r11, M12, rfl, h⟩
            refine aG_n 2 (s' := (60, [some (.ref 0), some (.int x1), some (.int x2), some (.int x3), some (.int x4), some (.int x5), some (.int r11)], [(.int r11)], mkX M12)) rfl ?_
            obtain ⟨h1, h2⟩ := h
            by_cases q13 : r11 = (nI 0)
            · have h := h1 q13
              refine aG_if (cd := .eq) (b := true) (decide_eq_true q13) rfl ?_
              refine aG_n 6 (s' := (81, [some (.ref 0), some (.int x1), some (.int x2), some (.int x3), some (.int x4), some (.int x5), some (.int r11)], [(.int x2), (.ref 64), (.int x1), (.ref 26)], mkX M12)) rfl ?_
              obtain ⟨f14, h⟩ := h
              refine aG_aald rfl rfl rfl f14 (rX_64 (P := (M12).2.2) (vin_lt f14)) ?_
              refine aG_n 0 (s' := (82, [some (.ref 0), some (.int x1), some (.int x2), some (.int x3), some (.int x4), some (.int x5), some (.int r11)], [(.ref (71 + 2 * x2.toNatClampNeg)), (.int x1), (.ref 26)], mkX M12)) rfl ?_
              refine aG_getR rfl (shX_she (vin_lt f14)) rfl rfl (rX_cel (P := (M12).2.2) (vin_lt f14)) ?_
              refine aG_n 2 (s' := (89, [some (.ref 0), some (.int x1), some (.int x2), some (.int x3), some (.int x4), some (.int x5), some (.int r11)], [(.int x5), (.int x4), (.ref (72 + 2 * x2.toNatClampNeg)), (.int x1), (.ref 26)], mkX M12)) rfl ?_
              refine aG_call rfl rfl (aG_mono (wk_X0_shiftRow h) ?_)
              rintro _ ⟨r15, M16, rfl, h⟩
              refine aG_n 0 (s' := (92, [some (.ref 0), some (.int x1), some (.int x2), some (.int x3), some (.int x4), some (.int x5), some (.int r11)], [(.int r15)], mkX M16)) rfl ?_
              exact aG_ret0 rfl rfl ⟨_, _, rfl, h⟩
            · have h := h2 q13
              refine aG_if (cd := .eq) (b := false) (decide_eq_false q13) rfl ?_
              refine aG_n 4 (s' := (92, [some (.ref 0), some (.int x1), some (.int x2), some (.int x3), some (.int x4), some (.int x5), some (.int r11)], [(.int ((-10) - r11))], mkX M12)) rfl ?_
              exact aG_ret0 rfl rfl ⟨_, _, rfl, h⟩
def w_X11_found (M : wM) (Q : Int32 → wM → Prop) : Prop := ((gi M 26 3) = (nI 0) → Q (-2) M) ∧ (¬ (gi M 26 3) = (nI 0) → w_X6_countChips M (fun r2 M3 => Q r2 M3))
set_option maxRecDepth 20000 in
theorem wk_X11_found {M : wM} {Q : Int32 → wM → Prop} (h : w_X11_found M Q) : aG 213 (aEn 213 [(.ref 0)] (mkX M)) (aPi mkX Q) := by
  unfold w_X11_found at h
  refine aG_n 3 (s' := (7, [some (.ref 0)], [(.int (gi M 26 3))], mkX M)) rfl ?_
  obtain ⟨h1, h2⟩ := h
  by_cases q1 : (gi M 26 3) = (nI 0)
  · have h := h1 q1
    refine aG_if (cd := .ne) (b := false) (aTne0 q1) rfl ?_
    refine aG_n 2 (s' := (22, [some (.ref 0)], [(.int (-2))], mkX M)) rfl ?_
    exact aG_ret0 rfl rfl ⟨_, _, rfl, h⟩
  · have h := h2 q1
    refine aG_if (cd := .ne) (b := true) (aTne1 q1) rfl ?_
    refine aG_n 2 (s' := (19, [some (.ref 0)], [(.ref 52)], mkX M)) rfl ?_
    refine aG_call rfl rfl (aG_mono (wk_X6_countChips h) ?_)
    rintro _ ⟨r2, M3, rfl, h⟩
    refine aG_n 0 (s' := (22, [some (.ref 0)], [(.int r2)], mkX M3)) rfl ?_
    exact aG_ret0 rfl rfl ⟨_, _, rfl, h⟩
def wj_X11_identity_20 (z1 : Int32) (M : wM) (Q : Int64 → wM → Prop) : Prop := ((gi M 26 3) = (nI 0) → Q (-2) M) ∧ (¬ (gi M 26 3) = (nI 0) → w_X6_readIdentities M (fun M4 => (z1 = (-4) → Q (gi M4 52 2).toInt64 M4) ∧ (¬ z1 = (-4) → ((gi M4 52 2) ≤ z1 → Q (-4) M4) ∧ (¬ (gi M4 52 2) ≤ z1 → vp_in z1 8 ∧ (Q (gi M4 53 z1.toNatClampNeg).toInt64 M4)))))
set_option maxRecDepth 20000 in
theorem wjk_X11_identity_20 {z1 : Int32} {M : wM} {Q : Int64 → wM → Prop} (h : wj_X11_identity_20 z1 M Q) : aG 214 (20, [some (.ref 0), some (.int z1)], [], mkX M) (aPl mkX Q) := by
  unfold wj_X11_identity_20 at h
  refine aG_n 3 (s' := (27, [some (.ref 0), some (.int z1)], [(.int (gi M 26 3))], mkX M)) rfl ?_
  obtain ⟨h1, h2⟩ := h
  by_cases q2 : (gi M 26 3) = (nI 0)
  · have h := h1 q2
    refine aG_if (cd := .ne) (b := false) (aTne0 q2) rfl ?_
    refine aG_n 1 (s' := (33, [some (.ref 0), some (.int z1)], [(.long (-2))], mkX M)) rfl ?_
    exact aG_retL rfl rfl ⟨_, _, rfl, h⟩
  · have h := h2 q2
    refine aG_if (cd := .ne) (b := true) (aTne1 q2) rfl ?_
    refine aG_n 2 (s' := (38, [some (.ref 0), some (.int z1)], [(.ref 52)], mkX M)) rfl ?_
    refine aG_call rfl rfl (aG_mono (wk_X6_readIdentities h) ?_)
    rintro _ ⟨M4, rfl, h⟩
    refine aG_n 2 (s' := (44, [some (.ref 0), some (.int z1)], [(.int (-4)), (.int z1)], mkX M4)) rfl ?_
    obtain ⟨h1, h2⟩ := h
    by_cases q5 : z1 = (-4)
    · have h := h1 q5
      refine aG_icmp (cd := .ne) (b := false) (aTne0 q5) rfl ?_
      refine aG_n 4 (s' := (55, [some (.ref 0), some (.int z1)], [(.long (gi M4 52 2).toInt64)], mkX M4)) rfl ?_
      exact aG_retL rfl rfl ⟨_, _, rfl, h⟩
    · have h := h2 q5
      refine aG_icmp (cd := .ne) (b := true) (aTne1 q5) rfl ?_
      refine aG_n 4 (s' := (64, [some (.ref 0), some (.int z1)], [(.int (gi M4 52 2)), (.int z1)], mkX M4)) rfl ?_
      obtain ⟨h1, h2⟩ := h
      by_cases q6 : (gi M4 52 2) ≤ z1
      · have h := h1 q6
        refine aG_icmp (cd := .ge) (b := true) (decide_eq_true q6) rfl ?_
        refine aG_n 1 (s' := (83, [some (.ref 0), some (.int z1)], [(.long (-4))], mkX M4)) rfl ?_
        exact aG_retL rfl rfl ⟨_, _, rfl, h⟩
      · have h := h2 q6
        refine aG_icmp (cd := .ge) (b := false) (decide_eq_false q6) rfl ?_
        refine aG_n 4 (s' := (75, [some (.ref 0), some (.int z1)], [(.int z1), (.ref 53)], mkX M4)) rfl ?_
        obtain ⟨f7, h⟩ := h
        refine aG_iald rfl rfl rfl f7 ?_
        refine aG_n 2 (s' := (83, [some (.ref 0), some (.int z1)], [(.long (gi M4 53 z1.toNatClampNeg).toInt64)], mkX M4)) rfl ?_
        exact aG_retL rfl rfl ⟨_, _, rfl, h⟩
def w_X11_identity (x1 : Int32) (M : wM) (Q : Int64 → wM → Prop) : Prop := (x1 = (-4) → wj_X11_identity_20 x1 M Q) ∧ (¬ x1 = (-4) → (x1 < (nI 0) → Q (-1) M) ∧ (¬ x1 < (nI 0) → (x1 < (nI 8) → wj_X11_identity_20 x1 M Q) ∧ (¬ x1 < (nI 8) → Q (-1) M)))
set_option maxRecDepth 20000 in
theorem wk_X11_identity {x1 : Int32} {M : wM} {Q : Int64 → wM → Prop} (h : w_X11_identity x1 M Q) : aG 214 (aEn 214 [(.ref 0), (.int x1)] (mkX M)) (aPl mkX Q) := by
  unfold w_X11_identity at h
  refine aG_n 2 (s' := (3, [some (.ref 0), some (.int x1)], [(.int (-4)), (.int x1)], mkX M)) rfl ?_
  obtain ⟨h1, h2⟩ := h
  by_cases q1 : x1 = (-4)
  · have h := h1 q1
    refine aG_icmp (cd := .eq) (b := true) (decide_eq_true q1) rfl ?_
    refine aG_n 0 (s' := (20, [some (.ref 0), some (.int x1)], [], mkX M)) rfl ?_
    refine aG_le (a := [some (.ref 0), some (.int x1)]) ⟨rfl, ⟨rfl, trivial⟩⟩ ?_
    exact wjk_X11_identity_20 h
  · have h := h2 q1
    refine aG_icmp (cd := .eq) (b := false) (decide_eq_false q1) rfl ?_
    refine aG_n 1 (s' := (7, [some (.ref 0), some (.int x1)], [(.int x1)], mkX M)) rfl ?_
    obtain ⟨h1, h2⟩ := h
    by_cases q8 : x1 < (nI 0)
    · have h := h1 q8
      refine aG_if (cd := .lt) (b := true) (decide_eq_true q8) rfl ?_
      refine aG_n 1 (s' := (19, [some (.ref 0), some (.int x1)], [(.long (-1))], mkX M)) rfl ?_
      exact aG_retL rfl rfl ⟨_, _, rfl, h⟩
    · have h := h2 q8
      refine aG_if (cd := .lt) (b := false) (decide_eq_false q8) rfl ?_
      refine aG_n 2 (s' := (13, [some (.ref 0), some (.int x1)], [(.int (nI 8)), (.int x1)], mkX M)) rfl ?_
      obtain ⟨h1, h2⟩ := h
      by_cases q9 : x1 < (nI 8)
      · have h := h1 q9
        refine aG_icmp (cd := .lt) (b := true) (decide_eq_true q9) rfl ?_
        refine aG_n 0 (s' := (20, [some (.ref 0), some (.int x1)], [], mkX M)) rfl ?_
        refine aG_le (a := [some (.ref 0), some (.int x1)]) ⟨rfl, ⟨rfl, trivial⟩⟩ ?_
        exact wjk_X11_identity_20 h
      · have h := h2 q9
        refine aG_icmp (cd := .lt) (b := false) (decide_eq_false q9) rfl ?_
        refine aG_n 1 (s' := (19, [some (.ref 0), some (.int x1)], [(.long (-1))], mkX M)) rfl ?_
        exact aG_retL rfl rfl ⟨_, _, rfl, h⟩
def w_X11_broken (M : wM) (Q : Int32 → wM → Prop) : Prop := ((gi M 26 3) = (nI 0) → Q (-2) M) ∧ (¬ (gi M 26 3) = (nI 0) → w_X6_lastSilentChip M (fun r2 M3 => Q r2 M3))
set_option maxRecDepth 20000 in
theorem wk_X11_broken {M : wM} {Q : Int32 → wM → Prop} (h : w_X11_broken M Q) : aG 215 (aEn 215 [(.ref 0)] (mkX M)) (aPi mkX Q) := by
  unfold w_X11_broken at h
  refine aG_n 3 (s' := (7, [some (.ref 0)], [(.int (gi M 26 3))], mkX M)) rfl ?_
  obtain ⟨h1, h2⟩ := h
  by_cases q1 : (gi M 26 3) = (nI 0)
  · have h := h1 q1
    refine aG_if (cd := .ne) (b := false) (aTne0 q1) rfl ?_
    refine aG_n 2 (s' := (22, [some (.ref 0)], [(.int (-2))], mkX M)) rfl ?_
    exact aG_ret0 rfl rfl ⟨_, _, rfl, h⟩
  · have h := h2 q1
    refine aG_if (cd := .ne) (b := true) (aTne1 q1) rfl ?_
    refine aG_n 2 (s' := (19, [some (.ref 0)], [(.ref 52)], mkX M)) rfl ?_
    refine aG_call rfl rfl (aG_mono (wk_X6_lastSilentChip h) ?_)
    rintro _ ⟨r2, M3, rfl, h⟩
    refine aG_n 0 (s' := (22, [some (.ref 0)], [(.int r2)], mkX M3)) rfl ?_
    exact aG_ret0 rfl rfl ⟨_, _, rfl, h⟩
def wb_X12_ticks1_44 (z1 : Int32) (z3 : Int32) (K44 : Int32 → wM → Prop) (y4 : Int32) (M : wM) (Q : Int32 → wM → Prop) : Prop := ((gi M 0 22) ≤ y4 → w_X12_goes (gi M 0 33) z1 M (fun r5 M6 => Q z3 (si (si M6 0 33 r5) 0 34 ((gi M6 0 34) + (nI 1))))) ∧ (¬ (gi M 0 22) ≤ y4 → ((gi M 0 33) = (nI 0) → w_X12_resets y4 M (fun M9 => K44 (y4 + (nI 1)) M9)) ∧ (¬ (gi M 0 33) = (nI 0) → ((gi M 0 33) = (nI 10) → vp_in y4 6 ∧ (K44 (y4 + (nI 1)) (si M 16 y4.toNatClampNeg (nI 1)))) ∧ (¬ (gi M 0 33) = (nI 10) → ((gi M 0 33) = (nI 15) → w_X12_orderBy y4 M (fun r13 M14 => vp_in y4 6 ∧ (K44 (y4 + (nI 1)) (si M14 15 y4.toNatClampNeg r13)))) ∧ (¬ (gi M 0 33) = (nI 15) → ((gi M 0 33) = (nI 8) → vp_in y4 6 ∧ (((gi M 15 y4.toNatClampNeg) < (nI 2) → K44 (y4 + (nI 1)) M) ∧ (¬ (gi M 15 y4.toNatClampNeg) < (nI 2) → vp_in y4 6 ∧ (vp_in y4 6 ∧ (vp_in (gi M 14 y4.toNatClampNeg) 6 ∧ (vp_in y4 6 ∧ (K44 (y4 + (nI 1)) (si M 20 y4.toNatClampNeg ((gi M 19 y4.toNatClampNeg) &&& (gi M 6 (gi M 14 y4.toNatClampNeg).toNatClampNeg)))))))))) ∧ (¬ (gi M 0 33) = (nI 8) → K44 (y4 + (nI 1)) M)))))
set_option maxRecDepth 20000 in
theorem wbk_X12_ticks1_44 {z1 : Int32} {z3 : Int32} {K44 : Int32 → wM → Prop} {y4 : Int32} {M : wM} {Q : Int32 → wM → Prop} (hK44 : ∀ (v4 : Int32) (M : wM), K44 v4 M → aG 216 (44, [some (.ref 0), some (.int z1), none, some (.int z3), some (.int v4)], [], mkM M) (aPi mkM Q)) (h : wb_X12_ticks1_44 z1 z3 K44 y4 M Q) : aG 216 (44, [some (.ref 0), some (.int z1), none, some (.int z3), some (.int y4)], [], mkM M) (aPi mkM Q) := by
  unfold wb_X12_ticks1_44 at h
  refine aG_n 3 (s' := (50, [some (.ref 0), some (.int z1), none, some (.int z3), some (.int y4)], [(.int (gi M 0 22)), (.int y4)], mkM M)) rfl ?_
  obtain ⟨h1, h2⟩ := h
  by_cases q4 : (gi M 0 22) ≤ y4
  · have h := h1 q4
    refine aG_icmp (cd := .ge) (b := true) (decide_eq_true q4) rfl ?_
    refine aG_n 4 (s' := (173, [some (.ref 0), some (.int z1), none, some (.int z3), some (.int y4)], [(.int z1), (.int (gi M 0 33)), (.ref 0)], mkM M)) rfl ?_
    refine aG_call rfl rfl (aG_mono (wk_X12_goes h) ?_)
    rintro _ ⟨r5, M6, rfl, h⟩
    refine aG_n 8 (s' := (190, [some (.ref 0), some (.int z1), none, some (.int z3), some (.int y4)], [(.int z3)], mkM (si (si M6 0 33 r5) 0 34 ((gi M6 0 34) + (nI 1))))) rfl ?_
    exact aG_ret0 rfl rfl ⟨_, _, rfl, h⟩
  · have h := h2 q4
    refine aG_icmp (cd := .ge) (b := false) (decide_eq_false q4) rfl ?_
    refine aG_n 2 (s' := (57, [some (.ref 0), some (.int z1), none, some (.int z3), some (.int y4)], [(.int (gi M 0 33))], mkM M)) rfl ?_
    obtain ⟨h1, h2⟩ := h
    by_cases q7 : (gi M 0 33) = (nI 0)
    · have h := h1 q7
      refine aG_if (cd := .ne) (b := false) (aTne0 q7) rfl ?_
      refine aG_n 2 (s' := (63, [some (.ref 0), some (.int z1), none, some (.int z3), some (.int y4)], [(.int y4), (.ref 0)], mkM M)) rfl ?_
      refine aG_call rfl rfl (aG_mono (wk_X12_resets h) ?_)
      rintro _ ⟨M9, rfl, h⟩
      refine aG_n 3 (s' := (44, [some (.ref 0), some (.int z1), none, some (.int z3), some (.int (y4 + (nI 1)))], [], mkM M9)) rfl ?_
      refine aG_le (a := [some (.ref 0), some (.int z1), none, some (.int z3), some (.int (y4 + (nI 1)))]) ⟨rfl, ⟨rfl, ⟨rfl, ⟨rfl, trivial⟩⟩⟩⟩ ?_
      exact hK44 _ _ h
    · have h := h2 q7
      refine aG_if (cd := .ne) (b := true) (aTne1 q7) rfl ?_
      refine aG_n 3 (s' := (75, [some (.ref 0), some (.int z1), none, some (.int z3), some (.int y4)], [(.int (nI 10)), (.int (gi M 0 33))], mkM M)) rfl ?_
      obtain ⟨h1, h2⟩ := h
      by_cases q10 : (gi M 0 33) = (nI 10)
      · have h := h1 q10
        refine aG_icmp (cd := .ne) (b := false) (aTne0 q10) rfl ?_
        refine aG_n 4 (s' := (85, [some (.ref 0), some (.int z1), none, some (.int z3), some (.int y4)], [(.int (nI 1)), (.int y4), (.ref 16)], mkM M)) rfl ?_
        obtain ⟨f11, h⟩ := h
        refine aG_iast rfl rfl f11 ?_
        refine aG_n 3 (s' := (44, [some (.ref 0), some (.int z1), none, some (.int z3), some (.int (y4 + (nI 1)))], [], mkM (si M 16 y4.toNatClampNeg (nI 1)))) rfl ?_
        refine aG_le (a := [some (.ref 0), some (.int z1), none, some (.int z3), some (.int (y4 + (nI 1)))]) ⟨rfl, ⟨rfl, ⟨rfl, ⟨rfl, trivial⟩⟩⟩⟩ ?_
        exact hK44 _ _ h
      · have h := h2 q10
        refine aG_icmp (cd := .ne) (b := true) (aTne1 q10) rfl ?_
        refine aG_n 3 (s' := (95, [some (.ref 0), some (.int z1), none, some (.int z3), some (.int y4)], [(.int (nI 15)), (.int (gi M 0 33))], mkM M)) rfl ?_
        obtain ⟨h1, h2⟩ := h
        by_cases q12 : (gi M 0 33) = (nI 15)
        · have h := h1 q12
          refine aG_icmp (cd := .ne) (b := false) (aTne0 q12) rfl ?_
          refine aG_n 5 (s' := (107, [some (.ref 0), some (.int z1), none, some (.int z3), some (.int y4)], [(.int y4), (.ref 0), (.int y4), (.ref 15)], mkM M)) rfl ?_
          refine aG_call rfl rfl (aG_mono (wk_X12_orderBy h) ?_)
          rintro _ ⟨r13, M14, rfl, h⟩
          refine aG_n 0 (s' := (110, [some (.ref 0), some (.int z1), none, some (.int z3), some (.int y4)], [(.int r13), (.int y4), (.ref 15)], mkM M14)) rfl ?_
          obtain ⟨f15, h⟩ := h
          refine aG_iast rfl rfl f15 ?_
          refine aG_n 3 (s' := (44, [some (.ref 0), some (.int z1), none, some (.int z3), some (.int (y4 + (nI 1)))], [], mkM (si M14 15 y4.toNatClampNeg r13))) rfl ?_
          refine aG_le (a := [some (.ref 0), some (.int z1), none, some (.int z3), some (.int (y4 + (nI 1)))]) ⟨rfl, ⟨rfl, ⟨rfl, ⟨rfl, trivial⟩⟩⟩⟩ ?_
          exact hK44 _ _ h
        · have h := h2 q12
          refine aG_icmp (cd := .ne) (b := true) (aTne1 q12) rfl ?_
          refine aG_n 3 (s' := (120, [some (.ref 0), some (.int z1), none, some (.int z3), some (.int y4)], [(.int (nI 8)), (.int (gi M 0 33))], mkM M)) rfl ?_
          obtain ⟨h1, h2⟩ := h
          by_cases q16 : (gi M 0 33) = (nI 8)
          · have h := h1 q16
            refine aG_icmp (cd := .ne) (b := false) (aTne0 q16) rfl ?_
            refine aG_n 3 (s' := (129, [some (.ref 0), some (.int z1), none, some (.int z3), some (.int y4)], [(.int y4), (.ref 15)], mkM M)) rfl ?_
            obtain ⟨f17, h⟩ := h
            refine aG_iald rfl rfl rfl f17 ?_
            refine aG_n 1 (s' := (131, [some (.ref 0), some (.int z1), none, some (.int z3), some (.int y4)], [(.int (nI 2)), (.int (gi M 15 y4.toNatClampNeg))], mkM M)) rfl ?_
            obtain ⟨h1, h2⟩ := h
            by_cases q18 : (gi M 15 y4.toNatClampNeg) < (nI 2)
            · have h := h1 q18
              refine aG_icmp (cd := .lt) (b := true) (decide_eq_true q18) rfl ?_
              refine aG_n 2 (s' := (44, [some (.ref 0), some (.int z1), none, some (.int z3), some (.int (y4 + (nI 1)))], [], mkM M)) rfl ?_
              refine aG_le (a := [some (.ref 0), some (.int z1), none, some (.int z3), some (.int (y4 + (nI 1)))]) ⟨rfl, ⟨rfl, ⟨rfl, ⟨rfl, trivial⟩⟩⟩⟩ ?_
              exact hK44 _ _ h
            · have h := h2 q18
              refine aG_icmp (cd := .lt) (b := false) (decide_eq_false q18) rfl ?_
              refine aG_n 6 (s' := (146, [some (.ref 0), some (.int z1), none, some (.int z3), some (.int y4)], [(.int y4), (.ref 19), (.int y4), (.ref 20)], mkM M)) rfl ?_
              obtain ⟨f19, h⟩ := h
              refine aG_iald rfl rfl rfl f19 ?_
              refine aG_n 5 (s' := (157, [some (.ref 0), some (.int z1), none, some (.int z3), some (.int y4)], [(.int y4), (.ref 14), (.ref 6), (.int (gi M 19 y4.toNatClampNeg)), (.int y4), (.ref 20)], mkM M)) rfl ?_
              obtain ⟨f20, h⟩ := h
              refine aG_iald rfl rfl rfl f20 ?_
              refine aG_n 0 (s' := (158, [some (.ref 0), some (.int z1), none, some (.int z3), some (.int y4)], [(.int (gi M 14 y4.toNatClampNeg)), (.ref 6), (.int (gi M 19 y4.toNatClampNeg)), (.int y4), (.ref 20)], mkM M)) rfl ?_
              obtain ⟨f21, h⟩ := h
              refine aG_iald rfl rfl rfl f21 ?_
              refine aG_n 1 (s' := (160, [some (.ref 0), some (.int z1), none, some (.int z3), some (.int y4)], [(.int ((gi M 19 y4.toNatClampNeg) &&& (gi M 6 (gi M 14 y4.toNatClampNeg).toNatClampNeg))), (.int y4), (.ref 20)], mkM M)) rfl ?_
              obtain ⟨f22, h⟩ := h
              refine aG_iast rfl rfl f22 ?_
              refine aG_n 2 (s' := (44, [some (.ref 0), some (.int z1), none, some (.int z3), some (.int (y4 + (nI 1)))], [], mkM (si M 20 y4.toNatClampNeg ((gi M 19 y4.toNatClampNeg) &&& (gi M 6 (gi M 14 y4.toNatClampNeg).toNatClampNeg))))) rfl ?_
              refine aG_le (a := [some (.ref 0), some (.int z1), none, some (.int z3), some (.int (y4 + (nI 1)))]) ⟨rfl, ⟨rfl, ⟨rfl, ⟨rfl, trivial⟩⟩⟩⟩ ?_
              exact hK44 _ _ h
          · have h := h2 q16
            refine aG_icmp (cd := .ne) (b := true) (aTne1 q16) rfl ?_
            refine aG_n 2 (s' := (44, [some (.ref 0), some (.int z1), none, some (.int z3), some (.int (y4 + (nI 1)))], [], mkM M)) rfl ?_
            refine aG_le (a := [some (.ref 0), some (.int z1), none, some (.int z3), some (.int (y4 + (nI 1)))]) ⟨rfl, ⟨rfl, ⟨rfl, ⟨rfl, trivial⟩⟩⟩⟩ ?_
            exact hK44 _ _ h
def wL_X12_ticks1_44 (z1 : Int32) (z3 : Int32) (Q : Int32 → wM → Prop) : Nat → Int32 → wM → Prop
  | 0, _, _ => False
  | n + 1, y4, M => wb_X12_ticks1_44 z1 z3 (wL_X12_ticks1_44 z1 z3 Q n) y4 M Q
set_option maxRecDepth 20000 in
theorem wLk_X12_ticks1_44 {z1 : Int32} {z3 : Int32} {Q : Int32 → wM → Prop} : ∀ (n : Nat) (y4 : Int32) (M : wM), wL_X12_ticks1_44 z1 z3 Q n y4 M → aG 216 (44, [some (.ref 0), some (.int z1), none, some (.int z3), some (.int y4)], [], mkM M) (aPi mkM Q)
  | 0, _, _, h => h.elim
  | n + 1, y4, M, h => wbk_X12_ticks1_44 (fun y4 M h => wLk_X12_ticks1_44 n y4 M h) h
def wj_X12_ticks1_41 (z1 : Int32) (z3 : Int32) (M : wM) (Q : Int32 → wM → Prop) : Prop := ∃ n, wL_X12_ticks1_44 z1 z3 Q n (nI 0) M
set_option maxRecDepth 20000 in
theorem wjk_X12_ticks1_41 {z1 : Int32} {z3 : Int32} {M : wM} {Q : Int32 → wM → Prop} (h : wj_X12_ticks1_41 z1 z3 M Q) : aG 216 (41, [some (.ref 0), some (.int z1), none, some (.int z3), none], [], mkM M) (aPi mkM Q) := by
  unfold wj_X12_ticks1_41 at h
  refine aG_n 2 (s' := (44, [some (.ref 0), some (.int z1), none, some (.int z3), some (.int (nI 0))], [], mkM M)) rfl ?_
  refine aG_le (a := [some (.ref 0), some (.int z1), none, some (.int z3), some (.int (nI 0))]) ⟨rfl, ⟨rfl, ⟨rfl, ⟨rfl, trivial⟩⟩⟩⟩ ?_
  obtain ⟨n, h⟩ := h
  exact wLk_X12_ticks1_44 n _ _ h
def w_X12_ticks1 (x1 : Int32) (x2 : Int32) (M : wM) (Q : Int32 → wM → Prop) : Prop := ((gi M 0 33) = (nI 11) → w_X12_shifts x2 M (fun r2 M3 => wj_X12_ticks1_41 x1 r2 M3 Q)) ∧ (¬ (gi M 0 33) = (nI 11) → ((gi M 0 33) = (nI 4) → w_X12_shifts x2 M (fun r24 M25 => wj_X12_ticks1_41 x1 r24 M25 Q)) ∧ (¬ (gi M 0 33) = (nI 4) → ((gi M 0 33) = (nI 3) → w_X12_captures M (fun M28 => wj_X12_ticks1_41 x1 (-4) M28 Q)) ∧ (¬ (gi M 0 33) = (nI 3) → wj_X12_ticks1_41 x1 (-4) M Q)))
set_option maxRecDepth 20000 in
theorem wk_X12_ticks1 {x1 : Int32} {x2 : Int32} {M : wM} {Q : Int32 → wM → Prop} (h : w_X12_ticks1 x1 x2 M Q) : aG 216 (aEn 216 [(.ref 0), (.int x1), (.int x2)] (mkM M)) (aPi mkM Q) := by
  unfold w_X12_ticks1 at h
  refine aG_n 5 (s' := (9, [some (.ref 0), some (.int x1), some (.int x2), some (.int (-4)), none], [(.int (nI 11)), (.int (gi M 0 33))], mkM M)) rfl ?_
  obtain ⟨h1, h2⟩ := h
  by_cases q1 : (gi M 0 33) = (nI 11)
  · have h := h1 q1
    refine aG_icmp (cd := .eq) (b := true) (decide_eq_true q1) rfl ?_
    refine aG_n 2 (s' := (22, [some (.ref 0), some (.int x1), some (.int x2), some (.int (-4)), none], [(.int x2), (.ref 0)], mkM M)) rfl ?_
    refine aG_call rfl rfl (aG_mono (wk_X12_shifts h) ?_)
    rintro _ ⟨r2, M3, rfl, h⟩
    refine aG_n 2 (s' := (41, [some (.ref 0), some (.int x1), some (.int x2), some (.int r2), none], [], mkM M3)) rfl ?_
    refine aG_le (a := [some (.ref 0), some (.int x1), none, some (.int r2), none]) ⟨rfl, ⟨rfl, ⟨rfl, trivial⟩⟩⟩ ?_
    exact wjk_X12_ticks1_41 h
  · have h := h2 q1
    refine aG_icmp (cd := .eq) (b := false) (decide_eq_false q1) rfl ?_
    refine aG_n 3 (s' := (17, [some (.ref 0), some (.int x1), some (.int x2), some (.int (-4)), none], [(.int (nI 4)), (.int (gi M 0 33))], mkM M)) rfl ?_
    obtain ⟨h1, h2⟩ := h
    by_cases q23 : (gi M 0 33) = (nI 4)
    · have h := h1 q23
      refine aG_icmp (cd := .ne) (b := false) (aTne0 q23) rfl ?_
      refine aG_n 2 (s' := (22, [some (.ref 0), some (.int x1), some (.int x2), some (.int (-4)), none], [(.int x2), (.ref 0)], mkM M)) rfl ?_
      refine aG_call rfl rfl (aG_mono (wk_X12_shifts h) ?_)
      rintro _ ⟨r24, M25, rfl, h⟩
      refine aG_n 2 (s' := (41, [some (.ref 0), some (.int x1), some (.int x2), some (.int r24), none], [], mkM M25)) rfl ?_
      refine aG_le (a := [some (.ref 0), some (.int x1), none, some (.int r24), none]) ⟨rfl, ⟨rfl, ⟨rfl, trivial⟩⟩⟩ ?_
      exact wjk_X12_ticks1_41 h
    · have h := h2 q23
      refine aG_icmp (cd := .ne) (b := true) (aTne1 q23) rfl ?_
      refine aG_n 3 (s' := (34, [some (.ref 0), some (.int x1), some (.int x2), some (.int (-4)), none], [(.int (nI 3)), (.int (gi M 0 33))], mkM M)) rfl ?_
      obtain ⟨h1, h2⟩ := h
      by_cases q26 : (gi M 0 33) = (nI 3)
      · have h := h1 q26
        refine aG_icmp (cd := .ne) (b := false) (aTne0 q26) rfl ?_
        refine aG_n 1 (s' := (38, [some (.ref 0), some (.int x1), some (.int x2), some (.int (-4)), none], [(.ref 0)], mkM M)) rfl ?_
        refine aG_call rfl rfl (aG_mono (wk_X12_captures h) ?_)
        rintro _ ⟨M28, rfl, h⟩
        refine aG_n 0 (s' := (41, [some (.ref 0), some (.int x1), some (.int x2), some (.int (-4)), none], [], mkM M28)) rfl ?_
        refine aG_le (a := [some (.ref 0), some (.int x1), none, some (.int (-4)), none]) ⟨rfl, ⟨rfl, ⟨rfl, trivial⟩⟩⟩ ?_
        exact wjk_X12_ticks1_41 h
      · have h := h2 q26
        refine aG_icmp (cd := .ne) (b := true) (aTne1 q26) rfl ?_
        refine aG_n 0 (s' := (41, [some (.ref 0), some (.int x1), some (.int x2), some (.int (-4)), none], [], mkM M)) rfl ?_
        refine aG_le (a := [some (.ref 0), some (.int x1), none, some (.int (-4)), none]) ⟨rfl, ⟨rfl, ⟨rfl, trivial⟩⟩⟩ ?_
        exact wjk_X12_ticks1_41 h
def wb_X7_readPart_26 (z1 : Nat) (K26 : Int32 → wM → Prop) (y2 : Int32) (M : wM) (Q : Int32 → wM → Prop) : Prop := ((nI 240) ≤ y2 → Q (nI 0) M) ∧ (¬ (nI 240) ≤ y2 → w_X7_take M (fun r7 M8 => (r7 = (nI 0) → Q (nI 0) M8) ∧ (¬ r7 = (nI 0) → ((gi M8 3 5) = (nI 3) → w_X4_isWhole z1 M8 (fun r11 M12 => (r11 = (nI 0) → w_X7_refuse (nI 6) M12 (fun r14 M15 => (r14 = (nI 0) → Q (nI 0) M15) ∧ (¬ r14 = (nI 0) → Q (nI 1) M15))) ∧ (¬ r11 = (nI 0) → Q (nI 1) M12))) ∧ (¬ (gi M8 3 5) = (nI 3) → w_X7_readItem z1 M8 (fun r17 M18 => (r17 = (nI 0) → Q (nI 0) M18) ∧ (¬ r17 = (nI 0) → K26 (y2 + (nI 1)) M18))))))
set_option maxRecDepth 20000 in
theorem wbk_X7_readPart_26 {z1 : Nat} {K26 : Int32 → wM → Prop} {y2 : Int32} {M : wM} {Q : Int32 → wM → Prop} (hz1 : ptX z1) (hK26 : ∀ (v2 : Int32) (M : wM), K26 v2 M → aG 217 (26, [some (.ref 3), some (.ref z1), some (.int v2)], [], mkX M) (aPi mkX Q)) (h : wb_X7_readPart_26 z1 K26 y2 M Q) : aG 217 (26, [some (.ref 3), some (.ref z1), some (.int y2)], [], mkX M) (aPi mkX Q) := by
  unfold wb_X7_readPart_26 at h
  refine aG_n 2 (s' := (30, [some (.ref 3), some (.ref z1), some (.int y2)], [(.int (nI 240)), (.int y2)], mkX M)) rfl ?_
  obtain ⟨h1, h2⟩ := h
  by_cases q6 : (nI 240) ≤ y2
  · have h := h1 q6
    refine aG_icmp (cd := .ge) (b := true) (decide_eq_true q6) rfl ?_
    refine aG_n 1 (s' := (89, [some (.ref 3), some (.ref z1), some (.int y2)], [(.int (nI 0))], mkX M)) rfl ?_
    exact aG_retZ rfl rfl (Or.inl rfl) ⟨_, _, rfl, h⟩
  · have h := h2 q6
    refine aG_icmp (cd := .ge) (b := false) (decide_eq_false q6) rfl ?_
    refine aG_n 1 (s' := (34, [some (.ref 3), some (.ref z1), some (.int y2)], [(.ref 3)], mkX M)) rfl ?_
    refine aG_call rfl rfl (aG_mono (wk_X7_take h) ?_)
    rintro _ ⟨r7, M8, rfl, h⟩
    refine aG_n 0 (s' := (37, [some (.ref 3), some (.ref z1), some (.int y2)], [(.int r7)], mkX M8)) rfl ?_
    obtain ⟨h1, h2⟩ := h
    by_cases q9 : r7 = (nI 0)
    · have h := h1 q9
      refine aG_if (cd := .ne) (b := false) (aTne0 q9) rfl ?_
      refine aG_n 1 (s' := (41, [some (.ref 3), some (.ref z1), some (.int y2)], [(.int (nI 0))], mkX M8)) rfl ?_
      exact aG_retZ rfl rfl (Or.inl rfl) ⟨_, _, rfl, h⟩
    · have h := h2 q9
      refine aG_if (cd := .ne) (b := true) (aTne1 q9) rfl ?_
      refine aG_n 3 (s' := (47, [some (.ref 3), some (.ref z1), some (.int y2)], [(.int (nI 3)), (.int (gi M8 3 5))], mkX M8)) rfl ?_
      obtain ⟨h1, h2⟩ := h
      by_cases q10 : (gi M8 3 5) = (nI 3)
      · have h := h1 q10
        refine aG_icmp (cd := .ne) (b := false) (aTne0 q10) rfl ?_
        refine aG_n 1 (s' := (51, [some (.ref 3), some (.ref z1), some (.int y2)], [(.ref z1)], mkX M8)) rfl ?_
        refine aG_ivv rfl rfl hz1 rfl rfl (aG_mono (wk_X4_isWhole h) ?_)
        rintro _ ⟨r11, M12, rfl, h⟩
        refine aG_n 0 (s' := (54, [some (.ref 3), some (.ref z1), some (.int y2)], [(.int r11)], mkX M12)) rfl ?_
        obtain ⟨h1, h2⟩ := h
        by_cases q13 : r11 = (nI 0)
        · have h := h1 q13
          refine aG_if (cd := .ne) (b := false) (aTne0 q13) rfl ?_
          refine aG_n 2 (s' := (60, [some (.ref 3), some (.ref z1), some (.int y2)], [(.int (nI 6)), (.ref 3)], mkX M12)) rfl ?_
          refine aG_call rfl rfl (aG_mono (wk_X7_refuse h) ?_)
          rintro _ ⟨r14, M15, rfl, h⟩
          refine aG_n 0 (s' := (63, [some (.ref 3), some (.ref z1), some (.int y2)], [(.int r14)], mkX M15)) rfl ?_
          obtain ⟨h1, h2⟩ := h
          by_cases q16 : r14 = (nI 0)
          · have h := h1 q16
            refine aG_if (cd := .eq) (b := true) (decide_eq_true q16) rfl ?_
            refine aG_n 1 (s' := (71, [some (.ref 3), some (.ref z1), some (.int y2)], [(.int (nI 0))], mkX M15)) rfl ?_
            exact aG_retZ rfl rfl (Or.inl rfl) ⟨_, _, rfl, h⟩
          · have h := h2 q16
            refine aG_if (cd := .eq) (b := false) (decide_eq_false q16) rfl ?_
            refine aG_n 2 (s' := (71, [some (.ref 3), some (.ref z1), some (.int y2)], [(.int (nI 1))], mkX M15)) rfl ?_
            exact aG_retZ rfl rfl (Or.inr rfl) ⟨_, _, rfl, h⟩
        · have h := h2 q13
          refine aG_if (cd := .ne) (b := true) (aTne1 q13) rfl ?_
          refine aG_n 2 (s' := (71, [some (.ref 3), some (.ref z1), some (.int y2)], [(.int (nI 1))], mkX M12)) rfl ?_
          exact aG_retZ rfl rfl (Or.inr rfl) ⟨_, _, rfl, h⟩
      · have h := h2 q10
        refine aG_icmp (cd := .ne) (b := true) (aTne1 q10) rfl ?_
        refine aG_n 2 (s' := (74, [some (.ref 3), some (.ref z1), some (.int y2)], [(.ref z1), (.ref 3)], mkX M8)) rfl ?_
        refine aG_call rfl rfl (aG_mono (wk_X7_readItem h) ?_)
        rintro _ ⟨r17, M18, rfl, h⟩
        refine aG_n 0 (s' := (77, [some (.ref 3), some (.ref z1), some (.int y2)], [(.int r17)], mkX M18)) rfl ?_
        obtain ⟨h1, h2⟩ := h
        by_cases q19 : r17 = (nI 0)
        · have h := h1 q19
          refine aG_if (cd := .ne) (b := false) (aTne0 q19) rfl ?_
          refine aG_n 1 (s' := (81, [some (.ref 3), some (.ref z1), some (.int y2)], [(.int (nI 0))], mkX M18)) rfl ?_
          exact aG_retZ rfl rfl (Or.inl rfl) ⟨_, _, rfl, h⟩
        · have h := h2 q19
          refine aG_if (cd := .ne) (b := true) (aTne1 q19) rfl ?_
          refine aG_n 2 (s' := (26, [some (.ref 3), some (.ref z1), some (.int (y2 + (nI 1)))], [], mkX M18)) rfl ?_
          refine aG_le (a := [some (.ref 3), some (.ref z1), some (.int (y2 + (nI 1)))]) ⟨rfl, ⟨rfl, ⟨rfl, trivial⟩⟩⟩ ?_
          exact hK26 _ _ h
def wL_X7_readPart_26 (z1 : Nat) (Q : Int32 → wM → Prop) : Nat → Int32 → wM → Prop
  | 0, _, _ => False
  | n + 1, y2, M => wb_X7_readPart_26 z1 (wL_X7_readPart_26 z1 Q n) y2 M Q
set_option maxRecDepth 20000 in
theorem wLk_X7_readPart_26 {z1 : Nat} {Q : Int32 → wM → Prop} (hz1 : ptX z1) : ∀ (n : Nat) (y2 : Int32) (M : wM), wL_X7_readPart_26 z1 Q n y2 M → aG 217 (26, [some (.ref 3), some (.ref z1), some (.int y2)], [], mkX M) (aPi mkX Q)
  | 0, _, _, h => h.elim
  | n + 1, y2, M, h => wbk_X7_readPart_26 hz1 (fun y2 M h => wLk_X7_readPart_26 hz1 n y2 M h) h
def w_X7_readPart (x1 : Nat) (M : wM) (Q : Int32 → wM → Prop) : Prop := ptX x1 ∧ (w_X4_clear x1 M (fun M2 => w_X7_takeNumber (nI 2) (nI 8) M2 (fun r3 M4 => (r3 = (nI 0) → Q (nI 0) M4) ∧ (¬ r3 = (nI 0) → ∃ n, wL_X7_readPart_26 x1 Q n (nI 0) (si M4 x1 0 (gi M4 3 8))))))
set_option maxRecDepth 20000 in
theorem wk_X7_readPart {x1 : Nat} {M : wM} {Q : Int32 → wM → Prop} (h : w_X7_readPart x1 M Q) : aG 217 (aEn 217 [(.ref 3), (.ref x1)] (mkX M)) (aPi mkX Q) := by
  unfold w_X7_readPart at h
  obtain ⟨hx1, h⟩ := h
  refine aG_n 1 (s' := (1, [some (.ref 3), some (.ref x1), none], [(.ref x1)], mkX M)) rfl ?_
  refine aG_ivv rfl rfl hx1 rfl rfl (aG_mono (wk_X4_clear h) ?_)
  rintro _ ⟨M2, rfl, h⟩
  refine aG_n 3 (s' := (8, [some (.ref 3), some (.ref x1), none], [(.int (nI 8)), (.int (nI 2)), (.ref 3)], mkX M2)) rfl ?_
  refine aG_call rfl rfl (aG_mono (wk_X7_takeNumber h) ?_)
  rintro _ ⟨r3, M4, rfl, h⟩
  refine aG_n 0 (s' := (11, [some (.ref 3), some (.ref x1), none], [(.int r3)], mkX M4)) rfl ?_
  obtain ⟨h1, h2⟩ := h
  by_cases q5 : r3 = (nI 0)
  · have h := h1 q5
    refine aG_if (cd := .ne) (b := false) (aTne0 q5) rfl ?_
    refine aG_n 1 (s' := (15, [some (.ref 3), some (.ref x1), none], [(.int (nI 0))], mkX M4)) rfl ?_
    exact aG_retZ rfl rfl (Or.inl rfl) ⟨_, _, rfl, h⟩
  · have h := h2 q5
    refine aG_if (cd := .ne) (b := true) (aTne1 q5) rfl ?_
    refine aG_n 3 (s' := (21, [some (.ref 3), some (.ref x1), none], [(.int (gi M4 3 8)), (.ref x1)], mkX M4)) rfl ?_
    refine aG_put rfl hx1 rfl rfl ?_
    refine aG_n 2 (s' := (26, [some (.ref 3), some (.ref x1), some (.int (nI 0))], [], mkX (si M4 x1 0 (gi M4 3 8)))) rfl ?_
    refine aG_le (a := [some (.ref 3), some (.ref x1), some (.int (nI 0))]) ⟨rfl, ⟨rfl, ⟨rfl, trivial⟩⟩⟩ ?_
    obtain ⟨n, h⟩ := h
    exact wLk_X7_readPart_26 hx1 n _ _ h
def w_X12_tick (x1 : Int32) (x2 : Int32) (M : wM) (Q : Int32 → wM → Prop) : Prop := ((gi M 0 22) = (nI 0) → Q (-2) M) ∧ (¬ (gi M 0 22) = (nI 0) → (x2 = (nI 0) → w_X12_ticks1 x1 (nI 0) M (fun r3 M4 => Q r3 M4)) ∧ (¬ x2 = (nI 0) → w_X12_ticks1 x1 (nI 1) M (fun r5 M6 => Q r5 M6)))
set_option maxRecDepth 20000 in
theorem wk_X12_tick {x1 : Int32} {x2 : Int32} {M : wM} {Q : Int32 → wM → Prop} (h : w_X12_tick x1 x2 M Q) : aG 218 (aEn 218 [(.ref 0), (.int x1), (.int x2)] (mkM M)) (aPi mkM Q) := by
  unfold w_X12_tick at h
  refine aG_n 2 (s' := (4, [some (.ref 0), some (.int x1), some (.int x2)], [(.int (gi M 0 22))], mkM M)) rfl ?_
  obtain ⟨h1, h2⟩ := h
  by_cases q1 : (gi M 0 22) = (nI 0)
  · have h := h1 q1
    refine aG_if (cd := .ne) (b := false) (aTne0 q1) rfl ?_
    refine aG_n 2 (s' := (26, [some (.ref 0), some (.int x1), some (.int x2)], [(.int (-2))], mkM M)) rfl ?_
    exact aG_ret0 rfl rfl ⟨_, _, rfl, h⟩
  · have h := h2 q1
    refine aG_if (cd := .ne) (b := true) (aTne1 q1) rfl ?_
    refine aG_n 3 (s' := (15, [some (.ref 0), some (.int x1), some (.int x2)], [(.int x2), (.int x1), (.ref 0)], mkM M)) rfl ?_
    obtain ⟨h1, h2⟩ := h
    by_cases q2 : x2 = (nI 0)
    · have h := h1 q2
      refine aG_if (cd := .eq) (b := true) (decide_eq_true q2) rfl ?_
      refine aG_n 1 (s' := (23, [some (.ref 0), some (.int x1), some (.int x2)], [(.int (nI 0)), (.int x1), (.ref 0)], mkM M)) rfl ?_
      refine aG_call rfl rfl (aG_mono (wk_X12_ticks1 h) ?_)
      rintro _ ⟨r3, M4, rfl, h⟩
      refine aG_n 0 (s' := (26, [some (.ref 0), some (.int x1), some (.int x2)], [(.int r3)], mkM M4)) rfl ?_
      exact aG_ret0 rfl rfl ⟨_, _, rfl, h⟩
    · have h := h2 q2
      refine aG_if (cd := .eq) (b := false) (decide_eq_false q2) rfl ?_
      refine aG_n 2 (s' := (23, [some (.ref 0), some (.int x1), some (.int x2)], [(.int (nI 1)), (.int x1), (.ref 0)], mkM M)) rfl ?_
      refine aG_call rfl rfl (aG_mono (wk_X12_ticks1 h) ?_)
      rintro _ ⟨r5, M6, rfl, h⟩
      refine aG_n 0 (s' := (26, [some (.ref 0), some (.int x1), some (.int x2)], [(.int r5)], mkM M6)) rfl ?_
      exact aG_ret0 rfl rfl ⟨_, _, rfl, h⟩
def wj_X12_ticks_54 (z1 : Int32) (z2 : Int32) (z3 : Int32) (z5 : Int32) (s0 : Int32) (s2 : Int32) (K30 : Int32 → Int32 → wM → Prop) (M : wM) (Q : Int32 → wM → Prop) : Prop := w_X12_ticks1 s2 ((jshr z3 z5) &&& (nI 1)) M (fun r7 M8 => (r7 = (nI 1) → K30 (s0 ||| (jshl (nI 1) z5)) (z5 + (nI 1)) M8) ∧ (¬ r7 = (nI 1) → K30 (s0 ||| (nI 0)) (z5 + (nI 1)) M8))
set_option maxRecDepth 20000 in
theorem wjk_X12_ticks_54 {z1 : Int32} {z2 : Int32} {z3 : Int32} {z5 : Int32} {s0 : Int32} {s2 : Int32} {K30 : Int32 → Int32 → wM → Prop} {M : wM} {Q : Int32 → wM → Prop} (hK30 : ∀ (v4 : Int32) (v5 : Int32) (M : wM), K30 v4 v5 M → aG 219 (30, [some (.ref 0), some (.int z1), some (.int z2), some (.int z3), some (.int v4), some (.int v5)], [], mkM M) (aPi mkM Q)) (h : wj_X12_ticks_54 z1 z2 z3 z5 s0 s2 K30 M Q) : aG 219 (54, [some (.ref 0), some (.int z1), some (.int z2), some (.int z3), none, some (.int z5)], [(.int s2), (.ref 0), (.int s0)], mkM M) (aPi mkM Q) := by
  unfold wj_X12_ticks_54 at h
  refine aG_n 5 (s' := (60, [some (.ref 0), some (.int z1), some (.int z2), some (.int z3), none, some (.int z5)], [(.int ((jshr z3 z5) &&& (nI 1))), (.int s2), (.ref 0), (.int s0)], mkM M)) rfl ?_
  refine aG_call rfl rfl (aG_mono (wk_X12_ticks1 h) ?_)
  rintro _ ⟨r7, M8, rfl, h⟩
  refine aG_n 1 (s' := (64, [some (.ref 0), some (.int z1), some (.int z2), some (.int z3), none, some (.int z5)], [(.int (nI 1)), (.int r7), (.int s0)], mkM M8)) rfl ?_
  obtain ⟨h1, h2⟩ := h
  by_cases q9 : r7 = (nI 1)
  · have h := h1 q9
    refine aG_icmp (cd := .ne) (b := false) (aTne0 q9) rfl ?_
    refine aG_n 8 (s' := (30, [some (.ref 0), some (.int z1), some (.int z2), some (.int z3), some (.int (s0 ||| (jshl (nI 1) z5))), some (.int (z5 + (nI 1)))], [], mkM M8)) rfl ?_
    refine aG_le (a := [some (.ref 0), some (.int z1), some (.int z2), some (.int z3), some (.int (s0 ||| (jshl (nI 1) z5))), some (.int (z5 + (nI 1)))]) ⟨rfl, ⟨rfl, ⟨rfl, ⟨rfl, ⟨rfl, ⟨rfl, trivial⟩⟩⟩⟩⟩⟩ ?_
    exact hK30 _ _ _ h
  · have h := h2 q9
    refine aG_icmp (cd := .ne) (b := true) (aTne1 q9) rfl ?_
    refine aG_n 5 (s' := (30, [some (.ref 0), some (.int z1), some (.int z2), some (.int z3), some (.int (s0 ||| (nI 0))), some (.int (z5 + (nI 1)))], [], mkM M8)) rfl ?_
    refine aG_le (a := [some (.ref 0), some (.int z1), some (.int z2), some (.int z3), some (.int (s0 ||| (nI 0))), some (.int (z5 + (nI 1)))]) ⟨rfl, ⟨rfl, ⟨rfl, ⟨rfl, ⟨rfl, ⟨rfl, trivial⟩⟩⟩⟩⟩⟩ ?_
    exact hK30 _ _ _ h
def wb_X12_ticks_30 (z1 : Int32) (z2 : Int32) (z3 : Int32) (K30 : Int32 → Int32 → wM → Prop) (y4 : Int32) (y5 : Int32) (M : wM) (Q : Int32 → wM → Prop) : Prop := (z1 ≤ y5 → Q y4 M) ∧ (¬ z1 ≤ y5 → (((jshr z2 y5) &&& (nI 1)) = (nI 1) → wj_X12_ticks_54 z1 z2 z3 y5 y4 (nI 1) K30 M Q) ∧ (¬ ((jshr z2 y5) &&& (nI 1)) = (nI 1) → wj_X12_ticks_54 z1 z2 z3 y5 y4 (nI 0) K30 M Q))
set_option maxRecDepth 20000 in
theorem wbk_X12_ticks_30 {z1 : Int32} {z2 : Int32} {z3 : Int32} {K30 : Int32 → Int32 → wM → Prop} {y4 : Int32} {y5 : Int32} {M : wM} {Q : Int32 → wM → Prop} (hK30 : ∀ (v4 : Int32) (v5 : Int32) (M : wM), K30 v4 v5 M → aG 219 (30, [some (.ref 0), some (.int z1), some (.int z2), some (.int z3), some (.int v4), some (.int v5)], [], mkM M) (aPi mkM Q)) (h : wb_X12_ticks_30 z1 z2 z3 K30 y4 y5 M Q) : aG 219 (30, [some (.ref 0), some (.int z1), some (.int z2), some (.int z3), some (.int y4), some (.int y5)], [], mkM M) (aPi mkM Q) := by
  unfold wb_X12_ticks_30 at h
  refine aG_n 2 (s' := (33, [some (.ref 0), some (.int z1), some (.int z2), some (.int z3), some (.int y4), some (.int y5)], [(.int z1), (.int y5)], mkM M)) rfl ?_
  obtain ⟨h1, h2⟩ := h
  by_cases q5 : z1 ≤ y5
  · have h := h1 q5
    refine aG_icmp (cd := .ge) (b := true) (decide_eq_true q5) rfl ?_
    refine aG_n 1 (s' := (86, [some (.ref 0), some (.int z1), some (.int z2), some (.int z3), some (.int y4), some (.int y5)], [(.int y4)], mkM M)) rfl ?_
    exact aG_ret0 rfl rfl ⟨_, _, rfl, h⟩
  · have h := h2 q5
    refine aG_icmp (cd := .ge) (b := false) (decide_eq_false q5) rfl ?_
    refine aG_n 8 (s' := (46, [some (.ref 0), some (.int z1), some (.int z2), some (.int z3), some (.int y4), some (.int y5)], [(.int (nI 1)), (.int ((jshr z2 y5) &&& (nI 1))), (.ref 0), (.int y4)], mkM M)) rfl ?_
    obtain ⟨h1, h2⟩ := h
    by_cases q6 : ((jshr z2 y5) &&& (nI 1)) = (nI 1)
    · have h := h1 q6
      refine aG_icmp (cd := .ne) (b := false) (aTne0 q6) rfl ?_
      refine aG_n 2 (s' := (54, [some (.ref 0), some (.int z1), some (.int z2), some (.int z3), some (.int y4), some (.int y5)], [(.int (nI 1)), (.ref 0), (.int y4)], mkM M)) rfl ?_
      refine aG_le (a := [some (.ref 0), some (.int z1), some (.int z2), some (.int z3), none, some (.int y5)]) ⟨rfl, ⟨rfl, ⟨rfl, ⟨rfl, ⟨rfl, trivial⟩⟩⟩⟩⟩ ?_
      exact wjk_X12_ticks_54 hK30 h
    · have h := h2 q6
      refine aG_icmp (cd := .ne) (b := true) (aTne1 q6) rfl ?_
      refine aG_n 1 (s' := (54, [some (.ref 0), some (.int z1), some (.int z2), some (.int z3), some (.int y4), some (.int y5)], [(.int (nI 0)), (.ref 0), (.int y4)], mkM M)) rfl ?_
      refine aG_le (a := [some (.ref 0), some (.int z1), some (.int z2), some (.int z3), none, some (.int y5)]) ⟨rfl, ⟨rfl, ⟨rfl, ⟨rfl, ⟨rfl, trivial⟩⟩⟩⟩⟩ ?_
      exact wjk_X12_ticks_54 hK30 h
def wL_X12_ticks_30 (z1 : Int32) (z2 : Int32) (z3 : Int32) (Q : Int32 → wM → Prop) : Nat → Int32 → Int32 → wM → Prop
  | 0, _, _, _ => False
  | n + 1, y4, y5, M => wb_X12_ticks_30 z1 z2 z3 (wL_X12_ticks_30 z1 z2 z3 Q n) y4 y5 M Q
set_option maxRecDepth 20000 in
theorem wLk_X12_ticks_30 {z1 : Int32} {z2 : Int32} {z3 : Int32} {Q : Int32 → wM → Prop} : ∀ (n : Nat) (y4 : Int32) (y5 : Int32) (M : wM), wL_X12_ticks_30 z1 z2 z3 Q n y4 y5 M → aG 219 (30, [some (.ref 0), some (.int z1), some (.int z2), some (.int z3), some (.int y4), some (.int y5)], [], mkM M) (aPi mkM Q)
  | 0, _, _, _, h => h.elim
  | n + 1, y4, y5, M, h => wbk_X12_ticks_30 (fun y4 y5 M h => wLk_X12_ticks_30 n y4 y5 M h) h
def w_X12_ticks (x1 : Int32) (x2 : Int32) (x3 : Int32) (M : wM) (Q : Int32 → wM → Prop) : Prop := w_X12_in x1.toInt64 (lN 1) (lN 31) M (fun r1 M2 => (r1 = (nI 0) → Q (-1) M2) ∧ (¬ r1 = (nI 0) → ((gi M2 0 22) = (nI 0) → Q (-2) M2) ∧ (¬ (gi M2 0 22) = (nI 0) → ∃ n, wL_X12_ticks_30 x1 x2 x3 Q n (nI 0) (nI 0) M2)))
set_option maxRecDepth 20000 in
theorem wk_X12_ticks {x1 : Int32} {x2 : Int32} {x3 : Int32} {M : wM} {Q : Int32 → wM → Prop} (h : w_X12_ticks x1 x2 x3 M Q) : aG 219 (aEn 219 [(.ref 0), (.int x1), (.int x2), (.int x3)] (mkM M)) (aPi mkM Q) := by
  unfold w_X12_ticks at h
  refine aG_n 4 (s' := (6, [some (.ref 0), some (.int x1), some (.int x2), some (.int x3), none, none], [(.long (lN 31)), (.long (lN 1)), (.long x1.toInt64)], mkM M)) rfl ?_
  refine aG_call rfl rfl (aG_mono (wk_X12_in h) ?_)
  rintro _ ⟨r1, M2, rfl, h⟩
  refine aG_n 0 (s' := (9, [some (.ref 0), some (.int x1), some (.int x2), some (.int x3), none, none], [(.int r1)], mkM M2)) rfl ?_
  obtain ⟨h1, h2⟩ := h
  by_cases q3 : r1 = (nI 0)
  · have h := h1 q3
    refine aG_if (cd := .ne) (b := false) (aTne0 q3) rfl ?_
    refine aG_n 1 (s' := (13, [some (.ref 0), some (.int x1), some (.int x2), some (.int x3), none, none], [(.int (-1))], mkM M2)) rfl ?_
    exact aG_ret0 rfl rfl ⟨_, _, rfl, h⟩
  · have h := h2 q3
    refine aG_if (cd := .ne) (b := true) (aTne1 q3) rfl ?_
    refine aG_n 2 (s' := (18, [some (.ref 0), some (.int x1), some (.int x2), some (.int x3), none, none], [(.int (gi M2 0 22))], mkM M2)) rfl ?_
    obtain ⟨h1, h2⟩ := h
    by_cases q4 : (gi M2 0 22) = (nI 0)
    · have h := h1 q4
      refine aG_if (cd := .ne) (b := false) (aTne0 q4) rfl ?_
      refine aG_n 1 (s' := (23, [some (.ref 0), some (.int x1), some (.int x2), some (.int x3), none, none], [(.int (-2))], mkM M2)) rfl ?_
      exact aG_ret0 rfl rfl ⟨_, _, rfl, h⟩
    · have h := h2 q4
      refine aG_if (cd := .ne) (b := true) (aTne1 q4) rfl ?_
      refine aG_n 4 (s' := (30, [some (.ref 0), some (.int x1), some (.int x2), some (.int x3), some (.int (nI 0)), some (.int (nI 0))], [], mkM M2)) rfl ?_
      refine aG_le (a := [some (.ref 0), some (.int x1), some (.int x2), some (.int x3), some (.int (nI 0)), some (.int (nI 0))]) ⟨rfl, ⟨rfl, ⟨rfl, ⟨rfl, ⟨rfl, ⟨rfl, trivial⟩⟩⟩⟩⟩⟩ ?_
      obtain ⟨n, h⟩ := h
      exact wLk_X12_ticks_30 n _ _ _ h
