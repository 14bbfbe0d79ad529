/-! methods as predicates, and their walks (by gen/wpgen.py) -/
def wb_X1_feet_7 (z0 : Nat) (z1 : Int32) (K7 : Int32 → Int32 → wM → Prop) (y2 : Int32) (y3 : Int32) (M : wM) (Q : Int32 → wM → Prop) : Prop := ((nI 10) ≤ y3 → ptX (gp M z0) ∧ (ptX (gp M z0) ∧ (w_X1_driven z0 M (fun r4 M5 => Q (r4 ||| (y2 &&& (((jshl (nI 1) (gi M (gp M z0) 1)) - (nI 1)) &&& ((gi M (gp M z0) 5) ^^^ (-1))))) M5)))) ∧ (¬ (nI 10) ≤ y3 → vp_in y3 10 ∧ (((gi M (36 + 3 * z0) y3.toNatClampNeg) = (-4) → K7 (y2 ||| (jshl (nI 1) y3)) (y3 + (nI 1)) M) ∧ (¬ (gi M (36 + 3 * z0) y3.toNatClampNeg) = (-4) → vp_in y3 10 ∧ (w_X11_bit z1 (gi M (36 + 3 * z0) y3.toNatClampNeg) M (fun r9 M10 => (r9 = (nI 1) → K7 (y2 ||| (jshl (nI 1) y3)) (y3 + (nI 1)) M10) ∧ (¬ r9 = (nI 1) → K7 y2 (y3 + (nI 1)) M10))))))
set_option maxRecDepth 20000 in
theorem wbk_X1_feet_7 {z0 : Nat} {z1 : Int32} {K7 : Int32 → Int32 → wM → Prop} {y2 : Int32} {y3 : Int32} {M : wM} {Q : Int32 → wM → Prop} (hz0 : z0 < 6) (hK7 : ∀ (v2 : Int32) (v3 : Int32) (M : wM), K7 v2 v3 M → aG 87 (7, [some (.ref (34 + 3 * z0)), some (.int z1), some (.int v2), some (.int v3)], [], mkX M) (aPi mkX Q)) (h : wb_X1_feet_7 z0 z1 K7 y2 y3 M Q) : aG 87 (7, [some (.ref (34 + 3 * z0)), some (.int z1), some (.int y2), some (.int y3)], [], mkX M) (aPi mkX Q) := by
  unfold wb_X1_feet_7 at h
  refine aG_n 2 (s' := (10, [some (.ref (34 + 3 * z0)), some (.int z1), some (.int y2), some (.int y3)], [(.int (nI 10)), (.int y3)], mkX M)) rfl ?_
  obtain ⟨h1, h2⟩ := h
  by_cases q1 : (nI 10) ≤ y3
  · have h := h1 q1
    refine aG_icmp (cd := .ge) (b := true) (decide_eq_true q1) rfl ?_
    refine aG_n 2 (s' := (52, [some (.ref (34 + 3 * z0)), some (.int z1), some (.int y2), some (.int y3)], [(.ref (34 + 3 * z0)), (.int (nI 1))], mkX M)) rfl ?_
    refine aG_getR rfl (shX_chip hz0) rfl rfl (rX_part (P := (M).2.2) hz0) ?_
    obtain ⟨f2, h⟩ := h
    refine aG_n 0 (s' := (55, [some (.ref (34 + 3 * z0)), some (.int z1), some (.int y2), some (.int y3)], [(.ref (gp M z0)), (.int (nI 1))], mkX M)) rfl ?_
    refine aG_get rfl f2 rfl rfl ?_
    refine aG_n 4 (s' := (62, [some (.ref (34 + 3 * z0)), some (.int z1), some (.int y2), some (.int y3)], [(.ref (34 + 3 * z0)), (.int ((jshl (nI 1) (gi M (gp M z0) 1)) - (nI 1)))], mkX M)) rfl ?_
    refine aG_getR rfl (shX_chip hz0) rfl rfl (rX_part (P := (M).2.2) hz0) ?_
    obtain ⟨f3, h⟩ := h
    refine aG_n 0 (s' := (65, [some (.ref (34 + 3 * z0)), some (.int z1), some (.int y2), some (.int y3)], [(.ref (gp M z0)), (.int ((jshl (nI 1) (gi M (gp M z0) 1)) - (nI 1)))], mkX M)) rfl ?_
    refine aG_get rfl f3 rfl rfl ?_
    refine aG_n 5 (s' := (73, [some (.ref (34 + 3 * z0)), some (.int z1), some (.int y2), some (.int (((jshl (nI 1) (gi M (gp M z0) 1)) - (nI 1)) &&& ((gi M (gp M z0) 5) ^^^ (-1))))], [(.ref (34 + 3 * z0))], mkX M)) rfl ?_
    refine aG_ivv rfl rfl (shX_chip hz0) rfl rfl (aG_mono (wk_X1_driven h) ?_)
    rintro _ ⟨r4, M5, rfl, h⟩
    refine aG_n 4 (s' := (80, [some (.ref (34 + 3 * z0)), some (.int z1), some (.int y2), some (.int (((jshl (nI 1) (gi M (gp M z0) 1)) - (nI 1)) &&& ((gi M (gp M z0) 5) ^^^ (-1))))], [(.int (r4 ||| (y2 &&& (((jshl (nI 1) (gi M (gp M z0) 1)) - (nI 1)) &&& ((gi M (gp M z0) 5) ^^^ (-1))))))], mkX M5)) rfl ?_
    exact aG_ret0 rfl rfl ⟨_, _, rfl, h⟩
  · have h := h2 q1
    refine aG_icmp (cd := .ge) (b := false) (decide_eq_false q1) rfl ?_
    refine aG_n 1 (s' := (14, [some (.ref (34 + 3 * z0)), some (.int z1), some (.int y2), some (.int y3)], [(.ref (34 + 3 * z0))], mkX M)) rfl ?_
    refine aG_getR rfl (shX_chip hz0) rfl rfl (rX_nat (P := (M).2.2) hz0) ?_
    refine aG_n 1 (s' := (18, [some (.ref (34 + 3 * z0)), some (.int z1), some (.int y2), some (.int y3)], [(.int y3), (.ref (36 + 3 * z0))], mkX M)) rfl ?_
    obtain ⟨f6, h⟩ := h
    refine aG_iald rfl (shX_nat hz0) rfl f6 ?_
    refine aG_n 1 (s' := (21, [some (.ref (34 + 3 * z0)), some (.int z1), some (.int y2), some (.int y3)], [(.int (-4)), (.int (gi M (36 + 3 * z0) y3.toNatClampNeg))], mkX M)) rfl ?_
    obtain ⟨h1, h2⟩ := h
    by_cases q7 : (gi M (36 + 3 * z0) y3.toNatClampNeg) = (-4)
    · have h := h1 q7
      refine aG_icmp (cd := .eq) (b := true) (decide_eq_true q7) rfl ?_
      refine aG_n 8 (s' := (7, [some (.ref (34 + 3 * z0)), some (.int z1), some (.int (y2 ||| (jshl (nI 1) y3))), some (.int (y3 + (nI 1)))], [], mkX M)) rfl ?_
      refine aG_le (a := [some (.ref (34 + 3 * z0)), some (.int z1), some (.int (y2 ||| (jshl (nI 1) y3))), some (.int (y3 + (nI 1)))]) ⟨rfl, ⟨rfl, ⟨rfl, ⟨rfl, trivial⟩⟩⟩⟩ ?_
      exact hK7 _ _ _ h
    · have h := h2 q7
      refine aG_icmp (cd := .eq) (b := false) (decide_eq_false q7) rfl ?_
      refine aG_n 2 (s' := (26, [some (.ref (34 + 3 * z0)), some (.int z1), some (.int y2), some (.int y3)], [(.ref (34 + 3 * z0)), (.int z1)], mkX M)) rfl ?_
      refine aG_getR rfl (shX_chip hz0) rfl rfl (rX_nat (P := (M).2.2) hz0) ?_
      refine aG_n 1 (s' := (30, [some (.ref (34 + 3 * z0)), some (.int z1), some (.int y2), some (.int y3)], [(.int y3), (.ref (36 + 3 * z0)), (.int z1)], mkX M)) rfl ?_
      obtain ⟨f8, h⟩ := h
      refine aG_iald rfl (shX_nat hz0) rfl f8 ?_
      refine aG_n 0 (s' := (31, [some (.ref (34 + 3 * z0)), some (.int z1), some (.int y2), some (.int y3)], [(.int (gi M (36 + 3 * z0) y3.toNatClampNeg)), (.int z1)], mkX M)) rfl ?_
      refine aG_call rfl rfl (aG_mono (wk_X11_bit h) ?_)
      rintro _ ⟨r9, M10, rfl, h⟩
      refine aG_n 1 (s' := (35, [some (.ref (34 + 3 * z0)), some (.int z1), some (.int y2), some (.int y3)], [(.int (nI 1)), (.int r9)], mkX M10)) rfl ?_
      obtain ⟨h1, h2⟩ := h
      by_cases q11 : r9 = (nI 1)
      · have h := h1 q11
        refine aG_icmp (cd := .ne) (b := false) (aTne0 q11) rfl ?_
        refine aG_n 8 (s' := (7, [some (.ref (34 + 3 * z0)), some (.int z1), some (.int (y2 ||| (jshl (nI 1) y3))), some (.int (y3 + (nI 1)))], [], mkX M10)) rfl ?_
        refine aG_le (a := [some (.ref (34 + 3 * z0)), some (.int z1), some (.int (y2 ||| (jshl (nI 1) y3))), some (.int (y3 + (nI 1)))]) ⟨rfl, ⟨rfl, ⟨rfl, ⟨rfl, trivial⟩⟩⟩⟩ ?_
        exact hK7 _ _ _ h
      · have h := h2 q11
        refine aG_icmp (cd := .ne) (b := true) (aTne1 q11) rfl ?_
        refine aG_n 2 (s' := (7, [some (.ref (34 + 3 * z0)), some (.int z1), some (.int y2), some (.int (y3 + (nI 1)))], [], mkX M10)) rfl ?_
        refine aG_le (a := [some (.ref (34 + 3 * z0)), some (.int z1), some (.int y2), some (.int (y3 + (nI 1)))]) ⟨rfl, ⟨rfl, ⟨rfl, ⟨rfl, trivial⟩⟩⟩⟩ ?_
        exact hK7 _ _ _ h
def wL_X1_feet_7 (z0 : Nat) (z1 : Int32) (Q : Int32 → wM → Prop) : Nat → Int32 → Int32 → wM → Prop
  | 0, _, _, _ => False
  | n + 1, y2, y3, M => wb_X1_feet_7 z0 z1 (wL_X1_feet_7 z0 z1 Q n) y2 y3 M Q
set_option maxRecDepth 20000 in
theorem wLk_X1_feet_7 {z0 : Nat} {z1 : Int32} {Q : Int32 → wM → Prop} (hz0 : z0 < 6) : ∀ (n : Nat) (y2 : Int32) (y3 : Int32) (M : wM), wL_X1_feet_7 z0 z1 Q n y2 y3 M → aG 87 (7, [some (.ref (34 + 3 * z0)), some (.int z1), some (.int y2), some (.int y3)], [], mkX M) (aPi mkX Q)
  | 0, _, _, _, h => h.elim
  | n + 1, y2, y3, M, h => wbk_X1_feet_7 hz0 (fun y2 y3 M h => wLk_X1_feet_7 hz0 n y2 y3 M h) h
def w_X1_feet (c : Nat) (x1 : Int32) (M : wM) (Q : Int32 → wM → Prop) : Prop := c < 6 ∧ (∃ n, wL_X1_feet_7 c x1 Q n (gi M (34 + 3 * c) 6) (nI 0) M)
set_option maxRecDepth 20000 in
theorem wk_X1_feet {c : Nat} {x1 : Int32} {M : wM} {Q : Int32 → wM → Prop} (h : w_X1_feet c x1 M Q) : aG 87 (aEn 87 [(.ref (34 + 3 * c)), (.int x1)] (mkX M)) (aPi mkX Q) := by
  unfold w_X1_feet at h
  obtain ⟨hc, h⟩ := h
  refine aG_n 1 (s' := (1, [some (.ref (34 + 3 * c)), some (.int x1), none, none], [(.ref (34 + 3 * c))], mkX M)) rfl ?_
  refine aG_get rfl (shX_chip hc) rfl rfl ?_
  refine aG_n 3 (s' := (7, [some (.ref (34 + 3 * c)), some (.int x1), some (.int (gi M (34 + 3 * c) 6)), some (.int (nI 0))], [], mkX M)) rfl ?_
  refine aG_le (a := [some (.ref (34 + 3 * c)), some (.int x1), some (.int (gi M (34 + 3 * c) 6)), some (.int (nI 0))]) ⟨rfl, ⟨rfl, ⟨rfl, ⟨rfl, trivial⟩⟩⟩⟩ ?_
  obtain ⟨n, h⟩ := h
  exact wLk_X1_feet_7 hc n _ _ _ h
def w_X2_united (x0 : Int32) (x1 : Int32) (M : wM) (Q : Int32 → wM → Prop) : Prop := w_X2_of ((x0 ||| x1) &&& (nI 255)) (jmin (jshr x0 (nI 8)) (jshr x1 (nI 8))) M (fun r1 M2 => Q r1 M2)
set_option maxRecDepth 20000 in
theorem wk_X2_united {x0 : Int32} {x1 : Int32} {M : wM} {Q : Int32 → wM → Prop} (h : w_X2_united x0 x1 M Q) : aG 88 (aEn 88 [(.int x0), (.int x1)] (mkX M)) (aPi mkX Q) := by
  unfold w_X2_united at h
  refine aG_n 12 (s' := (18, [some (.int x0), some (.int x1)], [(.int (jmin (jshr x0 (nI 8)) (jshr x1 (nI 8)))), (.int ((x0 ||| x1) &&& (nI 255)))], mkX M)) rfl ?_
  refine aG_call rfl rfl (aG_mono (wk_X2_of h) ?_)
  rintro _ ⟨r1, M2, rfl, h⟩
  refine aG_n 0 (s' := (21, [some (.int x0), some (.int x1)], [(.int r1)], mkX M2)) rfl ?_
  exact aG_ret0 rfl rfl ⟨_, _, rfl, h⟩
def wb_X3_levels_4 (K4 : Int32 → Int32 → wM → Prop) (y2 : Int32) (y3 : Int32) (M : wM) (Q : Int32 → wM → Prop) : Prop := ((gi M 12 0) ≤ y3 → Q y2 M) ∧ (¬ (gi M 12 0) ≤ y3 → vp_in y3 8 ∧ (w_X2_settle y2 (gi M 25 y3.toNatClampNeg) M (fun r3 M4 => K4 r3 (y3 + (nI 1)) M4)))
set_option maxRecDepth 20000 in
theorem wbk_X3_levels_4 {K4 : Int32 → Int32 → wM → Prop} {y2 : Int32} {y3 : Int32} {M : wM} {Q : Int32 → wM → Prop} (hK4 : ∀ (v2 : Int32) (v3 : Int32) (M : wM), K4 v2 v3 M → aG 90 (4, [some (.ref 12), none, some (.int v2), some (.int v3)], [], mkX M) (aPi mkX Q)) (h : wb_X3_levels_4 K4 y2 y3 M Q) : aG 90 (4, [some (.ref 12), none, some (.int y2), some (.int y3)], [], mkX M) (aPi mkX Q) := by
  unfold wb_X3_levels_4 at h
  refine aG_n 3 (s' := (9, [some (.ref 12), none, some (.int y2), some (.int y3)], [(.int (gi M 12 0)), (.int y3)], mkX M)) rfl ?_
  obtain ⟨h1, h2⟩ := h
  by_cases q1 : (gi M 12 0) ≤ y3
  · have h := h1 q1
    refine aG_icmp (cd := .ge) (b := true) (decide_eq_true q1) rfl ?_
    refine aG_n 1 (s' := (30, [some (.ref 12), none, some (.int y2), some (.int y3)], [(.int y2)], mkX M)) rfl ?_
    exact aG_ret0 rfl rfl ⟨_, _, rfl, h⟩
  · have h := h2 q1
    refine aG_icmp (cd := .ge) (b := false) (decide_eq_false q1) rfl ?_
    refine aG_n 4 (s' := (18, [some (.ref 12), none, some (.int y2), some (.int y3)], [(.int y3), (.ref 25), (.int y2)], mkX M)) rfl ?_
    obtain ⟨f2, h⟩ := h
    refine aG_iald rfl rfl rfl f2 ?_
    refine aG_n 0 (s' := (19, [some (.ref 12), none, some (.int y2), some (.int y3)], [(.int (gi M 25 y3.toNatClampNeg)), (.int y2)], mkX M)) rfl ?_
    refine aG_call rfl rfl (aG_mono (wk_X2_settle h) ?_)
    rintro _ ⟨r3, M4, rfl, h⟩
    refine aG_n 3 (s' := (4, [some (.ref 12), none, some (.int r3), some (.int (y3 + (nI 1)))], [], mkX M4)) rfl ?_
    refine aG_le (a := [some (.ref 12), none, some (.int r3), some (.int (y3 + (nI 1)))]) ⟨rfl, ⟨rfl, ⟨rfl, trivial⟩⟩⟩ ?_
    exact hK4 _ _ _ h
def wL_X3_levels_4 (Q : Int32 → wM → Prop) : Nat → Int32 → Int32 → wM → Prop
  | 0, _, _, _ => False
  | n + 1, y2, y3, M => wb_X3_levels_4 (wL_X3_levels_4 Q n) y2 y3 M Q
set_option maxRecDepth 20000 in
theorem wLk_X3_levels_4 {Q : Int32 → wM → Prop} : ∀ (n : Nat) (y2 : Int32) (y3 : Int32) (M : wM), wL_X3_levels_4 Q n y2 y3 M → aG 90 (4, [some (.ref 12), none, some (.int y2), some (.int y3)], [], mkX M) (aPi mkX Q)
  | 0, _, _, _, h => h.elim
  | n + 1, y2, y3, M, h => wbk_X3_levels_4 (fun y2 y3 M h => wLk_X3_levels_4 n y2 y3 M h) h
def w_X3_levels (x1 : Int32) (M : wM) (Q : Int32 → wM → Prop) : Prop := ∃ n, wL_X3_levels_4 Q n x1 (nI 0) M
set_option maxRecDepth 20000 in
theorem wk_X3_levels {x1 : Int32} {M : wM} {Q : Int32 → wM → Prop} (h : w_X3_levels x1 M Q) : aG 90 (aEn 90 [(.ref 12), (.int x1)] (mkX M)) (aPi mkX Q) := by
  unfold w_X3_levels at h
  refine aG_n 4 (s' := (4, [some (.ref 12), some (.int x1), some (.int x1), some (.int (nI 0))], [], mkX M)) rfl ?_
  refine aG_le (a := [some (.ref 12), none, some (.int x1), some (.int (nI 0))]) ⟨rfl, ⟨rfl, ⟨rfl, trivial⟩⟩⟩ ?_
  obtain ⟨n, h⟩ := h
  exact wLk_X3_levels_4 n _ _ _ h
def wb_X3_leastOf_2 (z1 : Int32) (K2 : Int32 → wM → Prop) (y2 : Int32) (M : wM) (Q : Int32 → wM → Prop) : Prop := (z1 ≤ y2 → Q z1 M) ∧ (¬ z1 ≤ y2 → vp_in z1 8 ∧ (w_X11_bit (gi M 24 z1.toNatClampNeg) y2 M (fun r3 M4 => (r3 = (nI 1) → Q y2 M4) ∧ (¬ r3 = (nI 1) → K2 (y2 + (nI 1)) M4))))
set_option maxRecDepth 20000 in
theorem wbk_X3_leastOf_2 {z1 : Int32} {K2 : Int32 → wM → Prop} {y2 : Int32} {M : wM} {Q : Int32 → wM → Prop} (hK2 : ∀ (v2 : Int32) (M : wM), K2 v2 M → aG 91 (2, [some (.ref 12), some (.int z1), some (.int v2)], [], mkX M) (aPi mkX Q)) (h : wb_X3_leastOf_2 z1 K2 y2 M Q) : aG 91 (2, [some (.ref 12), some (.int z1), some (.int y2)], [], mkX M) (aPi mkX Q) := by
  unfold wb_X3_leastOf_2 at h
  refine aG_n 2 (s' := (4, [some (.ref 12), some (.int z1), some (.int y2)], [(.int z1), (.int y2)], mkX M)) rfl ?_
  obtain ⟨h1, h2⟩ := h
  by_cases q1 : z1 ≤ y2
  · have h := h1 q1
    refine aG_icmp (cd := .ge) (b := true) (decide_eq_true q1) rfl ?_
    refine aG_n 1 (s' := (30, [some (.ref 12), some (.int z1), some (.int y2)], [(.int z1)], mkX M)) rfl ?_
    exact aG_ret0 rfl rfl ⟨_, _, rfl, h⟩
  · have h := h2 q1
    refine aG_icmp (cd := .ge) (b := false) (decide_eq_false q1) rfl ?_
    refine aG_n 3 (s' := (12, [some (.ref 12), some (.int z1), some (.int y2)], [(.int z1), (.ref 24)], mkX M)) rfl ?_
    obtain ⟨f2, h⟩ := h
    refine aG_iald rfl rfl rfl f2 ?_
    refine aG_n 1 (s' := (14, [some (.ref 12), some (.int z1), some (.int y2)], [(.int y2), (.int (gi M 24 z1.toNatClampNeg))], mkX M)) rfl ?_
    refine aG_call rfl rfl (aG_mono (wk_X11_bit h) ?_)
    rintro _ ⟨r3, M4, rfl, h⟩
    refine aG_n 1 (s' := (18, [some (.ref 12), some (.int z1), some (.int y2)], [(.int (nI 1)), (.int r3)], mkX M4)) rfl ?_
    obtain ⟨h1, h2⟩ := h
    by_cases q5 : r3 = (nI 1)
    · have h := h1 q5
      refine aG_icmp (cd := .ne) (b := false) (aTne0 q5) rfl ?_
      refine aG_n 1 (s' := (22, [some (.ref 12), some (.int z1), some (.int y2)], [(.int y2)], mkX M4)) rfl ?_
      exact aG_ret0 rfl rfl ⟨_, _, rfl, h⟩
    · have h := h2 q5
      refine aG_icmp (cd := .ne) (b := true) (aTne1 q5) rfl ?_
      refine aG_n 2 (s' := (2, [some (.ref 12), some (.int z1), some (.int (y2 + (nI 1)))], [], mkX M4)) rfl ?_
      refine aG_le (a := [some (.ref 12), some (.int z1), some (.int (y2 + (nI 1)))]) ⟨rfl, ⟨rfl, ⟨rfl, trivial⟩⟩⟩ ?_
      exact hK2 _ _ h
def wL_X3_leastOf_2 (z1 : Int32) (Q : Int32 → wM → Prop) : Nat → Int32 → wM → Prop
  | 0, _, _ => False
  | n + 1, y2, M => wb_X3_leastOf_2 z1 (wL_X3_leastOf_2 z1 Q n) y2 M Q
set_option maxRecDepth 20000 in
theorem wLk_X3_leastOf_2 {z1 : Int32} {Q : Int32 → wM → Prop} : ∀ (n : Nat) (y2 : Int32) (M : wM), wL_X3_leastOf_2 z1 Q n y2 M → aG 91 (2, [some (.ref 12), some (.int z1), some (.int y2)], [], mkX M) (aPi mkX Q)
  | 0, _, _, h => h.elim
  | n + 1, y2, M, h => wbk_X3_leastOf_2 (fun y2 M h => wLk_X3_leastOf_2 n y2 M h) h
def w_X3_leastOf (x1 : Int32) (M : wM) (Q : Int32 → wM → Prop) : Prop := ∃ n, wL_X3_leastOf_2 x1 Q n (nI 0) M
set_option maxRecDepth 20000 in
theorem wk_X3_leastOf {x1 : Int32} {M : wM} {Q : Int32 → wM → Prop} (h : w_X3_leastOf x1 M Q) : aG 91 (aEn 91 [(.ref 12), (.int x1)] (mkX M)) (aPi mkX Q) := by
  unfold w_X3_leastOf at h
  refine aG_n 2 (s' := (2, [some (.ref 12), some (.int x1), some (.int (nI 0))], [], mkX M)) rfl ?_
  refine aG_le (a := [some (.ref 12), some (.int x1), some (.int (nI 0))]) ⟨rfl, ⟨rfl, ⟨rfl, trivial⟩⟩⟩ ?_
  obtain ⟨n, h⟩ := h
  exact wLk_X3_leastOf_2 n _ _ h
def wb_X3_unite_2 (z1 : Int32) (K2 : Int32 → wM → Prop) (y2 : Int32) (M : wM) (Q : wM → Prop) : Prop := ((gi M 12 0) ≤ y2 → Q M) ∧ (¬ (gi M 12 0) ≤ y2 → w_X11_bit z1 y2 M (fun r2 M3 => (r2 = (nI 1) → vp_in y2 8 ∧ (K2 (y2 + (nI 1)) (si M3 24 y2.toNatClampNeg z1))) ∧ (¬ r2 = (nI 1) → K2 (y2 + (nI 1)) M3)))
set_option maxRecDepth 20000 in
theorem wbk_X3_unite_2 {z1 : Int32} {K2 : Int32 → wM → Prop} {y2 : Int32} {M : wM} {Q : wM → Prop} (hK2 : ∀ (v2 : Int32) (M : wM), K2 v2 M → aG 92 (2, [some (.ref 12), some (.int z1), some (.int v2)], [], mkX M) (aPv mkX Q)) (h : wb_X3_unite_2 z1 K2 y2 M Q) : aG 92 (2, [some (.ref 12), some (.int z1), some (.int y2)], [], mkX M) (aPv mkX Q) := by
  unfold wb_X3_unite_2 at h
  refine aG_n 3 (s' := (7, [some (.ref 12), some (.int z1), some (.int y2)], [(.int (gi M 12 0)), (.int y2)], mkX M)) rfl ?_
  obtain ⟨h1, h2⟩ := h
  by_cases q1 : (gi M 12 0) ≤ y2
  · have h := h1 q1
    refine aG_icmp (cd := .ge) (b := true) (decide_eq_true q1) rfl ?_
    refine aG_n 0 (s' := (32, [some (.ref 12), some (.int z1), some (.int y2)], [], mkX M)) rfl ?_
    exact aG_retV rfl rfl ⟨_, rfl, h⟩
  · have h := h2 q1
    refine aG_icmp (cd := .ge) (b := false) (decide_eq_false q1) rfl ?_
    refine aG_n 2 (s' := (12, [some (.ref 12), some (.int z1), some (.int y2)], [(.int y2), (.int z1)], mkX M)) rfl ?_
    refine aG_call rfl rfl (aG_mono (wk_X11_bit h) ?_)
    rintro _ ⟨r2, M3, rfl, h⟩
    refine aG_n 1 (s' := (16, [some (.ref 12), some (.int z1), some (.int y2)], [(.int (nI 1)), (.int r2)], mkX M3)) rfl ?_
    obtain ⟨h1, h2⟩ := h
    by_cases q4 : r2 = (nI 1)
    · have h := h1 q4
      refine aG_icmp (cd := .ne) (b := false) (aTne0 q4) rfl ?_
      refine aG_n 4 (s' := (25, [some (.ref 12), some (.int z1), some (.int y2)], [(.int z1), (.int y2), (.ref 24)], mkX M3)) rfl ?_
      obtain ⟨f5, h⟩ := h
      refine aG_iast rfl rfl f5 ?_
      refine aG_n 2 (s' := (2, [some (.ref 12), some (.int z1), some (.int (y2 + (nI 1)))], [], mkX (si M3 24 y2.toNatClampNeg z1))) rfl ?_
      refine aG_le (a := [some (.ref 12), some (.int z1), some (.int (y2 + (nI 1)))]) ⟨rfl, ⟨rfl, ⟨rfl, trivial⟩⟩⟩ ?_
      exact hK2 _ _ h
    · have h := h2 q4
      refine aG_icmp (cd := .ne) (b := true) (aTne1 q4) rfl ?_
      refine aG_n 2 (s' := (2, [some (.ref 12), some (.int z1), some (.int (y2 + (nI 1)))], [], mkX M3)) rfl ?_
      refine aG_le (a := [some (.ref 12), some (.int z1), some (.int (y2 + (nI 1)))]) ⟨rfl, ⟨rfl, ⟨rfl, trivial⟩⟩⟩ ?_
      exact hK2 _ _ h
def wL_X3_unite_2 (z1 : Int32) (Q : wM → Prop) : Nat → Int32 → wM → Prop
  | 0, _, _ => False
  | n + 1, y2, M => wb_X3_unite_2 z1 (wL_X3_unite_2 z1 Q n) y2 M Q
set_option maxRecDepth 20000 in
theorem wLk_X3_unite_2 {z1 : Int32} {Q : wM → Prop} : ∀ (n : Nat) (y2 : Int32) (M : wM), wL_X3_unite_2 z1 Q n y2 M → aG 92 (2, [some (.ref 12), some (.int z1), some (.int y2)], [], mkX M) (aPv mkX Q)
  | 0, _, _, h => h.elim
  | n + 1, y2, M, h => wbk_X3_unite_2 (fun y2 M h => wLk_X3_unite_2 n y2 M h) h
def w_X3_unite (x1 : Int32) (M : wM) (Q : wM → Prop) : Prop := ∃ n, wL_X3_unite_2 x1 Q n (nI 0) M
set_option maxRecDepth 20000 in
theorem wk_X3_unite {x1 : Int32} {M : wM} {Q : wM → Prop} (h : w_X3_unite x1 M Q) : aG 92 (aEn 92 [(.ref 12), (.int x1)] (mkX M)) (aPv mkX Q) := by
  unfold w_X3_unite at h
  refine aG_n 2 (s' := (2, [some (.ref 12), some (.int x1), some (.int (nI 0))], [], mkX M)) rfl ?_
  refine aG_le (a := [some (.ref 12), some (.int x1), some (.int (nI 0))]) ⟨rfl, ⟨rfl, ⟨rfl, trivial⟩⟩⟩ ?_
  obtain ⟨n, h⟩ := h
  exact wLk_X3_unite_2 n _ _ h
def wb_X3_ruleOf_4 (z1 : Int32) (K4 : Int32 → Int32 → wM → Prop) (y2 : Int32) (y3 : Int32) (M : wM) (Q : Int32 → wM → Prop) : Prop := ((gi M 12 0) ≤ y3 → Q y2 M) ∧ (¬ (gi M 12 0) ≤ y3 → w_X11_bit z1 y3 M (fun r2 M3 => (r2 = (nI 1) → vp_in y3 8 ∧ (((gi M3 14 y3.toNatClampNeg) = (-4) → w_X3_hasLeastShort y3 M3 (fun r7 M8 => (r7 = (nI 0) → K4 y2 (y3 + (nI 1)) M8) ∧ (¬ r7 = (nI 0) → K4 (nI 2) (y3 + (nI 1)) M8))) ∧ (¬ (gi M3 14 y3.toNatClampNeg) = (-4) → vp_in y3 8 ∧ (((gi M3 14 y3.toNatClampNeg) = (nI 0) → Q (nI 0) M3) ∧ (¬ (gi M3 14 y3.toNatClampNeg) = (nI 0) → Q (nI 1) M3))))) ∧ (¬ r2 = (nI 1) → K4 y2 (y3 + (nI 1)) M3)))
set_option maxRecDepth 20000 in
theorem wbk_X3_ruleOf_4 {z1 : Int32} {K4 : Int32 → Int32 → wM → Prop} {y2 : Int32} {y3 : Int32} {M : wM} {Q : Int32 → wM → Prop} (hK4 : ∀ (v2 : Int32) (v3 : Int32) (M : wM), K4 v2 v3 M → aG 93 (4, [some (.ref 12), some (.int z1), some (.int v2), some (.int v3)], [], mkX M) (aPi mkX Q)) (h : wb_X3_ruleOf_4 z1 K4 y2 y3 M Q) : aG 93 (4, [some (.ref 12), some (.int z1), some (.int y2), some (.int y3)], [], mkX M) (aPi mkX Q) := by
  unfold wb_X3_ruleOf_4 at h
  refine aG_n 3 (s' := (9, [some (.ref 12), some (.int z1), some (.int y2), some (.int y3)], [(.int (gi M 12 0)), (.int y3)], mkX M)) rfl ?_
  obtain ⟨h1, h2⟩ := h
  by_cases q1 : (gi M 12 0) ≤ y3
  · have h := h1 q1
    refine aG_icmp (cd := .ge) (b := true) (decide_eq_true q1) rfl ?_
    refine aG_n 1 (s' := (64, [some (.ref 12), some (.int z1), some (.int y2), some (.int y3)], [(.int y2)], mkX M)) rfl ?_
    exact aG_ret0 rfl rfl ⟨_, _, rfl, h⟩
  · have h := h2 q1
    refine aG_icmp (cd := .ge) (b := false) (decide_eq_false q1) rfl ?_
    refine aG_n 2 (s' := (14, [some (.ref 12), some (.int z1), some (.int y2), some (.int y3)], [(.int y3), (.int z1)], mkX M)) rfl ?_
    refine aG_call rfl rfl (aG_mono (wk_X11_bit h) ?_)
    rintro _ ⟨r2, M3, rfl, h⟩
    refine aG_n 1 (s' := (18, [some (.ref 12), some (.int z1), some (.int y2), some (.int y3)], [(.int (nI 1)), (.int r2)], mkX M3)) rfl ?_
    obtain ⟨h1, h2⟩ := h
    by_cases q4 : r2 = (nI 1)
    · have h := h1 q4
      refine aG_icmp (cd := .ne) (b := false) (aTne0 q4) rfl ?_
      refine aG_n 3 (s' := (26, [some (.ref 12), some (.int z1), some (.int y2), some (.int y3)], [(.int y3), (.ref 14)], mkX M3)) rfl ?_
      obtain ⟨f5, h⟩ := h
      refine aG_iald rfl rfl rfl f5 ?_
      refine aG_n 1 (s' := (29, [some (.ref 12), some (.int z1), some (.int y2), some (.int y3)], [(.int (-4)), (.int (gi M3 14 y3.toNatClampNeg))], mkX M3)) rfl ?_
      obtain ⟨h1, h2⟩ := h
      by_cases q6 : (gi M3 14 y3.toNatClampNeg) = (-4)
      · have h := h1 q6
        refine aG_icmp (cd := .eq) (b := true) (decide_eq_true q6) rfl ?_
        refine aG_n 2 (s' := (49, [some (.ref 12), some (.int z1), some (.int y2), some (.int y3)], [(.int y3), (.ref 12)], mkX M3)) rfl ?_
        refine aG_call rfl rfl (aG_mono (wk_X3_hasLeastShort h) ?_)
        rintro _ ⟨r7, M8, rfl, h⟩
        refine aG_n 0 (s' := (52, [some (.ref 12), some (.int z1), some (.int y2), some (.int y3)], [(.int r7)], mkX M8)) rfl ?_
        obtain ⟨h1, h2⟩ := h
        by_cases q9 : r7 = (nI 0)
        · have h := h1 q9
          refine aG_if (cd := .eq) (b := true) (decide_eq_true q9) rfl ?_
          refine aG_n 2 (s' := (4, [some (.ref 12), some (.int z1), some (.int y2), some (.int (y3 + (nI 1)))], [], mkX M8)) rfl ?_
          refine aG_le (a := [some (.ref 12), some (.int z1), some (.int y2), some (.int (y3 + (nI 1)))]) ⟨rfl, ⟨rfl, ⟨rfl, ⟨rfl, trivial⟩⟩⟩⟩ ?_
          exact hK4 _ _ _ h
        · have h := h2 q9
          refine aG_if (cd := .eq) (b := false) (decide_eq_false q9) rfl ?_
          refine aG_n 4 (s' := (4, [some (.ref 12), some (.int z1), some (.int (nI 2)), some (.int (y3 + (nI 1)))], [], mkX M8)) rfl ?_
          refine aG_le (a := [some (.ref 12), some (.int z1), some (.int (nI 2)), some (.int (y3 + (nI 1)))]) ⟨rfl, ⟨rfl, ⟨rfl, ⟨rfl, trivial⟩⟩⟩⟩ ?_
          exact hK4 _ _ _ h
      · have h := h2 q6
        refine aG_icmp (cd := .eq) (b := false) (decide_eq_false q6) rfl ?_
        refine aG_n 3 (s' := (37, [some (.ref 12), some (.int z1), some (.int y2), some (.int y3)], [(.int y3), (.ref 14)], mkX M3)) rfl ?_
        obtain ⟨f10, h⟩ := h
        refine aG_iald rfl rfl rfl f10 ?_
        refine aG_n 0 (s' := (38, [some (.ref 12), some (.int z1), some (.int y2), some (.int y3)], [(.int (gi M3 14 y3.toNatClampNeg))], mkX M3)) rfl ?_
        obtain ⟨h1, h2⟩ := h
        by_cases q11 : (gi M3 14 y3.toNatClampNeg) = (nI 0)
        · have h := h1 q11
          refine aG_if (cd := .ne) (b := false) (aTne0 q11) rfl ?_
          refine aG_n 2 (s' := (46, [some (.ref 12), some (.int z1), some (.int y2), some (.int y3)], [(.int (nI 0))], mkX M3)) rfl ?_
          exact aG_ret0 rfl rfl ⟨_, _, rfl, h⟩
        · have h := h2 q11
          refine aG_if (cd := .ne) (b := true) (aTne1 q11) rfl ?_
          refine aG_n 1 (s' := (46, [some (.ref 12), some (.int z1), some (.int y2), some (.int y3)], [(.int (nI 1))], mkX M3)) rfl ?_
          exact aG_ret0 rfl rfl ⟨_, _, rfl, h⟩
    · have h := h2 q4
      refine aG_icmp (cd := .ne) (b := true) (aTne1 q4) rfl ?_
      refine aG_n 2 (s' := (4, [some (.ref 12), some (.int z1), some (.int y2), some (.int (y3 + (nI 1)))], [], mkX M3)) rfl ?_
      refine aG_le (a := [some (.ref 12), some (.int z1), some (.int y2), some (.int (y3 + (nI 1)))]) ⟨rfl, ⟨rfl, ⟨rfl, ⟨rfl, trivial⟩⟩⟩⟩ ?_
      exact hK4 _ _ _ h
def wL_X3_ruleOf_4 (z1 : Int32) (Q : Int32 → wM → Prop) : Nat → Int32 → Int32 → wM → Prop
  | 0, _, _, _ => False
  | n + 1, y2, y3, M => wb_X3_ruleOf_4 z1 (wL_X3_ruleOf_4 z1 Q n) y2 y3 M Q
set_option maxRecDepth 20000 in
theorem wLk_X3_ruleOf_4 {z1 : Int32} {Q : Int32 → wM → Prop} : ∀ (n : Nat) (y2 : Int32) (y3 : Int32) (M : wM), wL_X3_ruleOf_4 z1 Q n y2 y3 M → aG 93 (4, [some (.ref 12), some (.int z1), some (.int y2), some (.int y3)], [], mkX M) (aPi mkX Q)
  | 0, _, _, _, h => h.elim
  | n + 1, y2, y3, M, h => wbk_X3_ruleOf_4 (fun y2 y3 M h => wLk_X3_ruleOf_4 n y2 y3 M h) h
def w_X3_ruleOf (x1 : Int32) (M : wM) (Q : Int32 → wM → Prop) : Prop := ∃ n, wL_X3_ruleOf_4 x1 Q n (nI 3) (nI 0) M
set_option maxRecDepth 20000 in
theorem wk_X3_ruleOf {x1 : Int32} {M : wM} {Q : Int32 → wM → Prop} (h : w_X3_ruleOf x1 M Q) : aG 93 (aEn 93 [(.ref 12), (.int x1)] (mkX M)) (aPi mkX Q) := by
  unfold w_X3_ruleOf at h
  refine aG_n 4 (s' := (4, [some (.ref 12), some (.int x1), some (.int (nI 3)), some (.int (nI 0))], [], mkX M)) rfl ?_
  refine aG_le (a := [some (.ref 12), some (.int x1), some (.int (nI 3)), some (.int (nI 0))]) ⟨rfl, ⟨rfl, ⟨rfl, ⟨rfl, trivial⟩⟩⟩⟩ ?_
  obtain ⟨n, h⟩ := h
  exact wLk_X3_ruleOf_4 n _ _ _ h
def wb_X5_aim_34 (z2 : Int32) (K26 : Int32 → wM → Prop) (K34 : Int32 → wM → Prop) (y3 : Int32) (M : wM) (Q : wM → Prop) : Prop := ((nI 16) ≤ y3 → K26 (z2 + (nI 1)) M) ∧ (¬ (nI 16) ≤ y3 → vp_in y3 16 ∧ (((gi M 28 y3.toNatClampNeg) = (-4) → w_X5_extend y3 z2 M (fun M11 => K34 (y3 + (nI 1)) M11)) ∧ (¬ (gi M 28 y3.toNatClampNeg) = (-4) → K34 (y3 + (nI 1)) M)))
set_option maxRecDepth 20000 in
theorem wbk_X5_aim_34 {z2 : Int32} {K26 : Int32 → wM → Prop} {K34 : Int32 → wM → Prop} {y3 : Int32} {M : wM} {Q : wM → Prop} (hK26 : ∀ (v2 : Int32) (M : wM), K26 v2 M → aG 94 (26, [some (.ref 27), none, some (.int v2), none], [], mkX M) (aPv mkX Q)) (hK34 : ∀ (v3 : Int32) (M : wM), K34 v3 M → aG 94 (34, [some (.ref 27), none, some (.int z2), some (.int v3)], [], mkX M) (aPv mkX Q)) (h : wb_X5_aim_34 z2 K26 K34 y3 M Q) : aG 94 (34, [some (.ref 27), none, some (.int z2), some (.int y3)], [], mkX M) (aPv mkX Q) := by
  unfold wb_X5_aim_34 at h
  refine aG_n 2 (s' := (37, [some (.ref 27), none, some (.int z2), some (.int y3)], [(.int (nI 16)), (.int y3)], mkX M)) rfl ?_
  obtain ⟨h1, h2⟩ := h
  by_cases q7 : (nI 16) ≤ y3
  · have h := h1 q7
    refine aG_icmp (cd := .ge) (b := true) (decide_eq_true q7) rfl ?_
    refine aG_n 2 (s' := (26, [some (.ref 27), none, some (.int (z2 + (nI 1))), some (.int y3)], [], mkX M)) rfl ?_
    refine aG_le (a := [some (.ref 27), none, some (.int (z2 + (nI 1))), none]) ⟨rfl, ⟨rfl, trivial⟩⟩ ?_
    exact hK26 _ _ h
  · have h := h2 q7
    refine aG_icmp (cd := .ge) (b := false) (decide_eq_false q7) rfl ?_
    refine aG_n 3 (s' := (45, [some (.ref 27), none, some (.int z2), some (.int y3)], [(.int y3), (.ref 28)], mkX M)) rfl ?_
    obtain ⟨f8, h⟩ := h
    refine aG_iald rfl rfl rfl f8 ?_
    refine aG_n 1 (s' := (48, [some (.ref 27), none, some (.int z2), some (.int y3)], [(.int (-4)), (.int (gi M 28 y3.toNatClampNeg))], mkX M)) rfl ?_
    obtain ⟨h1, h2⟩ := h
    by_cases q9 : (gi M 28 y3.toNatClampNeg) = (-4)
    · have h := h1 q9
      refine aG_icmp (cd := .ne) (b := false) (aTne0 q9) rfl ?_
      refine aG_n 3 (s' := (54, [some (.ref 27), none, some (.int z2), some (.int y3)], [(.int z2), (.int y3), (.ref 27)], mkX M)) rfl ?_
      refine aG_call rfl rfl (aG_mono (wk_X5_extend h) ?_)
      rintro _ ⟨M11, rfl, h⟩
      refine aG_n 2 (s' := (34, [some (.ref 27), none, some (.int z2), some (.int (y3 + (nI 1)))], [], mkX M11)) rfl ?_
      refine aG_le (a := [some (.ref 27), none, some (.int z2), some (.int (y3 + (nI 1)))]) ⟨rfl, ⟨rfl, ⟨rfl, trivial⟩⟩⟩ ?_
      exact hK34 _ _ h
    · have h := h2 q9
      refine aG_icmp (cd := .ne) (b := true) (aTne1 q9) rfl ?_
      refine aG_n 2 (s' := (34, [some (.ref 27), none, some (.int z2), some (.int (y3 + (nI 1)))], [], mkX M)) rfl ?_
      refine aG_le (a := [some (.ref 27), none, some (.int z2), some (.int (y3 + (nI 1)))]) ⟨rfl, ⟨rfl, ⟨rfl, trivial⟩⟩⟩ ?_
      exact hK34 _ _ h
def wL_X5_aim_34 (z2 : Int32) (K26 : Int32 → wM → Prop) (Q : wM → Prop) : Nat → Int32 → wM → Prop
  | 0, _, _ => False
  | n + 1, y3, M => wb_X5_aim_34 z2 K26 (wL_X5_aim_34 z2 K26 Q n) y3 M Q
set_option maxRecDepth 20000 in
theorem wLk_X5_aim_34 {z2 : Int32} {K26 : Int32 → wM → Prop} {Q : wM → Prop} (hK26 : ∀ (v2 : Int32) (M : wM), K26 v2 M → aG 94 (26, [some (.ref 27), none, some (.int v2), none], [], mkX M) (aPv mkX Q)) : ∀ (n : Nat) (y3 : Int32) (M : wM), wL_X5_aim_34 z2 K26 Q n y3 M → aG 94 (34, [some (.ref 27), none, some (.int z2), some (.int y3)], [], mkX M) (aPv mkX Q)
  | 0, _, _, h => h.elim
  | n + 1, y3, M, h => wbk_X5_aim_34 hK26 (fun y3 M h => wLk_X5_aim_34 hK26 n y3 M h) h
def wb_X5_aim_26 (K26 : Int32 → wM → Prop) (y2 : Int32) (M : wM) (Q : wM → Prop) : Prop := ((nI 16) ≤ y2 → Q M) ∧ (¬ (nI 16) ≤ y2 → ∃ n, wL_X5_aim_34 y2 K26 Q n (nI 0) M)
set_option maxRecDepth 20000 in
theorem wbk_X5_aim_26 {K26 : Int32 → wM → Prop} {y2 : Int32} {M : wM} {Q : wM → Prop} (hK26 : ∀ (v2 : Int32) (M : wM), K26 v2 M → aG 94 (26, [some (.ref 27), none, some (.int v2), none], [], mkX M) (aPv mkX Q)) (h : wb_X5_aim_26 K26 y2 M Q) : aG 94 (26, [some (.ref 27), none, some (.int y2), none], [], mkX M) (aPv mkX Q) := by
  unfold wb_X5_aim_26 at h
  refine aG_n 2 (s' := (29, [some (.ref 27), none, some (.int y2), none], [(.int (nI 16)), (.int y2)], mkX M)) rfl ?_
  obtain ⟨h1, h2⟩ := h
  by_cases q6 : (nI 16) ≤ y2
  · have h := h1 q6
    refine aG_icmp (cd := .ge) (b := true) (decide_eq_true q6) rfl ?_
    refine aG_n 0 (s' := (69, [some (.ref 27), none, some (.int y2), none], [], mkX M)) rfl ?_
    exact aG_retV rfl rfl ⟨_, rfl, h⟩
  · have h := h2 q6
    refine aG_icmp (cd := .ge) (b := false) (decide_eq_false q6) rfl ?_
    refine aG_n 2 (s' := (34, [some (.ref 27), none, some (.int y2), some (.int (nI 0))], [], mkX M)) rfl ?_
    refine aG_le (a := [some (.ref 27), none, some (.int y2), some (.int (nI 0))]) ⟨rfl, ⟨rfl, ⟨rfl, trivial⟩⟩⟩ ?_
    obtain ⟨n, h⟩ := h
    exact wLk_X5_aim_34 hK26 n _ _ h
def wL_X5_aim_26 (Q : wM → Prop) : Nat → Int32 → wM → Prop
  | 0, _, _ => False
  | n + 1, y2, M => wb_X5_aim_26 (wL_X5_aim_26 Q n) y2 M Q
set_option maxRecDepth 20000 in
theorem wLk_X5_aim_26 {Q : wM → Prop} : ∀ (n : Nat) (y2 : Int32) (M : wM), wL_X5_aim_26 Q n y2 M → aG 94 (26, [some (.ref 27), none, some (.int y2), none], [], mkX M) (aPv mkX Q)
  | 0, _, _, h => h.elim
  | n + 1, y2, M, h => wbk_X5_aim_26 (fun y2 M h => wLk_X5_aim_26 n y2 M h) h
def w_X5_aim (x1 : Int32) (M : wM) (Q : wM → Prop) : Prop := w_J7_fill_53178 28 (-4) M (fun M2 => w_J7_fill_53178 29 (nI 0) M2 (fun M4 => vp_in x1 16 ∧ (∃ n, wL_X5_aim_26 Q n (nI 1) (si M4 28 x1.toNatClampNeg (nI 0)))))
set_option maxRecDepth 20000 in
theorem wk_X5_aim {x1 : Int32} {M : wM} {Q : wM → Prop} (h : w_X5_aim x1 M Q) : aG 94 (aEn 94 [(.ref 27), (.int x1)] (mkX M)) (aPv mkX Q) := by
  unfold w_X5_aim at h
  refine aG_n 3 (s' := (6, [some (.ref 27), some (.int x1), none, none], [(.int (-4)), (.ref 28)], mkX M)) rfl ?_
  refine aG_call rfl rfl (aG_mono (wk_J7_fill_53178 h) ?_)
  rintro _ ⟨M2, rfl, h⟩
  refine aG_n 3 (s' := (14, [some (.ref 27), some (.int x1), none, none], [(.int (nI 0)), (.ref 29)], mkX M2)) rfl ?_
  refine aG_call rfl rfl (aG_mono (wk_J7_fill_53178 h) ?_)
  rintro _ ⟨M4, rfl, h⟩
  refine aG_n 4 (s' := (23, [some (.ref 27), some (.int x1), none, none], [(.int (nI 0)), (.int x1), (.ref 28)], mkX M4)) rfl ?_
  obtain ⟨f5, h⟩ := h
  refine aG_iast rfl rfl f5 ?_
  refine aG_n 2 (s' := (26, [some (.ref 27), some (.int x1), some (.int (nI 1)), none], [], mkX (si M4 28 x1.toNatClampNeg (nI 0)))) rfl ?_
  refine aG_le (a := [some (.ref 27), none, some (.int (nI 1)), none]) ⟨rfl, ⟨rfl, trivial⟩⟩ ?_
  obtain ⟨n, h⟩ := h
  exact wLk_X5_aim_26 n _ _ h
def w_X7_isNew (x1 : Int32) (M : wM) (Q : Int32 → wM → Prop) : Prop := (x1 = (nI 0) → w_X7_refuse (nI 4) M (fun r2 M3 => (r2 = (nI 0) → Q (nI 0) M3) ∧ (¬ r2 = (nI 0) → Q (nI 1) M3))) ∧ (¬ x1 = (nI 0) → Q (nI 1) M)
set_option maxRecDepth 20000 in
theorem wk_X7_isNew {x1 : Int32} {M : wM} {Q : Int32 → wM → Prop} (h : w_X7_isNew x1 M Q) : aG 96 (aEn 96 [(.ref 3), (.int x1)] (mkX M)) (aPi mkX Q) := by
  unfold w_X7_isNew at h
  refine aG_n 1 (s' := (1, [some (.ref 3), some (.int x1)], [(.int x1)], mkX M)) rfl ?_
  obtain ⟨h1, h2⟩ := h
  by_cases q1 : x1 = (nI 0)
  · have h := h1 q1
    refine aG_if (cd := .ne) (b := false) (aTne0 q1) rfl ?_
    refine aG_n 2 (s' := (6, [some (.ref 3), some (.int x1)], [(.int (nI 4)), (.ref 3)], mkX M)) rfl ?_
    refine aG_call rfl rfl (aG_mono (wk_X7_refuse h) ?_)
    rintro _ ⟨r2, M3, rfl, h⟩
    refine aG_n 0 (s' := (9, [some (.ref 3), some (.int x1)], [(.int r2)], mkX M3)) rfl ?_
    obtain ⟨h1, h2⟩ := h
    by_cases q4 : r2 = (nI 0)
    · have h := h1 q4
      refine aG_if (cd := .eq) (b := true) (decide_eq_true q4) rfl ?_
      refine aG_n 1 (s' := (17, [some (.ref 3), some (.int x1)], [(.int (nI 0))], mkX M3)) rfl ?_
      exact aG_retZ rfl rfl (Or.inl rfl) ⟨_, _, rfl, h⟩
    · have h := h2 q4
      refine aG_if (cd := .eq) (b := false) (decide_eq_false q4) rfl ?_
      refine aG_n 2 (s' := (17, [some (.ref 3), some (.int x1)], [(.int (nI 1))], mkX M3)) rfl ?_
      exact aG_retZ rfl rfl (Or.inr rfl) ⟨_, _, rfl, h⟩
  · have h := h2 q1
    refine aG_if (cd := .ne) (b := true) (aTne1 q1) rfl ?_
    refine aG_n 2 (s' := (17, [some (.ref 3), some (.int x1)], [(.int (nI 1))], mkX M)) rfl ?_
    exact aG_retZ rfl rfl (Or.inr rfl) ⟨_, _, rfl, h⟩
def w_X7_putIdentity (x1 : Nat) (M : wM) (Q : Int32 → wM → Prop) : Prop := ptX x1 ∧ ((((gi (si M x1 2 (gi M 3 8)) 3 8) &&& (nI 1)) = (nI 1) → Q (nI 1) (si M x1 2 (gi M 3 8))) ∧ (¬ ((gi (si M x1 2 (gi M 3 8)) 3 8) &&& (nI 1)) = (nI 1) → w_X7_refuse (nI 3) (si M x1 2 (gi M 3 8)) (fun r2 M3 => (r2 = (nI 0) → Q (nI 0) M3) ∧ (¬ r2 = (nI 0) → Q (nI 1) M3))))
set_option maxRecDepth 20000 in
theorem wk_X7_putIdentity {x1 : Nat} {M : wM} {Q : Int32 → wM → Prop} (h : w_X7_putIdentity x1 M Q) : aG 97 (aEn 97 [(.ref 3), (.ref x1)] (mkX M)) (aPi mkX Q) := by
  unfold w_X7_putIdentity at h
  obtain ⟨hx1, h⟩ := h
  refine aG_n 3 (s' := (5, [some (.ref 3), some (.ref x1)], [(.int (gi M 3 8)), (.ref x1)], mkX M)) rfl ?_
  refine aG_put rfl hx1 rfl rfl ?_
  refine aG_n 5 (s' := (15, [some (.ref 3), some (.ref x1)], [(.int (nI 1)), (.int ((gi (si M x1 2 (gi M 3 8)) 3 8) &&& (nI 1)))], mkX (si M x1 2 (gi M 3 8)))) rfl ?_
  obtain ⟨h1, h2⟩ := h
  by_cases q1 : ((gi (si M x1 2 (gi M 3 8)) 3 8) &&& (nI 1)) = (nI 1)
  · have h := h1 q1
    refine aG_icmp (cd := .eq) (b := true) (decide_eq_true q1) rfl ?_
    refine aG_n 2 (s' := (31, [some (.ref 3), some (.ref x1)], [(.int (nI 1))], mkX (si M x1 2 (gi M 3 8)))) rfl ?_
    exact aG_retZ rfl rfl (Or.inr rfl) ⟨_, _, rfl, h⟩
  · have h := h2 q1
    refine aG_icmp (cd := .eq) (b := false) (decide_eq_false q1) rfl ?_
    refine aG_n 2 (s' := (20, [some (.ref 3), some (.ref x1)], [(.int (nI 3)), (.ref 3)], mkX (si M x1 2 (gi M 3 8)))) rfl ?_
    refine aG_call rfl rfl (aG_mono (wk_X7_refuse h) ?_)
    rintro _ ⟨r2, M3, rfl, h⟩
    refine aG_n 0 (s' := (23, [some (.ref 3), some (.ref x1)], [(.int r2)], mkX M3)) rfl ?_
    obtain ⟨h1, h2⟩ := h
    by_cases q4 : r2 = (nI 0)
    · have h := h1 q4
      refine aG_if (cd := .eq) (b := true) (decide_eq_true q4) rfl ?_
      refine aG_n 1 (s' := (31, [some (.ref 3), some (.ref x1)], [(.int (nI 0))], mkX M3)) rfl ?_
      exact aG_retZ rfl rfl (Or.inl rfl) ⟨_, _, rfl, h⟩
    · have h := h2 q4
      refine aG_if (cd := .eq) (b := false) (decide_eq_false q4) rfl ?_
      refine aG_n 2 (s' := (31, [some (.ref 3), some (.ref x1)], [(.int (nI 1))], mkX M3)) rfl ?_
      exact aG_retZ rfl rfl (Or.inr rfl) ⟨_, _, rfl, h⟩
def w_X7_putSample (x1 : Nat) (M : wM) (Q : Int32 → wM → Prop) : Prop := ptX x1 ∧ (((gi (si M x1 3 (gi M 3 8)) 3 8) = (gi (si M x1 3 (gi M 3 8)) x1 4) → w_X7_refuse (nI 4) (si M x1 3 (gi M 3 8)) (fun r2 M3 => (r2 = (nI 0) → Q (nI 0) M3) ∧ (¬ r2 = (nI 0) → Q (nI 1) M3))) ∧ (¬ (gi (si M x1 3 (gi M 3 8)) 3 8) = (gi (si M x1 3 (gi M 3 8)) x1 4) → Q (nI 1) (si M x1 3 (gi M 3 8))))
set_option maxRecDepth 20000 in
theorem wk_X7_putSample {x1 : Nat} {M : wM} {Q : Int32 → wM → Prop} (h : w_X7_putSample x1 M Q) : aG 98 (aEn 98 [(.ref 3), (.ref x1)] (mkX M)) (aPi mkX Q) := by
  unfold w_X7_putSample at h
  obtain ⟨hx1, h⟩ := h
  refine aG_n 3 (s' := (5, [some (.ref 3), some (.ref x1)], [(.int (gi M 3 8)), (.ref x1)], mkX M)) rfl ?_
  refine aG_put rfl hx1 rfl rfl ?_
  refine aG_n 3 (s' := (13, [some (.ref 3), some (.ref x1)], [(.ref x1), (.int (gi (si M x1 3 (gi M 3 8)) 3 8))], mkX (si M x1 3 (gi M 3 8)))) rfl ?_
  refine aG_get rfl hx1 rfl rfl ?_
  refine aG_n 0 (s' := (16, [some (.ref 3), some (.ref x1)], [(.int (gi (si M x1 3 (gi M 3 8)) x1 4)), (.int (gi (si M x1 3 (gi M 3 8)) 3 8))], mkX (si M x1 3 (gi M 3 8)))) rfl ?_
  obtain ⟨h1, h2⟩ := h
  by_cases q1 : (gi (si M x1 3 (gi M 3 8)) 3 8) = (gi (si M x1 3 (gi M 3 8)) x1 4)
  · have h := h1 q1
    refine aG_icmp (cd := .ne) (b := false) (aTne0 q1) rfl ?_
    refine aG_n 2 (s' := (21, [some (.ref 3), some (.ref x1)], [(.int (nI 4)), (.ref 3)], mkX (si M x1 3 (gi M 3 8)))) rfl ?_
    refine aG_call rfl rfl (aG_mono (wk_X7_refuse h) ?_)
    rintro _ ⟨r2, M3, rfl, h⟩
    refine aG_n 0 (s' := (24, [some (.ref 3), some (.ref x1)], [(.int r2)], mkX M3)) rfl ?_
    obtain ⟨h1, h2⟩ := h
    by_cases q4 : r2 = (nI 0)
    · have h := h1 q4
      refine aG_if (cd := .eq) (b := true) (decide_eq_true q4) rfl ?_
      refine aG_n 1 (s' := (32, [some (.ref 3), some (.ref x1)], [(.int (nI 0))], mkX M3)) rfl ?_
      exact aG_retZ rfl rfl (Or.inl rfl) ⟨_, _, rfl, h⟩
    · have h := h2 q4
      refine aG_if (cd := .eq) (b := false) (decide_eq_false q4) rfl ?_
      refine aG_n 2 (s' := (32, [some (.ref 3), some (.ref x1)], [(.int (nI 1))], mkX M3)) rfl ?_
      exact aG_retZ rfl rfl (Or.inr rfl) ⟨_, _, rfl, h⟩
  · have h := h2 q1
    refine aG_icmp (cd := .ne) (b := true) (aTne1 q1) rfl ?_
    refine aG_n 2 (s' := (32, [some (.ref 3), some (.ref x1)], [(.int (nI 1))], mkX (si M x1 3 (gi M 3 8)))) rfl ?_
    exact aG_retZ rfl rfl (Or.inr rfl) ⟨_, _, rfl, h⟩
def w_X7_putExtest (x1 : Nat) (M : wM) (Q : Int32 → wM → Prop) : Prop := ptX x1 ∧ (((gi (si M x1 4 (gi M 3 8)) 3 8) = (gi (si M x1 4 (gi M 3 8)) x1 3) → w_X7_refuse (nI 4) (si M x1 4 (gi M 3 8)) (fun r2 M3 => (r2 = (nI 0) → Q (nI 0) M3) ∧ (¬ r2 = (nI 0) → Q (nI 1) M3))) ∧ (¬ (gi (si M x1 4 (gi M 3 8)) 3 8) = (gi (si M x1 4 (gi M 3 8)) x1 3) → Q (nI 1) (si M x1 4 (gi M 3 8))))
set_option maxRecDepth 20000 in
theorem wk_X7_putExtest {x1 : Nat} {M : wM} {Q : Int32 → wM → Prop} (h : w_X7_putExtest x1 M Q) : aG 99 (aEn 99 [(.ref 3), (.ref x1)] (mkX M)) (aPi mkX Q) := by
  unfold w_X7_putExtest at h
  obtain ⟨hx1, h⟩ := h
  refine aG_n 3 (s' := (5, [some (.ref 3), some (.ref x1)], [(.int (gi M 3 8)), (.ref x1)], mkX M)) rfl ?_
  refine aG_put rfl hx1 rfl rfl ?_
  refine aG_n 3 (s' := (13, [some (.ref 3), some (.ref x1)], [(.ref x1), (.int (gi (si M x1 4 (gi M 3 8)) 3 8))], mkX (si M x1 4 (gi M 3 8)))) rfl ?_
  refine aG_get rfl hx1 rfl rfl ?_
  refine aG_n 0 (s' := (16, [some (.ref 3), some (.ref x1)], [(.int (gi (si M x1 4 (gi M 3 8)) x1 3)), (.int (gi (si M x1 4 (gi M 3 8)) 3 8))], mkX (si M x1 4 (gi M 3 8)))) rfl ?_
  obtain ⟨h1, h2⟩ := h
  by_cases q1 : (gi (si M x1 4 (gi M 3 8)) 3 8) = (gi (si M x1 4 (gi M 3 8)) x1 3)
  · have h := h1 q1
    refine aG_icmp (cd := .ne) (b := false) (aTne0 q1) rfl ?_
    refine aG_n 2 (s' := (21, [some (.ref 3), some (.ref x1)], [(.int (nI 4)), (.ref 3)], mkX (si M x1 4 (gi M 3 8)))) rfl ?_
    refine aG_call rfl rfl (aG_mono (wk_X7_refuse h) ?_)
    rintro _ ⟨r2, M3, rfl, h⟩
    refine aG_n 0 (s' := (24, [some (.ref 3), some (.ref x1)], [(.int r2)], mkX M3)) rfl ?_
    obtain ⟨h1, h2⟩ := h
    by_cases q4 : r2 = (nI 0)
    · have h := h1 q4
      refine aG_if (cd := .eq) (b := true) (decide_eq_true q4) rfl ?_
      refine aG_n 1 (s' := (32, [some (.ref 3), some (.ref x1)], [(.int (nI 0))], mkX M3)) rfl ?_
      exact aG_retZ rfl rfl (Or.inl rfl) ⟨_, _, rfl, h⟩
    · have h := h2 q4
      refine aG_if (cd := .eq) (b := false) (decide_eq_false q4) rfl ?_
      refine aG_n 2 (s' := (32, [some (.ref 3), some (.ref x1)], [(.int (nI 1))], mkX M3)) rfl ?_
      exact aG_retZ rfl rfl (Or.inr rfl) ⟨_, _, rfl, h⟩
  · have h := h2 q1
    refine aG_icmp (cd := .ne) (b := true) (aTne1 q1) rfl ?_
    refine aG_n 2 (s' := (32, [some (.ref 3), some (.ref x1)], [(.int (nI 1))], mkX (si M x1 4 (gi M 3 8)))) rfl ?_
    exact aG_retZ rfl rfl (Or.inr rfl) ⟨_, _, rfl, h⟩
def wb_X7_putCells_30 (z1 : Nat) (K30 : Int32 → wM → Prop) (y2 : Int32) (M : wM) (Q : Int32 → wM → Prop) : Prop := ((gi M z1 1) ≤ y2 → Q (nI 1) M) ∧ (¬ (gi M z1 1) ≤ y2 → vp_in ((gi M 3 6) + y2) 240 ∧ (((gi M 2 ((gi M 3 6) + y2).toNatClampNeg) = (nI 111) → K30 (y2 + (nI 1)) (si M z1 5 ((gi M z1 5) ||| (jshl (nI 1) y2)))) ∧ (¬ (gi M 2 ((gi M 3 6) + y2).toNatClampNeg) = (nI 111) → ((gi M 2 ((gi M 3 6) + y2).toNatClampNeg) = (nI 105) → K30 (y2 + (nI 1)) M) ∧ (¬ (gi M 2 ((gi M 3 6) + y2).toNatClampNeg) = (nI 105) → w_X7_refuse (nI 3) M (fun r6 M7 => (r6 = nI 0 ∨ r6 = nI 1) ∧ Q r6 M7)))))
set_option maxRecDepth 20000 in
theorem wbk_X7_putCells_30 {z1 : Nat} {K30 : Int32 → wM → Prop} {y2 : Int32} {M : wM} {Q : Int32 → wM → Prop} (hz1 : ptX z1) (hK30 : ∀ (v2 : Int32) (M : wM), K30 v2 M → aG 100 (30, [some (.ref 3), some (.ref z1), some (.int v2), none], [], mkX M) (aPi mkX Q)) (h : wb_X7_putCells_30 z1 K30 y2 M Q) : aG 100 (30, [some (.ref 3), some (.ref z1), some (.int y2), none], [], mkX M) (aPi mkX Q) := by
  unfold wb_X7_putCells_30 at h
  refine aG_n 2 (s' := (32, [some (.ref 3), some (.ref z1), some (.int y2), none], [(.ref z1), (.int y2)], mkX M)) rfl ?_
  refine aG_get rfl hz1 rfl rfl ?_
  refine aG_n 0 (s' := (35, [some (.ref 3), some (.ref z1), some (.int y2), none], [(.int (gi M z1 1)), (.int y2)], mkX M)) rfl ?_
  obtain ⟨h1, h2⟩ := h
  by_cases q2 : (gi M z1 1) ≤ y2
  · have h := h1 q2
    refine aG_icmp (cd := .ge) (b := true) (decide_eq_true q2) rfl ?_
    refine aG_n 1 (s' := (93, [some (.ref 3), some (.ref z1), some (.int y2), none], [(.int (nI 1))], mkX M)) rfl ?_
    exact aG_retZ rfl rfl (Or.inr rfl) ⟨_, _, rfl, h⟩
  · have h := h2 q2
    refine aG_icmp (cd := .ge) (b := false) (decide_eq_false q2) rfl ?_
    refine aG_n 7 (s' := (51, [some (.ref 3), some (.ref z1), some (.int y2), none], [(.int ((gi M 3 6) + y2)), (.ref 2)], mkX M)) rfl ?_
    obtain ⟨f3, h⟩ := h
    refine aG_bald rfl rfl f3 ?_
    refine aG_n 3 (s' := (56, [some (.ref 3), some (.ref z1), some (.int y2), some (.int (gi M 2 ((gi M 3 6) + y2).toNatClampNeg))], [(.int (nI 111)), (.int (gi M 2 ((gi M 3 6) + y2).toNatClampNeg))], mkX M)) rfl ?_
    obtain ⟨h1, h2⟩ := h
    by_cases q4 : (gi M 2 ((gi M 3 6) + y2).toNatClampNeg) = (nI 111)
    · have h := h1 q4
      refine aG_icmp (cd := .ne) (b := false) (aTne0 q4) rfl ?_
      refine aG_n 2 (s' := (61, [some (.ref 3), some (.ref z1), some (.int y2), some (.int (gi M 2 ((gi M 3 6) + y2).toNatClampNeg))], [(.ref z1), (.ref z1)], mkX M)) rfl ?_
      refine aG_get rfl hz1 rfl rfl ?_
      refine aG_n 4 (s' := (68, [some (.ref 3), some (.ref z1), some (.int y2), some (.int (gi M 2 ((gi M 3 6) + y2).toNatClampNeg))], [(.int ((gi M z1 5) ||| (jshl (nI 1) y2))), (.ref z1)], mkX M)) rfl ?_
      refine aG_put rfl hz1 rfl rfl ?_
      refine aG_n 3 (s' := (30, [some (.ref 3), some (.ref z1), some (.int (y2 + (nI 1))), some (.int (gi M 2 ((gi M 3 6) + y2).toNatClampNeg))], [], mkX (si M z1 5 ((gi M z1 5) ||| (jshl (nI 1) y2))))) rfl ?_
      refine aG_le (a := [some (.ref 3), some (.ref z1), some (.int (y2 + (nI 1))), none]) ⟨rfl, ⟨rfl, ⟨rfl, trivial⟩⟩⟩ ?_
      exact hK30 _ _ h
    · have h := h2 q4
      refine aG_icmp (cd := .ne) (b := true) (aTne1 q4) rfl ?_
      refine aG_n 2 (s' := (77, [some (.ref 3), some (.ref z1), some (.int y2), some (.int (gi M 2 ((gi M 3 6) + y2).toNatClampNeg))], [(.int (nI 105)), (.int (gi M 2 ((gi M 3 6) + y2).toNatClampNeg))], mkX M)) rfl ?_
      obtain ⟨h1, h2⟩ := h
      by_cases q5 : (gi M 2 ((gi M 3 6) + y2).toNatClampNeg) = (nI 105)
      · have h := h1 q5
        refine aG_icmp (cd := .eq) (b := true) (decide_eq_true q5) rfl ?_
        refine aG_n 2 (s' := (30, [some (.ref 3), some (.ref z1), some (.int (y2 + (nI 1))), some (.int (gi M 2 ((gi M 3 6) + y2).toNatClampNeg))], [], mkX M)) rfl ?_
        refine aG_le (a := [some (.ref 3), some (.ref z1), some (.int (y2 + (nI 1))), none]) ⟨rfl, ⟨rfl, ⟨rfl, trivial⟩⟩⟩ ?_
        exact hK30 _ _ h
      · have h := h2 q5
        refine aG_icmp (cd := .eq) (b := false) (decide_eq_false q5) rfl ?_
        refine aG_n 2 (s' := (82, [some (.ref 3), some (.ref z1), some (.int y2), some (.int (gi M 2 ((gi M 3 6) + y2).toNatClampNeg))], [(.int (nI 3)), (.ref 3)], mkX M)) rfl ?_
        refine aG_call rfl rfl (aG_mono (wk_X7_refuse h) ?_)
        rintro _ ⟨r6, M7, rfl, h⟩
        refine aG_n 0 (s' := (85, [some (.ref 3), some (.ref z1), some (.int y2), some (.int (gi M 2 ((gi M 3 6) + y2).toNatClampNeg))], [(.int r6)], mkX M7)) rfl ?_
        exact aG_retZ rfl rfl h.1 ⟨_, _, rfl, h.2⟩
def wL_X7_putCells_30 (z1 : Nat) (Q : Int32 → wM → Prop) : Nat → Int32 → wM → Prop
  | 0, _, _ => False
  | n + 1, y2, M => wb_X7_putCells_30 z1 (wL_X7_putCells_30 z1 Q n) y2 M Q
set_option maxRecDepth 20000 in
theorem wLk_X7_putCells_30 {z1 : Nat} {Q : Int32 → wM → Prop} (hz1 : ptX z1) : ∀ (n : Nat) (y2 : Int32) (M : wM), wL_X7_putCells_30 z1 Q n y2 M → aG 100 (30, [some (.ref 3), some (.ref z1), some (.int y2), none], [], mkX M) (aPi mkX Q)
  | 0, _, _, h => h.elim
  | n + 1, y2, M, h => wbk_X7_putCells_30 hz1 (fun y2 M h => wLk_X7_putCells_30 hz1 n y2 M h) h
def w_X7_putCells (x1 : Nat) (M : wM) (Q : Int32 → wM → Prop) : Prop := ptX x1 ∧ (((gi (si M x1 1 ((gi M 3 7) - (gi M 3 6))) x1 1) ≤ (nI 10) → ∃ n, wL_X7_putCells_30 x1 Q n (nI 0) (si M x1 1 ((gi M 3 7) - (gi M 3 6)))) ∧ (¬ (gi (si M x1 1 ((gi M 3 7) - (gi M 3 6))) x1 1) ≤ (nI 10) → w_X7_refuse (nI 3) (si M x1 1 ((gi M 3 7) - (gi M 3 6))) (fun r8 M9 => (r8 = nI 0 ∨ r8 = nI 1) ∧ Q r8 M9)))
set_option maxRecDepth 20000 in
theorem wk_X7_putCells {x1 : Nat} {M : wM} {Q : Int32 → wM → Prop} (h : w_X7_putCells x1 M Q) : aG 100 (aEn 100 [(.ref 3), (.ref x1)] (mkX M)) (aPi mkX Q) := by
  unfold w_X7_putCells at h
  obtain ⟨hx1, h⟩ := h
  refine aG_n 6 (s' := (10, [some (.ref 3), some (.ref x1), none, none], [(.int ((gi M 3 7) - (gi M 3 6))), (.ref x1)], mkX M)) rfl ?_
  refine aG_put rfl hx1 rfl rfl ?_
  refine aG_n 1 (s' := (14, [some (.ref 3), some (.ref x1), none, none], [(.ref x1)], mkX (si M x1 1 ((gi M 3 7) - (gi M 3 6))))) rfl ?_
  refine aG_get rfl hx1 rfl rfl ?_
  refine aG_n 1 (s' := (19, [some (.ref 3), some (.ref x1), none, none], [(.int (nI 10)), (.int (gi (si M x1 1 ((gi M 3 7) - (gi M 3 6))) x1 1))], mkX (si M x1 1 ((gi M 3 7) - (gi M 3 6))))) rfl ?_
  obtain ⟨h1, h2⟩ := h
  by_cases q1 : (gi (si M x1 1 ((gi M 3 7) - (gi M 3 6))) x1 1) ≤ (nI 10)
  · have h := h1 q1
    refine aG_icmp (cd := .le) (b := true) (decide_eq_true q1) rfl ?_
    refine aG_n 2 (s' := (30, [some (.ref 3), some (.ref x1), some (.int (nI 0)), none], [], mkX (si M x1 1 ((gi M 3 7) - (gi M 3 6))))) rfl ?_
    refine aG_le (a := [some (.ref 3), some (.ref x1), some (.int (nI 0)), none]) ⟨rfl, ⟨rfl, ⟨rfl, trivial⟩⟩⟩ ?_
    obtain ⟨n, h⟩ := h
    exact wLk_X7_putCells_30 hx1 n _ _ h
  · have h := h2 q1
    refine aG_icmp (cd := .le) (b := false) (decide_eq_false q1) rfl ?_
    refine aG_n 2 (s' := (24, [some (.ref 3), some (.ref x1), none, none], [(.int (nI 3)), (.ref 3)], mkX (si M x1 1 ((gi M 3 7) - (gi M 3 6))))) rfl ?_
    refine aG_call rfl rfl (aG_mono (wk_X7_refuse h) ?_)
    rintro _ ⟨r8, M9, rfl, h⟩
    refine aG_n 0 (s' := (27, [some (.ref 3), some (.ref x1), none, none], [(.int r8)], mkX M9)) rfl ?_
    exact aG_retZ rfl rfl h.1 ⟨_, _, rfl, h.2⟩
def w_X7_take (M : wM) (Q : Int32 → wM → Prop) : Prop := w_X7_skip (nI 32) (nI 32) M (fun M2 => (((gi M2 3 7)) < (gi M2 1 1) → vp_in ((gi M2 3 7)) 240 ∧ (((gi M2 2 ((gi M2 3 7)).toNatClampNeg) = (nI 59) → Q (nI 1) (si (si (si M2 3 6 (gi M2 3 7)) 3 5 (nI 3)) 3 7 (((gi M2 3 7)) + (nI 1)))) ∧ (¬ (gi M2 2 ((gi M2 3 7)).toNatClampNeg) = (nI 59) → w_X7_skip (nI 97) (nI 122) (si M2 3 6 (gi M2 3 7)) (fun M7 => ((gi M7 3 7) ≤ (gi M7 3 6) → w_X7_skip (nI 48) (nI 57) M7 (fun M10 => ((gi M10 3 7) ≤ (gi M10 3 6) → w_X7_refuse (nI 1) (si M10 3 5 (nI 2)) (fun r12 M13 => (r12 = (nI 0) → Q (nI 0) M13) ∧ (¬ r12 = (nI 0) → Q (nI 1) M13))) ∧ (¬ (gi M10 3 7) ≤ (gi M10 3 6) → (((gi M10 3 7) - (gi M10 3 6)) ≤ (nI 9) → Q (nI 1) (si M10 3 5 (nI 2))) ∧ (¬ ((gi M10 3 7) - (gi M10 3 6)) ≤ (nI 9) → w_X7_refuse (nI 1) (si M10 3 5 (nI 2)) (fun r16 M17 => (r16 = (nI 0) → Q (nI 0) M17) ∧ (¬ r16 = (nI 0) → Q (nI 1) M17)))))) ∧ (¬ (gi M7 3 7) ≤ (gi M7 3 6) → Q (nI 1) (si M7 3 5 (nI 1))))))) ∧ (¬ ((gi M2 3 7)) < (gi M2 1 1) → Q (nI 1) (si (si M2 3 6 (gi M2 3 7)) 3 5 (nI 0))))
set_option maxRecDepth 20000 in
theorem wk_X7_take {M : wM} {Q : Int32 → wM → Prop} (h : w_X7_take M Q) : aG 101 (aEn 101 [(.ref 3)] (mkX M)) (aPi mkX Q) := by
  unfold w_X7_take at h
  refine aG_n 3 (s' := (5, [some (.ref 3)], [(.int (nI 32)), (.int (nI 32)), (.ref 3)], mkX M)) rfl ?_
  refine aG_call rfl rfl (aG_mono (wk_X7_skip h) ?_)
  rintro _ ⟨M2, rfl, h⟩
  refine aG_n 9 (s' := (27, [some (.ref 3)], [(.int (gi M2 1 1)), (.int ((gi M2 3 7)))], mkX (si M2 3 6 (gi M2 3 7)))) rfl ?_
  obtain ⟨h1, h2⟩ := h
  by_cases q3 : ((gi M2 3 7)) < (gi M2 1 1)
  · have h := h1 q3
    refine aG_icmp (cd := .lt) (b := true) (decide_eq_true q3) rfl ?_
    refine aG_n 5 (s' := (48, [some (.ref 3)], [(.int ((gi M2 3 7))), (.ref 2)], mkX (si M2 3 6 (gi M2 3 7)))) rfl ?_
    obtain ⟨f4, h⟩ := h
    refine aG_bald rfl rfl f4 ?_
    refine aG_n 1 (s' := (51, [some (.ref 3)], [(.int (nI 59)), (.int (gi M2 2 ((gi M2 3 7)).toNatClampNeg))], mkX (si M2 3 6 (gi M2 3 7)))) rfl ?_
    obtain ⟨h1, h2⟩ := h
    by_cases q5 : (gi M2 2 ((gi M2 3 7)).toNatClampNeg) = (nI 59)
    · have h := h1 q5
      refine aG_icmp (cd := .ne) (b := false) (aTne0 q5) rfl ?_
      refine aG_n 10 (s' := (70, [some (.ref 3)], [(.int (nI 1))], mkX (si (si (si M2 3 6 (gi M2 3 7)) 3 5 (nI 3)) 3 7 (((gi M2 3 7)) + (nI 1))))) rfl ?_
      exact aG_retZ rfl rfl (Or.inr rfl) ⟨_, _, rfl, h⟩
    · have h := h2 q5
      refine aG_icmp (cd := .ne) (b := true) (aTne1 q5) rfl ?_
      refine aG_n 3 (s' := (76, [some (.ref 3)], [(.int (nI 122)), (.int (nI 97)), (.ref 3)], mkX (si M2 3 6 (gi M2 3 7)))) rfl ?_
      refine aG_call rfl rfl (aG_mono (wk_X7_skip h) ?_)
      rintro _ ⟨M7, rfl, h⟩
      refine aG_n 4 (s' := (87, [some (.ref 3)], [(.int (gi M7 3 6)), (.int (gi M7 3 7))], mkX M7)) rfl ?_
      obtain ⟨h1, h2⟩ := h
      by_cases q8 : (gi M7 3 7) ≤ (gi M7 3 6)
      · have h := h1 q8
        refine aG_icmp (cd := .le) (b := true) (decide_eq_true q8) rfl ?_
        refine aG_n 3 (s' := (102, [some (.ref 3)], [(.int (nI 57)), (.int (nI 48)), (.ref 3)], mkX M7)) rfl ?_
        refine aG_call rfl rfl (aG_mono (wk_X7_skip h) ?_)
        rintro _ ⟨M10, rfl, h⟩
        refine aG_n 7 (s' := (118, [some (.ref 3)], [(.int (gi M10 3 6)), (.int (gi M10 3 7))], mkX (si M10 3 5 (nI 2)))) rfl ?_
        obtain ⟨h1, h2⟩ := h
        by_cases q11 : (gi M10 3 7) ≤ (gi M10 3 6)
        · have h := h1 q11
          refine aG_icmp (cd := .le) (b := true) (decide_eq_true q11) rfl ?_
          refine aG_n 2 (s' := (137, [some (.ref 3)], [(.int (nI 1)), (.ref 3)], mkX (si M10 3 5 (nI 2)))) rfl ?_
          refine aG_call rfl rfl (aG_mono (wk_X7_refuse h) ?_)
          rintro _ ⟨r12, M13, rfl, h⟩
          refine aG_n 0 (s' := (140, [some (.ref 3)], [(.int r12)], mkX M13)) rfl ?_
          obtain ⟨h1, h2⟩ := h
          by_cases q14 : r12 = (nI 0)
          · have h := h1 q14
            refine aG_if (cd := .eq) (b := true) (decide_eq_true q14) rfl ?_
            refine aG_n 1 (s' := (148, [some (.ref 3)], [(.int (nI 0))], mkX M13)) rfl ?_
            exact aG_retZ rfl rfl (Or.inl rfl) ⟨_, _, rfl, h⟩
          · have h := h2 q14
            refine aG_if (cd := .eq) (b := false) (decide_eq_false q14) rfl ?_
            refine aG_n 2 (s' := (148, [some (.ref 3)], [(.int (nI 1))], mkX M13)) rfl ?_
            exact aG_retZ rfl rfl (Or.inr rfl) ⟨_, _, rfl, h⟩
        · have h := h2 q11
          refine aG_icmp (cd := .le) (b := false) (decide_eq_false q11) rfl ?_
          refine aG_n 6 (s' := (132, [some (.ref 3)], [(.int (nI 9)), (.int ((gi M10 3 7) - (gi M10 3 6)))], mkX (si M10 3 5 (nI 2)))) rfl ?_
          obtain ⟨h1, h2⟩ := h
          by_cases q15 : ((gi M10 3 7) - (gi M10 3 6)) ≤ (nI 9)
          · have h := h1 q15
            refine aG_icmp (cd := .le) (b := true) (decide_eq_true q15) rfl ?_
            refine aG_n 2 (s' := (148, [some (.ref 3)], [(.int (nI 1))], mkX (si M10 3 5 (nI 2)))) rfl ?_
            exact aG_retZ rfl rfl (Or.inr rfl) ⟨_, _, rfl, h⟩
          · have h := h2 q15
            refine aG_icmp (cd := .le) (b := false) (decide_eq_false q15) rfl ?_
            refine aG_n 2 (s' := (137, [some (.ref 3)], [(.int (nI 1)), (.ref 3)], mkX (si M10 3 5 (nI 2)))) rfl ?_
            refine aG_call rfl rfl (aG_mono (wk_X7_refuse h) ?_)
            rintro _ ⟨r16, M17, rfl, h⟩
            refine aG_n 0 (s' := (140, [some (.ref 3)], [(.int r16)], mkX M17)) rfl ?_
            obtain ⟨h1, h2⟩ := h
            by_cases q18 : r16 = (nI 0)
            · have h := h1 q18
              refine aG_if (cd := .eq) (b := true) (decide_eq_true q18) rfl ?_
              refine aG_n 1 (s' := (148, [some (.ref 3)], [(.int (nI 0))], mkX M17)) rfl ?_
              exact aG_retZ rfl rfl (Or.inl rfl) ⟨_, _, rfl, h⟩
            · have h := h2 q18
              refine aG_if (cd := .eq) (b := false) (decide_eq_false q18) rfl ?_
              refine aG_n 2 (s' := (148, [some (.ref 3)], [(.int (nI 1))], mkX M17)) rfl ?_
              exact aG_retZ rfl rfl (Or.inr rfl) ⟨_, _, rfl, h⟩
      · have h := h2 q8
        refine aG_icmp (cd := .le) (b := false) (decide_eq_false q8) rfl ?_
        refine aG_n 4 (s' := (96, [some (.ref 3)], [(.int (nI 1))], mkX (si M7 3 5 (nI 1)))) rfl ?_
        exact aG_retZ rfl rfl (Or.inr rfl) ⟨_, _, rfl, h⟩
  · have h := h2 q3
    refine aG_icmp (cd := .lt) (b := false) (decide_eq_false q3) rfl ?_
    refine aG_n 4 (s' := (36, [some (.ref 3)], [(.int (nI 1))], mkX (si (si M2 3 6 (gi M2 3 7)) 3 5 (nI 0)))) rfl ?_
    exact aG_retZ rfl rfl (Or.inr rfl) ⟨_, _, rfl, h⟩
def w_X8_renew (k : Nat) (x1 : Int32) (x2 : Int32) (M : wM) (Q : wM → Prop) : Prop := k < 4 ∧ (w_J7_fill_53178 (72 + 2 * k) (nI 0) (si (si M (71 + 2 * k) 0 x1) (71 + 2 * k) 1 x2) (fun M2 => Q M2))
set_option maxRecDepth 20000 in
theorem wk_X8_renew {k : Nat} {x1 : Int32} {x2 : Int32} {M : wM} {Q : wM → Prop} (h : w_X8_renew k x1 x2 M Q) : aG 102 (aEn 102 [(.ref (71 + 2 * k)), (.int x1), (.int x2)] (mkX M)) (aPv mkX Q) := by
  unfold w_X8_renew at h
  obtain ⟨hk, h⟩ := h
  refine aG_n 2 (s' := (2, [some (.ref (71 + 2 * k)), some (.int x1), some (.int x2)], [(.int x1), (.ref (71 + 2 * k))], mkX M)) rfl ?_
  refine aG_put rfl (shX_she hk) rfl rfl ?_
  refine aG_n 2 (s' := (7, [some (.ref (71 + 2 * k)), some (.int x1), some (.int x2)], [(.int x2), (.ref (71 + 2 * k))], mkX (si M (71 + 2 * k) 0 x1))) rfl ?_
  refine aG_put rfl (shX_she hk) rfl rfl ?_
  refine aG_n 1 (s' := (11, [some (.ref (71 + 2 * k)), some (.int x1), some (.int x2)], [(.ref (71 + 2 * k))], mkX (si (si M (71 + 2 * k) 0 x1) (71 + 2 * k) 1 x2))) rfl ?_
  refine aG_getR rfl (shX_she hk) rfl rfl (rX_cel (P := ((si (si M (71 + 2 * k) 0 x1) (71 + 2 * k) 1 x2)).2.2) hk) ?_
  refine aG_n 1 (s' := (15, [some (.ref (71 + 2 * k)), some (.int x1), some (.int x2)], [(.int (nI 0)), (.ref (72 + 2 * k))], mkX (si (si M (71 + 2 * k) 0 x1) (71 + 2 * k) 1 x2))) rfl ?_
  refine aG_call rfl rfl (aG_mono (wk_J7_fill_53178 h) ?_)
  rintro _ ⟨M2, rfl, h⟩
  refine aG_n 0 (s' := (18, [some (.ref (71 + 2 * k)), some (.int x1), some (.int x2)], [], mkX M2)) rfl ?_
  exact aG_retV rfl rfl ⟨_, rfl, h⟩
def w_X10_rowCount (x1 : Int32) (M : wM) (Q : Int32 → wM → Prop) : Prop := (x1 = (nI 0) → w_X10_width M (fun r2 M3 => Q r2 M3)) ∧ (¬ x1 = (nI 0) → (x1 = (nI 1) → w_X10_width M (fun r5 M6 => Q ((nI 2) * r5) M6)) ∧ (¬ x1 = (nI 1) → Q (gi M 12 0) M))
set_option maxRecDepth 20000 in
theorem wk_X10_rowCount {x1 : Int32} {M : wM} {Q : Int32 → wM → Prop} (h : w_X10_rowCount x1 M Q) : aG 103 (aEn 103 [(.ref 54), (.int x1)] (mkX M)) (aPi mkX Q) := by
  unfold w_X10_rowCount at h
  refine aG_n 1 (s' := (1, [some (.ref 54), some (.int x1)], [(.int x1)], mkX M)) rfl ?_
  obtain ⟨h1, h2⟩ := h
  by_cases q1 : x1 = (nI 0)
  · have h := h1 q1
    refine aG_if (cd := .ne) (b := false) (aTne0 q1) rfl ?_
    refine aG_n 1 (s' := (5, [some (.ref 54), some (.int x1)], [(.ref 54)], mkX M)) rfl ?_
    refine aG_call rfl rfl (aG_mono (wk_X10_width h) ?_)
    rintro _ ⟨r2, M3, rfl, h⟩
    refine aG_n 0 (s' := (8, [some (.ref 54), some (.int x1)], [(.int r2)], mkX M3)) rfl ?_
    exact aG_ret0 rfl rfl ⟨_, _, rfl, h⟩
  · have h := h2 q1
    refine aG_if (cd := .ne) (b := true) (aTne1 q1) rfl ?_
    refine aG_n 2 (s' := (11, [some (.ref 54), some (.int x1)], [(.int (nI 1)), (.int x1)], mkX M)) rfl ?_
    obtain ⟨h1, h2⟩ := h
    by_cases q4 : x1 = (nI 1)
    · have h := h1 q4
      refine aG_icmp (cd := .ne) (b := false) (aTne0 q4) rfl ?_
      refine aG_n 2 (s' := (16, [some (.ref 54), some (.int x1)], [(.ref 54), (.int (nI 2))], mkX M)) rfl ?_
      refine aG_call rfl rfl (aG_mono (wk_X10_width h) ?_)
      rintro _ ⟨r5, M6, rfl, h⟩
      refine aG_n 2 (s' := (30, [some (.ref 54), some (.int x1)], [(.int ((nI 2) * r5))], mkX M6)) rfl ?_
      exact aG_ret0 rfl rfl ⟨_, _, rfl, h⟩
    · have h := h2 q4
      refine aG_icmp (cd := .ne) (b := true) (aTne1 q4) rfl ?_
      refine aG_n 3 (s' := (30, [some (.ref 54), some (.int x1)], [(.int (gi M 12 0))], mkX M)) rfl ?_
      exact aG_ret0 rfl rfl ⟨_, _, rfl, h⟩
def wb_X10_countingRow_4 (z1 : Int32) (K4 : Int32 → Int32 → wM → Prop) (y2 : Int32) (y3 : Int32) (M : wM) (Q : Int32 → wM → Prop) : Prop := ((gi M 12 0) ≤ y3 → Q y2 M) ∧ (¬ (gi M 12 0) ≤ y3 → w_X11_bit (y3 + (nI 1)) z1 M (fun r2 M3 => K4 (y2 ||| (jshl r2 y3)) (y3 + (nI 1)) M3))
set_option maxRecDepth 20000 in
theorem wbk_X10_countingRow_4 {z1 : Int32} {K4 : Int32 → Int32 → wM → Prop} {y2 : Int32} {y3 : Int32} {M : wM} {Q : Int32 → wM → Prop} (hK4 : ∀ (v2 : Int32) (v3 : Int32) (M : wM), K4 v2 v3 M → aG 104 (4, [some (.ref 54), some (.int z1), some (.int v2), some (.int v3)], [], mkX M) (aPi mkX Q)) (h : wb_X10_countingRow_4 z1 K4 y2 y3 M Q) : aG 104 (4, [some (.ref 54), some (.int z1), some (.int y2), some (.int y3)], [], mkX M) (aPi mkX Q) := by
  unfold wb_X10_countingRow_4 at h
  refine aG_n 4 (s' := (12, [some (.ref 54), some (.int z1), some (.int y2), some (.int y3)], [(.int (gi M 12 0)), (.int y3)], mkX M)) rfl ?_
  obtain ⟨h1, h2⟩ := h
  by_cases q1 : (gi M 12 0) ≤ y3
  · have h := h1 q1
    refine aG_icmp (cd := .ge) (b := true) (decide_eq_true q1) rfl ?_
    refine aG_n 1 (s' := (34, [some (.ref 54), some (.int z1), some (.int y2), some (.int y3)], [(.int y2)], mkX M)) rfl ?_
    exact aG_ret0 rfl rfl ⟨_, _, rfl, h⟩
  · have h := h2 q1
    refine aG_icmp (cd := .ge) (b := false) (decide_eq_false q1) rfl ?_
    refine aG_n 5 (s' := (20, [some (.ref 54), some (.int z1), some (.int y2), some (.int y3)], [(.int z1), (.int (y3 + (nI 1))), (.int y2)], mkX M)) rfl ?_
    refine aG_call rfl rfl (aG_mono (wk_X11_bit h) ?_)
    rintro _ ⟨r2, M3, rfl, h⟩
    refine aG_n 6 (s' := (4, [some (.ref 54), some (.int z1), some (.int (y2 ||| (jshl r2 y3))), some (.int (y3 + (nI 1)))], [], mkX M3)) rfl ?_
    refine aG_le (a := [some (.ref 54), some (.int z1), some (.int (y2 ||| (jshl r2 y3))), some (.int (y3 + (nI 1)))]) ⟨rfl, ⟨rfl, ⟨rfl, ⟨rfl, trivial⟩⟩⟩⟩ ?_
    exact hK4 _ _ _ h
def wL_X10_countingRow_4 (z1 : Int32) (Q : Int32 → wM → Prop) : Nat → Int32 → Int32 → wM → Prop
  | 0, _, _, _ => False
  | n + 1, y2, y3, M => wb_X10_countingRow_4 z1 (wL_X10_countingRow_4 z1 Q n) y2 y3 M Q
set_option maxRecDepth 20000 in
theorem wLk_X10_countingRow_4 {z1 : Int32} {Q : Int32 → wM → Prop} : ∀ (n : Nat) (y2 : Int32) (y3 : Int32) (M : wM), wL_X10_countingRow_4 z1 Q n y2 y3 M → aG 104 (4, [some (.ref 54), some (.int z1), some (.int y2), some (.int y3)], [], mkX M) (aPi mkX Q)
  | 0, _, _, _, h => h.elim
  | n + 1, y2, y3, M, h => wbk_X10_countingRow_4 (fun y2 y3 M h => wLk_X10_countingRow_4 n y2 y3 M h) h
def w_X10_countingRow (x1 : Int32) (M : wM) (Q : Int32 → wM → Prop) : Prop := ∃ n, wL_X10_countingRow_4 x1 Q n (nI 0) (nI 0) M
set_option maxRecDepth 20000 in
theorem wk_X10_countingRow {x1 : Int32} {M : wM} {Q : Int32 → wM → Prop} (h : w_X10_countingRow x1 M Q) : aG 104 (aEn 104 [(.ref 54), (.int x1)] (mkX M)) (aPi mkX Q) := by
  unfold w_X10_countingRow at h
  refine aG_n 4 (s' := (4, [some (.ref 54), some (.int x1), some (.int (nI 0)), some (.int (nI 0))], [], mkX M)) rfl ?_
  refine aG_le (a := [some (.ref 54), some (.int x1), some (.int (nI 0)), some (.int (nI 0))]) ⟨rfl, ⟨rfl, ⟨rfl, ⟨rfl, trivial⟩⟩⟩⟩ ?_
  obtain ⟨n, h⟩ := h
  exact wLk_X10_countingRow_4 n _ _ _ h
