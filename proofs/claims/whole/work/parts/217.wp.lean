/-! methods as predicates, and their walks (by gen/wpgen.py) -/
def wb_X12_goesTo_22 (z2 : Int32) (z3 : Int32) (K22 : Int32 → wM → Prop) (y4 : Int32) (M : wM) (Q : Int32 → wM → Prop) : Prop := (z2 ≤ y4 → Q z2 M) ∧ (¬ z2 ≤ y4 → (((jshr z3 y4) &&& (nI 1)) = (nI 1) → w_X12_ticks1 (nI 1) (nI 1) M (fun r5 M6 => K22 (y4 + (nI 1)) M6)) ∧ (¬ ((jshr z3 y4) &&& (nI 1)) = (nI 1) → w_X12_ticks1 (nI 0) (nI 1) M (fun r7 M8 => K22 (y4 + (nI 1)) M8)))
set_option maxRecDepth 20000 in
theorem wbk_X12_goesTo_22 {z2 : Int32} {z3 : Int32} {K22 : Int32 → wM → Prop} {y4 : Int32} {M : wM} {Q : Int32 → wM → Prop} (hK22 : ∀ (v4 : Int32) (M : wM), K22 v4 M → aG 220 (22, [some (.ref 0), none, some (.int z2), some (.int z3), some (.int v4)], [], mkM M) (aPi mkM Q)) (h : wb_X12_goesTo_22 z2 z3 K22 y4 M Q) : aG 220 (22, [some (.ref 0), none, some (.int z2), some (.int z3), some (.int y4)], [], mkM M) (aPi mkM Q) := by
  unfold wb_X12_goesTo_22 at h
  refine aG_n 2 (s' := (25, [some (.ref 0), none, some (.int z2), some (.int z3), some (.int y4)], [(.int z2), (.int y4)], mkM M)) rfl ?_
  obtain ⟨h1, h2⟩ := h
  by_cases q3 : z2 ≤ y4
  · have h := h1 q3
    refine aG_icmp (cd := .ge) (b := true) (decide_eq_true q3) rfl ?_
    refine aG_n 1 (s' := (56, [some (.ref 0), none, some (.int z2), some (.int z3), some (.int y4)], [(.int z2)], mkM M)) rfl ?_
    exact aG_ret0 rfl rfl ⟨_, _, rfl, h⟩
  · have h := h2 q3
    refine aG_icmp (cd := .ge) (b := false) (decide_eq_false q3) rfl ?_
    refine aG_n 7 (s' := (36, [some (.ref 0), none, some (.int z2), some (.int z3), some (.int y4)], [(.int (nI 1)), (.int ((jshr z3 y4) &&& (nI 1))), (.ref 0)], mkM M)) rfl ?_
    obtain ⟨h1, h2⟩ := h
    by_cases q4 : ((jshr z3 y4) &&& (nI 1)) = (nI 1)
    · have h := h1 q4
      refine aG_icmp (cd := .ne) (b := false) (aTne0 q4) rfl ?_
      refine aG_n 3 (s' := (45, [some (.ref 0), none, some (.int z2), some (.int z3), some (.int y4)], [(.int (nI 1)), (.int (nI 1)), (.ref 0)], mkM M)) rfl ?_
      refine aG_call rfl rfl (aG_mono (wk_X12_ticks1 h) ?_)
      rintro _ ⟨r5, M6, rfl, h⟩
      refine aG_n 3 (s' := (22, [some (.ref 0), none, some (.int z2), some (.int z3), some (.int (y4 + (nI 1)))], [], mkM M6)) rfl ?_
      refine aG_le (a := [some (.ref 0), none, some (.int z2), some (.int z3), some (.int (y4 + (nI 1)))]) ⟨rfl, ⟨rfl, ⟨rfl, ⟨rfl, trivial⟩⟩⟩⟩ ?_
      exact hK22 _ _ h
    · have h := h2 q4
      refine aG_icmp (cd := .ne) (b := true) (aTne1 q4) rfl ?_
      refine aG_n 2 (s' := (45, [some (.ref 0), none, some (.int z2), some (.int z3), some (.int y4)], [(.int (nI 1)), (.int (nI 0)), (.ref 0)], mkM M)) rfl ?_
      refine aG_call rfl rfl (aG_mono (wk_X12_ticks1 h) ?_)
      rintro _ ⟨r7, M8, rfl, h⟩
      refine aG_n 3 (s' := (22, [some (.ref 0), none, some (.int z2), some (.int z3), some (.int (y4 + (nI 1)))], [], mkM M8)) rfl ?_
      refine aG_le (a := [some (.ref 0), none, some (.int z2), some (.int z3), some (.int (y4 + (nI 1)))]) ⟨rfl, ⟨rfl, ⟨rfl, ⟨rfl, trivial⟩⟩⟩⟩ ?_
      exact hK22 _ _ h
def wL_X12_goesTo_22 (z2 : Int32) (z3 : Int32) (Q : Int32 → wM → Prop) : Nat → Int32 → wM → Prop
  | 0, _, _ => False
  | n + 1, y4, M => wb_X12_goesTo_22 z2 z3 (wL_X12_goesTo_22 z2 z3 Q n) y4 M Q
set_option maxRecDepth 20000 in
theorem wLk_X12_goesTo_22 {z2 : Int32} {z3 : Int32} {Q : Int32 → wM → Prop} : ∀ (n : Nat) (y4 : Int32) (M : wM), wL_X12_goesTo_22 z2 z3 Q n y4 M → aG 220 (22, [some (.ref 0), none, some (.int z2), some (.int z3), some (.int y4)], [], mkM M) (aPi mkM Q)
  | 0, _, _, h => h.elim
  | n + 1, y4, M, h => wbk_X12_goesTo_22 (fun y4 M h => wLk_X12_goesTo_22 n y4 M h) h
def w_X12_goesTo (x1 : Int32) (M : wM) (Q : Int32 → wM → Prop) : Prop := w_X12_findPath (gi M 0 33) x1 M (fun M2 => ∃ n, wL_X12_goesTo_22 (gi M2 0 36) (gi M2 0 37) Q n (nI 0) M2)
set_option maxRecDepth 20000 in
theorem wk_X12_goesTo {x1 : Int32} {M : wM} {Q : Int32 → wM → Prop} (h : w_X12_goesTo x1 M Q) : aG 220 (aEn 220 [(.ref 0), (.int x1)] (mkM M)) (aPi mkM Q) := by
  unfold w_X12_goesTo at h
  refine aG_n 4 (s' := (6, [some (.ref 0), some (.int x1), none, none, none], [(.int x1), (.int (gi M 0 33)), (.ref 0)], mkM M)) rfl ?_
  refine aG_call rfl rfl (aG_mono (wk_X12_findPath h) ?_)
  rintro _ ⟨M2, rfl, h⟩
  refine aG_n 8 (s' := (22, [some (.ref 0), some (.int x1), some (.int (gi M2 0 36)), some (.int (gi M2 0 37)), some (.int (nI 0))], [], mkM M2)) rfl ?_
  refine aG_le (a := [some (.ref 0), none, some (.int (gi M2 0 36)), some (.int (gi M2 0 37)), some (.int (nI 0))]) ⟨rfl, ⟨rfl, ⟨rfl, ⟨rfl, trivial⟩⟩⟩⟩ ?_
  obtain ⟨n, h⟩ := h
  exact wLk_X12_goesTo_22 n _ _ h
def wb_X12_fiveUp_2 (K2 : Int32 → wM → Prop) (y1 : Int32) (M : wM) (Q : wM → Prop) : Prop := ((nI 5) ≤ y1 → Q M) ∧ (¬ (nI 5) ≤ y1 → w_X12_ticks1 (nI 1) (nI 1) M (fun r2 M3 => K2 (y1 + (nI 1)) M3))
set_option maxRecDepth 20000 in
theorem wbk_X12_fiveUp_2 {K2 : Int32 → wM → Prop} {y1 : Int32} {M : wM} {Q : wM → Prop} (hK2 : ∀ (v1 : Int32) (M : wM), K2 v1 M → aG 221 (2, [some (.ref 0), some (.int v1)], [], mkM M) (aPv mkM Q)) (h : wb_X12_fiveUp_2 K2 y1 M Q) : aG 221 (2, [some (.ref 0), some (.int y1)], [], mkM M) (aPv mkM Q) := by
  unfold wb_X12_fiveUp_2 at h
  refine aG_n 2 (s' := (4, [some (.ref 0), some (.int y1)], [(.int (nI 5)), (.int y1)], mkM M)) rfl ?_
  obtain ⟨h1, h2⟩ := h
  by_cases q1 : (nI 5) ≤ y1
  · have h := h1 q1
    refine aG_icmp (cd := .ge) (b := true) (decide_eq_true q1) rfl ?_
    refine aG_n 0 (s' := (20, [some (.ref 0), some (.int y1)], [], mkM M)) rfl ?_
    exact aG_retV rfl rfl ⟨_, rfl, h⟩
  · have h := h2 q1
    refine aG_icmp (cd := .ge) (b := false) (decide_eq_false q1) rfl ?_
    refine aG_n 3 (s' := (10, [some (.ref 0), some (.int y1)], [(.int (nI 1)), (.int (nI 1)), (.ref 0)], mkM M)) rfl ?_
    refine aG_call rfl rfl (aG_mono (wk_X12_ticks1 h) ?_)
    rintro _ ⟨r2, M3, rfl, h⟩
    refine aG_n 3 (s' := (2, [some (.ref 0), some (.int (y1 + (nI 1)))], [], mkM M3)) rfl ?_
    refine aG_le (a := [some (.ref 0), some (.int (y1 + (nI 1)))]) ⟨rfl, ⟨rfl, trivial⟩⟩ ?_
    exact hK2 _ _ h
def wL_X12_fiveUp_2 (Q : wM → Prop) : Nat → Int32 → wM → Prop
  | 0, _, _ => False
  | n + 1, y1, M => wb_X12_fiveUp_2 (wL_X12_fiveUp_2 Q n) y1 M Q
set_option maxRecDepth 20000 in
theorem wLk_X12_fiveUp_2 {Q : wM → Prop} : ∀ (n : Nat) (y1 : Int32) (M : wM), wL_X12_fiveUp_2 Q n y1 M → aG 221 (2, [some (.ref 0), some (.int y1)], [], mkM M) (aPv mkM Q)
  | 0, _, _, h => h.elim
  | n + 1, y1, M, h => wbk_X12_fiveUp_2 (fun y1 M h => wLk_X12_fiveUp_2 n y1 M h) h
def w_X12_fiveUp (M : wM) (Q : wM → Prop) : Prop := ∃ n, wL_X12_fiveUp_2 Q n (nI 0) M
set_option maxRecDepth 20000 in
theorem wk_X12_fiveUp {M : wM} {Q : wM → Prop} (h : w_X12_fiveUp M Q) : aG 221 (aEn 221 [(.ref 0)] (mkM M)) (aPv mkM Q) := by
  unfold w_X12_fiveUp at h
  refine aG_n 2 (s' := (2, [some (.ref 0), some (.int (nI 0))], [], mkM M)) rfl ?_
  refine aG_le (a := [some (.ref 0), some (.int (nI 0))]) ⟨rfl, ⟨rfl, trivial⟩⟩ ?_
  obtain ⟨n, h⟩ := h
  exact wLk_X12_fiveUp_2 n _ _ h
def wb_X7_readText_22 (K22 : Int32 → wM → Prop) (y1 : Int32) (M : wM) (Q : Int32 → wM → Prop) : Prop := ((nI 240) ≤ y1 → Q (nI 1) M) ∧ (¬ (nI 240) ≤ y1 → w_X7_take M (fun r2 M3 => (r2 = (nI 0) → Q (nI 0) M3) ∧ (¬ r2 = (nI 0) → ((gi M3 3 5) = (nI 0) → Q (nI 1) M3) ∧ (¬ (gi M3 3 5) = (nI 0) → nmP M3 ∧ (((nmX M3 0) = (nI 0) → w_X7_refuse (nI 2) M3 (fun r8 M9 => (r8 = nI 0 ∨ r8 = nI 1) ∧ Q r8 M9)) ∧ (¬ (nmX M3 0) = (nI 0) → ((gi M3 3 2) < (nI 6) → vp_in (gi M3 3 2) 6 ∧ (w_X7_readPart (5 + (gi M3 3 2).toNatClampNeg) M3 (fun r12 M13 => (r12 = (nI 0) → Q (nI 0) M13) ∧ (¬ r12 = (nI 0) → K22 (y1 + (nI 1)) (si M13 3 2 ((gi M13 3 2) + (nI 1))))))) ∧ (¬ (gi M3 3 2) < (nI 6) → w_X7_refuse (nI 5) M3 (fun r15 M16 => (r15 = nI 0 ∨ r15 = nI 1) ∧ Q r15 M16))))))))
set_option maxRecDepth 20000 in
theorem wbk_X7_readText_22 {K22 : Int32 → wM → Prop} {y1 : Int32} {M : wM} {Q : Int32 → wM → Prop} (hK22 : ∀ (v1 : Int32) (M : wM), K22 v1 M → aG 222 (22, [some (.ref 3), some (.int v1)], [], mkX M) (aPi mkX Q)) (h : wb_X7_readText_22 K22 y1 M Q) : aG 222 (22, [some (.ref 3), some (.int y1)], [], mkX M) (aPi mkX Q) := by
  unfold wb_X7_readText_22 at h
  refine aG_n 2 (s' := (26, [some (.ref 3), some (.int y1)], [(.int (nI 240)), (.int y1)], mkX M)) rfl ?_
  obtain ⟨h1, h2⟩ := h
  by_cases q1 : (nI 240) ≤ y1
  · have h := h1 q1
    refine aG_icmp (cd := .ge) (b := true) (decide_eq_true q1) rfl ?_
    refine aG_n 1 (s' := (112, [some (.ref 3), some (.int y1)], [(.int (nI 1))], mkX M)) rfl ?_
    exact aG_retZ rfl rfl (Or.inr rfl) ⟨_, _, rfl, h⟩
  · have h := h2 q1
    refine aG_icmp (cd := .ge) (b := false) (decide_eq_false q1) rfl ?_
    refine aG_n 1 (s' := (30, [some (.ref 3), some (.int y1)], [(.ref 3)], mkX M)) rfl ?_
    refine aG_call rfl rfl (aG_mono (wk_X7_take h) ?_)
    rintro _ ⟨r2, M3, rfl, h⟩
    refine aG_n 0 (s' := (33, [some (.ref 3), some (.int y1)], [(.int r2)], mkX M3)) rfl ?_
    obtain ⟨h1, h2⟩ := h
    by_cases q4 : r2 = (nI 0)
    · have h := h1 q4
      refine aG_if (cd := .ne) (b := false) (aTne0 q4) rfl ?_
      refine aG_n 1 (s' := (37, [some (.ref 3), some (.int y1)], [(.int (nI 0))], mkX M3)) rfl ?_
      exact aG_retZ rfl rfl (Or.inl rfl) ⟨_, _, rfl, h⟩
    · have h := h2 q4
      refine aG_if (cd := .ne) (b := true) (aTne1 q4) rfl ?_
      refine aG_n 2 (s' := (42, [some (.ref 3), some (.int y1)], [(.int (gi M3 3 5))], mkX M3)) rfl ?_
      obtain ⟨h1, h2⟩ := h
      by_cases q5 : (gi M3 3 5) = (nI 0)
      · have h := h1 q5
        refine aG_if (cd := .ne) (b := false) (aTne0 q5) rfl ?_
        refine aG_n 1 (s' := (46, [some (.ref 3), some (.int y1)], [(.int (nI 1))], mkX M3)) rfl ?_
        exact aG_retZ rfl rfl (Or.inr rfl) ⟨_, _, rfl, h⟩
      · have h := h2 q5
        refine aG_if (cd := .ne) (b := true) (aTne1 q5) rfl ?_
        refine aG_n 2 (s' := (50, [some (.ref 3), some (.int y1)], [(.ref (1000010 + 0)), (.ref 3)], mkX M3)) rfl ?_
        obtain ⟨f6, h⟩ := h
        refine aG_name rfl rfl (nm_ok (w := 0) f6 (by decide)) ?_
        refine aG_n 0 (s' := (53, [some (.ref 3), some (.int y1)], [(.int (nmX M3 0))], mkX M3)) rfl ?_
        obtain ⟨h1, h2⟩ := h
        by_cases q7 : (nmX M3 0) = (nI 0)
        · have h := h1 q7
          refine aG_if (cd := .ne) (b := false) (aTne0 q7) rfl ?_
          refine aG_n 2 (s' := (58, [some (.ref 3), some (.int y1)], [(.int (nI 2)), (.ref 3)], mkX M3)) rfl ?_
          refine aG_call rfl rfl (aG_mono (wk_X7_refuse h) ?_)
          rintro _ ⟨r8, M9, rfl, h⟩
          refine aG_n 0 (s' := (61, [some (.ref 3), some (.int y1)], [(.int r8)], mkX M9)) rfl ?_
          exact aG_retZ rfl rfl h.1 ⟨_, _, rfl, h.2⟩
        · have h := h2 q7
          refine aG_if (cd := .ne) (b := true) (aTne1 q7) rfl ?_
          refine aG_n 3 (s' := (68, [some (.ref 3), some (.int y1)], [(.int (nI 6)), (.int (gi M3 3 2))], mkX M3)) rfl ?_
          obtain ⟨h1, h2⟩ := h
          by_cases q10 : (gi M3 3 2) < (nI 6)
          · have h := h1 q10
            refine aG_icmp (cd := .lt) (b := true) (decide_eq_true q10) rfl ?_
            refine aG_n 5 (s' := (86, [some (.ref 3), some (.int y1)], [(.int (gi M3 3 2)), (.ref 4), (.ref 3)], mkX M3)) rfl ?_
            obtain ⟨f11, h⟩ := h
            refine aG_aald rfl rfl rfl f11 (rX_4 (P := (M3).2.2) (vin_lt f11)) ?_
            refine aG_n 0 (s' := (87, [some (.ref 3), some (.int y1)], [(.ref (5 + (gi M3 3 2).toNatClampNeg)), (.ref 3)], mkX M3)) rfl ?_
            refine aG_call rfl rfl (aG_mono (wk_X7_readPart h) ?_)
            rintro _ ⟨r12, M13, rfl, h⟩
            refine aG_n 0 (s' := (90, [some (.ref 3), some (.int y1)], [(.int r12)], mkX M13)) rfl ?_
            obtain ⟨h1, h2⟩ := h
            by_cases q14 : r12 = (nI 0)
            · have h := h1 q14
              refine aG_if (cd := .ne) (b := false) (aTne0 q14) rfl ?_
              refine aG_n 1 (s' := (94, [some (.ref 3), some (.int y1)], [(.int (nI 0))], mkX M13)) rfl ?_
              exact aG_retZ rfl rfl (Or.inl rfl) ⟨_, _, rfl, h⟩
            · have h := h2 q14
              refine aG_if (cd := .ne) (b := true) (aTne1 q14) rfl ?_
              refine aG_n 8 (s' := (22, [some (.ref 3), some (.int (y1 + (nI 1)))], [], mkX (si M13 3 2 ((gi M13 3 2) + (nI 1))))) rfl ?_
              refine aG_le (a := [some (.ref 3), some (.int (y1 + (nI 1)))]) ⟨rfl, ⟨rfl, trivial⟩⟩ ?_
              exact hK22 _ _ h
          · have h := h2 q10
            refine aG_icmp (cd := .lt) (b := false) (decide_eq_false q10) rfl ?_
            refine aG_n 2 (s' := (73, [some (.ref 3), some (.int y1)], [(.int (nI 5)), (.ref 3)], mkX M3)) rfl ?_
            refine aG_call rfl rfl (aG_mono (wk_X7_refuse h) ?_)
            rintro _ ⟨r15, M16, rfl, h⟩
            refine aG_n 0 (s' := (76, [some (.ref 3), some (.int y1)], [(.int r15)], mkX M16)) rfl ?_
            exact aG_retZ rfl rfl h.1 ⟨_, _, rfl, h.2⟩
def wL_X7_readText_22 (Q : Int32 → wM → Prop) : Nat → Int32 → wM → Prop
  | 0, _, _ => False
  | n + 1, y1, M => wb_X7_readText_22 (wL_X7_readText_22 Q n) y1 M Q
set_option maxRecDepth 20000 in
theorem wLk_X7_readText_22 {Q : Int32 → wM → Prop} : ∀ (n : Nat) (y1 : Int32) (M : wM), wL_X7_readText_22 Q n y1 M → aG 222 (22, [some (.ref 3), some (.int y1)], [], mkX M) (aPi mkX Q)
  | 0, _, _, h => h.elim
  | n + 1, y1, M, h => wbk_X7_readText_22 (fun y1 M h => wLk_X7_readText_22 n y1 M h) h
def w_X7_readText (M : wM) (Q : Int32 → wM → Prop) : Prop := ∃ n, wL_X7_readText_22 Q n (nI 0) (si (si (si (si M 3 2 (nI 0)) 3 7 (nI 0)) 3 3 (nI 0)) 3 4 (nI 0))
set_option maxRecDepth 20000 in
theorem wk_X7_readText {M : wM} {Q : Int32 → wM → Prop} (h : w_X7_readText M Q) : aG 222 (aEn 222 [(.ref 3)] (mkX M)) (aPi mkX Q) := by
  unfold w_X7_readText at h
  refine aG_n 14 (s' := (22, [some (.ref 3), some (.int (nI 0))], [], mkX (si (si (si (si M 3 2 (nI 0)) 3 7 (nI 0)) 3 3 (nI 0)) 3 4 (nI 0)))) rfl ?_
  refine aG_le (a := [some (.ref 3), some (.int (nI 0))]) ⟨rfl, ⟨rfl, trivial⟩⟩ ?_
  obtain ⟨n, h⟩ := h
  exact wLk_X7_readText_22 n _ _ h
def w_X12_go (x1 : Int32) (M : wM) (Q : Int32 → wM → Prop) : Prop := w_X12_in x1.toInt64 (lN 0) (lN 15) M (fun r1 M2 => (r1 = (nI 0) → Q (-1) M2) ∧ (¬ r1 = (nI 0) → ((gi M2 0 22) = (nI 0) → Q (-2) M2) ∧ (¬ (gi M2 0 22) = (nI 0) → w_X12_goesTo x1 M2 (fun r5 M6 => Q r5 M6))))
set_option maxRecDepth 20000 in
theorem wk_X12_go {x1 : Int32} {M : wM} {Q : Int32 → wM → Prop} (h : w_X12_go x1 M Q) : aG 223 (aEn 223 [(.ref 0), (.int x1)] (mkM M)) (aPi mkM Q) := by
  unfold w_X12_go at h
  refine aG_n 4 (s' := (6, [some (.ref 0), some (.int x1)], [(.long (lN 15)), (.long (lN 0)), (.long x1.toInt64)], mkM M)) rfl ?_
  refine aG_call rfl rfl (aG_mono (wk_X12_in h) ?_)
  rintro _ ⟨r1, M2, rfl, h⟩
  refine aG_n 0 (s' := (9, [some (.ref 0), some (.int x1)], [(.int r1)], mkM M2)) rfl ?_
  obtain ⟨h1, h2⟩ := h
  by_cases q3 : r1 = (nI 0)
  · have h := h1 q3
    refine aG_if (cd := .ne) (b := false) (aTne0 q3) rfl ?_
    refine aG_n 2 (s' := (33, [some (.ref 0), some (.int x1)], [(.int (-1))], mkM M2)) rfl ?_
    exact aG_ret0 rfl rfl ⟨_, _, rfl, h⟩
  · have h := h2 q3
    refine aG_if (cd := .ne) (b := true) (aTne1 q3) rfl ?_
    refine aG_n 2 (s' := (20, [some (.ref 0), some (.int x1)], [(.int (gi M2 0 22))], mkM M2)) rfl ?_
    obtain ⟨h1, h2⟩ := h
    by_cases q4 : (gi M2 0 22) = (nI 0)
    · have h := h1 q4
      refine aG_if (cd := .ne) (b := false) (aTne0 q4) rfl ?_
      refine aG_n 2 (s' := (33, [some (.ref 0), some (.int x1)], [(.int (-2))], mkM M2)) rfl ?_
      exact aG_ret0 rfl rfl ⟨_, _, rfl, h⟩
    · have h := h2 q4
      refine aG_if (cd := .ne) (b := true) (aTne1 q4) rfl ?_
      refine aG_n 2 (s' := (30, [some (.ref 0), some (.int x1)], [(.int x1), (.ref 0)], mkM M2)) rfl ?_
      refine aG_call rfl rfl (aG_mono (wk_X12_goesTo h) ?_)
      rintro _ ⟨r5, M6, rfl, h⟩
      refine aG_n 0 (s' := (33, [some (.ref 0), some (.int x1)], [(.int r5)], mkM M6)) rfl ?_
      exact aG_ret0 rfl rfl ⟨_, _, rfl, h⟩
def wj_X12_scan_159 (z2 : Int32) (z4 : Int32) (z5 : Int32) (z6 : Int32) (z7 : Int32) (s1 : Int32) (s3 : Int32) (K131 : Int32 → wM → Prop) (M : wM) (Q : Int32 → wM → Prop) : Prop := vp_in ((((nI 100) * z2) + z4) + z7) 400 ∧ (w_X12_ticks1 s3 ((gi M 42 ((((nI 100) * z2) + z4) + z7).toNatClampNeg) &&& (nI 1)) M (fun r26 M27 => vp_in s1 100 ∧ (K131 (z7 + (nI 1)) (si M27 25 s1.toNatClampNeg r26))))
set_option maxRecDepth 20000 in
theorem wjk_X12_scan_159 {z2 : Int32} {z4 : Int32} {z5 : Int32} {z6 : Int32} {z7 : Int32} {s1 : Int32} {s3 : Int32} {K131 : Int32 → wM → Prop} {M : wM} {Q : Int32 → wM → Prop} (hK131 : ∀ (v7 : Int32) (M : wM), K131 v7 M → aG 224 (131, [some (.ref 0), none, some (.int z2), none, some (.int z4), some (.int z5), some (.int z6), some (.int v7)], [], mkM M) (aPi mkM Q)) (h : wj_X12_scan_159 z2 z4 z5 z6 z7 s1 s3 K131 M Q) : aG 224 (159, [some (.ref 0), none, some (.int z2), none, some (.int z4), some (.int z5), some (.int z6), some (.int z7)], [(.int s3), (.ref 0), (.int s1), (.ref 25)], mkM M) (aPi mkM Q) := by
  unfold wj_X12_scan_159 at h
  refine aG_n 9 (s' := (173, [some (.ref 0), none, some (.int z2), none, some (.int z4), some (.int z5), some (.int z6), some (.int z7)], [(.int ((((nI 100) * z2) + z4) + z7)), (.ref 42), (.int s3), (.ref 0), (.int s1), (.ref 25)], mkM M)) rfl ?_
  obtain ⟨f25, h⟩ := h
  refine aG_iald rfl rfl rfl f25 ?_
  refine aG_n 2 (s' := (176, [some (.ref 0), none, some (.int z2), none, some (.int z4), some (.int z5), some (.int z6), some (.int z7)], [(.int ((gi M 42 ((((nI 100) * z2) + z4) + z7).toNatClampNeg) &&& (nI 1))), (.int s3), (.ref 0), (.int s1), (.ref 25)], mkM M)) rfl ?_
  refine aG_call rfl rfl (aG_mono (wk_X12_ticks1 h) ?_)
  rintro _ ⟨r26, M27, rfl, h⟩
  refine aG_n 0 (s' := (179, [some (.ref 0), none, some (.int z2), none, some (.int z4), some (.int z5), some (.int z6), some (.int z7)], [(.int r26), (.int s1), (.ref 25)], mkM M27)) rfl ?_
  obtain ⟨f28, h⟩ := h
  refine aG_iast rfl rfl f28 ?_
  refine aG_n 2 (s' := (131, [some (.ref 0), none, some (.int z2), none, some (.int z4), some (.int z5), some (.int z6), some (.int (z7 + (nI 1)))], [], mkM (si M27 25 s1.toNatClampNeg r26))) rfl ?_
  refine aG_le (a := [some (.ref 0), none, some (.int z2), none, some (.int z4), some (.int z5), some (.int z6), some (.int (z7 + (nI 1)))]) ⟨rfl, ⟨rfl, ⟨rfl, ⟨rfl, ⟨rfl, ⟨rfl, trivial⟩⟩⟩⟩⟩⟩ ?_
  exact hK131 _ _ h
def wb_X12_scan_131 (z2 : Int32) (z4 : Int32) (z5 : Int32) (z6 : Int32) (K131 : Int32 → wM → Prop) (y7 : Int32) (M : wM) (Q : Int32 → wM → Prop) : Prop := (z5 ≤ y7 → w_X12_goesTo (nI 1) (si M 0 38 z5) (fun r22 M23 => Q (z6 + r22) M23)) ∧ (¬ z5 ≤ y7 → (y7 = (z5 - (nI 1)) → wj_X12_scan_159 z2 z4 z5 z6 y7 y7 (nI 1) K131 M Q) ∧ (¬ y7 = (z5 - (nI 1)) → wj_X12_scan_159 z2 z4 z5 z6 y7 y7 (nI 0) K131 M Q))
set_option maxRecDepth 20000 in
theorem wbk_X12_scan_131 {z2 : Int32} {z4 : Int32} {z5 : Int32} {z6 : Int32} {K131 : Int32 → wM → Prop} {y7 : Int32} {M : wM} {Q : Int32 → wM → Prop} (hK131 : ∀ (v7 : Int32) (M : wM), K131 v7 M → aG 224 (131, [some (.ref 0), none, some (.int z2), none, some (.int z4), some (.int z5), some (.int z6), some (.int v7)], [], mkM M) (aPi mkM Q)) (h : wb_X12_scan_131 z2 z4 z5 z6 K131 y7 M Q) : aG 224 (131, [some (.ref 0), none, some (.int z2), none, some (.int z4), some (.int z5), some (.int z6), some (.int y7)], [], mkM M) (aPi mkM Q) := by
  unfold wb_X12_scan_131 at h
  refine aG_n 2 (s' := (135, [some (.ref 0), none, some (.int z2), none, some (.int z4), some (.int z5), some (.int z6), some (.int y7)], [(.int z5), (.int y7)], mkM M)) rfl ?_
  obtain ⟨h1, h2⟩ := h
  by_cases q21 : z5 ≤ y7
  · have h := h1 q21
    refine aG_icmp (cd := .ge) (b := true) (decide_eq_true q21) rfl ?_
    refine aG_n 6 (s' := (196, [some (.ref 0), none, some (.int z2), none, some (.int z4), some (.int z5), some (.int z6), some (.int y7)], [(.int (nI 1)), (.ref 0), (.int z6)], mkM (si M 0 38 z5))) rfl ?_
    refine aG_call rfl rfl (aG_mono (wk_X12_goesTo h) ?_)
    rintro _ ⟨r22, M23, rfl, h⟩
    refine aG_n 1 (s' := (200, [some (.ref 0), none, some (.int z2), none, some (.int z4), some (.int z5), some (.int z6), some (.int y7)], [(.int (z6 + r22))], mkM M23)) rfl ?_
    exact aG_ret0 rfl rfl ⟨_, _, rfl, h⟩
  · have h := h2 q21
    refine aG_icmp (cd := .ge) (b := false) (decide_eq_false q21) rfl ?_
    refine aG_n 8 (s' := (151, [some (.ref 0), none, some (.int z2), none, some (.int z4), some (.int z5), some (.int z6), some (.int y7)], [(.int (z5 - (nI 1))), (.int y7), (.ref 0), (.int y7), (.ref 25)], mkM M)) rfl ?_
    obtain ⟨h1, h2⟩ := h
    by_cases q24 : y7 = (z5 - (nI 1))
    · have h := h1 q24
      refine aG_icmp (cd := .ne) (b := false) (aTne0 q24) rfl ?_
      refine aG_n 2 (s' := (159, [some (.ref 0), none, some (.int z2), none, some (.int z4), some (.int z5), some (.int z6), some (.int y7)], [(.int (nI 1)), (.ref 0), (.int y7), (.ref 25)], mkM M)) rfl ?_
      refine aG_le (a := [some (.ref 0), none, some (.int z2), none, some (.int z4), some (.int z5), some (.int z6), some (.int y7)]) ⟨rfl, ⟨rfl, ⟨rfl, ⟨rfl, ⟨rfl, ⟨rfl, trivial⟩⟩⟩⟩⟩⟩ ?_
      exact wjk_X12_scan_159 hK131 h
    · have h := h2 q24
      refine aG_icmp (cd := .ne) (b := true) (aTne1 q24) rfl ?_
      refine aG_n 1 (s' := (159, [some (.ref 0), none, some (.int z2), none, some (.int z4), some (.int z5), some (.int z6), some (.int y7)], [(.int (nI 0)), (.ref 0), (.int y7), (.ref 25)], mkM M)) rfl ?_
      refine aG_le (a := [some (.ref 0), none, some (.int z2), none, some (.int z4), some (.int z5), some (.int z6), some (.int y7)]) ⟨rfl, ⟨rfl, ⟨rfl, ⟨rfl, ⟨rfl, ⟨rfl, trivial⟩⟩⟩⟩⟩⟩ ?_
      exact wjk_X12_scan_159 hK131 h
def wL_X12_scan_131 (z2 : Int32) (z4 : Int32) (z5 : Int32) (z6 : Int32) (Q : Int32 → wM → Prop) : Nat → Int32 → wM → Prop
  | 0, _, _ => False
  | n + 1, y7, M => wb_X12_scan_131 z2 z4 z5 z6 (wL_X12_scan_131 z2 z4 z5 z6 Q n) y7 M Q
set_option maxRecDepth 20000 in
theorem wLk_X12_scan_131 {z2 : Int32} {z4 : Int32} {z5 : Int32} {z6 : Int32} {Q : Int32 → wM → Prop} : ∀ (n : Nat) (y7 : Int32) (M : wM), wL_X12_scan_131 z2 z4 z5 z6 Q n y7 M → aG 224 (131, [some (.ref 0), none, some (.int z2), none, some (.int z4), some (.int z5), some (.int z6), some (.int y7)], [], mkM M) (aPi mkM Q)
  | 0, _, _, h => h.elim
  | n + 1, y7, M, h => wbk_X12_scan_131 (fun y7 M h => wLk_X12_scan_131 n y7 M h) h
def wj_X12_scan_122 (z2 : Int32) (z4 : Int32) (z5 : Int32) (s0 : Int32) (s2 : Int32) (M : wM) (Q : Int32 → wM → Prop) : Prop := w_X12_goesTo s2 M (fun r19 M20 => ∃ n, wL_X12_scan_131 z2 z4 z5 (s0 + r19) Q n (nI 0) M20)
set_option maxRecDepth 20000 in
theorem wjk_X12_scan_122 {z2 : Int32} {z4 : Int32} {z5 : Int32} {s0 : Int32} {s2 : Int32} {M : wM} {Q : Int32 → wM → Prop} (h : wj_X12_scan_122 z2 z4 z5 s0 s2 M Q) : aG 224 (122, [some (.ref 0), none, some (.int z2), none, some (.int z4), some (.int z5), none, none], [(.int s2), (.ref 0), (.int s0)], mkM M) (aPi mkM Q) := by
  unfold wj_X12_scan_122 at h
  refine aG_call rfl rfl (aG_mono (wk_X12_goesTo h) ?_)
  rintro _ ⟨r19, M20, rfl, h⟩
  refine aG_n 4 (s' := (131, [some (.ref 0), none, some (.int z2), none, some (.int z4), some (.int z5), some (.int (s0 + r19)), some (.int (nI 0))], [], mkM M20)) rfl ?_
  refine aG_le (a := [some (.ref 0), none, some (.int z2), none, some (.int z4), some (.int z5), some (.int (s0 + r19)), some (.int (nI 0))]) ⟨rfl, ⟨rfl, ⟨rfl, ⟨rfl, ⟨rfl, ⟨rfl, trivial⟩⟩⟩⟩⟩⟩ ?_
  obtain ⟨n, h⟩ := h
  exact wLk_X12_scan_131 n _ _ h
def w_X12_scan (x1 : Int32) (x2 : Int32) (x3 : Int32) (x4 : Int32) (x5 : Int32) (M : wM) (Q : Int32 → wM → Prop) : Prop := w_X12_in x5.toInt64 (lN 1) (lN 99) M (fun r1 M2 => (r1 = (nI 0) → Q (-1) M2) ∧ (¬ r1 = (nI 0) → w_X12_isSheet x2 x3 M2 (fun r4 M5 => (r4 = (nI 0) → Q (-1) M5) ∧ (¬ r4 = (nI 0) → ((gi M5 0 22) = (nI 0) → Q (-2) M5) ∧ (¬ (gi M5 0 22) = (nI 0) → vp_in x2 4 ∧ (((gi M5 40 x2.toNatClampNeg) = x3 → vp_in x2 4 ∧ (w_X12_in x4.toInt64 (lN 0) ((gi M5 41 x2.toNatClampNeg) - (nI 1)).toInt64 M5 (fun r11 M12 => (r11 = (nI 0) → Q (-12) M12) ∧ (¬ r11 = (nI 0) → vp_in x2 4 ∧ (w_X12_in ((x4.toInt64 + x5.toInt64) - (lN 1)) (lN 0) ((gi M12 41 x2.toNatClampNeg) - (nI 1)).toInt64 M12 (fun r15 M16 => (r15 = (nI 0) → Q (-12) M16) ∧ (¬ r15 = (nI 0) → (x1 = (nI 0) → wj_X12_scan_122 x2 x4 x5 x5 (nI 4) M16 Q) ∧ (¬ x1 = (nI 0) → wj_X12_scan_122 x2 x4 x5 x5 (nI 11) M16 Q)))))))) ∧ (¬ (gi M5 40 x2.toNatClampNeg) = x3 → vp_in x2 4 ∧ (((gi M5 40 x2.toNatClampNeg) = (-4) → Q (-11) M5) ∧ (¬ (gi M5 40 x2.toNatClampNeg) = (-4) → Q (-13) M5)))))))))
set_option maxRecDepth 20000 in
theorem wk_X12_scan {x1 : Int32} {x2 : Int32} {x3 : Int32} {x4 : Int32} {x5 : Int32} {M : wM} {Q : Int32 → wM → Prop} (h : w_X12_scan x1 x2 x3 x4 x5 M Q) : aG 224 (aEn 224 [(.ref 0), (.int x1), (.int x2), (.int x3), (.int x4), (.int x5)] (mkM M)) (aPi mkM Q) := by
  unfold w_X12_scan at h
  refine aG_n 4 (s' := (7, [some (.ref 0), some (.int x1), some (.int x2), some (.int x3), some (.int x4), some (.int x5), none, none], [(.long (lN 99)), (.long (lN 1)), (.long x5.toInt64)], mkM M)) rfl ?_
  refine aG_call rfl rfl (aG_mono (wk_X12_in h) ?_)
  rintro _ ⟨r1, M2, rfl, h⟩
  refine aG_n 0 (s' := (10, [some (.ref 0), some (.int x1), some (.int x2), some (.int x3), some (.int x4), some (.int x5), none, none], [(.int r1)], mkM M2)) rfl ?_
  obtain ⟨h1, h2⟩ := h
  by_cases q3 : r1 = (nI 0)
  · have h := h1 q3
    refine aG_if (cd := .eq) (b := true) (decide_eq_true q3) rfl ?_
    refine aG_n 1 (s' := (22, [some (.ref 0), some (.int x1), some (.int x2), some (.int x3), some (.int x4), some (.int x5), none, none], [(.int (-1))], mkM M2)) rfl ?_
    exact aG_ret0 rfl rfl ⟨_, _, rfl, h⟩
  · have h := h2 q3
    refine aG_if (cd := .eq) (b := false) (decide_eq_false q3) rfl ?_
    refine aG_n 2 (s' := (15, [some (.ref 0), some (.int x1), some (.int x2), some (.int x3), some (.int x4), some (.int x5), none, none], [(.int x3), (.int x2)], mkM M2)) rfl ?_
    refine aG_call rfl rfl (aG_mono (wk_X12_isSheet h) ?_)
    rintro _ ⟨r4, M5, rfl, h⟩
    refine aG_n 0 (s' := (18, [some (.ref 0), some (.int x1), some (.int x2), some (.int x3), some (.int x4), some (.int x5), none, none], [(.int r4)], mkM M5)) rfl ?_
    obtain ⟨h1, h2⟩ := h
    by_cases q6 : r4 = (nI 0)
    · have h := h1 q6
      refine aG_if (cd := .ne) (b := false) (aTne0 q6) rfl ?_
      refine aG_n 1 (s' := (22, [some (.ref 0), some (.int x1), some (.int x2), some (.int x3), some (.int x4), some (.int x5), none, none], [(.int (-1))], mkM M5)) rfl ?_
      exact aG_ret0 rfl rfl ⟨_, _, rfl, h⟩
    · have h := h2 q6
      refine aG_if (cd := .ne) (b := true) (aTne1 q6) rfl ?_
      refine aG_n 2 (s' := (27, [some (.ref 0), some (.int x1), some (.int x2), some (.int x3), some (.int x4), some (.int x5), none, none], [(.int (gi M5 0 22))], mkM M5)) rfl ?_
      obtain ⟨h1, h2⟩ := h
      by_cases q7 : (gi M5 0 22) = (nI 0)
      · have h := h1 q7
        refine aG_if (cd := .ne) (b := false) (aTne0 q7) rfl ?_
        refine aG_n 1 (s' := (32, [some (.ref 0), some (.int x1), some (.int x2), some (.int x3), some (.int x4), some (.int x5), none, none], [(.int (-2))], mkM M5)) rfl ?_
        exact aG_ret0 rfl rfl ⟨_, _, rfl, h⟩
      · have h := h2 q7
        refine aG_if (cd := .ne) (b := true) (aTne1 q7) rfl ?_
        refine aG_n 3 (s' := (38, [some (.ref 0), some (.int x1), some (.int x2), some (.int x3), some (.int x4), some (.int x5), none, none], [(.int x2), (.ref 40)], mkM M5)) rfl ?_
        obtain ⟨f8, h⟩ := h
        refine aG_iald rfl rfl rfl f8 ?_
        refine aG_n 1 (s' := (40, [some (.ref 0), some (.int x1), some (.int x2), some (.int x3), some (.int x4), some (.int x5), none, none], [(.int x3), (.int (gi M5 40 x2.toNatClampNeg))], mkM M5)) rfl ?_
        obtain ⟨h1, h2⟩ := h
        by_cases q9 : (gi M5 40 x2.toNatClampNeg) = x3
        · have h := h1 q9
          refine aG_icmp (cd := .eq) (b := true) (decide_eq_true q9) rfl ?_
          refine aG_n 6 (s' := (71, [some (.ref 0), some (.int x1), some (.int x2), some (.int x3), some (.int x4), some (.int x5), none, none], [(.int x2), (.ref 41), (.long (lN 0)), (.long x4.toInt64)], mkM M5)) rfl ?_
          obtain ⟨f10, h⟩ := h
          refine aG_iald rfl rfl rfl f10 ?_
          refine aG_n 3 (s' := (75, [some (.ref 0), some (.int x1), some (.int x2), some (.int x3), some (.int x4), some (.int x5), none, none], [(.long ((gi M5 41 x2.toNatClampNeg) - (nI 1)).toInt64), (.long (lN 0)), (.long x4.toInt64)], mkM M5)) rfl ?_
          refine aG_call rfl rfl (aG_mono (wk_X12_in h) ?_)
          rintro _ ⟨r11, M12, rfl, h⟩
          refine aG_n 0 (s' := (78, [some (.ref 0), some (.int x1), some (.int x2), some (.int x3), some (.int x4), some (.int x5), none, none], [(.int r11)], mkM M12)) rfl ?_
          obtain ⟨h1, h2⟩ := h
          by_cases q13 : r11 = (nI 0)
          · have h := h1 q13
            refine aG_if (cd := .eq) (b := true) (decide_eq_true q13) rfl ?_
            refine aG_n 1 (s' := (108, [some (.ref 0), some (.int x1), some (.int x2), some (.int x3), some (.int x4), some (.int x5), none, none], [(.int (-12))], mkM M12)) rfl ?_
            exact aG_ret0 rfl rfl ⟨_, _, rfl, h⟩
          · have h := h2 q13
            refine aG_if (cd := .eq) (b := false) (decide_eq_false q13) rfl ?_
            refine aG_n 11 (s' := (96, [some (.ref 0), some (.int x1), some (.int x2), some (.int x3), some (.int x4), some (.int x5), none, none], [(.int x2), (.ref 41), (.long (lN 0)), (.long ((x4.toInt64 + x5.toInt64) - (lN 1)))], mkM M12)) rfl ?_
            obtain ⟨f14, h⟩ := h
            refine aG_iald rfl rfl rfl f14 ?_
            refine aG_n 3 (s' := (100, [some (.ref 0), some (.int x1), some (.int x2), some (.int x3), some (.int x4), some (.int x5), none, none], [(.long ((gi M12 41 x2.toNatClampNeg) - (nI 1)).toInt64), (.long (lN 0)), (.long ((x4.toInt64 + x5.toInt64) - (lN 1)))], mkM M12)) rfl ?_
            refine aG_call rfl rfl (aG_mono (wk_X12_in h) ?_)
            rintro _ ⟨r15, M16, rfl, h⟩
            refine aG_n 0 (s' := (103, [some (.ref 0), some (.int x1), some (.int x2), some (.int x3), some (.int x4), some (.int x5), none, none], [(.int r15)], mkM M16)) rfl ?_
            obtain ⟨h1, h2⟩ := h
            by_cases q17 : r15 = (nI 0)
            · have h := h1 q17
              refine aG_if (cd := .ne) (b := false) (aTne0 q17) rfl ?_
              refine aG_n 1 (s' := (108, [some (.ref 0), some (.int x1), some (.int x2), some (.int x3), some (.int x4), some (.int x5), none, none], [(.int (-12))], mkM M16)) rfl ?_
              exact aG_ret0 rfl rfl ⟨_, _, rfl, h⟩
            · have h := h2 q17
              refine aG_if (cd := .ne) (b := true) (aTne1 q17) rfl ?_
              refine aG_n 3 (s' := (113, [some (.ref 0), some (.int x1), some (.int x2), some (.int x3), some (.int x4), some (.int x5), none, none], [(.int x1), (.ref 0), (.int x5)], mkM M16)) rfl ?_
              obtain ⟨h1, h2⟩ := h
              by_cases q18 : x1 = (nI 0)
              · have h := h1 q18
                refine aG_if (cd := .eq) (b := true) (decide_eq_true q18) rfl ?_
                refine aG_n 1 (s' := (122, [some (.ref 0), some (.int x1), some (.int x2), some (.int x3), some (.int x4), some (.int x5), none, none], [(.int (nI 4)), (.ref 0), (.int x5)], mkM M16)) rfl ?_
                refine aG_le (a := [some (.ref 0), none, some (.int x2), none, some (.int x4), some (.int x5), none, none]) ⟨rfl, ⟨rfl, ⟨rfl, ⟨rfl, trivial⟩⟩⟩⟩ ?_
                exact wjk_X12_scan_122 h
              · have h := h2 q18
                refine aG_if (cd := .eq) (b := false) (decide_eq_false q18) rfl ?_
                refine aG_n 2 (s' := (122, [some (.ref 0), some (.int x1), some (.int x2), some (.int x3), some (.int x4), some (.int x5), none, none], [(.int (nI 11)), (.ref 0), (.int x5)], mkM M16)) rfl ?_
                refine aG_le (a := [some (.ref 0), none, some (.int x2), none, some (.int x4), some (.int x5), none, none]) ⟨rfl, ⟨rfl, ⟨rfl, ⟨rfl, trivial⟩⟩⟩⟩ ?_
                exact wjk_X12_scan_122 h
        · have h := h2 q9
          refine aG_icmp (cd := .eq) (b := false) (decide_eq_false q9) rfl ?_
          refine aG_n 3 (s' := (48, [some (.ref 0), some (.int x1), some (.int x2), some (.int x3), some (.int x4), some (.int x5), none, none], [(.int x2), (.ref 40)], mkM M5)) rfl ?_
          obtain ⟨f29, h⟩ := h
          refine aG_iald rfl rfl rfl f29 ?_
          refine aG_n 1 (s' := (51, [some (.ref 0), some (.int x1), some (.int x2), some (.int x3), some (.int x4), some (.int x5), none, none], [(.int (-4)), (.int (gi M5 40 x2.toNatClampNeg))], mkM M5)) rfl ?_
          obtain ⟨h1, h2⟩ := h
          by_cases q30 : (gi M5 40 x2.toNatClampNeg) = (-4)
          · have h := h1 q30
            refine aG_icmp (cd := .ne) (b := false) (aTne0 q30) rfl ?_
            refine aG_n 2 (s' := (61, [some (.ref 0), some (.int x1), some (.int x2), some (.int x3), some (.int x4), some (.int x5), none, none], [(.int (-11))], mkM M5)) rfl ?_
            exact aG_ret0 rfl rfl ⟨_, _, rfl, h⟩
          · have h := h2 q30
            refine aG_icmp (cd := .ne) (b := true) (aTne1 q30) rfl ?_
            refine aG_n 1 (s' := (61, [some (.ref 0), some (.int x1), some (.int x2), some (.int x3), some (.int x4), some (.int x5), none, none], [(.int (-13))], mkM M5)) rfl ?_
            exact aG_ret0 rfl rfl ⟨_, _, rfl, h⟩
def wb_X12_found_91 (K91 : Int32 → wM → Prop) (y2 : Int32) (M : wM) (Q : Int32 → wM → Prop) : Prop := ((nI 20) ≤ y2 → Q (-4) M) ∧ (¬ (nI 20) ≤ y2 → w_X12_ticks1 (nI 0) (nI 1) M (fun r12 M13 => (r12 = (nI 1) → Q y2 M13) ∧ (¬ r12 = (nI 1) → K91 (y2 + (nI 1)) M13)))
set_option maxRecDepth 20000 in
theorem wbk_X12_found_91 {K91 : Int32 → wM → Prop} {y2 : Int32} {M : wM} {Q : Int32 → wM → Prop} (hK91 : ∀ (v2 : Int32) (M : wM), K91 v2 M → aG 225 (91, [some (.ref 0), none, some (.int v2)], [], mkM M) (aPi mkM Q)) (h : wb_X12_found_91 K91 y2 M Q) : aG 225 (91, [some (.ref 0), none, some (.int y2)], [], mkM M) (aPi mkM Q) := by
  unfold wb_X12_found_91 at h
  refine aG_n 2 (s' := (94, [some (.ref 0), none, some (.int y2)], [(.int (nI 20)), (.int y2)], mkM M)) rfl ?_
  obtain ⟨h1, h2⟩ := h
  by_cases q11 : (nI 20) ≤ y2
  · have h := h1 q11
    refine aG_icmp (cd := .ge) (b := true) (decide_eq_true q11) rfl ?_
    refine aG_n 1 (s' := (117, [some (.ref 0), none, some (.int y2)], [(.int (-4))], mkM M)) rfl ?_
    exact aG_ret0 rfl rfl ⟨_, _, rfl, h⟩
  · have h := h2 q11
    refine aG_icmp (cd := .ge) (b := false) (decide_eq_false q11) rfl ?_
    refine aG_n 3 (s' := (100, [some (.ref 0), none, some (.int y2)], [(.int (nI 1)), (.int (nI 0)), (.ref 0)], mkM M)) rfl ?_
    refine aG_call rfl rfl (aG_mono (wk_X12_ticks1 h) ?_)
    rintro _ ⟨r12, M13, rfl, h⟩
    refine aG_n 1 (s' := (104, [some (.ref 0), none, some (.int y2)], [(.int (nI 1)), (.int r12)], mkM M13)) rfl ?_
    obtain ⟨h1, h2⟩ := h
    by_cases q14 : r12 = (nI 1)
    · have h := h1 q14
      refine aG_icmp (cd := .ne) (b := false) (aTne0 q14) rfl ?_
      refine aG_n 1 (s' := (108, [some (.ref 0), none, some (.int y2)], [(.int y2)], mkM M13)) rfl ?_
      exact aG_ret0 rfl rfl ⟨_, _, rfl, h⟩
    · have h := h2 q14
      refine aG_icmp (cd := .ne) (b := true) (aTne1 q14) rfl ?_
      refine aG_n 2 (s' := (91, [some (.ref 0), none, some (.int (y2 + (nI 1)))], [], mkM M13)) rfl ?_
      refine aG_le (a := [some (.ref 0), none, some (.int (y2 + (nI 1)))]) ⟨rfl, ⟨rfl, trivial⟩⟩ ?_
      exact hK91 _ _ h
def wL_X12_found_91 (Q : Int32 → wM → Prop) : Nat → Int32 → wM → Prop
  | 0, _, _ => False
  | n + 1, y2, M => wb_X12_found_91 (wL_X12_found_91 Q n) y2 M Q
set_option maxRecDepth 20000 in
theorem wLk_X12_found_91 {Q : Int32 → wM → Prop} : ∀ (n : Nat) (y2 : Int32) (M : wM), wL_X12_found_91 Q n y2 M → aG 225 (91, [some (.ref 0), none, some (.int y2)], [], mkM M) (aPi mkM Q)
  | 0, _, _, h => h.elim
  | n + 1, y2, M, h => wbk_X12_found_91 (fun y2 M h => wLk_X12_found_91 n y2 M h) h
def wb_X12_found_62 (K62 : Int32 → Int32 → wM → Prop) (y1 : Int32) (y2 : Int32) (M : wM) (Q : Int32 → wM → Prop) : Prop := ((nI 20) ≤ y2 → (y1 = (nI 1) → Q (-4) M) ∧ (¬ y1 = (nI 1) → ∃ n, wL_X12_found_91 Q n (nI 0) M)) ∧ (¬ (nI 20) ≤ y2 → w_X12_ticks1 (nI 0) (nI 0) M (fun r15 M16 => K62 r15 (y2 + (nI 1)) M16))
set_option maxRecDepth 20000 in
theorem wbk_X12_found_62 {K62 : Int32 → Int32 → wM → Prop} {y1 : Int32} {y2 : Int32} {M : wM} {Q : Int32 → wM → Prop} (hK62 : ∀ (v1 : Int32) (v2 : Int32) (M : wM), K62 v1 v2 M → aG 225 (62, [some (.ref 0), some (.int v1), some (.int v2)], [], mkM M) (aPi mkM Q)) (h : wb_X12_found_62 K62 y1 y2 M Q) : aG 225 (62, [some (.ref 0), some (.int y1), some (.int y2)], [], mkM M) (aPi mkM Q) := by
  unfold wb_X12_found_62 at h
  refine aG_n 2 (s' := (65, [some (.ref 0), some (.int y1), some (.int y2)], [(.int (nI 20)), (.int y2)], mkM M)) rfl ?_
  obtain ⟨h1, h2⟩ := h
  by_cases q9 : (nI 20) ≤ y2
  · have h := h1 q9
    refine aG_icmp (cd := .ge) (b := true) (decide_eq_true q9) rfl ?_
    refine aG_n 2 (s' := (83, [some (.ref 0), some (.int y1), some (.int y2)], [(.int (nI 1)), (.int y1)], mkM M)) rfl ?_
    obtain ⟨h1, h2⟩ := h
    by_cases q10 : y1 = (nI 1)
    · have h := h1 q10
      refine aG_icmp (cd := .ne) (b := false) (aTne0 q10) rfl ?_
      refine aG_n 1 (s' := (88, [some (.ref 0), some (.int y1), some (.int y2)], [(.int (-4))], mkM M)) rfl ?_
      exact aG_ret0 rfl rfl ⟨_, _, rfl, h⟩
    · have h := h2 q10
      refine aG_icmp (cd := .ne) (b := true) (aTne1 q10) rfl ?_
      refine aG_n 2 (s' := (91, [some (.ref 0), some (.int y1), some (.int (nI 0))], [], mkM M)) rfl ?_
      refine aG_le (a := [some (.ref 0), none, some (.int (nI 0))]) ⟨rfl, ⟨rfl, trivial⟩⟩ ?_
      obtain ⟨n, h⟩ := h
      exact wLk_X12_found_91 n _ _ h
  · have h := h2 q9
    refine aG_icmp (cd := .ge) (b := false) (decide_eq_false q9) rfl ?_
    refine aG_n 3 (s' := (71, [some (.ref 0), some (.int y1), some (.int y2)], [(.int (nI 0)), (.int (nI 0)), (.ref 0)], mkM M)) rfl ?_
    refine aG_call rfl rfl (aG_mono (wk_X12_ticks1 h) ?_)
    rintro _ ⟨r15, M16, rfl, h⟩
    refine aG_n 3 (s' := (62, [some (.ref 0), some (.int r15), some (.int (y2 + (nI 1)))], [], mkM M16)) rfl ?_
    refine aG_le (a := [some (.ref 0), some (.int r15), some (.int (y2 + (nI 1)))]) ⟨rfl, ⟨rfl, ⟨rfl, trivial⟩⟩⟩ ?_
    exact hK62 _ _ _ h
def wL_X12_found_62 (Q : Int32 → wM → Prop) : Nat → Int32 → Int32 → wM → Prop
  | 0, _, _, _ => False
  | n + 1, y1, y2, M => wb_X12_found_62 (wL_X12_found_62 Q n) y1 y2 M Q
set_option maxRecDepth 20000 in
theorem wLk_X12_found_62 {Q : Int32 → wM → Prop} : ∀ (n : Nat) (y1 : Int32) (y2 : Int32) (M : wM), wL_X12_found_62 Q n y1 y2 M → aG 225 (62, [some (.ref 0), some (.int y1), some (.int y2)], [], mkM M) (aPi mkM Q)
  | 0, _, _, _, h => h.elim
  | n + 1, y1, y2, M, h => wbk_X12_found_62 (fun y1 y2 M h => wLk_X12_found_62 n y1 y2 M h) h
def wb_X12_found_23 (K23 : Int32 → wM → Prop) (y1 : Int32) (M : wM) (Q : Int32 → wM → Prop) : Prop := ((nI 64) ≤ y1 → w_X12_goesTo (nI 4) M (fun r7 M8 => ∃ n, wL_X12_found_62 Q n (nI 0) (nI 0) M8)) ∧ (¬ (nI 64) ≤ y1 → (y1 = (nI 63) → w_X12_ticks1 (nI 1) (nI 1) M (fun r18 M19 => K23 (y1 + (nI 1)) M19)) ∧ (¬ y1 = (nI 63) → w_X12_ticks1 (nI 0) (nI 1) M (fun r20 M21 => K23 (y1 + (nI 1)) M21)))
set_option maxRecDepth 20000 in
theorem wbk_X12_found_23 {K23 : Int32 → wM → Prop} {y1 : Int32} {M : wM} {Q : Int32 → wM → Prop} (hK23 : ∀ (v1 : Int32) (M : wM), K23 v1 M → aG 225 (23, [some (.ref 0), some (.int v1), none], [], mkM M) (aPi mkM Q)) (h : wb_X12_found_23 K23 y1 M Q) : aG 225 (23, [some (.ref 0), some (.int y1), none], [], mkM M) (aPi mkM Q) := by
  unfold wb_X12_found_23 at h
  refine aG_n 2 (s' := (26, [some (.ref 0), some (.int y1), none], [(.int (nI 64)), (.int y1)], mkM M)) rfl ?_
  obtain ⟨h1, h2⟩ := h
  by_cases q6 : (nI 64) ≤ y1
  · have h := h1 q6
    refine aG_icmp (cd := .ge) (b := true) (decide_eq_true q6) rfl ?_
    refine aG_n 2 (s' := (54, [some (.ref 0), some (.int y1), none], [(.int (nI 4)), (.ref 0)], mkM M)) rfl ?_
    refine aG_call rfl rfl (aG_mono (wk_X12_goesTo h) ?_)
    rintro _ ⟨r7, M8, rfl, h⟩
    refine aG_n 5 (s' := (62, [some (.ref 0), some (.int (nI 0)), some (.int (nI 0))], [], mkM M8)) rfl ?_
    refine aG_le (a := [some (.ref 0), some (.int (nI 0)), some (.int (nI 0))]) ⟨rfl, ⟨rfl, ⟨rfl, trivial⟩⟩⟩ ?_
    obtain ⟨n, h⟩ := h
    exact wLk_X12_found_62 n _ _ _ h
  · have h := h2 q6
    refine aG_icmp (cd := .ge) (b := false) (decide_eq_false q6) rfl ?_
    refine aG_n 3 (s' := (33, [some (.ref 0), some (.int y1), none], [(.int (nI 63)), (.int y1), (.ref 0)], mkM M)) rfl ?_
    obtain ⟨h1, h2⟩ := h
    by_cases q17 : y1 = (nI 63)
    · have h := h1 q17
      refine aG_icmp (cd := .ne) (b := false) (aTne0 q17) rfl ?_
      refine aG_n 3 (s' := (42, [some (.ref 0), some (.int y1), none], [(.int (nI 1)), (.int (nI 1)), (.ref 0)], mkM M)) rfl ?_
      refine aG_call rfl rfl (aG_mono (wk_X12_ticks1 h) ?_)
      rintro _ ⟨r18, M19, rfl, h⟩
      refine aG_n 3 (s' := (23, [some (.ref 0), some (.int (y1 + (nI 1))), none], [], mkM M19)) rfl ?_
      refine aG_le (a := [some (.ref 0), some (.int (y1 + (nI 1))), none]) ⟨rfl, ⟨rfl, trivial⟩⟩ ?_
      exact hK23 _ _ h
    · have h := h2 q17
      refine aG_icmp (cd := .ne) (b := true) (aTne1 q17) rfl ?_
      refine aG_n 2 (s' := (42, [some (.ref 0), some (.int y1), none], [(.int (nI 1)), (.int (nI 0)), (.ref 0)], mkM M)) rfl ?_
      refine aG_call rfl rfl (aG_mono (wk_X12_ticks1 h) ?_)
      rintro _ ⟨r20, M21, rfl, h⟩
      refine aG_n 3 (s' := (23, [some (.ref 0), some (.int (y1 + (nI 1))), none], [], mkM M21)) rfl ?_
      refine aG_le (a := [some (.ref 0), some (.int (y1 + (nI 1))), none]) ⟨rfl, ⟨rfl, trivial⟩⟩ ?_
      exact hK23 _ _ h
def wL_X12_found_23 (Q : Int32 → wM → Prop) : Nat → Int32 → wM → Prop
  | 0, _, _ => False
  | n + 1, y1, M => wb_X12_found_23 (wL_X12_found_23 Q n) y1 M Q
set_option maxRecDepth 20000 in
theorem wLk_X12_found_23 {Q : Int32 → wM → Prop} : ∀ (n : Nat) (y1 : Int32) (M : wM), wL_X12_found_23 Q n y1 M → aG 225 (23, [some (.ref 0), some (.int y1), none], [], mkM M) (aPi mkM Q)
  | 0, _, _, h => h.elim
  | n + 1, y1, M, h => wbk_X12_found_23 (fun y1 M h => wLk_X12_found_23 n y1 M h) h
def w_X12_found (M : wM) (Q : Int32 → wM → Prop) : Prop := ((gi M 0 22) = (nI 0) → Q (-2) M) ∧ (¬ (gi M 0 22) = (nI 0) → w_X12_fiveUp M (fun M3 => w_X12_goesTo (nI 11) M3 (fun r4 M5 => ∃ n, wL_X12_found_23 Q n (nI 0) M5)))
set_option maxRecDepth 20000 in
theorem wk_X12_found {M : wM} {Q : Int32 → wM → Prop} (h : w_X12_found M Q) : aG 225 (aEn 225 [(.ref 0)] (mkM M)) (aPi mkM Q) := by
  unfold w_X12_found at h
  refine aG_n 2 (s' := (4, [some (.ref 0), none, none], [(.int (gi M 0 22))], mkM M)) rfl ?_
  obtain ⟨h1, h2⟩ := h
  by_cases q1 : (gi M 0 22) = (nI 0)
  · have h := h1 q1
    refine aG_if (cd := .ne) (b := false) (aTne0 q1) rfl ?_
    refine aG_n 1 (s' := (9, [some (.ref 0), none, none], [(.int (-2))], mkM M)) rfl ?_
    exact aG_ret0 rfl rfl ⟨_, _, rfl, h⟩
  · have h := h2 q1
    refine aG_if (cd := .ne) (b := true) (aTne1 q1) rfl ?_
    refine aG_n 1 (s' := (11, [some (.ref 0), none, none], [(.ref 0)], mkM M)) rfl ?_
    refine aG_call rfl rfl (aG_mono (wk_X12_fiveUp h) ?_)
    rintro _ ⟨M3, rfl, h⟩
    refine aG_n 2 (s' := (17, [some (.ref 0), none, none], [(.int (nI 11)), (.ref 0)], mkM M3)) rfl ?_
    refine aG_call rfl rfl (aG_mono (wk_X12_goesTo h) ?_)
    rintro _ ⟨r4, M5, rfl, h⟩
    refine aG_n 3 (s' := (23, [some (.ref 0), some (.int (nI 0)), none], [], mkM M5)) rfl ?_
    refine aG_le (a := [some (.ref 0), some (.int (nI 0)), none]) ⟨rfl, ⟨rfl, trivial⟩⟩ ?_
    obtain ⟨n, h⟩ := h
    exact wLk_X12_found_23 n _ _ h
def wj_X12_identity_133 (z1 : Int32) (z2 : Int32) (M : wM) (Q : Int64 → wM → Prop) : Prop := (z1 = (-4) → Q z2.toInt64 M) ∧ (¬ z1 = (-4) → (z2 ≤ z1 → Q (-4) M) ∧ (¬ z2 ≤ z1 → vp_in z1 8 ∧ (Q (gi M 26 z1.toNatClampNeg).toInt64 M)))
set_option maxRecDepth 20000 in
theorem wjk_X12_identity_133 {z1 : Int32} {z2 : Int32} {M : wM} {Q : Int64 → wM → Prop} (h : wj_X12_identity_133 z1 z2 M Q) : aG 226 (133, [some (.ref 0), some (.int z1), some (.int z2), none, none, none], [], mkM M) (aPl mkM Q) := by
  unfold wj_X12_identity_133 at h
  refine aG_n 2 (s' := (136, [some (.ref 0), some (.int z1), some (.int z2), none, none, none], [(.int (-4)), (.int z1)], mkM M)) rfl ?_
  obtain ⟨h1, h2⟩ := h
  by_cases q8 : z1 = (-4)
  · have h := h1 q8
    refine aG_icmp (cd := .ne) (b := false) (aTne0 q8) rfl ?_
    refine aG_n 3 (s' := (162, [some (.ref 0), some (.int z1), some (.int z2), none, none, none], [(.long z2.toInt64)], mkM M)) rfl ?_
    exact aG_retL rfl rfl ⟨_, _, rfl, h⟩
  · have h := h2 q8
    refine aG_icmp (cd := .ne) (b := true) (aTne1 q8) rfl ?_
    refine aG_n 2 (s' := (146, [some (.ref 0), some (.int z1), some (.int z2), none, none, none], [(.int z2), (.int z1)], mkM M)) rfl ?_
    obtain ⟨h1, h2⟩ := h
    by_cases q9 : z2 ≤ z1
    · have h := h1 q9
      refine aG_icmp (cd := .ge) (b := true) (decide_eq_true q9) rfl ?_
      refine aG_n 1 (s' := (162, [some (.ref 0), some (.int z1), some (.int z2), none, none, none], [(.long (-4))], mkM M)) rfl ?_
      exact aG_retL rfl rfl ⟨_, _, rfl, h⟩
    · have h := h2 q9
      refine aG_icmp (cd := .ge) (b := false) (decide_eq_false q9) rfl ?_
      refine aG_n 3 (s' := (154, [some (.ref 0), some (.int z1), some (.int z2), none, none, none], [(.int z1), (.ref 26)], mkM M)) rfl ?_
      obtain ⟨f10, h⟩ := h
      refine aG_iald rfl rfl rfl f10 ?_
      refine aG_n 2 (s' := (162, [some (.ref 0), some (.int z1), some (.int z2), none, none, none], [(.long (gi M 26 z1.toNatClampNeg).toInt64)], mkM M)) rfl ?_
      exact aG_retL rfl rfl ⟨_, _, rfl, h⟩
def wj_X12_identity_114 (z1 : Int32) (z2 : Int32) (z4 : Int32) (s0 : Int32) (K47 : Int32 → Int32 → wM → Prop) (M : wM) (Q : Int64 → wM → Prop) : Prop := (s0 = (nI 0) → K47 z2 s0 M) ∧ (¬ s0 = (nI 0) → vp_in z2 8 ∧ (K47 (z2 + (nI 1)) s0 (si M 26 z2.toNatClampNeg z4)))
set_option maxRecDepth 20000 in
theorem wjk_X12_identity_114 {z1 : Int32} {z2 : Int32} {z4 : Int32} {s0 : Int32} {K47 : Int32 → Int32 → wM → Prop} {M : wM} {Q : Int64 → wM → Prop} (hK47 : ∀ (v2 : Int32) (v3 : Int32) (M : wM), K47 v2 v3 M → aG 226 (47, [some (.ref 0), some (.int z1), some (.int v2), some (.int v3), none, none], [], mkM M) (aPl mkM Q)) (h : wj_X12_identity_114 z1 z2 z4 s0 K47 M Q) : aG 226 (114, [some (.ref 0), some (.int z1), some (.int z2), none, some (.int z4), none], [(.int s0)], mkM M) (aPl mkM Q) := by
  unfold wj_X12_identity_114 at h
  refine aG_n 2 (s' := (116, [some (.ref 0), some (.int z1), some (.int z2), some (.int s0), some (.int z4), none], [(.int s0)], mkM M)) rfl ?_
  obtain ⟨h1, h2⟩ := h
  by_cases q16 : s0 = (nI 0)
  · have h := h1 q16
    refine aG_if (cd := .eq) (b := true) (decide_eq_true q16) rfl ?_
    refine aG_n 1 (s' := (47, [some (.ref 0), some (.int z1), some (.int z2), some (.int s0), some (.int z4), none], [], mkM M)) rfl ?_
    refine aG_le (a := [some (.ref 0), some (.int z1), some (.int z2), some (.int s0), none, none]) ⟨rfl, ⟨rfl, ⟨rfl, ⟨rfl, trivial⟩⟩⟩⟩ ?_
    exact hK47 _ _ _ h
  · have h := h2 q16
    refine aG_if (cd := .eq) (b := false) (decide_eq_false q16) rfl ?_
    refine aG_n 4 (s' := (126, [some (.ref 0), some (.int z1), some (.int z2), some (.int s0), some (.int z4), none], [(.int z4), (.int z2), (.ref 26)], mkM M)) rfl ?_
    obtain ⟨f17, h⟩ := h
    refine aG_iast rfl rfl f17 ?_
    refine aG_n 2 (s' := (47, [some (.ref 0), some (.int z1), some (.int (z2 + (nI 1))), some (.int s0), some (.int z4), none], [], mkM (si M 26 z2.toNatClampNeg z4))) rfl ?_
    refine aG_le (a := [some (.ref 0), some (.int z1), some (.int (z2 + (nI 1))), some (.int s0), none, none]) ⟨rfl, ⟨rfl, ⟨rfl, ⟨rfl, trivial⟩⟩⟩⟩ ?_
    exact hK47 _ _ _ h
def wb_X12_identity_68 (z1 : Int32) (z2 : Int32) (K47 : Int32 → Int32 → wM → Prop) (K68 : Int32 → Int32 → wM → Prop) (y4 : Int32) (y5 : Int32) (M : wM) (Q : Int64 → wM → Prop) : Prop := ((nI 32) ≤ y5 → (y4 = (-1) → wj_X12_identity_114 z1 z2 y4 (nI 0) K47 M Q) ∧ (¬ y4 = (-1) → wj_X12_identity_114 z1 z2 y4 (nI 1) K47 M Q)) ∧ (¬ (nI 32) ≤ y5 → ((y4 &&& (nI 1)) = (nI 1) → w_X12_ticks1 (nI 0) (nI 1) M (fun r19 M20 => K68 (y4 ||| (jshl r19 y5)) (y5 + (nI 1)) M20)) ∧ (¬ (y4 &&& (nI 1)) = (nI 1) → (y4 = (-1) → wj_X12_identity_114 z1 z2 y4 (nI 0) K47 M Q) ∧ (¬ y4 = (-1) → wj_X12_identity_114 z1 z2 y4 (nI 1) K47 M Q)))
set_option maxRecDepth 20000 in
theorem wbk_X12_identity_68 {z1 : Int32} {z2 : Int32} {K47 : Int32 → Int32 → wM → Prop} {K68 : Int32 → Int32 → wM → Prop} {y4 : Int32} {y5 : Int32} {M : wM} {Q : Int64 → wM → Prop} (hK47 : ∀ (v2 : Int32) (v3 : Int32) (M : wM), K47 v2 v3 M → aG 226 (47, [some (.ref 0), some (.int z1), some (.int v2), some (.int v3), none, none], [], mkM M) (aPl mkM Q)) (hK68 : ∀ (v4 : Int32) (v5 : Int32) (M : wM), K68 v4 v5 M → aG 226 (68, [some (.ref 0), some (.int z1), some (.int z2), none, some (.int v4), some (.int v5)], [], mkM M) (aPl mkM Q)) (h : wb_X12_identity_68 z1 z2 K47 K68 y4 y5 M Q) : aG 226 (68, [some (.ref 0), some (.int z1), some (.int z2), none, some (.int y4), some (.int y5)], [], mkM M) (aPl mkM Q) := by
  unfold wb_X12_identity_68 at h
  refine aG_n 2 (s' := (72, [some (.ref 0), some (.int z1), some (.int z2), none, some (.int y4), some (.int y5)], [(.int (nI 32)), (.int y5)], mkM M)) rfl ?_
  obtain ⟨h1, h2⟩ := h
  by_cases q14 : (nI 32) ≤ y5
  · have h := h1 q14
    refine aG_icmp (cd := .ge) (b := true) (decide_eq_true q14) rfl ?_
    refine aG_n 2 (s' := (106, [some (.ref 0), some (.int z1), some (.int z2), none, some (.int y4), some (.int y5)], [(.int (-1)), (.int y4)], mkM M)) rfl ?_
    obtain ⟨h1, h2⟩ := h
    by_cases q15 : y4 = (-1)
    · have h := h1 q15
      refine aG_icmp (cd := .eq) (b := true) (decide_eq_true q15) rfl ?_
      refine aG_n 1 (s' := (114, [some (.ref 0), some (.int z1), some (.int z2), none, some (.int y4), some (.int y5)], [(.int (nI 0))], mkM M)) rfl ?_
      refine aG_le (a := [some (.ref 0), some (.int z1), some (.int z2), none, some (.int y4), none]) ⟨rfl, ⟨rfl, ⟨rfl, ⟨rfl, trivial⟩⟩⟩⟩ ?_
      exact wjk_X12_identity_114 hK47 h
    · have h := h2 q15
      refine aG_icmp (cd := .eq) (b := false) (decide_eq_false q15) rfl ?_
      refine aG_n 2 (s' := (114, [some (.ref 0), some (.int z1), some (.int z2), none, some (.int y4), some (.int y5)], [(.int (nI 1))], mkM M)) rfl ?_
      refine aG_le (a := [some (.ref 0), some (.int z1), some (.int z2), none, some (.int y4), none]) ⟨rfl, ⟨rfl, ⟨rfl, ⟨rfl, trivial⟩⟩⟩⟩ ?_
      exact wjk_X12_identity_114 hK47 h
  · have h := h2 q14
    refine aG_icmp (cd := .ge) (b := false) (decide_eq_false q14) rfl ?_
    refine aG_n 4 (s' := (80, [some (.ref 0), some (.int z1), some (.int z2), none, some (.int y4), some (.int y5)], [(.int (nI 1)), (.int (y4 &&& (nI 1)))], mkM M)) rfl ?_
    obtain ⟨h1, h2⟩ := h
    by_cases q18 : (y4 &&& (nI 1)) = (nI 1)
    · have h := h1 q18
      refine aG_icmp (cd := .ne) (b := false) (aTne0 q18) rfl ?_
      refine aG_n 4 (s' := (88, [some (.ref 0), some (.int z1), some (.int z2), none, some (.int y4), some (.int y5)], [(.int (nI 1)), (.int (nI 0)), (.ref 0), (.int y4)], mkM M)) rfl ?_
      refine aG_call rfl rfl (aG_mono (wk_X12_ticks1 h) ?_)
      rintro _ ⟨r19, M20, rfl, h⟩
      refine aG_n 6 (s' := (68, [some (.ref 0), some (.int z1), some (.int z2), none, some (.int (y4 ||| (jshl r19 y5))), some (.int (y5 + (nI 1)))], [], mkM M20)) rfl ?_
      refine aG_le (a := [some (.ref 0), some (.int z1), some (.int z2), none, some (.int (y4 ||| (jshl r19 y5))), some (.int (y5 + (nI 1)))]) ⟨rfl, ⟨rfl, ⟨rfl, ⟨rfl, ⟨rfl, trivial⟩⟩⟩⟩⟩ ?_
      exact hK68 _ _ _ h
    · have h := h2 q18
      refine aG_icmp (cd := .ne) (b := true) (aTne1 q18) rfl ?_
      refine aG_n 2 (s' := (106, [some (.ref 0), some (.int z1), some (.int z2), none, some (.int y4), some (.int y5)], [(.int (-1)), (.int y4)], mkM M)) rfl ?_
      obtain ⟨h1, h2⟩ := h
      by_cases q21 : y4 = (-1)
      · have h := h1 q21
        refine aG_icmp (cd := .eq) (b := true) (decide_eq_true q21) rfl ?_
        refine aG_n 1 (s' := (114, [some (.ref 0), some (.int z1), some (.int z2), none, some (.int y4), some (.int y5)], [(.int (nI 0))], mkM M)) rfl ?_
        refine aG_le (a := [some (.ref 0), some (.int z1), some (.int z2), none, some (.int y4), none]) ⟨rfl, ⟨rfl, ⟨rfl, ⟨rfl, trivial⟩⟩⟩⟩ ?_
        exact wjk_X12_identity_114 hK47 h
      · have h := h2 q21
        refine aG_icmp (cd := .eq) (b := false) (decide_eq_false q21) rfl ?_
        refine aG_n 2 (s' := (114, [some (.ref 0), some (.int z1), some (.int z2), none, some (.int y4), some (.int y5)], [(.int (nI 1))], mkM M)) rfl ?_
        refine aG_le (a := [some (.ref 0), some (.int z1), some (.int z2), none, some (.int y4), none]) ⟨rfl, ⟨rfl, ⟨rfl, ⟨rfl, trivial⟩⟩⟩⟩ ?_
        exact wjk_X12_identity_114 hK47 h
def wL_X12_identity_68 (z1 : Int32) (z2 : Int32) (K47 : Int32 → Int32 → wM → Prop) (Q : Int64 → wM → Prop) : Nat → Int32 → Int32 → wM → Prop
  | 0, _, _, _ => False
  | n + 1, y4, y5, M => wb_X12_identity_68 z1 z2 K47 (wL_X12_identity_68 z1 z2 K47 Q n) y4 y5 M Q
set_option maxRecDepth 20000 in
theorem wLk_X12_identity_68 {z1 : Int32} {z2 : Int32} {K47 : Int32 → Int32 → wM → Prop} {Q : Int64 → wM → Prop} (hK47 : ∀ (v2 : Int32) (v3 : Int32) (M : wM), K47 v2 v3 M → aG 226 (47, [some (.ref 0), some (.int z1), some (.int v2), some (.int v3), none, none], [], mkM M) (aPl mkM Q)) : ∀ (n : Nat) (y4 : Int32) (y5 : Int32) (M : wM), wL_X12_identity_68 z1 z2 K47 Q n y4 y5 M → aG 226 (68, [some (.ref 0), some (.int z1), some (.int z2), none, some (.int y4), some (.int y5)], [], mkM M) (aPl mkM Q)
  | 0, _, _, _, h => h.elim
  | n + 1, y4, y5, M, h => wbk_X12_identity_68 hK47 (fun y4 y5 M h => wLk_X12_identity_68 hK47 n y4 y5 M h) h
def wb_X12_identity_47 (z1 : Int32) (K47 : Int32 → Int32 → wM → Prop) (y2 : Int32) (y3 : Int32) (M : wM) (Q : Int64 → wM → Prop) : Prop := (y3 = (nI 0) → wj_X12_identity_133 z1 y2 M Q) ∧ (¬ y3 = (nI 0) → ((nI 8) ≤ y2 → wj_X12_identity_133 z1 y2 M Q) ∧ (¬ (nI 8) ≤ y2 → w_X12_ticks1 (nI 0) (nI 1) M (fun r12 M13 => ∃ n, wL_X12_identity_68 z1 y2 K47 Q n r12 (nI 1) M13)))
set_option maxRecDepth 20000 in
theorem wbk_X12_identity_47 {z1 : Int32} {K47 : Int32 → Int32 → wM → Prop} {y2 : Int32} {y3 : Int32} {M : wM} {Q : Int64 → wM → Prop} (hK47 : ∀ (v2 : Int32) (v3 : Int32) (M : wM), K47 v2 v3 M → aG 226 (47, [some (.ref 0), some (.int z1), some (.int v2), some (.int v3), none, none], [], mkM M) (aPl mkM Q)) (h : wb_X12_identity_47 z1 K47 y2 y3 M Q) : aG 226 (47, [some (.ref 0), some (.int z1), some (.int y2), some (.int y3), none, none], [], mkM M) (aPl mkM Q) := by
  unfold wb_X12_identity_47 at h
  refine aG_n 1 (s' := (48, [some (.ref 0), some (.int z1), some (.int y2), some (.int y3), none, none], [(.int y3)], mkM M)) rfl ?_
  obtain ⟨h1, h2⟩ := h
  by_cases q7 : y3 = (nI 0)
  · have h := h1 q7
    refine aG_if (cd := .eq) (b := true) (decide_eq_true q7) rfl ?_
    refine aG_n 0 (s' := (133, [some (.ref 0), some (.int z1), some (.int y2), some (.int y3), none, none], [], mkM M)) rfl ?_
    refine aG_le (a := [some (.ref 0), some (.int z1), some (.int y2), none, none, none]) ⟨rfl, ⟨rfl, ⟨rfl, trivial⟩⟩⟩ ?_
    exact wjk_X12_identity_133 h
  · have h := h2 q7
    refine aG_if (cd := .eq) (b := false) (decide_eq_false q7) rfl ?_
    refine aG_n 2 (s' := (54, [some (.ref 0), some (.int z1), some (.int y2), some (.int y3), none, none], [(.int (nI 8)), (.int y2)], mkM M)) rfl ?_
    obtain ⟨h1, h2⟩ := h
    by_cases q11 : (nI 8) ≤ y2
    · have h := h1 q11
      refine aG_icmp (cd := .ge) (b := true) (decide_eq_true q11) rfl ?_
      refine aG_n 0 (s' := (133, [some (.ref 0), some (.int z1), some (.int y2), some (.int y3), none, none], [], mkM M)) rfl ?_
      refine aG_le (a := [some (.ref 0), some (.int z1), some (.int y2), none, none, none]) ⟨rfl, ⟨rfl, ⟨rfl, trivial⟩⟩⟩ ?_
      exact wjk_X12_identity_133 h
    · have h := h2 q11
      refine aG_icmp (cd := .ge) (b := false) (decide_eq_false q11) rfl ?_
      refine aG_n 3 (s' := (60, [some (.ref 0), some (.int z1), some (.int y2), some (.int y3), none, none], [(.int (nI 1)), (.int (nI 0)), (.ref 0)], mkM M)) rfl ?_
      refine aG_call rfl rfl (aG_mono (wk_X12_ticks1 h) ?_)
      rintro _ ⟨r12, M13, rfl, h⟩
      refine aG_n 3 (s' := (68, [some (.ref 0), some (.int z1), some (.int y2), some (.int y3), some (.int r12), some (.int (nI 1))], [], mkM M13)) rfl ?_
      refine aG_le (a := [some (.ref 0), some (.int z1), some (.int y2), none, some (.int r12), some (.int (nI 1))]) ⟨rfl, ⟨rfl, ⟨rfl, ⟨rfl, ⟨rfl, trivial⟩⟩⟩⟩⟩ ?_
      obtain ⟨n, h⟩ := h
      exact wLk_X12_identity_68 hK47 n _ _ _ h
def wL_X12_identity_47 (z1 : Int32) (Q : Int64 → wM → Prop) : Nat → Int32 → Int32 → wM → Prop
  | 0, _, _, _ => False
  | n + 1, y2, y3, M => wb_X12_identity_47 z1 (wL_X12_identity_47 z1 Q n) y2 y3 M Q
set_option maxRecDepth 20000 in
theorem wLk_X12_identity_47 {z1 : Int32} {Q : Int64 → wM → Prop} : ∀ (n : Nat) (y2 : Int32) (y3 : Int32) (M : wM), wL_X12_identity_47 z1 Q n y2 y3 M → aG 226 (47, [some (.ref 0), some (.int z1), some (.int y2), some (.int y3), none, none], [], mkM M) (aPl mkM Q)
  | 0, _, _, _, h => h.elim
  | n + 1, y2, y3, M, h => wbk_X12_identity_47 (fun y2 y3 M h => wLk_X12_identity_47 n y2 y3 M h) h
def wj_X12_identity_22 (z1 : Int32) (M : wM) (Q : Int64 → wM → Prop) : Prop := ((gi M 0 22) = (nI 0) → Q (-2) M) ∧ (¬ (gi M 0 22) = (nI 0) → w_X12_fiveUp M (fun M4 => w_X12_goesTo (nI 4) M4 (fun r5 M6 => ∃ n, wL_X12_identity_47 z1 Q n (nI 0) (nI 1) M6)))
set_option maxRecDepth 20000 in
theorem wjk_X12_identity_22 {z1 : Int32} {M : wM} {Q : Int64 → wM → Prop} (h : wj_X12_identity_22 z1 M Q) : aG 226 (22, [some (.ref 0), some (.int z1), none, none, none, none], [], mkM M) (aPl mkM Q) := by
  unfold wj_X12_identity_22 at h
  refine aG_n 2 (s' := (26, [some (.ref 0), some (.int z1), none, none, none, none], [(.int (gi M 0 22))], mkM M)) rfl ?_
  obtain ⟨h1, h2⟩ := h
  by_cases q2 : (gi M 0 22) = (nI 0)
  · have h := h1 q2
    refine aG_if (cd := .ne) (b := false) (aTne0 q2) rfl ?_
    refine aG_n 1 (s' := (32, [some (.ref 0), some (.int z1), none, none, none, none], [(.long (-2))], mkM M)) rfl ?_
    exact aG_retL rfl rfl ⟨_, _, rfl, h⟩
  · have h := h2 q2
    refine aG_if (cd := .ne) (b := true) (aTne1 q2) rfl ?_
    refine aG_n 1 (s' := (34, [some (.ref 0), some (.int z1), none, none, none, none], [(.ref 0)], mkM M)) rfl ?_
    refine aG_call rfl rfl (aG_mono (wk_X12_fiveUp h) ?_)
    rintro _ ⟨M4, rfl, h⟩
    refine aG_n 2 (s' := (39, [some (.ref 0), some (.int z1), none, none, none, none], [(.int (nI 4)), (.ref 0)], mkM M4)) rfl ?_
    refine aG_call rfl rfl (aG_mono (wk_X12_goesTo h) ?_)
    rintro _ ⟨r5, M6, rfl, h⟩
    refine aG_n 5 (s' := (47, [some (.ref 0), some (.int z1), some (.int (nI 0)), some (.int (nI 1)), none, none], [], mkM M6)) rfl ?_
    refine aG_le (a := [some (.ref 0), some (.int z1), some (.int (nI 0)), some (.int (nI 1)), none, none]) ⟨rfl, ⟨rfl, ⟨rfl, ⟨rfl, trivial⟩⟩⟩⟩ ?_
    obtain ⟨n, h⟩ := h
    exact wLk_X12_identity_47 n _ _ _ h
def w_X12_identity (x1 : Int32) (M : wM) (Q : Int64 → wM → Prop) : Prop := (x1 = (-4) → wj_X12_identity_22 x1 M Q) ∧ (¬ x1 = (-4) → w_X12_in x1.toInt64 (lN 0) (lN 7) M (fun r22 M23 => (r22 = (nI 0) → Q (-1) M23) ∧ (¬ r22 = (nI 0) → wj_X12_identity_22 x1 M23 Q)))
set_option maxRecDepth 20000 in
theorem wk_X12_identity {x1 : Int32} {M : wM} {Q : Int64 → wM → Prop} (h : w_X12_identity x1 M Q) : aG 226 (aEn 226 [(.ref 0), (.int x1)] (mkM M)) (aPl mkM Q) := by
  unfold w_X12_identity at h
  refine aG_n 2 (s' := (3, [some (.ref 0), some (.int x1), none, none, none, none], [(.int (-4)), (.int x1)], mkM M)) rfl ?_
  obtain ⟨h1, h2⟩ := h
  by_cases q1 : x1 = (-4)
  · have h := h1 q1
    refine aG_icmp (cd := .eq) (b := true) (decide_eq_true q1) rfl ?_
    refine aG_n 0 (s' := (22, [some (.ref 0), some (.int x1), none, none, none, none], [], mkM M)) rfl ?_
    refine aG_le (a := [some (.ref 0), some (.int x1), none, none, none, none]) ⟨rfl, ⟨rfl, trivial⟩⟩ ?_
    exact wjk_X12_identity_22 h
  · have h := h2 q1
    refine aG_icmp (cd := .eq) (b := false) (decide_eq_false q1) rfl ?_
    refine aG_n 4 (s' := (12, [some (.ref 0), some (.int x1), none, none, none, none], [(.long (lN 7)), (.long (lN 0)), (.long x1.toInt64)], mkM M)) rfl ?_
    refine aG_call rfl rfl (aG_mono (wk_X12_in h) ?_)
    rintro _ ⟨r22, M23, rfl, h⟩
    refine aG_n 0 (s' := (15, [some (.ref 0), some (.int x1), none, none, none, none], [(.int r22)], mkM M23)) rfl ?_
    obtain ⟨h1, h2⟩ := h
    by_cases q24 : r22 = (nI 0)
    · have h := h1 q24
      refine aG_if (cd := .ne) (b := false) (aTne0 q24) rfl ?_
      refine aG_n 1 (s' := (21, [some (.ref 0), some (.int x1), none, none, none, none], [(.long (-1))], mkM M23)) rfl ?_
      exact aG_retL rfl rfl ⟨_, _, rfl, h⟩
    · have h := h2 q24
      refine aG_if (cd := .ne) (b := true) (aTne1 q24) rfl ?_
      refine aG_n 0 (s' := (22, [some (.ref 0), some (.int x1), none, none, none, none], [], mkM M23)) rfl ?_
      refine aG_le (a := [some (.ref 0), some (.int x1), none, none, none, none]) ⟨rfl, ⟨rfl, trivial⟩⟩ ?_
      exact wjk_X12_identity_22 h
