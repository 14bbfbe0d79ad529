/-! the rows of a test -/
def cB (r i : Nat) : Bool := (i + 1).testBit r
def rowV (s nn r : Nat) : Nat := if s = 2 then 2 ^ r else if r < wd nn then bld (cB r) nn else 2 ^ nn - 1 - bld (cB (r - wd nn)) nn
theorem wd_pos (n : Nat) : 0 < wd n := by
  unfold wd
  split <;> (try split) <;> (try split) <;> omega
theorem rc_le {s n : Nat} (hs : s < 3) (hn : n ≤ 8) : rc s n ≤ 8 := by
  have := wd_le n
  unfold rc
  split <;> (try split) <;> omega
theorem rowV_lt {s nn r : Nat} (hs : s < 3) (hr : r < rc s nn) : rowV s nn r < 2 ^ nn := by
  have h1 : 1 ≤ 2 ^ nn := Nat.one_le_two_pow
  unfold rowV
  split
  · rename_i z
    subst z
    exact Nat.pow_lt_pow_right (by decide) hr
  · split
    · exact bld_lt _ _
    · omega
theorem cntX {M : wM} {nn r : Nat} {Q : Int32 → wM → Prop} (h8 : nn ≤ 8) (hr : r < 8) (e : gi M 12 0 = nI nn) (q : Q (nI (bld (cB r) nn)) M) : w_X10_countingRow (nI r) M Q := by
  refine lo2 (fun K y2 y3 M => wb_X10_countingRow_4 (nI r) K y2 y3 M Q) (fun _ _ _ _ => rfl) nn (fun i y M' => M' = M ∧ y = nI (bld (cB r) i)) ?_ ?_ (Nat.zero_le _) ⟨rfl, rfl⟩
  · rintro i y M' K hi ⟨rfl, rfl⟩ kk
    unfold wb_X10_countingRow_4
    rw [e, nI_add]
    refine bf (nI_ge hi (by omega)) (bit_w (by omega) (by omega) (kk _ _ ⟨rfl, bld_or (f := cB r) (by omega)⟩))
  · rintro y M' K ⟨rfl, rfl⟩
    unfold wb_X10_countingRow_4
    rw [e]
    exact bt (nI_le (by omega) (by omega)) q
theorem andn_sub {x n : Nat} (h : n ≤ 8) (hx : x < 2 ^ n) : (2 ^ 32 - 1 - x) &&& (2 ^ n - 1) = 2 ^ n - 1 - x := by
  have h8 := p8 h
  apply Nat.eq_of_testBit_eq
  intro i
  rw [Nat.testBit_and, tbCm (by omega), Nat.testBit_two_pow_sub_one, show 2 ^ n - 1 - x = 2 ^ n - (x + 1) by omega, Nat.testBit_two_pow_sub_succ hx]
  by_cases z : i < n
  · rw [decide_eq_true z, decide_eq_true (show i < 32 by omega)]
    cases x.testBit i <;> rfl
  · rw [decide_eq_false z]
    cases decide (i < 32) <;> cases x.testBit i <;> rfl
theorem tstrX {M : wM} {s nn r : Nat} {Q : Int32 → wM → Prop} (hs : s < 3) (h8 : nn ≤ 8) (hr : r < rc s nn) (e : gi M 12 0 = nI nn) (q : Q (nI (rowV s nn r)) M) : w_X10_testRow (nI s) (nI r) M Q := by
  have r8 := rc_le hs h8
  have w4 := wd_le nn
  have b8 := p8 h8
  unfold w_X10_testRow
  by_cases z : s = 2
  · subst z
    rw [show rowV 2 nn r = 2 ^ r from if_pos rfl] at q
    rw [bshl1 (by omega)]
    exact bf (by decide) (bf (by decide) q)
  · have w : wj_X10_testRow_13 (nI r) M Q := by
      unfold wj_X10_testRow_13
      refine widX h8 e ?_
      unfold rowV at q
      rw [if_neg z] at q
      by_cases y : r < wd nn
      · rw [if_pos y] at q
        exact bf (nI_ge y (by omega)) (cntX h8 (by omega) e q)
      · rw [if_neg y] at q
        refine bt (nI_le (by omega) (by omega)) ?_
        rw [pk_sub (by omega)]
        refine cntX h8 (by omega) e ?_
        have hb := bld_lt (cB (r - wd nn)) nn
        have h1 : 1 ≤ 2 ^ nn := Nat.one_le_two_pow
        rw [e, bshl1 (by omega), pk_sub h1, nI_not (by omega), nI_and (by omega) (by omega), andn_sub h8 hb]
        exact q
    rcases (show s = 0 ∨ s = 1 by omega) with rfl | rfl
    · exact bt rfl w
    · exact bf (by decide) (bt rfl w)
theorem rowAtM {M : wM} {s nn r : Nat} {Q : Int32 → wM → Prop} (hs : s < 3) (h8 : nn ≤ 8) (hr : r < rc s nn) (e : gi M 0 41 = nI nn) (q : Q (nI (rowV s nn r)) M) : w_X12_rowAt (nI s) (nI r) M Q := by
  have r8 := rc_le hs h8
  have w4 := wd_le nn
  have w0 := wd_pos nn
  have b8 := p8 h8
  unfold w_X12_rowAt
  by_cases z : s = 2
  · subst z
    rw [show rowV 2 nn r = 2 ^ r from if_pos rfl] at q
    rw [bshl1 (by omega)]
    exact bt rfl q
  · refine bf (fun y => z (inj31 y (by omega) (by decide))) (widM h8 e ?_)
    have hr2 : r < 2 * wd nn := by
      unfold rc at hr
      rcases (show s = 0 ∨ s = 1 by omega) with rfl | rfl
      · rw [if_pos rfl] at hr; omega
      · rw [if_neg (by decide), if_pos rfl] at hr; exact hr
    refine lo2 (fun K y4 y5 M => wb_X12_rowAt_20 (nI r) (nI (wd nn)) K y4 y5 M Q) (fun _ _ _ _ => rfl) nn (fun i y M' => M' = M ∧ y = nI (bld (cB (r % wd nn)) i)) ?_ ?_ (Nat.zero_le _) ⟨rfl, rfl⟩
    · rintro i y M' K hi ⟨rfl, rfl⟩ kk
      have hmod := Nat.mod_lt r w0
      unfold wb_X12_rowAt_20
      rw [e, pk_rem (by omega) w0 (by omega), nI_add, bitM (by omega) (by omega)]
      exact bf (nI_ge hi (by omega)) ⟨fun y => by have := inj31 (b := 0) y (by omega) (by decide); omega, kk _ _ ⟨rfl, bld_or (f := cB (r % wd nn)) (by omega)⟩⟩
    · rintro y M' K ⟨rfl, rfl⟩
      have hb := bld_lt (cB (r % wd nn)) nn
      have h1 : 1 ≤ 2 ^ nn := Nat.one_le_two_pow
      unfold wb_X12_rowAt_20
      rw [e]
      unfold rowV at q
      rw [if_neg z] at q
      refine bt (nI_le (by omega) (by omega)) ?_
      by_cases y : r < wd nn
      · rw [if_pos y] at q
        rw [Nat.mod_eq_of_lt y]
        exact bf (nI_ge y (by omega)) q
      · rw [if_neg y] at q
        rw [show r % wd nn = r - wd nn by rw [Nat.mod_eq_sub_mod (by omega), Nat.mod_eq_of_lt (by omega)]] at hb ⊢
        rw [bshl1 (by omega), pk_sub h1, pk_sub (by omega)]
        exact bt (nI_le (by omega) (by omega)) q
/-- what a net answers, in the reference -/
theorem ansM {M : wM} {s nn n mk r : Nat} {Q : Int32 → wM → Prop} (hs : s < 3) (h8 : nn ≤ 8) (hn : n < nn) (e : gi M 0 41 = nI nn) (e1 : gi M 29 n = nI mk) (e2 : gi M 30 n = nI (md r)) (hm : mk < 256) (hr : r < 4) (q : Q (nI (bld (fun t => upB mk r (rowV s nn t)) (rc s nn))) M) : w_X12_answerNow (nI s) (nI n) M Q := by
  have r8 := rc_le hs h8
  have b8 := p8 h8
  have v8 : vp_in (nI n) 8 := vp_in_nI (by omega) (by decide)
  refine lo2 (fun K y3 y4 M => wb_X12_answerNow_5 (nI s) (nI n) K y3 y4 M Q) (fun _ _ _ _ => rfl) (rc s nn) (fun i y M' => M' = M ∧ y = nI (bld (fun t => upB mk r (rowV s nn t)) i)) ?_ ?_ (Nat.zero_le _) ⟨rfl, rfl⟩
  · rintro i y M' K hi ⟨rfl, rfl⟩ kk
    have hrow := rowV_lt hs hi
    unfold wb_X12_answerNow_5
    refine rcM hs h8 e (bf (nI_ge hi (by omega)) ⟨v8, v8, rowAtM hs h8 hi e ?_⟩)
    rw [nI_clamp (n := n) (by omega), e1, e2, nI_add]
    exact levelByM (by omega) hm hr (kk _ _ ⟨rfl, bld_or (f := fun t => upB mk r (rowV s nn t)) (by omega)⟩)
  · rintro y M' K ⟨rfl, rfl⟩
    unfold wb_X12_answerNow_5
    exact rcM hs h8 e (bt (nI_le (by omega) (by omega)) q)
