/-! what the feet drive -/
theorem tbCm {u i : Nat} (hu : u < 2 ^ 32) : (2 ^ 32 - 1 - u).testBit i = (decide (i < 32) && !u.testBit i) := by
  rw [show 2 ^ 32 - 1 - u = 2 ^ 32 - (u + 1) by omega]
  exact Nat.testBit_two_pow_sub_succ hu i
theorem andn_bit {a u i : Nat} (ha : a < 2 ^ 32) (hu : u < 2 ^ 32) : (a &&& (2 ^ 32 - 1 - u)).testBit i = (a.testBit i && !u.testBit i) := by
  rw [Nat.testBit_and, tbCm hu]
  by_cases z : i < 32
  · rw [decide_eq_true z, Bool.true_and]
  · rw [Nat.testBit_lt_two_pow (Nat.lt_of_lt_of_le ha (Nat.pow_le_pow_right (by decide) (by omega))), Bool.false_and, Bool.false_and]
theorem bI_and (a b : Bool) : bI a &&& bI b = bI (a && b) := by cases a <;> cases b <;> decide
theorem bI_c {b : Bool} {A B : Prop} (t : b = true → A) (f : b = false → B) : (bI b = nI 1 → A) ∧ (¬ bI b = nI 1 → B) := by
  cases b
  · exact ⟨fun z => absurd z (by decide), fun _ => f rfl⟩
  · exact ⟨fun _ => t rfl, fun z => absurd rfl z⟩
theorem bI_c0 {b : Bool} {A B : Prop} (f : b = false → A) (t : b = true → B) : (bI b = nI 0 → A) ∧ (¬ bI b = nI 0 → B) := by
  cases b
  · exact ⟨fun _ => f rfl, fun z => absurd rfl z⟩
  · exact ⟨fun z => absurd z (by decide), fun _ => t rfl⟩
def drB (X : wM) (c i : Nat) : Bool := decide (xR X c = 3) && (xT X c).testBit i
def lowB (X : wM) (c i : Nat) : Bool := (xO X c).testBit i && (!(xU X c).testBit i && !(drB X c i))
def cellOk (X : wM) (j c i : Nat) : Bool := !(lowB X c i && decide (gi X (36 + 3 * c) i = nI j))
def ownB (X : wM) (nc j : Nat) : Bool := allB (fun c => allB (cellOk X j c) 10) nc
theorem allB_more {f : Nat → Bool} {n : Nat} : ∀ d, (∀ i, n ≤ i → i < n + d → f i = true) → allB f (n + d) = allB f n
  | 0, _ => rfl
  | d + 1, h => by
    show (allB f (n + d) && f (n + d)) = _
    rw [h (n + d) (by omega) (by omega), Bool.and_true, allB_more d (fun i h1 h2 => h i h1 (by omega))]
theorem allB_congr {f g : Nat → Bool} : ∀ n, (∀ i, i < n → f i = g i) → allB f n = allB g n
  | 0, _ => rfl
  | n + 1, h => by
    show (allB f n && f n) = (allB g n && g n)
    rw [h n (by omega), allB_congr n (fun i hi => h i (by omega))]
section OWN
variable {X M : wM} {nn nc c i j : Nat} {Q : Int32 → wM → Prop}
theorem cf_b (h : CF X M nn c) : xO X c < 1024 ∧ xU X c < 1024 ∧ xT X c < 1024 ∧ xC X c < 1024 ∧ xN X c ≤ 10 ∧ xR X c < 4 ∧ xP X c < 6 := by
  obtain ⟨cP, pr, cr, -⟩ := h
  obtain ⟨r0, r1, r2, r3, r4, r5, r6, r7, r8⟩ := cr
  have := p10 r0.2.2.1
  exact ⟨by have := r0.2.2.2; omega, by omega, by omega, by omega, r0.2.2.1, r1, cP.1⟩
theorem isOutM (h : CF X M nn c) (hc : c < 6) (hi : i < 10) (q : Q (bI ((xO X c).testBit i)) M) : w_X12_isOut (nI c) (nI i) M Q := by
  have b := cf_b h
  obtain ⟨cP, pr, cr, cL, cN, cO, cI, cR, cW, cT, cU, cB, cD, cC, cA⟩ := h
  unfold w_X12_isOut
  rw [nI_clamp (n := c) (by omega), cP.2.2.2, nI_clamp (n := xP X c) (by omega), cO.2, bitM (by omega) (by omega)]
  exact ⟨vp_in_nI hc (by decide), vp_in_nI cP.1 (by decide), bI_c (fun z => by rw [z] at q; exact q) (fun z => by rw [z] at q; exact q)⟩
theorem isOpenM (h : CF X M nn c) (hc : c < 6) (hi : i < 10) (q : Q (bI ((xU X c).testBit i)) M) : w_X12_isOpen (nI c) (nI i) M Q := by
  have b := cf_b h
  obtain ⟨cP, pr, cr, cL, cN, cO, cI, cR, cW, cT, cU, cB, cD, cC, cA⟩ := h
  unfold w_X12_isOpen
  rw [nI_clamp (n := c) (by omega), cU.2, bitM (by omega) (by omega)]
  exact ⟨vp_in_nI hc (by decide), bI_c (fun z => by rw [z] at q; exact q) (fun z => by rw [z] at q; exact q)⟩
theorem drivesM (h : CF X M nn c) (hc : c < 6) (hi : i < 10) (q : Q (bI (drB X c i)) M) : w_X12_drives (nI c) (nI i) M Q := by
  have b := cf_b h
  obtain ⟨cP, pr, cr, cL, cN, cO, cI, cR, cW, cT, cU, cB, cD, cC, cA⟩ := h
  have v6 : vp_in (nI c) 6 := vp_in_nI hc (by decide)
  unfold w_X12_drives
  rw [nI_clamp (n := c) (by omega), cT.2, cR.2, bitM (by omega) (by omega)]
  unfold drB at q
  by_cases z : xR X c = 3
  · rw [decide_eq_true z, Bool.true_and] at q
    exact ⟨v6, bt (by rw [z]) ⟨v6, q⟩⟩
  · rw [decide_eq_false z, Bool.false_and] at q
    exact ⟨v6, bf (fun y => z (inj31 y (by omega) (by decide))) q⟩
theorem ownM (hn : nc ≤ 6) (e : gi M 0 22 = nI nc) (hc : ∀ c, c < nc → CF X M nn c) (q : Q (bI (ownB X nc j)) M) : w_X12_ownOf (nI j) M Q := by
  have e10 : ∀ c, c < nc → allB (cellOk X j c) 10 = allB (cellOk X j c) (xN X c) := by
    intro c hcc
    have b := cf_b (hc c hcc)
    have := allB_more (f := cellOk X j c) (n := xN X c) (10 - xN X c) (fun i h1 h2 => by
      unfold cellOk lowB
      rw [Nat.testBit_lt_two_pow (Nat.lt_of_lt_of_le (hc c hcc).2.1.2.2.2.1 (Nat.pow_le_pow_right (by decide) h1)), Bool.false_and, Bool.false_and]
      rfl)
    rw [show xN X c + (10 - xN X c) = 10 by omega] at this
    exact this
  have eo : ownB X nc j = allB (fun c => allB (cellOk X j c) (xN X c)) nc := allB_congr nc e10
  rw [eo] at q
  refine lo2 (fun K y2 y3 M => wb_X12_ownOf_4 (nI j) K y2 y3 M Q) (fun _ _ _ _ => rfl) nc (fun c y M' => M' = M ∧ y = bI (allB (fun c => allB (cellOk X j c) (xN X c)) c)) ?_ ?_ (Nat.zero_le _) ⟨rfl, rfl⟩
  · rintro c y M' K hcc ⟨rfl, rfl⟩ kk
    have h := hc c hcc
    have b := cf_b h
    obtain ⟨cP, pr, cr, cL, cN, cO, cI, cR, cW, cT, cU, cB, cD, cC, cA⟩ := id h
    unfold wb_X12_ownOf_4
    rw [e]
    refine bf (nI_ge hcc (by omega)) ?_
    refine lo2 (fun K' y2 y4 M => wb_X12_ownOf_15 (nI j) (nI c) K K' y2 y4 M Q) (fun _ _ _ _ => rfl) (xN X c) (fun i y M2 => M2 = M' ∧ y = bI (allB (fun c => allB (cellOk X j c) (xN X c)) c && allB (cellOk X j c) i)) ?_ ?_ (Nat.zero_le _) ⟨rfl, by rw [show allB (cellOk X j c) 0 = true from rfl, Bool.and_true]⟩
    · rintro i y M2 K2 hi ⟨rfl, rfl⟩ kk2
      have ea : (allB (fun c => allB (cellOk X j c) (xN X c)) c && allB (cellOk X j c) (i + 1)) = ((allB (fun c => allB (cellOk X j c) (xN X c)) c && allB (cellOk X j c) i) && cellOk X j c i) := by
        rw [Bool.and_assoc]; rfl
      unfold wb_X12_ownOf_15
      rw [nI_mul, nI_add, nI_add, nI_add, nI_clamp (n := c) (by omega), cP.2.2.2, nI_clamp (n := xP X c) (by omega), cN.2, nI_clamp (n := 10 * c + i) (by omega), (cA i (by omega)).1]
      refine ⟨vp_in_nI (by omega) (by decide), vp_in_nI cP.1 (by decide), bf (nI_ge hi (by omega)) ⟨vp_in_nI (by omega) (by decide), bc (fun z => ?_) (fun z => kk2 _ _ ⟨rfl, ?_⟩)⟩⟩
      · refine isOutM h (by omega) (by omega) (bI_c0 (fun z1 => kk2 _ _ ⟨rfl, ?_⟩) (fun z1 => isOpenM h (by omega) (by omega) (bI_c0 (fun z2 => drivesM h (by omega) (by omega) (kk2 _ _ ⟨rfl, ?_⟩)) (fun z2 => kk2 _ _ ⟨rfl, ?_⟩))))
        · rw [ea, show cellOk X j c i = true by unfold cellOk lowB; rw [z1]; rfl, Bool.and_true]
        · rw [ea, bI_and, show cellOk X j c i = drB X c i by unfold cellOk lowB; rw [z1, z2, decide_eq_true z]; cases drB X c i <;> rfl]
        · rw [ea, show cellOk X j c i = true by unfold cellOk lowB; rw [z1, z2]; rfl, Bool.and_true]
      · rw [ea, show cellOk X j c i = true by unfold cellOk; rw [decide_eq_false z, Bool.and_false]; rfl, Bool.and_true]
    · rintro y M2 K2 ⟨rfl, rfl⟩
      unfold wb_X12_ownOf_15
      rw [nI_add, nI_clamp (n := c) (by omega), cP.2.2.2, nI_clamp (n := xP X c) (by omega), cN.2]
      exact ⟨vp_in_nI (by omega) (by decide), vp_in_nI cP.1 (by decide), bt (nI_le (by omega) (by omega)) (kk _ _ ⟨rfl, rfl⟩)⟩
  · rintro y M' K ⟨rfl, rfl⟩
    unfold wb_X12_ownOf_4
    rw [e]
    exact bt (nI_le (by omega) (by omega)) q
theorem allOwnM (hn : nc ≤ 6) (h8 : nn ≤ 8) (e : gi M 0 22 = nI nc) (e2 : gi M 0 41 = nI nn) (hc : ∀ c, c < nc → CF X M nn c) (q : Q (nI (bld (ownB X nc) nn)) M) : w_X12_allOwn M Q := by
  refine lo2 (fun K y1 y2 M => wb_X12_allOwn_4 K y1 y2 M Q) (fun _ _ _ _ => rfl) nn (fun i y M' => M' = M ∧ y = nI (bld (ownB X nc) i)) ?_ ?_ (Nat.zero_le _) ⟨rfl, rfl⟩
  · rintro i y M' K hi ⟨rfl, rfl⟩ kk
    unfold wb_X12_allOwn_4
    rw [e2, nI_add]
    exact bf (nI_ge hi (by omega)) (ownM hn e hc (kk _ _ ⟨rfl, bld_or (by omega)⟩))
  · rintro y M' K ⟨rfl, rfl⟩
    unfold wb_X12_allOwn_4
    rw [e2]
    exact bt (nI_le (by omega) (by omega)) q
/-- what an extest drives: 1 -/
def dvN (X : wM) (c : Nat) : Nat := if xR X c = 3 then xT X c &&& (2 ^ 32 - 1 - xU X c) else 0
theorem dvN_bit (h : CF X M nn c) : (dvN X c).testBit i = (drB X c i && !(xU X c).testBit i) := by
  have b := cf_b h
  unfold dvN drB
  by_cases z : xR X c = 3
  · rw [if_pos z, decide_eq_true z, Bool.true_and, andn_bit (by omega) (by omega)]
  · rw [if_neg z, decide_eq_false z, Bool.false_and, Bool.false_and, Nat.zero_testBit]
theorem dvN_lt (h : CF X M nn c) : dvN X c < 1024 := by
  have b := cf_b h
  unfold dvN
  split
  · exact Nat.lt_of_le_of_lt Nat.and_le_left b.2.2.1
  · decide
theorem drivenX (h : CF X M nn c) (hc : c < 6) (q : Q (nI (dvN X c)) X) : w_X1_driven c X Q := by
  have b := cf_b h
  obtain ⟨cP, pr, cr, cL, cN, cO, cI, cR, cW, cT, cU, cB, cD, cC, cA⟩ := id h
  unfold w_X1_driven
  rw [cR.1, cT.1, cU.1, nI_andn (by omega) (by omega)]
  unfold dvN at q
  by_cases z : xR X c = 3
  · rw [if_pos z] at q
    exact ⟨hc, bt (by rw [z]) q⟩
  · rw [if_neg z] at q
    exact ⟨hc, bf (fun y => z (inj31 y (by omega) (by decide))) q⟩
theorem net_ex (h8 : nn ≤ 8) (h : CF X M nn c) (hi : i < 10) (z : ¬ gi X (36 + 3 * c) i = -4) : ∃ k : Nat, k < nn ∧ i < xN X c ∧ gi X (36 + 3 * c) i = nI k := by
  rcases (h.2.2.2.2.2.2.2.2.2.2.2.2.2.2 i hi).2 with y | ⟨k, k1, k2, k3⟩
  · exact absurd y z
  · exact ⟨k, k1, k2, k3⟩
theorem lowX (h8 : nn ≤ 8) (h : CF X M nn c) (hc : c < 6) (q : ∀ v, v < 256 → (∀ j, j < 8 → v.testBit j = !(allB (cellOk X j c) 10)) → Q (nI v) X) : w_X1_lowered c X Q := by
  have b := cf_b h
  have dl := dvN_lt h
  obtain ⟨cP, pr, cr, cL, cN, cO, cI, cR, cW, cT, cU, cB, cD, cC, cA⟩ := id h
  refine ⟨hc, by rw [cP.2.1]; exact pt_part _ cP.1, drivenX h hc ?_⟩
  have al : xO X c &&& (2 ^ 32 - 1 - xU X c) < 1024 := Nat.lt_of_le_of_lt Nat.and_le_left b.1
  have bl : (xO X c &&& (2 ^ 32 - 1 - xU X c)) &&& (2 ^ 32 - 1 - dvN X c) < 1024 := Nat.lt_of_le_of_lt Nat.and_le_left al
  rw [cO.1, cU.1, nI_andn (by omega) (by omega), nI_andn (by omega) (by omega)]
  have tb : ∀ i, ((xO X c &&& (2 ^ 32 - 1 - xU X c)) &&& (2 ^ 32 - 1 - dvN X c)).testBit i = lowB X c i := by
    intro i
    rw [andn_bit (by omega) (by omega), andn_bit (by omega) (by omega), dvN_bit h]
    unfold lowB
    cases (xO X c).testBit i <;> cases (xU X c).testBit i <;> cases drB X c i <;> rfl
  refine lo2 (fun K y2 y3 M => wb_X1_lowered_26 c (nI ((xO X c &&& (2 ^ 32 - 1 - xU X c)) &&& (2 ^ 32 - 1 - dvN X c))) K y2 y3 M Q) (fun _ _ _ _ => rfl) 10 (fun i y M' => M' = X ∧ ∃ v, y = nI v ∧ v < 256 ∧ ∀ j, j < 8 → v.testBit j = !(allB (cellOk X j c) i)) ?_ ?_ (Nat.zero_le _) ⟨rfl, 0, rfl, by decide, fun j _ => Nat.zero_testBit j⟩
  · rintro i y M' K hi ⟨rfl, v, rfl, v8, hv⟩ kk
    unfold wb_X1_lowered_26
    refine bf (nI_ge hi (by omega)) (bit_w (by omega) (by omega) ?_)
    rw [tb, nI_add, nI_clamp (n := i) (by omega)]
    have v10 : vp_in (nI i) 10 := vp_in_nI hi (by decide)
    refine bI_c (fun z => ⟨v10, bc (fun w => kk _ _ ⟨rfl, v, rfl, v8, fun j hj => ?_⟩) (fun w => ⟨v10, ?_⟩)⟩) (fun z => kk _ _ ⟨rfl, v, rfl, v8, fun j hj => ?_⟩)
    · show _ = !(allB (cellOk M' j c) i && cellOk M' j c i)
      rw [show cellOk M' j c i = true by unfold cellOk; rw [w, decide_eq_false (fun y => n4_ne (by omega) y.symm), Bool.and_false]; rfl, Bool.and_true]
      exact hv j hj
    · obtain ⟨k, k1, k2, k3⟩ := net_ex h8 h hi w
      have k256 : 2 ^ k < 256 := Nat.lt_of_lt_of_le (Nat.pow_lt_pow_right (by decide) (show k < 8 by omega)) (by decide)
      rw [k3, bshl1 (by omega), nI_or (by omega) (by omega)]
      refine kk _ _ ⟨rfl, _, rfl, Nat.or_lt_two_pow (n := 8) v8 k256, fun j hj => ?_⟩
      show _ = !(allB (cellOk M' j c) i && cellOk M' j c i)
      rw [Nat.testBit_or, hv j hj, Nat.testBit_two_pow]
      unfold cellOk
      rw [z, k3]
      by_cases y : k = j
      · rw [decide_eq_true y, y, decide_eq_true rfl, Bool.or_true]
        show true = !(_ && false)
        rw [Bool.and_false]; rfl
      · rw [decide_eq_false y, decide_eq_false (fun x => y (inj31 x (by omega) (by omega))), Bool.or_false]
        show _ = !(_ && true)
        rw [Bool.and_true]
    · show _ = !(allB (cellOk M' j c) i && cellOk M' j c i)
      rw [show cellOk M' j c i = true by unfold cellOk; rw [z]; rfl, Bool.and_true]
      exact hv j hj
  · rintro y M' K ⟨rfl, v, rfl, v8, hv⟩
    unfold wb_X1_lowered_26
    exact bt (nI_le (by omega) (by omega)) (q v v8 hv)
theorem bits_eq {v w n : Nat} (hv : v < 2 ^ n) (hw : w < 2 ^ n) (h : ∀ j, j < n → v.testBit j = w.testBit j) : v = w := by
  apply Nat.eq_of_testBit_eq
  intro i
  rcases Nat.lt_or_ge i n with z | z
  · exact h i z
  · rw [Nat.testBit_lt_two_pow (Nat.lt_of_lt_of_le hv (Nat.pow_le_pow_right (by decide) z)), Nat.testBit_lt_two_pow (Nat.lt_of_lt_of_le hw (Nat.pow_le_pow_right (by decide) z))]
theorem ownX (hn : nc ≤ 6) (h8 : nn ≤ 8) (e : gi X 26 3 = nI nc) (hc : ∀ c, c < nc → CF X M nn c) (q : Q (nI (bld (ownB X nc) 8)) X) : w_X0_ownLevels X Q := by
  refine lo2 (fun K y1 y2 M => wb_X0_ownLevels_6 K y1 y2 M Q) (fun _ _ _ _ => rfl) nc (fun c y M' => M' = X ∧ ∃ v, y = nI v ∧ v < 256 ∧ ∀ j, j < 8 → v.testBit j = ownB X c j) ?_ ?_ (Nat.zero_le _) ⟨rfl, 255, rfl, by decide, by
    intro j hj
    show _ = true
    rcases (show j = 0 ∨ j = 1 ∨ j = 2 ∨ j = 3 ∨ j = 4 ∨ j = 5 ∨ j = 6 ∨ j = 7 by omega) with rfl | rfl | rfl | rfl | rfl | rfl | rfl | rfl <;> decide⟩
  · rintro c y M' K hcc ⟨rfl, v, rfl, v8, hv⟩ kk
    unfold wb_X0_ownLevels_6
    rw [e, nI_clamp (n := c) (by omega), nI_add]
    refine bf (nI_ge hcc (by omega)) ⟨vp_in_nI (by omega) (by decide), lowX h8 (hc c hcc) (by omega) (fun u u8 hu => ?_)⟩
    rw [nI_andn (by omega) (by omega)]
    refine kk _ _ ⟨rfl, _, rfl, Nat.lt_of_le_of_lt Nat.and_le_left v8, fun j hj => ?_⟩
    rw [andn_bit (by omega) (by omega), hv j hj, hu j hj, Bool.not_not]
    rfl
  · rintro y M' K ⟨rfl, v, rfl, v8, hv⟩
    unfold wb_X0_ownLevels_6
    rw [e]
    refine bt (nI_le (by omega) (by omega)) ?_
    rw [show v = bld (ownB M' nc) 8 from bits_eq (n := 8) v8 (bld_lt _ 8) (fun j hj => by rw [hv j hj, bld_bit, decide_eq_true hj, Bool.true_and])]
    exact q
end OWN
