/-! the levels of the nets -/
def upB (mk r lv : Nat) : Bool := decide (r = 1) || (decide (r = 2) && decide (lv &&& mk = mk)) || (decide (r = 3) && !decide (lv &&& mk = 0))
theorem and_congr {nn mk a b : Nat} (hm : mk < 2 ^ nn) (h : ∀ j, j < nn → a.testBit j = b.testBit j) : a &&& mk = b &&& mk := by
  apply Nat.eq_of_testBit_eq
  intro i
  rw [Nat.testBit_and, Nat.testBit_and]
  cases z : mk.testBit i
  · rw [Bool.and_false, Bool.and_false]
  · rw [h i (tb_lt hm z)]
theorem and_congr2 {mk a b : Nat} (h : ∀ j, mk.testBit j = true → a.testBit j = b.testBit j) : a &&& mk = b &&& mk := by
  apply Nat.eq_of_testBit_eq
  intro i
  rw [Nat.testBit_and, Nat.testBit_and]
  cases z : mk.testBit i
  · rw [Bool.and_false, Bool.and_false]
  · rw [h i z]
theorem upB_congr {mk r a b : Nat} (h : a &&& mk = b &&& mk) : upB mk r a = upB mk r b := by
  unfold upB
  rw [h]
def stl (lv mk r : Nat) : Nat := if upB mk r lv = true then lv ||| mk else lv &&& (2 ^ 32 - 1 - mk)
theorem stl_bit {lv mk r j : Nat} (hl : lv < 256) (hm : mk < 256) : (stl lv mk r).testBit j = if mk.testBit j = true then upB mk r lv else lv.testBit j := by
  unfold stl
  cases z : upB mk r lv
  · rw [if_neg (by decide), andn_bit (by omega) (by omega)]
    cases mk.testBit j
    · rw [if_neg (by decide)]; exact Bool.and_true _
    · rw [if_pos rfl]; exact Bool.and_false _
  · rw [if_pos rfl, Nat.testBit_or]
    cases mk.testBit j
    · rw [if_neg (by decide), Bool.or_false]
    · rw [if_pos rfl, Bool.or_true]
theorem stl_lt {lv mk r : Nat} (hl : lv < 256) (hm : mk < 256) : stl lv mk r < 256 := by
  unfold stl
  split
  · exact Nat.or_lt_two_pow (n := 8) hl hm
  · exact Nat.lt_of_le_of_lt Nat.and_le_left hl
theorem settleX {lv mk r : Nat} {M : wM} {Q : Int32 → wM → Prop} (hl : lv < 256) (hm : mk < 256) (hr : r < 4) (q : Q (nI (stl lv mk r)) M) : w_X2_settle (nI lv) (nI (mk + 256 * r)) M Q := by
  have e1 : nI (mk + 256 * r) &&& nI 255 = nI mk := by
    rw [pk_andN (m := nI 255) (by omega) 8 (by decide), show (mk + 256 * r) % 2 ^ 8 = mk by omega]
  have e2 : jshr (nI (mk + 256 * r)) (nI 8) = nI r := by
    rw [bshr (by omega) (by decide), show (mk + 256 * r) / 2 ^ 8 = r by omega]
  have al : lv &&& mk < 256 := Nat.lt_of_le_of_lt Nat.and_le_left hl
  have rn : ∀ k, k < 4 → r ≠ k → ¬ nI r = nI k := fun k hk z y => z (inj31 y (by omega) (by omega))
  have t : ∀ Q' : Prop, Q' → Q' := fun _ h => h
  have f1 : upB mk r lv = true → wj_X2_settle_47 (nI lv) (nI mk) (nI 1) M Q := fun z => by
    unfold stl at q
    rw [if_pos z] at q
    unfold wj_X2_settle_47
    rw [nI_or (by omega) (by omega)]
    exact bf ne10 q
  have f0 : upB mk r lv = false → wj_X2_settle_47 (nI lv) (nI mk) (nI 0) M Q := fun z => by
    unfold stl at q
    rw [if_neg (by rw [z]; decide)] at q
    unfold wj_X2_settle_47
    rw [nI_andn (by omega) (by omega)]
    exact bt rfl q
  have g : ¬ (r = 1) → ¬ (r = 2 ∧ lv &&& mk = mk) → wj_X2_settle_32 (nI lv) (nI mk) (nI r) (nI (lv &&& mk)) M Q := by
    intro n1 n2
    have e3 : upB mk r lv = (decide (r = 3) && !decide (lv &&& mk = 0)) := by
      unfold upB
      rw [decide_eq_false n1, Bool.false_or, show (decide (r = 2) && decide (lv &&& mk = mk)) = false by
        by_cases y : r = 2
        · rw [decide_eq_false (fun w => n2 ⟨y, w⟩), Bool.and_false]
        · rw [decide_eq_false y, Bool.false_and], Bool.false_or]
    rw [e3] at f1 f0
    unfold wj_X2_settle_32
    by_cases y : r = 3
    · refine bt (by rw [y]) ?_
      by_cases w : lv &&& mk = 0
      · exact bt (by rw [w]) (f0 (by rw [decide_eq_true w]; exact Bool.and_false _))
      · exact bf (fun x => w (inj31 x (by omega) (by decide))) (f1 (by rw [decide_eq_false w, decide_eq_true y]; rfl))
    · exact bf (rn 3 (by decide) y) (f0 (by rw [decide_eq_false y]; rfl))
  unfold w_X2_settle
  rw [e1, e2, nI_and (by omega) (by omega)]
  by_cases y : r = 1
  · exact bt (by rw [y]) (f1 (by unfold upB; rw [decide_eq_true y]; rfl))
  · refine bf (rn 1 (by decide) y) ?_
    by_cases w : r = 2
    · refine bt (by rw [w]) ?_
      by_cases x : lv &&& mk = mk
      · exact bt (by rw [x]) (f1 (by unfold upB; rw [decide_eq_true w, decide_eq_true x]; simp))
      · exact bf (fun u => x (inj31 u (by omega) (by omega))) (g y (fun u => x u.2))
    · exact bf (rn 2 (by decide) w) (g y (fun u => w u.1))
theorem levelByM {own mk r : Nat} {M : wM} {Q : Int32 → wM → Prop} (hl : own < 256) (hm : mk < 256) (hr : r < 4) (q : Q (bI (upB mk r own)) M) : w_X12_levelBy (nI mk) (nI (md r)) (nI own) M Q := by
  have al : own &&& mk < 256 := Nat.lt_of_le_of_lt Nat.and_le_left hl
  unfold w_X12_levelBy
  rw [nI_and (by omega) (by omega)]
  rcases (show r = 0 ∨ r = 1 ∨ r = 2 ∨ r = 3 by omega) with rfl | rfl | rfl | rfl
  · exact bf (by decide) q
  · exact bf (by decide) q
  · refine bt (by decide) (bt rfl ?_)
    by_cases x : own &&& mk = mk
    · rw [show upB mk 2 own = true by unfold upB; rw [decide_eq_true x]; rfl] at q
      exact bt (by rw [x]) q
    · rw [show upB mk 2 own = false by unfold upB; rw [decide_eq_false x]; rfl] at q
      exact bf (fun u => x (inj31 u (by omega) (by omega))) q
  · refine bt (by decide) (bf (by decide) ?_)
    by_cases x : own &&& mk = 0
    · rw [show upB mk 3 own = false by unfold upB; rw [decide_eq_true x]; rfl] at q
      exact bt (by rw [x]) q
    · rw [show upB mk 3 own = true by unfold upB; rw [decide_eq_false x]; rfl] at q
      exact bf (fun u => x (inj31 u (by omega) (by omega))) q
def EX (X : wM) (x y : Nat) : Prop := gi X (16 + x) y ≠ -4
def LoX (X : wM) (nn a : Nat) : Prop := ∃ b, b < nn ∧ gi X (16 + a) b = nI 0
abbrev HX (X : wM) (nn a mk r : Nat) : Prop := HP (EX X) nn (LoX X nn) (gi X 14) a mk r
theorem rl_ex {C : Nat → Prop} {nn : Nat} {Lo : Nat → Prop} {fx : Nat → Int32} (hf : ∀ a, a < nn → lvl (fx a)) : ∃ r, r < 4 ∧ rl C nn Lo fx r := by
  by_cases h : ∃ a, a < nn ∧ C a ∧ ¬ fx a = -4
  · obtain ⟨a, ⟨a1, a2, a3⟩, a4⟩ := pk_least (fun a => a < nn ∧ C a ∧ ¬ fx a = -4) h
    have a5 : ∀ b, b < a → C b → fx b = -4 := fun b hb cb => Classical.byContradiction fun z => a4 b hb ⟨by omega, cb, z⟩
    rcases hf a a1 with z | z | z
    · exact absurd z a3
    · exact ⟨0, by decide, Or.inl ⟨a, a1, a2, z, by decide, a5⟩⟩
    · exact ⟨1, by decide, Or.inl ⟨a, a1, a2, z, by decide, a5⟩⟩
  · have h1 : ∀ a, a < nn → C a → fx a = -4 := fun a ha ca => Classical.byContradiction fun z => h ⟨a, ha, ca, z⟩
    by_cases k : ∃ a, a < nn ∧ C a ∧ Lo a
    · exact ⟨2, by decide, Or.inr ⟨h1, Or.inl ⟨k, rfl⟩⟩⟩
    · exact ⟨3, by decide, Or.inr ⟨h1, Or.inr ⟨k, rfl⟩⟩⟩
theorem ruleR_rl {X : wM} {nn i r : Nat} (h : ruleR X nn i r) : rl (Cn (EX X) nn i) nn (LoX X nn) (gi X 14) r := by
  rcases h with ⟨a, a1, a2, a3, a4, a5⟩ | ⟨h1, h2⟩
  · exact Or.inl ⟨a, a1, a2, a3, a4, a5⟩
  · refine Or.inr ⟨h1, ?_⟩
    have e : (∃ a b, a < nn ∧ b < nn ∧ Conn X nn i a ∧ gi X (16 + a) b = nI 0) ↔ ∃ a, a < nn ∧ Cn (EX X) nn i a ∧ LoX X nn a := ⟨fun ⟨a, b, a1, b1, a2, a3⟩ => ⟨a, a1, a2, b, b1, a3⟩, fun ⟨a, a1, a2, b, b1, a3⟩ => ⟨a, b, a1, b1, a2, a3⟩⟩
    rw [e] at h2
    exact h2
theorem rl_ruleR {X : wM} {nn i r : Nat} (h : rl (Cn (EX X) nn i) nn (LoX X nn) (gi X 14) r) : ruleR X nn i r := by
  rcases h with ⟨a, a1, a2, a3, a4, a5⟩ | ⟨h1, h2⟩
  · exact Or.inl ⟨a, a1, a2, a3, a4, a5⟩
  · refine Or.inr ⟨h1, ?_⟩
    have e : (∃ a b, a < nn ∧ b < nn ∧ Conn X nn i a ∧ gi X (16 + a) b = nI 0) ↔ ∃ a, a < nn ∧ Cn (EX X) nn i a ∧ LoX X nn a := ⟨fun ⟨a, b, a1, b1, a2, a3⟩ => ⟨a, a1, a2, b, b1, a3⟩, fun ⟨a, a1, a2, b, b1, a3⟩ => ⟨a, b, a1, b1, a2, a3⟩⟩
    rw [e]
    exact h2
/-- the nets as the class holds them -/
def NF (X : wM) (nn : Nat) : Prop := nn ≤ 8 ∧ gi X 12 0 = nI nn ∧ (∀ x y, x < nn → y < nn → EX X x y → EX X y x) ∧ (∀ a, a < nn → lvl (gi X 14 a)) ∧ ∀ i, i < nn → ∃ mk r, HX X nn i mk r ∧ gi X 24 i = nI mk ∧ ((∃ j, j < i ∧ Cn (EX X) nn i j) → gi X 25 i = nI 0) ∧ ((¬ ∃ j, j < i ∧ Cn (EX X) nn i j) → gi X 25 i = nI (mk + 256 * r))
theorem Inv_nf {X M : wM} {nn : Nat} (h : Inv X M) (h8 : nn ≤ 8) (e : gi X 12 0 = nI nn) : NF X nn := by
  obtain ⟨n1, g1, g2, g3, g4, g5, g6, g7⟩ := h.2.2.2.2.2.2.2.1
  obtain ⟨n2, k1, k2, k3⟩ := h.2.2.2.2.2.2.2.2.2.1
  obtain rfl : n1 = nn := inj31 (g2.symm.trans e) (by omega) (by omega)
  obtain rfl : n2 = n1 := inj31 (k2.symm.trans e) (by omega) (by omega)
  refine ⟨h8, e, fun x y hx hy z => ?_, fun a ha => (g4 a ha).2, fun i hi => ?_⟩
  · unfold EX at z ⊢
    rw [← (g6 x y hx hy).2.1]
    exact z
  · obtain ⟨mk, m1, m2, m3, m4, m5⟩ := k3 i hi
    obtain ⟨r, r4, hr⟩ := rl_ex (C := Cn (EX X) n2 i) (nn := n2) (Lo := LoX X n2) (fx := gi X 14) (fun a ha => (g4 a ha).2)
    have m2n : mk < 2 ^ n2 := by
      refine Nat.lt_pow_two_of_testBit _ (fun j hj => ?_)
      cases z : mk.testBit j
      · rfl
      · have := ((m3 j).mp z).1
        omega
    refine ⟨mk, r, ⟨m2n, fun t => (m3 t).trans ⟨fun y => y.2, fun y => ⟨Cn_lt hi y, y⟩⟩, r4, hr⟩, m2, m4, fun z => ?_⟩
    obtain ⟨r', r1, r2, r3⟩ := m5 z
    rw [rl_uniq hr (ruleR_rl r2)]
    exact r3
/-- the levels of the nets, given what each has of its own: heap by heap -/
def lvR (X : wM) (own : Nat) : Nat → Nat
  | 0 => own
  | i + 1 => stl (lvR X own i) ((gi X 25 i).toNatClampNeg % 256) ((gi X 25 i).toNatClampNeg / 256)
def prd (X : wM) (nn i j : Nat) : Prop := ∃ l, l < i ∧ (¬ ∃ t, t < l ∧ Cn (EX X) nn l t) ∧ Cn (EX X) nn l j
theorem lvR_ok {X : wM} {nn own : Nat} (h : NF X nn) (ho : own < 256) : ∀ i, i ≤ nn → lvR X own i < 256 ∧ (∀ j, prd X nn i j → ∀ mk r, HX X nn j mk r → (lvR X own i).testBit j = upB mk r own) ∧ ∀ j, ¬ prd X nn i j → (lvR X own i).testBit j = own.testBit j := by
  obtain ⟨h8, e, hs, -, hg⟩ := h
  have b8 := p8 h8
  intro i
  induction i with
  | zero => exact fun _ => ⟨ho, fun j ⟨l, l1, _⟩ => by omega, fun j _ => rfl⟩
  | succ i ih =>
    intro hi
    obtain ⟨v8, a1, a2⟩ := ih (by omega)
    obtain ⟨mk, r, hp, e24, e0, e1⟩ := hg i (by omega)
    have hm := hp.1
    have hr := hp.2.2.1
    unfold lvR
    generalize lvR X own i = v at v8 a1 a2
    by_cases z : ∃ j, j < i ∧ Cn (EX X) nn i j
    · rw [e0 z, nI_clamp (by decide)]
      have sb : ∀ j, (stl v (0 % 256) (0 / 256)).testBit j = v.testBit j := fun j => by rw [stl_bit v8 (by decide), show 0 % 256 = 0 from rfl, Nat.zero_testBit, if_neg (by decide)]
      have pe : ∀ j, prd X nn (i + 1) j ↔ prd X nn i j := by
        intro j
        constructor
        · rintro ⟨l, l1, l2, l3⟩
          by_cases y : l = i
          · subst y; exact absurd z l2
          · exact ⟨l, by omega, l2, l3⟩
        · rintro ⟨l, l1, l2, l3⟩
          exact ⟨l, by omega, l2, l3⟩
      refine ⟨stl_lt v8 (by decide), fun j hj => ?_, fun j hj => ?_⟩
      · rw [sb]; exact a1 j ((pe j).mp hj)
      · rw [sb]; exact a2 j (fun y => hj ((pe j).mpr y))
    · rw [e1 z, nI_clamp (by omega), show (mk + 256 * r) % 256 = mk by omega, show (mk + 256 * r) / 256 = r by omega]
      have no : ∀ j, mk.testBit j = true → ¬ prd X nn i j := by
        rintro j hj ⟨l, l1, l2, l3⟩
        exact z ⟨l, l1, Cn_trans ((hp.2.1 j).mp hj) (Cn_symm hs l3)⟩
      have eu : upB mk r v = upB mk r own := upB_congr (and_congr2 (fun j hj => a2 j (no j hj)))
      refine ⟨stl_lt v8 (by omega), fun j hj mk' r' hp' => ?_, fun j hj => ?_⟩
      · rw [stl_bit v8 (by omega)]
        cases w : mk.testBit j
        · rw [if_neg (by decide)]
          obtain ⟨l, l1, l2, l3⟩ := hj
          by_cases y : l = i
          · subst y
            exact absurd ((hp.2.1 j).mpr l3) (by rw [w]; decide)
          · exact a1 j ⟨l, by omega, l2, l3⟩ mk' r' hp'
        · rw [if_pos rfl, eu]
          have c1 := (hp.2.1 j).mp w
          obtain ⟨m1, m2⟩ := HP_uniq (fun t => ⟨fun y => Cn_trans (Cn_symm hs c1) y, fun y => Cn_trans c1 y⟩) hp hp'
          rw [m1, m2]
      · rw [stl_bit v8 (by omega)]
        cases w : mk.testBit j
        · rw [if_neg (by decide)]
          exact a2 j (fun ⟨l, l1, l2, l3⟩ => hj ⟨l, by omega, l2, l3⟩)
        · exact absurd ⟨i, by omega, z, (hp.2.1 j).mp w⟩ hj
theorem lvR_bit {X : wM} {nn own : Nat} (h : NF X nn) (ho : own < 256) : lvR X own nn < 256 ∧ (∀ j, j < nn → ∀ mk r, HX X nn j mk r → (lvR X own nn).testBit j = upB mk r own) ∧ ∀ j, nn ≤ j → (lvR X own nn).testBit j = own.testBit j := by
  obtain ⟨v8, a1, a2⟩ := lvR_ok h ho nn (Nat.le_refl _)
  refine ⟨v8, fun j hj => a1 j ?_, fun j hj => a2 j ?_⟩
  · obtain ⟨l, l1, l2⟩ := pk_least (fun l => Cn (EX X) nn j l) ⟨j, Cn_refl⟩
    exact ⟨l, Cn_lt hj l1, fun ⟨t, t1, t2⟩ => l2 t t1 (Cn_trans l1 t2), Cn_symm h.2.2.1 l1⟩
  · rintro ⟨l, l1, l2, l3⟩
    have := Cn_lt l1 l3
    omega
theorem levX {X M : wM} {nn own : Nat} {Q : Int32 → wM → Prop} (h : NF X nn) (ho : own < 256) (e1 : gi M 12 0 = gi X 12 0) (e2 : ∀ j, gi M 25 j = gi X 25 j) (q : Q (nI (lvR X own nn)) M) : w_X3_levels (nI own) M Q := by
  obtain ⟨h8, e, hs, -, hg⟩ := id h
  have b8 := p8 h8
  refine lo2 (fun K y2 y3 M => wb_X3_levels_4 K y2 y3 M Q) (fun _ _ _ _ => rfl) nn (fun i y M' => M' = M ∧ y = nI (lvR X own i)) ?_ ?_ (Nat.zero_le _) ⟨rfl, rfl⟩
  · rintro i y M' K hi ⟨rfl, rfl⟩ kk
    obtain ⟨v8, -, -⟩ := lvR_ok h ho i (by omega)
    unfold wb_X3_levels_4
    rw [e1, e, nI_clamp (n := i) (by omega), nI_add, e2]
    refine bf (nI_ge hi (by omega)) ⟨vp_in_nI (by omega) (by decide), ?_⟩
    obtain ⟨mk, r, hp, e24, e0, e1'⟩ := hg i hi
    have hm := hp.1
    have hr := hp.2.2.1
    have kk2 : K (nI (lvR X own (i + 1))) (nI (i + 1)) M' := kk _ _ ⟨rfl, rfl⟩
    change K (nI (stl (lvR X own i) ((gi X 25 i).toNatClampNeg % 256) ((gi X 25 i).toNatClampNeg / 256))) (nI (i + 1)) M' at kk2
    by_cases z : ∃ j, j < i ∧ Cn (EX X) nn i j
    · rw [e0 z, nI_clamp (by decide)] at kk2
      rw [e0 z]
      exact settleX (mk := 0) (r := 0) v8 (by decide) (by decide) kk2
    · rw [e1' z, nI_clamp (by omega), show (mk + 256 * r) % 256 = mk by omega, show (mk + 256 * r) / 256 = r by omega] at kk2
      rw [e1' z]
      exact settleX v8 (by omega) hr kk2
  · rintro y M' K ⟨rfl, rfl⟩
    unfold wb_X3_levels_4
    rw [e1, e]
    exact bt (nI_le (by omega) (by omega)) q
