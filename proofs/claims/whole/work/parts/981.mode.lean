/-! what hangs together: the reference's modes -/
theorem loD2 {L : Nat → Int32 → Int32 → wM → Prop} (B : (Int32 → Int32 → wM → Prop) → Int32 → Int32 → wM → Prop) (hL : ∀ k a y M, L (k + 1) a y M = B (L k) a y M) (n : Nat) (I : Nat → Int32 → wM → Prop)
    (step : ∀ i a M K, i < n → I (i + 1) a M → (∀ a' M', I i a' M' → K a' (pv i) M') → B K a (nI i) M) (fin : ∀ a M K, I 0 a M → B K a (pv 0) M) {a : Int32} {M : wM} (h0 : I n a M) : ∃ k, L k a (pv n) M := by
  have key : ∀ k a M, k ≤ n → I k a M → L (k + 1) a (pv k) M := by
    intro k
    induction k with
    | zero =>
      intro a M hi h
      rw [hL]
      exact fin a M _ h
    | succ k ih =>
      intro a M hi h
      rw [hL, pv_s]
      exact step k a M _ (by omega) h (fun a' M' h' => ih a' M' (by omega) h')
  exact ⟨n + 1, key n a M (Nat.le_refl _) h0⟩
theorem pv_0 : pv 0 < nI 0 := by decide
theorem pv_n (n : Nat) : nI n - nI 1 = pv n := by
  unfold pv
  rw [Int32.sub_eq_add_neg]
  rfl
def rl (C : Nat → Prop) (nn : Nat) (Lo : Nat → Prop) (fx : Nat → Int32) (r : Nat) : Prop := (∃ a, a < nn ∧ C a ∧ fx a = nI r ∧ r < 2 ∧ ∀ b, b < a → C b → fx b = -4) ∨ ((∀ a, a < nn → C a → fx a = -4) ∧ (((∃ a, a < nn ∧ C a ∧ Lo a) ∧ r = 2) ∨ ((¬ ∃ a, a < nn ∧ C a ∧ Lo a) ∧ r = 3)))
theorem rl_uniq {C : Nat → Prop} {nn : Nat} {Lo : Nat → Prop} {fx : Nat → Int32} {r s : Nat} (h : rl C nn Lo fx r) (k : rl C nn Lo fx s) : r = s := by
  rcases h with ⟨a, a1, a2, a3, a4, a5⟩ | ⟨h1, h2⟩ <;> rcases k with ⟨b, b1, b2, b3, b4, b5⟩ | ⟨k1, k2⟩
  · rcases Nat.lt_trichotomy a b with z | z | z
    · exact absurd ((b5 a z a2).symm.trans a3).symm (n4_ne (by omega))
    · subst z
      exact inj31 (a3.symm.trans b3) (by omega) (by omega)
    · exact absurd ((a5 b z b2).symm.trans b3).symm (n4_ne (by omega))
  · exact absurd ((k1 a a1 a2).symm.trans a3).symm (n4_ne (by omega))
  · exact absurd ((h1 b b1 b2).symm.trans b3).symm (n4_ne (by omega))
  · rcases h2 with ⟨u, rfl⟩ | ⟨u, rfl⟩ <;> rcases k2 with ⟨w, rfl⟩ | ⟨w, rfl⟩
    · rfl
    · exact absurd u w
    · exact absurd w u
    · rfl
theorem rl_congr {C C' : Nat → Prop} {nn : Nat} {Lo Lo' : Nat → Prop} {fx fx' : Nat → Int32} {r : Nat} (hC : ∀ a, C a ↔ C' a) (hL : ∀ a, a < nn → (Lo a ↔ Lo' a)) (hf : ∀ a, a < nn → fx a = fx' a) (h : rl C nn Lo fx r) : rl C' nn Lo' fx' r := by
  rcases h with ⟨a, a1, a2, a3, a4, a5⟩ | ⟨h1, h2⟩
  · exact Or.inl ⟨a, a1, (hC a).mp a2, (hf a a1).symm.trans a3, a4, fun b hb cb => (hf b (by omega)).symm.trans (a5 b hb ((hC b).mpr cb))⟩
  · refine Or.inr ⟨fun a ha ca => (hf a ha).symm.trans (h1 a ha ((hC a).mpr ca)), ?_⟩
    have e : (∃ a, a < nn ∧ C a ∧ Lo a) ↔ ∃ a, a < nn ∧ C' a ∧ Lo' a := ⟨fun ⟨a, a1, a2, a3⟩ => ⟨a, a1, (hC a).mp a2, (hL a a1).mp a3⟩, fun ⟨a, a1, a2, a3⟩ => ⟨a, a1, (hC a).mpr a2, (hL a a1).mpr a3⟩⟩
    rw [e] at h2
    exact h2
def md (r : Nat) : Nat := if r < 2 then r + 2 else r - 2
def HP (E : Nat → Nat → Prop) (nn : Nat) (Lo : Nat → Prop) (fx : Nat → Int32) (a mk r : Nat) : Prop := mk < 2 ^ nn ∧ (∀ t, mk.testBit t = true ↔ Cn E nn a t) ∧ r < 4 ∧ rl (Cn E nn a) nn Lo fx r
theorem HP_uniq {E : Nat → Nat → Prop} {nn : Nat} {Lo : Nat → Prop} {fx : Nat → Int32} {a b mk r mk' r' : Nat} (hC : ∀ t, Cn E nn a t ↔ Cn E nn b t) (h : HP E nn Lo fx a mk r) (k : HP E nn Lo fx b mk' r') : mk = mk' ∧ r = r' := by
  constructor
  · apply Nat.eq_of_testBit_eq
    intro i
    have e := ((h.2.1 i).trans (hC i)).trans (k.2.1 i).symm
    cases x : mk.testBit i <;> cases y : mk'.testBit i
    · rfl
    · exact absurd (e.mpr y) (by rw [x]; decide)
    · exact absurd (e.mp x) (by rw [y]; decide)
    · rfl
  · exact rl_uniq (rl_congr hC (fun _ _ => Iff.rfl) (fun _ _ => rfl) h.2.2.2) k.2.2.2
theorem HP_congr {E E' : Nat → Nat → Prop} {nn : Nat} {Lo Lo' : Nat → Prop} {fx fx' : Nat → Int32} {a mk r : Nat} (he : ∀ x y, x < nn → y < nn → (E x y ↔ E' x y)) (hL : ∀ a, a < nn → (Lo a ↔ Lo' a)) (hf : ∀ a, a < nn → fx a = fx' a) (h : HP E nn Lo fx a mk r) : HP E' nn Lo' fx' a mk r :=
  ⟨h.1, fun t => (h.2.1 t).trans (Cn_congr he), h.2.2.1, rl_congr (fun _ => Cn_congr he) hL hf h.2.2.2⟩
/-- a least short of net b, as a row tells it -/
def lw (M : wM) (z1 nn b : Nat) : Prop := ∃ c, c < nn ∧ gi M z1 (8 * b + c) &&& nI 1 = nI 1
def gB (M : wM) (z1 m b c : Nat) : Bool := !(m.testBit b && decide (gi M z1 (8 * b + c) &&& nI 1 = nI 1))
section FT2
variable {z1 z2 nn a : Nat} {M M0 : wM}
def MD (nn m : Nat) (fx : Nat → Int32) (y0 : Int32) (k : Nat) (y : Int32) : Prop := (∃ b, k ≤ b ∧ b < nn ∧ m.testBit b = true ∧ ¬ fx b = -4 ∧ y = nI 2 + fx b ∧ ∀ b', k ≤ b' → b' < b → m.testBit b' = true → fx b' = -4) ∨ ((∀ b, k ≤ b → b < nn → m.testBit b = true → fx b = -4) ∧ y = y0)
theorem ft218 {K124 : Int32 → wM → Prop} {Q : wM → Prop} {m : Nat} {y0 : Int32} (l2 : lnM z2 = 8) (hn : nn ≤ 8) (ha : a < nn) (hm : gi M 29 a = nI m) (h31 : m < 2 ^ 31) (q : ∀ y, MD nn m (gi M z2) y0 0 y → K124 (nI (a + 1)) (si M 30 a y)) : ∃ n, wL_X12_findTogether_218 z1 z2 (nI a) K124 Q n y0 (pv nn) M := by
  have v8 : vp_in (nI a) 8 := vp_in_nI (by omega) (by decide)
  refine loD2 (fun K y4 y5 M => wb_X12_findTogether_218 z1 z2 (nI a) K124 K y4 y5 M Q) (fun _ _ _ _ => rfl) nn (fun k y M' => M' = M ∧ MD nn m (gi M z2) y0 k y) ?_ ?_ ⟨rfl, Or.inr ⟨fun b h1 h2 => by omega, rfl⟩⟩
  · rintro k y M' K hk ⟨rfl, g⟩ kk
    have vk : vp_in (nI k) 8 := vp_in_nI (by omega) (by decide)
    unfold wb_X12_findTogether_218
    rw [nI_clamp (n := a) (by omega), hm, bitM h31 (by omega), l2, nI_clamp (n := k) (by omega)]
    refine bf (by rw [lt_n (by decide), nI_toInt (by omega)]; omega) ⟨v8, bc (fun z => ⟨vk, ?_⟩) (fun z => ?_)⟩
    · rw [bI_1] at z
      refine bc (fun w => kk _ _ ⟨rfl, ?_⟩) (fun w => ⟨vk, kk _ _ ⟨rfl, Or.inl ⟨k, Nat.le_refl _, hk, z, w, rfl, fun b' h1 h2 => by omega⟩⟩⟩)
      rcases g with ⟨b, b1, b2, b3, b4, b5, b6⟩ | ⟨g1, g2⟩
      · refine Or.inl ⟨b, by omega, b2, b3, b4, b5, fun b' h1 h2 h3 => ?_⟩
        by_cases y : b' = k
        · rw [y]; exact w
        · exact b6 b' (by omega) h2 h3
      · refine Or.inr ⟨fun b h1 h2 h3 => ?_, g2⟩
        by_cases y : b = k
        · rw [y]; exact w
        · exact g1 b (by omega) h2 h3
    · refine kk _ _ ⟨rfl, ?_⟩
      have zf : ∀ b, m.testBit b = true → b ≠ k := fun b h y => z (bI_1.mpr (y ▸ h))
      rcases g with ⟨b, b1, b2, b3, b4, b5, b6⟩ | ⟨g1, g2⟩
      · exact Or.inl ⟨b, by omega, b2, b3, b4, b5, fun b' h1 h2 h3 => b6 b' (by have := zf b' h3; omega) h2 h3⟩
      · exact Or.inr ⟨fun b h1 h2 h3 => g1 b (by have := zf b h3; omega) h2 h3, g2⟩
  · rintro y M' K ⟨rfl, g⟩
    unfold wb_X12_findTogether_218
    rw [nI_add, nI_clamp (n := a) (by omega)]
    exact bt pv_0 ⟨v8, q y g⟩
theorem ft138 {K124 : Int32 → wM → Prop} {Q : wM → Prop} {m : Nat} (l1 : lnM z1 = 64) (hn : nn ≤ 8) (e : gi M 0 41 = nI nn) (ha : a < nn) (hm : gi M 29 a = nI m) (h31 : m < 2 ^ 31) (q : ∃ n, wL_X12_findTogether_218 z1 z2 (nI a) K124 Q n (bI (allB (fun b => allB (gB M z1 m b) nn) nn)) (pv nn) M) : ∃ n, wL_X12_findTogether_138 z1 z2 (nI a) K124 Q n (nI 1) (nI 0) M := by
  have v8 : vp_in (nI a) 8 := vp_in_nI (by omega) (by decide)
  refine lo2 (fun K y4 y5 M => wb_X12_findTogether_138 z1 z2 (nI a) K124 K y4 y5 M Q) (fun _ _ _ _ => rfl) nn (fun b y M' => M' = M ∧ y = bI (allB (fun b => allB (gB M z1 m b) nn) b)) ?_ ?_ (Nat.zero_le _) ⟨rfl, rfl⟩
  · rintro b y M' K hb ⟨rfl, rfl⟩ kk
    unfold wb_X12_findTogether_138
    rw [e]
    refine bf (nI_ge hb (by omega)) ?_
    refine lo2 (fun K' y4 y6 M => wb_X12_findTogether_150 z1 z2 (nI a) (nI b) K124 K K' y4 y6 M Q) (fun _ _ _ _ => rfl) nn (fun c y M2 => M2 = M' ∧ y = bI (allB (fun b => allB (gB M' z1 m b) nn) b && allB (gB M' z1 m b) c)) ?_ ?_ (Nat.zero_le _) ⟨rfl, by rw [show allB (gB M' z1 m b) 0 = true from rfl, Bool.and_true]⟩
    · rintro c y M2 K2 hc ⟨rfl, rfl⟩ kk2
      have ea : (allB (fun b => allB (gB M2 z1 m b) nn) b && allB (gB M2 z1 m b) (c + 1)) = ((allB (fun b => allB (gB M2 z1 m b) nn) b && allB (gB M2 z1 m b) c) && gB M2 z1 m b c) := by
        rw [Bool.and_assoc]; rfl
      unfold wb_X12_findTogether_150
      rw [e, nI_clamp (n := a) (by omega), hm, bitM h31 (by omega), l1, nI_mul, nI_add, nI_add, nI_add, nI_clamp (n := 8 * b + c) (by omega)]
      refine bf (nI_ge hc (by omega)) ⟨v8, bc (fun z => ⟨vp_in_nI (by omega) (by decide), bc (fun w => kk2 _ _ ⟨rfl, ?_⟩) (fun w => kk2 _ _ ⟨rfl, ?_⟩)⟩) (fun z => kk2 _ _ ⟨rfl, ?_⟩)⟩
      · rw [ea, show gB M2 z1 m b c = false by unfold gB; rw [bI_1.mp z, decide_eq_true w]; rfl, Bool.and_false]
        rfl
      · rw [ea, show gB M2 z1 m b c = true by unfold gB; rw [decide_eq_false w, Bool.and_false]; rfl, Bool.and_true]
      · have zf : m.testBit b = false := by
          cases h : m.testBit b
          · rfl
          · exact absurd (bI_1.mpr h) z
        rw [ea, show gB M2 z1 m b c = true by unfold gB; rw [zf]; rfl, Bool.and_true]
    · rintro y M2 K2 ⟨rfl, rfl⟩
      unfold wb_X12_findTogether_150
      rw [e, nI_add]
      exact bt (nI_le (by omega) (by omega)) (kk _ _ ⟨rfl, rfl⟩)
  · rintro y M' K ⟨rfl, rfl⟩
    unfold wb_X12_findTogether_138
    rw [e, pv_n]
    exact bt (nI_le (by omega) (by omega)) q
theorem md_rl {m : Nat} {C : Nat → Prop} {y : Int32} (hC : ∀ t, m.testBit t = true ↔ C t) (fx : ∀ a, a < nn → lvl (gi M z2 a)) (g : MD nn m (gi M z2) (bI (allB (fun b => allB (gB M z1 m b) nn) nn)) 0 y) : ∃ r, r < 4 ∧ rl C nn (lw M z1 nn) (gi M z2) r ∧ y = nI (md r) := by
  rcases g with ⟨b, b1, b2, b3, b4, b5, b6⟩ | ⟨g1, g2⟩
  · obtain ⟨r, r2, er⟩ : ∃ r, r < 2 ∧ gi M z2 b = nI r := by
      rcases fx b b2 with z | z | z
      · exact absurd z b4
      · exact ⟨0, by decide, z⟩
      · exact ⟨1, by decide, z⟩
    refine ⟨r, by omega, Or.inl ⟨b, b2, (hC b).mp b3, er, r2, fun b' h1 h2 => b6 b' (Nat.zero_le _) h1 ((hC b').mpr h2)⟩, ?_⟩
    rw [b5, er, nI_add, show md r = r + 2 from if_pos r2, Nat.add_comm]
  · have h1 : ∀ a, a < nn → C a → gi M z2 a = -4 := fun a ha ca => g1 a (Nat.zero_le _) ha ((hC a).mpr ca)
    by_cases z : ∃ a, a < nn ∧ C a ∧ lw M z1 nn a
    · refine ⟨2, by decide, Or.inr ⟨h1, Or.inl ⟨z, rfl⟩⟩, ?_⟩
      obtain ⟨a, a1, a2, c, c1, c2⟩ := z
      rw [g2]
      have hf : allB (fun b => allB (gB M z1 m b) nn) nn = false := by
        cases w : allB (fun b => allB (gB M z1 m b) nn) nn
        · rfl
        · have w2 := (allB_iff _ _).mp ((allB_iff _ _).mp w a a1) c c1
          unfold gB at w2
          rw [(hC a).mpr a2, decide_eq_true c2] at w2
          cases w2
      rw [hf]
      rfl
    · refine ⟨3, by decide, Or.inr ⟨h1, Or.inr ⟨z, rfl⟩⟩, ?_⟩
      rw [g2]
      have hf : allB (fun b => allB (gB M z1 m b) nn) nn = true := by
        refine (allB_iff _ _).mpr (fun a ha => (allB_iff _ _).mpr (fun c hc => ?_))
        unfold gB
        cases w : m.testBit a
        · rfl
        · rw [decide_eq_false (fun y => z ⟨a, ha, (hC a).mp w, c, hc, y⟩)]
          rfl
      rw [hf]
      rfl
theorem ftM {Q : wM → Prop} (hz : z1 ≠ 0 ∧ z1 ≠ 29 ∧ z1 ≠ 30 ∧ z2 ≠ 0 ∧ z2 ≠ 29 ∧ z2 ≠ 30) (i1 : iaM z1) (l1 : lnM z1 = 64) (i2 : iaM z2) (l2 : lnM z2 = 8) (hn : nn ≤ 8) (e : gi M 0 41 = nI nn) (fx : ∀ a, a < nn → lvl (gi M z2 a))
    (q : ∀ M' : wM, (∀ x j, x ≠ 29 → x ≠ 30 → gi M' x j = gi M x j) → (∀ a, a < nn → ∃ mk r, HP (eg M z1) nn (lw M z1 nn) (gi M z2) a mk r ∧ gi M' 29 a = nI mk ∧ gi M' 30 a = nI (md r)) → Q M') : w_X12_findTogether z1 z2 M Q := by
  have b8 := p8 hn
  refine ⟨i1, i2, lo1 (fun K y M => wb_X12_findTogether_2 z1 z2 K y M Q) (fun _ _ _ => rfl) nn (fun i M' => (∀ x j, x ≠ 29 → gi M' x j = gi M x j) ∧ ∀ a, a < i → gi M' 29 a = nI (2 ^ a)) ?_ ?_ (Nat.zero_le _) ⟨fun _ _ _ => rfl, fun a h => by omega⟩⟩
  · rintro i M' K hi ⟨fr, g⟩ kk
    unfold wb_X12_findTogether_2
    rw [fr 0 41 (by decide), e, nI_clamp (n := i) (by omega), nI_add, bshl1 (by omega)]
    refine bf (nI_ge hi (by omega)) ⟨vp_in_nI (by omega) (by decide), kk _ ⟨fun x j h => ?_, fun a ha => ?_⟩⟩
    · rw [gi_ne (Or.inl h)]; exact fr x j h
    · by_cases y : a = i
      · rw [y, gi_eq]
      · rw [gi_ne (Or.inr y)]; exact g a (by omega)
  · rintro M1 K ⟨fr, g⟩
    unfold wb_X12_findTogether_2
    rw [fr 0 41 (by decide), e]
    have eE : eg M1 z1 = eg M z1 := by
      funext x y
      unfold eg
      rw [fr z1 _ hz.2.1]
    refine bt (nI_le (by omega) (by omega)) (ft27 i1 l1 hn ((fr 0 41 (by decide)).trans e) hz.2.1 (fun a ha => ?_) (fun M2 f2 g2 => ?_))
    · have tb : (2 ^ a).testBit a = true := by rw [Nat.testBit_two_pow]; exact decide_eq_true rfl
      refine ⟨2 ^ a, g a ha, ⟨Nat.pow_lt_pow_right (by decide) ha, tb, fun j hj => ?_⟩, Or.inr (ones_pos ha tb)⟩
      rw [Nat.testBit_two_pow] at hj
      rw [of_decide_eq_true hj]
      exact Cn_refl
    · rw [eE] at g2
      have g3 : ∀ a, a < nn → ∃ m, gi M2 29 a = nI m ∧ m < 2 ^ nn ∧ ∀ t, m.testBit t = true ↔ Cn (eg M z1) nn a t := by
        intro a ha
        obtain ⟨m, em, s, c⟩ := g2 a ha
        refine ⟨m, em, s.1, fun t => ⟨s.2.2 t, fun ct => ?_⟩⟩
        rcases c with c | c
        · exact c t ct
        · have := ones_le m nn
          omega
      have f3 : ∀ x j, x ≠ 29 → gi M2 x j = gi M x j := fun x j h => (f2 x j h).trans (fr x j h)
      refine lo1 (fun K y M => wb_X12_findTogether_124 z1 z2 K y M Q) (fun _ _ _ => rfl) nn (fun i M' => (∀ x j, x ≠ 30 → gi M' x j = gi M2 x j) ∧ ∀ a, a < i → ∃ mk r, HP (eg M z1) nn (lw M z1 nn) (gi M z2) a mk r ∧ gi M' 29 a = nI mk ∧ gi M' 30 a = nI (md r)) ?_ ?_ (Nat.zero_le _) ⟨fun _ _ _ => rfl, fun a h => by omega⟩
      · rintro i M3 K3 hi ⟨f4, g4⟩ kk
        obtain ⟨m, em, m2, cm⟩ := g3 i hi
        have f5 : ∀ x j, x ≠ 29 → x ≠ 30 → gi M3 x j = gi M x j := fun x j h h' => (f4 x j h').trans (f3 x j h)
        unfold wb_X12_findTogether_124
        rw [f5 0 41 (by decide) (by decide), e]
        refine bf (nI_ge hi (by omega)) (ft138 l1 hn ((f5 0 41 (by decide) (by decide)).trans e) hi ((f4 29 i (by decide)).trans em) (by omega) (ft218 l2 hn hi ((f4 29 i (by decide)).trans em) (by omega) (fun y hy => ?_)))
        have ez2 : gi M3 z2 = gi M z2 := by funext j; exact f5 z2 j hz.2.2.2.2.1 hz.2.2.2.2.2
        have ez1 : gB M3 z1 m = gB M z1 m := by
          funext b c
          unfold gB
          rw [f5 z1 _ hz.2.1 hz.2.2.1]
        rw [ez2, ez1] at hy
        obtain ⟨r, r4, hr, ey⟩ := md_rl cm fx hy
        refine kk _ ⟨fun x j h => ?_, fun a ha => ?_⟩
        · rw [gi_ne (Or.inl h)]; exact f4 x j h
        · by_cases y : a = i
          · subst y
            exact ⟨m, r, ⟨m2, cm, r4, hr⟩, by rw [gi_ne (Or.inl (by decide)), f4 29 a (by decide)]; exact em, by rw [gi_eq]; exact ey⟩
          · obtain ⟨mk, r', h1, h2, h3⟩ := g4 a (by omega)
            exact ⟨mk, r', h1, by rw [gi_ne (Or.inl (by decide))]; exact h2, by rw [gi_ne (Or.inr y)]; exact h3⟩
      · rintro M3 K3 ⟨f4, g4⟩
        unfold wb_X12_findTogether_124
        rw [f4 0 41 (by decide), f3 0 41 (by decide), e]
        exact bt (nI_le (by omega) (by omega)) (q M3 (fun x j h h' => (f4 x j h').trans (f3 x j h)) g4)
end FT2
