/-! what hangs together: the reference's masks -/
def Cn (E : Nat → Nat → Prop) (nn a b : Nat) : Prop := ∀ S : Nat → Prop, S a → (∀ x y, x < nn → y < nn → S x → E x y → S y) → S b
section CN
variable {E : Nat → Nat → Prop} {nn a b c : Nat}
theorem Cn_refl : Cn E nn a a := fun _ s _ => s
theorem Cn_trans (h : Cn E nn a b) (k : Cn E nn b c) : Cn E nn a c := fun S s cl => k S (h S s cl) cl
theorem Cn_step (h : Cn E nn a b) (hb : b < nn) (hc : c < nn) (e : E b c) : Cn E nn a c := fun S s cl => cl b c hb hc (h S s cl) e
theorem Cn_lt (ha : a < nn) (h : Cn E nn a b) : b < nn := h (fun x => x < nn) ha (fun _ _ _ hy _ _ => hy)
theorem Cn_symm (hs : ∀ x y, x < nn → y < nn → E x y → E y x) (h : Cn E nn a b) : Cn E nn b a :=
  h (fun x => Cn E nn x a) Cn_refl (fun x y hx hy s e => Cn_trans (Cn_step Cn_refl hy hx (hs x y hx hy e)) s)
theorem Cn_congr {E' : Nat → Nat → Prop} (he : ∀ x y, x < nn → y < nn → (E x y ↔ E' x y)) : Cn E nn a b ↔ Cn E' nn a b :=
  ⟨fun h S s cl => h S s (fun x y hx hy sx e => cl x y hx hy sx ((he x y hx hy).mp e)), fun h S s cl => h S s (fun x y hx hy sx e => cl x y hx hy sx ((he x y hx hy).mpr e))⟩
end CN
theorem ones_s (v k : Nat) : ones v (k + 1) = ones v k + (v.testBit k).toNat := by rw [← tbN]; rfl
theorem ones_mono {m m' : Nat} (h : ∀ j, m.testBit j = true → m'.testBit j = true) : ∀ k, ones m k ≤ ones m' k
  | 0 => Nat.le_refl _
  | k + 1 => by
    rw [ones_s, ones_s]
    have h1 := ones_mono h k
    have h2 : (m.testBit k).toNat ≤ (m'.testBit k).toNat := by
      cases e : m.testBit k
      · exact Nat.zero_le _
      · rw [h k e]; exact Nat.le_refl _
    omega
theorem ones_lt {m m' : Nat} (h : ∀ j, m.testBit j = true → m'.testBit j = true) {i : Nat} (h1 : m.testBit i = false) (h2 : m'.testBit i = true) : ∀ k, i < k → ones m k < ones m' k
  | 0, hi => by omega
  | k + 1, hi => by
    rw [ones_s, ones_s]
    have h3 := ones_mono h k
    by_cases z : i = k
    · subst z
      rw [h1, h2]
      show ones m i + 0 < ones m' i + 1
      omega
    · have h4 := ones_lt h h1 h2 k (by omega)
      have h2 : (m.testBit k).toNat ≤ (m'.testBit k).toNat := by
        cases e : m.testBit k
        · exact Nat.zero_le _
        · rw [h k e]; exact Nat.le_refl _
      omega
theorem ones_pos {m i k : Nat} (hi : i < k) (h : m.testBit i = true) : 0 < ones m k := by
  have h0 := ones_lt (m := 0) (m' := m) (fun j hj => by rw [Nat.zero_testBit] at hj; cases hj) (i := i) (Nat.zero_testBit i) h k hi
  omega
theorem tb_lt {m n i : Nat} (hm : m < 2 ^ n) (h : m.testBit i = true) : i < n := by
  rcases Nat.lt_or_ge i n with z | z
  · exact z
  · rw [Nat.testBit_lt_two_pow (Nat.lt_of_lt_of_le hm (Nat.pow_le_pow_right (by decide) z))] at h
    cases h
theorem nI_or0 {a : Nat} (h : a < 2 ^ 32) : nI a ||| nI 0 = nI a := by rw [nI_or h (by decide), Nat.or_zero]
theorem bld_f {f : Nat → Bool} {i : Nat} (h : f i = false) : bld f (i + 1) = bld f i := by
  show bld f i ||| (f i).toNat * 2 ^ i = _
  rw [h]
  show bld f i ||| 0 * 2 ^ i = _
  rw [Nat.zero_mul, Nat.or_zero]
theorem bld_t {f : Nat → Bool} {i : Nat} (hi : i < 31) (h : f i = true) : nI (bld f i) ||| jshl (nI 1) (nI i) = nI (bld f (i + 1)) := by
  rw [← bld_or hi, h]
  rfl
theorem p8 {n : Nat} (h : n ≤ 8) : 2 ^ n ≤ 256 := Nat.pow_le_pow_right (n := 2) (j := 8) (by decide) h
def sd (E : Nat → Nat → Prop) (nn a m : Nat) : Prop := m < 2 ^ nn ∧ m.testBit a = true ∧ ∀ j, m.testBit j = true → Cn E nn a j
section FT
variable {z1 z2 nn a : Nat} {M M0 : wM}
theorem joinM {b : Nat} {Q : Int32 → wM → Prop} (i1 : iaM z1) (l1 : lnM z1 = 64) (hn : nn ≤ 8) (hb : b < nn) (e : gi M 0 41 = nI nn) (q : Q (nI (bld (fun c => !decide (gi M z1 (8 * b + c) = nI 0)) nn)) M) : w_X12_joined z1 (nI b) M Q := by
  refine ⟨i1, lo2 (fun K y3 y4 M => wb_X12_joined_5 z1 (nI b) K y3 y4 M Q) (fun _ _ _ _ => rfl) nn (fun i y M' => M' = M ∧ y = nI (bld (fun c => !decide (gi M z1 (8 * b + c) = nI 0)) i)) ?_ ?_ (Nat.zero_le _) ⟨rfl, rfl⟩⟩
  · rintro i y M' K hi ⟨rfl, rfl⟩ k
    have hl := bld_lt (fun c => !decide (gi M' z1 (8 * b + c) = nI 0)) i
    have := p8 (n := i) (by omega)
    unfold wb_X12_joined_5
    rw [e, nI_mul, nI_add, nI_add, l1, nI_clamp (n := 8 * b + i) (by omega)]
    refine bf (nI_ge hi (by omega)) ⟨vp_in_nI (by omega) (by decide), bc (fun z => ?_) (fun z => ?_)⟩
    · refine k _ _ ⟨rfl, ?_⟩
      rw [nI_or0 (by omega), bld_f (by rw [decide_eq_true z]; rfl)]
    · exact k _ _ ⟨rfl, bld_t (by omega) (by rw [decide_eq_false z]; rfl)⟩
  · rintro y M' K ⟨rfl, rfl⟩
    unfold wb_X12_joined_5
    rw [e]
    exact bt (nI_le (by omega) (by omega)) q
/-- an edge of the graph that a row tells -/
def eg (M : wM) (z1 b c : Nat) : Prop := ¬ gi M z1 (8 * b + c) = nI 0
theorem ft50 {z3 : Int32} {K27 K38 : Int32 → wM → Prop} {Q : wM → Prop} {m0 : Nat} (i1 : iaM z1) (l1 : lnM z1 = 64) (hn : nn ≤ 8) (e : gi M 0 41 = nI nn) (hz : z1 ≠ 29) (ha : a < nn) (hm : gi M 29 a = nI m0) (s0 : sd (eg M z1) nn a m0) (hs : ∀ b, b < nn → ∃ m, gi M 29 b = nI m ∧ sd (eg M z1) nn b m)
    (k : ∀ M' : wM, (∀ x j, x ≠ 29 ∨ j ≠ a → gi M' x j = gi M x j) → (∃ m, gi M' 29 a = nI m ∧ sd (eg M z1) nn a m ∧ (∀ j, m0.testBit j = true → m.testBit j = true) ∧ ∀ b, b < nn → m0.testBit b = true → ∀ j, j < nn → eg M z1 b j → m.testBit j = true) → K38 (nI (a + 1)) M') : ∃ n, wL_X12_findTogether_50 z1 z2 z3 (nI a) K27 K38 Q n (nI 0) M := by
  have v8 : vp_in (nI a) 8 := vp_in_nI (by omega) (by decide)
  have b8 := p8 hn
  refine lo1 (fun K y M => wb_X12_findTogether_50 z1 z2 z3 (nI a) K27 K38 K y M Q) (fun _ _ _ => rfl) nn (fun b M' => (∀ x j, x ≠ 29 ∨ j ≠ a → gi M' x j = gi M x j) ∧ ∃ m, gi M' 29 a = nI m ∧ sd (eg M z1) nn a m ∧ (∀ j, m0.testBit j = true → m.testBit j = true) ∧ ∀ b', b' < b → m0.testBit b' = true → ∀ j, j < nn → eg M z1 b' j → m.testBit j = true) ?_ ?_ (Nat.zero_le _) ⟨fun _ _ _ => rfl, m0, hm, s0, fun _ h => h, fun b' h => by omega⟩
  · rintro b M' K hb ⟨fr, m, em, sm, g1, g2⟩ kk
    have hm2 := sm.1
    unfold wb_X12_findTogether_50
    rw [fr 0 41 (Or.inl (by decide)), e, nI_clamp (n := a) (by omega), em, bitM (by omega) (by omega), nI_add, nI_add, nI_clamp (n := b) (by omega)]
    refine bf (nI_ge hb (by omega)) ⟨v8, v8, bc (fun z => ⟨vp_in_nI (by omega) (by decide), ?_⟩) (fun z => ⟨v8, ?_⟩)⟩
    · rw [bI_1] at z
      obtain ⟨mb, eb, sb⟩ : ∃ mb, gi M' 29 b = nI mb ∧ sd (eg M z1) nn b mb := by
        by_cases y : b = a
        · subst y; exact ⟨m, em, sm⟩
        · rw [fr 29 b (Or.inr y)]; exact hs b hb
      have hmb := sb.1
      refine joinM i1 l1 hn hb ((fr 0 41 (Or.inl (by decide))).trans e) ⟨v8, kk _ ⟨fun x j q => ?_, ?_⟩⟩
      · rw [gi_ne q]; exact fr x j q
      · have ej : ∀ j, (bld (fun c => !decide (gi M' z1 (8 * b + c) = nI 0)) nn).testBit j = true ↔ j < nn ∧ eg M z1 b j := by
          intro j
          rw [bld_bit, Bool.and_eq_true, decide_eq_true_iff, fr z1 _ (Or.inl hz)]
          unfold eg
          by_cases y : gi M z1 (8 * b + j) = nI 0
          · rw [decide_eq_true y]; simp [y]
          · rw [decide_eq_false y]; simp [y]
        have hj := bld_lt (fun c => !decide (gi M' z1 (8 * b + c) = nI 0)) nn
        rw [eb, nI_or (by omega) (by omega), nI_or (by omega) (Nat.or_lt_two_pow (n := 32) (by omega) (by omega))]
        refine ⟨_, gi_eq .., ⟨Nat.or_lt_two_pow hm2 (Nat.or_lt_two_pow hmb hj), ?_, fun j => ?_⟩, fun j q => ?_, fun b' q w j hj2 ej2 => ?_⟩
        · rw [Nat.testBit_or, sm.2.1, Bool.true_or]
        · rw [Nat.testBit_or, Nat.testBit_or, Bool.or_eq_true, Bool.or_eq_true, ej]
          rintro (y | y | y)
          · exact sm.2.2 j y
          · exact Cn_trans (sm.2.2 b z) (sb.2.2 j y)
          · exact Cn_step (sm.2.2 b z) hb y.1 y.2
        · rw [Nat.testBit_or, g1 j q, Bool.true_or]
        · rw [Nat.testBit_or, Nat.testBit_or]
          by_cases y : b' = b
          · subst y
            rw [(ej j).mpr ⟨hj2, ej2⟩, Bool.or_true, Bool.or_true]
          · rw [g2 b' (by omega) w j hj2 ej2, Bool.true_or]
    · rw [nI_or0 (by omega)]
      refine kk _ ⟨fun x j q => ?_, m, gi_eq .., sm, g1, fun b' q w j hj2 ej2 => ?_⟩
      · rw [gi_ne q]; exact fr x j q
      · by_cases y : b' = b
        · subst y
          exact absurd (bI_1.mpr (g1 b' w)) z
        · exact g2 b' (by omega) w j hj2 ej2
  · rintro M' K ⟨fr, g⟩
    unfold wb_X12_findTogether_50
    rw [fr 0 41 (Or.inl (by decide)), e, nI_add]
    exact bt (nI_le (by omega) (by omega)) (k M' fr g)
def gd (E : Nat → Nat → Prop) (nn : Nat) (M : wM) (a t : Nat) : Prop := ∃ m, gi M 29 a = nI m ∧ sd E nn a m ∧ ((∀ j, Cn E nn a j → m.testBit j = true) ∨ t < ones m nn)
theorem gd_step {E : Nat → Nat → Prop} {M M' : wM} {t m0 : Nat} (hm : gi M 29 a = nI m0) (g : gd E nn M a t) (h0 : m0 < 2 ^ 31) (hnn : nn ≤ 8) (p : ∃ m, gi M' 29 a = nI m ∧ sd E nn a m ∧ (∀ j, m0.testBit j = true → m.testBit j = true) ∧ ∀ b, b < nn → m0.testBit b = true → ∀ j, j < nn → E b j → m.testBit j = true) : gd E nn M' a (t + 1) := by
  obtain ⟨m1, em1, s1, c1⟩ := g
  have b8 := p8 hnn
  obtain rfl : m1 = m0 := inj31 (em1.symm.trans hm) (by have := s1.1; omega) h0
  obtain ⟨m, em, s, g1, g2⟩ := p
  refine ⟨m, em, s, ?_⟩
  rcases c1 with c1 | c1
  · exact Or.inl (fun j q => g1 j (c1 j q))
  · by_cases z : ∃ i, m1.testBit i = false ∧ m.testBit i = true
    · obtain ⟨i, y1, y2⟩ := z
      have := ones_lt g1 y1 y2 nn (tb_lt s.1 y2)
      exact Or.inr (by omega)
    · refine Or.inl (fun j q => g1 j (q (fun x => m1.testBit x = true) s1.2.1 (fun x y hx hy sx exy => ?_)))
      cases w : m1.testBit y
      · exact absurd ⟨y, w, g2 x hx sx y hy exy⟩ z
      · rfl
theorem ft27 {Q : wM → Prop} (i1 : iaM z1) (l1 : lnM z1 = 64) (hn : nn ≤ 8) (e : gi M 0 41 = nI nn) (hz : z1 ≠ 29) (h0 : ∀ a, a < nn → gd (eg M z1) nn M a 0)
    (k : ∀ M' : wM, (∀ x j, x ≠ 29 → gi M' x j = gi M x j) → (∀ a, a < nn → gd (eg M z1) nn M' a nn) → ∃ n, wL_X12_findTogether_124 z1 z2 Q n (nI 0) M') : ∃ n, wL_X12_findTogether_27 z1 z2 Q n (nI 0) M := by
  have b8 := p8 hn
  refine lo1 (fun K y M => wb_X12_findTogether_27 z1 z2 K y M Q) (fun _ _ _ => rfl) nn (fun t M' => (∀ x j, x ≠ 29 → gi M' x j = gi M x j) ∧ ∀ a, a < nn → gd (eg M z1) nn M' a t) ?_ ?_ (Nat.zero_le _) ⟨fun _ _ _ => rfl, h0⟩
  · rintro t M1 K ht ⟨fr, g⟩ kk
    unfold wb_X12_findTogether_27
    rw [fr 0 41 (by decide), e]
    refine bf (nI_ge ht (by omega)) ?_
    refine lo1 (fun K' y M => wb_X12_findTogether_38 z1 z2 (nI t) K K' y M Q) (fun _ _ _ => rfl) nn (fun a M' => (∀ x j, x ≠ 29 → gi M' x j = gi M x j) ∧ (∀ a', a' < a → gd (eg M z1) nn M' a' (t + 1)) ∧ ∀ a', a ≤ a' → a' < nn → gd (eg M z1) nn M' a' t) ?_ ?_ (Nat.zero_le _) ⟨fr, fun a' h => by omega, fun a' _ h => g a' h⟩
    · rintro a M2 K2 ha ⟨fr2, ga, gb⟩ kk2
      unfold wb_X12_findTogether_38
      rw [fr2 0 41 (by decide), e]
      refine bf (nI_ge ha (by omega)) ?_
      have eE : eg M2 z1 = eg M z1 := by
        funext x y
        unfold eg
        rw [fr2 z1 _ hz]
      obtain ⟨m0, em, s0, -⟩ := gb a (Nat.le_refl _) ha
      refine ft50 (a := a) (m0 := m0) i1 l1 hn ((fr2 0 41 (by decide)).trans e) hz ha em (by rw [eE]; exact s0) (fun b hb => ?_) (fun M' f p => kk2 M' ⟨fun x j q => (f x j (Or.inl q)).trans (fr2 x j q), fun a' h => ?_, fun a' h h' => ?_⟩)
      · rw [eE]
        rcases Nat.lt_or_ge b a with z | z
        · obtain ⟨m, g1, g2, -⟩ := ga b z
          exact ⟨m, g1, g2⟩
        · obtain ⟨m, g1, g2, -⟩ := gb b z hb
          exact ⟨m, g1, g2⟩
      · rw [eE] at p
        by_cases y : a' = a
        · subst y
          exact gd_step em (gb a' (Nat.le_refl _) ha) (by have := s0.1; omega) hn p
        · obtain ⟨m, g1, g2⟩ := ga a' (by omega)
          exact ⟨m, by rw [f 29 a' (Or.inr y)]; exact g1, g2⟩
      · obtain ⟨m, g1, g2⟩ := gb a' (by omega) h'
        exact ⟨m, by rw [f 29 a' (Or.inr (by omega))]; exact g1, g2⟩
    · rintro M2 K2 ⟨fr2, ga, gb⟩
      unfold wb_X12_findTogether_38
      rw [fr2 0 41 (by decide), e, nI_add]
      exact bt (nI_le (by omega) (by omega)) (kk M2 ⟨fr2, ga⟩)
  · rintro M1 K ⟨fr, g⟩
    unfold wb_X12_findTogether_27
    rw [fr 0 41 (by decide), e]
    exact bt (nI_le (by omega) (by omega)) (k M1 fr g)
end FT
