/-! the faults of a test; prepare -/
def off (nn : Nat) : Nat → Nat
  | 0 => 0
  | a + 1 => off nn a + (nn - 1 - a)
theorem off_ok : ∀ nn, nn < 9 → (∀ b, b < nn → ∀ a, a < b → 2 * nn + 2 * (off nn a + (b - a - 1)) + 1 < nn * (nn + 1)) ∧ 2 * nn + 2 * off nn nn = nn * (nn + 1) ∧ nn * (nn + 1) ≤ 72 := by decide
theorem off_mono {nn a b : Nat} (h : a < b) : off nn a + (nn - 1 - a) ≤ off nn b := by
  induction b with
  | zero => omega
  | succ b ih =>
    show _ ≤ off nn b + (nn - 1 - b)
    by_cases z : a = b
    · subst z; omega
    · have := ih (by omega)
      omega
/-- fault f of nn nets: its nets and its rule -/
def FD (nn f m r : Nat) : Prop := (∃ i e, i < nn ∧ e < 2 ∧ f = 2 * i + e ∧ m = 2 ^ i ∧ r = e) ∨ (∃ a b e, a < b ∧ b < nn ∧ e < 2 ∧ f = 2 * nn + 2 * (off nn a + (b - a - 1)) + e ∧ m = 2 ^ a ||| 2 ^ b ∧ r = 2 + e)
theorem FD_uniq {nn f m r m' r' : Nat} (h : FD nn f m r) (k : FD nn f m' r') : m = m' ∧ r = r' := by
  rcases h with ⟨i, e, h1, h2, h3, rfl, rfl⟩ | ⟨a, b, e, h1, h2, h3, h4, rfl, rfl⟩ <;> rcases k with ⟨i', e', k1, k2, k3, rfl, rfl⟩ | ⟨a', b', e', k1, k2, k3, k4, rfl, rfl⟩
  · obtain ⟨rfl, rfl⟩ : i = i' ∧ r = r' := by omega
    exact ⟨rfl, rfl⟩
  · omega
  · omega
  · rcases Nat.lt_trichotomy a a' with z | z | z
    · have := off_mono (nn := nn) z
      omega
    · subst z
      obtain ⟨rfl, rfl⟩ : b = b' ∧ e = e' := by omega
      exact ⟨rfl, rfl⟩
    · have := off_mono (nn := nn) z
      omega
theorem off_find (nn q : Nat) : ∀ t, q < off nn t → ∃ a, a < t ∧ off nn a ≤ q ∧ q < off nn (a + 1)
  | 0, h => by
    have : off nn 0 = 0 := rfl
    omega
  | t + 1, h => by
    rcases Nat.lt_or_ge q (off nn t) with z | z
    · obtain ⟨a, h1, h2⟩ := off_find nn q t z
      exact ⟨a, by omega, h2⟩
    · exact ⟨t, by omega, z, h⟩
theorem FD_ex {nn f : Nat} (h8 : nn ≤ 8) (hf : f < nn * (nn + 1)) : ∃ m r, FD nn f m r := by
  obtain ⟨-, o2, -⟩ := off_ok nn (by omega)
  by_cases z : f < 2 * nn
  · exact ⟨_, _, Or.inl ⟨f / 2, f % 2, by omega, by omega, by omega, rfl, rfl⟩⟩
  · obtain ⟨a, h1, h2, h3⟩ := off_find nn ((f - 2 * nn) / 2) nn (by omega)
    have h4 : off nn (a + 1) = off nn a + (nn - 1 - a) := rfl
    exact ⟨_, _, Or.inr ⟨a, a + 1 + ((f - 2 * nn) / 2 - off nn a), f % 2, by omega, by omega, by omega, by omega, rfl, rfl⟩⟩
theorem FD_lt {nn f m r : Nat} (h8 : nn ≤ 8) (h : FD nn f m r) : m < 2 ^ nn ∧ r < 4 ∧ f < nn * (nn + 1) := by
  obtain ⟨o1, o2, -⟩ := off_ok nn (by omega)
  rcases h with ⟨i, e, h1, h2, h3, rfl, rfl⟩ | ⟨a, b, e, h1, h2, h3, h4, rfl, rfl⟩
  · refine ⟨Nat.pow_lt_pow_right (by decide) h1, by omega, ?_⟩
    have : 2 * nn ≤ nn * (nn + 1) := by
      rcases (show nn = 1 ∨ nn = 2 ∨ nn = 3 ∨ nn = 4 ∨ nn = 5 ∨ nn = 6 ∨ nn = 7 ∨ nn = 8 by omega) with rfl | rfl | rfl | rfl | rfl | rfl | rfl | rfl <;> decide
    omega
  · exact ⟨Nat.or_lt_two_pow (Nat.pow_lt_pow_right (by decide) (by omega)) (Nat.pow_lt_pow_right (by decide) h2), by omega, by have := o1 b h2 a h1; omega⟩
def FR (nn : Nat) (A : wM) (k : Nat) : Prop := gi A 54 4 = nI k ∧ ∀ f, f < k → ∀ m r, FD nn f m r → gi A 57 f = nI (m + 256 * r)
def k57 (X A : wM) : Prop := (∀ a j, a ≠ 57 → (a ≠ 54 ∨ j ≠ 4) → gi A a j = gi X a j) ∧ ∀ c, gp A c = gp X c
theorem k57_trans {A B C : wM} (h : k57 A B) (k : k57 B C) : k57 A C := ⟨fun x j p q => (k.1 x j p q).trans (h.1 x j p q), fun c => (k.2 c).trans (h.2 c)⟩
theorem addX {A X : wM} {nn k m r : Nat} {Q : wM → Prop} (hk : k < 72) (hm : m < 256) (hr : r < 4) (fd : FD nn k m r) (fr : FR nn A k) (x : k57 X A) (q : ∀ A' : wM, FR nn A' (k + 1) → k57 X A' → Q A') : w_X10_addFault (nI (m + 256 * r)) A Q := by
  unfold w_X10_addFault
  rw [fr.1, nI_clamp (n := k) (by omega), nI_add]
  refine bf (nI_ge hk (by decide)) ⟨vp_in_nI hk (by decide), q _ ⟨gi_eq .., fun f hf m' r' fd' => ?_⟩ ⟨fun a j h1 h2 => ?_, x.2⟩⟩
  · rw [gi_ne (Or.inl (by decide))]
    by_cases z : f = k
    · subst z
      obtain ⟨rfl, rfl⟩ := FD_uniq fd fd'
      rw [gi_eq]
    · rw [gi_ne (Or.inr z)]
      exact fr.2 f (by omega) m' r' fd'
  · rw [gi_ne h2, gi_ne (Or.inl h1)]
    exact x.1 a j h1 h2
theorem add_of {A X : wM} {nn k m r : Nat} {Q : wM → Prop} (hk : k < 72) (hm : m < 256) (hr : r < 4) (fd : FD nn k m r) (fr : FR nn A k) (x : k57 X A) (q : ∀ A' : wM, FR nn A' (k + 1) → k57 X A' → Q A') : w_X2_of (nI m) (nI r) A (fun r12 M13 => w_X10_addFault r12 M13 (fun M15 => Q M15)) := by
  unfold w_X2_of
  rw [of_v hm hr]
  exact addX hk hm hr fd fr x q
theorem listX {X : wM} {nn : Nat} {Q : wM → Prop} (h8 : nn ≤ 8) (e : gi X 12 0 = nI nn) (q : ∀ A : wM, FR nn A (nn * (nn + 1)) → k57 X A → Q A) : w_X10_listFaults X Q := by
  obtain ⟨o1, o2, o3⟩ := off_ok nn (by omega)
  have p : ∀ i, i < nn → 2 ^ i < 256 := fun i hi => Nat.lt_of_lt_of_le (Nat.pow_lt_pow_right (by decide) (show i < 8 by omega)) (by decide)
  refine lo1 (fun K y M => wb_X10_listFaults_7 K y M Q) (fun _ _ _ => rfl) nn (fun i A => FR nn A (2 * i) ∧ k57 X A) ?_ ?_ (Nat.zero_le _) ⟨⟨gi_eq .., fun f hf => by omega⟩, fun a j _ h => gi_ne h, fun _ => rfl⟩
  · rintro i A K hi ⟨fr, x⟩ kk
    unfold wb_X10_listFaults_7
    rw [x.1 12 0 (by decide) (by decide), e, bshl1 (by omega), nI_add]
    refine bf (nI_ge hi (by omega)) (add_of (nn := nn) (by omega) (p i hi) (by decide) (Or.inl ⟨i, 0, hi, by decide, rfl, rfl, rfl⟩) fr x (fun A1 f1 x1 => add_of (nn := nn) (by omega) (p i hi) (by decide) (Or.inl ⟨i, 1, hi, by decide, rfl, rfl, rfl⟩) f1 x1 (fun A2 f2 x2 => kk _ ⟨f2, x2⟩)))
  rintro A1 K1 ⟨fr1, x1⟩
  unfold wb_X10_listFaults_7
  rw [x1.1 12 0 (by decide) (by decide), e]
  refine bt (nI_le (by omega) (by omega)) ?_
  refine lo1 (fun K y M => wb_X10_listFaults_48 K y M Q) (fun _ _ _ => rfl) nn (fun a A => FR nn A (2 * nn + 2 * off nn a) ∧ k57 X A) ?_ ?_ (Nat.zero_le _) ⟨fr1, x1⟩
  · rintro a A K ha ⟨fr, x⟩ kk
    unfold wb_X10_listFaults_48
    rw [x.1 12 0 (by decide) (by decide), e, nI_add]
    refine bf (nI_ge ha (by omega)) ?_
    refine lo1 (fun K' y M => wb_X10_listFaults_63 (nI a) K K' y M Q) (fun _ _ _ => rfl) (i0 := a + 1) nn (fun b A => a < b ∧ FR nn A (2 * nn + 2 * (off nn a + (b - a - 1))) ∧ k57 X A) ?_ ?_ (by omega) ⟨by omega, by rw [show a + 1 - a - 1 = 0 by omega]; exact fr, x⟩
    · rintro b A' K' hb ⟨ab, fr', x'⟩ kk'
      have hp := Nat.or_lt_two_pow (n := 8) (p a ha) (p b hb)
      have hc := o1 b hb a ab
      have pa := p a ha
      have pb := p b hb
      unfold wb_X10_listFaults_63
      rw [x'.1 12 0 (by decide) (by decide), e, bshl1 (by omega), bshl1 (by omega), nI_or (by omega) (by omega), nI_add, nI_add]
      refine bf (nI_ge hb (by omega)) (add_of (nn := nn) (by omega) hp (by decide) (Or.inr ⟨a, b, 0, ab, hb, by decide, rfl, rfl, rfl⟩) fr' x' (fun A1 f1 x1 => add_of (nn := nn) (by omega) hp (by decide) (Or.inr ⟨a, b, 1, ab, hb, by decide, rfl, rfl, rfl⟩) f1 x1 (fun A2 f2 x2 => kk' _ ⟨by omega, ?_, x2⟩)))
      rw [show 2 * nn + 2 * (off nn a + (b + 1 - a - 1)) = 2 * nn + 2 * (off nn a + (b - a - 1)) + 1 + 1 by omega]
      exact f2
    · rintro A' K' ⟨ab, fr', x'⟩
      unfold wb_X10_listFaults_63
      rw [x'.1 12 0 (by decide) (by decide), e, nI_add]
      refine bt (nI_le (by omega) (by omega)) (kk _ ⟨?_, x'⟩)
      rw [show 2 * nn + 2 * off nn (a + 1) = 2 * nn + 2 * (off nn a + (nn - a - 1)) by
        have : off nn (a + 1) = off nn a + (nn - 1 - a) := rfl
        omega]
      exact fr'
  · rintro A K ⟨fr, x⟩
    unfold wb_X10_listFaults_48
    rw [x.1 12 0 (by decide) (by decide), e]
    refine bt (nI_le (by omega) (by omega)) (q A ?_ x)
    rw [← o2]
    exact fr
/-- the class, prepared for a test -/
def PR (X A : wM) (s nn : Nat) : Prop := ((∀ a j, a < 54 ∨ 57 < a → gi A a j = gi X a j) ∧ ∀ c, gp A c = gp X c) ∧ gi A 54 1 = nI (rc s nn) ∧ (∀ t, t < rc s nn → gi A 55 t = nI (rowV s nn t) ∧ gi A 56 t = nI (lvR X (rowV s nn t) nn)) ∧ FR nn A (nn * (nn + 1))
theorem prepX {X : wM} {s nn : Nat} {Q : wM → Prop} (hs : s < 3) (nf : NF X nn) (q : ∀ A : wM, PR X A s nn → Q A) : w_X10_prepare (nI s) X Q := by
  have h8 := nf.1
  have e := nf.2.1
  have r8 := rc_le hs h8
  have b8 := p8 h8
  unfold w_X10_prepare
  refine rcX hs h8 e ?_
  rw [show jmin (nI (rc s nn)) (nI 8) = nI (rc s nn) by
    unfold jmin
    by_cases z : rc s nn = 8
    · rw [z]; decide
    · rw [if_neg (by rw [lt_n (by omega), nI_toInt (by decide)]; omega)]]
  refine lo1 (fun K y M => wb_X10_prepare_16 (nI s) K y M Q) (fun _ _ _ => rfl) (rc s nn) (fun i A => ((∀ a j, a < 54 ∨ 57 < a → gi A a j = gi X a j) ∧ ∀ c, gp A c = gp X c) ∧ gi A 54 1 = nI (rc s nn) ∧ ∀ t, t < i → gi A 55 t = nI (rowV s nn t) ∧ gi A 56 t = nI (lvR X (rowV s nn t) nn)) ?_ ?_ (Nat.zero_le _) ⟨⟨fun a j h => gi_ne (Or.inl (by omega)), fun _ => rfl⟩, gi_eq .., fun t h => by omega⟩
  · rintro i A K hi ⟨⟨f, g⟩, e1, h⟩ kk
    have hrow := rowV_lt hs hi
    have v8 : vp_in (nI i) 8 := vp_in_nI (by omega) (by decide)
    have fA : ∀ v a j, a < 54 ∨ 57 < a → gi (si A 55 i v) a j = gi X a j := fun v a j ha => by rw [gi_ne (Or.inl (by omega))]; exact f a j ha
    unfold wb_X10_prepare_16
    rw [e1]
    refine bf (nI_ge hi (by omega)) (tstrX hs h8 hi ((f 12 0 (by decide)).trans e) ⟨v8, v8, ?_⟩)
    rw [nI_clamp (n := i) (by omega), gi_eq]
    refine levX nf (by omega) (fA _ 12 0 (by decide)) (fun j => fA _ 25 j (by omega)) ⟨v8, ?_⟩
    rw [nI_add]
    refine kk _ ⟨⟨fun a j ha => ?_, g⟩, ?_, fun t ht => ?_⟩
    · rw [gi_ne (Or.inl (by omega))]; exact fA _ a j ha
    · rw [gi_ne (Or.inl (by decide)), gi_ne (Or.inl (by decide))]; exact e1
    · by_cases y : t = i
      · subst y
        rw [gi_ne (Or.inl (by decide)), gi_eq, gi_eq]
        exact ⟨rfl, rfl⟩
      · rw [gi_ne (Or.inl (by decide)), gi_ne (Or.inr y), gi_ne (Or.inr y), gi_ne (Or.inl (by decide))]
        exact h t (by omega)
  · rintro A K ⟨⟨f, g⟩, e1, h⟩
    unfold wb_X10_prepare_16
    rw [e1]
    refine bt (nI_le (by omega) (by omega)) (listX h8 ((f 12 0 (by decide)).trans e) (fun A2 fr x => q A2 ⟨⟨fun a j ha => ?_, fun c => (x.2 c).trans (g c)⟩, ?_, fun t ht => ?_, fr⟩))
    · rw [x.1 a j (by omega) (Or.inl (by omega))]; exact f a j ha
    · rw [x.1 54 1 (by decide) (by decide)]; exact e1
    · rw [x.1 55 t (by decide) (Or.inl (by decide)), x.1 56 t (by decide) (Or.inl (by decide))]
      exact h t ht
theorem Inv_pr {X A M : wM} {s nn : Nat} (h : Inv X M) (p : PR X A s nn) : Inv A M :=
  Inv_fr (T := [54, 55, 56, 57]) (S := []) h ⟨fun a j q => p.1.1 a j (by
    by_cases z : a < 54 ∨ 57 < a
    · exact z
    · exfalso
      refine q ?_
      rcases (show a = 54 ∨ a = 55 ∨ a = 56 ∨ a = 57 by omega) with rfl | rfl | rfl | rfl <;> simp [cX]), p.1.2⟩ sM_refl
theorem ia_X : iaX 55 ∧ lnX 55 = 8 ∧ iaX 56 ∧ lnX 56 = 8 := by
  unfold iaX
  decide
theorem colX {A : wM} {z n R : Nat} {f : Nat → Nat} {Q : Int32 → wM → Prop} (hz : iaX z) (hl : lnX z = 8) (hR : R ≤ 8) (hn : n < 8) (e : gi A 54 1 = nI R) (hf : ∀ t, t < R → gi A z t = nI (f t) ∧ f t < 256) (q : Q (nI (bld (fun t => (f t).testBit n) R)) A) : w_X10_column z (nI n) A Q := by
  refine ⟨hz, lo2 (fun K y3 y4 M => wb_X10_column_5 z (nI n) K y3 y4 M Q) (fun _ _ _ _ => rfl) R (fun i y M' => M' = A ∧ y = nI (bld (fun t => (f t).testBit n) i)) ?_ ?_ (Nat.zero_le _) ⟨rfl, rfl⟩⟩
  · rintro i y M' K hi ⟨rfl, rfl⟩ kk
    obtain ⟨f1, f2⟩ := hf i hi
    unfold wb_X10_column_5
    rw [e, hl, nI_clamp (n := i) (by omega), f1, nI_add]
    exact bf (nI_ge hi (by omega)) ⟨vp_in_nI (by omega) (by decide), bit_w (by omega) (by omega) (kk _ _ ⟨rfl, bld_or (f := fun t => (f t).testBit n) (by omega)⟩)⟩
  · rintro y M' K ⟨rfl, rfl⟩
    unfold wb_X10_column_5
    rw [e]
    exact bt (nI_le (by omega) (by omega)) q
theorem bld_congr {f g : Nat → Bool} : ∀ k, (∀ i, i < k → f i = g i) → bld f k = bld g k
  | 0, _ => rfl
  | k + 1, h => by
    show bld f k ||| (f k).toNat * 2 ^ k = bld g k ||| (g k).toNat * 2 ^ k
    rw [bld_congr k (fun i hi => h i (by omega)), h k (by omega)]
theorem law_word (x1 x2 x3 : Int32) (Mx Mm : wM) (h : Inv Mx Mm) : w_X11_word x1 x2 x3 Mx (fun r A => w_X12_word x1 x2 x3 Mm (fun r2 B => r = r2 ∧ Inv A B)) := by
  obtain ⟨nc, nn, h1, h8, -, -, e5, e6, -⟩ := Inv_cf h
  have nf := Inv_nf h h8 e5
  have b8 := p8 h8
  unfold w_X11_word
  refine isSort_w (fun c1 => bf ne10 (hasNet_w h8 e5 (fun c2 => bf ne10 ?_) (fun c2 => bt rfl ?_))) (fun c1 => bt rfl (in_f (by decide) (hi_N (by decide)) c1 (bt rfl ⟨rfl, h⟩)))
  · obtain ⟨s, hs, rfl, es⟩ := nI_ex (x := x1) c1.1
    obtain ⟨n, hn, rfl, en⟩ := nI_ex (x := x2) c2.1
    have s3 : s < 3 := by omega
    have n8 : n < nn := by omega
    have r8 := rc_le s3 h8
    have im : ∀ Q : Int32 → wM → Prop, w_X12_in x3.toInt64 (lN 0) (lN 1) Mm (fun r7 M8 => (r7 = (nI 0) → Q (-1) M8) ∧ (¬ r7 = (nI 0) → (x3 = (nI 0) → ∃ k, wL_X12_word_42 (nI s) (nI n) Q k (nI 0) (nI 0) M8) ∧ (¬ x3 = (nI 0) → w_X12_findTogether 28 27 M8 (fun M17 => w_X12_answerNow (nI s) (nI n) M17 (fun r18 M19 => Q r18 M19))))) → w_X12_word (nI s) (nI n) x3 Mm Q := by
      intro Q q
      unfold w_X12_word
      exact in_t (by decide) (hi_N (by decide)) c1 (bf ne10 (isNet_w h8 e6 (fun _ => bf ne10 q) (fun z => absurd c2 z)))
    by_cases c3 : 0 ≤ x3.toInt ∧ x3.toInt ≤ 1
    · refine bf (by rw [lt_n (by decide)]; omega) (bt (by rw [le_n (by decide)]; omega) (prepX s3 nf (fun A p => ?_)))
      obtain ⟨pk, p1, p2, p3⟩ := id p
      have rl2 : ∀ t, t < rc s nn → rowV s nn t < 256 := fun t ht => by have := rowV_lt s3 ht; omega
      refine bc (fun z => ?_) (fun z => ?_)
      · refine colX (f := rowV s nn) ia_X.1 ia_X.2.1 r8 (by omega) p1 (fun t ht => ⟨(p2 t ht).1, rl2 t ht⟩) (im _ (in_t (by decide) (hi_N (by decide)) c3 (bf ne10 (bt z ?_))))
        refine lo2 (fun K y4 y5 M => wb_X12_word_42 (nI s) (nI n) K y4 y5 M _) (fun _ _ _ _ => rfl) (rc s nn) (fun i y M' => M' = Mm ∧ y = nI (bld (fun t => (rowV s nn t).testBit n) i)) ?_ ?_ (Nat.zero_le _) ⟨rfl, rfl⟩
        · rintro i y M' K hi ⟨rfl, rfl⟩ kk
          have := rl2 i hi
          unfold wb_X12_word_42
          refine rcM s3 h8 e6 (bf (nI_ge hi (by omega)) (rowAtM s3 h8 hi e6 ?_))
          rw [bitM (by omega) (by omega), nI_add]
          exact kk _ _ ⟨rfl, bld_or (f := fun t => (rowV s nn t).testBit n) (by omega)⟩
        · rintro y M' K ⟨rfl, rfl⟩
          unfold wb_X12_word_42
          exact rcM s3 h8 e6 (bt (nI_le (by omega) (by omega)) ⟨rfl, Inv_pr h p⟩)
      · refine colX (f := fun t => lvR Mx (rowV s nn t) nn) ia_X.2.2.1 ia_X.2.2.2 r8 (by omega) p1 (fun t ht => ⟨(p2 t ht).2, (lvR_bit nf (rl2 t ht)).1⟩) (im _ (in_t (by decide) (hi_N (by decide)) c3 (bf ne10 (bf z (togM h h8 e5 (fun M' f g => ?_))))))
        obtain ⟨mk, r, hp, k1, k2⟩ := g n n8
        have hm := hp.1
        refine ansM s3 h8 n8 ((f 0 41 (by decide) (by decide)).trans e6) k1 k2 (by omega) hp.2.2.1 ⟨?_, Inv_pr (Inv_sc h f) p⟩
        rw [bld_congr (g := fun t => upB mk r (rowV s nn t)) (rc s nn) (fun t ht => (lvR_bit nf (rl2 t ht)).2.1 n n8 mk r hp)]
    · have w := im (fun r2 B => (-1 : Int32) = r2 ∧ Inv Mx B) (in_f (by decide) (hi_N (by decide)) c3 (bt rfl ⟨rfl, h⟩))
      refine bc (fun _ => w) (fun y => bf (fun z => ?_) w)
      rw [lt_n (by decide)] at y
      rw [le_n (by decide)] at z
      omega
  · unfold w_X12_word
    exact in_t (by decide) (hi_N (by decide)) c1 (bf ne10 (isNet_w h8 e6 (fun z => absurd z c2) (fun _ => bt rfl ⟨rfl, h⟩)))
