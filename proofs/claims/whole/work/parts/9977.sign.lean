/-! the faults that a test does not see, or does not part: the class -/
theorem loA {α : Type} {L : Nat → α → Int32 → wM → Prop} (B : (α → Int32 → wM → Prop) → α → Int32 → wM → Prop) (hL : ∀ k a y M, L (k + 1) a y M = B (L k) a y M) {i0 : Nat} (n : Nat) (I : Nat → α → wM → Prop)
    (step : ∀ i a M K, i < n → I i a M → (∀ a' M', I (i + 1) a' M' → K a' (nI (i + 1)) M') → B K a (nI i) M) (fin : ∀ a M K, I n a M → B K a (nI n) M) (hi : i0 ≤ n) {a : α} {M : wM} (h0 : I i0 a M) : ∃ k, L k a (nI i0) M := by
  have key : ∀ k i a M, i + k = n → I i a M → L (k + 1) a (nI i) M := by
    intro k
    induction k with
    | zero =>
      intro i a M hi h
      obtain rfl : i = n := by omega
      rw [hL]
      exact fin a M _ h
    | succ k ih =>
      intro i a M hi h
      rw [hL]
      exact step i a M _ (by omega) h (fun a' M' h' => ih (i + 1) a' M' (by omega) h')
  exact ⟨n - i0 + 1, key (n - i0) i0 a M (by omega) h0⟩
def sgN (v : Nat → Nat) : Nat → Nat
  | 0 => 0
  | k + 1 => sgN v k * 256 + v k
theorem sgn_lt {v : Nat → Nat} : ∀ k, (∀ t, t < k → v t < 256) → sgN v k < 2 ^ (8 * k)
  | 0, _ => Nat.one_pos
  | k + 1, h => by
    have h1 := sgn_lt k (fun t ht => h t (by omega))
    have h2 := h k (by omega)
    show sgN v k * 256 + v k < 2 ^ (8 * (k + 1))
    rw [show 8 * (k + 1) = 8 * k + 8 by omega, Nat.pow_add, show (2 : Nat) ^ 8 = 256 by decide]
    omega
theorem sgn_inj {v w : Nat → Nat} : ∀ k, (∀ t, t < k → v t < 256) → (∀ t, t < k → w t < 256) → (sgN v k = sgN w k ↔ ∀ t, t < k → v t = w t)
  | 0, _, _ => ⟨fun _ t ht => by omega, fun _ => rfl⟩
  | k + 1, hv, hw => by
    have ih := sgn_inj k (fun t ht => hv t (by omega)) (fun t ht => hw t (by omega))
    have h1 := hv k (by omega)
    have h2 := hw k (by omega)
    show sgN v k * 256 + v k = sgN w k * 256 + w k ↔ _
    constructor
    · intro e t ht
      by_cases z : t = k
      · subst z; omega
      · exact ih.mp (by omega) t (by omega)
    · intro e
      rw [ih.mpr (fun t ht => e t (by omega)), e k (by omega)]
theorem sh8 : (((nI 8).toInt64 &&& 63).toBitVec.smod 64).toNat = 8 := by decide
theorem nI_64 {b : Nat} (h : b < 2 ^ 31) : (nI b).toInt64 = lN b := by
  apply Int64.toInt_inj.mp
  rw [Int32.toInt_toInt64, nI_toInt h, lN_toInt h]
theorem shl8 {a b : Nat} (ha : a < 2 ^ 56) (hb : b < 256) : jlshl (lN a) (nI 8) ||| (nI b).toInt64 = lN (a * 256 + b) := by
  rw [nI_64 (by omega)]
  apply Int64.toBitVec_inj.mp
  unfold jlshl
  rw [Int64.toBitVec_or, Int64.toBitVec_shiftLeft, BitVec.shiftLeft_eq', sh8]
  apply BitVec.eq_of_toNat_eq
  show ((BitVec.ofNat 64 a <<< 8) ||| BitVec.ofNat 64 b).toNat = (BitVec.ofNat 64 (a * 256 + b)).toNat
  rw [BitVec.toNat_or, BitVec.toNat_shiftLeft, BitVec.toNat_ofNat, BitVec.toNat_ofNat, BitVec.toNat_ofNat, Nat.mod_eq_of_lt (show a < 2 ^ 64 by omega), Nat.mod_eq_of_lt (show b < 2 ^ 64 by omega), Nat.mod_eq_of_lt (show a * 256 + b < 2 ^ 64 by omega), Nat.shiftLeft_eq, Nat.mod_eq_of_lt (show a * 2 ^ 8 < 2 ^ 64 by omega), ← Nat.shiftLeft_eq, ← Nat.shiftLeft_add_eq_or_of_lt (i := 8) (by omega), Nat.shiftLeft_eq]
theorem lcm0 {a b : Nat} (ha : a < 2 ^ 64) (hb : b < 2 ^ 64) : lg_cmp (lN a) (lN b) = nI 0 ↔ a = b := by
  rw [nI_0, lg_cmp_eq]
  constructor
  · intro e
    have e2 := congrArg (fun z : Int64 => z.toBitVec.toNat) e
    have e3 : (BitVec.ofNat 64 a).toNat = (BitVec.ofNat 64 b).toNat := e2
    rw [BitVec.toNat_ofNat, BitVec.toNat_ofNat, Nat.mod_eq_of_lt ha, Nat.mod_eq_of_lt hb] at e3
    exact e3
  · intro e; rw [e]
theorem gl_sl (M : wM) (a j : Nat) (x : Int64) (a' j' : Nat) : gl (sl M a j x) a' j' = if a' = a ∧ j' = j then x else gl M a' j' := rfl
theorem gl_eq (M : wM) (a j : Nat) (x : Int64) : gl (sl M a j x) a j = x := by rw [gl_sl, if_pos ⟨rfl, rfl⟩]
theorem gl_ne {M : wM} {a j a' j' : Nat} {x : Int64} (h : a' ≠ a ∨ j' ≠ j) : gl (sl M a j x) a' j' = gl M a' j' := by
  rw [gl_sl, if_neg (fun q => h.elim (fun z => z q.1) (fun z => z q.2))]
theorem sgoX {X A0 A : wM} {s nn m r : Nat} {Q : Int64 → wM → Prop} (hs : s < 3) (h8 : nn ≤ 8) (p : PR X A0 s nn) (k : ∀ a j, gi A a j = gi A0 a j) (hm : m < 256) (hr : r < 4) (q : Q (lN (sgN (fun t => stl (rowV s nn t) m r) (rc s nn))) A) : w_X10_signOf (nI (m + 256 * r)) A Q := by
  have r8 := rc_le hs h8
  have b8 := p8 h8
  unfold w_X10_signOf
  refine loA (fun K y2 y4 M => wb_X10_signOf_5 (nI (m + 256 * r)) K y2 y4 M Q) (fun _ _ _ _ => rfl) (rc s nn) (fun i y M => M = A ∧ y = lN (sgN (fun t => stl (rowV s nn t) m r) i)) ?_ ?_ (Nat.zero_le _) ⟨rfl, rfl⟩
  · rintro i y M K hi ⟨rfl, rfl⟩ kk
    have hrow := rowV_lt hs hi
    have sl8 := stl_lt (lv := rowV s nn i) (mk := m) (r := r) (by omega) hm
    have sg := sgn_lt (v := fun t => stl (rowV s nn t) m r) i (fun t ht => stl_lt (by have := rowV_lt hs (show t < rc s nn by omega); omega) hm)
    have sg2 : sgN (fun t => stl (rowV s nn t) m r) i < 2 ^ 56 := Nat.lt_of_lt_of_le sg (Nat.pow_le_pow_right (by decide) (by omega))
    unfold wb_X10_signOf_5
    rw [k 54 1, p.2.1, nI_clamp (n := i) (by omega), k 55 i, (p.2.2.1 i hi).1, nI_add]
    refine bf (nI_ge hi (by omega)) ⟨vp_in_nI (by omega) (by decide), settleX (by omega) hm hr ?_⟩
    rw [shl8 sg2 sl8]
    exact kk _ _ ⟨rfl, rfl⟩
  · rintro y M K ⟨rfl, rfl⟩
    unfold wb_X10_signOf_5
    rw [k 54 1, p.2.1]
    exact bt (nI_le (by omega) (by omega)) q
theorem stl_0 {row : Nat} (h : row < 256) : stl row 0 0 = row := by
  apply Nat.eq_of_testBit_eq
  intro j
  rw [stl_bit h (by decide), Nat.zero_testBit, if_neg (by decide)]
theorem lvG_0 {m r row : Nat} (h : row < 256) (hm : m < 256) : lvG m r 0 0 row = stl row m r := by
  unfold lvG
  rw [Nat.and_zero, if_pos rfl, stl_0 (stl_lt h hm)]
/-- what fault f makes of row t -/
noncomputable def vF (s nn f t : Nat) : Nat := stl (rowV s nn t) (gq nn (nI f)).1 (gq nn (nI f)).2
noncomputable def sF (s nn f : Nat) : Nat := sgN (vF s nn f) (rc s nn)
def sE (s nn : Nat) : Nat := sgN (rowV s nn) (rc s nn)
section SIG
variable {X A A0 : wM} {s nn : Nat}
theorem gq_f {f : Nat} (h8 : nn ≤ 8) (hf : f < nn * (nn + 1)) : GD nn (nI f) (gq nn (nI f)).1 (gq nn (nI f)).2 := gq_gd (gd_f h8 hf)
theorem vF_lt {f t : Nat} (hs : s < 3) (h8 : nn ≤ 8) (hf : f < nn * (nn + 1)) (ht : t < rc s nn) : vF s nn f t < 2 ^ nn := by
  have v := (GD_fv h8 (gq_f h8 hf)).1
  have b8 := p8 h8
  have := rowV_lt hs ht
  unfold vF
  rw [← lvG_0 (by omega) (by omega)]
  exact lvG_lt2 h8 v (Nat.two_pow_pos nn) this
theorem vF_256 {f t : Nat} (hs : s < 3) (h8 : nn ≤ 8) (hf : f < nn * (nn + 1)) (ht : t < rc s nn) : vF s nn f t < 256 := by
  have := vF_lt hs h8 hf ht
  have := p8 h8
  omega
theorem rw_256 {t : Nat} (hs : s < 3) (h8 : nn ≤ 8) (ht : t < rc s nn) : rowV s nn t < 256 := by
  have := rowV_lt hs ht
  have := p8 h8
  omega
theorem sg64 {v : Nat → Nat} (hs : s < 3) (h8 : nn ≤ 8) (h : ∀ t, t < rc s nn → v t < 256) : sgN v (rc s nn) < 2 ^ 64 := by
  have r8 := rc_le hs h8
  exact Nat.lt_of_lt_of_le (sgn_lt _ h) (Nat.pow_le_pow_right (by decide) (by omega))
theorem sF_lt {f : Nat} (hs : s < 3) (h8 : nn ≤ 8) (hf : f < nn * (nn + 1)) : sF s nn f < 2 ^ 64 := sg64 hs h8 (fun t ht => vF_256 hs h8 hf ht)
theorem sE_lt (hs : s < 3) (h8 : nn ≤ 8) : sE s nn < 2 ^ 64 := sg64 hs h8 (fun t ht => rw_256 hs h8 ht)
theorem sgn_congr {v w : Nat → Nat} : ∀ k, (∀ t, t < k → v t = w t) → sgN v k = sgN w k
  | 0, _ => rfl
  | k + 1, h => by
    show sgN v k * 256 + v k = sgN w k * 256 + w k
    rw [sgn_congr k (fun t ht => h t (by omega)), h k (by omega)]
/-- the signs laid -/
def SG (A0 A : wM) (s nn : Nat) : Prop := ((∀ a j, gi A a j = gi A0 a j) ∧ ∀ c, gp A c = gp A0 c) ∧ gl A 54 7 = lN (sE s nn) ∧ ∀ f, f < nn * (nn + 1) → gl A 58 f = lN (sF s nn f)
theorem sgfX {Q : wM → Prop} (hs : s < 3) (h8 : nn ≤ 8) (p : PR X A0 s nn) (q : ∀ A : wM, SG A0 A s nn → Q A) : w_X10_signFaults A0 Q := by
  have o := (off_ok nn (by omega)).2.2
  have b8 := p8 h8
  unfold w_X10_signFaults
  have e0 : sgN (fun t => stl (rowV s nn t) 0 0) (rc s nn) = sE s nn := sgn_congr _ (fun t ht => stl_0 (rw_256 hs h8 ht))
  refine sgoX (m := 0) (r := 0) hs h8 p (fun _ _ => rfl) (by decide) (by decide) ?_
  rw [e0]
  refine lo1 (fun K y M => wb_X10_signFaults_11 K y M Q) (fun _ _ _ => rfl) (nn * (nn + 1)) (fun i A => ((∀ a j, gi A a j = gi A0 a j) ∧ ∀ c, gp A c = gp A0 c) ∧ gl A 54 7 = lN (sE s nn) ∧ ∀ f, f < i → gl A 58 f = lN (sF s nn f)) ?_ ?_ (Nat.zero_le _) ⟨⟨fun _ _ => rfl, fun _ => rfl⟩, gl_eq .., fun f hf => by omega⟩
  · rintro i A K hi ⟨⟨f1, f2⟩, f3, f4⟩ kk
    have gd := gq_f h8 hi
    have v := GD_fv h8 gd
    have vl := v.1
    have e57 : gi A0 57 i = nI ((gq nn (nI i)).1 + 256 * (gq nn (nI i)).2) := by
      rcases gd with ⟨e, -⟩ | ⟨f, e, fd⟩
      · exact absurd e (n4_ne (by omega))
      · have fl := FD_lt h8 fd
        obtain rfl : i = f := inj31 e (by omega) (by omega)
        exact p.2.2.2.2 i hi _ _ fd
    have v72 : vp_in (nI i) 72 := vp_in_nI (by omega) (by decide)
    unfold wb_X10_signFaults_11
    rw [f1 54 4, p.2.2.2.1, nI_clamp (n := i) (by omega), f1 57 i, e57, nI_add]
    refine bf (nI_ge hi (by omega)) ⟨v72, sgoX hs h8 p f1 (by omega) v.2.1 ⟨v72, kk _ ⟨⟨f1, f2⟩, ?_, fun f hf => ?_⟩⟩⟩
    · rw [gl_ne (Or.inl (by decide))]; exact f3
    · by_cases z : f = i
      · subst z
        rw [gl_eq]
        rfl
      · rw [gl_ne (Or.inr z)]; exact f4 f (by omega)
  · rintro A K ⟨⟨f1, f2⟩, f3, f4⟩
    unfold wb_X10_signFaults_11
    rw [f1 54 4, p.2.2.2.1]
    exact bt (nI_le (by omega) (by omega)) (q A ⟨⟨f1, f2⟩, f3, f4⟩)
noncomputable def unB (s nn f : Nat) : Bool := decide (sF s nn f = sE s nn)
noncomputable def alB (s nn f g : Nat) : Bool := !unB s nn f && decide (sF s nn f = sF s nn g)
theorem alB_sym (f g : Nat) : alB s nn f g = alB s nn g f := by
  unfold alB unB
  by_cases z : sF s nn f = sF s nn g
  · rw [z]
  · rw [decide_eq_false z, Bool.and_false, decide_eq_false (show ¬ sF s nn g = sF s nn f from fun y => z y.symm), Bool.and_false]
def cu (u : Nat → Bool) : Nat → Nat
  | 0 => 0
  | k + 1 => cu u k + (u k).toNat
def fuU (u : Nat → Bool) : Nat → Int32
  | 0 => -4
  | k + 1 => if u k = true ∧ fuU u k = -4 then nI k else fuU u k
theorem fu_no {u : Nat → Bool} : ∀ k, (∀ t, t < k → u t = false) → fuU u k = -4
  | 0, _ => rfl
  | k + 1, h => by
    show (if u k = true ∧ fuU u k = -4 then nI k else fuU u k) = -4
    rw [if_neg (fun z => by rw [h k (by omega)] at z; exact absurd z.1 (by decide))]
    exact fu_no k (fun t ht => h t (by omega))
theorem fu_at {u : Nat → Bool} {i : Nat} (hi : i < 2 ^ 31) (h : ∀ t, t < i → u t = false) (hu : u i = true) : ∀ d, fuU u (i + 1 + d) = nI i
  | 0 => by
    show (if u i = true ∧ fuU u i = -4 then nI i else fuU u i) = nI i
    rw [if_pos ⟨hu, fu_no i h⟩]
  | d + 1 => by
    show (if u (i + 1 + d) = true ∧ fuU u (i + 1 + d) = -4 then nI (i + 1 + d) else fuU u (i + 1 + d)) = nI i
    rw [fu_at hi h hu d, if_neg (fun z => n4_ne hi z.2)]
theorem unsX {Q : Int32 → wM → Prop} (hs : s < 3) (h8 : nn ≤ 8) (p : PR X A0 s nn) (g : SG A0 A s nn) (q : Q (nI (cu (unB s nn) (nn * (nn + 1)))) A) : w_X10_unseenFaults A Q := by
  have o := (off_ok nn (by omega)).2.2
  refine lo2 (fun K y1 y2 M => wb_X10_unseenFaults_4 K y1 y2 M Q) (fun _ _ _ _ => rfl) (nn * (nn + 1)) (fun i y M => M = A ∧ y = nI (cu (unB s nn) i)) ?_ ?_ (Nat.zero_le _) ⟨rfl, rfl⟩
  · rintro i y M K hi ⟨rfl, rfl⟩ kk
    unfold wb_X10_unseenFaults_4
    rw [g.1.1 54 4, p.2.2.2.1, nI_clamp (n := i) (by omega), g.2.1, g.2.2 i hi, lcm0 (sF_lt hs h8 hi) (sE_lt hs h8), nI_add, nI_add, nI_add]
    refine bf (nI_ge hi (by omega)) ⟨vp_in_nI (by omega) (by decide), bc (fun z => kk _ _ ⟨rfl, ?_⟩) (fun z => kk _ _ ⟨rfl, ?_⟩)⟩
    · show _ = nI (cu (unB s nn) i + (unB s nn i).toNat)
      unfold unB
      rw [decide_eq_true z]
      rfl
    · show _ = nI (cu (unB s nn) i + (unB s nn i).toNat)
      unfold unB
      rw [decide_eq_false z]
      rfl
  · rintro y M K ⟨rfl, rfl⟩
    unfold wb_X10_unseenFaults_4
    rw [g.1.1 54 4, p.2.2.2.1]
    exact bt (nI_le (by omega) (by omega)) q
theorem fstX {Q : Int32 → wM → Prop} (hs : s < 3) (h8 : nn ≤ 8) (p : PR X A0 s nn) (g : SG A0 A s nn) (q : Q (fuU (unB s nn) (nn * (nn + 1))) A) : w_X10_firstUnseenFault A Q := by
  have o := (off_ok nn (by omega)).2.2
  refine lo1 (fun K y1 M => wb_X10_firstUnseenFault_2 K y1 M Q) (fun _ _ _ => rfl) (nn * (nn + 1)) (fun i M => M = A ∧ ∀ t, t < i → unB s nn t = false) ?_ ?_ (Nat.zero_le _) ⟨rfl, fun t ht => by omega⟩
  · rintro i M K hi ⟨rfl, hh⟩ kk
    unfold wb_X10_firstUnseenFault_2
    rw [g.1.1 54 4, p.2.2.2.1, nI_clamp (n := i) (by omega), g.2.1, g.2.2 i hi, lcm0 (sF_lt hs h8 hi) (sE_lt hs h8), nI_add]
    refine bf (nI_ge hi (by omega)) ⟨vp_in_nI (by omega) (by decide), bc (fun z => ?_) (fun z => kk _ ⟨rfl, fun t ht => ?_⟩)⟩
    · have := fu_at (u := unB s nn) (i := i) (by omega) hh (decide_eq_true z) (nn * (nn + 1) - (i + 1))
      rw [show i + 1 + (nn * (nn + 1) - (i + 1)) = nn * (nn + 1) by omega] at this
      rw [this] at q
      exact q
    · by_cases y : t = i
      · rw [y]; exact decide_eq_false z
      · exact hh t (by omega)
  · rintro M K ⟨rfl, hh⟩
    unfold wb_X10_firstUnseenFault_2
    rw [g.1.1 54 4, p.2.2.2.1]
    rw [fu_no _ hh] at q
    exact bt (nI_le (by omega) (by omega)) q
theorem alkX {Q : Int32 → wM → Prop} (hs : s < 3) (h8 : nn ≤ 8) (p : PR X A0 s nn) (g : SG A0 A s nn) (q : Q (nI (cnt2 (alB s nn) (nn * (nn + 1)) (nn * (nn + 1)))) A) : w_X10_alikePairs A Q := by
  have o := (off_ok nn (by omega)).2.2
  refine lo2 (fun K y1 y2 M => wb_X10_alikePairs_4 K y1 y2 M Q) (fun _ _ _ _ => rfl) (nn * (nn + 1)) (fun i y M => M = A ∧ y = nI (cnt2 (alB s nn) (nn * (nn + 1)) i)) ?_ ?_ (Nat.zero_le _) ⟨rfl, rfl⟩
  · rintro f y M K hf ⟨rfl, rfl⟩ kk
    unfold wb_X10_alikePairs_4
    rw [g.1.1 54 4, p.2.2.2.1, nI_add]
    refine bf (nI_ge hf (by omega)) ?_
    refine lo2 (fun K' y1 y3 M => wb_X10_alikePairs_16 (nI f) K K' y1 y3 M Q) (fun _ _ _ _ => rfl) (i0 := f + 1) (nn * (nn + 1)) (fun i y M' => M' = M ∧ f < i ∧ y = nI (cnt2 (alB s nn) (nn * (nn + 1)) f + cnt (alB s nn) f (f + 1) (i - (f + 1)))) ?_ ?_ (by omega) ⟨rfl, by omega, by rw [Nat.sub_self]; rfl⟩
    · rintro i y M' K' hi ⟨rfl, fi, rfl⟩ kk'
      have cs : cnt (alB s nn) f (f + 1) (i + 1 - (f + 1)) = cnt (alB s nn) f (f + 1) (i - (f + 1)) + (alB s nn f i).toNat := by
        rw [show i + 1 - (f + 1) = (i - (f + 1)) + 1 by omega]
        show cnt (alB s nn) f (f + 1) (i - (f + 1)) + (alB s nn f (f + 1 + (i - (f + 1)))).toNat = _
        rw [show f + 1 + (i - (f + 1)) = i by omega]
      have v1 : vp_in (nI f) 72 := vp_in_nI (by omega) (by decide)
      have v2 : vp_in (nI i) 72 := vp_in_nI (by omega) (by decide)
      have fin : ∀ b : Bool, alB s nn f i = b → K' (nI (cnt2 (alB s nn) (nn * (nn + 1)) f + cnt (alB s nn) f (f + 1) (i - (f + 1)) + b.toNat)) (nI (i + 1)) M' := fun b hb => kk' _ _ ⟨rfl, by omega, by rw [cs, hb, Nat.add_assoc]⟩
      unfold wb_X10_alikePairs_16
      rw [g.1.1 54 4, p.2.2.2.1, nI_clamp (n := f) (by omega), nI_clamp (n := i) (by omega), g.2.1, g.2.2 f hf, g.2.2 i hi, lcm0 (sF_lt hs h8 hf) (sE_lt hs h8), lcm0 (sF_lt hs h8 hf) (sF_lt hs h8 hi), nI_add, nI_add, nI_add, nI_add]
      refine bf (nI_ge hi (by omega)) ⟨v1, bc (fun z => fin false ?_) (fun z => ⟨v1, v2, bc (fun w => fin true ?_) (fun w => fin false ?_)⟩)⟩
      · unfold alB unB
        rw [decide_eq_true z]
        rfl
      · unfold alB unB
        rw [decide_eq_false z, decide_eq_true w]
        rfl
      · unfold alB unB
        rw [decide_eq_false w, Bool.and_false]
    · rintro y M' K' ⟨rfl, fi, rfl⟩
      unfold wb_X10_alikePairs_16
      rw [g.1.1 54 4, p.2.2.2.1, nI_add]
      exact bt (nI_le (by omega) (by omega)) (kk _ _ ⟨rfl, rfl⟩)
  · rintro y M K ⟨rfl, rfl⟩
    unfold wb_X10_alikePairs_4
    rw [g.1.1 54 4, p.2.2.2.1]
    exact bt (nI_le (by omega) (by omega)) q
end SIG
