/-! the reader: numbers, cells, names; the text as a whole -/
abbrev tB (b : Nat → Nat) (n p : Nat) : Prop := tK b n p = 2 ∧ ¬ (tF b n p < tE b n p ∧ tE b n p - tF b n p ≤ 9)
theorem tG_i {b : Nat → Nat} {n p : Nat} : tG b n p ↔ ¬ tB b n p := by
  unfold tG
  exact ⟨fun h z => z.2 (h z.1), fun h z => Classical.byContradiction fun y => h ⟨z, y⟩⟩
theorem tK_2 {b : Nat → Nat} {n p : Nat} (k : tK b n p = 2) : tF b n p < n ∧ tE b n p = skf b n 48 57 (tF b n p) := by
  unfold tK at k
  unfold tE
  split at k
  · cases k
  · split at k
    · cases k
    · split at k
      · cases k
      · rename_i z1 z2 z3
        rw [if_neg z1, if_neg z2, if_neg z3]
        exact ⟨by omega, rfl⟩
theorem vl_lt {b : Nat → Nat} {f : Nat} : ∀ k, (∀ j, j < k → b (f + j) ≤ 57) → vl b f k < 10 ^ k
  | 0, _ => Nat.one_pos
  | k + 1, h => by
    have h1 := vl_lt (b := b) (f := f) k (fun j hj => h j (by omega))
    have h2 := h k (by omega)
    show vl b f k * 10 + (b (f + k) - 48) < 10 ^ (k + 1)
    rw [Nat.pow_succ]
    omega
def tV (b : Nat → Nat) (n p : Nat) : Nat := vl b (tF b n p) (tE b n p - tF b n p)
theorem tD {b : Nat → Nat} {n p : Nat} (k : tK b n p = 2) {j : Nat} (h1 : tF b n p ≤ j) (h2 : j < tE b n p) : 48 ≤ b j ∧ b j ≤ 57 := by
  rw [(tK_2 k).2] at h2
  exact skf_all _ _ rfl j h1 h2
theorem tV_lt {b : Nat → Nat} {n p : Nat} (k : tK b n p = 2) (g : tG b n p) : tV b n p < 1000000000 := by
  have g2 := g k
  unfold tV
  refine Nat.lt_of_lt_of_le (vl_lt _ (fun j hj => (tD k (by omega) (by omega)).2)) ?_
  exact Nat.pow_le_pow_right (n := 10) (j := 9) (by decide) g2.2
/-- a number is read -/
def nmb (b : Nat → Nat) (n p lo hi : Nat) : (Nat × Nat) ⊕ (Nat × Nat) := if tB b n p then .inl (1, tF b n p) else if tK b n p = 2 then (if tV b n p < lo ∨ hi < tV b n p then .inl (3, tF b n p) else .inr (tV b n p, tE b n p)) else .inl (2, tF b n p)
def f5 (A A' : wM) : Prop := (∀ a j, a ≠ 3 ∨ j < 5 ∨ 8 < j → gi A' a j = gi A a j) ∧ ∀ c, gp A' c = gp A c
theorem f3_5 {A A' : wM} (h : f3 A A') : f5 A A' := ⟨fun a j k => h.1 a j (by omega), h.2⟩
theorem f5_trans {A B C : wM} (h : f5 A B) (k : f5 B C) : f5 A C := ⟨fun a j q => (k.1 a j q).trans (h.1 a j q), fun c => (k.2 c).trans (h.2 c)⟩
theorem refX {A0 A : wM} {f c : Nat} {Q : Int32 → wM → Prop} (k : f5 A0 A) (e : gi A 3 6 = nI f) (q : ∀ A' : wM, bad A0 A' c f → Q (nI 0) A') : w_X7_refuse (nI c) A Q := by
  refine q _ ⟨⟨fun a j h => ?_, k.2⟩, ?_, ?_⟩
  · rw [gi_ne (by omega), gi_ne (by omega)]
    exact k.1 a j (by omega)
  · rw [gi_ne (by decide), gi_eq]
  · rw [gi_eq, e]
theorem ref2 {A0 A : wM} {f c : Nat} {Q : Int32 → wM → Prop} (k : f5 A0 A) (e : gi A 3 6 = nI f) (q : ∀ A' : wM, bad A0 A' c f → Q (nI 0) A') : w_X7_refuse (nI c) A (fun r M => (r = (nI 0) → Q (nI 0) M) ∧ (¬ r = (nI 0) → Q (nI 1) M)) := refX (Q := fun r M => (r = (nI 0) → Q (nI 0) M) ∧ (¬ r = (nI 0) → Q (nI 1) M)) k e (fun A' h => bt rfl (q A' h))
theorem ref3 {A0 A : wM} {f c : Nat} {Q : Int32 → wM → Prop} (k : f5 A0 A) (e : gi A 3 6 = nI f) (q : ∀ A' : wM, bad A0 A' c f → Q (nI 0) A') : w_X7_refuse (nI c) A (fun r M => (r = nI 0 ∨ r = nI 1) ∧ Q r M) := refX (Q := fun r M => (r = nI 0 ∨ r = nI 1) ∧ Q r M) k e (fun A' h => ⟨Or.inl rfl, q A' h⟩)
theorem tnX {b : Nat → Nat} {n p lo hi : Nat} {A : wM} {Q : Int32 → wM → Prop} (tx : TX A b n) (e : gi A 3 7 = nI p) (hp : p ≤ n) (h1 : lo < 2 ^ 31) (h2 : hi < 2 ^ 31)
    (q1 : ∀ (v e' : Nat) (A' : wM), nmb b n p lo hi = .inr (v, e') → f5 A A' → v < 1000000000 → gi A' 3 8 = nI v → gi A' 3 6 = nI (tF b n p) → gi A' 3 7 = nI e' → Q (nI 1) A')
    (q0 : ∀ (c f : Nat) (A' : wM), nmb b n p lo hi = .inl (c, f) → bad A A' c f → Q (nI 0) A') : w_X7_takeNumber (nI lo) (nI hi) A Q := by
  have n240 := tx.1
  have fl := tF_le (b := b) hp
  have el := tE_le (b := b) hp
  unfold w_X7_takeNumber
  refine takeX tx e hp (fun g A1 k1 a5 a6 a7 => bf ne10 ?_) (fun g A1 k1 => bt rfl (q0 1 _ A1 ?_ k1))
  · have ng := tG_i.mp g
    rw [a5]
    have kl : tK b n p < 4 := by
      unfold tK
      split
      · decide
      · split
        · decide
        · split <;> decide
    by_cases z : tK b n p = 2
    · have vlt := tV_lt z g
      have g2 := g z
      have tx1 : TX A1 b n := TX_fr tx (k1.1 1 1 (by decide)) (fun j => k1.1 2 j (Or.inl (by decide)))
      refine bt (by rw [z]) ?_
      rw [a6]
      refine lo1 (fun K y3 M => wb_X7_takeNumber_33 (nI lo) (nI hi) K y3 M Q) (fun _ _ _ => rfl) (i0 := tF b n p) (tE b n p) (fun i M => tF b n p ≤ i ∧ ((∀ a j, a ≠ 3 ∨ j ≠ 8 → gi M a j = gi A1 a j) ∧ ∀ c, gp M c = gp A1 c) ∧ gi M 3 8 = nI (vl b (tF b n p) (i - tF b n p))) ?_ ?_ el.1 ⟨Nat.le_refl _, ⟨fun a j h => gi_ne (by omega), fun _ => rfl⟩, by rw [gi_eq, Nat.sub_self]; rfl⟩
      · rintro i M K hi ⟨li, ⟨m1, m2⟩, m3⟩ kk
        obtain ⟨d1, d2⟩ := tD z li hi
        have by1 : gi M 2 i = nI (b i) := by
          rw [m1 2 i (Or.inl (by decide)), (tx1.2.2 i (by omega)).2]
          exact (bb_eq (by omega) (by omega)).mpr rfl
        unfold wb_X7_takeNumber_33
        rw [m1 3 7 (by decide), a7, nI_clamp (n := i) (by omega), by1, m3, pk_sub d1, nI_mul, nI_add, nI_add]
        refine bf (nI_ge hi (by omega)) ⟨vp_in_nI (by omega) (by decide), kk _ ⟨by omega, ⟨fun a j h => ?_, m2⟩, ?_⟩⟩
        · rw [gi_ne (by omega)]; exact m1 a j h
        · rw [gi_eq, show i + 1 - tF b n p = (i - tF b n p) + 1 by omega]
          show _ = nI (vl b (tF b n p) (i - tF b n p) * 10 + (b (tF b n p + (i - tF b n p)) - 48))
          rw [show tF b n p + (i - tF b n p) = i by omega]
      · rintro M K ⟨li, ⟨m1, m2⟩, m3⟩
        have k5 : f5 A M := ⟨fun a j h => (m1 a j (by omega)).trans ((f3_5 k1).1 a j h), fun c => (m2 c).trans (k1.2 c)⟩
        have m6 : gi M 3 6 = nI (tF b n p) := (m1 3 6 (by decide)).trans a6
        have m7 : gi M 3 7 = nI (tE b n p) := (m1 3 7 (by decide)).trans a7
        change gi M 3 8 = nI (tV b n p) at m3
        have hn : ∀ x, (if tV b n p < lo ∨ hi < tV b n p then (.inl (3, tF b n p) : (Nat × Nat) ⊕ (Nat × Nat)) else .inr (tV b n p, tE b n p)) = x → nmb b n p lo hi = x := fun x hx => by
          unfold nmb
          rw [if_neg ng, if_pos z]
          exact hx
        unfold wb_X7_takeNumber_33
        rw [m7, m3, lt_nn (by omega) h1]
        refine bt (nI_le (by omega) (by omega)) (bc (fun y => ref2 k5 m6 (fun A' h => q0 3 _ A' (hn _ (if_pos (Or.inl y))) h)) (fun y => ?_))
        by_cases w : tV b n p ≤ hi
        · exact bt (nI_le w h2) (q1 _ _ M (hn _ (if_neg (by omega))) k5 vlt m3 m6 m7)
        · exact bf (nI_ge (by omega) (by omega)) (ref2 k5 m6 (fun A' h => q0 3 _ A' (hn _ (if_pos (Or.inr (by omega)))) h))
    · refine bf (fun y => z (inj31 y (by omega) (by decide))) (ref3 (f3_5 k1) a6 (fun A' h => q0 2 _ A' ?_ h))
      unfold nmb
      rw [if_neg ng, if_neg z]
  · unfold nmb
    rw [if_pos (Classical.byContradiction fun y => g (tG_i.mpr y))]
abbrev ioB (b : Nat → Nat) (f j : Nat) : Bool := decide (b (f + j) = 105 ∨ b (f + j) = 111)
abbrev oB (b : Nat → Nat) (f j : Nat) : Bool := decide (b (f + j) = 111)
/-- cells are read -/
def clsR (b : Nat → Nat) (n p : Nat) : (Nat × Nat) ⊕ (Nat × Nat × Nat) := if tB b n p then .inl (1, tF b n p) else if tK b n p = 1 then (if tE b n p - tF b n p ≤ 10 ∧ allB (ioB b (tF b n p)) (tE b n p - tF b n p) = true then .inr (tE b n p - tF b n p, bld (oB b (tF b n p)) (tE b n p - tF b n p), tE b n p) else .inl (3, tF b n p)) else .inl (2, tF b n p)
theorem pt_rd : ∀ k, k < 6 → ptX (5 + k) := by
  have h : ∀ k, k < 6 → shX[5 + k]? = some (3, 6) := by decide
  exact h
theorem pt_t {t : Nat} (h : 5 ≤ t ∧ t ≤ 10) : ptX t := by
  have := pt_rd (t - 5) (by omega)
  rwa [show 5 + (t - 5) = t by omega] at this
def okT (t : Nat) (A A' : wM) : Prop := (∀ a j, a ≠ t → a ≠ 3 ∨ j < 5 ∨ 8 < j → gi A' a j = gi A a j) ∧ ∀ c, gp A' c = gp A c
def badT (t : Nat) (A A' : wM) (c f : Nat) : Prop := ((∀ a j, a ≠ t → a ≠ 3 ∨ j < 3 ∨ 8 < j → gi A' a j = gi A a j) ∧ ∀ c, gp A' c = gp A c) ∧ gi A' 3 3 = nI c ∧ gi A' 3 4 = nI f
theorem ok_bad {t c f : Nat} {A B C : wM} (h : okT t A B) (k : bad B C c f) : badT t A C c f := ⟨⟨fun a j h1 h2 => (k.1.1 a j h2).trans (h.1 a j h1 (by omega)), fun x => (k.1.2 x).trans (h.2 x)⟩, k.2⟩
theorem ok_badT {t c f : Nat} {A B C : wM} (h : okT t A B) (k : badT t B C c f) : badT t A C c f := ⟨⟨fun a j h1 h2 => (k.1.1 a j h1 h2).trans (h.1 a j h1 (by omega)), fun x => (k.1.2 x).trans (h.2 x)⟩, k.2⟩
theorem ok_trans {t : Nat} {A B C : wM} (h : okT t A B) (k : okT t B C) : okT t A C := ⟨fun a j h1 h2 => (k.1 a j h1 h2).trans (h.1 a j h1 h2), fun c => (k.2 c).trans (h.2 c)⟩
theorem f5_ok {t : Nat} {A B : wM} (h : f5 A B) : okT t A B := ⟨fun a j _ h2 => h.1 a j h2, h.2⟩
theorem ok_si {t j : Nat} {A : wM} {x : Int32} : okT t A (si A t j x) := ⟨fun a i h _ => gi_ne (Or.inl h), fun _ => rfl⟩
theorem pcX {b : Nat → Nat} {n f e t : Nat} {A : wM} {Q : Int32 → wM → Prop} (tx : TX A b n) (ht : 5 ≤ t ∧ t ≤ 10) (e6 : gi A 3 6 = nI f) (e7 : gi A 3 7 = nI e) (fe : f ≤ e) (en : e ≤ n) (e5 : gi A t 5 = nI 0)
    (q1 : ∀ A' : wM, (e - f ≤ 10 ∧ allB (ioB b f) (e - f) = true) → ((∀ a j, a ≠ t ∨ (j ≠ 1 ∧ j ≠ 5) → gi A' a j = gi A a j) ∧ ∀ c, gp A' c = gp A c) → gi A' t 1 = nI (e - f) → gi A' t 5 = nI (bld (oB b f) (e - f)) → Q (nI 1) A')
    (q0 : ∀ A' : wM, ¬ (e - f ≤ 10 ∧ allB (ioB b f) (e - f) = true) → badT t A A' 3 f → Q (nI 0) A') : w_X7_putCells t A Q := by
  have n240 := tx.1
  unfold w_X7_putCells
  rw [gi_eq, e6, e7, pk_sub fe]
  refine ⟨pt_t ht, ?_⟩
  by_cases z : e - f ≤ 10
  · refine bt (nI_le z (by decide)) ?_
    refine lo1 (fun K y2 M => wb_X7_putCells_30 t K y2 M Q) (fun _ _ _ => rfl) (e - f) (fun i M => allB (ioB b f) i = true ∧ ((∀ a j, a ≠ t ∨ (j ≠ 1 ∧ j ≠ 5) → gi M a j = gi A a j) ∧ ∀ c, gp M c = gp A c) ∧ gi M t 1 = nI (e - f) ∧ gi M t 5 = nI (bld (oB b f) i)) ?_ ?_ (Nat.zero_le _) ⟨rfl, ⟨fun a j h => gi_ne (by omega), fun _ => rfl⟩, gi_eq .., by rw [gi_ne (Or.inr (by decide))]; exact e5⟩
    · rintro i M K hi ⟨m0, ⟨m1, m2⟩, m3, m4⟩ kk
      obtain ⟨b1, b2⟩ := tx.2.2 (f + i) (by omega)
      unfold wb_X7_putCells_30
      rw [m3, m1 3 6 (Or.inl (by omega)), e6, nI_add, nI_add, nI_clamp (n := f + i) (by omega), m1 2 _ (Or.inl (by omega)), b2, m4, bb_eq b1 (by decide), bb_eq b1 (by decide)]
      refine bf (nI_ge hi (by omega)) ⟨vp_in_nI (by omega) (by decide), bc (fun y => ?_) (fun y => bc (fun w => ?_) (fun w => ?_))⟩
      · have eo := bld_or (f := oB b f) (i := i) (by omega)
        rw [show bI (oB b f i) = nI 1 from bI_1.mpr (decide_eq_true y)] at eo
        rw [eo]
        refine kk _ ⟨?_, ⟨fun a j h => ?_, m2⟩, ?_, gi_eq ..⟩
        · rw [allB_s, m0]
          exact decide_eq_true (Or.inr y)
        · rw [gi_ne (by omega)]; exact m1 a j h
        · rw [gi_ne (Or.inr (by decide))]; exact m3
      · refine kk _ ⟨?_, ⟨m1, m2⟩, m3, ?_⟩
        · rw [allB_s, m0]
          exact decide_eq_true (Or.inl w)
        · rw [m4]
          show _ = nI (bld (oB b f) i ||| (oB b f i).toNat * 2 ^ i)
          rw [show oB b f i = false from decide_eq_false y]
          show _ = nI (bld (oB b f) i ||| 0 * 2 ^ i)
          rw [Nat.zero_mul, Nat.or_zero]
      · refine ⟨Or.inl rfl, q0 _ (fun v => ?_) ⟨⟨fun a j h1 h2 => ?_, m2⟩, ?_, ?_⟩⟩
        · have := (allB_iff _ _).mp v.2 i hi
          rcases of_decide_eq_true this with u | u
          · exact w u
          · exact y u
        · rw [gi_ne (by omega), gi_ne (by omega)]
          exact m1 a j (Or.inl h1)
        · rw [gi_ne (by decide), gi_eq]
        · rw [gi_eq, m1 3 6 (Or.inl (by omega))]
          exact e6
    · rintro M K ⟨m0, ⟨m1, m2⟩, m3, m4⟩
      unfold wb_X7_putCells_30
      rw [m3]
      exact bt (nI_le (by omega) (by omega)) (q1 M ⟨z, m0⟩ ⟨m1, m2⟩ m3 m4)
  · refine bf (nI_ge (by omega) (by omega)) ⟨Or.inl rfl, q0 _ (fun v => z v.1) ⟨⟨fun a j h1 h2 => ?_, fun _ => rfl⟩, ?_, ?_⟩⟩
    · rw [gi_ne (by omega), gi_ne (by omega), gi_ne (Or.inl h1)]
    · rw [gi_ne (by decide), gi_eq]
    · rw [gi_eq, gi_ne (Or.inl (by omega))]
      exact e6
/-- the five names -/
def nmL (w : Nat) : List Nat := [[112, 97, 114, 116], [105, 100], [115, 97, 109, 112, 108, 101], [101, 120, 116, 101, 115, 116], [99, 101, 108, 108, 115]].getD w []
abbrev isNm (b : Nat → Nat) (n p w : Nat) : Prop := tK b n p = 1 ∧ tE b n p = tF b n p + (nmL w).length ∧ ∀ j, j < (nmL w).length → b (tF b n p + j) = (nmL w).getD j 0
theorem nmT_L : ∀ w, w < 5 → (nmT w).length = (nmL w).length ∧ (nmL w).length < 7 ∧ ∀ j, j < (nmL w).length → (nmT w).getD j 0 = nI ((nmL w).getD j 0) ∧ (nmL w).getD j 0 < 128 := by decide
theorem nmX_i {b : Nat → Nat} {n p w : Nat} {A : wM} (hw : w < 5) (tx : TX A b n) (hp : p ≤ n) (e5 : gi A 3 5 = nI (tK b n p)) (e6 : gi A 3 6 = nI (tF b n p)) (e7 : gi A 3 7 = nI (tE b n p)) : nmP A ∧ (nmX A w = nI 0 ↔ ¬ isNm b n p w) := by
  have n240 := tx.1
  have fl := tF_le (b := b) hp
  have el := tE_le (b := b) hp
  have np : nmP A := by
    unfold nmP
    rw [e6, e7, nI_toInt (by omega), nI_toInt (by omega)]
    omega
  refine ⟨np, ?_⟩
  obtain ⟨x, x1, x2⟩ := nm_val np hw
  have ex : x = nmX A w := by
    have := x1.symm.trans (nm_ok np hw)
    injection this with this
    injection this with h1 h2
    injection h1 with h1
    injection h1 with h1
  rw [← ex]
  obtain ⟨l1, l2, l3⟩ := nmT_L w hw
  have kl : tK b n p < 4 := by
    unfold tK
    split
    · decide
    · split
      · decide
      · split <;> decide
  have hc : nmC A w ↔ isNm b n p w := by
    unfold nmC
    rw [e5, e6, e7, l1, nI_clamp (by omega)]
    constructor
    · rintro ⟨c1, c2, c3⟩
      have k1 : tK b n p = 1 := inj31 c1 (by omega) (by decide)
      have k2 : tE b n p = tF b n p + (nmL w).length := by
        have := nm_sub (a := tF b n p) (b := tE b n p) (n := (nmL w).length) (by omega) (by omega) (by omega) c2
        exact this
      refine ⟨k1, k2, fun j hj => ?_⟩
      have c4 := c3 j hj
      obtain ⟨b1, b2⟩ := tx.2.2 (tF b n p + j) (by omega)
      rw [b2, (l3 j hj).1, bb_eq b1 (l3 j hj).2] at c4
      exact c4
    · rintro ⟨k1, k2, k3⟩
      refine ⟨by rw [k1]; rfl, ?_, fun j hj => ?_⟩
      · rw [pk_sub (by omega)]
        congr 1
        omega
      · obtain ⟨b1, b2⟩ := tx.2.2 (tF b n p + j) (by omega)
        rw [b2, (l3 j hj).1, bb_eq b1 (l3 j hj).2]
        exact k3 j hj
  rcases x2 with ⟨c, rfl⟩ | ⟨c, rfl⟩
  · constructor
    · intro z; exact absurd z (by decide)
    · intro z; exact absurd (hc.mp c) z
  · constructor
    · intro _ z; exact c (hc.mpr z)
    · intro _; rfl
