/-! guesses; answer -/
theorem optL {M : wM} {nn m r : Nat} {x : Int32} {K : wM → Prop} (h8 : nn ≤ 8) (e : gi M 0 41 = nI nn) (gd : GD nn x m r)
    (q : ∀ M' : wM, k31 M M' → (∀ x y, x < 8 → y < 8 → gi M' 31 (8 * x + y) = gi M 31 (8 * x + y) ||| nI (sv m r x y)) → (∀ n, n < 8 → gi M' 32 n = if r < 2 ∧ m.testBit n = true then (if gi M 32 n = -4 then nI r else nI 0) else gi M 32 n) → K M') : (x = -4 → K M) ∧ (¬ x = -4 → w_X12_lies x M K) := by
  rcases gd with ⟨z, rfl, rfl⟩ | ⟨f, rfl, fd⟩
  · refine bt z (q M (fun _ _ _ _ => rfl) (fun x y _ _ => ?_) (fun n _ => ?_))
    · rw [show sv 0 0 x y = 0 from if_neg (fun w => by omega), or0]
    · rw [if_neg (fun w => by rw [Nat.zero_testBit] at w; exact absurd w.2 (by decide))]
  · have l := FD_lt h8 fd
    have o := (off_ok nn (by omega)).2.2
    exact bf (n4_ne (by omega)) (liesM h8 e fd q)
theorem sv_lt {m r x y : Nat} (hr : r < 4) : sv m r x y < 4 := by
  unfold sv
  split
  · rcases (show r = 2 ∨ r = 3 by omega) with rfl | rfl <;> decide
  · decide
theorem sv_0 {m r x y : Nat} : ¬ sv m r x y = 0 ↔ eF m r x y := by
  unfold sv eF
  constructor
  · intro h
    by_cases z : 2 ≤ r ∧ x ≠ y ∧ m.testBit x = true ∧ m.testBit y = true
    · exact z
    · rw [if_neg z] at h; exact absurd rfl h
  · intro h
    rw [if_pos h]
    exact Nat.ne_of_gt (Nat.two_pow_pos _)
theorem sv_b {m r x y : Nat} (hr : r < 4) : (sv m r x y).testBit 0 = true ↔ r = 2 ∧ eF m r x y := by
  unfold sv eF
  by_cases z : 2 ≤ r ∧ x ≠ y ∧ m.testBit x = true ∧ m.testBit y = true
  · rw [if_pos z]
    rcases (show r = 2 ∨ r = 3 by omega) with rfl | rfl
    · exact ⟨fun _ => ⟨rfl, z⟩, fun _ => by decide⟩
    · constructor
      · intro h; exact absurd h (by decide)
      · intro h; omega
  · rw [if_neg z, Nat.zero_testBit]
    constructor
    · intro h; cases h
    · intro h; exact absurd h.2 z
def k29 (M M' : wM) : Prop := ∀ x j, x ≠ 29 → x ≠ 30 → x ≠ 31 → x ≠ 32 → gi M' x j = gi M x j
theorem guessM {M : wM} {nn m1 r1 m2 r2 : Nat} {x1 x2 : Int32} {Q : wM → Prop} (h8 : nn ≤ 8) (e : gi M 0 41 = nI nn) (g1 : GD nn x1 m1 r1) (g2 : GD nn x2 m2 r2)
    (q : ∀ M' : wM, k29 M M' → (∀ n, n < nn → ∃ mk r, HP (eG m1 r1 m2 r2) nn (lG m1 r1 m2 r2) (fG m1 r1 m2 r2) n mk r ∧ gi M' 29 n = nI mk ∧ gi M' 30 n = nI (md r)) → Q M') : w_X12_guesses x1 x2 M Q := by
  have v1 := GD_fv h8 g1
  have v2 := GD_fv h8 g2
  refine lo1 (fun K y M => wb_X12_guesses_2 x1 x2 K y M Q) (fun _ _ _ => rfl) 64 (fun i M' => (∀ x j, x ≠ 31 → gi M' x j = gi M x j) ∧ ∀ j, j < i → gi M' 31 j = nI 0) ?_ ?_ (Nat.zero_le _) ⟨fun _ _ _ => rfl, fun j h => by omega⟩
  · rintro i M' K hi ⟨f, g⟩ kk
    unfold wb_X12_guesses_2
    rw [nI_add, nI_clamp (n := i) (by omega)]
    refine bf (nI_ge hi (by decide)) ⟨vp_in_nI hi (by decide), kk _ ⟨fun x j p => ?_, fun j hj => ?_⟩⟩
    · rw [gi_ne (Or.inl p)]; exact f x j p
    · by_cases z : j = i
      · rw [z, gi_eq]
      · rw [gi_ne (Or.inr z)]; exact g j (by omega)
  rintro M1 K1 ⟨f1, z1⟩
  unfold wb_X12_guesses_2
  refine bt (nI_le (by decide) (by decide)) ?_
  refine lo1 (fun K y M => wb_X12_guesses_23 x1 x2 K y M Q) (fun _ _ _ => rfl) 8 (fun i M' => (∀ x j, x ≠ 32 → gi M' x j = gi M1 x j) ∧ ∀ j, j < i → gi M' 32 j = -4) ?_ ?_ (Nat.zero_le _) ⟨fun _ _ _ => rfl, fun j h => by omega⟩
  · rintro i M' K hi ⟨f, g⟩ kk
    unfold wb_X12_guesses_23
    rw [nI_add, nI_clamp (n := i) (by omega)]
    refine bf (nI_ge hi (by decide)) ⟨vp_in_nI hi (by decide), kk _ ⟨fun x j p => ?_, fun j hj => ?_⟩⟩
    · rw [gi_ne (Or.inl p)]; exact f x j p
    · by_cases z : j = i
      · rw [z, gi_eq]
      · rw [gi_ne (Or.inr z)]; exact g j (by omega)
  rintro M2 K2 ⟨f2, z2⟩
  unfold wb_X12_guesses_23
  refine bt (nI_le (by decide) (by decide)) ?_
  have e2 : gi M2 0 41 = nI nn := by rw [f2 0 41 (by decide), f1 0 41 (by decide)]; exact e
  refine optL (nn := nn) (K := fun M12 => wj_X12_guesses_54 x2 M12 Q) h8 e2 g1 (fun M3 f3 s3 t3 => ?_)
  have e3 : gi M3 0 41 = nI nn := by rw [f3 0 41 (by decide) (by decide)]; exact e2
  unfold wj_X12_guesses_54
  refine optL (nn := nn) (K := fun M8 => w_X12_findTogether 31 32 M8 (fun M10 => Q M10)) h8 e3 g2 (fun M4 f4 s4 t4 => ?_)
  have e4 : gi M4 0 41 = nI nn := by rw [f4 0 41 (by decide) (by decide)]; exact e3
  have r31 : ∀ x y, x < 8 → y < 8 → gi M4 31 (8 * x + y) = nI (sv m1 r1 x y ||| sv m2 r2 x y) := by
    intro x y hx hy
    have l1 := sv_lt (m := m1) (x := x) (y := y) v1.2.1
    have l2 := sv_lt (m := m2) (x := x) (y := y) v2.2.1
    rw [s4 x y hx hy, s3 x y hx hy, f2 31 _ (by decide), z1 (8 * x + y) (by omega), nI_or (by decide) (by omega), Nat.zero_or, nI_or (by omega) (by omega)]
  have r32 : ∀ n, n < 8 → gi M4 32 n = fG m1 r1 m2 r2 n := by
    intro n hn
    rw [t4 n hn, t3 n hn, z2 n hn]
    by_cases a : r1 < 2 ∧ m1.testBit n = true <;> by_cases b : r2 < 2 ∧ m2.testBit n = true
    · rw [f_11 a b, if_pos b, if_pos a, if_pos rfl, if_neg (n4_ne (by omega))]
    · rw [f_01 a b, if_neg b, if_pos a, if_pos rfl]
    · rw [f_10 a b, if_pos b, if_neg a, if_pos rfl]
    · rw [f_00 a b, if_neg b, if_neg a]
  obtain ⟨-, i1, l1, i2, l2⟩ := ia_M
  refine ftM (by decide) i1 l1 i2 l2 h8 e4 (fun a ha => ?_) (fun M5 f5 g5 => q M5 (fun x j p1 p2 p3 p4 => ?_) (fun n hn => ?_))
  · rw [r32 a (by omega)]
    have lv : ∀ r, r < 2 → lvl (nI r) := fun r hr => by
      rcases (show r = 0 ∨ r = 1 by omega) with rfl | rfl
      · exact Or.inr (Or.inl rfl)
      · exact Or.inr (Or.inr rfl)
    by_cases c : r1 < 2 ∧ m1.testBit a = true <;> by_cases b : r2 < 2 ∧ m2.testBit a = true
    · rw [f_11 c b]; exact lv 0 (by decide)
    · rw [f_01 c b]; exact lv _ c.1
    · rw [f_10 c b]; exact lv _ b.1
    · rw [f_00 c b]; exact Or.inl rfl
  · rw [f5 x j p1 p2, f4 x j p3 p4, f3 x j p3 p4, f2 x j p4, f1 x j p3]
  · obtain ⟨mk, r, hp, k1, k2⟩ := g5 n hn
    refine ⟨mk, r, HP_congr (fun x y hx hy => ?_) (fun x hx => ?_) (fun x hx => r32 x (by omega)) hp, k1, k2⟩
    · unfold eg eG
      have l1 := sv_lt (m := m1) (x := x) (y := y) v1.2.1
      have l2 := sv_lt (m := m2) (x := x) (y := y) v2.2.1
      have l3 : sv m1 r1 x y ||| sv m2 r2 x y < 2 ^ 2 := Nat.or_lt_two_pow l1 l2
      rw [r31 x y (by omega) (by omega), ← sv_0, ← sv_0]
      constructor
      · intro w
        by_cases u : sv m1 r1 x y = 0
        · refine Or.inr (fun u2 => w ?_)
          rw [u, u2]; rfl
        · exact Or.inl u
      · intro w u
        have u0 := inj31 (b := 0) u (by omega) (by decide)
        have a1 : sv m1 r1 x y ≤ sv m1 r1 x y ||| sv m2 r2 x y := Nat.left_le_or
        have a2 : sv m2 r2 x y ≤ sv m1 r1 x y ||| sv m2 r2 x y := Nat.right_le_or
        rcases w with w | w <;> omega
    · unfold lw lG
      have key : ∀ c, c < nn → (gi M4 31 (8 * x + c) &&& nI 1 = nI 1 ↔ (r1 = 2 ∧ eF m1 r1 x c) ∨ (r2 = 2 ∧ eF m2 r2 x c)) := by
        intro c hc
        have l1 := sv_lt (m := m1) (x := x) (y := c) v1.2.1
        have l2 := sv_lt (m := m2) (x := x) (y := c) v2.2.1
        have l3 : sv m1 r1 x c ||| sv m2 r2 x c < 2 ^ 2 := Nat.or_lt_two_pow l1 l2
        rw [r31 x c (by omega) (by omega), band1 (by omega), ← sv_b v1.2.1, ← sv_b v2.2.1, ← Bool.or_eq_true, ← Nat.testBit_or, Nat.testBit_zero, decide_eq_true_iff]
        exact ⟨fun w => inj31 w (by omega) (by decide), fun w => by rw [w]⟩
      constructor
      · rintro ⟨c, hc, w⟩
        rcases (key c hc).mp w with u | u
        · exact Or.inl ⟨u.1, u.2.2.2.1⟩
        · exact Or.inr ⟨u.1, u.2.2.2.1⟩
      · rintro (⟨u, w⟩ | ⟨u, w⟩)
        · obtain ⟨y, y1, y2⟩ := v1.2.2.2 (by omega) x w
          have yl := tb_lt v1.1 y2
          exact ⟨y, yl, (key y yl).mpr (Or.inl ⟨u, by omega, fun z => y1 z.symm, w, y2⟩)⟩
        · obtain ⟨y, y1, y2⟩ := v2.2.2.2 (by omega) x w
          have yl := tb_lt v2.1 y2
          exact ⟨y, yl, (key y yl).mpr (Or.inr ⟨u, by omega, fun z => y1 z.symm, w, y2⟩)⟩
theorem Inv_k29 {X M M' : wM} (h : Inv X M) (f : k29 M M') : Inv X M' :=
  Inv_fr (T := []) (S := [29, 30, 31, 32]) h sX_refl (fun a j q => f a j (fun z => q (by rw [z]; simp [cM])) (fun z => q (by rw [z]; simp [cM])) (fun z => q (by rw [z]; simp [cM])) (fun z => q (by rw [z]; simp [cM])))
