/-! the reference lays a guess -/
def sv (m r x y : Nat) : Nat := if 2 ≤ r ∧ x ≠ y ∧ m.testBit x = true ∧ m.testBit y = true then 2 ^ (r - 2) else 0
theorem tb2 (i t : Nat) : (2 ^ i).testBit t = true ↔ t = i := by
  rw [Nat.testBit_two_pow]
  exact ⟨fun h => (of_decide_eq_true h).symm, fun h => decide_eq_true h.symm⟩
theorem tb2o (a b t : Nat) : (2 ^ a ||| 2 ^ b).testBit t = true ↔ t = a ∨ t = b := by
  rw [Nat.testBit_or, Bool.or_eq_true, tb2, tb2]
theorem FD_fv {nn f m r : Nat} (h8 : nn ≤ 8) (h : FD nn f m r) : FV nn m r := by
  have l := FD_lt h8 h
  refine ⟨l.1, l.2.1, fun w x y hx hy => ?_, fun w x hx => ?_⟩
  · rcases h with ⟨i, e, h1, h2, h3, rfl, rfl⟩ | ⟨a, b, e, h1, h2, h3, h4, rfl, rfl⟩
    · rw [tb2] at hx hy; omega
    · omega
  · rcases h with ⟨i, e, h1, h2, h3, rfl, rfl⟩ | ⟨a, b, e, h1, h2, h3, h4, rfl, rfl⟩
    · omega
    · rw [tb2o] at hx
      rcases hx with rfl | rfl
      · exact ⟨b, by omega, (tb2o _ _ _).mpr (Or.inr rfl)⟩
      · exact ⟨a, by omega, (tb2o _ _ _).mpr (Or.inl rfl)⟩
def k31 (M M' : wM) : Prop := ∀ x j, x ≠ 31 → x ≠ 32 → gi M' x j = gi M x j
theorem liesM {M : wM} {nn f m r : Nat} {Q : wM → Prop} (h8 : nn ≤ 8) (e : gi M 0 41 = nI nn) (fd : FD nn f m r)
    (q : ∀ M' : wM, k31 M M' → (∀ x y, x < 8 → y < 8 → gi M' 31 (8 * x + y) = gi M 31 (8 * x + y) ||| nI (sv m r x y)) → (∀ n, n < 8 → gi M' 32 n = if r < 2 ∧ m.testBit n = true then (if gi M 32 n = -4 then nI r else nI 0) else gi M 32 n) → Q M') : w_X12_lies (nI f) M Q := by
  have l := FD_lt h8 fd
  obtain ⟨o1, o2, o3⟩ := off_ok nn (by omega)
  unfold w_X12_lies
  rw [e, nI_mul]
  rcases fd with ⟨i, e', h1, h2, h3, rfl, rfl⟩ | ⟨a, b, e', h1, h2, h3, h4, rfl, rfl⟩
  · have sv0 : ∀ x y, sv (2 ^ i) r x y = 0 := fun x y => if_neg (fun z => by omega)
    have d2 : nI f / nI 2 = nI i := by rw [pk_div (by omega) (by decide) (by decide), show f / 2 = i by omega]
    have m2 : nI f - nI i * nI 2 = nI r := by rw [← d2, pk_rem (by omega) (by decide) (by decide), show f % 2 = r by omega]
    have v8 : vp_in (nI i) 8 := vp_in_nI (by omega) (by decide)
    rw [d2, m2, nI_clamp (n := i) (by omega)]
    have fin : ∀ v, v = (if gi M 32 i = -4 then nI r else nI 0) → Q (si M 32 i v) := by
      intro v hv
      refine q _ (fun x j _ p => gi_ne (Or.inl p)) (fun x y _ _ => ?_) (fun n hn => ?_)
      · rw [gi_ne (Or.inl (by decide)), sv0, or0]
      · by_cases z : n = i
        · subst z
          rw [gi_eq, if_pos ⟨h2, (tb2 n n).mpr rfl⟩]
          exact hv
        · rw [gi_ne (Or.inr z), if_neg (fun y => z ((tb2 i n).mp y.2))]
    refine bf (nI_ge (by omega) (by omega)) ⟨v8, bc (fun z => ?_) (fun z => ?_)⟩
    · unfold wj_X12_lies_37
      rw [d2, m2, nI_clamp (n := i) (by omega), gi_eq]
      exact ⟨v8, v8, bt rfl (fin _ (by rw [if_pos z]))⟩
    · unfold wj_X12_lies_37
      rw [d2, m2, nI_clamp (n := i) (by omega), gi_eq]
      refine ⟨v8, v8, bc (fun _ => fin _ (by rw [if_neg z])) (fun _ => ⟨v8, ?_⟩)⟩
      rw [show si (si M 32 i (nI 0)) 32 i (nI 0) = si M 32 i (nI 0) from si_same (gi_eq ..)]
      exact fin _ (by rw [if_neg z])
  · have hoff : ∀ t, t ≤ a → off nn t ≤ off nn a := fun t ht => by
      by_cases z : t = a
      · rw [z]; exact Nat.le_refl _
      · have := off_mono (nn := nn) (show t < a by omega)
        omega
    rw [pk_sub (by omega), pk_div (by omega) (by decide) (by decide), show (f - 2 * nn) / 2 = off nn a + (b - a - 1) by omega]
    refine bt (nI_le (by omega) (by omega)) ?_
    have oa : off nn a ≤ 36 := by
      have := o1 b h2 a h1
      omega
    have w := lo2 (L := fun k y i M => wL_X12_lies_71 (nI f) Q k y i M) (fun K y2 y3 M => wb_X12_lies_71 (nI f) K y2 y3 M Q) (fun _ _ _ _ => rfl) (i0 := 0) a (fun i y M' => M' = M ∧ y = nI (off nn a + (b - a - 1) - off nn i)) ?_ ?_ (Nat.zero_le _) (a := nI (off nn a + (b - a - 1))) (M := M) ⟨rfl, by rw [show off nn 0 = 0 from rfl, Nat.sub_zero]⟩
    · exact w
    · rintro i y M' K hi ⟨rfl, rfl⟩ kk
      have h5 := off_mono (nn := nn) hi
      have h6 : off nn (i + 1) = off nn i + (nn - 1 - i) := rfl
      unfold wb_X12_lies_71
      rw [e, pk_sub (by omega), pk_sub (by omega), nI_add]
      refine bf (by rw [lt_n (by omega), nI_toInt (by omega)]; omega) ?_
      rw [pk_sub (by omega)]
      exact kk _ _ ⟨rfl, by rw [h6, Nat.sub_add_eq]⟩
    · rintro y M' K ⟨rfl, rfl⟩
      have em2 : nI f - nI f / nI 2 * nI 2 = nI e' := by rw [pk_rem (by omega) (by decide) (by decide), show f % 2 = e' by omega]
      have e2 : 2 ^ e' < 4 := by
        rcases (show e' = 0 ∨ e' = 1 by omega) with rfl | rfl <;> decide
      have eb : a + 1 + (off nn a + (b - a - 1) - off nn a) = b := by omega
      unfold wb_X12_lies_71
      rw [e, pk_sub (by omega), pk_sub (by omega), em2, bshl1 (by omega), nI_mul, nI_add a 1, nI_add (a + 1), eb, nI_mul, nI_add (8 * a) b, nI_add (8 * b) a, nI_clamp (n := 8 * a + b) (by omega), nI_clamp (n := 8 * b + a) (by omega)]
      refine bt (by rw [lt_n (by omega), nI_toInt (by omega)]; omega) ⟨vp_in_nI (by omega) (by decide), vp_in_nI (by omega) (by decide), vp_in_nI (by omega) (by decide), vp_in_nI (by omega) (by decide), q _ (fun x j p _ => by rw [gi_ne (Or.inl p), gi_ne (Or.inl p)]) (fun x y hx hy => ?_) (fun n hn => ?_)⟩
      · have svt : (x = a ∧ y = b) ∨ (x = b ∧ y = a) → sv (2 ^ a ||| 2 ^ b) (2 + e') x y = 2 ^ e' := by
          intro z
          unfold sv
          rw [if_pos ⟨by omega, by omega, (tb2o _ _ _).mpr (by omega), (tb2o _ _ _).mpr (by omega)⟩, show 2 + e' - 2 = e' by omega]
        have svf : ¬ ((x = a ∧ y = b) ∨ (x = b ∧ y = a)) → sv (2 ^ a ||| 2 ^ b) (2 + e') x y = 0 := by
          intro z
          unfold sv
          rw [if_neg (fun w => z (by rw [tb2o, tb2o] at w; omega))]
        by_cases z1 : 8 * x + y = 8 * b + a
        · rw [z1, gi_eq, gi_ne (Or.inr (by omega)), svt (by omega)]
        · rw [gi_ne (Or.inr z1)]
          by_cases z2 : 8 * x + y = 8 * a + b
          · rw [z2, gi_eq, svt (by omega)]
          · rw [gi_ne (Or.inr z2), svf (by omega), or0]
      · rw [gi_ne (Or.inl (by decide)), gi_ne (Or.inl (by decide)), if_neg (fun w => by omega)]
/-- a guess's fault, or none -/
def GD (nn : Nat) (x : Int32) (m r : Nat) : Prop := (x = -4 ∧ m = 0 ∧ r = 0) ∨ ∃ f, x = nI f ∧ FD nn f m r
theorem GD_fv {nn m r : Nat} {x : Int32} (h8 : nn ≤ 8) (h : GD nn x m r) : FV nn m r := by
  rcases h with ⟨rfl, rfl, rfl⟩ | ⟨f, -, h⟩
  · exact ⟨Nat.two_pow_pos nn, by decide, fun _ x y hx => absurd hx (by rw [Nat.zero_testBit]; decide), fun w => absurd w (by decide)⟩
  · exact FD_fv h8 h
theorem GD_ne {nn m1 r1 m2 r2 : Nat} {x1 x2 : Int32} (h8 : nn ≤ 8) (h1 : GD nn x1 m1 r1) (h2 : GD nn x2 m2 r2) (d : x1 ≠ x2 ∨ x1 = -4) : ∀ x, r1 < 2 → r2 < 2 → m1.testBit x = true → m2.testBit x = true → r1 ≠ r2 := by
  rintro x w1 w2 t1 t2 rfl
  rcases h1 with ⟨e1, rfl, rfl⟩ | ⟨f, e1, h1⟩
  · rw [Nat.zero_testBit] at t1; cases t1
  · rcases h2 with ⟨e2, rfl, rfl⟩ | ⟨g, e2, h2⟩
    · rw [Nat.zero_testBit] at t2; cases t2
    · rcases h1 with ⟨i, e, a1, a2, a3, rfl, rfl⟩ | ⟨a, b, e, a1, a2, a3, a4, rfl, rfl⟩
      · rcases h2 with ⟨j, e', b1, b2, b3, rfl, rfl⟩ | ⟨a, b, e', b1, b2, b3, b4, rfl, b5⟩
        · rw [tb2] at t1 t2
          rcases d with d | d
          · exact d (by rw [e1, e2, a3, b3, ← t1, ← t2])
          · exact absurd (e1.symm.trans d) (n4_ne (by omega))
        · omega
      · omega
