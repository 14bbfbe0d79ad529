/-! what a guess of faults makes of a row -/
def eF (m r x y : Nat) : Prop := 2 ≤ r ∧ x ≠ y ∧ m.testBit x = true ∧ m.testBit y = true
def eG (m1 r1 m2 r2 x y : Nat) : Prop := eF m1 r1 x y ∨ eF m2 r2 x y
def fG (m1 r1 m2 r2 n : Nat) : Int32 := if r1 < 2 ∧ m1.testBit n = true then (if r2 < 2 ∧ m2.testBit n = true then nI 0 else nI r1) else if r2 < 2 ∧ m2.testBit n = true then nI r2 else -4
def lG (m1 r1 m2 r2 n : Nat) : Prop := (r1 = 2 ∧ m1.testBit n = true) ∨ (r2 = 2 ∧ m2.testBit n = true)
def lvG (m1 r1 m2 r2 row : Nat) : Nat := if m1 &&& m2 = 0 then stl (stl row m1 r1) m2 r2 else stl row (m1 ||| m2) (min r1 r2)
/-- a fault's nets and rule, or none -/
def FV (nn m r : Nat) : Prop := m < 2 ^ nn ∧ r < 4 ∧ (r < 2 → ∀ x y, m.testBit x = true → m.testBit y = true → x = y) ∧ (2 ≤ r → ∀ x, m.testBit x = true → ∃ y, y ≠ x ∧ m.testBit y = true)
section GV
variable {nn m1 r1 m2 r2 n : Nat}
theorem f_01 (h1 : r1 < 2 ∧ m1.testBit n = true) (h2 : ¬ (r2 < 2 ∧ m2.testBit n = true)) : fG m1 r1 m2 r2 n = nI r1 := by
  unfold fG
  rw [if_pos h1, if_neg h2]
theorem f_10 (h1 : ¬ (r1 < 2 ∧ m1.testBit n = true)) (h2 : r2 < 2 ∧ m2.testBit n = true) : fG m1 r1 m2 r2 n = nI r2 := by
  unfold fG
  rw [if_neg h1, if_pos h2]
theorem f_11 (h1 : r1 < 2 ∧ m1.testBit n = true) (h2 : r2 < 2 ∧ m2.testBit n = true) : fG m1 r1 m2 r2 n = nI 0 := by
  unfold fG
  rw [if_pos h1, if_pos h2]
theorem f_00 (h1 : ¬ (r1 < 2 ∧ m1.testBit n = true)) (h2 : ¬ (r2 < 2 ∧ m2.testBit n = true)) : fG m1 r1 m2 r2 n = -4 := by
  unfold fG
  rw [if_neg h1, if_neg h2]
theorem blkC {E : Nat → Nat → Prop} {b : Nat} (hb : b.testBit n = true) (cl : ∀ x y, b.testBit x = true → E x y → b.testBit y = true) (co : ∀ t, b.testBit t = true → Cn E nn n t) : ∀ t, b.testBit t = true ↔ Cn E nn n t :=
  fun t => ⟨co t, fun c => c (fun x => b.testBit x = true) hb (fun x y _ _ sx exy => cl x y sx exy)⟩
theorem in1 (h1 : FV nn m1 r1) {x y : Nat} (hx : m1.testBit x = true) (hy : m1.testBit y = true) : Cn (eG m1 r1 m2 r2) nn x y := by
  by_cases z : x = y
  · rw [z]; exact Cn_refl
  · refine Cn_step Cn_refl (tb_lt h1.1 hx) (tb_lt h1.1 hy) (Or.inl ⟨?_, z, hx, hy⟩)
    rcases Nat.lt_or_ge r1 2 with w | w
    · exact absurd (h1.2.2.1 w x y hx hy) z
    · exact w
theorem in2 (h2 : FV nn m2 r2) {x y : Nat} (hx : m2.testBit x = true) (hy : m2.testBit y = true) : Cn (eG m1 r1 m2 r2) nn x y := by
  by_cases z : x = y
  · rw [z]; exact Cn_refl
  · refine Cn_step Cn_refl (tb_lt h2.1 hx) (tb_lt h2.1 hy) (Or.inr ⟨?_, z, hx, hy⟩)
    rcases Nat.lt_or_ge r2 2 with w | w
    · exact absurd (h2.2.2.1 w x y hx hy) z
    · exact w
theorem rl_C {C : Nat → Prop} {b : Nat} {Lo : Nat → Prop} {fx : Nat → Int32} {r : Nat} (hC : ∀ t, b.testBit t = true ↔ C t) (h : rl (fun t => b.testBit t = true) nn Lo fx r) : rl C nn Lo fx r := rl_congr hC (fun _ _ => Iff.rfl) (fun _ _ => rfl) h
/-- a net that no fault names -/
theorem hp_alone (hn : n < nn) (n1 : m1.testBit n = false) (n2 : m2.testBit n = false) : HP (eG m1 r1 m2 r2) nn (lG m1 r1 m2 r2) (fG m1 r1 m2 r2) n (2 ^ n) 3 := by
  have tb : ∀ t, (2 ^ n).testBit t = true ↔ t = n := fun t => by
    rw [Nat.testBit_two_pow]
    exact ⟨fun h => (of_decide_eq_true h).symm, fun h => decide_eq_true h.symm⟩
  have cn := blkC (nn := nn) (E := eG m1 r1 m2 r2) (b := 2 ^ n) ((tb n).mpr rfl) (fun x y hx e => by
    have := (tb x).mp hx
    subst this
    rcases e with e | e
    · exact absurd (n1.symm.trans e.2.2.1) (by decide)
    · exact absurd (n2.symm.trans e.2.2.1) (by decide)) (fun t ht => by rw [(tb t).mp ht]; exact Cn_refl)
  refine ⟨Nat.pow_lt_pow_right (by decide) hn, cn, by decide, rl_C cn (Or.inr ⟨fun a ha ca => ?_, Or.inr ⟨?_, rfl⟩⟩)⟩
  · rw [(tb a).mp ca]
    exact f_00 (fun y => by rw [n1] at y; exact absurd y.2 (by decide)) (fun y => by rw [n2] at y; exact absurd y.2 (by decide))
  · rintro ⟨a, a1, a2, a3⟩
    rw [(tb a).mp a2] at a3
    rcases a3 with y | y
    · rw [n1] at y; exact absurd y.2 (by decide)
    · rw [n2] at y; exact absurd y.2 (by decide)
theorem hp_first (h1 : FV nn m1 r1) (dj : ∀ x, m1.testBit x = true → m2.testBit x = false) (hn : m1.testBit n = true) : HP (eG m1 r1 m2 r2) nn (lG m1 r1 m2 r2) (fG m1 r1 m2 r2) n m1 r1 := by
  have cn := blkC (nn := nn) (E := eG m1 r1 m2 r2) (b := m1) hn (fun x y hx e => by
    rcases e with e | e
    · exact e.2.2.2
    · have := dj x hx
      rw [e.2.2.1] at this
      cases this) (fun t ht => in1 h1 hn ht)
  have n2 : ∀ x, m1.testBit x = true → ¬ (r2 < 2 ∧ m2.testBit x = true) := fun x hx y => by
    have := dj x hx
    rw [y.2] at this
    cases this
  refine ⟨h1.1, cn, h1.2.1, rl_C cn ?_⟩
  rcases Nat.lt_or_ge r1 2 with w | w
  · refine Or.inl ⟨n, tb_lt h1.1 hn, hn, f_01 ⟨w, hn⟩ (n2 n hn), w, fun b hb cb => ?_⟩
    have := h1.2.2.1 w b n cb hn
    omega
  · have fx : ∀ a, a < nn → m1.testBit a = true → fG m1 r1 m2 r2 a = -4 := fun a _ ca => f_00 (fun y => by omega) (n2 a ca)
    refine Or.inr ⟨fx, ?_⟩
    have hr := h1.2.1
    rcases (show r1 = 2 ∨ r1 = 3 by omega) with z | z
    · exact Or.inl ⟨⟨n, tb_lt h1.1 hn, hn, Or.inl ⟨z, hn⟩⟩, z⟩
    · refine Or.inr ⟨?_, z⟩
      rintro ⟨a, a1, a2, a3⟩
      rcases a3 with y | y
      · omega
      · have := dj a a2
        rw [y.2] at this
        cases this
theorem eG_sw {x y : Nat} : eG m1 r1 m2 r2 x y ↔ eG m2 r2 m1 r1 x y := Or.comm
theorem fG_sw : fG m1 r1 m2 r2 n = fG m2 r2 m1 r1 n := by
  by_cases a : r1 < 2 ∧ m1.testBit n = true <;> by_cases b : r2 < 2 ∧ m2.testBit n = true
  · rw [f_11 a b, f_11 b a]
  · rw [f_01 a b, f_10 b a]
  · rw [f_10 a b, f_01 b a]
  · rw [f_00 a b, f_00 b a]
theorem hp_sw {mk r : Nat} (h : HP (eG m2 r2 m1 r1) nn (lG m2 r2 m1 r1) (fG m2 r2 m1 r1) n mk r) : HP (eG m1 r1 m2 r2) nn (lG m1 r1 m2 r2) (fG m1 r1 m2 r2) n mk r :=
  HP_congr (fun _ _ _ _ => eG_sw) (fun _ _ => Or.comm) (fun _ _ => fG_sw) h
theorem hp_both (h1 : FV nn m1 r1) (h2 : FV nn m2 r2) (ne : ∀ x, r1 < 2 → r2 < 2 → m1.testBit x = true → m2.testBit x = true → r1 ≠ r2) {c : Nat} (c1 : m1.testBit c = true) (c2 : m2.testBit c = true) (hn : (m1 ||| m2).testBit n = true) : HP (eG m1 r1 m2 r2) nn (lG m1 r1 m2 r2) (fG m1 r1 m2 r2) n (m1 ||| m2) (min r1 r2) := by
  have tb : ∀ t, (m1 ||| m2).testBit t = true ↔ m1.testBit t = true ∨ m2.testBit t = true := fun t => by rw [Nat.testBit_or, Bool.or_eq_true]
  have toC : ∀ t, (m1 ||| m2).testBit t = true → Cn (eG m1 r1 m2 r2) nn t c := fun t ht => ((tb t).mp ht).elim (fun y => in1 h1 y c1) (fun y => in2 h2 y c2)
  have frC : ∀ t, (m1 ||| m2).testBit t = true → Cn (eG m1 r1 m2 r2) nn c t := fun t ht => ((tb t).mp ht).elim (fun y => in1 h1 c1 y) (fun y => in2 h2 c2 y)
  have cn := blkC (nn := nn) (E := eG m1 r1 m2 r2) (b := m1 ||| m2) hn (fun x y hx e => (tb y).mpr (e.imp (fun e => e.2.2.2) (fun e => e.2.2.2))) (fun t ht => Cn_trans (toC n hn) (frC t ht))
  have l1 := h1.2.1
  have l2 := h2.2.1
  have cl : c < nn := tb_lt h1.1 c1
  refine ⟨Nat.or_lt_two_pow h1.1 h2.1, cn, by omega, rl_C cn ?_⟩
  rcases Nat.lt_or_ge r1 2 with w1 | w1 <;> rcases Nat.lt_or_ge r2 2 with w2 | w2
  · have := ne c w1 w2 c1 c2
    rw [show min r1 r2 = 0 by omega]
    refine Or.inl ⟨c, cl, (tb c).mpr (Or.inl c1), f_11 ⟨w1, c1⟩ ⟨w2, c2⟩, by decide, fun b hb cb => ?_⟩
    rcases (tb b).mp cb with y | y
    · have := h1.2.2.1 w1 b c y c1; omega
    · have := h2.2.2.1 w2 b c y c2; omega
  · rw [show min r1 r2 = r1 by omega]
    refine Or.inl ⟨c, cl, (tb c).mpr (Or.inl c1), f_01 ⟨w1, c1⟩ (fun y => by omega), w1, fun b hb cb => f_00 (fun y => ?_) (fun y => by omega)⟩
    have := h1.2.2.1 w1 b c y.2 c1; omega
  · rw [show min r1 r2 = r2 by omega]
    refine Or.inl ⟨c, cl, (tb c).mpr (Or.inl c1), f_10 (fun y => by omega) ⟨w2, c2⟩, w2, fun b hb cb => f_00 (fun y => by omega) (fun y => ?_)⟩
    have := h2.2.2.1 w2 b c y.2 c2; omega
  · refine Or.inr ⟨fun a _ _ => f_00 (fun y => by omega) (fun y => by omega), ?_⟩
    by_cases z : r1 = 2 ∨ r2 = 2
    · refine Or.inl ⟨⟨c, cl, (tb c).mpr (Or.inl c1), ?_⟩, by omega⟩
      exact z.imp (fun y => ⟨y, c1⟩) (fun y => ⟨y, c2⟩)
    · refine Or.inr ⟨?_, by omega⟩
      rintro ⟨a, a1, a2, a3⟩
      rcases a3 with y | y
      · exact z (Or.inl y.1)
      · exact z (Or.inr y.1)
theorem tb_ex {m : Nat} (h : m ≠ 0) : ∃ c, m.testBit c = true := Nat.exists_testBit_of_ne_zero h
theorem up_one {row : Nat} : upB (2 ^ n) 3 row = row.testBit n := by
  unfold upB
  rw [decide_eq_false (show ¬ (3 : Nat) = 1 by decide), decide_eq_false (show ¬ (3 : Nat) = 2 by decide), decide_eq_true (rfl : (3 : Nat) = 3), Bool.false_and, Bool.or_false, Bool.false_or, Bool.true_and]
  have tb : ∀ i, (row &&& 2 ^ n).testBit i = (row.testBit i && decide (n = i)) := fun i => by rw [Nat.testBit_and, Nat.testBit_two_pow]
  cases y : row.testBit n
  · rw [decide_eq_true]
    · rfl
    · apply Nat.eq_of_testBit_eq
      intro i
      rw [tb, Nat.zero_testBit]
      by_cases z : n = i
      · rw [← z, y, Bool.false_and]
      · rw [decide_eq_false z, Bool.and_false]
  · rw [decide_eq_false]
    · rfl
    · intro z
      have := tb n
      rw [z, Nat.zero_testBit, y, decide_eq_true rfl] at this
      cases this
theorem gv {row mk r : Nat} (h8 : nn ≤ 8) (h1 : FV nn m1 r1) (h2 : FV nn m2 r2) (ne : ∀ x, r1 < 2 → r2 < 2 → m1.testBit x = true → m2.testBit x = true → r1 ≠ r2) (hn : n < nn) (hr : row < 256) (h : HP (eG m1 r1 m2 r2) nn (lG m1 r1 m2 r2) (fG m1 r1 m2 r2) n mk r) : upB mk r row = (lvG m1 r1 m2 r2 row).testBit n := by
  have b8 := p8 h8
  have b1 := h1.1
  have b2 := h2.1
  unfold lvG
  by_cases z : m1 &&& m2 = 0
  · rw [if_pos z]
    have dj : ∀ x, m1.testBit x = true → m2.testBit x = false := by
      intro x hx
      have := congrArg (fun u => Nat.testBit u x) z
      simp only [Nat.testBit_and, hx, Bool.true_and, Nat.zero_testBit] at this
      exact this
    have dj2 : ∀ x, m2.testBit x = true → m1.testBit x = false := by
      intro x hx
      cases y : m1.testBit x
      · rfl
      · rw [dj x y] at hx; cases hx
    rw [stl_bit (stl_lt hr (by omega)) (by omega)]
    cases y2 : m2.testBit n
    · rw [if_neg (by decide), stl_bit hr (by omega)]
      cases y1 : m1.testBit n
      · rw [if_neg (by decide)]
        obtain ⟨rfl, rfl⟩ := HP_uniq (fun _ => Iff.rfl) h (hp_alone hn y1 y2)
        exact up_one
      · rw [if_pos rfl]
        obtain ⟨rfl, rfl⟩ := HP_uniq (fun _ => Iff.rfl) h (hp_first h1 dj y1)
        rfl
    · rw [if_pos rfl]
      obtain ⟨rfl, rfl⟩ := HP_uniq (fun _ => Iff.rfl) h (hp_sw (hp_first h2 dj2 y2))
      refine upB_congr (and_congr2 (fun j hj => ?_))
      rw [stl_bit hr (by omega), dj2 j hj, if_neg (by decide)]
  · rw [if_neg z, stl_bit hr (Nat.or_lt_two_pow (n := 8) (by omega) (by omega))]
    obtain ⟨c, hc⟩ := tb_ex z
    rw [Nat.testBit_and, Bool.and_eq_true] at hc
    cases y : (m1 ||| m2).testBit n
    · rw [if_neg (by decide)]
      rw [Nat.testBit_or, Bool.or_eq_false_iff] at y
      obtain ⟨rfl, rfl⟩ := HP_uniq (fun _ => Iff.rfl) h (hp_alone hn y.1 y.2)
      exact up_one
    · rw [if_pos rfl]
      obtain ⟨rfl, rfl⟩ := HP_uniq (fun _ => Iff.rfl) h (hp_both h1 h2 ne hc.1 hc.2 y)
      rfl
end GV
