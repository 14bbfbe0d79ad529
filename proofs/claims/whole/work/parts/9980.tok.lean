/-! the reader: tokens -/
theorem si_si (M : wM) (a j : Nat) (x y : Int32) : si (si M a j x) a j y = si M a j y := by
  have e : aUp (aUp M.1 a j x) a j y = aUp M.1 a j y := by
    funext b k
    show (if b = a ∧ k = j then y else if b = a ∧ k = j then x else M.1 b k) = if b = a ∧ k = j then y else M.1 b k
    by_cases z : b = a ∧ k = j
    · rw [if_pos z, if_pos z]
    · rw [if_neg z, if_neg z, if_neg z]
  show (aUp (aUp M.1 a j x) a j y, M.2) = (aUp M.1 a j y, M.2)
  rw [e]
def skd (b : Nat → Nat) (lo hi : Nat) : Nat → Nat → Nat
  | 0, p => p
  | d + 1, p => if lo ≤ b p ∧ b p ≤ hi then skd b lo hi d (p + 1) else p
def skf (b : Nat → Nat) (n lo hi p : Nat) : Nat := skd b lo hi (n - p) p
section SK
variable {b : Nat → Nat} {n lo hi p : Nat}
theorem skd_le : ∀ d p, p ≤ skd b lo hi d p ∧ skd b lo hi d p ≤ p + d
  | 0, p => ⟨Nat.le_refl _, Nat.le_refl _⟩
  | d + 1, p => by
    have := skd_le d (p + 1)
    show p ≤ (if lo ≤ b p ∧ b p ≤ hi then skd b lo hi d (p + 1) else p) ∧ (if lo ≤ b p ∧ b p ≤ hi then skd b lo hi d (p + 1) else p) ≤ p + (d + 1)
    split <;> omega
theorem skf_le (h : p ≤ n) : p ≤ skf b n lo hi p ∧ skf b n lo hi p ≤ n := by
  have := skd_le (b := b) (lo := lo) (hi := hi) (n - p) p
  unfold skf
  omega
theorem skf_t (h : p < n) (k : lo ≤ b p ∧ b p ≤ hi) : skf b n lo hi p = skf b n lo hi (p + 1) := by
  unfold skf
  rw [show n - p = (n - (p + 1)) + 1 by omega]
  show (if lo ≤ b p ∧ b p ≤ hi then skd b lo hi (n - (p + 1)) (p + 1) else p) = _
  rw [if_pos k]
theorem skf_f (k : ¬ (p < n ∧ lo ≤ b p ∧ b p ≤ hi)) : skf b n lo hi p = p := by
  unfold skf
  by_cases z : p < n
  · rw [show n - p = (n - (p + 1)) + 1 by omega]
    show (if lo ≤ b p ∧ b p ≤ hi then skd b lo hi (n - (p + 1)) (p + 1) else p) = _
    rw [if_neg (fun y => k ⟨z, y⟩)]
  · rw [show n - p = 0 by omega]
    rfl
theorem skf_stop : ∀ d p, n - p = d → ¬ (skf b n lo hi p < n ∧ lo ≤ b (skf b n lo hi p) ∧ b (skf b n lo hi p) ≤ hi)
  | 0, p, h => by
    rw [skf_f (by omega)]
    omega
  | d + 1, p, h => by
    by_cases z : p < n ∧ lo ≤ b p ∧ b p ≤ hi
    · rw [skf_t z.1 z.2]
      exact skf_stop d (p + 1) (by omega)
    · rw [skf_f z]
      exact z
theorem skf_all : ∀ d p, n - p = d → ∀ j, p ≤ j → j < skf b n lo hi p → lo ≤ b j ∧ b j ≤ hi
  | 0, p, h, j, h1, h2 => by
    rw [skf_f (by omega)] at h2
    omega
  | d + 1, p, h, j, h1, h2 => by
    by_cases z : p < n ∧ lo ≤ b p ∧ b p ≤ hi
    · rw [skf_t z.1 z.2] at h2
      by_cases y : j = p
      · rw [y]; exact z.2
      · exact skf_all d (p + 1) (by omega) j (by omega) h2
    · rw [skf_f z] at h2
      omega
end SK
/-- the token at p: its first byte, its kind, the byte behind it, whether it is one -/
def tF (b : Nat → Nat) (n p : Nat) : Nat := skf b n 32 32 p
def tK (b : Nat → Nat) (n p : Nat) : Nat := if n ≤ tF b n p then 0 else if b (tF b n p) = 59 then 3 else if 97 ≤ b (tF b n p) ∧ b (tF b n p) ≤ 122 then 1 else 2
def tE (b : Nat → Nat) (n p : Nat) : Nat := if n ≤ tF b n p then tF b n p else if b (tF b n p) = 59 then tF b n p + 1 else if 97 ≤ b (tF b n p) ∧ b (tF b n p) ≤ 122 then skf b n 97 122 (tF b n p) else skf b n 48 57 (tF b n p)
def tG (b : Nat → Nat) (n p : Nat) : Prop := tK b n p = 2 → tF b n p < tE b n p ∧ tE b n p - tF b n p ≤ 9
def vl (b : Nat → Nat) (f : Nat) : Nat → Nat
  | 0 => 0
  | k + 1 => vl b f k * 10 + (b (f + k) - 48)
theorem tF_le {b : Nat → Nat} {n p : Nat} (h : p ≤ n) : p ≤ tF b n p ∧ tF b n p ≤ n := skf_le h
theorem tE_le {b : Nat → Nat} {n p : Nat} (h : p ≤ n) : tF b n p ≤ tE b n p ∧ tE b n p ≤ n := by
  have h1 := tF_le (b := b) h
  unfold tE
  split
  · omega
  · split
    · omega
    · split
      · exact skf_le h1.2
      · exact skf_le h1.2
theorem tK_1 {b : Nat → Nat} {n p : Nat} (h : p ≤ n) (k : tK b n p = 1) : tF b n p < tE b n p := by
  unfold tK at k
  unfold tE
  split at k
  · cases k
  · split at k
    · cases k
    · split at k
      · rename_i z1 z2 z3
        rw [if_neg z1, if_neg z2, if_pos z3, skf_t (by omega) z3]
        have := (skf_le (b := b) (lo := 97) (hi := 122) (show tF b n p + 1 ≤ n by omega)).1
        omega
      · cases k
/-- the class's tape -/
def TX (A : wM) (b : Nat → Nat) (n : Nat) : Prop := n ≤ 240 ∧ gi A 1 1 = nI n ∧ ∀ j, j < n → b j < 256 ∧ gi A 2 j = (nI (b j)).toInt8.toInt32
set_option maxRecDepth 100000 in
theorem bbv : ∀ k, k < 256 → ((nI k).toInt8.toInt32).toInt = if k < 128 then (k : Int) else (k : Int) - 256 := by decide
theorem bb_lt {k lo : Nat} (hk : k < 256) (h1 : 0 < lo) (h2 : lo < 128) : (nI k).toInt8.toInt32 < nI lo ↔ k < lo ∨ 128 ≤ k := by
  rw [lt_n (by omega), bbv k hk]
  split <;> omega
theorem bb_gt {k hi : Nat} (hk : k < 256) (h2 : hi < 128) : nI hi < (nI k).toInt8.toInt32 ↔ hi < k ∧ k < 128 := by
  rw [n_lt (by omega), bbv k hk]
  split <;> omega
theorem bb_eq {k c : Nat} (hk : k < 256) (h2 : c < 128) : (nI k).toInt8.toInt32 = nI c ↔ k = c := by
  rw [eq_n (by omega), bbv k hk]
  split <;> omega
theorem TX_fr {A A' : wM} {b : Nat → Nat} {n : Nat} (h : TX A b n) (k1 : gi A' 1 1 = gi A 1 1) (k2 : ∀ j, gi A' 2 j = gi A 2 j) : TX A' b n := ⟨h.1, k1.trans h.2.1, fun j hj => ⟨(h.2.2 j hj).1, (k2 j).trans (h.2.2 j hj).2⟩⟩
theorem skipX {b : Nat → Nat} {n lo hi p : Nat} {A : wM} {Q : wM → Prop} (tx : TX A b n) (h0 : 0 < lo) (h1 : lo ≤ hi) (h2 : hi < 128) (e : gi A 3 7 = nI p) (hp : p ≤ n) (q : Q (si A 3 7 (nI (skf b n lo hi p)))) : w_X7_skip (nI lo) (nI hi) A Q := by
  have n240 := tx.1
  have one : ∀ (p : Nat) (A : wM) (K : wM → Prop), TX A b n → gi A 3 7 = nI p → p ≤ n → (¬ (p < n ∧ lo ≤ b p ∧ b p ≤ hi) → Q A) → ((p < n ∧ lo ≤ b p ∧ b p ≤ hi) → K (si A 3 7 (nI (p + 1)))) → ((gi A 1 1) ≤ (gi A 3 7) → Q A) ∧ (¬ (gi A 1 1) ≤ (gi A 3 7) → vp_in (gi A 3 7) 240 ∧ (((gi A 2 (gi A 3 7).toNatClampNeg) < (nI lo) → Q A) ∧ (¬ (gi A 2 (gi A 3 7).toNatClampNeg) < (nI lo) → vp_in (gi A 3 7) 240 ∧ (((nI hi) < (gi A 2 (gi A 3 7).toNatClampNeg) → Q A) ∧ (¬ (nI hi) < (gi A 2 (gi A 3 7).toNatClampNeg) → K (si A 3 7 ((gi A 3 7) + (nI 1)))))))) := by
    intro p A K tx e hp q1 q2
    rw [e, tx.2.1, nI_clamp (n := p) (by omega), nI_add]
    by_cases z : p < n
    · obtain ⟨b1, b2⟩ := tx.2.2 p z
      have v : vp_in (nI p) 240 := vp_in_nI (by omega) (by decide)
      rw [b2, bb_lt b1 h0 (by omega), bb_gt b1 h2]
      exact bf (nI_ge z (by omega)) ⟨v, bc (fun y => q1 (by omega)) (fun y => ⟨v, bc (fun w => q1 (by omega)) (fun w => q2 (by omega))⟩)⟩
    · exact bt (nI_le (by omega) (by omega)) (q1 (fun y => z y.1))
  have key : ∀ d p (A : wM), n - p = d → TX A b n → gi A 3 7 = nI p → p ≤ n → Q (si A 3 7 (nI (skf b n lo hi p))) → wL_X7_skip_0 (nI lo) (nI hi) Q (d + 1) A := by
    intro d
    induction d with
    | zero =>
      intro p A hd tx e hp q
      rw [skf_f (by omega), si_same e] at q
      exact one p A _ tx e hp (fun _ => q) (fun z => by omega)
    | succ d ih =>
      intro p A hd tx e hp q
      refine one p A (wL_X7_skip_0 (nI lo) (nI hi) Q (d + 1)) tx e hp (fun z => ?_) (fun z => ?_)
      · rw [skf_f z, si_same e] at q
        exact q
      · refine ih (p + 1) _ (by omega) (TX_fr tx (gi_ne (by decide)) (fun j => gi_ne (Or.inl (by decide)))) (gi_eq ..) (by omega) ?_
        rw [si_si, ← skf_t z.1 z.2]
        exact q
  unfold w_X7_skip
  refine one p A (fun M => ∃ k, wL_X7_skip_0 (nI lo) (nI hi) Q k M) tx e hp (fun z => ?_) (fun z => ?_)
  · rw [skf_f z, si_same e] at q
    exact q
  · refine ⟨_, key (n - (p + 1)) (p + 1) _ rfl (TX_fr tx (gi_ne (by decide)) (fun j => gi_ne (Or.inl (by decide)))) (gi_eq ..) (by omega) ?_⟩
    rw [si_si, ← skf_t z.1 z.2]
    exact q
/-- nothing but the reader's token has changed -/
def f3 (A A' : wM) : Prop := (∀ a j, a ≠ 3 ∨ (j ≠ 5 ∧ j ≠ 6 ∧ j ≠ 7) → gi A' a j = gi A a j) ∧ ∀ c, gp A' c = gp A c
/-- a fault was told -/
def bad (A A' : wM) (c f : Nat) : Prop := ((∀ a j, a ≠ 3 ∨ j < 3 ∨ 8 < j → gi A' a j = gi A a j) ∧ ∀ c, gp A' c = gp A c) ∧ gi A' 3 3 = nI c ∧ gi A' 3 4 = nI f
theorem takeX {b : Nat → Nat} {n p : Nat} {A : wM} {Q : Int32 → wM → Prop} (tx : TX A b n) (e : gi A 3 7 = nI p) (hp : p ≤ n)
    (q1 : tG b n p → ∀ A' : wM, f3 A A' → gi A' 3 5 = nI (tK b n p) → gi A' 3 6 = nI (tF b n p) → gi A' 3 7 = nI (tE b n p) → Q (nI 1) A')
    (q0 : ¬ tG b n p → ∀ A' : wM, bad A A' 1 (tF b n p) → Q (nI 0) A') : w_X7_take A Q := by
  have n240 := tx.1
  obtain ⟨f1, f2⟩ := tF_le (b := b) hp
  have l := tE_le (b := b) hp
  unfold w_X7_take
  refine skipX tx (by decide) (by decide) (by decide) e hp ?_
  have eT : skf b n 32 32 p = tF b n p := rfl
  rw [eT]
  have t2 : TX (si A 3 7 (nI (tF b n p))) b n := TX_fr tx (gi_ne (by decide)) (fun j => gi_ne (Or.inl (by decide)))
  unfold tG at q1 q0
  unfold tK tE at q1 q0
  unfold tE at l
  generalize tF b n p = f at f1 f2 t2 q1 q0 l
  rw [gi_eq, t2.2.1, lt_nn (by omega) (by omega), nI_clamp (n := f) (by omega)]
  by_cases z1 : n ≤ f
  · rw [if_pos z1, if_pos z1] at q1
    refine bf (by omega) (q1 (fun y => by cases y) _ ⟨fun a j h => ?_, fun _ => rfl⟩ (gi_eq ..) ?_ ?_)
    · rw [gi_ne (by omega), gi_ne (by omega), gi_ne (by omega)]
    · rw [gi_ne (by decide), gi_eq]
    · rw [gi_ne (by decide), gi_ne (by decide), gi_eq]
  · obtain ⟨b1, b2⟩ := t2.2.2 f (by omega)
    rw [if_neg z1, if_neg z1] at q1 q0
    rw [if_neg z1] at l
    rw [b2, bb_eq b1 (by decide)]
    refine bt (by omega) ⟨vp_in_nI (by omega) (by decide), ?_⟩
    by_cases z2 : b f = 59
    · rw [if_pos z2, if_pos z2] at q1
      refine bt z2 (q1 (fun y => by cases y) _ ⟨fun a j h => ?_, fun _ => rfl⟩ ?_ ?_ ?_)
      · rw [gi_ne (by omega), gi_ne (by omega), gi_ne (by omega), gi_ne (by omega)]
      · rw [gi_ne (by decide), gi_eq]
      · rw [gi_ne (by decide), gi_ne (by decide), gi_eq]
      · rw [gi_eq, nI_add]
    · rw [if_neg z2, if_neg z2] at q1 q0
      rw [if_neg z2] at l
      refine bf z2 (skipX (p := f) (TX_fr t2 (gi_ne (by decide)) (fun j => gi_ne (Or.inl (by decide)))) (by decide) (by decide) (by decide) (by rw [gi_ne (by decide), gi_eq]) f2 ?_)
      rw [gi_eq, gi_ne (by decide), gi_eq]
      by_cases z3 : 97 ≤ b f ∧ b f ≤ 122
      · rw [if_pos z3, if_pos z3] at q1
        rw [if_pos z3] at l
        have sf := skf_t (b := b) (n := n) (lo := 97) (hi := 122) (p := f) (by omega) z3
        have sl := (skf_le (b := b) (lo := 97) (hi := 122) (show f + 1 ≤ n by omega)).1
        refine bf (nI_ge (by omega) (by omega)) (q1 (fun y => by cases y) _ ⟨fun a j h => ?_, fun _ => rfl⟩ (gi_eq ..) ?_ ?_)
        · rw [gi_ne (by omega), gi_ne (by omega), gi_ne (by omega), gi_ne (by omega)]
        · rw [gi_ne (by decide), gi_ne (by decide), gi_eq]
        · rw [gi_ne (by decide), gi_eq]
      · rw [if_neg z3, if_neg z3] at q1 q0
        rw [if_neg z3] at l
        have sf := skf_f (b := b) (n := n) (lo := 97) (hi := 122) (p := f) (fun y => z3 y.2)
        rw [sf]
        refine bt (nI_le (by omega) (by omega)) (skipX (p := f) (TX_fr t2 ?_ (fun j => ?_)) (by decide) (by decide) (by decide) (gi_eq ..) f2 ?_)
        · rw [gi_ne (by decide), gi_ne (by decide)]
        · rw [gi_ne (Or.inl (by decide)), gi_ne (Or.inl (by decide))]
        rw [si_si, gi_eq, gi_ne (by decide), gi_eq]
        generalize skf b n 48 57 f = ee at q1 q0 l
        have ref : ¬ (2 = 2 → f < ee ∧ ee - f ≤ 9) → w_X7_refuse (nI 1) (si (si (si (si A 3 7 (nI f)) 3 6 (nI f)) 3 7 (nI ee)) 3 5 (nI 2)) (fun r12 M13 => (r12 = (nI 0) → Q (nI 0) M13) ∧ (¬ r12 = (nI 0) → Q (nI 1) M13)) := by
          intro y
          refine bt rfl (q0 y _ ⟨⟨fun a j h => ?_, fun _ => rfl⟩, ?_, ?_⟩)
          · rw [gi_ne (by omega), gi_ne (by omega), gi_ne (by omega), gi_ne (by omega), gi_ne (by omega), gi_ne (by omega)]
          · rw [gi_ne (by decide), gi_eq]
          · rw [gi_eq, gi_ne (by decide), gi_ne (by decide), gi_eq]
        by_cases z4 : ee ≤ f
        · exact bt (nI_le z4 (by omega)) (ref (fun y => by have := y rfl; omega))
        · refine bf (nI_ge (by omega) (by omega)) ?_
          rw [pk_sub (by omega)]
          by_cases z5 : ee - f ≤ 9
          · refine bt (nI_le z5 (by decide)) (q1 (fun _ => ⟨by omega, z5⟩) _ ⟨fun a j h => ?_, fun _ => rfl⟩ (gi_eq ..) ?_ ?_)
            · rw [gi_ne (by omega), gi_ne (by omega), gi_ne (by omega), gi_ne (by omega)]
            · rw [gi_ne (by decide), gi_ne (by decide), gi_eq]
            · rw [gi_ne (by decide), gi_eq]
          · exact bf (nI_ge (by omega) (by omega)) (ref (fun y => z5 (y rfl).2))
