/-! all chips written, one number each -/
def up (X : wM) (A J : Nat → Nat) (v : Nat → Int32) : Nat → wM
  | 0 => X
  | k + 1 => si (up X A J v k) (A k) (J k) (v k)
section UP
variable {X M : wM} {A J R : Nat → Nat} {v vm : Nat → Int32}
theorem up_ne {a j : Nat} : ∀ k, (∀ c, c < k → a ≠ A c ∨ j ≠ J c) → gi (up X A J v k) a j = gi X a j
  | 0, _ => rfl
  | k + 1, h => by
    show gi (si (up X A J v k) (A k) (J k) (v k)) a j = _
    rw [gi_ne (h k (by omega)), up_ne k (fun c hc => h c (by omega))]
theorem up_gp (c : Nat) : ∀ k, gp (up X A J v k) c = gp X c
  | 0 => rfl
  | k + 1 => (up_gp c k : _)
theorem up_at {c : Nat} : ∀ k, c < k → (∀ c', c < c' → c' < k → A c ≠ A c' ∨ J c ≠ J c') → gi (up X A J v k) (A c) (J c) = v c
  | 0, h, _ => by omega
  | k + 1, h, d => by
    show gi (si (up X A J v k) (A k) (J k) (v k)) (A c) (J c) = _
    by_cases z : c = k
    · subst z
      rw [gi_eq]
    · rw [gi_ne (d k (by omega) (by omega)), up_at k (by omega) (fun c' h1 h2 => d c' h1 (by omega))]
/-- what a chip reads of memories in which all chips were written -/
theorem up_own {c k : Nat} (hk : c < k) (hA : ∀ c, A c = 34 + 3 * c ∨ A c = 35 + 3 * c) {a j : Nat} (ha : a = 34 + 3 * c ∨ a = 35 + 3 * c ∨ a = 36 + 3 * c ∨ 65 ≤ a) (hk6 : k ≤ 6) : gi (up X A J v k) a j = gi (si X (A c) (J c) (v c)) a j := by
  by_cases z : a = A c ∧ j = J c
  · rw [z.1, z.2, gi_eq, up_at k hk (fun c' h1 h2 => Or.inl (by have := hA c; have := hA c'; omega))]
  · rw [gi_ne (by omega), up_ne k (fun c' hc' => ?_)]
    by_cases y : c' = c
    · subst y; omega
    · left
      have := hA c
      have := hA c'
      omega
theorem upM_own {c k a j : Nat} (hk : c < k) (hj : j = c) : gi (up M R (fun c => c) vm k) a j = gi (si M (R c) c (vm c)) a j := by
  subst hj
  by_cases z : a = R j
  · rw [z, gi_eq]
    exact up_at (J := fun c => c) k hk (fun c' h1 h2 => Or.inr (by omega))
  · rw [gi_ne (Or.inl z), up_ne k (fun c' hc' => ?_)]
    by_cases y : c' = j
    · subst y; exact Or.inl z
    · exact Or.inr (Ne.symm y)
theorem iC_up {nc : Nat} (h : iC X M) (hnc : nc ≤ 6) (e : gi X 26 3 = nI nc) (hA : ∀ c, A c = 34 + 3 * c ∨ A c = 35 + 3 * c) (hR : ∀ c, 15 ≤ R c ∧ R c ≤ 21) (hk : ∀ np nn c, c < nc → chipOk X M np nn c → chipOk (si X (A c) (J c) (v c)) (si M (R c) c (vm c)) np nn c) : iC (up X A J v nc) (up M R (fun c => c) vm nc) := by
  obtain ⟨nc2, np, nn, h1, h2, h3, e1, e2, e3, e4, k, kn⟩ := h
  obtain rfl : nc2 = nc := inj31 (e1.symm.trans e) (by omega) (by omega)
  have xo : ∀ a j, a < 34 ∨ 34 + 3 * nc2 ≤ a → gi (up X A J v nc2) a j = gi X a j := fun a j ha => up_ne nc2 (fun c hc => Or.inl (by have := hA c; omega))
  have mo : ∀ a j, a < 15 ∨ 21 < a → gi (up M R (fun c => c) vm nc2) a j = gi M a j := fun a j ha => up_ne nc2 (fun c hc => Or.inl (by have := hR c; omega))
  refine ⟨nc2, np, nn, h1, h2, h3, by rw [xo _ _ (by omega)]; exact e1, by rw [mo _ _ (by omega)]; exact e2, by rw [xo _ _ (by omega)]; exact e3, by rw [xo _ _ (by omega)]; exact e4, fun c hc => ?_, fun c g1 g2 => ?_⟩
  · have ok := hk np nn c hc (k c hc)
    refine chipOk_fr2 h2 ok (by rw [up_gp, gp_si]) (fun p j hp => up_own hc hA (by omega) h1) (fun j => up_own hc hA (by omega) h1) (fun j => up_own hc hA (by omega) h1) (fun j => up_own hc hA (by omega) h1) (fun a g1 g2 => upM_own hc rfl) (fun i hi => ?_)
    rw [mo _ _ (by omega), gi_ne (Or.inl (by have := hR c; omega))]
  · exact chipNo_fr (kn c g1 g2) (fun j => xo _ _ (by omega)) (fun j => xo _ _ (by omega)) (fun j => xo _ _ (by omega))
theorem sX_up {nc : Nat} (hnc : nc ≤ 6) (hA : ∀ c, A c = 34 + 3 * c ∨ A c = 35 + 3 * c) : sX [34, 35, 37, 38, 40, 41, 43, 44, 46, 47, 49, 50] X (up X A J v nc) := by
  refine ⟨fun a j q => up_ne nc (fun c hc => Or.inl (fun z => q ?_)), fun c => up_gp c nc⟩
  have := hA c
  rw [z]
  rcases (show c = 0 ∨ c = 1 ∨ c = 2 ∨ c = 3 ∨ c = 4 ∨ c = 5 by omega) with rfl | rfl | rfl | rfl | rfl | rfl <;> rcases this with y | y <;> rw [y] <;> simp [cX]
theorem sM_up {nc : Nat} (hR : ∀ c, 15 ≤ R c ∧ R c ≤ 21) : sM [15, 16, 17, 18, 19, 20, 21] M (up M R (fun c => c) vm nc) := by
  refine fun a j q => up_ne nc (fun c hc => Or.inl (fun z => q ?_))
  have := hR c
  rw [z]
  rcases (show R c = 15 ∨ R c = 16 ∨ R c = 17 ∨ R c = 18 ∨ R c = 19 ∨ R c = 20 ∨ R c = 21 by omega) with y | y | y | y | y | y | y <;> rw [y] <;> simp [cM]
theorem Inv_up {nc : Nat} (h : Inv X M) (hnc : nc ≤ 6) (e : gi X 26 3 = nI nc) (hA : ∀ c, A c = 34 + 3 * c ∨ A c = 35 + 3 * c) (hR : ∀ c, 15 ≤ R c ∧ R c ≤ 21) (hk : ∀ np nn c, c < nc → chipOk X M np nn c → chipOk (si X (A c) (J c) (v c)) (si M (R c) c (vm c)) np nn c) : Inv (up X A J v nc) (up M R (fun c => c) vm nc) :=
  Inv_fr h (sX_up hnc hA) (sM_up hR) (hC := Or.inr (iC_up h.2.2.2.1 hnc e hA hR hk))
end UP
