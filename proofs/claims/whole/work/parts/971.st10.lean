/-! the tick of CAPTURE ORDERS, of RESET -/
theorem bI_n (m : Bool) : bI m = nI (if m then 1 else 0) := by cases m <;> rfl
theorem neS {s : Nat} (hs : s < 16) : ∀ k, k < 16 → s ≠ k → ¬ nI s = nI k := fun k hk z y => z (inj31 y (by omega) (by omega))
def FX (X A : wM) : Prop := (∀ a j, a < 26 ∨ (30 ≤ a ∧ a < 34) ∨ 52 ≤ a → gi A a j = gi X a j) ∧ (∀ j, j ≠ 5 → j ≠ 6 → gi A 26 j = gi X 26 j) ∧ ∀ c, gp A c = gp X c
def FM (M B : wM) : Prop := ∀ a j, (a = 0 ∧ j ≠ 33 ∧ j ≠ 34 ∧ j ≠ 36 ∧ j ≠ 37) ∨ (1 ≤ a ∧ a ≤ 14) ∨ (22 ≤ a ∧ a ≠ 24 ∧ a ≠ 29 ∧ a ≠ 30) → gi B a j = gi M a j
theorem FX_refl {X : wM} : FX X X := ⟨fun _ _ _ => rfl, fun _ _ _ => rfl, fun _ => rfl⟩
theorem FM_refl {X : wM} : FM X X := fun _ _ _ => rfl
theorem FX_trans {A B C : wM} (h : FX A B) (k : FX B C) : FX A C := ⟨fun a j q => (k.1 a j q).trans (h.1 a j q), fun j q w => (k.2.1 j q w).trans (h.2.1 j q w), fun c => (k.2.2 c).trans (h.2.2 c)⟩
theorem FM_trans {A B C : wM} (h : FM A B) (k : FM B C) : FM A C := fun a j q => (k a j q).trans (h a j q)
def tl (U : wM) (s : Nat) (m : Bool) : wM := si (si U 26 5 (nI (nx s m))) 26 6 (gi U 26 6 + nI 1)
def tlM (V : wM) (s : Nat) (m : Bool) : wM := si (si V 0 33 (nI (nx s m))) 0 34 (gi V 0 34 + nI 1)
/-- what a step leaves, on both sides -/
def Tk (X M : wM) (m d : Bool) (s : Nat) (r : Int32) (A : wM) : Prop := (∀ Q : Int32 → wM → Prop, Q r A → w_X0_step (bI m) (bI d) X Q) ∧ (∀ Q : Int32 → wM → Prop, (∀ B, Inv A B → FM M B → Q r B) → w_X12_ticks1 (bI m) (bI d) M Q) ∧ (∃ B, Inv A B) ∧ (r = -4 ∨ r = nI 0 ∨ r = nI 1) ∧ (s = 4 ∨ s = 11 → r ≠ -4) ∧ gi A 26 5 = nI (nx s m) ∧ gi A 26 6 = gi X 26 6 + nI 1 ∧ FX X A
theorem FX_tl {X U : wM} {s : Nat} {m : Bool} (f : FX X U) : FX X (tl U s m) := by
  refine FX_trans f ⟨fun a j q => ?_, fun j q w => ?_, fun c => rfl⟩
  · unfold tl
    rw [gi_ne (Or.inl (by omega)), gi_ne (Or.inl (by omega))]
  · unfold tl
    rw [gi_ne (Or.inr w), gi_ne (Or.inr q)]
theorem FM_tl {M V : wM} {s : Nat} {m : Bool} (f : FM M V) : FM M (tlM V s m) := by
  refine FM_trans f (fun a j q => ?_)
  unfold tlM
  rw [gi_ne (by omega), gi_ne (by omega)]
theorem Tk_mk {X M U V : wM} {m d : Bool} {s : Nat} {r : Int32} (hs : s < 16) (iu : Inv U V) (eU : gi U 26 5 = nI s) (fU : FX X U) (e6 : gi U 26 6 = gi X 26 6) (fV : FM M V) (hx : ∀ Q : Int32 → wM → Prop, Q r (tl U s m) → w_X0_step (bI m) (bI d) X Q) (hm : ∀ Q : Int32 → wM → Prop, Q r (tlM V s m) → w_X12_ticks1 (bI m) (bI d) M Q) (hr : r = -4 ∨ r = nI 0 ∨ r = nI 1) (hr2 : s = 4 ∨ s = 11 → r ≠ -4) : Tk X M m d s r (tl U s m) := by
  have it : Inv (tl U s m) (tlM V s m) := Inv_tail iu eU hs
  refine ⟨hx, fun Q q => hm Q (q _ it (FM_tl fV)), ⟨_, it⟩, hr, hr2, ?_, ?_, FX_tl fU⟩
  · unfold tl
    rw [gi_ne (Or.inr (by decide)), gi_eq]
  · unfold tl
    rw [gi_eq, e6]
theorem Tk_idle {X M : wM} {m d : Bool} {s : Nat} (h : Inv X M) (hs : s < 16) (es : gi X 26 5 = nI s) (hi : idle s) : Tk X M m d s (-4) (tl X s m) := by
  obtain ⟨nc, np, nn, h1, h2, h3, e1, e2, e3, e4, e5, e6, hc⟩ := Inv_nc h
  obtain ⟨-, s2, hs2, f1, f2⟩ := h.2.2.2.2.2.1
  obtain rfl : s2 = s := inj31 (f1.symm.trans es) (by omega) (by omega)
  exact Tk_mk hs h es FX_refl rfl FM_refl (fun Q q => stepX_idle h1 hs e1 es hi q) (fun Q q => stepM_idle h1 hs e2 f2 hi q) (Or.inl rfl) (fun z => absurd z (fun z => z.elim hi.2.2.1 hi.2.2.2.2.2.1))
theorem FX_up {X : wM} {A J : Nat → Nat} {v : Nat → Int32} {nc : Nat} (hn : nc ≤ 6) (hA : ∀ c, A c = 34 + 3 * c ∨ A c = 35 + 3 * c) : FX X (up X A J v nc) :=
  ⟨fun a j q => up_ne nc (fun c hc => Or.inl (by have := hA c; omega)), fun j _ _ => up_ne nc (fun c hc => Or.inl (by have := hA c; omega)), fun c => up_gp c nc⟩
theorem FM_up {M : wM} {R : Nat → Nat} {v : Nat → Int32} {nc : Nat} (hR : ∀ c, 15 ≤ R c ∧ R c ≤ 21) : FM M (up M R (fun c => c) v nc) :=
  fun a j q => up_ne nc (fun c hc => Or.inl (by have := hR c; omega))
