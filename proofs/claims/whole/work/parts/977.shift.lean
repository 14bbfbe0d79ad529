/-! the ticks that shift -/
theorem chipOk_id {X M : wM} {np nn c : Nat} {w : Int32} (hc : c < 6) (h : chipOk X M np nn c) : chipOk (si X (35 + 3 * c) 1 w) (si M 18 c w) np nn c := by
  obtain ⟨p, L, n, o, ord, orow, lat, opn, br, cr, k1, k2, k3, k4, k5, k6, k7, k8, k9, k10, k11, k12, k13, k14, k15⟩ := h
  have x0 : ∀ j, gi (si X (35 + 3 * c) 1 w) (65 + p) j = gi X (65 + p) j := fun j => gi_ne (Or.inl (by omega))
  have y0 : ∀ j, gi (si X (35 + 3 * c) 1 w) (34 + 3 * c) j = gi X (34 + 3 * c) j := fun j => gi_ne (Or.inl (by omega))
  have y5 : gi (si X (35 + 3 * c) 1 w) (35 + 3 * c) 0 = gi X (35 + 3 * c) 0 := gi_ne (Or.inr (by decide))
  have y7 : gi (si X (35 + 3 * c) 1 w) (35 + 3 * c) 2 = gi X (35 + 3 * c) 2 := gi_ne (Or.inr (by decide))
  have y9 : ∀ j, gi (si X (35 + 3 * c) 1 w) (36 + 3 * c) j = gi X (36 + 3 * c) j := fun j => gi_ne (Or.inl (by omega))
  have z0 : ∀ a j, a ≠ 18 → gi (si M 18 c w) a j = gi M a j := fun a j ha => gi_ne (Or.inl ha)
  refine ⟨p, L, n, o, ord, orow, lat, opn, br, cr, k1, ?_⟩
  simp only [x0, gp_si, gi_eq, y0, y5, y7, y9, z0 14 _ (by decide), z0 15 _ (by decide), z0 16 _ (by decide), z0 17 _ (by decide), z0 19 _ (by decide), z0 20 _ (by decide), z0 21 _ (by decide), z0 23 _ (by decide)]
  exact ⟨k2, k3, k4, k5, k6, k7, k8, k9, k10, k11, k12, trivial, k14, k15⟩
theorem bI_or (b : Bool) : bI b = nI 0 ∨ bI b = nI 1 := by
  cases b
  · exact Or.inl rfl
  · exact Or.inr rfl
def thr (X : wM) (c : Nat) (b : Bool) : Bool := if gi X 31 c = -4 then b else decide (gi X 31 c = nI 1)
def cy (out : Nat → Bool) (d : Bool) : Nat → Bool
  | 0 => d
  | c + 1 => out c
theorem thr_w {v : Int32} {b : Bool} {Q : Int32 → Prop} (hl : lvl v) (q : Q (bI (if v = -4 then b else decide (v = nI 1)))) : (v = -4 → Q (bI b)) ∧ (¬ v = -4 → Q v) := by
  rcases hl with z | z | z
  · rw [if_pos z] at q
    exact bt z q
  · subst z
    rw [if_neg (by decide), decide_eq_false (by decide)] at q
    exact bf (by decide) q
  · subst z
    rw [if_neg (by decide), decide_eq_true rfl] at q
    exact bf (by decide) q
theorem wireX {X M : wM} {c : Nat} {b : Bool} {Q : Int32 → wM → Prop} (hc : c < 7) (hl : lvl (gi X 31 c)) (e : gi M 31 c = gi X 31 c) (q : Q (bI (thr X c b)) M) : w_X0_behindWire (nI c) (bI b) M Q := by
  unfold w_X0_behindWire
  rw [nI_clamp (by omega), e]
  have v7 : vp_in (nI c) 7 := vp_in_nI hc (by decide)
  have w := thr_w (Q := fun r => Q r M) hl q
  exact ⟨v7, w.1, fun z => ⟨v7, w.2 z⟩⟩
theorem wireM {X M : wM} {c : Nat} {b : Bool} {Q : Int32 → wM → Prop} (hc : c < 7) (hl : lvl (gi X 31 c)) (e : gi M 22 c = gi X 31 c) (q : Q (bI (thr X c b)) M) : w_X12_through (nI c) (bI b) M Q := by
  unfold w_X12_through
  rw [nI_clamp (by omega), e]
  have v7 : vp_in (nI c) 7 := vp_in_nI hc (by decide)
  have w := thr_w (Q := fun r => Q r M) hl q
  exact ⟨v7, w.1, fun z => ⟨v7, w.2 z⟩⟩
section SH
variable {X M : wM} {nc s : Nat} {d : Bool} {out : Nat → Bool} {A J R : Nat → Nat} {v : Nat → Int32} {Q : Int32 → wM → Prop}
theorem shfX (hn : nc ≤ 6) (e : gi X 26 3 = nI nc) (es : gi X 26 5 = nI s) (hK : ∀ j, j < 7 → lvl (gi X 31 j)) (hA : ∀ c, A c = 34 + 3 * c ∨ A c = 35 + 3 * c)
    (act : ∀ i, i < nc → ∀ Q' : Int32 → wM → Prop, Q' (bI (out i)) (up X A J v (i + 1)) → (nI s = nI 11 → w_X1_shiftOrders i (bI (thr X i (cy out d i))) (up X A J v i) Q') ∧ (¬ nI s = nI 11 → w_X1_shiftData i (bI (thr X i (cy out d i))) (up X A J v i) Q'))
    (q : Q (bI (thr X nc (cy out d nc))) (up X A J v nc)) : w_X0_shiftAll (bI d) X Q := by
  have xo : ∀ k a j, a < 34 → gi (up X A J v k) a j = gi X a j := fun k a j ha => up_ne k (fun c hc => Or.inl (by have := hA c; omega))
  refine lo2 (fun K y2 y3 M => wb_X0_shiftAll_4 K y2 y3 M Q) (fun _ _ _ _ => rfl) nc (fun i y M => y = bI (cy out d i) ∧ M = up X A J v i) ?_ ?_ (Nat.zero_le _) ⟨rfl, rfl⟩
  · rintro i y M K hi ⟨rfl, rfl⟩ k
    unfold wb_X0_shiftAll_4
    rw [xo i 26 3 (by decide), e, nI_add]
    refine bf (nI_ge hi (by omega)) (wireX (by omega) (hK i (by omega)) (xo i 31 i (by decide)) ?_)
    rw [xo i 26 5 (by decide), es, nI_clamp (by omega)]
    have a := act i hi (fun r M' => K r (nI (i + 1)) M') (k _ _ ⟨rfl, rfl⟩)
    have v6 : vp_in (nI i) 6 := vp_in_nI (by omega) (by decide)
    exact ⟨fun z => ⟨v6, a.1 z⟩, fun z => ⟨v6, a.2 z⟩⟩
  · rintro y M K ⟨rfl, rfl⟩
    unfold wb_X0_shiftAll_4
    rw [xo nc 26 3 (by decide), e]
    exact bt (nI_le (by omega) (by omega)) (wireX (by omega) (hK nc (by omega)) (xo nc 31 nc (by decide)) q)
theorem shfM (hn : nc ≤ 6) (e : gi M 0 22 = nI nc) (es : gi M 0 33 = nI s) (hK : ∀ j, j < 7 → gi X 31 j = gi M 22 j ∧ lvl (gi X 31 j)) (hR : ∀ c, 15 ≤ R c ∧ R c ≤ 21)
    (act : ∀ i, i < nc → ∀ K : Int32 → Int32 → wM → Prop, K (bI (out i)) (nI (i + 1)) (up M R (fun c => c) v (i + 1)) → (nI s = nI 11 → wj_X12_shifts_42 (bI (thr X i (cy out d i))) (nI i) (gi (up M R (fun c => c) v i) 16 i) K (up M R (fun c => c) v i) Q) ∧ (¬ nI s = nI 11 → w_X12_rowNow (nI i) (up M R (fun c => c) v i) (fun r M' => wj_X12_shifts_42 (bI (thr X i (cy out d i))) (nI i) r K M' Q)))
    (q : Q (bI (thr X nc (cy out d nc))) (up M R (fun c => c) v nc)) : w_X12_shifts (bI d) M Q := by
  have mo : ∀ k a j, a < 15 ∨ 21 < a → gi (up M R (fun c => c) v k) a j = gi M a j := fun k a j ha => up_ne k (fun c hc => Or.inl (by have := hR c; omega))
  refine lo2 (fun K y2 y3 M => wb_X12_shifts_4 K y2 y3 M Q) (fun _ _ _ _ => rfl) nc (fun i y M' => y = bI (cy out d i) ∧ M' = up M R (fun c => c) v i) ?_ ?_ (Nat.zero_le _) ⟨rfl, rfl⟩
  · rintro i y M' K hi ⟨rfl, rfl⟩ k
    unfold wb_X12_shifts_4
    rw [mo i 0 22 (by decide), e]
    refine bf (nI_ge hi (by omega)) (wireM (by omega) (hK i (by omega)).2 ((mo i 22 i (by decide)).trans (hK i (by omega)).1.symm) ?_)
    rw [mo i 0 33 (by decide), es, nI_clamp (by omega)]
    have a := act i hi K (k _ _ ⟨rfl, rfl⟩)
    exact ⟨fun z => ⟨vp_in_nI (by omega) (by decide), a.1 z⟩, a.2⟩
  · rintro y M' K ⟨rfl, rfl⟩
    unfold wb_X12_shifts_4
    rw [mo nc 0 22 (by decide), e]
    exact bt (nI_le (by omega) (by omega)) (wireM (by omega) (hK nc (by omega)).2 ((mo nc 22 nc (by decide)).trans (hK nc (by omega)).1.symm) q)
/-- the rest of a tick of the reference, where nothing more is done -/
theorem tickN {m : Bool} {z3 : Int32} (hn : nc ≤ 6) (hs : s < 16) (e : gi M 0 22 = nI nc) (es : gi M 0 33 = nI s) (h : s ≠ 0 ∧ s ≠ 8 ∧ s ≠ 10 ∧ s ≠ 15) (q : Q z3 (si (si M 0 33 (nI (nx s m))) 0 34 (gi M 0 34 + nI 1))) : wj_X12_ticks1_41 (bI m) z3 M Q := by
  refine lo1 (fun K y M => wb_X12_ticks1_44 (bI m) z3 K y M Q) (fun _ _ _ => rfl) nc (fun _ M' => M' = M) ?_ ?_ (Nat.zero_le _) rfl
  · rintro i M' K hi rfl k
    unfold wb_X12_ticks1_44
    rw [e, es, nI_add]
    exact bf (nI_ge hi (by omega)) (bf (neS hs 0 (by decide) h.1) (bf (neS hs 10 (by decide) h.2.2.1) (bf (neS hs 15 (by decide) h.2.2.2) (bf (neS hs 8 (by decide) h.2.1) (k _ rfl)))))
  · rintro M' K rfl
    unfold wb_X12_ticks1_44
    rw [e, es]
    exact bt (nI_le (by omega) (by omega)) (goesM hs m q)
/-- a tick that shifts -/
theorem Tk_sh {m : Bool} (h : Inv X M) (hs : s = 4 ∨ s = 11) (hn : nc ≤ 6) (e1 : gi X 26 3 = nI nc) (e2 : gi M 0 22 = nI nc) (es : gi X 26 5 = nI s) (f2 : gi M 0 33 = nI s) (hA : ∀ c, A c = 34 + 3 * c ∨ A c = 35 + 3 * c) (hR : ∀ c, 15 ≤ R c ∧ R c ≤ 21)
    (hk : ∀ np nn c, c < nc → chipOk X M np nn c → chipOk (si X (A c) (J c) (v c)) (si M (R c) c (v c)) np nn c)
    (aX' : ∀ i, i < nc → ∀ Q' : Int32 → wM → Prop, Q' (bI (out i)) (up X A J v (i + 1)) → (nI s = nI 11 → w_X1_shiftOrders i (bI (thr X i (cy out d i))) (up X A J v i) Q') ∧ (¬ nI s = nI 11 → w_X1_shiftData i (bI (thr X i (cy out d i))) (up X A J v i) Q'))
    (aM : ∀ Q : Int32 → wM → Prop, ∀ i, i < nc → ∀ K : Int32 → Int32 → wM → Prop, K (bI (out i)) (nI (i + 1)) (up M R (fun c => c) v (i + 1)) → (nI s = nI 11 → wj_X12_shifts_42 (bI (thr X i (cy out d i))) (nI i) (gi (up M R (fun c => c) v i) 16 i) K (up M R (fun c => c) v i) Q) ∧ (¬ nI s = nI 11 → w_X12_rowNow (nI i) (up M R (fun c => c) v i) (fun r M' => wj_X12_shifts_42 (bI (thr X i (cy out d i))) (nI i) r K M' Q))) : Tk X M m d s (bI (thr X nc (cy out d nc))) (tl (up X A J v nc) s m) := by
  have iu : Inv (up X A J v nc) (up M R (fun c => c) v nc) := Inv_up h hn e1 hA hR hk
  have xo : ∀ j, gi (up X A J v nc) 26 j = gi X 26 j := fun j => up_ne nc (fun c hc => Or.inl (by have := hA c; omega))
  have mo : ∀ j, gi (up M R (fun c => c) v nc) 0 j = gi M 0 j := fun j => up_ne nc (fun c hc => Or.inl (by have := hR c; omega))
  have s16 : s < 16 := by omega
  have hK := h.2.2.2.2.1
  refine Tk_mk s16 iu ((xo 5).trans es) (FX_up hn hA) (xo 6) (FM_up hR) (fun Q q => ?_) (fun Q q => ?_) (Or.inr (bI_or _)) (fun _ z => (bI_or (thr X nc (cy out d nc))).elim (fun y => absurd (y.symm.trans z) (by decide)) (fun y => absurd (y.symm.trans z) (by decide)))
  · have w : w_X0_shiftAll (bI d) X (fun r A => wj_X0_step_96 (bI m) r A Q) := shfX hn e1 es (fun j hj => (hK j hj).2) hA aX' (tailX s16 ((xo 5).trans es) q)
    have w2 : wj_X0_step_20 (bI m) (bI d) X Q := by
      cases d
      · exact bt rfl w
      · exact bf ne10 w
    unfold w_X0_step
    rw [es]
    exact bc (fun _ => w2) (fun z => bt (hs.elim (fun y => absurd (by rw [y]) z) (fun y => by rw [y])) w2)
  · have w : w_X12_shifts (bI d) M (fun r M3 => wj_X12_ticks1_41 (bI m) r M3 Q) := shfM (X := X) hn e2 f2 hK hR (aM _) (tickN hn s16 ((mo 22).trans e2) ((mo 33).trans f2) (by omega) q)
    unfold w_X12_ticks1
    rw [f2]
    exact bc (fun _ => w) (fun z => bt (hs.elim (fun y => by rw [y]) (fun y => absurd (by rw [y]) z)) w)
end SH
theorem shv_lt {w L : Nat} {b : Bool} (hw : w < 2 ^ L) (h1 : 1 ≤ L) : w / 2 ||| b.toNat * 2 ^ (L - 1) < 2 ^ L := by
  refine Nat.or_lt_two_pow (by omega) ?_
  have : 2 ^ (L - 1) < 2 ^ L := Nat.pow_lt_pow_right (by decide) (by omega)
  cases b
  · show 0 * 2 ^ (L - 1) < _; omega
  · show 1 * 2 ^ (L - 1) < _; omega
theorem shvX {w L : Nat} {b : Bool} (hw : w < 2 ^ L) (h1 : 1 ≤ L) (h2 : L ≤ 10) : (jushr (nI w) (nI 1)) ||| (jshl (bI b) (nI L - nI 1)) = nI (w / 2 ||| b.toNat * 2 ^ (L - 1)) := by
  have := p10 h2
  have h3 := shv_lt (b := b) hw h1
  have h4 : b.toNat * 2 ^ (L - 1) ≤ w / 2 ||| b.toNat * 2 ^ (L - 1) := Nat.right_le_or
  rw [pk_sub h1, bushr (by omega) (by decide), bshb (by omega), nI_or (by omega) (by omega)]
theorem shvM {w L : Nat} {b : Bool} (hw : w < 2 ^ L) (h1 : 1 ≤ L) (h2 : L ≤ 10) : (jshr (nI w) (nI 1)) ||| (jshl (bI b) (nI L - nI 1)) = nI (w / 2 ||| b.toNat * 2 ^ (L - 1)) := by
  have := p10 h2
  have h3 := shv_lt (b := b) hw h1
  have h4 : b.toNat * 2 ^ (L - 1) ≤ w / 2 ||| b.toNat * 2 ^ (L - 1) := Nat.right_le_or
  rw [pk_sub h1, bshr (by omega) (by decide), bshb (by omega), nI_or (by omega) (by omega)]
