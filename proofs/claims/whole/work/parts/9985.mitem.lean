/-! the reader: an item, in the reference -/
def MP (B : wM) (c : Nat) (P : PT) : Prop := gi B 7 c = nI P.1 ∧ gi B 11 c = nI P.2.1 ∧ gi B 12 c = nI P.2.2.1 ∧ gi B 8 c = P.2.2.2.1 ∧ gi B 9 c = P.2.2.2.2.1 ∧ gi B 10 c = P.2.2.2.2.2
theorem MP_fr {B B' : wM} {c : Nat} {P : PT} (h : MP B c P) (k : ∀ a, 7 ≤ a → a ≤ 12 → gi B' a c = gi B a c) : MP B' c P := by
  unfold MP
  rw [k 7 (by decide) (by decide), k 8 (by decide) (by decide), k 9 (by decide) (by decide), k 10 (by decide) (by decide), k 11 (by decide) (by decide), k 12 (by decide) (by decide)]
  exact h
/-- what reading part c changes in the reference -/
def fR (c : Nat) (B B' : wM) : Prop := ∀ a j, a ≠ 0 ∨ j < 16 ∨ 21 < j → a < 7 ∨ 12 < a ∨ j ≠ c → gi B' a j = gi B a j
theorem fR_trans {c : Nat} {A B C : wM} (h : fR c A B) (k : fR c B C) : fR c A C := fun a j p q => (k a j p q).trans (h a j p q)
theorem fN_R {c : Nat} {B B' : wM} (h : fN B B') : fR c B B' := fun a j p _ => h a j p
theorem fR_si {c a : Nat} {B : wM} {x : Int32} (h : 7 ≤ a ∧ a ≤ 12) : fR c B (si B a c x) := fun a' j p q => gi_ne (by omega)
theorem TM_R {c : Nat} {B B' : wM} {b : Nat → Nat} {n : Nat} (h : TM B b n) (k : fR c B B') : TM B' b n := ⟨h.1, (k 0 15 (by decide) (Or.inl (by decide))).trans h.2.1, fun j hj => ⟨(h.2.2 j hj).1, (k 13 j (Or.inl (by decide)) (Or.inr (Or.inl (by decide)))).trans (h.2.2 j hj).2⟩⟩
section MI
variable {b : Nat → Nat} {n : Nat}
theorem wantF {B : wM} {x y : Int32} {c f : Nat} {Q : wM → Prop} (h : flt B c f) (q : Q B) : w_X12_wants x y B Q := by
  unfold w_X12_wants
  have hc := h.2.1
  rw [h.1]
  exact bc (fun _ => bf (fun z => by have := inj31 (b := 0) z (by omega) (by decide); omega) q) (fun _ => q)
theorem want1 {B : wM} {x y : Int32} {Q : wM → Prop} (h : ¬ x = nI 0) (q : Q B) : w_X12_wants x y B Q := bf h q
theorem want0 {B : wM} {c f : Nat} {Q : wM → Prop} (e : gi B 0 20 = nI 0) (e17 : gi B 0 17 = nI f) (hc : 0 < c ∧ c < 10) (q : ∀ B' : wM, fN B B' → flt B' c f → (∀ j, j ≠ 20 → j ≠ 21 → gi B' 0 j = gi B 0 j) → Q B') : w_X12_wants (nI 0) (nI c) B Q := by
  unfold w_X12_wants
  refine bt rfl (bt e (q _ (fN_trans (fN_si (j := 20) (by decide)) (fN_si (by decide))) ⟨?_, hc, ?_⟩ (fun j h1 h2 => ?_)))
  · rw [gi_ne (by decide), gi_eq]
  · rw [gi_eq, e17]
  · rw [gi_ne (Or.inr h2), gi_ne (Or.inr h1)]
theorem nxF {B : wM} {c f : Nat} {Q : wM → Prop} (h : flt B c f) (q : Q B) : w_X12_next B Q := by
  unfold w_X12_next
  have hc := h.2.1
  rw [h.1]
  exact bf (nI_ge (by omega) (by omega)) q
theorem f0 {B : wM} {c f : Nat} (h : flt B c f) : ¬ gi B 0 20 = nI 0 := by
  have hc := h.2.1
  rw [h.1]
  exact fun z => by have := inj31 (b := 0) z (by omega) (by decide); omega
/-- the token at p stands in B -/
def TK (b : Nat → Nat) (n : Nat) (B : wM) (p : Nat) : Prop := gi B 0 20 = nI 0 ∧ gi B 0 18 = nI (tK b n p) ∧ gi B 0 17 = nI (tF b n p) ∧ gi B 0 16 = nI (tE b n p) ∧ (tK b n p = 2 → gi B 0 19 = nI (tV b n p))
theorem is2 {p x y len : Nat} {B : wM} {c d : Int32} {Q : Int32 → wM → Prop} (tm : TM B b n) (hp : p ≤ n) (tk : TK b n B p) (hx : x < 256) (hy : y < 256) (hl : len < 3) (l2 : 2 ≤ len) (q1 : tK b n p = 1 ∧ tE b n p = tF b n p + len ∧ b (tF b n p) = x ∧ b (tF b n p + 1) = y → Q (nI 1) B) (q0 : ¬ (tK b n p = 1 ∧ tE b n p = tF b n p + len ∧ b (tF b n p) = x ∧ b (tF b n p + 1) = y) → Q (nI 0) B) : w_X12_is (nI len) (nI x) (nI y) c d B Q := by
  have n240 := tm.1
  have fl := tF_le (b := b) hp
  have el := tE_le (b := b) hp
  have kl := tK_lt (b := b) (n := n) (p := p)
  unfold w_X12_is
  rw [tk.2.1, tk.2.2.2.1, tk.2.2.1, pk_sub el.1]
  refine bc (fun z => bc (fun y1 => ?_) (fun y1 => q0 (fun w => y1 (by rw [w.2.1, show tF b n p + len - tF b n p = len by omega])))) (fun z => q0 (fun w => z (by rw [w.1])))
  have z' : tK b n p = 1 := inj31 z (by omega) (by decide)
  have y' : tE b n p - tF b n p = len := inj31 y1 (by omega) (by omega)
  refine lookM tm (by omega) (fun w => bc (fun u => ?_) (fun u => q0 (fun v => u (by rw [v.2.2.1])))) (fun w => by omega)
  have b1 := (tm.2.2 _ w).1
  rw [tk.2.2.1, nI_add]
  refine lookM tm (by omega) (fun w2 => bc (fun u2 => ?_) (fun u2 => q0 (fun v => u2 (by rw [v.2.2.2])))) (fun w2 => by omega)
  have b2 := (tm.2.2 _ w2).1
  exact bt ((lt_nn (by omega) (by decide)).mpr hl) (q1 ⟨z', by omega, inj31 u (by omega) (by omega), inj31 u2 (by omega) (by omega)⟩)
theorem is4 {p x y c d len : Nat} {B : wM} {Q : Int32 → wM → Prop} (tm : TM B b n) (hp : p ≤ n) (tk : TK b n B p) (hx : x < 256) (hy : y < 256) (hc : c < 256) (hd : d < 256) (hl : 4 ≤ len) (l2 : len < 100) (q1 : tK b n p = 1 ∧ tE b n p = tF b n p + len ∧ b (tF b n p) = x ∧ b (tF b n p + 1) = y ∧ b (tF b n p + 2) = c ∧ b (tF b n p + 3) = d → Q (nI 1) B) (q0 : ¬ (tK b n p = 1 ∧ tE b n p = tF b n p + len ∧ b (tF b n p) = x ∧ b (tF b n p + 1) = y ∧ b (tF b n p + 2) = c ∧ b (tF b n p + 3) = d) → Q (nI 0) B) : w_X12_is (nI len) (nI x) (nI y) (nI c) (nI d) B Q := by
  have n240 := tm.1
  have fl := tF_le (b := b) hp
  have el := tE_le (b := b) hp
  have kl := tK_lt (b := b) (n := n) (p := p)
  unfold w_X12_is
  rw [tk.2.1, tk.2.2.2.1, tk.2.2.1, pk_sub el.1]
  refine bc (fun z => bc (fun y1 => ?_) (fun y1 => q0 (fun w => y1 (by rw [w.2.1, show tF b n p + len - tF b n p = len by omega])))) (fun z => q0 (fun w => z (by rw [w.1])))
  have z' : tK b n p = 1 := inj31 z (by omega) (by decide)
  have y' : tE b n p - tF b n p = len := inj31 y1 (by omega) (by omega)
  refine lookM tm (by omega) (fun w => bc (fun u => ?_) (fun u => q0 (fun v => u (by rw [v.2.2.1])))) (fun w => by omega)
  have b1 := (tm.2.2 _ w).1
  rw [tk.2.2.1, nI_add]
  refine lookM tm (by omega) (fun w2 => bc (fun u2 => ?_) (fun u2 => q0 (fun v => u2 (by rw [v.2.2.2.1])))) (fun w2 => by omega)
  have b2 := (tm.2.2 _ w2).1
  refine bf (fun t => by rw [lt_nn (by omega) (by decide)] at t; omega) ?_
  rw [tk.2.2.1, nI_add]
  refine lookM tm (by omega) (fun w3 => bc (fun u3 => ?_) (fun u3 => q0 (fun v => u3 (by rw [v.2.2.2.2.1])))) (fun w3 => by omega)
  have b3 := (tm.2.2 _ w3).1
  rw [tk.2.2.1, nI_add]
  refine lookM tm (by omega) (fun w4 => bc (fun u4 => ?_) (fun u4 => q0 (fun v => u4 (by rw [v.2.2.2.2.2])))) (fun w4 => by omega)
  have b4 := (tm.2.2 _ w4).1
  exact q1 ⟨z', by omega, inj31 u (by omega) (by omega), inj31 u2 (by omega) (by omega), inj31 u3 (by omega) (by omega), inj31 u4 (by omega) (by omega)⟩
theorem nm0 {p : Nat} : isNm b n p 0 ↔ (tK b n p = 1 ∧ tE b n p = tF b n p + 4 ∧ b (tF b n p) = 112 ∧ b (tF b n p + 1) = 97 ∧ b (tF b n p + 2) = 114 ∧ b (tF b n p + 3) = 116) := by
  constructor
  · intro h
    exact ⟨h.1, h.2.1, h.2.2 0 (by decide), h.2.2 1 (by decide), h.2.2 2 (by decide), h.2.2 3 (by decide)⟩
  · rintro ⟨h1, h2, a0, a1, a2, a3⟩
    refine ⟨h1, h2, fun j hj => ?_⟩
    have hj : j < 4 := hj
    rcases (show j = 0 ∨ j = 1 ∨ j = 2 ∨ j = 3 by omega) with rfl | rfl | rfl | rfl
    · exact a0
    · exact a1
    · exact a2
    · exact a3
theorem nm1 {p : Nat} : isNm b n p 1 ↔ (tK b n p = 1 ∧ tE b n p = tF b n p + 2 ∧ b (tF b n p) = 105 ∧ b (tF b n p + 1) = 100) := by
  constructor
  · intro h
    exact ⟨h.1, h.2.1, h.2.2 0 (by decide), h.2.2 1 (by decide)⟩
  · rintro ⟨h1, h2, a0, a1⟩
    refine ⟨h1, h2, fun j hj => ?_⟩
    have hj : j < 2 := hj
    rcases (show j = 0 ∨ j = 1 by omega) with rfl | rfl
    · exact a0
    · exact a1
theorem nm2 {p : Nat} : isNm b n p 2 ↔ ((tK b n p = 1 ∧ tE b n p = tF b n p + 6 ∧ b (tF b n p) = 115 ∧ b (tF b n p + 1) = 97 ∧ b (tF b n p + 2) = 109 ∧ b (tF b n p + 3) = 112) ∧ b (tF b n p + 4) = 108 ∧ b (tF b n p + 5) = 101) := by
  constructor
  · intro h
    exact ⟨⟨h.1, h.2.1, h.2.2 0 (by decide), h.2.2 1 (by decide), h.2.2 2 (by decide), h.2.2 3 (by decide)⟩, h.2.2 4 (by decide), h.2.2 5 (by decide)⟩
  · rintro ⟨⟨h1, h2, a0, a1, a2, a3⟩, a4, a5⟩
    refine ⟨h1, h2, fun j hj => ?_⟩
    have hj : j < 6 := hj
    rcases (show j = 0 ∨ j = 1 ∨ j = 2 ∨ j = 3 ∨ j = 4 ∨ j = 5 by omega) with rfl | rfl | rfl | rfl | rfl | rfl
    · exact a0
    · exact a1
    · exact a2
    · exact a3
    · exact a4
    · exact a5
theorem nm3 {p : Nat} : isNm b n p 3 ↔ ((tK b n p = 1 ∧ tE b n p = tF b n p + 6 ∧ b (tF b n p) = 101 ∧ b (tF b n p + 1) = 120 ∧ b (tF b n p + 2) = 116 ∧ b (tF b n p + 3) = 101) ∧ b (tF b n p + 4) = 115 ∧ b (tF b n p + 5) = 116) := by
  constructor
  · intro h
    exact ⟨⟨h.1, h.2.1, h.2.2 0 (by decide), h.2.2 1 (by decide), h.2.2 2 (by decide), h.2.2 3 (by decide)⟩, h.2.2 4 (by decide), h.2.2 5 (by decide)⟩
  · rintro ⟨⟨h1, h2, a0, a1, a2, a3⟩, a4, a5⟩
    refine ⟨h1, h2, fun j hj => ?_⟩
    have hj : j < 6 := hj
    rcases (show j = 0 ∨ j = 1 ∨ j = 2 ∨ j = 3 ∨ j = 4 ∨ j = 5 by omega) with rfl | rfl | rfl | rfl | rfl | rfl
    · exact a0
    · exact a1
    · exact a2
    · exact a3
    · exact a4
    · exact a5
theorem nm4 {p : Nat} : isNm b n p 4 ↔ ((tK b n p = 1 ∧ tE b n p = tF b n p + 5 ∧ b (tF b n p) = 99 ∧ b (tF b n p + 1) = 101 ∧ b (tF b n p + 2) = 108 ∧ b (tF b n p + 3) = 108) ∧ b (tF b n p + 4) = 115) := by
  constructor
  · intro h
    exact ⟨⟨h.1, h.2.1, h.2.2 0 (by decide), h.2.2 1 (by decide), h.2.2 2 (by decide), h.2.2 3 (by decide)⟩, h.2.2 4 (by decide)⟩
  · rintro ⟨⟨h1, h2, a0, a1, a2, a3⟩, a4⟩
    refine ⟨h1, h2, fun j hj => ?_⟩
    have hj : j < 5 := hj
    rcases (show j = 0 ∨ j = 1 ∨ j = 2 ∨ j = 3 ∨ j = 4 by omega) with rfl | rfl | rfl | rfl | rfl
    · exact a0
    · exact a1
    · exact a2
    · exact a3
    · exact a4
/-- which item -/
def itN (b : Nat → Nat) (n p : Nat) : Int32 := if isNm b n p 1 then nI 0 else if isNm b n p 2 then nI 1 else if isNm b n p 3 then nI 2 else if isNm b n p 4 then nI 3 else -4
theorem itemNowM {p : Nat} {B : wM} {Q : Int32 → wM → Prop} (tm : TM B b n) (hp : p ≤ n) (tk : TK b n B p) (q : Q (itN b n p) B) : w_X12_itemNow B Q := by
  have n240 := tm.1
  have fl := tF_le (b := b) hp
  have el := tE_le (b := b) hp
  have b4 : ¬ isNm b n p 1 → ¬ isNm b n p 2 → ¬ isNm b n p 3 → wj_X12_itemNow_114 B Q := by
    intro z1 z2 z3
    unfold itN at q
    rw [if_neg z1, if_neg z2, if_neg z3] at q
    unfold wj_X12_itemNow_114
    refine is4 tm hp tk (by decide) (by decide) (by decide) (by decide) (by decide) (by decide) (fun w => bf ne10 ?_) (fun w => bt rfl ?_)
    · rw [tk.2.2.1, nI_add]
      refine lookM tm (by omega) (fun w2 => ?_) (fun w2 => by omega)
      have b1 := (tm.2.2 _ w2).1
      refine bc (fun u => ?_) (fun u => ?_)
      · rw [if_pos (nm4.mpr ⟨w, inj31 u (by omega) (by decide)⟩)] at q
        exact q
      · rw [if_neg (fun v => u (by rw [(nm4.mp v).2]))] at q
        exact q
    · rw [if_neg (fun v => w (nm4.mp v).1)] at q
      exact q
  have b3 : ¬ isNm b n p 1 → ¬ isNm b n p 2 → wj_X12_itemNow_65 B Q := by
    intro z1 z2
    have hn := fun z3 => b4 z1 z2 z3
    unfold itN at q
    rw [if_neg z1, if_neg z2] at q
    unfold wj_X12_itemNow_65
    refine is4 tm hp tk (by decide) (by decide) (by decide) (by decide) (by decide) (by decide) (fun w => bf ne10 ?_) (fun w => bt rfl (hn (fun v => w (nm3.mp v).1)))
    rw [tk.2.2.1, nI_add]
    refine lookM tm (by omega) (fun w2 => ?_) (fun w2 => by omega)
    have b1 := (tm.2.2 _ w2).1
    refine bc (fun u => ?_) (fun u => hn (fun v => u (by rw [(nm3.mp v).2.1])))
    rw [tk.2.2.1, nI_add]
    refine lookM tm (by omega) (fun w3 => ?_) (fun w3 => by omega)
    have b2 := (tm.2.2 _ w3).1
    refine bc (fun u2 => ?_) (fun u2 => hn (fun v => u2 (by rw [(nm3.mp v).2.2])))
    rw [if_pos (nm3.mpr ⟨w, inj31 u (by omega) (by decide), inj31 u2 (by omega) (by decide)⟩)] at q
    exact q
  unfold w_X12_itemNow
  refine is2 tm hp tk (by decide) (by decide) (by decide) (by decide) (fun w => bf ne10 ?_) (fun w => bt rfl ?_)
  · unfold itN at q
    rw [if_pos (nm1.mpr w)] at q
    exact q
  · have z1 : ¬ isNm b n p 1 := fun v => w (nm1.mp v)
    have hn := fun z2 => b3 z1 z2
    unfold itN at q
    rw [if_neg z1] at q
    refine is4 tm hp tk (by decide) (by decide) (by decide) (by decide) (by decide) (by decide) (fun w => bf ne10 ?_) (fun w => bt rfl (hn (fun v => w (nm2.mp v).1)))
    rw [tk.2.2.1, nI_add]
    refine lookM tm (by omega) (fun w2 => ?_) (fun w2 => by omega)
    have b1 := (tm.2.2 _ w2).1
    refine bc (fun u => ?_) (fun u => hn (fun v => u (by rw [(nm2.mp v).2.1])))
    rw [tk.2.2.1, nI_add]
    refine lookM tm (by omega) (fun w3 => ?_) (fun w3 => by omega)
    have b2 := (tm.2.2 _ w3).1
    refine bc (fun u2 => ?_) (fun u2 => hn (fun v => u2 (by rw [(nm2.mp v).2.2])))
    rw [if_pos (nm2.mpr ⟨w, inj31 u (by omega) (by decide), inj31 u2 (by omega) (by decide)⟩)] at q
    exact q
end MI
