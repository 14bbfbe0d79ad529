/-! the guesses that explain what the board answers -/
def okP (X : wM) (s nn : Nat) (x y : Int32) : Prop := ∀ m1 r1 m2 r2, GD nn x m1 r1 → GD nn y m2 r2 → ∀ t, t < rc s nn → lvG m1 r1 m2 r2 (rowV s nn t) = lvR X (rowV s nn t) nn
def la (ok : Int32 → Int32 → Bool) (l : List (Int32 × Int32)) (x y : Int32) : List (Int32 × Int32) := if ok x y = true then l ++ [(x, y)] else l
def l1 (ok : Int32 → Int32 → Bool) : Nat → List (Int32 × Int32)
  | 0 => []
  | f + 1 => la ok (l1 ok f) (nI f) (-4)
def l2i (ok : Int32 → Int32 → Bool) (l : List (Int32 × Int32)) (f : Nat) : Nat → List (Int32 × Int32)
  | 0 => l
  | j + 1 => la ok (l2i ok l f j) (nI f) (nI (f + 1 + j))
def l2 (ok : Int32 → Int32 → Bool) (F : Nat) : Nat → List (Int32 × Int32)
  | 0 => []
  | f + 1 => l2i ok (l2 ok F f) f (F - 1 - f)
def lkL (ok : Int32 → Int32 → Bool) (F : Nat) : List (Int32 × Int32) := if (la ok [] (-4) (-4)).length = 0 then (if (l1 ok F).length = 0 then l2 ok F F else l1 ok F) else la ok [] (-4) (-4)
def lkN (ok : Int32 → Int32 → Bool) (F : Nat) : Nat := if (la ok [] (-4) (-4)).length = 0 then (if (l1 ok F).length = 0 then 2 else 1) else 0
section LK
variable {ok : Int32 → Int32 → Bool} {l : List (Int32 × Int32)} {x y : Int32} {nn F : Nat}
theorem la_len : (la ok l x y).length ≤ l.length + 1 := by
  unfold la
  split
  · rw [List.length_append]; exact Nat.le_refl _
  · omega
theorem l1_len : ∀ f, (l1 ok f).length ≤ f
  | 0 => Nat.le_refl _
  | f + 1 => Nat.le_trans la_len (Nat.succ_le_succ (l1_len f))
theorem l2i_len {f : Nat} : ∀ j, (l2i ok l f j).length ≤ l.length + j
  | 0 => Nat.le_refl _
  | j + 1 => Nat.le_trans la_len (Nat.succ_le_succ (l2i_len j))
theorem l2_len : ∀ f, (l2 ok F f).length ≤ off F f
  | 0 => Nat.le_refl _
  | f + 1 => by
    have h1 := l2_len f
    have h2 := l2i_len (ok := ok) (l := l2 ok F f) (f := f) (F - 1 - f)
    show (l2i ok (l2 ok F f) f (F - 1 - f)).length ≤ off F f + (F - 1 - f)
    omega
theorem off72 : ∀ nn, nn < 9 → off (nn * (nn + 1)) (nn * (nn + 1)) ≤ 2556 := by decide
theorem lkL_len (h8 : nn ≤ 8) : (lkL ok (nn * (nn + 1))).length ≤ 2556 := by
  have o := (off_ok nn (by omega)).2.2
  have h0 := la_len (ok := ok) (l := []) (x := -4) (y := -4)
  have h1 := l1_len (ok := ok) (nn * (nn + 1))
  have h2 := l2_len (ok := ok) (F := nn * (nn + 1)) (nn * (nn + 1))
  have h3 := off72 nn (by omega)
  have h4 : ([] : List (Int32 × Int32)).length = 0 := rfl
  unfold lkL
  split
  · split <;> omega
  · omega
theorem app_at {p q : Int32 × Int32} {i : Nat} (h : (l ++ [p])[i]? = some q) : (i < l.length ∧ l[i]? = some q) ∨ (i = l.length ∧ q = p) := by
  rcases Nat.lt_trichotomy i l.length with z | z | z
  · rw [List.getElem?_append_left z] at h
    exact Or.inl ⟨z, h⟩
  · subst z
    rw [List.getElem?_append_right (Nat.le_refl _), Nat.sub_self] at h
    exact Or.inr ⟨rfl, (Option.some.inj h).symm⟩
  · rw [List.getElem?_eq_none (by rw [List.length_append]; show l.length + 1 ≤ i; omega)] at h
    cases h
theorem GD_uniq {m r m' r' : Nat} (h8 : nn ≤ 8) (h : GD nn x m r) (k : GD nn x m' r') : m = m' ∧ r = r' := by
  have o := (off_ok nn (by omega)).2.2
  rcases h with ⟨e1, rfl, rfl⟩ | ⟨f, e1, h⟩ <;> rcases k with ⟨e2, rfl, rfl⟩ | ⟨g, e2, k⟩
  · exact ⟨rfl, rfl⟩
  · have := FD_lt h8 k
    exact absurd (e2.symm.trans e1) (n4_ne (by omega))
  · have := FD_lt h8 h
    exact absurd (e1.symm.trans e2) (n4_ne (by omega))
  · have a1 := FD_lt h8 h
    have a2 := FD_lt h8 k
    obtain rfl : f = g := inj31 (e1.symm.trans e2) (by omega) (by omega)
    exact FD_uniq h k
def gdP (nn : Nat) (x y : Int32) : Prop := (x ≠ y ∨ x = -4) ∧ (∃ m r, GD nn x m r) ∧ ∃ m r, GD nn y m r
theorem gd0 : gdP nn (-4) (-4) := ⟨Or.inr rfl, ⟨0, 0, Or.inl ⟨rfl, rfl, rfl⟩⟩, 0, 0, Or.inl ⟨rfl, rfl, rfl⟩⟩
theorem gd_f {f : Nat} (h8 : nn ≤ 8) (hf : f < nn * (nn + 1)) : ∃ m r, GD nn (nI f) m r := by
  obtain ⟨m, r, h⟩ := FD_ex h8 hf
  exact ⟨m, r, Or.inr ⟨f, rfl, h⟩⟩
theorem gd1 {f : Nat} (h8 : nn ≤ 8) (hf : f < nn * (nn + 1)) : gdP nn (nI f) (-4) := by
  have o := (off_ok nn (by omega)).2.2
  exact ⟨Or.inl (n4_ne (by omega)), gd_f h8 hf, 0, 0, Or.inl ⟨rfl, rfl, rfl⟩⟩
theorem gd2 {f g : Nat} (h8 : nn ≤ 8) (hf : f < g) (hg : g < nn * (nn + 1)) : gdP nn (nI f) (nI g) := by
  have o := (off_ok nn (by omega)).2.2
  exact ⟨Or.inl (fun e => by have := inj31 e (by omega) (by omega); omega), gd_f h8 (by omega), gd_f h8 hg⟩
theorem ok_of {X : wM} {s m1 r1 m2 r2 : Nat} (h8 : nn ≤ 8) (g1 : GD nn x m1 r1) (g2 : GD nn y m2 r2) : okP X s nn x y ↔ ∀ t, t < rc s nn → lvG m1 r1 m2 r2 (rowV s nn t) = lvR X (rowV s nn t) nn := by
  constructor
  · exact fun h => h _ _ _ _ g1 g2
  · intro h a b c d k1 k2
    obtain ⟨rfl, rfl⟩ := GD_uniq h8 g1 k1
    obtain ⟨rfl, rfl⟩ := GD_uniq h8 g2 k2
    exact h
end LK
/-- the guesses as the class keeps them -/
def LSx (nn : Nat) (A : wM) (l : List (Int32 × Int32)) : Prop := gi A 54 8 = nI l.length ∧ ∀ i x y, l[i]? = some (x, y) → gi A 59 i = x ∧ gi A 60 i = y ∧ gdP nn x y ∧ (∀ m r, GD nn x m r → gi A 61 i = nI (m + 256 * r)) ∧ ∀ m r, GD nn y m r → gi A 62 i = nI (m + 256 * r)
def kS (A A' : wM) : Prop := (∀ a j, a < 59 ∨ 62 < a → (a ≠ 54 ∨ (j ≠ 8 ∧ j ≠ 9)) → gi A' a j = gi A a j) ∧ ∀ c, gp A' c = gp A c
theorem kS_fr {nn k : Nat} {A A' : wM} (h : FR nn A k) (q : kS A A') : FR nn A' k := by
  refine ⟨(q.1 54 4 (by decide) (by decide)).trans h.1, fun f hf m r fd => ?_⟩
  rw [q.1 57 f (by decide) (Or.inl (by decide))]
  exact h.2 f hf m r fd
theorem LS_9 {nn : Nat} {A : wM} {l : List (Int32 × Int32)} {v : Int32} (h : LSx nn A l) : LSx nn (si A 54 9 v) l := by
  refine ⟨by rw [gi_ne (by decide)]; exact h.1, fun i x y e => ?_⟩
  rw [gi_ne (Or.inl (by decide)), gi_ne (Or.inl (by decide)), gi_ne (Or.inl (by decide)), gi_ne (Or.inl (by decide))]
  exact h.2 i x y e
theorem kS_9 {A A' : wM} {v : Int32} (h : kS A A') : kS A (si A' 54 9 v) := ⟨fun a j p q => by
  rw [gi_ne (q.imp id (fun z => z.2))]
  exact h.1 a j p q, h.2⟩
theorem tryX {X A0 A : wM} {s nn : Nat} {ok : Int32 → Int32 → Bool} {l : List (Int32 × Int32)} {x y : Int32} {Q : wM → Prop} (hs : s < 3) (nf : NF X nn) (p : PR X A0 s nn) (k : kS A0 A) (g : gdP nn x y) (hok : ok x y = true ↔ okP X s nn x y) (hl : l.length < 2556) (ls : LSx nn A l) (q : ∀ A' : wM, kS A0 A' → LSx nn A' (la ok l x y) → gi A' 54 9 = gi A 54 9 → Q A') : w_X10_tryGuess x y A Q := by
  have h8 := nf.1
  have r8 := rc_le hs h8
  have b8 := p8 h8
  obtain ⟨gne, ⟨m1, r1, g1⟩, m2, r2, g2⟩ := g
  have v1 := GD_fv h8 g1
  have v2 := GD_fv h8 g2
  have b1 := v1.1
  have b2 := v2.1
  have hok2 := hok.trans (ok_of h8 g1 g2)
  have fr := kS_fr p.2.2.2 k
  have no : ¬ ok x y = true → Q A := fun z => q A k (by unfold la; rw [if_neg z]; exact ls) rfl
  unfold w_X10_tryGuess
  refine grpX h8 fr g1 (grpX h8 fr g2 ?_)
  have e1 : gi A 54 1 = nI (rc s nn) := (k.1 54 1 (by decide) (by decide)).trans p.2.1
  refine lo1 (fun K i M => wb_X10_tryGuess_16 x y (nI (m1 + 256 * r1)) (nI (m2 + 256 * r2)) K i M Q) (fun _ _ _ => rfl) (rc s nn) (fun i M => M = A ∧ ∀ t, t < i → lvG m1 r1 m2 r2 (rowV s nn t) = lvR X (rowV s nn t) nn) ?_ ?_ (Nat.zero_le _) ⟨rfl, fun t ht => by omega⟩
  · rintro i M K hi ⟨rfl, hh⟩ kk
    have hrow := rowV_lt hs hi
    have e2 : gi M 55 i = nI (rowV s nn i) := (k.1 55 i (by decide) (Or.inl (by decide))).trans (p.2.2.1 i hi).1
    have e3 : gi M 56 i = nI (lvR X (rowV s nn i) nn) := (k.1 56 i (by decide) (Or.inl (by decide))).trans (p.2.2.1 i hi).2
    have i8 : vp_in (nI i) 8 := vp_in_nI (by omega) (by decide)
    have ll := lvG_lt (r1 := r1) (r2 := r2) (m1 := m1) (m2 := m2) (by omega) (by omega) (row := rowV s nn i) (by omega)
    have lr := (lvR_bit nf (own := rowV s nn i) (by omega)).1
    unfold wb_X10_tryGuess_16
    rw [e1, nI_clamp (n := i) (by omega), e2, nI_add]
    refine bf (nI_ge hi (by omega)) ⟨i8, lbX (by omega) v1.2.1 (by omega) v2.2.1 (by omega) ⟨i8, ?_⟩⟩
    rw [e3]
    refine bc (fun z => kk _ ⟨rfl, fun t ht => ?_⟩) (fun z => no (fun w => z (by rw [hok2.mp w i hi])))
    by_cases w : t = i
    · rw [w]; exact inj31 z (by omega) (by omega)
    · exact hh t (by omega)
  · rintro M K ⟨rfl, hh⟩
    have z := hok2.mpr hh
    have v : vp_in (nI l.length) 2556 := vp_in_nI hl (by decide)
    unfold wb_X10_tryGuess_16
    rw [e1, ls.1, nI_add, nI_clamp (n := l.length) (by omega)]
    refine bt (nI_le (by omega) (by omega)) (bf (nI_ge hl (by decide)) ⟨v, v, v, v, q _ ⟨fun a j h1 h2 => ?_, k.2⟩ ⟨?_, fun i u w e => ?_⟩ ?_⟩)
    · rw [gi_ne (h2.imp id (fun z => z.1)), gi_ne (Or.inl (by omega)), gi_ne (Or.inl (by omega)), gi_ne (Or.inl (by omega)), gi_ne (Or.inl (by omega))]
      exact k.1 a j h1 h2
    · rw [gi_eq]
      unfold la
      rw [if_pos z, List.length_append]
      rfl
    · unfold la at e
      rw [if_pos z] at e
      rcases app_at e with ⟨hi, e⟩ | ⟨rfl, epr⟩
      · have ne : i ≠ l.length := by omega
        rw [gi_ne (Or.inl (by decide)), gi_ne (Or.inl (by decide)), gi_ne (Or.inl (by decide)), gi_ne (Or.inl (by decide)), gi_ne (Or.inr ne)]
        rw [gi_ne (Or.inl (by decide)), gi_ne (Or.inl (by decide)), gi_ne (Or.inl (by decide)), gi_ne (Or.inr ne), gi_ne (Or.inl (by decide))]
        rw [gi_ne (Or.inl (by decide)), gi_ne (Or.inl (by decide)), gi_ne (Or.inr ne), gi_ne (Or.inl (by decide)), gi_ne (Or.inl (by decide))]
        rw [gi_ne (Or.inl (by decide)), gi_ne (Or.inr ne), gi_ne (Or.inl (by decide)), gi_ne (Or.inl (by decide)), gi_ne (Or.inl (by decide))]
        exact ls.2 i u w e
      · obtain ⟨rfl, rfl⟩ : u = x ∧ w = y := Prod.mk.inj epr
        rw [gi_ne (Or.inl (by decide)), gi_ne (Or.inl (by decide)), gi_ne (Or.inl (by decide)), gi_ne (Or.inl (by decide)), gi_eq]
        rw [gi_ne (Or.inl (by decide)), gi_ne (Or.inl (by decide)), gi_ne (Or.inl (by decide)), gi_eq]
        rw [gi_ne (Or.inl (by decide)), gi_ne (Or.inl (by decide)), gi_eq]
        rw [gi_ne (Or.inl (by decide)), gi_eq]
        refine ⟨rfl, rfl, ⟨gne, ⟨m1, r1, g1⟩, m2, r2, g2⟩, fun m r h => ?_, fun m r h => ?_⟩
        · obtain ⟨rfl, rfl⟩ := GD_uniq h8 g1 h; rfl
        · obtain ⟨rfl, rfl⟩ := GD_uniq h8 g2 h; rfl
    · rw [gi_ne (by decide), gi_ne (Or.inl (by decide)), gi_ne (Or.inl (by decide)), gi_ne (Or.inl (by decide)), gi_ne (Or.inl (by decide))]
theorem seekX {X A : wM} {s nn : Nat} {ok : Int32 → Int32 → Bool} {Q : wM → Prop} (hs : s < 3) (nf : NF X nn) (p : PR X A s nn) (hok : ∀ x y, gdP nn x y → (ok x y = true ↔ okP X s nn x y)) (q : ∀ A' : wM, kS A A' → LSx nn A' (lkL ok (nn * (nn + 1))) → gi A' 54 9 = nI (lkN ok (nn * (nn + 1))) → Q A') : w_X10_seekLikely A Q := by
  have h8 := nf.1
  have o := (off_ok nn (by omega)).2.2
  have o2 := off72 nn (by omega)
  have eF : ∀ A', kS A A' → gi A' 54 4 = nI (nn * (nn + 1)) := fun A' k => (k.1 54 4 (by decide) (by decide)).trans p.2.2.2.1
  have fin : ∀ A' : wM, kS A A' → LSx nn A' (lkL ok (nn * (nn + 1))) → gi A' 54 9 = nI (lkN ok (nn * (nn + 1))) → Q A' := q
  unfold lkL lkN at fin
  generalize hF : nn * (nn + 1) = F at o o2 eF fin hok
  have k0 : kS A (si (si A 54 8 (nI 0)) 54 9 (nI 0)) := ⟨fun a j _ h => by rw [gi_ne (h.imp id (fun z => z.2)), gi_ne (h.imp id (fun z => z.1))], fun _ => rfl⟩
  have s0 : LSx nn (si (si A 54 8 (nI 0)) 54 9 (nI 0)) [] := LS_9 ⟨gi_eq .., fun i x y e => by cases e⟩
  unfold w_X10_seekLikely
  refine tryX hs nf p k0 gd0 (hok _ _ gd0) (by decide) s0 (fun A1 k1 s1 e1 => ?_)
  rw [gi_eq] at e1
  have len0 : ∀ l : List (Int32 × Int32), l.length ≤ 2556 → (nI l.length = nI 0 ↔ l.length = 0) := fun l hl => ⟨fun z => inj31 z (by omega) (by decide), fun z => by rw [z]⟩
  have ll0 := la_len (ok := ok) (l := []) (x := -4) (y := -4)
  have ll1 := l1_len (ok := ok) F
  -- the last stage
  have last : ∀ A' : wM, kS A A' → ∀ L : List (Int32 × Int32), L.length ≤ 2556 → LSx nn A' L → (L.length = 0 → (la ok [] (-4) (-4)).length = 0 ∧ (l1 ok F).length = 0) → (¬ L.length = 0 → Q A') → wj_X10_seekLikely_53 A' Q := by
    intro A' k' L hL s' hz hn
    unfold wj_X10_seekLikely_53
    rw [s'.1, len0 L hL]
    refine bc (fun z => ?_) hn
    obtain ⟨z0, z1⟩ := hz z
    rw [if_pos z0, if_pos z1, if_pos z0, if_pos z1] at fin
    have eL : L = [] := List.length_eq_zero_iff.mp z
    subst eL
    refine lo1 (fun K i M => wb_X10_seekLikely_67 K i M Q) (fun _ _ _ => rfl) F (fun f M => kS A M ∧ LSx nn M (l2 ok F f) ∧ gi M 54 9 = nI 2) ?_ ?_ (Nat.zero_le _) ⟨kS_9 k', LS_9 s', gi_eq ..⟩
    · rintro f M K hf ⟨kM, sM, eM⟩ kk
      have of1 := off_mono (nn := F) hf
      have lf := l2_len (ok := ok) (F := F) f
      unfold wb_X10_seekLikely_67
      rw [eF M kM, nI_add]
      refine bf (nI_ge hf (by omega)) ?_
      refine lo1 (fun K' i M => wb_X10_seekLikely_79 (nI f) K K' i M Q) (fun _ _ _ => rfl) (i0 := f + 1) F (fun g M => f < g ∧ kS A M ∧ LSx nn M (l2i ok (l2 ok F f) f (g - 1 - f)) ∧ gi M 54 9 = nI 2) ?_ ?_ (by omega) ⟨by omega, kM, by rw [show f + 1 - 1 - f = 0 by omega]; exact sM, eM⟩
      · rintro g M' K' hg ⟨fg, kM', sM', eM'⟩ kk'
        have lj := l2i_len (ok := ok) (l := l2 ok F f) (f := f) (g - 1 - f)
        have gd := gd2 (nn := nn) h8 fg (by omega)
        unfold wb_X10_seekLikely_79
        rw [eF M' kM', nI_add, nI_add]
        refine bf (nI_ge hg (by omega)) (tryX hs nf p kM' gd (hok _ _ gd) (by omega) sM' (fun A2 k2 s2 e2 => kk' _ ⟨by omega, k2, ?_, e2.trans eM'⟩))
        have e3 : g + 1 - 1 - f = (g - 1 - f) + 1 := by omega
        rw [e3]
        show LSx nn A2 (la ok (l2i ok (l2 ok F f) f (g - 1 - f)) (nI f) (nI (f + 1 + (g - 1 - f))))
        rw [show f + 1 + (g - 1 - f) = g by omega]
        exact s2
      · rintro M' K' ⟨fg, kM', sM', eM'⟩
        unfold wb_X10_seekLikely_79
        rw [eF M' kM', nI_add]
        exact bt (nI_le (by omega) (by omega)) (kk _ ⟨kM', sM', eM'⟩)
    · rintro M K ⟨kM, sM, eM⟩
      unfold wb_X10_seekLikely_67
      rw [eF M kM]
      exact bt (nI_le (by omega) (by omega)) (fin M kM sM eM)
  rw [s1.1, len0 _ (by have : ([] : List (Int32 × Int32)).length = 0 := rfl; omega)]
  have n0 : ([] : List (Int32 × Int32)).length = 0 := rfl
  refine bc (fun z0 => ?_) (fun z0 => ?_)
  · have eL : la ok [] (-4) (-4) = [] := List.length_eq_zero_iff.mp z0
    rw [eL] at s1
    refine lo1 (fun K i M => wb_X10_seekLikely_32 K i M Q) (fun _ _ _ => rfl) F (fun f M => kS A M ∧ LSx nn M (l1 ok f) ∧ gi M 54 9 = nI 1) ?_ ?_ (Nat.zero_le _) ⟨kS_9 k1, LS_9 s1, gi_eq ..⟩
    · rintro f M K hf ⟨kM, sM, eM⟩ kk
      have lf := l1_len (ok := ok) f
      have gd := gd1 (nn := nn) (f := f) h8 (by omega)
      unfold wb_X10_seekLikely_32
      rw [eF M kM, nI_add]
      exact bf (nI_ge hf (by omega)) (tryX hs nf p kM gd (hok _ _ gd) (by omega) sM (fun A2 k2 s2 e2 => kk _ ⟨k2, s2, e2.trans eM⟩))
    · rintro M K ⟨kM, sM, eM⟩
      unfold wb_X10_seekLikely_32
      rw [eF M kM]
      refine bt (nI_le (by omega) (by omega)) (last M kM _ (by omega) sM (fun z => ⟨z0, z⟩) (fun z1 => ?_))
      rw [if_pos z0, if_neg z1, if_pos z0, if_neg z1] at fin
      exact fin M kM sM eM
  · refine last A1 k1 _ (by omega) s1 (fun z => absurd z z0) (fun _ => ?_)
    rw [if_neg z0, if_neg z0] at fin
    exact fin A1 k1 s1 e1
