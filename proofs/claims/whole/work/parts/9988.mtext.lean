/-! the reader: the text, in the reference -/
section MX
variable {b : Nat → Nat} {n : Nat}
theorem f127 {c c' f : Nat} {B : wM} {Q : wM → Prop} (hc : c < 6) (e7 : gi B 0 7 = nI c) (h : flt B c' f) (q : ∀ B' : wM, fR c B B' → flt B' c' f → gi B' 0 7 = nI c → Q (si B' 0 7 (nI (c + 1)))) : wj_X12_readPart_127 (nI c) B Q := by
  have v6 : vp_in (nI c) 6 := vp_in_nI hc (by decide)
  unfold wj_X12_readPart_127
  rw [nI_clamp (n := c) (by omega)]
  have h2 : flt (si B 7 c (gi B 0 19)) c' f := flt_si h (by decide)
  have g7 : gi (si B 7 c (gi B 0 19)) 0 7 = nI c := by rw [gi_ne (Or.inl (by decide))]; exact e7
  refine ⟨v6, nxF h2 ⟨1, ?_⟩⟩
  show wb_X12_readPart_141 (nI c) _ _ Q
  unfold wb_X12_readPart_141
  exact bf (f0 h2) (endF hc g7 h2 (q _ (fR_si (by decide)) h2 g7))
theorem prM {c p : Nat} {B : wM} {Q : wM → Prop} (tm : TM B b n) (hp : p ≤ n) (tk : TK b n B p) (hc : c ≤ 6) (e7 : gi B 0 7 = nI c)
    (q2 : ¬ isNm b n p 0 → ∀ B' : wM, fN B B' → flt B' 2 (tF b n p) → Q B')
    (q5 : isNm b n p 0 → c = 6 → ∀ B' : wM, fN B B' → flt B' 5 (tF b n p) → Q B')
    (q1 : isNm b n p 0 → c < 6 → ∀ (B' : wM) (P' : PT) (e' : Nat), prt b n (tE b n p) = .inr (P', e') → fR c B B' → MP B' c P' → HM b n B' e' → gi B' 0 7 = nI c → Q (si B' 0 7 (nI (c + 1))))
    (q0 : isNm b n p 0 → c < 6 → ∀ (B' : wM) (c' f : Nat), prt b n (tE b n p) = .inl (c', f) → fR c B B' → flt B' c' f → gi B' 0 7 = nI c → Q (si B' 0 7 (nI (c + 1)))) : w_X12_readPart B Q := by
  have n240 := tm.1
  have el := tE_le (b := b) hp
  have el2 := tE_le (b := b) el.2
  have fl2 := tF_le (b := b) el.2
  have kl := tK_lt (b := b) (n := n) (p := tE b n p)
  unfold w_X12_readPart w_X12_isPart
  refine is4 tm hp tk (by decide) (by decide) (by decide) (by decide) (by decide) (by decide) (fun w => ⟨Or.inr rfl, want1 ne10 ?_⟩) (fun w => ⟨Or.inl rfl, want0 tk.1 tk.2.2.1 (by decide) (fun B1 f1 h1 h2 => ?_)⟩)
  · have nm := nm0.mpr w
    rw [e7]
    unfold wj_X12_readPart_24
    by_cases z : c = 6
    · refine bt (nI_le (by omega) (by omega)) (want0 tk.1 tk.2.2.1 (by decide) (fun B1 f1 h1 h2 => ?_))
      rw [h1.1]
      exact bf (nI_ge (by decide) (by decide)) (q5 nm z B1 f1 h1)
    · have c6 : c < 6 := by omega
      have v6 : vp_in (nI c) 6 := vp_in_nI c6 (by decide)
      refine bf (nI_ge (by omega) (by decide)) (want1 ne10 ?_)
      rw [tk.1, e7, nI_clamp (n := c) (by omega)]
      refine bt (nI_le (by decide) (by decide)) ⟨v6, v6, v6, v6, v6, ?_⟩
      have fI : fR c B (si (si (si (si (si B 8 c (-4)) 9 c (-4)) 10 c (-4)) 11 c (nI 0)) 12 c (nI 0)) := fR_trans (fR_trans (fR_trans (fR_trans (fR_si (a := 8) (by decide)) (fR_si (a := 9) (by decide))) (fR_si (a := 10) (by decide))) (fR_si (a := 11) (by decide))) (fR_si (by decide))
      have tkI : TK b n (si (si (si (si (si B 8 c (-4)) 9 c (-4)) 10 c (-4)) 11 c (nI 0)) 12 c (nI 0)) p := TK_si (TK_si (TK_si (TK_si (TK_si tk (by decide)) (by decide)) (by decide)) (by decide)) (by decide)
      have i11 : gi (si (si (si (si (si B 8 c (-4)) 9 c (-4)) 10 c (-4)) 11 c (nI 0)) 12 c (nI 0)) 11 c = nI 0 := by rw [gi_ne (Or.inl (by decide)), gi_eq]
      have i12 : gi (si (si (si (si (si B 8 c (-4)) 9 c (-4)) 10 c (-4)) 11 c (nI 0)) 12 c (nI 0)) 12 c = nI 0 := gi_eq ..
      have i8 : gi (si (si (si (si (si B 8 c (-4)) 9 c (-4)) 10 c (-4)) 11 c (nI 0)) 12 c (nI 0)) 8 c = -4 := by rw [gi_ne (Or.inl (by decide)), gi_ne (Or.inl (by decide)), gi_ne (Or.inl (by decide)), gi_ne (Or.inl (by decide)), gi_eq]
      have i9 : gi (si (si (si (si (si B 8 c (-4)) 9 c (-4)) 10 c (-4)) 11 c (nI 0)) 12 c (nI 0)) 9 c = -4 := by rw [gi_ne (Or.inl (by decide)), gi_ne (Or.inl (by decide)), gi_ne (Or.inl (by decide)), gi_eq]
      have i10 : gi (si (si (si (si (si B 8 c (-4)) 9 c (-4)) 10 c (-4)) 11 c (nI 0)) 12 c (nI 0)) 10 c = -4 := by rw [gi_ne (Or.inl (by decide)), gi_ne (Or.inl (by decide)), gi_eq]
      generalize si (si (si (si (si B 8 c (-4)) 9 c (-4)) 10 c (-4)) 11 c (nI 0)) 12 c (nI 0) = B1 at fI tkI i8 i9 i10 i11 i12 ⊢
      have tm1 := TM_R tm fI
      refine nxM tm1 tkI.1 tkI.2.2.2.1 el.2 (fun B2 f2 hm => ?_)
      have fr2 : fR c B B2 := fR_trans fI (fN_R f2)
      have g7 : gi B2 0 7 = nI c := (fr2 0 7 (by decide) (Or.inl (by decide))).trans e7
      have tm2 := TM_fr tm1 f2
      -- a fault: down to the end
      have dn : ∀ (B3 : wM) (c' : Nat), fR c B B3 → flt B3 c' (tF b n (tE b n p)) → prt b n (tE b n p) = .inl (c', tF b n (tE b n p)) → wj_X12_readPart_127 (nI c) B3 Q := fun B3 c' f3 h3 hx => f127 c6 ((f3 0 7 (by decide) (Or.inl (by decide))).trans e7) h3 (fun B' f' h' g' => q0 nm c6 B' c' _ hx (fR_trans f3 f') h' g')
      rcases HM_TK hm with ⟨gg, tk2⟩ | ⟨gg, fl1⟩
      · have ng := tG_i.mp gg
        have eq : ∀ x, (if tK b n (tE b n p) = 2 then (if tV b n (tE b n p) < 2 ∨ 8 < tV b n (tE b n p) then (.inl (3, tF b n (tE b n p)) : (Nat × Nat) ⊕ (Nat × Nat)) else .inr (tV b n (tE b n p), tE b n (tE b n p))) else .inl (2, tF b n (tE b n p))) = x → prt b n (tE b n p) = x.elim (fun x => .inl x) (fun x => its b n 240 (x.1, 0, 0, -4, -4, -4) x.2) := fun x hx => by
          unfold prt nmb
          rw [if_neg ng, hx]
        rw [tk2.2.1]
        by_cases y : tK b n (tE b n p) = 2
        · have vlt := tV_lt y gg
          have g2 := gg y
          refine bt (by rw [y]) ?_
          unfold wj_X12_readPart_97
          refine want1 ne10 (bt tk2.1 ?_)
          rw [tk2.2.2.2.2 y]
          by_cases u : 2 ≤ tV b n (tE b n p) ∧ tV b n (tE b n p) ≤ 8
          · refine in_t (by decide) (hi_N (by decide)) (by rw [nI_toInt (by omega)]; omega) (want1 ne10 ?_)
            have hx := eq (.inr (tV b n (tE b n p), tE b n (tE b n p))) (by rw [if_pos y, if_neg (by omega)])
            unfold wj_X12_readPart_127
            rw [nI_clamp (n := c) (by omega), tk2.2.2.2.2 y]
            have fr3 : fR c B (si B2 7 c (nI (tV b n (tE b n p)))) := fR_trans fr2 (fR_si (by decide))
            refine ⟨v6, nxM (TM_R tm2 (fR_si (c := c) (by decide))) (TK_si tk2 (by decide)).1 (TK_si tk2 (by decide)).2.2.2.1 el2.2 (fun B3 f3 h3 => ⟨241, ?_⟩)⟩
            have fr4 : fR c B B3 := fR_trans fr3 (fN_R f3)
            refine itsM c6 240 (tE b n (tE b n p)) (tV b n (tE b n p), 0, 0, -4, -4, -4) B3 (by omega) el2.2 (TM_R tm fr4) (PG_0 u.1 u.2) ?_ ((fr4 0 7 (by decide) (Or.inl (by decide))).trans e7) h3 fr4 (fun B' P' e' h' => q1 nm c6 B' P' e' (hx.trans h')) (fun B' c' f h' => q0 nm c6 B' c' f (hx.trans h'))
            refine MP_fr (B := si B2 7 c (nI (tV b n (tE b n p)))) ?_ (fun a _ _ => f3 a c (by omega))
            refine ⟨gi_eq .., ?_, ?_, ?_, ?_, ?_⟩
            · rw [gi_ne (Or.inl (by decide)), f2 11 c (Or.inl (by decide))]; exact i11
            · rw [gi_ne (Or.inl (by decide)), f2 12 c (Or.inl (by decide))]; exact i12
            · rw [gi_ne (Or.inl (by decide)), f2 8 c (Or.inl (by decide))]; exact i8
            · rw [gi_ne (Or.inl (by decide)), f2 9 c (Or.inl (by decide))]; exact i9
            · rw [gi_ne (Or.inl (by decide)), f2 10 c (Or.inl (by decide))]; exact i10
          · refine in_f (by decide) (hi_N (by decide)) (by rw [nI_toInt (by omega)]; omega) (want0 tk2.1 tk2.2.2.1 (by decide) (fun B3 f3 h3 _ => dn B3 3 (fR_trans fr2 (fN_R f3)) h3 ?_))
            exact eq (.inl (3, tF b n (tE b n p))) (by rw [if_pos y, if_pos (by omega)])
        · refine bf (fun v => y (inj31 v (by omega) (by decide))) ?_
          unfold wj_X12_readPart_97
          refine want0 tk2.1 tk2.2.2.1 (by decide) (fun B3 f3 h3 _ => bf (f0 h3) (dn B3 2 (fR_trans fr2 (fN_R f3)) h3 ?_))
          exact eq (.inl (2, tF b n (tE b n p))) (by rw [if_neg y])
      · have hx : prt b n (tE b n p) = .inl (1, tF b n (tE b n p)) := by
          unfold prt nmb
          rw [if_pos (Classical.byContradiction fun y => gg (tG_i.mpr y))]
          rfl
        have go : ∀ s, wj_X12_readPart_97 (nI c) s B2 Q := fun s => by
          unfold wj_X12_readPart_97
          exact wantF fl1 (bf (f0 fl1) (dn B2 1 fr2 fl1 hx))
        exact bc (fun _ => go _) (fun _ => go _)
  · have nm : ¬ isNm b n p 0 := fun v => w (nm0.mp v)
    have go : ∀ s, wj_X12_readPart_24 s B1 Q := fun s => by
      unfold wj_X12_readPart_24
      refine wantF h1 ?_
      rw [h1.1]
      exact bf (nI_ge (by decide) (by decide)) (q2 nm B1 f1 h1)
    exact bc (fun _ => go _) (fun _ => go _)
/-- what reading the text changes in the reference -/
def frM (B B' : wM) : Prop := ∀ a j, a ≠ 0 ∨ (j ≠ 7 ∧ (j < 16 ∨ 21 < j)) → a < 7 ∨ 12 < a → gi B' a j = gi B a j
theorem frM_trans {A B C : wM} (h : frM A B) (k : frM B C) : frM A C := fun a j p q => (k a j p q).trans (h a j p q)
theorem fR_M {c : Nat} {B B' : wM} (h : fR c B B') : frM B B' := fun a j p q => h a j (by omega) (by omega)
theorem fN_M {B B' : wM} (h : fN B B') : frM B B' := fun a j p _ => h a j (by omega)
theorem frM_7 {B : wM} {x : Int32} : frM B (si B 0 7 x) := fun a j p _ => gi_ne (by omega)
theorem TM_M {B B' : wM} (h : TM B b n) (k : frM B B') : TM B' b n := ⟨h.1, (k 0 15 (by decide) (by decide)).trans h.2.1, fun j hj => ⟨(h.2.2 j hj).1, (k 13 j (Or.inl (by decide)) (by decide)).trans (h.2.2 j hj).2⟩⟩
theorem txM {B0 : wM} {Q : Int32 → wM → Prop} : ∀ (k i p : Nat) (l : List PT) (B : wM), i + k = 240 → l.length = i → i ≤ 6 → p ≤ n → TM B b n → HM b n B p → gi B 0 7 = nI i → (∀ (j : Nat) (P : PT), l[j]? = some P → MP B j P) → frM B0 B → (∀ (B' : wM) (l' : List PT), txt b n k l p = .inr l' → frM B0 B' → gi B' 0 20 = nI 0 → gi B' 0 7 = nI l'.length → (∀ (j : Nat) (P : PT), l'[j]? = some P → MP B' j P) → wj_X12_parts_50 B' Q) → (∀ (B' : wM) (c' f : Nat), txt b n k l p = .inl (c', f) → frM B0 B' → flt B' c' f → wj_X12_parts_50 B' Q) → wL_X12_parts_29 Q (k + 1) B
  | 0, i, p, l, B, h, _, h6, _, _, _, _, _, _, _, _ => by omega
  | k + 1, i, p, l, B, hi, hl, h6, hp, tm, hm, e7, hx, fr, q1, q0 => by
    have n240 := tm.1
    have el := tE_le (b := b) hp
    have kl := tK_lt (b := b) (n := n) (p := p)
    rw [txt_s] at q1 q0
    have stop : ∀ (B' : wM) (c' f : Nat), flt B' c' f → wj_X12_parts_50 B' Q → wL_X12_parts_29 Q (k + 1) B' := by
      intro B' c' f h w
      show wb_X12_parts_29 _ B' Q
      unfold wb_X12_parts_29
      exact bf (f0 h) w
    have f7 : ∀ {B' : wM} {c' f : Nat} {x : Int32}, flt B' c' f → flt (si B' 0 7 x) c' f := fun h => ⟨by rw [gi_ne (by decide)]; exact h.1, h.2.1, by rw [gi_ne (by decide)]; exact h.2.2⟩
    show wb_X12_parts_29 (wL_X12_parts_29 Q (k + 1)) B Q
    unfold wb_X12_parts_29
    rcases HM_TK hm with ⟨gg, tk⟩ | ⟨gg, fl1⟩
    · rw [if_neg (tG_i.mp gg)] at q1 q0
      refine bt tk.1 ?_
      rw [tk.2.1]
      by_cases z : tK b n p = 0
      · rw [if_pos z] at q1
        exact bt (by rw [z]) (q1 B l rfl fr tk.1 (by rw [hl]; exact e7) hx)
      · rw [if_neg z] at q1 q0
        refine bf (fun y => z (inj31 y (by omega) (by decide))) (prM tm hp tk h6 e7 (fun nm B1 f1 h1 => ?_) (fun nm c6 B1 f1 h1 => ?_) (fun nm c6 B1 P1 e1 hp1 f1 m1 h1 g7 => ?_) (fun nm c6 B1 c' f hp1 f1 h1 g7 => ?_))
        · rw [if_neg nm] at q0
          exact stop B1 2 _ h1 (q0 B1 2 _ rfl (frM_trans fr (fN_M f1)) h1)
        · rw [if_pos nm, if_pos (show 6 ≤ l.length by omega)] at q0
          exact stop B1 5 _ h1 (q0 B1 5 _ rfl (frM_trans fr (fN_M f1)) h1)
        · rw [if_pos nm, if_neg (show ¬ 6 ≤ l.length by omega), hp1] at q1 q0
          obtain ⟨-, -, l1, l2⟩ := prt_ok el.2 hp1
          have frn : frM B0 (si B1 0 7 (nI (i + 1))) := frM_trans (frM_trans fr (fR_M f1)) frM_7
          refine txM k (i + 1) e1 (l ++ [P1]) _ (by omega) (by rw [List.length_append, hl]; rfl) (by omega) l2 (TM_M tm (frM_trans (fR_M f1) frM_7)) ?_ (gi_eq ..) (fun j P hj => ?_) frn q1 q0
          · have k7 : ∀ j, j ≠ 7 → gi (si B1 0 7 (nI (i + 1))) 0 j = gi B1 0 j := fun j h => gi_ne (Or.inr h)
            unfold HM flt at h1 ⊢
            rw [k7 20 (by decide), k7 18 (by decide), k7 17 (by decide), k7 16 (by decide), k7 19 (by decide), k7 21 (by decide)]
            exact h1
          · refine MP_fr (B := B1) ?_ (fun a h1 h2 => gi_ne (Or.inl (by omega)))
            rcases Nat.lt_trichotomy j l.length with w | w | w
            · rw [List.getElem?_append_left w] at hj
              exact MP_fr (hx j P hj) (fun a h1 h2 => f1 a j (Or.inl (by omega)) (Or.inr (Or.inr (by omega))))
            · subst w
              rw [List.getElem?_append_right (Nat.le_refl _), Nat.sub_self] at hj
              obtain rfl := Option.some.inj hj
              rw [hl]
              exact m1
            · rw [List.getElem?_eq_none (by rw [List.length_append]; show l.length + 1 ≤ j; omega)] at hj
              cases hj
        · rw [if_pos nm, if_neg (show ¬ 6 ≤ l.length by omega), hp1] at q0
          exact stop _ c' f (f7 h1) (q0 _ c' f rfl (frM_trans (frM_trans fr (fR_M f1)) frM_7) (f7 h1))
    · rw [if_pos (Classical.byContradiction fun y => gg (tG_i.mpr y))] at q0
      exact bf (f0 fl1) (q0 B 1 _ rfl fr fl1)
/-- what parts() changes in the reference -/
def frN (B B' : wM) : Prop := ∀ a j, a ≠ 0 ∨ (j ≠ 0 ∧ j ≠ 7 ∧ (j < 15 ∨ 21 < j)) → a < 1 ∨ 12 < a → gi B' a j = gi B a j
def frO (B B' : wM) : Prop := ∀ a j, a ≠ 0 ∨ (j ≠ 7 ∧ (j < 15 ∨ 21 < j)) → a < 7 ∨ 12 < a → gi B' a j = gi B a j
theorem ptsM {B : wM} {Q : Int32 → wM → Prop} (tm : TM B b n) (e0 : gi B 0 22 = nI 0)
    (q1 : ∀ (B' : wM) (l : List PT), txt b n 240 [] 0 = .inr l → frN B B' → gi B' 0 15 = nI 0 → gi B' 0 0 = nI l.length → gi B' 0 20 = nI 0 → (∀ (j : Nat) (P : PT), l[j]? = some P → gi B' 1 j = nI P.1 ∧ gi B' 5 j = nI P.2.1 ∧ gi B' 6 j = nI P.2.2.1 ∧ gi B' 2 j = P.2.2.2.1 ∧ gi B' 3 j = P.2.2.2.2.1 ∧ gi B' 4 j = P.2.2.2.2.2) → Q (nI l.length) B')
    (q0 : ∀ (B' : wM) (c f : Nat), txt b n 240 [] 0 = .inl (c, f) → frO B B' → gi B' 0 15 = nI 0 → gi B' 0 20 = nI c → Q (-10 - nI f) B') : w_X12_parts B Q := by
  have n240 := tm.1
  unfold w_X12_parts
  rw [e0]
  refine bt (nI_le (by decide) (by decide)) ?_
  have k0 : frM B (si (si (si B 0 20 (nI 0)) 0 16 (nI 0)) 0 7 (nI 0)) := fun a j p _ => by rw [gi_ne (by omega), gi_ne (by omega), gi_ne (by omega)]
  have g20 : gi (si (si (si B 0 20 (nI 0)) 0 16 (nI 0)) 0 7 (nI 0)) 0 20 = nI 0 := by rw [gi_ne (by decide), gi_ne (by decide), gi_eq]
  have g16 : gi (si (si (si B 0 20 (nI 0)) 0 16 (nI 0)) 0 7 (nI 0)) 0 16 = nI 0 := by rw [gi_ne (by decide), gi_eq]
  have g7 : gi (si (si (si B 0 20 (nI 0)) 0 16 (nI 0)) 0 7 (nI 0)) 0 7 = nI 0 := gi_eq ..
  generalize si (si (si B 0 20 (nI 0)) 0 16 (nI 0)) 0 7 (nI 0) = B1 at k0 g20 g16 g7 ⊢
  refine nxM (TM_M tm k0) g20 g16 (Nat.zero_le _) (fun B2 f2 h2 => ⟨241, ?_⟩)
  refine txM (B0 := B) 240 0 0 [] B2 rfl rfl (by decide) (Nat.zero_le _) (TM_fr (TM_M tm k0) f2) h2 ((f2 0 7 (by decide)).trans g7) (fun j P h => by cases h) (frM_trans k0 (fN_M f2)) (fun B3 l ht fr a20 a7 hx => ?_) (fun B3 c f ht fr h3 => ?_)
  · have ll := (txt_ok 240 [] l 0 (Nat.zero_le _) (by decide) (fun j P h => by cases h) ht).1
    unfold wj_X12_parts_50
    rw [a20]
    refine bt (nI_le (by decide) (by decide)) ?_
    rw [a7]
    have b0 : ∀ a j, a ≠ 0 ∨ (j ≠ 15 ∧ j ≠ 0) → gi (si (si B3 0 15 (nI 0)) 0 0 (nI l.length)) a j = gi B3 a j := fun a j h => by rw [gi_ne (by omega), gi_ne (by omega)]
    have b15 : gi (si (si B3 0 15 (nI 0)) 0 0 (nI l.length)) 0 15 = nI 0 := by rw [gi_ne (by decide), gi_eq]
    have b00 : gi (si (si B3 0 15 (nI 0)) 0 0 (nI l.length)) 0 0 = nI l.length := gi_eq ..
    generalize si (si B3 0 15 (nI 0)) 0 0 (nI l.length) = B4 at b0 b15 b00 ⊢
    refine lo1 (fun K y M => wb_X12_parts_80 K y M Q) (fun _ _ _ => rfl) 6 (fun i M => (∀ a j, a < 1 ∨ 6 < a → gi M a j = gi B4 a j) ∧ ∀ j, j < i → gi M 1 j = gi B4 7 j ∧ gi M 2 j = gi B4 8 j ∧ gi M 3 j = gi B4 9 j ∧ gi M 4 j = gi B4 10 j ∧ gi M 5 j = gi B4 11 j ∧ gi M 6 j = gi B4 12 j) ?_ ?_ (Nat.zero_le _) ⟨fun _ _ _ => rfl, fun j hj => by omega⟩
    · rintro i M K hi ⟨m1, m2⟩ kk
      have v : vp_in (nI i) 6 := vp_in_nI hi (by decide)
      unfold wb_X12_parts_80
      rw [nI_clamp (n := i) (by omega), nI_add, m1 7 i (by decide), m1 8 i (by decide), m1 9 i (by decide), m1 10 i (by decide), m1 11 i (by decide), m1 12 i (by decide)]
      refine bf (nI_ge hi (by decide)) ⟨v, v, v, v, v, v, v, v, v, v, v, v, kk _ ⟨fun a j h => ?_, fun j hj => ?_⟩⟩
      · rw [gi_ne (by omega), gi_ne (by omega), gi_ne (by omega), gi_ne (by omega), gi_ne (by omega), gi_ne (by omega)]
        exact m1 a j h
      · by_cases w : j = i
        · subst w
          refine ⟨?_, ?_, ?_, ?_, ?_, gi_eq ..⟩
          · rw [gi_ne (Or.inl (by decide)), gi_ne (Or.inl (by decide)), gi_ne (Or.inl (by decide)), gi_ne (Or.inl (by decide)), gi_ne (Or.inl (by decide)), gi_eq]
          · rw [gi_ne (Or.inl (by decide)), gi_ne (Or.inl (by decide)), gi_ne (Or.inl (by decide)), gi_ne (Or.inl (by decide)), gi_eq]
          · rw [gi_ne (Or.inl (by decide)), gi_ne (Or.inl (by decide)), gi_ne (Or.inl (by decide)), gi_eq]
          · rw [gi_ne (Or.inl (by decide)), gi_ne (Or.inl (by decide)), gi_eq]
          · rw [gi_ne (Or.inl (by decide)), gi_eq]
        · have t : ∀ a, gi (si (si (si (si (si (si M 1 i (gi B4 7 i)) 2 i (gi B4 8 i)) 3 i (gi B4 9 i)) 4 i (gi B4 10 i)) 5 i (gi B4 11 i)) 6 i (gi B4 12 i)) a j = gi M a j := fun a => by rw [gi_ne (Or.inr w), gi_ne (Or.inr w), gi_ne (Or.inr w), gi_ne (Or.inr w), gi_ne (Or.inr w), gi_ne (Or.inr w)]
          rw [t, t, t, t, t, t]
          exact m2 j (by omega)
    · rintro M K ⟨m1, m2⟩
      unfold wb_X12_parts_80
      rw [m1 0 0 (by decide), b00]
      refine bt (nI_le (by decide) (by decide)) (q1 M l ht (fun a j h1 h2 => ?_) ?_ ?_ ?_ (fun j P h => ?_))
      · rw [m1 a j (by omega), b0 a j (by omega)]
        exact fr a j (by omega) (by omega)
      · rw [m1 0 15 (by decide)]; exact b15
      · rw [m1 0 0 (by decide)]; exact b00
      · rw [m1 0 20 (by decide), b0 0 20 (by decide)]; exact a20
      · have jl : j < l.length := (List.getElem?_eq_some_iff.mp h).1
        obtain ⟨c1, c2, c3, c4, c5, c6⟩ := m2 j (by omega)
        obtain ⟨d0, d1, d5, d2, d3, d4⟩ := hx j P h
        rw [c1, c2, c3, c4, c5, c6, b0 7 j (Or.inl (by decide)), b0 8 j (Or.inl (by decide)), b0 9 j (Or.inl (by decide)), b0 10 j (Or.inl (by decide)), b0 11 j (Or.inl (by decide)), b0 12 j (Or.inl (by decide))]
        exact ⟨d0, d1, d5, d2, d3, d4⟩
  · unfold wj_X12_parts_50
    have hc := h3.2.1
    rw [h3.1, h3.2.2]
    refine bf (nI_ge (by omega) (by omega)) (q0 _ c f ht (fun a j h1 h2 => ?_) (gi_eq ..) ?_)
    · rw [gi_ne (by omega)]
      exact fr a j (by omega) h2
    · rw [gi_ne (by decide)]; exact h3.1
end MX
