/-! the reader: items, a part, the text, in the reference -/
section MT
variable {b : Nat → Nat} {n c : Nat}
theorem go202 {B : wM} {c' f : Nat} {z1 z2 : Int32} {K Q : wM → Prop} (h : flt B c' f) (q : K B) : wj_X12_readPart_202 z1 z2 K B Q := by
  unfold wj_X12_readPart_202
  refine nxF h (bf (f0 h) ?_)
  unfold wj_X12_readPart_225
  exact bf (f0 h) (nxF h q)
theorem HM_TK {B : wM} {p : Nat} (h : HM b n B p) : (tG b n p ∧ TK b n B p) ∨ (¬ tG b n p ∧ flt B 1 (tF b n p)) := h
theorem thereM {B : wM} {P : PT} {it : Nat} {Q : Int32 → wM → Prop} (hc : c < 6) (e7 : gi B 0 7 = nI c) (mp : MP B c P) (g : PG P) (hi : it < 4) (q1 : ¬ (it = 0 ∧ P.2.2.2.1 = -4 ∨ it = 1 ∧ P.2.2.2.2.1 = -4 ∨ it = 2 ∧ P.2.2.2.2.2 = -4 ∨ it = 3 ∧ P.2.1 = 0) → Q (nI 1) B) (q0 : (it = 0 ∧ P.2.2.2.1 = -4 ∨ it = 1 ∧ P.2.2.2.2.1 = -4 ∨ it = 2 ∧ P.2.2.2.2.2 = -4 ∨ it = 3 ∧ P.2.1 = 0) → Q (nI 0) B) : w_X12_isThere (nI it) B Q := by
  have v6 : vp_in (nI c) 6 := vp_in_nI hc (by decide)
  obtain ⟨m0, m1, m5, m2, m3, m4⟩ := mp
  have gn := g.2.1
  unfold w_X12_isThere
  rw [e7, nI_clamp (n := c) (by omega), m1, m2, m3, m4]
  rcases (show it = 0 ∨ it = 1 ∨ it = 2 ∨ it = 3 by omega) with rfl | rfl | rfl | rfl
  · exact bt rfl ⟨v6, bc (fun z => q0 (Or.inl ⟨rfl, z⟩)) (fun z => q1 (fun w => by
      rcases w with w | w | w | w
      · exact z w.2
      · exact absurd w.1 (by decide)
      · exact absurd w.1 (by decide)
      · exact absurd w.1 (by decide)))⟩
  · exact bf (by decide) (bt rfl ⟨v6, bc (fun z => q0 (Or.inr (Or.inl ⟨rfl, z⟩))) (fun z => q1 (fun w => by
      rcases w with w | w | w | w
      · exact absurd w.1 (by decide)
      · exact z w.2
      · exact absurd w.1 (by decide)
      · exact absurd w.1 (by decide)))⟩)
  · exact bf (by decide) (bf (by decide) (bt rfl ⟨v6, bc (fun z => q0 (Or.inr (Or.inr (Or.inl ⟨rfl, z⟩)))) (fun z => q1 (fun w => by
      rcases w with w | w | w | w
      · exact absurd w.1 (by decide)
      · exact absurd w.1 (by decide)
      · exact z w.2
      · exact absurd w.1 (by decide)))⟩))
  · refine bf (by decide) (bf (by decide) (bf (by decide) ⟨v6, ?_⟩))
    by_cases z : P.2.1 = 0
    · exact bt (by rw [z]; exact nI_le (by decide) (by decide)) (q0 (Or.inr (Or.inr (Or.inr ⟨rfl, z⟩))))
    · refine bf (nI_ge (by omega) (by omega)) (q1 (fun w => ?_))
      rcases w with w | w | w | w
      · exact absurd w.1 (by decide)
      · exact absurd w.1 (by decide)
      · exact absurd w.1 (by decide)
      · exact z w.2
theorem itM {B : wM} {p : Nat} {P : PT} {K Q : wM → Prop} (tm : TM B b n) (hp : p ≤ n) (tk : TK b n B p) (hc : c < 6) (e7 : gi B 0 7 = nI c) (mp : MP B c P) (g : PG P)
    (q1 : ∀ (B' : wM) (P' : PT) (e' : Nat), itm b n P p = .inr (P', e') → fR c B B' → MP B' c P' → HM b n B' e' → K B')
    (q0 : ∀ (B' : wM) (c' f : Nat), itm b n P p = .inl (c', f) → fR c B B' → flt B' c' f → K B') : w_X12_itemNow B (fun r45 M46 => (r45 = (-4) → wj_X12_readPart_173 (nI c) r45 (nI 0) K M46 Q) ∧ (¬ r45 = (-4) → wj_X12_readPart_173 (nI c) r45 (nI 1) K M46 Q)) := by
  have n240 := tm.1
  have el := tE_le (b := b) hp
  refine itemNowM tm hp tk ?_
  have pw : 2 ^ P.1 ≤ 256 := Nat.pow_le_pow_right (n := 2) (j := 8) (by decide) g.1.2
  -- an item that has a name
  have named : ∀ it : Nat, it < 4 → (¬ (it = 0 ∧ P.2.2.2.1 = -4 ∨ it = 1 ∧ P.2.2.2.2.1 = -4 ∨ it = 2 ∧ P.2.2.2.2.2 = -4 ∨ it = 3 ∧ P.2.1 = 0) → itm b n P p = .inl (4, tF b n p)) → ((it = 0 ∧ P.2.2.2.1 = -4 ∨ it = 1 ∧ P.2.2.2.2.1 = -4 ∨ it = 2 ∧ P.2.2.2.2.2 = -4 ∨ it = 3 ∧ P.2.1 = 0) → wj_X12_readPart_202 (nI c) (nI it) K B Q) → wj_X12_readPart_173 (nI c) (nI it) (nI 1) K B Q := by
    intro it hi h4 h202
    unfold wj_X12_readPart_173
    refine want1 ne10 (bt tk.1 (thereM hc e7 mp g hi (fun w => bf ne10 ?_) (fun w => bt rfl (want1 ne10 (h202 w)))))
    exact want0 tk.1 tk.2.2.1 (by decide) (fun B1 f1 h1 _ => go202 h1 (q0 B1 4 _ (h4 w) (fN_R f1) h1))
  -- the token behind the name
  have behind : ∀ it : Nat, (tB b n (tE b n p) → itm b n P p = .inl (1, tF b n (tE b n p))) → (∀ B1 : wM, ¬ tB b n (tE b n p) → tG b n (tE b n p) → fN B B1 → TM B1 b n → TK b n B1 (tE b n p) → gi B1 0 7 = nI c → MP B1 c P → ((nI it = nI 3 → w_X12_readCells B1 (fun M61 => w_X12_next M61 (fun M63 => K M63))) ∧ (¬ nI it = nI 3 → wj_X12_readPart_225 (nI c) (nI it) K B1 Q))) → wj_X12_readPart_202 (nI c) (nI it) K B Q := by
    intro it h1 h2
    unfold wj_X12_readPart_202
    refine nxM tm tk.1 tk.2.2.2.1 el.2 (fun B1 f1 hm => ?_)
    rcases HM_TK hm with ⟨gg, tk1⟩ | ⟨gg, fl⟩
    · exact bt tk1.1 (h2 B1 (tG_i.mp gg) gg f1 (TM_fr tm f1) tk1 ((f1 0 7 (by decide)).trans e7) (MP_fr mp (fun a h1 _ => f1 a c (by omega))))
    · refine bf (f0 fl) ?_
      unfold wj_X12_readPart_225
      exact bf (f0 fl) (nxF fl (q0 B1 1 _ (h1 (Classical.byContradiction fun y => gg (tG_i.mpr y))) (fN_R f1) fl))
  have t225 : ∀ (B1 : wM) (it : Nat), TK b n B1 (tE b n p) → w_X12_readNumber (nI it) B1 (fun M66 => w_X12_next M66 (fun M68 => K M68)) → wj_X12_readPart_225 (nI c) (nI it) K B1 Q := by
    intro B1 it tk1 h
    unfold wj_X12_readPart_225
    exact bt tk1.1 h
  unfold itN
  unfold itm at q1 q0 named behind
  by_cases z1 : isNm b n p 1
  · rw [if_pos z1] at q1 q0 named behind ⊢
    refine bf (by decide) (named 0 (by decide) (fun w => if_neg (fun v => w (Or.inl ⟨rfl, v⟩))) (fun w => ?_))
    have v : P.2.2.2.1 = -4 := by
      rcases w with w | w | w | w
      · exact w.2
      · exact absurd w.1 (by decide)
      · exact absurd w.1 (by decide)
      · exact absurd w.1 (by decide)
    rw [if_pos v] at q1 q0 behind
    refine behind 0 (fun tb => by unfold nmb; rw [if_pos tb]; rfl) (fun B1 ntb gg f1 tm1 tk1 g7 mp1 => bf (by decide) (t225 B1 0 tk1 ?_))
    unfold nmb at q1 q0
    rw [if_neg ntb] at q1 q0
    refine rn0 tm1 el.2 tk1 gg g7 hc mp1 (fun w B' f h => q0 B' 2 _ (by rw [if_neg w]; rfl) (fR_trans (fN_R f1) f) h) (fun w w2 B' f h => q0 B' 3 _ ?_ (fR_trans (fN_R f1) f) h) (fun w w2 B' f m h => q1 B' _ _ ?_ (fR_trans (fN_R f1) f) m h)
    · have vlt := tV_lt w gg
      rw [if_pos w, if_neg (by omega)]
      exact if_neg w2
    · have vlt := tV_lt w gg
      rw [if_pos w, if_neg (by omega)]
      exact if_pos w2
  · rw [if_neg z1] at q1 q0 named behind ⊢
    by_cases z2 : isNm b n p 2
    · rw [if_pos z2] at q1 q0 named behind ⊢
      refine bf (by decide) (named 1 (by decide) (fun w => if_neg (fun v => w (Or.inr (Or.inl ⟨rfl, v⟩)))) (fun w => ?_))
      have v : P.2.2.2.2.1 = -4 := by
        rcases w with w | w | w | w
        · exact absurd w.1 (by decide)
        · exact w.2
        · exact absurd w.1 (by decide)
        · exact absurd w.1 (by decide)
      rw [if_pos v] at q1 q0 behind
      refine behind 1 (fun tb => by unfold nmb; rw [if_pos tb]; rfl) (fun B1 ntb gg f1 tm1 tk1 g7 mp1 => bf (by decide) (t225 B1 1 tk1 ?_))
      unfold nmb at q1 q0
      rw [if_neg ntb] at q1 q0
      refine rn1 tm1 el.2 tk1 gg g7 hc g mp1 (fun w B' f h => q0 B' 2 _ (by rw [if_neg w]; rfl) (fR_trans (fN_R f1) f) h) (fun w w2 B' f h => q0 B' 3 _ (by rw [if_pos w, if_pos (Or.inr w2)]; rfl) (fR_trans (fN_R f1) f) h) (fun w w2 w3 B' f h => q0 B' 4 _ ?_ (fR_trans (fN_R f1) f) h) (fun w w2 w3 B' f m h => q1 B' _ _ ?_ (fR_trans (fN_R f1) f) m h)
      · rw [if_pos w, if_neg (by omega)]
        exact if_pos w3
      · rw [if_pos w, if_neg (by omega)]
        exact if_neg w3
    · rw [if_neg z2] at q1 q0 named behind ⊢
      by_cases z3 : isNm b n p 3
      · rw [if_pos z3] at q1 q0 named behind ⊢
        refine bf (by decide) (named 2 (by decide) (fun w => if_neg (fun v => w (Or.inr (Or.inr (Or.inl ⟨rfl, v⟩))))) (fun w => ?_))
        have v : P.2.2.2.2.2 = -4 := by
          rcases w with w | w | w | w
          · exact absurd w.1 (by decide)
          · exact absurd w.1 (by decide)
          · exact w.2
          · exact absurd w.1 (by decide)
        rw [if_pos v] at q1 q0 behind
        refine behind 2 (fun tb => by unfold nmb; rw [if_pos tb]; rfl) (fun B1 ntb gg f1 tm1 tk1 g7 mp1 => bf (by decide) (t225 B1 2 tk1 ?_))
        unfold nmb at q1 q0
        rw [if_neg ntb] at q1 q0
        refine rn2 tm1 el.2 tk1 gg g7 hc g mp1 (fun w B' f h => q0 B' 2 _ (by rw [if_neg w]; rfl) (fR_trans (fN_R f1) f) h) (fun w w2 B' f h => q0 B' 3 _ (by rw [if_pos w, if_pos (Or.inr w2)]; rfl) (fR_trans (fN_R f1) f) h) (fun w w2 w3 B' f h => q0 B' 4 _ ?_ (fR_trans (fN_R f1) f) h) (fun w w2 w3 B' f m h => q1 B' _ _ ?_ (fR_trans (fN_R f1) f) m h)
        · rw [if_pos w, if_neg (by omega)]
          exact if_pos w3
        · rw [if_pos w, if_neg (by omega)]
          exact if_neg w3
      · rw [if_neg z3] at q1 q0 named behind ⊢
        by_cases z4 : isNm b n p 4
        · rw [if_pos z4] at q1 q0 named behind ⊢
          refine bf (by decide) (named 3 (by decide) (fun w => if_neg (fun v => w (Or.inr (Or.inr (Or.inr ⟨rfl, v⟩))))) (fun w => ?_))
          have v : P.2.1 = 0 := by
            rcases w with w | w | w | w
            · exact absurd w.1 (by decide)
            · exact absurd w.1 (by decide)
            · exact absurd w.1 (by decide)
            · exact w.2
          rw [if_pos v] at q1 q0 behind
          refine behind 3 (fun tb => by unfold clsR; rw [if_pos tb]; rfl) (fun B1 ntb gg f1 tm1 tk1 g7 mp1 => bt rfl ?_)
          unfold clsR at q1 q0
          rw [if_neg ntb] at q1 q0
          exact rdC tm1 el.2 tk1 g7 hc mp1 (fun w B' f h => q0 B' 2 _ (by rw [if_neg w]; rfl) (fR_trans (fN_R f1) f) h) (fun w w2 B' f h => q0 B' 3 _ (by rw [if_pos w, if_neg w2]; rfl) (fR_trans (fN_R f1) f) h) (fun w w2 B' f m h => q1 B' _ _ (by rw [if_pos w, if_pos w2]; rfl) (fR_trans (fN_R f1) f) m h)
        · rw [if_neg z4] at q0 ⊢
          refine bt rfl ?_
          unfold wj_X12_readPart_173
          exact want0 tk.1 tk.2.2.1 (by decide) (fun B1 f1 h1 _ => bf (f0 h1) (go202 h1 (q0 B1 2 _ rfl (fN_R f1) h1)))
theorem end1 {B : wM} {c' f : Nat} {s : Int32} {Q : wM → Prop} (e7 : gi B 0 7 = nI c) (h : flt B c' f) (q : Q (si B 0 7 (nI (c + 1)))) : wj_X12_readPart_301 s B Q := by
  unfold wj_X12_readPart_301
  refine wantF h (nxF h ?_)
  rw [e7, nI_add]
  exact q
theorem endF {B : wM} {c' f : Nat} {Q : wM → Prop} (hc : c < 6) (e7 : gi B 0 7 = nI c) (h : flt B c' f) (q : Q (si B 0 7 (nI (c + 1)))) : wj_X12_readPart_244 (nI c) B Q := by
  have v6 : vp_in (nI c) 6 := vp_in_nI hc (by decide)
  have w : ∀ s, wj_X12_readPart_301 s B Q := fun s => end1 e7 h q
  have w2 : wj_X12_readPart_276 (nI c) B Q := ⟨v6, bc (fun _ => w _) (fun _ => ⟨v6, bc (fun _ => w _) (fun _ => w _)⟩)⟩
  exact ⟨v6, bc (fun _ => ⟨v6, bc (fun _ => w2) (fun _ => ⟨v6, bc (fun _ => w _) (fun _ => w2)⟩)⟩) (fun _ => ⟨v6, bc (fun _ => w _) (fun _ => w2)⟩)⟩
theorem itsM {B0 : wM} {Q : wM → Prop} (hc : c < 6) : ∀ (k p : Nat) (P : PT) (B : wM), n - p < k → p ≤ n → TM B b n → PG P → MP B c P → gi B 0 7 = nI c → HM b n B p → fR c B0 B → (∀ (B' : wM) (P' : PT) (e' : Nat), its b n k P p = .inr (P', e') → fR c B0 B' → MP B' c P' → HM b n B' e' → gi B' 0 7 = nI c → Q (si B' 0 7 (nI (c + 1)))) → (∀ (B' : wM) (c' f : Nat), its b n k P p = .inl (c', f) → fR c B0 B' → flt B' c' f → gi B' 0 7 = nI c → Q (si B' 0 7 (nI (c + 1)))) → wL_X12_readPart_141 (nI c) Q (k + 1) B
  | 0, p, P, B, h, _, _, _, _, _, _, _, _, _ => by omega
  | k + 1, p, P, B, hn, hp, tm, g, mp, e7, hm, fr, q1, q0 => by
    have fl := tF_le (b := b) hp
    have el := tE_le (b := b) hp
    have n240 := tm.1
    have v6 : vp_in (nI c) 6 := vp_in_nI hc (by decide)
    have kl := tK_lt (b := b) (n := n) (p := p)
    rw [its_s] at q1 q0
    show wb_X12_readPart_141 (nI c) (wL_X12_readPart_141 (nI c) Q (k + 1)) B Q
    unfold wb_X12_readPart_141
    rcases HM_TK hm with ⟨gg, tk⟩ | ⟨gg, fl1⟩
    · rw [if_neg (tG_i.mp gg)] at q1 q0
      refine bt tk.1 ?_
      rw [tk.2.1]
      by_cases z : tK b n p = 3
      · rw [if_pos z] at q1 q0
        refine bt (by rw [z]) ?_
        have yes : whl P → wj_X12_readPart_301 (nI 1) B Q := fun w => by
          rw [if_pos w] at q1
          unfold wj_X12_readPart_301
          refine want1 ne10 (nxM tm tk.1 tk.2.2.2.1 el.2 (fun B1 f1 h1 => ?_))
          have g7 : gi B1 0 7 = nI c := (f1 0 7 (by decide)).trans e7
          rw [g7, nI_add]
          exact q1 B1 P _ rfl (fR_trans fr (fN_R f1)) (MP_fr mp (fun a h1 _ => f1 a c (by omega))) h1 g7
        have no : ¬ whl P → wj_X12_readPart_301 (nI 0) B Q := fun w => by
          rw [if_neg w] at q0
          unfold wj_X12_readPart_301
          refine want0 tk.1 tk.2.2.1 (by decide) (fun B1 f1 h1 h2 => nxF h1 ?_)
          have g7 : gi B1 0 7 = nI c := (h2 7 (by decide) (by decide)).trans e7
          rw [g7, nI_add]
          exact q0 B1 6 _ rfl (fR_trans fr (fN_R f1)) h1 g7
        obtain ⟨m0, m1, m5, m2, m3, m4⟩ := mp
        have gn := g.2.1
        have w276 : (P.2.1 = 0 → whl P) → wj_X12_readPart_276 (nI c) B Q := by
          intro hz
          unfold wj_X12_readPart_276
          rw [nI_clamp (n := c) (by omega), m1, m4]
          refine ⟨v6, bc (fun y => yes (hz (inj31 y (by omega) (by decide)))) (fun y => ⟨v6, bc (fun w => no (fun v => ?_)) (fun w => yes (Or.inl ⟨?_, w⟩))⟩)⟩
          · rcases v with v | v
            · exact v.2 w
            · exact y (by rw [v.1])
          · rcases Nat.eq_zero_or_pos P.2.1 with t | t
            · exact absurd (by rw [t]) y
            · exact t
        have nz : ∀ y : nI P.2.1 ≤ nI 0, P.2.1 = 0 := fun y => by
          rw [le_n (by decide), nI_toInt (by omega)] at y
          omega
        have pz : ¬ nI P.2.1 ≤ nI 0 → ¬ P.2.1 = 0 := fun y t => y (by rw [t]; exact nI_le (by decide) (by decide))
        unfold wj_X12_readPart_244
        rw [nI_clamp (n := c) (by omega), m1, m3, m4]
        refine ⟨v6, bc (fun y3 => ⟨v6, bc (fun y4 => w276 (fun t => Or.inr ⟨t, y3, y4⟩)) (fun y4 => ⟨v6, bc (fun y => no (fun v => ?_)) (fun y => w276 (fun t => absurd t (pz y)))⟩)⟩) (fun y3 => ⟨v6, bc (fun y => no (fun v => ?_)) (fun y => w276 (fun t => absurd t (pz y)))⟩)⟩
        · have := nz y
          rcases v with v | v
          · omega
          · exact y4 v.2.2
        · have := nz y
          rcases v with v | v
          · omega
          · exact y3 v.2.1
      · rw [if_neg z] at q1 q0
        refine bf (fun y => z (inj31 y (by omega) (by decide))) (itM tm hp tk hc e7 mp g (fun B1 P1 e1 hx f1 m1 h1 => ?_) (fun B1 c' f hx f1 h1 => ?_))
        · rw [hx] at q1 q0
          obtain ⟨g2, -, kk1, l1, l2⟩ := itm_ok hp g hx
          have := tK_1 hp kk1
          exact itsM hc k e1 P1 B1 (by omega) l2 (TM_R tm f1) g2 m1 ((f1 0 7 (by decide) (Or.inl (by decide))).trans e7) h1 (fR_trans fr f1) q1 q0
        · rw [hx] at q0
          have g7 : gi B1 0 7 = nI c := (f1 0 7 (by decide) (Or.inl (by decide))).trans e7
          show wb_X12_readPart_141 (nI c) _ B1 Q
          unfold wb_X12_readPart_141
          exact bf (f0 h1) (endF hc g7 h1 (q0 B1 c' f rfl (fR_trans fr f1) h1 g7))
    · rw [if_pos (Classical.byContradiction fun y => gg (tG_i.mpr y))] at q0
      exact bf (f0 fl1) (endF hc e7 fl1 (q0 B 1 _ rfl fr fl1 e7))
end MT
