/-! the reader: a part, the text, in the class -/
abbrev whl (P : PT) : Prop := (0 < P.2.1 ∧ P.2.2.2.2.2 ≠ -4) ∨ (P.2.1 = 0 ∧ P.2.2.2.2.1 = -4 ∧ P.2.2.2.2.2 = -4)
def its (b : Nat → Nat) (n : Nat) : Nat → PT → Nat → (Nat × Nat) ⊕ (PT × Nat)
  | 0, _, _ => .inl (9, 0)
  | k + 1, P, p => if tB b n p then .inl (1, tF b n p) else if tK b n p = 3 then (if whl P then .inr (P, tE b n p) else .inl (6, tF b n p)) else (itm b n P p).elim (fun x => .inl x) (fun x => its b n k x.1 x.2)
def prt (b : Nat → Nat) (n p : Nat) : (Nat × Nat) ⊕ (PT × Nat) := (nmb b n p 2 8).elim (fun x => .inl x) (fun x => its b n 240 (x.1, 0, 0, -4, -4, -4) x.2)
def txt (b : Nat → Nat) (n : Nat) : Nat → List PT → Nat → (Nat × Nat) ⊕ List PT
  | 0, l, _ => .inr l
  | k + 1, l, p => if tB b n p then .inl (1, tF b n p) else if tK b n p = 0 then .inr l else if isNm b n p 0 then (if 6 ≤ l.length then .inl (5, tF b n p) else (prt b n (tE b n p)).elim (fun x => .inl x) (fun x => txt b n k (l ++ [x.1]) x.2)) else .inl (2, tF b n p)
section TXT
variable {b : Nat → Nat} {n : Nat}
theorem its_s (k : Nat) (P : PT) (p : Nat) : its b n (k + 1) P p = if tB b n p then .inl (1, tF b n p) else if tK b n p = 3 then (if whl P then .inr (P, tE b n p) else .inl (6, tF b n p)) else (itm b n P p).elim (fun x => .inl x) (fun x => its b n k x.1 x.2) := rfl
theorem txt_s (k : Nat) (l : List PT) (p : Nat) : txt b n (k + 1) l p = if tB b n p then .inl (1, tF b n p) else if tK b n p = 0 then .inr l else if isNm b n p 0 then (if 6 ≤ l.length then .inl (5, tF b n p) else (prt b n (tE b n p)).elim (fun x => .inl x) (fun x => txt b n k (l ++ [x.1]) x.2)) else .inl (2, tF b n p) := rfl
theorem tK_3 {p : Nat} (h : p ≤ n) (k : tK b n p = 3) : tF b n p < tE b n p := by
  unfold tK at k
  unfold tE
  split at k
  · cases k
  · split at k
    · rename_i z1 z2
      rw [if_neg z1, if_pos z2]
      omega
    · split at k <;> cases k
theorem its_ok : ∀ (k : Nat) (P P' : PT) (p e : Nat), p ≤ n → PG P → its b n k P p = .inr (P', e) → PG P' ∧ whl P' ∧ p < e ∧ e ≤ n
  | 0, _, _, _, _, _, _, h => by cases h
  | k + 1, P, P', p, e, hp, g, h => by
    have fl := tF_le (b := b) hp
    have el := tE_le (b := b) hp
    rw [its_s] at h
    split at h
    · cases h
    · split at h
      · rename_i z
        split at h
        · rename_i w
          injection h with h
          injection h with h1 h2
          subst h1
          have := tK_3 hp z
          exact ⟨g, w, by omega, by omega⟩
        · cases h
      · cases hx : itm b n P p with
        | inl x => rw [hx] at h; cases h
        | inr x =>
          obtain ⟨P1, e1⟩ := x
          rw [hx] at h
          change its b n k P1 e1 = _ at h
          obtain ⟨g1, -, k1, l1, l2⟩ := itm_ok hp g hx
          have := tK_1 hp k1
          obtain ⟨r1, r2, r3, r4⟩ := its_ok k P1 P' e1 e l2 g1 h
          exact ⟨r1, r2, by omega, r4⟩
theorem PG_0 {v : Nat} (h1 : 2 ≤ v) (h2 : v ≤ 8) : PG (v, 0, 0, -4, -4, -4) := ⟨⟨h1, h2⟩, (by decide : 0 ≤ 10), (by decide : 0 < 2 ^ 0), Or.inl rfl, Or.inl rfl, Or.inl rfl⟩
theorem prt_ok {p e : Nat} {P : PT} (hp : p ≤ n) (h : prt b n p = .inr (P, e)) : PG P ∧ whl P ∧ p < e ∧ e ≤ n := by
  have fl := tF_le (b := b) hp
  have el := tE_le (b := b) hp
  unfold prt at h
  cases hx : nmb b n p 2 8 with
  | inl x => rw [hx] at h; cases h
  | inr x =>
    obtain ⟨v, e1⟩ := x
    rw [hx] at h
    change its b n 240 (v, 0, 0, -4, -4, -4) e1 = _ at h
    obtain ⟨r1, r2, r3, r4, r5, r6⟩ := nmb_r hx
    obtain ⟨s1, s2, s3, s4⟩ := its_ok 240 _ P e1 e (by omega) (PG_0 r5 r6) h
    exact ⟨s1, s2, by omega, s4⟩
theorem txt_ok : ∀ (k : Nat) (l l' : List PT) (p : Nat), p ≤ n → l.length ≤ 6 → (∀ (j : Nat) (P : PT), l[j]? = some P → PG P ∧ whl P) → txt b n k l p = .inr l' → l'.length ≤ 6 ∧ ∀ (j : Nat) (P : PT), l'[j]? = some P → PG P ∧ whl P
  | 0, l, l', p, _, hl, g, h => by
    injection h with h
    subst h
    exact ⟨hl, g⟩
  | k + 1, l, l', p, hp, hl, g, h => by
    have el := tE_le (b := b) hp
    rw [txt_s] at h
    split at h
    · cases h
    · split at h
      · injection h with h
        subst h
        exact ⟨hl, g⟩
      · split at h
        · split at h
          · cases h
          · rename_i z
            cases hx : prt b n (tE b n p) with
            | inl x => rw [hx] at h; cases h
            | inr x =>
              obtain ⟨P1, e1⟩ := x
              rw [hx] at h
              change txt b n k (l ++ [P1]) e1 = _ at h
              obtain ⟨r1, r2, r3, r4⟩ := prt_ok el.2 hx
              refine txt_ok k (l ++ [P1]) l' e1 r4 (by rw [List.length_append]; show l.length + 1 ≤ 6; omega) (fun j P hj => ?_) h
              rcases Nat.lt_trichotomy j l.length with y | y | y
              · rw [List.getElem?_append_left y] at hj
                exact g j P hj
              · subst y
                rw [List.getElem?_append_right (Nat.le_refl _), Nat.sub_self] at hj
                obtain rfl := Option.some.inj hj
                exact ⟨r1, r2⟩
              · rw [List.getElem?_eq_none (by rw [List.length_append]; show l.length + 1 ≤ j; omega)] at hj
                cases hj
        · cases h
theorem tK_lt {p : Nat} : tK b n p < 4 := by
  unfold tK
  split
  · decide
  · split
    · decide
    · split <;> decide
theorem itsX {t : Nat} {A0 : wM} {Q : Int32 → wM → Prop} (ht : 5 ≤ t ∧ t ≤ 10) : ∀ (k i p : Nat) (P : PT) (A : wM), i + k = 240 → n - p < k → p ≤ n → TX A b n → PG P → XP A t P → gi A 3 7 = nI p → okT t A0 A → (∀ (A' : wM) (P' : PT) (e' : Nat), its b n k P p = .inr (P', e') → okT t A0 A' → XP A' t P' → gi A' 3 7 = nI e' → Q (nI 1) A') → (∀ (A' : wM) (c f : Nat), its b n k P p = .inl (c, f) → badT t A0 A' c f → Q (nI 0) A') → wL_X7_readPart_26 t Q k (nI i) A
  | 0, i, p, P, A, _, h, _, _, _, _, _, _, _, _ => by omega
  | k + 1, i, p, P, A, hi, hn, hp, tx, g, xp, e7, okA, q1, q0 => by
    have fl := tF_le (b := b) hp
    have el := tE_le (b := b) hp
    have n240 := tx.1
    rw [its_s] at q1 q0
    show wb_X7_readPart_26 t (wL_X7_readPart_26 t Q k) (nI i) A Q
    unfold wb_X7_readPart_26
    refine bf (nI_ge (by omega) (by decide)) (takeX tx e7 hp (fun gg A1 k1 a5 a6 a7 => bf ne10 ?_) (fun gg A1 k1 => bt rfl (q0 A1 1 _ (if_pos (Classical.byContradiction fun y => gg (tG_i.mpr y))) (ok_bad okA k1))))
    have ng := tG_i.mp gg
    rw [if_neg ng] at q1 q0
    have k5 := f3_5 k1
    have tx1 : TX A1 b n := TX_fr tx (k1.1 1 1 (by decide)) (fun j => k1.1 2 j (Or.inl (by decide)))
    have xp1 : XP A1 t P := XP_fr xp (fun j => k5.1 t j (by omega))
    have ok1 : okT t A0 A1 := ok_trans okA (f5_ok k5)
    have kl := tK_lt (b := b) (n := n) (p := p)
    rw [a5]
    by_cases z : tK b n p = 3
    · rw [if_pos z] at q1 q0
      refine bt (by rw [z]) ?_
      have yes : whl P → Q (nI 1) A1 := fun w => by
        rw [if_pos w] at q1
        exact q1 A1 P _ rfl ok1 xp1 a7
      have no : ¬ whl P → w_X7_refuse (nI 6) A1 (fun r14 M15 => (r14 = (nI 0) → Q (nI 0) M15) ∧ (¬ r14 = (nI 0) → Q (nI 1) M15)) := fun w => by
        rw [if_neg w] at q0
        exact ref2 k5 a6 (fun A' h => q0 A' 6 _ rfl (ok_bad okA h))
      obtain ⟨x0, x1, x5, x2, x3, x4⟩ := id xp1
      have pn := g.2.1
      unfold w_X4_isWhole
      rw [x1, x3, x4]
      refine ⟨pt_t ht, ?_⟩
      by_cases c : P.2.1 = 0
      · refine bt (by rw [c]; exact nI_le (by decide) (by decide)) (bc (fun y => bc (fun w => bf ne10 (yes (Or.inr ⟨c, y, w⟩))) (fun w => bt rfl (no (fun v => ?_)))) (fun y => bt rfl (no (fun v => ?_))))
        · rcases v with v | v
          · omega
          · exact w v.2.2
        · rcases v with v | v
          · omega
          · exact y v.2.1
      · refine bf (nI_ge (by omega) (by omega)) (bc (fun y => bt rfl (no (fun v => ?_))) (fun y => bf ne10 (yes (Or.inl ⟨by omega, y⟩))))
        rcases v with v | v
        · exact v.2 y
        · omega
    · rw [if_neg z] at q1 q0
      refine bf (fun y => z (inj31 y (by omega) (by decide))) (itX tx1 ht hp g xp1 a5 a6 a7 (fun A2 P2 e2 hx k2 xp2 a7' => bf ne10 ?_) (fun A2 c f hx k2 => bt rfl (q0 A2 c f (by rw [hx]; rfl) (ok_badT ok1 k2))))
      rw [hx] at q1 q0
      obtain ⟨g2, -, kk1, l1, l2⟩ := itm_ok hp g hx
      have := tK_1 hp kk1
      rw [nI_add]
      exact itsX ht k (i + 1) e2 P2 A2 (by omega) (by omega) l2 (TX_ok tx1 ht k2) g2 xp2 a7' (ok_trans ok1 k2) q1 q0
theorem prX {t p : Nat} {A : wM} {Q : Int32 → wM → Prop} (ht : 5 ≤ t ∧ t ≤ 10) (tx : TX A b n) (hp : p ≤ n) (e7 : gi A 3 7 = nI p) (q1 : ∀ (A' : wM) (P' : PT) (e' : Nat), prt b n p = .inr (P', e') → okT t A A' → XP A' t P' → gi A' 3 7 = nI e' → Q (nI 1) A') (q0 : ∀ (A' : wM) (c f : Nat), prt b n p = .inl (c, f) → badT t A A' c f → Q (nI 0) A') : w_X7_readPart t A Q := by
  have n240 := tx.1
  have fl := tF_le (b := b) hp
  have el := tE_le (b := b) hp
  unfold w_X7_readPart w_X4_clear
  refine ⟨pt_t ht, pt_t ht, ?_⟩
  have okC : okT t A (si (si (si (si (si (si A t 0 (nI 0)) t 1 (nI 0)) t 2 (-4)) t 3 (-4)) t 4 (-4)) t 5 (nI 0)) := ⟨fun a j h _ => by rw [gi_ne (Or.inl h), gi_ne (Or.inl h), gi_ne (Or.inl h), gi_ne (Or.inl h), gi_ne (Or.inl h), gi_ne (Or.inl h)], fun _ => rfl⟩
  have xc : XP (si (si (si (si (si (si A t 0 (nI 0)) t 1 (nI 0)) t 2 (-4)) t 3 (-4)) t 4 (-4)) t 5 (nI 0)) t (0, 0, 0, -4, -4, -4) := by
    unfold XP
    refine ⟨?_, ?_, gi_eq .., ?_, ?_, ?_⟩
    · rw [gi_ne (Or.inr (by decide)), gi_ne (Or.inr (by decide)), gi_ne (Or.inr (by decide)), gi_ne (Or.inr (by decide)), gi_ne (Or.inr (by decide)), gi_eq]
    · rw [gi_ne (Or.inr (by decide)), gi_ne (Or.inr (by decide)), gi_ne (Or.inr (by decide)), gi_ne (Or.inr (by decide)), gi_eq]
    · rw [gi_ne (Or.inr (by decide)), gi_ne (Or.inr (by decide)), gi_ne (Or.inr (by decide)), gi_eq]
    · rw [gi_ne (Or.inr (by decide)), gi_ne (Or.inr (by decide)), gi_eq]
    · rw [gi_ne (Or.inr (by decide)), gi_eq]
  have e71 : gi (si (si (si (si (si (si A t 0 (nI 0)) t 1 (nI 0)) t 2 (-4)) t 3 (-4)) t 4 (-4)) t 5 (nI 0)) 3 7 = nI p := by
    have h : (3 : Nat) ≠ t := by omega
    rw [gi_ne (Or.inl h), gi_ne (Or.inl h), gi_ne (Or.inl h), gi_ne (Or.inl h), gi_ne (Or.inl h), gi_ne (Or.inl h)]
    exact e7
  generalize si (si (si (si (si (si A t 0 (nI 0)) t 1 (nI 0)) t 2 (-4)) t 3 (-4)) t 4 (-4)) t 5 (nI 0) = A1 at okC xc e71 ⊢
  have tx1 := TX_ok tx ht okC
  refine tnX tx1 e71 hp (by decide) (by decide) (fun v e' A2 hn k2 vlt m8 m6 m7 => bf ne10 ?_) (fun c f A2 hn k2 => bt rfl (q0 A2 c f (by unfold prt; rw [hn]; rfl) (ok_bad okC k2)))
  unfold prt at q1 q0
  rw [hn] at q1 q0
  obtain ⟨r1, r2, r3, r4, r5, r6⟩ := nmb_r hn
  have r7 := r2 r1
  rw [m8]
  obtain ⟨x0, x1, x5, x2, x3, x4⟩ := id xc
  refine ⟨240, itsX ht 240 0 e' (v, 0, 0, -4, -4, -4) _ rfl (by omega) (by omega) (TX_ok (TX_ok tx1 ht (f5_ok k2)) ht ok_si) (PG_0 r5 r6) ⟨gi_eq .., ?_, ?_, ?_, ?_, ?_⟩ ?_ (ok_trans (ok_trans okC (f5_ok k2)) ok_si) q1 q0⟩
  · rw [gi_ne (Or.inr (by decide)), k2.1 t 1 (by omega)]; exact x1
  · rw [gi_ne (Or.inr (by decide)), k2.1 t 5 (by omega)]; exact x5
  · rw [gi_ne (Or.inr (by decide)), k2.1 t 2 (by omega)]; exact x2
  · rw [gi_ne (Or.inr (by decide)), k2.1 t 3 (by omega)]; exact x3
  · rw [gi_ne (Or.inr (by decide)), k2.1 t 4 (by omega)]; exact x4
  · rw [gi_ne (Or.inl (by omega))]; exact m7
/-- nothing but the reader has changed -/
def frT (A A' : wM) : Prop := (∀ a j, a ≠ 3 ∨ 8 < j → a < 5 ∨ 10 < a → gi A' a j = gi A a j) ∧ ∀ c, gp A' c = gp A c
theorem txX {A0 : wM} {Q : Int32 → wM → Prop} : ∀ (k i p : Nat) (l : List PT) (A : wM), i + k = 240 → l.length = i → i ≤ 6 → p ≤ n → TX A b n → gi A 3 7 = nI p → gi A 3 2 = nI i → gi A 3 3 = nI 0 → (∀ (j : Nat) (P : PT), l[j]? = some P → XP A (5 + j) P) → frT A0 A → (∀ (A' : wM) (l' : List PT), txt b n k l p = .inr l' → frT A0 A' → gi A' 3 2 = nI l'.length → gi A' 3 3 = nI 0 → (∀ (j : Nat) (P : PT), l'[j]? = some P → XP A' (5 + j) P) → Q (nI 1) A') → (∀ (A' : wM) (c f : Nat), txt b n k l p = .inl (c, f) → frT A0 A' → gi A' 3 3 = nI c → gi A' 3 4 = nI f → Q (nI 0) A') → wL_X7_readText_22 Q k (nI i) A
  | 0, i, p, l, A, h, _, h6, _, _, _, _, _, _, _, _, _ => by omega
  | k + 1, i, p, l, A, hi, hl, h6, hp, tx, e7, e2, e3, hx, fr, q1, q0 => by
    have el := tE_le (b := b) hp
    have n240 := tx.1
    have kl := tK_lt (b := b) (n := n) (p := p)
    rw [txt_s] at q1 q0
    have bd : ∀ (B A' : wM) (c f : Nat), frT A0 B → bad B A' c f → frT A0 A' := fun B A' c f h k => ⟨fun a j x y => (k.1.1 a j (by omega)).trans (h.1 a j x y), fun c => (k.1.2 c).trans (h.2 c)⟩
    show wb_X7_readText_22 (wL_X7_readText_22 Q k) (nI i) A Q
    unfold wb_X7_readText_22
    refine bf (nI_ge (by omega) (by decide)) (takeX tx e7 hp (fun gg A1 k1 a5 a6 a7 => bf ne10 ?_) (fun gg A1 k1 => bt rfl (q0 A1 1 _ (if_pos (Classical.byContradiction fun y => gg (tG_i.mpr y))) (bd A A1 _ _ fr k1) k1.2.1 k1.2.2)))
    have ng := tG_i.mp gg
    rw [if_neg ng] at q1 q0
    have k5 := f3_5 k1
    have tx1 : TX A1 b n := TX_fr tx (k1.1 1 1 (by decide)) (fun j => k1.1 2 j (Or.inl (by decide)))
    have fr1 : frT A0 A1 := ⟨fun a j x y => (k5.1 a j (by omega)).trans (fr.1 a j x y), fun c => (k5.2 c).trans (fr.2 c)⟩
    have hx1 : ∀ j P, l[j]? = some P → XP A1 (5 + j) P := fun j P h => XP_fr (hx j P h) (fun i => k5.1 _ _ (by omega))
    have a2 : gi A1 3 2 = nI i := (k5.1 3 2 (by decide)).trans e2
    have a3 : gi A1 3 3 = nI 0 := (k5.1 3 3 (by decide)).trans e3
    rw [a5]
    by_cases z : tK b n p = 0
    · rw [if_pos z] at q1
      exact bt (by rw [z]) (q1 A1 l rfl fr1 (by rw [hl]; exact a2) a3 hx1)
    · rw [if_neg z] at q1 q0
      refine bf (fun y => z (inj31 y (by omega) (by decide))) ?_
      obtain ⟨np, n0⟩ := nmX_i (w := 0) (by decide) tx1 hp a5 a6 a7
      rw [n0]
      refine ⟨np, ?_⟩
      by_cases z0 : isNm b n p 0
      · rw [if_pos z0] at q1 q0
        refine bf (fun y => y z0) ?_
        rw [a2, lt_nn (by omega) (by decide), nI_clamp (n := i) (by omega)]
        refine bc (fun y => ⟨vp_in_nI y (by decide), ?_⟩) (fun y => ?_)
        · rw [if_neg (show ¬ 6 ≤ l.length by omega)] at q1 q0
          have ht : 5 ≤ 5 + i ∧ 5 + i ≤ 10 := by omega
          refine prX ht tx1 el.2 a7 (fun A2 P2 e2 hp2 k2 xp2 a7' => bf ne10 ?_) (fun A2 c f hp2 k2 => bt rfl (q0 A2 c f (by rw [hp2]; rfl) ⟨fun a j x y => (k2.1.1 a j (by omega) (by omega)).trans (fr1.1 a j x y), fun c => (k2.1.2 c).trans (fr1.2 c)⟩ k2.2.1 k2.2.2))
          rw [hp2] at q1 q0
          obtain ⟨-, -, l1, l2⟩ := prt_ok el.2 hp2
          rw [k2.1 3 2 (by omega) (by decide), a2, nI_add]
          refine txX k (i + 1) e2 (l ++ [P2]) _ (by omega) (by rw [List.length_append, hl]; rfl) (by omega) l2 (TX_fr (TX_ok tx1 ht k2) (gi_ne (by decide)) (fun j => gi_ne (Or.inl (by decide)))) ?_ (gi_eq ..) ?_ (fun j P hj => ?_) ⟨fun a j x y => ?_, fun c => ?_⟩ q1 q0
          · rw [gi_ne (Or.inr (by decide))]; exact a7'
          · rw [gi_ne (Or.inr (by decide)), k2.1 3 3 (by omega) (by decide)]; exact a3
          · have x3 : ∀ i', gi (si A2 3 2 (nI (i + 1))) (5 + j) i' = gi A2 (5 + j) i' := fun i' => gi_ne (Or.inl (by omega))
            refine XP_fr ?_ x3
            rcases Nat.lt_trichotomy j l.length with w | w | w
            · rw [List.getElem?_append_left w] at hj
              exact XP_fr (hx1 j P hj) (fun i' => k2.1 _ _ (by omega) (Or.inl (by omega)))
            · subst w
              rw [List.getElem?_append_right (Nat.le_refl _), Nat.sub_self] at hj
              obtain rfl := Option.some.inj hj
              rw [hl]
              exact xp2
            · rw [List.getElem?_eq_none (by rw [List.length_append]; show l.length + 1 ≤ j; omega)] at hj
              cases hj
          · rw [gi_ne (by omega), k2.1 a j (by omega) (by omega)]
            exact fr1.1 a j x y
          · exact (k2.2 c).trans (fr1.2 c)
        · rw [if_pos (show 6 ≤ l.length by omega)] at q0
          exact ref3 k5 a6 (fun A' h => q0 A' 5 _ rfl (bd A A' _ _ fr h) h.2.1 h.2.2)
      · rw [if_neg z0] at q0
        exact bt z0 (ref3 k5 a6 (fun A' h => q0 A' 2 _ rfl (bd A A' _ _ fr h) h.2.1 h.2.2))
theorem bcmX {t x1 : Nat} {M : wM} {Q : wM → Prop} (h1 : ptX t) (h2 : ptX x1) (ne : x1 ≠ t) (q : ∀ M' : wM, (∀ a j, a ≠ t → gi M' a j = gi M a j) → (∀ c, gp M' c = gp M c) → (∀ j, j < 6 → gi M' t j = gi M x1 j) → Q M') : w_X4_become t x1 M Q := by
  have hx : ∀ (N : wM) (j : Nat) (y : Int32) (k : Nat), gi (si N t j y) x1 k = gi N x1 k := fun N j y k => gi_ne (Or.inl ne)
  unfold w_X4_become
  simp only [hx]
  refine ⟨h1, h2, q _ (fun a j h => ?_) (fun _ => rfl) (fun j hj => ?_)⟩
  · rw [gi_ne (Or.inl h), gi_ne (Or.inl h), gi_ne (Or.inl h), gi_ne (Or.inl h), gi_ne (Or.inl h), gi_ne (Or.inl h)]
  · rcases (show j = 0 ∨ j = 1 ∨ j = 2 ∨ j = 3 ∨ j = 4 ∨ j = 5 by omega) with rfl | rfl | rfl | rfl | rfl | rfl
    · rw [gi_ne (Or.inr (by decide)), gi_ne (Or.inr (by decide)), gi_ne (Or.inr (by decide)), gi_ne (Or.inr (by decide)), gi_ne (Or.inr (by decide)), gi_eq]
    · rw [gi_ne (Or.inr (by decide)), gi_ne (Or.inr (by decide)), gi_ne (Or.inr (by decide)), gi_ne (Or.inr (by decide)), gi_eq]
    · rw [gi_ne (Or.inr (by decide)), gi_ne (Or.inr (by decide)), gi_ne (Or.inr (by decide)), gi_eq]
    · rw [gi_ne (Or.inr (by decide)), gi_ne (Or.inr (by decide)), gi_eq]
    · rw [gi_ne (Or.inr (by decide)), gi_eq]
    · rw [gi_eq]
/-- what parts() changes in the class -/
def frP (A A' : wM) : Prop := (∀ a j, a ≠ 3 ∨ 8 < j → a < 5 ∨ 10 < a → a < 65 ∨ 70 < a → (a ≠ 1 ∨ j ≠ 1) → (a ≠ 0 ∨ j ≠ 3) → gi A' a j = gi A a j) ∧ ∀ c, gp A' c = gp A c
def frQ (A A' : wM) : Prop := (∀ a j, a ≠ 3 ∨ 8 < j → a < 5 ∨ 10 < a → (a ≠ 1 ∨ j ≠ 1) → gi A' a j = gi A a j) ∧ ∀ c, gp A' c = gp A c
theorem ptsX {A : wM} {Q : Int32 → wM → Prop} (tx : TX A b n) (e0 : gi A 26 3 = nI 0)
    (q1 : ∀ (A' : wM) (l : List PT), txt b n 240 [] 0 = .inr l → frP A A' → gi A' 1 1 = nI 0 → gi A' 0 3 = nI l.length → gi A' 3 3 = nI 0 → (∀ (j : Nat) (P : PT), l[j]? = some P → XP A' (65 + j) P) → Q (nI l.length) A')
    (q0 : ∀ (A' : wM) (c f : Nat), txt b n 240 [] 0 = .inl (c, f) → frQ A A' → gi A' 1 1 = nI 0 → gi A' 3 3 = nI c → Q (-10 - nI f) A') : w_X11_parts A Q := by
  unfold w_X11_parts w_X7_readText
  rw [e0]
  refine bt (nI_le (by decide) (by decide)) ⟨240, ?_⟩
  have k0 : ∀ a j, a ≠ 3 ∨ 8 < j → gi (si (si (si (si A 3 2 (nI 0)) 3 7 (nI 0)) 3 3 (nI 0)) 3 4 (nI 0)) a j = gi A a j := fun a j h => by rw [gi_ne (by omega), gi_ne (by omega), gi_ne (by omega), gi_ne (by omega)]
  refine txX (A0 := A) 240 0 0 [] _ rfl rfl (by decide) (Nat.zero_le _) (TX_fr tx (k0 1 1 (by decide)) (fun j => k0 2 j (Or.inl (by decide)))) ?_ ?_ ?_ (fun j P h => by cases h) ⟨fun a j x _ => k0 a j x, fun _ => rfl⟩ (fun A1 l ht fr a2 a3 hx => bf ne10 ?_) (fun A1 c f ht fr a3 a4 => bt rfl ?_)
  · rw [gi_ne (by decide), gi_ne (by decide), gi_eq]
  · rw [gi_ne (by decide), gi_ne (by decide), gi_ne (by decide), gi_eq]
  · rw [gi_ne (by decide), gi_eq]
  · have ll := (txt_ok 240 [] l 0 (Nat.zero_le _) (by decide) (fun j P h => by cases h) ht).1
    rw [a2]
    refine lo1 (fun K y2 M => wb_X11_parts_57 K y2 M Q) (fun _ _ _ => rfl) l.length (fun i M => frP A M ∧ gi M 1 1 = nI 0 ∧ gi M 0 3 = nI l.length ∧ gi M 3 3 = nI 0 ∧ (∀ (j : Nat) (P : PT), l[j]? = some P → XP M (5 + j) P) ∧ ∀ (j : Nat) (P : PT), j < i → l[j]? = some P → XP M (65 + j) P) ?_ ?_ (Nat.zero_le _) ⟨⟨fun a j c1 c2 c3 c4 c5 => ?_, fun c => fr.2 c⟩, ?_, gi_eq .., ?_, fun j P h => ?_, fun j P h => by omega⟩
    · rintro i M K hi ⟨m1, m2, m3, m4, m5, m6⟩ kk
      unfold wb_X11_parts_57
      rw [m3, nI_clamp (n := i) (by omega), nI_add]
      have v : vp_in (nI i) 6 := vp_in_nI (by omega) (by decide)
      refine bf (nI_ge hi (by omega)) ⟨v, v, bcmX (pt_part i (by omega)) (pt_rd i (by omega)) (by omega) (fun M' n1 n2 n3 => kk _ ⟨⟨fun a j c1 c2 c3 c4 c5 => ?_, fun c => ?_⟩, ?_, ?_, ?_, fun j P h => ?_, fun j P h1 h2 => ?_⟩)⟩
      · rw [n1 a j (by omega)]; exact m1.1 a j c1 c2 c3 c4 c5
      · exact (n2 c).trans (m1.2 c)
      · rw [n1 1 1 (by omega)]; exact m2
      · rw [n1 0 3 (by omega)]; exact m3
      · rw [n1 3 3 (by omega)]; exact m4
      · have jl : j < l.length := (List.getElem?_eq_some_iff.mp h).1
        exact XP_fr (m5 j P h) (fun i' => n1 _ _ (by omega))
      · by_cases w : j = i
        · subst w
          obtain ⟨x0, x1, x5, x2, x3, x4⟩ := m5 j P h2
          exact ⟨(n3 0 (by decide)).trans x0, (n3 1 (by decide)).trans x1, (n3 5 (by decide)).trans x5, (n3 2 (by decide)).trans x2, (n3 3 (by decide)).trans x3, (n3 4 (by decide)).trans x4⟩
        · exact XP_fr (m6 j P (by omega) h2) (fun i' => n1 _ _ (by omega))
    · rintro M K ⟨m1, m2, m3, m4, m5, m6⟩
      unfold wb_X11_parts_57
      rw [m3]
      exact bt (nI_le (by omega) (by omega)) (q1 M l ht m1 m2 m3 m4 (fun j P h => m6 j P (List.getElem?_eq_some_iff.mp h).1 h))
    · rw [gi_ne c5, gi_ne c4]; exact fr.1 a j c1 c2
    · rw [gi_ne (by decide), gi_eq]
    · rw [gi_ne (by decide), gi_ne (by decide)]; exact a3
    · refine XP_fr (hx j P h) (fun i' => ?_)
      rw [gi_ne (Or.inl (by omega)), gi_ne (Or.inl (by omega))]
  · rw [a4]
    refine q0 _ c f ht ⟨fun a j c1 c2 c3 => ?_, fun c => fr.2 c⟩ (gi_eq ..) ?_
    · rw [gi_ne c3]; exact fr.1 a j c1 c2
    · rw [gi_ne (by decide)]; exact a3
end TXT
