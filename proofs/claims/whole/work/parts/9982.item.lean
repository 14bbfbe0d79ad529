/-! the reader: an item of a part, in the class -/
abbrev PT : Type := Nat × Nat × Nat × Int32 × Int32 × Int32
/-- an item is read: L, cells, outs, identity, sample, extest -/
def itm (b : Nat → Nat) (n : Nat) (P : PT) (p : Nat) : (Nat × Nat) ⊕ (PT × Nat) :=
  if isNm b n p 1 then (if P.2.2.2.1 = -4 then (nmb b n (tE b n p) 0 999999999).elim (fun x => .inl x) (fun x => if x.1 % 2 = 1 then .inr ((P.1, P.2.1, P.2.2.1, nI x.1, P.2.2.2.2.1, P.2.2.2.2.2), x.2) else .inl (3, tF b n (tE b n p))) else .inl (4, tF b n p))
  else if isNm b n p 2 then (if P.2.2.2.2.1 = -4 then (nmb b n (tE b n p) 0 (2 ^ P.1 - 2)).elim (fun x => .inl x) (fun x => if nI x.1 = P.2.2.2.2.2 then .inl (4, tF b n (tE b n p)) else .inr ((P.1, P.2.1, P.2.2.1, P.2.2.2.1, nI x.1, P.2.2.2.2.2), x.2)) else .inl (4, tF b n p))
  else if isNm b n p 3 then (if P.2.2.2.2.2 = -4 then (nmb b n (tE b n p) 0 (2 ^ P.1 - 2)).elim (fun x => .inl x) (fun x => if nI x.1 = P.2.2.2.2.1 then .inl (4, tF b n (tE b n p)) else .inr ((P.1, P.2.1, P.2.2.1, P.2.2.2.1, P.2.2.2.2.1, nI x.1), x.2)) else .inl (4, tF b n p))
  else if isNm b n p 4 then (if P.2.1 = 0 then (clsR b n (tE b n p)).elim (fun x => .inl x) (fun x => .inr ((P.1, x.1, x.2.1, P.2.2.2.1, P.2.2.2.2.1, P.2.2.2.2.2), x.2.2)) else .inl (4, tF b n p))
  else .inl (2, tF b n p)
/-- what holds of a part while it is read -/
def PG (P : PT) : Prop := (2 ≤ P.1 ∧ P.1 ≤ 8) ∧ P.2.1 ≤ 10 ∧ P.2.2.1 < 2 ^ P.2.1 ∧ (P.2.2.2.2.1 = -4 ∨ ∃ k : Nat, k + 2 ≤ 2 ^ P.1 ∧ P.2.2.2.2.1 = nI k) ∧ (P.2.2.2.2.2 = -4 ∨ ∃ k : Nat, k + 2 ≤ 2 ^ P.1 ∧ P.2.2.2.2.2 = nI k) ∧ (P.2.2.2.2.1 = -4 ∨ P.2.2.2.2.1 ≠ P.2.2.2.2.2)
def XP (A : wM) (t : Nat) (P : PT) : Prop := gi A t 0 = nI P.1 ∧ gi A t 1 = nI P.2.1 ∧ gi A t 5 = nI P.2.2.1 ∧ gi A t 2 = P.2.2.2.1 ∧ gi A t 3 = P.2.2.2.2.1 ∧ gi A t 4 = P.2.2.2.2.2
theorem XP_fr {A A' : wM} {t : Nat} {P : PT} (h : XP A t P) (k : ∀ j, gi A' t j = gi A t j) : XP A' t P := by
  unfold XP
  rw [k, k, k, k, k, k]
  exact h
theorem nmb_r {b : Nat → Nat} {n p lo hi v e : Nat} (h : nmb b n p lo hi = .inr (v, e)) : tK b n p = 2 ∧ tG b n p ∧ v = tV b n p ∧ e = tE b n p ∧ lo ≤ v ∧ v ≤ hi := by
  unfold nmb at h
  split at h
  · cases h
  · rename_i z
    split at h
    · rename_i k
      split at h
      · cases h
      · rename_i w
        injection h with h
        injection h with h1 h2
        exact ⟨k, tG_i.mpr z, h1.symm, h2.symm, by omega, by omega⟩
    · cases h
theorem cls_r {b : Nat → Nat} {n p k o e : Nat} (hp : p ≤ n) (h : clsR b n p = .inr (k, o, e)) : 0 < k ∧ k ≤ 10 ∧ o < 2 ^ k ∧ e = tE b n p := by
  unfold clsR at h
  split at h
  · cases h
  · split at h
    · rename_i kk
      split at h
      · rename_i w
        injection h with h
        injection h with h1 h2
        injection h2 with h2 h3
        have := tK_1 hp kk
        subst h1 h2
        exact ⟨by omega, w.1, bld_lt _ _, h3.symm⟩
      · cases h
    · cases h
theorem itm_ok {b : Nat → Nat} {n p e : Nat} {P P' : PT} (hp : p ≤ n) (g : PG P) (h : itm b n P p = .inr (P', e)) : PG P' ∧ P'.1 = P.1 ∧ tK b n p = 1 ∧ tE b n p ≤ e ∧ e ≤ n := by
  have el := tE_le (b := b) hp
  have el2 := tE_le (b := b) el.2
  have fl2 := tF_le (b := b) el.2
  obtain ⟨g1, g2, g3, g4, g5, g6⟩ := g
  have pw : 2 ^ P.1 ≤ 256 := Nat.pow_le_pow_right (n := 2) (j := 8) (by decide) g1.2
  have pw2 : 4 ≤ 2 ^ P.1 := Nat.pow_le_pow_right (n := 2) (i := 2) (by decide) g1.1
  unfold itm at h
  split at h
  · rename_i z
    split at h
    · cases hx : nmb b n (tE b n p) 0 999999999 with
      | inl x => rw [hx] at h; cases h
      | inr x =>
        obtain ⟨v, e'⟩ := x
        rw [hx] at h
        change (if v % 2 = 1 then _ else _) = _ at h
        split at h
        · injection h with h
          injection h with h1 h2
          obtain ⟨-, -, -, r4, -, -⟩ := nmb_r hx
          subst h1
          exact ⟨⟨g1, g2, g3, g4, g5, g6⟩, rfl, z.1, by rw [← h2, r4]; omega, by rw [← h2, r4]; omega⟩
        · cases h
    · cases h
  · split at h
    · rename_i z
      split at h
      · cases hx : nmb b n (tE b n p) 0 (2 ^ P.1 - 2) with
        | inl x => rw [hx] at h; cases h
        | inr x =>
          obtain ⟨v, e'⟩ := x
          rw [hx] at h
          change (if nI v = P.2.2.2.2.2 then _ else _) = _ at h
          split at h
          · cases h
          · rename_i w
            injection h with h
            injection h with h1 h2
            obtain ⟨-, -, -, r4, -, r6⟩ := nmb_r hx
            subst h1
            exact ⟨⟨g1, g2, g3, Or.inr ⟨v, by show v + 2 ≤ 2 ^ P.1; omega, rfl⟩, g5, Or.inr w⟩, rfl, z.1, by rw [← h2, r4]; omega, by rw [← h2, r4]; omega⟩
      · cases h
    · split at h
      · rename_i z
        split at h
        · cases hx : nmb b n (tE b n p) 0 (2 ^ P.1 - 2) with
          | inl x => rw [hx] at h; cases h
          | inr x =>
            obtain ⟨v, e'⟩ := x
            rw [hx] at h
            change (if nI v = P.2.2.2.2.1 then _ else _) = _ at h
            split at h
            · cases h
            · rename_i w
              injection h with h
              injection h with h1 h2
              obtain ⟨-, -, -, r4, -, r6⟩ := nmb_r hx
              subst h1
              exact ⟨⟨g1, g2, g3, g4, Or.inr ⟨v, by show v + 2 ≤ 2 ^ P.1; omega, rfl⟩, Or.inr (fun u => w u.symm)⟩, rfl, z.1, by rw [← h2, r4]; omega, by rw [← h2, r4]; omega⟩
        · cases h
      · split at h
        · rename_i z
          split at h
          · cases hx : clsR b n (tE b n p) with
            | inl x => rw [hx] at h; cases h
            | inr x =>
              obtain ⟨k, o, e'⟩ := x
              rw [hx] at h
              injection h with h
              injection h with h1 h2
              obtain ⟨r1, r2, r3, r4⟩ := cls_r el.2 hx
              subst h1
              change e' = e at h2
              exact ⟨⟨g1, r2, r3, g4, g5, g6⟩, rfl, z.1, by omega, by omega⟩
          · cases h
        · cases h
theorem TX_ok {t : Nat} {A A' : wM} {b : Nat → Nat} {n : Nat} (h : TX A b n) (ht : 5 ≤ t ∧ t ≤ 10) (k : okT t A A') : TX A' b n := TX_fr h (k.1 1 1 (by omega) (by decide)) (fun j => k.1 2 j (by omega) (Or.inl (by decide)))
/-- an item in the class -/
theorem itX {b : Nat → Nat} {n p t : Nat} {A : wM} {P : PT} {Q : Int32 → wM → Prop} (tx : TX A b n) (ht : 5 ≤ t ∧ t ≤ 10) (hp : p ≤ n) (g : PG P) (xp : XP A t P) (e5 : gi A 3 5 = nI (tK b n p)) (e6 : gi A 3 6 = nI (tF b n p)) (e7 : gi A 3 7 = nI (tE b n p))
    (q1 : ∀ (A' : wM) (P' : PT) (e' : Nat), itm b n P p = .inr (P', e') → okT t A A' → XP A' t P' → gi A' 3 7 = nI e' → Q (nI 1) A')
    (q0 : ∀ (A' : wM) (c f : Nat), itm b n P p = .inl (c, f) → badT t A A' c f → Q (nI 0) A') : w_X7_readItem t A Q := by
  have n240 := tx.1
  have el := tE_le (b := b) hp
  obtain ⟨g1, g2, g3, g4, g5, g6⟩ := id g
  obtain ⟨x0, x1, x5, x2, x3, x4⟩ := id xp
  have pw : 2 ^ P.1 ≤ 256 := Nat.pow_le_pow_right (n := 2) (j := 8) (by decide) g1.2
  have pw2 : 4 ≤ 2 ^ P.1 := Nat.pow_le_pow_right (n := 2) (i := 2) (by decide) g1.1
  have f5A : f5 A A := ⟨fun _ _ _ => rfl, fun _ => rfl⟩
  have okA : okT t A A := f5_ok f5A
  -- a name told twice
  have twice : ∀ R : Int32 → wM → Prop, (∀ A' : wM, badT t A A' 4 (tF b n p) → R (nI 0) A') → w_X7_isNew (nI 0) A R := by
    intro R r
    unfold w_X7_isNew
    exact bt rfl (ref2 f5A e6 (fun A' h => r A' (ok_bad okA h)))
  have once : ∀ R : Int32 → wM → Prop, R (nI 1) A → w_X7_isNew (nI 1) A R := by
    intro R r
    unfold w_X7_isNew
    exact bf (by decide) r
  have code : ∀ R : Int32 → wM → Prop, R (nI (2 ^ P.1 - 2)) A → w_X7_greatestCode t A R := by
    intro R r
    unfold w_X7_greatestCode
    rw [x0, bshl1 (by omega), pk_sub (by omega)]
    exact ⟨pt_t ht, r⟩
  unfold w_X7_readItem
  obtain ⟨np, n1⟩ := nmX_i (w := 1) (by decide) tx hp e5 e6 e7
  obtain ⟨-, n2⟩ := nmX_i (w := 2) (by decide) tx hp e5 e6 e7
  obtain ⟨-, n3⟩ := nmX_i (w := 3) (by decide) tx hp e5 e6 e7
  obtain ⟨-, n4'⟩ := nmX_i (w := 4) (by decide) tx hp e5 e6 e7
  rw [n1, n2, n3, n4', x1, x2, x3, x4]
  refine ⟨pt_t ht, np, ?_⟩
  unfold itm at q1 q0
  by_cases z1 : isNm b n p 1
  · rw [if_pos z1] at q1 q0
    refine bf (fun y => y z1) (bc (fun z => ?_) (fun z => ?_))
    · rw [if_pos z] at q1 q0
      refine once _ (bf ne10 (tnX tx e7 el.2 (by decide) (by decide) (fun v e' A1 hn k1 vlt m8 m6 m7 => bf ne10 ?_) (fun c f A1 hn k1 => bt rfl (q0 A1 c f (by rw [hn]; rfl) (ok_bad okA k1)))))
      rw [hn] at q1 q0
      unfold w_X7_putIdentity
      rw [gi_ne (Or.inl (by omega)), m8, band1 (by omega)]
      have okI : okT t A (si A1 t 2 (nI v)) := ok_trans (f5_ok k1) ok_si
      refine ⟨pt_t ht, bc (fun y => bf ne10 ?_) (fun y => ?_)⟩
      · have y2 : v % 2 = 1 := inj31 y (by omega) (by decide)
        refine q1 _ _ _ (if_pos y2) okI ⟨?_, ?_, ?_, gi_eq .., ?_, ?_⟩ ?_
        · rw [gi_ne (Or.inr (by decide)), k1.1 t 0 (by omega)]; exact x0
        · rw [gi_ne (Or.inr (by decide)), k1.1 t 1 (by omega)]; exact x1
        · rw [gi_ne (Or.inr (by decide)), k1.1 t 5 (by omega)]; exact x5
        · rw [gi_ne (Or.inr (by decide)), k1.1 t 3 (by omega)]; exact x3
        · rw [gi_ne (Or.inr (by decide)), k1.1 t 4 (by omega)]; exact x4
        · rw [gi_ne (Or.inl (by omega))]; exact m7
      · have y2 : ¬ v % 2 = 1 := fun u => y (by rw [u])
        exact bt rfl (bt rfl (q0 _ 3 _ (if_neg y2) (ok_bad okI ⟨⟨fun a j h => by rw [gi_ne (by omega), gi_ne (by omega)], fun _ => rfl⟩, by rw [gi_ne (by decide), gi_eq], by rw [gi_eq, gi_ne (Or.inl (by omega))]; exact m6⟩)))
    · rw [if_neg z] at q0
      exact twice _ (fun A' h => bt rfl (q0 A' 4 _ rfl h))
  · rw [if_neg z1] at q1 q0
    refine bt z1 ⟨np, ?_⟩
    by_cases z2 : isNm b n p 2
    · rw [if_pos z2] at q1 q0
      refine bf (fun y => y z2) (bc (fun z => ?_) (fun z => ?_))
      · rw [if_pos z] at q1 q0
        refine once _ (bf ne10 (code _ (tnX tx e7 el.2 (by decide) (by omega) (fun v e' A1 hn k1 vlt m8 m6 m7 => bf ne10 ?_) (fun c f A1 hn k1 => bt rfl (q0 A1 c f (by rw [hn]; rfl) (ok_bad okA k1))))))
        rw [hn] at q1 q0
        unfold w_X7_putSample
        rw [gi_ne (Or.inl (by omega)), m8, gi_ne (Or.inr (by decide)), k1.1 t 4 (by omega), x4]
        have okI : okT t A (si A1 t 3 (nI v)) := ok_trans (f5_ok k1) ok_si
        refine ⟨pt_t ht, bc (fun y => ?_) (fun y => bf ne10 ?_)⟩
        · exact bt rfl (bt rfl (q0 _ 4 _ (if_pos y) (ok_bad okI ⟨⟨fun a j h => by rw [gi_ne (by omega), gi_ne (by omega)], fun _ => rfl⟩, by rw [gi_ne (by decide), gi_eq], by rw [gi_eq, gi_ne (Or.inl (by omega))]; exact m6⟩)))
        · refine q1 _ _ _ (if_neg y) okI ⟨?_, ?_, ?_, ?_, gi_eq .., ?_⟩ ?_
          · rw [gi_ne (Or.inr (by decide)), k1.1 t 0 (by omega)]; exact x0
          · rw [gi_ne (Or.inr (by decide)), k1.1 t 1 (by omega)]; exact x1
          · rw [gi_ne (Or.inr (by decide)), k1.1 t 5 (by omega)]; exact x5
          · rw [gi_ne (Or.inr (by decide)), k1.1 t 2 (by omega)]; exact x2
          · rw [gi_ne (Or.inr (by decide)), k1.1 t 4 (by omega)]; exact x4
          · rw [gi_ne (Or.inl (by omega))]; exact m7
      · rw [if_neg z] at q0
        exact twice _ (fun A' h => bt rfl (q0 A' 4 _ rfl h))
    · rw [if_neg z2] at q1 q0
      refine bt z2 ⟨np, ?_⟩
      by_cases z3 : isNm b n p 3
      · rw [if_pos z3] at q1 q0
        refine bf (fun y => y z3) (bc (fun z => ?_) (fun z => ?_))
        · rw [if_pos z] at q1 q0
          refine once _ (bf ne10 (code _ (tnX tx e7 el.2 (by decide) (by omega) (fun v e' A1 hn k1 vlt m8 m6 m7 => bf ne10 ?_) (fun c f A1 hn k1 => bt rfl (q0 A1 c f (by rw [hn]; rfl) (ok_bad okA k1))))))
          rw [hn] at q1 q0
          unfold w_X7_putExtest
          rw [gi_ne (Or.inl (by omega)), m8, gi_ne (Or.inr (by decide)), k1.1 t 3 (by omega), x3]
          have okI : okT t A (si A1 t 4 (nI v)) := ok_trans (f5_ok k1) ok_si
          refine ⟨pt_t ht, bc (fun y => ?_) (fun y => bf ne10 ?_)⟩
          · exact bt rfl (bt rfl (q0 _ 4 _ (if_pos y) (ok_bad okI ⟨⟨fun a j h => by rw [gi_ne (by omega), gi_ne (by omega)], fun _ => rfl⟩, by rw [gi_ne (by decide), gi_eq], by rw [gi_eq, gi_ne (Or.inl (by omega))]; exact m6⟩)))
          · refine q1 _ _ _ (if_neg y) okI ⟨?_, ?_, ?_, ?_, ?_, gi_eq ..⟩ ?_
            · rw [gi_ne (Or.inr (by decide)), k1.1 t 0 (by omega)]; exact x0
            · rw [gi_ne (Or.inr (by decide)), k1.1 t 1 (by omega)]; exact x1
            · rw [gi_ne (Or.inr (by decide)), k1.1 t 5 (by omega)]; exact x5
            · rw [gi_ne (Or.inr (by decide)), k1.1 t 2 (by omega)]; exact x2
            · rw [gi_ne (Or.inr (by decide)), k1.1 t 3 (by omega)]; exact x3
            · rw [gi_ne (Or.inl (by omega))]; exact m7
        · rw [if_neg z] at q0
          exact twice _ (fun A' h => bt rfl (q0 A' 4 _ rfl h))
      · rw [if_neg z3] at q1 q0
        refine bt z3 ⟨np, ?_⟩
        by_cases z4 : isNm b n p 4
        · rw [if_pos z4] at q1 q0
          refine bf (fun y => y z4) (bc (fun z => ?_) (fun z => ?_))
          · have z0 : P.2.1 = 0 := inj31 z (by omega) (by decide)
            rw [if_pos z0] at q1 q0
            have o0 : P.2.2.1 = 0 := by rw [z0] at g3; omega
            unfold clsR at q1 q0
            refine once _ (bf ne10 ?_)
            unfold w_X7_takeName
            have el2 := tE_le (b := b) el.2
            refine takeX tx e7 el.2 (fun gg A1 k1 a5 a6 a7 => bf ne10 ?_) (fun gg A1 k1 => bt rfl (bt rfl (q0 A1 1 _ (by rw [if_pos (Classical.byContradiction fun y => gg (tG_i.mpr y))]; rfl) (ok_bad okA k1))))
            have ng := tG_i.mp gg
            have kl : tK b n (tE b n p) < 4 := by
              unfold tK
              split
              · decide
              · split
                · decide
                · split <;> decide
            rw [if_neg ng] at q1 q0
            have k5 := f3_5 k1
            have tx1 : TX A1 b n := TX_fr tx (k1.1 1 1 (by decide)) (fun j => k1.1 2 j (Or.inl (by decide)))
            rw [a5]
            by_cases y : tK b n (tE b n p) = 1
            · rw [if_pos y] at q1 q0
              refine bt (by rw [y]) (bf ne10 (pcX tx1 ht a6 a7 el2.1 el2.2 (by rw [k5.1 t 5 (by omega), x5, o0]) (fun A2 c k2 c1 c5 => bf ne10 ?_) (fun A2 c k2 => bt rfl ?_)))
              · rw [if_pos c] at q1
                refine q1 A2 _ _ rfl ⟨fun a j h1 h2 => (k2.1 a j (Or.inl h1)).trans (k5.1 a j h2), fun c => (k2.2 c).trans (k5.2 c)⟩ ⟨?_, c1, c5, ?_, ?_, ?_⟩ ?_
                · rw [k2.1 t 0 (by omega), k5.1 t 0 (by omega)]; exact x0
                · rw [k2.1 t 2 (by omega), k5.1 t 2 (by omega)]; exact x2
                · rw [k2.1 t 3 (by omega), k5.1 t 3 (by omega)]; exact x3
                · rw [k2.1 t 4 (by omega), k5.1 t 4 (by omega)]; exact x4
                · rw [k2.1 3 7 (by omega)]; exact a7
              · rw [if_neg c] at q0
                exact q0 A2 3 _ rfl (ok_badT (f5_ok k5) k2)
            · rw [if_neg y] at q0
              exact bf (fun u => y (inj31 u (by omega) (by decide))) (ref2 (Q := fun r15 M16 => (r15 = nI 0 → Q (nI 0) M16) ∧ (¬ r15 = nI 0 → w_X7_putCells t M16 fun r18 M19 => (r18 = nI 0 → Q (nI 0) M19) ∧ (¬ r18 = nI 0 → Q (nI 1) M19))) k5 a6 (fun A' h => bt rfl (q0 A' 2 _ rfl (ok_bad okA h))))
          · have z0 : ¬ P.2.1 = 0 := fun u => z (by rw [u])
            rw [if_neg z0] at q0
            exact twice _ (fun A' h => bt rfl (q0 A' 4 _ rfl h))
        · rw [if_neg z4] at q0
          exact bt z4 (ref3 f5A e6 (fun A' h => q0 A' 2 _ rfl (ok_bad okA h)))
