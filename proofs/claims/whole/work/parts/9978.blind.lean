/-! the faults that a test does not see, or does not part: the reference; blind -/
theorem bld_all {nn R : Nat} {V W : Nat → Nat} (hv : ∀ t, t < R → V t < 2 ^ nn) (hw : ∀ t, t < R → W t < 2 ^ nn) : (∀ n, n < nn → bld (fun t => (V t).testBit n) R = bld (fun t => (W t).testBit n) R) ↔ ∀ t, t < R → V t = W t := by
  constructor
  · intro h t ht
    apply Nat.eq_of_testBit_eq
    intro j
    by_cases z : j < nn
    · exact bld_inj (h j z) t ht
    · have f : ∀ v, v < 2 ^ nn → v.testBit j = false := fun v hv => Nat.testBit_lt_two_pow (Nat.lt_of_lt_of_le hv (Nat.pow_le_pow_right (by decide) (by omega)))
      rw [f _ (hv t ht), f _ (hw t ht)]
  · intro h n hn
    exact bld_congr _ (fun t ht => by rw [h t ht])
noncomputable def aF (s nn f n : Nat) : Nat := bld (fun t => (vF s nn f t).testBit n) (rc s nn)
def aEm (s nn n : Nat) : Nat := bld (fun t => (rowV s nn t).testBit n) (rc s nn)
section BL
variable {s nn : Nat}
theorem aF_E {f : Nat} (hs : s < 3) (h8 : nn ≤ 8) (hf : f < nn * (nn + 1)) : (∀ n, n < nn → aF s nn f n = aEm s nn n) ↔ sF s nn f = sE s nn := (bld_all (fun t ht => vF_lt hs h8 hf ht) (fun t ht => rowV_lt hs ht)).trans (sgn_inj _ (fun t ht => vF_256 hs h8 hf ht) (fun t ht => rw_256 hs h8 ht)).symm
theorem aF_F {f g : Nat} (hs : s < 3) (h8 : nn ≤ 8) (hf : f < nn * (nn + 1)) (hg : g < nn * (nn + 1)) : (∀ n, n < nn → aF s nn f n = aF s nn g n) ↔ sF s nn f = sF s nn g := (bld_all (fun t ht => vF_lt hs h8 hf ht) (fun t ht => vF_lt hs h8 hg ht)).trans (sgn_inj _ (fun t ht => vF_256 hs h8 hf ht) (fun t ht => vF_256 hs h8 hg ht)).symm
theorem aF_lt {f n : Nat} (hs : s < 3) (h8 : nn ≤ 8) : aF s nn f n < 256 := Nat.lt_of_lt_of_le (bld_lt _ _) (Nat.pow_le_pow_right (n := 2) (j := 8) (by decide) (rc_le hs h8))
theorem aE_lt {n : Nat} (hs : s < 3) (h8 : nn ≤ 8) : aEm s nn n < 256 := Nat.lt_of_lt_of_le (bld_lt _ _) (Nat.pow_le_pow_right (n := 2) (j := 8) (by decide) (rc_le hs h8))
theorem cnt_0 {u : Nat → Nat → Bool} {a lo : Nat} (h : ∀ b, u a b = false) : ∀ k, cnt u a lo k = 0
  | 0 => rfl
  | k + 1 => by
    show cnt u a lo k + (u a (lo + k)).toNat = 0
    rw [cnt_0 h k, h]
    rfl
def kB (M M' : wM) : Prop := ∀ a j, a < 29 ∨ 32 < a → a ≠ 37 → a ≠ 38 → gi M' a j = gi M a j
theorem blindM {M : wM} {x2 : Int32} {Q : Int32 → wM → Prop} (hs : s < 3) (h8 : nn ≤ 8) (e : gi M 0 41 = nI nn) (q : ∀ M' : wM, kB M M' → (x2 = nI 0 → Q (nI (cu (unB s nn) (nn * (nn + 1)))) M') ∧ (¬ x2 = nI 0 → (x2 = nI 1 → Q (nI (cnt3 (alB s nn) (nn * (nn + 1)))) M') ∧ (¬ x2 = nI 1 → Q (fuU (unB s nn) (nn * (nn + 1))) M'))) : w_X12_guesses (-4) (-4) M (fun M9 => ∃ n, wL_X12_blind_46 (nI s) x2 Q n (nI 0) M9) := by
  have o := (off_ok nn (by omega)).2.2
  have b8 := p8 h8
  have g0 : GD nn (-4) 0 0 := Or.inl ⟨rfl, rfl, rfl⟩
  refine guessM h8 e g0 g0 (fun M1 f1 gg => ?_)
  have e1 : gi M1 0 41 = nI nn := (f1 0 41 (by decide) (by decide) (by decide) (by decide)).trans e
  refine lo1 (fun K y M => wb_X12_blind_46 (nI s) x2 K y M Q) (fun _ _ _ => rfl) nn (fun i N => (∀ a j, a ≠ 37 → gi N a j = gi M1 a j) ∧ ∀ n, n < i → gi N 37 n = nI (aEm s nn n)) ?_ ?_ (Nat.zero_le _) ⟨fun _ _ _ => rfl, fun n hn => by omega⟩
  · rintro i N K hi ⟨n0, n1⟩ kk
    obtain ⟨mk, r, hp, c1, c2⟩ := gg i hi
    have hm := hp.1
    unfold wb_X12_blind_46
    rw [n0 0 41 (by decide), e1, nI_add]
    refine bf (nI_ge hi (by omega)) (ansM hs h8 hi ((n0 0 41 (by decide)).trans e1) ((n0 29 i (by decide)).trans c1) ((n0 30 i (by decide)).trans c2) (by omega) hp.2.2.1 ⟨vp_in_nI (by omega) (by decide), kk _ ⟨fun a j h => ?_, fun n hn => ?_⟩⟩)
    · rw [gi_ne (Or.inl h)]; exact n0 a j h
    · rw [nI_clamp (n := i) (by omega)]
      by_cases z : n = i
      · subst z
        have ea : bld (fun t => upB mk r (rowV s nn t)) (rc s nn) = aEm s nn n := bld_congr _ (fun t ht => by
          have hrow := rw_256 hs h8 ht
          rw [gv h8 (GD_fv h8 g0) (GD_fv h8 g0) (GD_ne h8 g0 g0 (Or.inr rfl)) hi hrow hp, lvG_0 hrow (by decide), stl_0 hrow])
        rw [gi_eq, ea]
      · rw [gi_ne (Or.inr z)]; exact n1 n (by omega)
  rintro N K ⟨n0, n1⟩
  have eN : gi N 0 41 = nI nn := (n0 0 41 (by decide)).trans e1
  have kN : kB M N := fun a j h1 h2 h3 => by
    rw [n0 a j h2]
    exact f1 a j (by omega) (by omega) (by omega) (by omega)
  unfold wb_X12_blind_46
  rw [eN]
  refine bt (nI_le (by omega) (by omega)) ?_
  -- the faults, one by one
  have kT : ∀ {A B : wM}, kB M A → (∀ a j, a < 29 ∨ 32 < a → a ≠ 38 → gi B a j = gi A a j) → kB M B := fun h k a j p1 p2 p3 => (k a j p1 p3).trans (h a j p1 p2 p3)
  refine loA (α := Int32 × Int32 × Int32) (L := fun k p y M => wL_X12_blind_84 (nI s) x2 Q k p.1 p.2.1 p.2.2 y M) (fun K p y M => wb_X12_blind_84 (nI s) x2 (fun a b c => K (a, b, c)) p.1 p.2.1 p.2.2 y M Q) (fun _ _ _ _ => rfl) (a := (nI 0, -4, nI 0)) (nn * (nn + 1)) (fun f p A => (kB M A ∧ (∀ n, n < nn → gi A 37 n = nI (aEm s nn n)) ∧ ∀ g, g < f → ∀ n, n < nn → gi A 38 (8 * g + n) = nI (aF s nn g n)) ∧ p = (nI (cu (unB s nn) f), fuU (unB s nn) f, nI (cnt3 (alB s nn) f))) ?_ ?_ (Nat.zero_le _) ⟨⟨kN, n1, fun g hg => by omega⟩, rfl⟩
  · rintro f p A K hf ⟨⟨kA, a37, a38⟩, rfl⟩ kk
    have eA : gi A 0 41 = nI nn := (kA 0 41 (by decide) (by decide) (by decide)).trans e
    have gd := gq_f h8 hf
    have vf := GD_fv h8 gd
    have vl := vf.1
    unfold wb_X12_blind_84 w_X12_faults
    rw [eA, fltN nn (by omega)]
    refine bf (nI_ge hf (by omega)) (guessM h8 eA gd g0 (fun A1 f1 gg => ?_))
    have eA1 : gi A1 0 41 = nI nn := (f1 0 41 (by decide) (by decide) (by decide) (by decide)).trans eA
    have kA1 : kB M A1 := fun a j h1 h2 h3 => by
      rw [f1 a j (by omega) (by omega) (by omega) (by omega)]
      exact kA a j h1 h2 h3
    refine lo2 (fun K' y7 y8 M => wb_X12_blind_107 (nI s) x2 _ _ _ (nI f) (fun a b c => K (a, b, c)) K' y7 y8 M Q) (fun _ _ _ _ => rfl) nn (fun i y B => (∀ a j, a ≠ 38 ∨ j < 8 * f → gi B a j = gi A1 a j) ∧ (∀ n, n < i → gi B 38 (8 * f + n) = nI (aF s nn f n)) ∧ y = bI (!allB (fun n => decide (aF s nn f n = aEm s nn n)) i)) ?_ ?_ (Nat.zero_le _) ⟨fun _ _ _ => rfl, fun n hn => by omega, rfl⟩
    · rintro i y B K' hi ⟨b0, b1, rfl⟩ kk'
      obtain ⟨mk, r, hp, c1, c2⟩ := gg i hi
      have hm := hp.1
      have l1 := aF_lt (f := f) (n := i) hs h8
      have l2 := aE_lt (n := i) hs h8
      have v1 : vp_in (nI (8 * f + i)) 576 := vp_in_nI (by omega) (by decide)
      unfold wb_X12_blind_107
      rw [b0 0 41 (Or.inl (by decide)), eA1]
      refine bf (nI_ge hi (by omega)) (ansM hs h8 hi ((b0 0 41 (Or.inl (by decide))).trans eA1) ((b0 29 i (Or.inl (by decide))).trans c1) ((b0 30 i (Or.inl (by decide))).trans c2) (by omega) hp.2.2.1 ?_)
      have ea : bld (fun t => upB mk r (rowV s nn t)) (rc s nn) = aF s nn f i := bld_congr _ (fun t ht => by
        have hrow := rw_256 hs h8 ht
        rw [gv h8 vf (GD_fv h8 g0) (GD_ne h8 gd g0 (Or.inl (n4_ne (by omega)))) hi hrow hp, lvG_0 hrow (by omega)]
        rfl)
      rw [ea, nI_mul, nI_add, nI_add, nI_clamp (n := 8 * f + i) (by omega), nI_clamp (n := i) (by omega), gi_eq]
      have e37 : gi B 37 i = nI (aEm s nn i) := by
        rw [b0 37 i (Or.inl (by decide)), f1 37 i (by decide) (by decide) (by decide) (by decide)]
        exact a37 i hi
      rw [e37]
      have st : ∀ b : Bool, (!allB (fun n => decide (aF s nn f n = aEm s nn n)) (i + 1)) = b → K' (bI b) (nI (i + 1)) (si B 38 (8 * f + i) (nI (aF s nn f i))) := by
        intro b hb
        refine kk' _ _ ⟨fun a j h => ?_, fun n hn => ?_, by rw [hb]⟩
        · rw [gi_ne (by omega)]; exact b0 a j h
        · by_cases z : n = i
          · rw [z, gi_eq]
          · rw [gi_ne (Or.inr (by omega))]; exact b1 n (by omega)
      rw [allB_s] at st
      cases z : allB (fun n => decide (aF s nn f n = aEm s nn n)) i
      · rw [z] at st
        exact ⟨v1, bf (by decide) (st true rfl)⟩
      · rw [z] at st
        refine ⟨v1, bt rfl ⟨v1, vp_in_nI (by omega) (by decide), bc (fun w => st false ?_) (fun w => st true ?_)⟩⟩
        · rw [decide_eq_true (inj31 w (by omega) (by omega))]; rfl
        · rw [decide_eq_false (fun u => w (by rw [u]))]; rfl
    · rintro y B K' ⟨b0, b1, rfl⟩
      have eB : gi B 0 41 = nI nn := (b0 0 41 (Or.inl (by decide))).trans eA1
      have kBB : kB M B := kT kA1 (fun a j _ h => b0 a j (Or.inl h))
      have b37 : ∀ n, n < nn → gi B 37 n = nI (aEm s nn n) := fun n hn => by
        rw [b0 37 n (Or.inl (by decide)), f1 37 n (by decide) (by decide) (by decide) (by decide)]
        exact a37 n hn
      have b38 : ∀ g, g < f + 1 → ∀ n, n < nn → gi B 38 (8 * g + n) = nI (aF s nn g n) := fun g hg n hn => by
        by_cases z : g = f
        · rw [z]; exact b1 n hn
        · rw [b0 38 _ (Or.inr (by omega)), f1 38 _ (by decide) (by decide) (by decide) (by decide)]
          exact a38 g (by omega) n hn
      have un : allB (fun n => decide (aF s nn f n = aEm s nn n)) nn = unB s nn f := by
        unfold unB
        by_cases z : sF s nn f = sE s nn
        · rw [decide_eq_true z]
          exact (allB_iff _ nn).mpr (fun n hn => decide_eq_true ((aF_E hs h8 hf).mpr z n hn))
        · rw [decide_eq_false z]
          cases w : allB (fun n => decide (aF s nn f n = aEm s nn n)) nn
          · rfl
          · exact absurd ((aF_E hs h8 hf).mp (fun n hn => of_decide_eq_true ((allB_iff _ nn).mp w n hn))) z
      rw [un]
      unfold wb_X12_blind_107
      rw [eB]
      refine bt (nI_le (by omega) (by omega)) ?_
      have fin : ∀ (v3 v4 v5 : Int32), v3 = nI (cu (unB s nn) (f + 1)) → v4 = fuU (unB s nn) (f + 1) → v5 = nI (cnt3 (alB s nn) (f + 1)) → K (v3, v4, v5) (nI (f + 1)) B := fun v3 v4 v5 h3 h4 h5 => kk _ _ ⟨⟨kBB, b37, b38⟩, by rw [h3, h4, h5]⟩
      have hfu : fuU (unB s nn) (f + 1) = if unB s nn f = true ∧ fuU (unB s nn) f = -4 then nI f else fuU (unB s nn) f := rfl
      have hcu : cu (unB s nn) (f + 1) = cu (unB s nn) f + (unB s nn f).toNat := rfl
      have hc3 : cnt3 (alB s nn) (f + 1) = cnt3 (alB s nn) f + cnt (alB s nn) f 0 f := rfl
      cases u : unB s nn f
      · -- seen
        rw [u] at hcu
        rw [u, if_neg (fun z => absurd z.1 (by decide))] at hfu
        refine bf (by decide) ?_
        unfold wj_X12_blind_188
        refine bf (by decide) ?_
        unfold wj_X12_blind_209
        rw [nI_add]
        refine lo2 (fun K' y5 y8 M => wb_X12_blind_214 (nI s) x2 _ _ (nI f) _ (fun a b c => K (a, b, c)) K' y5 y8 M Q) (fun _ _ _ _ => rfl) f (fun g y C => C = B ∧ y = nI (cnt3 (alB s nn) f + cnt (alB s nn) f 0 g)) ?_ ?_ (Nat.zero_le _) ⟨rfl, rfl⟩
        · rintro g y C K2 hg ⟨rfl, rfl⟩ kk2
          unfold wb_X12_blind_214
          refine bf (nI_ge hg (by omega)) (bf (by decide) ?_)
          refine lo2 (fun K' y9 y10 M => wb_X12_blind_232 (nI s) x2 _ _ _ (nI f) _ (nI g) (fun a b c => K (a, b, c)) K2 K' y9 y10 M Q) (fun _ _ _ _ => rfl) nn (fun i y D => D = C ∧ y = bI (allB (fun n => decide (aF s nn f n = aF s nn g n)) i)) ?_ ?_ (Nat.zero_le _) ⟨rfl, rfl⟩
          · rintro i y D K3 hi ⟨rfl, rfl⟩ kk3
            have l1 := aF_lt (f := f) (n := i) hs h8
            have l2 := aF_lt (f := g) (n := i) hs h8
            unfold wb_X12_blind_232
            rw [eB, nI_mul, nI_mul]
            simp only [nI_add]
            rw [nI_clamp (n := 8 * f + i) (by omega), nI_clamp (n := 8 * g + i) (by omega), b38 f (by omega) i hi, b38 g (by omega) i hi]
            refine bf (nI_ge hi (by omega)) ?_
            have st : ∀ b : Bool, (allB (fun n => decide (aF s nn f n = aF s nn g n)) (i + 1)) = b → K3 (bI b) (nI (i + 1)) D := fun b hb => kk3 _ _ ⟨rfl, by rw [hb]⟩
            rw [allB_s] at st
            cases z : allB (fun n => decide (aF s nn f n = aF s nn g n)) i
            · rw [z] at st
              exact bt rfl (st false rfl)
            · rw [z] at st
              refine bf (by decide) ⟨vp_in_nI (by omega) (by decide), vp_in_nI (by omega) (by decide), bc (fun w => st true ?_) (fun w => st false ?_)⟩
              · rw [decide_eq_true (inj31 w (by omega) (by omega))]; rfl
              · rw [decide_eq_false (fun u => w (by rw [u]))]; rfl
          · rintro y D K3 ⟨rfl, rfl⟩
            have ab : allB (fun n => decide (aF s nn f n = aF s nn g n)) nn = alB s nn f g := by
              unfold alB
              rw [u, Bool.not_false, Bool.true_and]
              by_cases z : sF s nn f = sF s nn g
              · rw [decide_eq_true z]
                exact (allB_iff _ nn).mpr (fun n hn => decide_eq_true ((aF_F hs h8 hf (by omega)).mpr z n hn))
              · rw [decide_eq_false z]
                cases w : allB (fun n => decide (aF s nn f n = aF s nn g n)) nn
                · rfl
                · exact absurd ((aF_F hs h8 hf (by omega)).mp (fun n hn => of_decide_eq_true ((allB_iff _ nn).mp w n hn))) z
            have cs : cnt (alB s nn) f 0 (g + 1) = cnt (alB s nn) f 0 g + (alB s nn f g).toNat := by
              show cnt (alB s nn) f 0 g + (alB s nn f (0 + g)).toNat = _
              rw [Nat.zero_add]
            rw [ab]
            unfold wb_X12_blind_232
            rw [eB, nI_add, nI_add, nI_add]
            refine bt (nI_le (by omega) (by omega)) ?_
            cases w : alB s nn f g
            · rw [w] at cs
              exact bt rfl (kk2 _ _ ⟨rfl, by rw [cs]; rfl⟩)
            · rw [w] at cs
              exact bf (by decide) (kk2 _ _ ⟨rfl, by rw [cs]; rfl⟩)
        · rintro y C K2 ⟨rfl, rfl⟩
          unfold wb_X12_blind_214
          rw [nI_add]
          exact bt (nI_le (by omega) (by omega)) (fin _ _ _ (by rw [hcu]; rfl) hfu.symm (by rw [hc3]))
      · -- unseen
        rw [u] at hcu
        rw [u] at hfu
        have c0 : cnt (alB s nn) f 0 f = 0 := cnt_0 (fun b => by unfold alB; rw [u]; rfl) f
        rw [c0, Nat.add_zero] at hc3
        have go : ∀ v4, v4 = fuU (unB s nn) (f + 1) → wj_X12_blind_209 (nI s) x2 (nI (cu (unB s nn) f) + nI 1) (nI (cnt3 (alB s nn) f)) (nI f) (bI (!true)) v4 (fun a b c => K (a, b, c)) B Q := by
          intro v4 h4
          unfold wj_X12_blind_209
          refine ⟨1, ?_⟩
          show wb_X12_blind_214 _ _ _ _ _ _ _ _ _ _ _ _
          unfold wb_X12_blind_214
          rw [nI_add, nI_add]
          have w := fin (nI (cu (unB s nn) f + 1)) v4 (nI (cnt3 (alB s nn) f)) (by rw [hcu]; rfl) h4 (by rw [hc3]; rfl)
          exact bc (fun _ => w) (fun _ => bt rfl w)
        refine bt rfl ?_
        unfold wj_X12_blind_188
        refine bt rfl (bc (fun z => go _ ?_) (fun z => go _ ?_))
        · rw [hfu, if_pos ⟨rfl, z⟩]
        · rw [hfu, if_neg (fun y => z y.2)]
  · rintro p A K ⟨⟨kA, a37, a38⟩, rfl⟩
    have eA : gi A 0 41 = nI nn := (kA 0 41 (by decide) (by decide) (by decide)).trans e
    unfold wb_X12_blind_84 w_X12_faults
    rw [eA, fltN nn (by omega)]
    refine bt (nI_le (by omega) (by omega)) (q A kA)
end BL
theorem Inv_kB {X M M' : wM} (h : Inv X M) (k : kB M M') : Inv X M' :=
  Inv_fr (T := []) (S := [29, 30, 31, 32, 37, 38]) h sX_refl (fun a j q => k a j (by
    by_cases z : a < 29 ∨ 32 < a
    · exact z
    · exfalso
      refine q ?_
      rcases (show a = 29 ∨ a = 30 ∨ a = 31 ∨ a = 32 by omega) with rfl | rfl | rfl | rfl <;> simp [cM]) (fun z => q (by rw [z]; simp [cM])) (fun z => q (by rw [z]; simp [cM])))
theorem Inv_sg {A A' M : wM} {s nn : Nat} (h : Inv A M) (g : SG A A' s nn) : Inv A' M :=
  Inv_fr (T := []) (S := []) h ⟨fun a j _ => g.1.1 a j, g.1.2⟩ sM_refl
theorem law_blind (x1 x2 : Int32) (Mx Mm : wM) (h : Inv Mx Mm) : w_X11_blind x1 x2 Mx (fun r A => w_X12_blind x1 x2 Mm (fun r2 B => r = r2 ∧ Inv A B)) := by
  obtain ⟨nc, nn, h1, h8, -, -, e5, e6, -⟩ := Inv_cf h
  have nf := Inv_nf h h8 e5
  unfold w_X11_blind
  refine isSort_w (fun c1 => bf ne10 ?_) (fun c1 => bt rfl (in_f (by decide) (hi_N (by decide)) c1 (bt rfl ⟨rfl, h⟩)))
  obtain ⟨s, hs, rfl, es⟩ := nI_ex (x := x1) c1.1
  have s3 : s < 3 := by omega
  have imN : ∀ Q : Int32 → wM → Prop, ¬ (0 ≤ x2.toInt ∧ x2.toInt ≤ 2) → Q (-1) Mm → w_X12_blind (nI s) x2 Mm Q := by
    intro Q c q
    unfold w_X12_blind
    exact in_t (by decide) (hi_N (by decide)) c1 (bf ne10 (in_f (by decide) (hi_N (by decide)) c (bt rfl q)))
  refine bc (fun z => ?_) (fun z => bc (fun y => ?_) (fun y => ?_))
  · rw [lt_n (by decide)] at z
    exact imN _ (by omega) ⟨rfl, h⟩
  · rw [lt_n (by decide)] at z
    rw [le_n (by decide)] at y
    have c2 : 0 ≤ x2.toInt ∧ x2.toInt ≤ 2 := by omega
    have imY : ∀ Q : Int32 → wM → Prop, ((nI nn = nI 0 → Q (-2) Mm) ∧ (¬ nI nn = nI 0 → w_X12_guesses (-4) (-4) Mm (fun M9 => ∃ n, wL_X12_blind_46 (nI s) x2 Q n (nI 0) M9))) → w_X12_blind (nI s) x2 Mm Q := by
      intro Q q
      unfold w_X12_blind
      refine in_t (by decide) (hi_N (by decide)) c1 (bf ne10 (in_t (by decide) (hi_N (by decide)) c2 (bf ne10 ?_)))
      rw [e6]
      exact q
    rw [e5]
    refine bc (fun w => imY _ (bt w ⟨rfl, h⟩)) (fun w => ?_)
    refine prepX s3 nf (fun A p => sgfX s3 h8 p (fun A2 g => ?_))
    have fin : ∀ v, (x2 = nI 0 → v = nI (cu (unB s nn) (nn * (nn + 1)))) → (¬ x2 = nI 0 → x2 = nI 1 → v = nI (cnt3 (alB s nn) (nn * (nn + 1)))) → (¬ x2 = nI 0 → ¬ x2 = nI 1 → v = fuU (unB s nn) (nn * (nn + 1))) → w_X12_blind (nI s) x2 Mm (fun r2 B => v = r2 ∧ Inv A2 B) := by
      intro v v1 v2 v3
      refine imY _ (bf w (blindM s3 h8 e6 (fun M' k => ?_)))
      have i3 := Inv_sg (Inv_pr (Inv_kB h k) p) g
      exact bc (fun u => ⟨v1 u, i3⟩) (fun u => bc (fun t => ⟨v2 u t, i3⟩) (fun t => ⟨v3 u t, i3⟩))
    refine bc (fun u => unsX s3 h8 p g (fin _ (fun _ => rfl) (fun t => absurd u t) (fun t => absurd u t))) (fun u => bc (fun t => alkX s3 h8 p g ?_) (fun t => fstX s3 h8 p g (fin _ (fun v => absurd v u) (fun _ v => absurd v t) (fun _ _ => rfl))))
    rw [cnt23 (alB s nn) alB_sym]
    exact fin _ (fun v => absurd v u) (fun _ _ => rfl) (fun _ v => absurd t v)
  · rw [lt_n (by decide)] at z
    rw [le_n (by decide)] at y
    exact imN _ (by omega) ⟨rfl, h⟩
