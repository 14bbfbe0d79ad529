/-! the reader: tokens, in the reference -/
def TM (B : wM) (b : Nat → Nat) (n : Nat) : Prop := n ≤ 240 ∧ gi B 0 15 = nI n ∧ ∀ j, j < n → b j < 256 ∧ gi B 13 j = nI (b j)
def fN (B B' : wM) : Prop := ∀ a j, a ≠ 0 ∨ j < 16 ∨ 21 < j → gi B' a j = gi B a j
theorem fN_trans {A B C : wM} (h : fN A B) (k : fN B C) : fN A C := fun a j q => (k a j q).trans (h a j q)
theorem fN_si {B : wM} {j : Nat} {x : Int32} (h : 16 ≤ j ∧ j ≤ 21) : fN B (si B 0 j x) := fun a i q => gi_ne (by omega)
theorem TM_fr {B B' : wM} {b : Nat → Nat} {n : Nat} (h : TM B b n) (k : fN B B') : TM B' b n := ⟨h.1, (k 0 15 (by decide)).trans h.2.1, fun j hj => ⟨(h.2.2 j hj).1, (k 13 j (Or.inl (by decide))).trans (h.2.2 j hj).2⟩⟩
theorem lookM {b : Nat → Nat} {n p : Nat} {B : wM} {Q : Int32 → wM → Prop} (tm : TM B b n) (hp : p < 1000) (q1 : p < n → Q (nI (b p)) B) (q0 : ¬ p < n → Q (-1) B) : w_X12_look (nI p) B Q := by
  have n240 := tm.1
  unfold w_X12_look
  rw [tm.2.1, nI_clamp (n := p) (by omega)]
  by_cases z : p < n
  · rw [(tm.2.2 p z).2]
    exact bf (nI_ge z (by omega)) ⟨vp_in_nI (by omega) (by decide), q1 z⟩
  · exact bt (nI_le (by omega) (by omega)) (q0 z)
theorem m1_i : ((-1 : Int32)).toInt = -1 := by decide
theorem m1_ne {k : Nat} (h : k < 2 ^ 31) : ¬ (-1 : Int32) = nI k := by
  rw [eq_n h, m1_i]
  omega
/-- whether what lies at p is in a range -/
theorem lkIn {b : Nat → Nat} {n p lo hi : Nat} {B : wM} {Q : Int32 → wM → Prop} (tm : TM B b n) (hp : p < 1000) (hl : lo < 1000) (hh : hi < 1000) (q1 : p < n ∧ lo ≤ b p ∧ b p ≤ hi → Q (nI 1) B) (q0 : ¬ (p < n ∧ lo ≤ b p ∧ b p ≤ hi) → Q (nI 0) B) : w_X12_look (nI p) B (fun r M => w_X12_in r.toInt64 (lN lo) (lN hi) M Q) := by
  refine lookM tm hp (fun z => ?_) (fun z => ?_)
  · have b1 := (tm.2.2 p z).1
    by_cases y : lo ≤ b p ∧ b p ≤ hi
    · exact in_t (by omega) (hi_N (by omega)) (by rw [nI_toInt (by omega)]; omega) (q1 ⟨z, y⟩)
    · exact in_f (by omega) (hi_N (by omega)) (by rw [nI_toInt (by omega)]; omega) (q0 (fun w => y w.2))
  · exact in_f (by omega) (hi_N (by omega)) (by rw [m1_i]; omega) (q0 (fun w => z w.1))
theorem ltM {b : Nat → Nat} {n : Nat} {Q : wM → Prop} : ∀ (d p : Nat) (B : wM), n - p = d → p ≤ n → TM B b n → gi B 0 16 = nI p → Q (si B 0 16 (nI (skf b n 97 122 p))) → wL_X12_next_82 Q (d + 1) B := by
  intro d
  induction d with
  | zero =>
    intro p B hd hp tm e q
    have n240 := tm.1
    show wb_X12_next_82 _ B Q
    unfold wb_X12_next_82
    rw [e]
    rw [skf_f (by omega), si_same e] at q
    exact lkIn tm (by omega) (by decide) (by decide) (fun z => by omega) (fun z => bt rfl q)
  | succ d ih =>
    intro p B hd hp tm e q
    have n240 := tm.1
    show wb_X12_next_82 (wL_X12_next_82 Q (d + 1)) B Q
    unfold wb_X12_next_82
    rw [e]
    refine lkIn tm (by omega) (by decide) (by decide) (fun z => bf ne10 ?_) (fun z => bt rfl ?_)
    · rw [e, nI_add]
      refine ih (p + 1) _ (by omega) (by omega) (TM_fr tm (fN_si (by decide))) (gi_eq ..) ?_
      rw [si_si, ← skf_t z.1 z.2]
      exact q
    · rw [skf_f z, si_same e] at q
      exact q
theorem dgM {b : Nat → Nat} {n f : Nat} {B0 : wM} {Q : wM → Prop} : ∀ (d p : Nat) (B : wM), n - p = d → f ≤ p → p ≤ n → TM B b n → fN B0 B → gi B 0 16 = nI p → gi B 0 17 = nI f → gi B 0 18 = nI 2 → gi B 0 20 = nI 0 → gi B 0 19 = nI (vl b f (min (p - f) 9)) → (skf b n 48 57 p - f ≤ 9 → ∀ B' : wM, fN B0 B' → gi B' 0 16 = nI (skf b n 48 57 p) → gi B' 0 17 = nI f → gi B' 0 18 = nI 2 → gi B' 0 20 = nI 0 → gi B' 0 19 = nI (vl b f (skf b n 48 57 p - f)) → Q B') → (¬ skf b n 48 57 p - f ≤ 9 → ∀ B' : wM, fN B0 B' → gi B' 0 20 = nI 1 → gi B' 0 21 = nI f → Q B') → wL_X12_next_140 Q (d + 1) B := by
  have stop : ∀ (p : Nat) (B : wM), f ≤ p → p ≤ n → TM B b n → fN B0 B → gi B 0 16 = nI p → gi B 0 17 = nI f → gi B 0 18 = nI 2 → gi B 0 20 = nI 0 → gi B 0 19 = nI (vl b f (min (p - f) 9)) → (p - f ≤ 9 → ∀ B' : wM, fN B0 B' → gi B' 0 16 = nI p → gi B' 0 17 = nI f → gi B' 0 18 = nI 2 → gi B' 0 20 = nI 0 → gi B' 0 19 = nI (vl b f (p - f)) → Q B') → (¬ p - f ≤ 9 → ∀ B' : wM, fN B0 B' → gi B' 0 20 = nI 1 → gi B' 0 21 = nI f → Q B') → ((nI 9) < ((gi B 0 16) - (gi B 0 17)) → w_X12_wants (nI 0) (nI 1) B (fun M26 => Q M26)) ∧ (¬ (nI 9) < ((gi B 0 16) - (gi B 0 17)) → w_X12_wants (nI 1) (nI 1) B (fun M28 => Q M28)) := by
    intro p B fp hp tm fn e16 e17 e18 e20 e19 q1 q0
    have n240 := tm.1
    rw [e16, e17, pk_sub fp, lt_nn (by decide) (by omega)]
    unfold w_X12_wants
    rw [e20, e17]
    refine bc (fun z => bt rfl (bt rfl (q0 (by omega) _ (fN_trans (fN_trans fn (fN_si (j := 20) (by decide))) (fN_si (by decide))) ?_ (gi_eq ..)))) (fun z => bf ne10 (q1 (by omega) B fn e16 e17 e18 e20 ?_))
    · rw [gi_ne (by decide), gi_eq]
    · rw [e19, show min (p - f) 9 = p - f by omega]
  intro d
  induction d with
  | zero =>
    intro p B hd fp hp tm fn e16 e17 e18 e20 e19 q1 q0
    have n240 := tm.1
    show wb_X12_next_140 _ B Q
    unfold wb_X12_next_140
    rw [skf_f (by omega)] at q1 q0
    rw [e16]
    exact lkIn tm (by omega) (by decide) (by decide) (fun z => by omega) (fun z => bt rfl (stop p B fp hp tm fn e16 e17 e18 e20 e19 q1 q0))
  | succ d ih =>
    intro p B hd fp hp tm fn e16 e17 e18 e20 e19 q1 q0
    have n240 := tm.1
    show wb_X12_next_140 (wL_X12_next_140 Q (d + 1)) B Q
    unfold wb_X12_next_140
    rw [e16]
    refine lkIn tm (by omega) (by decide) (by decide) (fun z => bf ne10 ?_) (fun z => bt rfl ?_)
    · rw [skf_t z.1 z.2] at q1 q0
      rw [e16, e17, e19, pk_sub fp]
      by_cases y : 9 ≤ p - f
      · rw [nI_add, si_same e19]
        refine bt (nI_le y (by omega)) (ih (p + 1) _ (by omega) (by omega) (by omega) (TM_fr tm (fN_si (by decide))) (fN_trans fn (fN_si (by decide))) (gi_eq ..) ?_ ?_ ?_ ?_ q1 q0)
        · rw [gi_ne (by decide)]; exact e17
        · rw [gi_ne (by decide)]; exact e18
        · rw [gi_ne (by decide)]; exact e20
        · rw [gi_ne (by decide), e19, show min (p - f) 9 = 9 by omega, show min (p + 1 - f) 9 = 9 by omega]
      · refine bf (nI_ge (by omega) (by omega)) ?_
        refine lookM tm (by omega) (fun _ => ?_) (fun w => absurd z.1 w)
        rw [e16, nI_mul, nI_add, pk_sub (by omega), nI_add]
        refine ih (p + 1) _ (by omega) (by omega) (by omega) (TM_fr (TM_fr tm (fN_si (j := 19) (by decide))) (fN_si (by decide))) (fN_trans (fN_trans fn (fN_si (j := 19) (by decide))) (fN_si (by decide))) (gi_eq ..) ?_ ?_ ?_ ?_ q1 q0
        · rw [gi_ne (by decide), gi_ne (by decide)]; exact e17
        · rw [gi_ne (by decide), gi_ne (by decide)]; exact e18
        · rw [gi_ne (by decide), gi_ne (by decide)]; exact e20
        · rw [gi_ne (by decide), gi_eq, show min (p + 1 - f) 9 = (p - f) + 1 by omega, show min (p - f) 9 = p - f by omega]
          show _ = nI (vl b f (p - f) * 10 + (b (f + (p - f)) - 48))
          rw [show f + (p - f) = p by omega]
          congr 1
          omega
    · rw [skf_f z] at q1 q0
      exact stop p B fp hp tm fn e16 e17 e18 e20 e19 q1 q0
/-- the token at p was read, or a fault told -/
def flt (B : wM) (c f : Nat) : Prop := gi B 0 20 = nI c ∧ (0 < c ∧ c < 10) ∧ gi B 0 21 = nI f
def HM (b : Nat → Nat) (n : Nat) (B : wM) (p : Nat) : Prop := (tG b n p ∧ gi B 0 20 = nI 0 ∧ gi B 0 18 = nI (tK b n p) ∧ gi B 0 17 = nI (tF b n p) ∧ gi B 0 16 = nI (tE b n p) ∧ (tK b n p = 2 → gi B 0 19 = nI (tV b n p))) ∨ (¬ tG b n p ∧ flt B 1 (tF b n p))
theorem nxM {b : Nat → Nat} {n p : Nat} {B : wM} {Q : wM → Prop} (tm : TM B b n) (e20 : gi B 0 20 = nI 0) (e16 : gi B 0 16 = nI p) (hp : p ≤ n) (q : ∀ B' : wM, fN B B' → HM b n B' p → Q B') : w_X12_next B Q := by
  have n240 := tm.1
  unfold w_X12_next
  rw [e20]
  refine bt (nI_le (by decide) (by decide)) ?_
  have key : ∀ (d p : Nat) (B1 : wM), n - p = d → p ≤ n → TM B1 b n → fN B B1 → gi B1 0 20 = nI 0 → gi B1 0 16 = nI p → (∀ B' : wM, fN B B' → HM b n B' p → Q B') → wL_X12_next_8 Q (d + 1) B1 := by
    have stop : ∀ (p : Nat) (B1 : wM), p ≤ n → TM B1 b n → fN B B1 → gi B1 0 20 = nI 0 → gi B1 0 16 = nI p → ¬ (p < n ∧ b p = 32) → (∀ B' : wM, fN B B' → HM b n B' p → Q B') → w_X12_look (gi B1 0 16) (si B1 0 17 (gi B1 0 16)) (fun r5 M6 => ((nI 0) ≤ r5 → w_X12_in r5.toInt64 (lN 97) (lN 122) M6 (fun r8 M9 => (r8 = (nI 0) → w_X12_in r5.toInt64 (lN 48) (lN 57) M9 (fun r11 M12 => (r11 = (nI 0) → (r5 = (nI 59) → w_X12_wants (nI 1) (nI 1) (si M12 0 18 (nI 3)) (fun M16 => Q (si M16 0 16 ((gi M16 0 16) + (nI 1))))) ∧ (¬ r5 = (nI 59) → w_X12_wants (nI 0) (nI 1) (si M12 0 18 (nI 3)) (fun M18 => Q (si M18 0 16 ((gi M18 0 16) + (nI 1)))))) ∧ (¬ r11 = (nI 0) → ∃ n, wL_X12_next_140 Q n (si (si M12 0 18 (nI 2)) 0 19 (nI 0))))) ∧ (¬ r8 = (nI 0) → ∃ n, wL_X12_next_82 Q n (si M9 0 18 (nI 1))))) ∧ (¬ (nI 0) ≤ r5 → Q (si M6 0 18 (nI 0)))) := by
      intro p B1 hp tm1 fn e20 e16 sp q
      have ef : tF b n p = p := skf_f (fun z => sp ⟨z.1, by omega⟩)
      have ek : ∀ {x}, (if n ≤ p then 0 else if b p = 59 then 3 else if 97 ≤ b p ∧ b p ≤ 122 then 1 else 2) = x → tK b n p = x := fun {x} h => by unfold tK; rw [ef]; exact h
      have ee : ∀ {x}, (if n ≤ p then p else if b p = 59 then p + 1 else if 97 ≤ b p ∧ b p ≤ 122 then skf b n 97 122 p else skf b n 48 57 p) = x → tE b n p = x := fun {x} h => by unfold tE; rw [ef]; exact h
      rw [e16]
      have fn2 : fN B (si B1 0 17 (nI p)) := fN_trans fn (fN_si (by decide))
      have tm2 : TM (si B1 0 17 (nI p)) b n := TM_fr tm1 (fN_si (by decide))
      have g20 : gi (si B1 0 17 (nI p)) 0 20 = nI 0 := by rw [gi_ne (by decide)]; exact e20
      have g16 : gi (si B1 0 17 (nI p)) 0 16 = nI p := by rw [gi_ne (by decide)]; exact e16
      have g17 : gi (si B1 0 17 (nI p)) 0 17 = nI p := gi_eq ..
      generalize si B1 0 17 (nI p) = B2 at fn2 tm2 g20 g16 g17
      refine lookM tm2 (by omega) (fun z => ?_) (fun z => ?_)
      · have b1 := (tm1.2.2 p z).1
        refine bt (nI_le (by omega) (by omega)) ?_
        have z' : ¬ n ≤ p := by omega
        by_cases y1 : 97 ≤ b p ∧ b p ≤ 122
        · have k1 := ek (by rw [if_neg z', if_neg (by omega), if_pos y1])
          have k2 := ee (by rw [if_neg z', if_neg (by omega), if_pos y1])
          refine in_t (by decide) (hi_N (by decide)) (by rw [nI_toInt (by omega)]; omega) (bf ne10 ⟨_, ltM (n - p) p _ rfl hp (TM_fr tm2 (fN_si (by decide))) (by rw [gi_ne (by decide)]; exact g16) (q _ (fN_trans (fN_trans fn2 (fN_si (j := 18) (by decide))) (fN_si (by decide))) (Or.inl ⟨fun w => ?_, ?_, ?_, ?_, ?_, fun w => ?_⟩))⟩)
          · rw [k1] at w; cases w
          · rw [gi_ne (by decide), gi_ne (by decide)]; exact g20
          · rw [gi_ne (by decide), gi_eq, k1]
          · rw [gi_ne (by decide), gi_ne (by decide), ef]; exact g17
          · rw [gi_eq, k2]
          · rw [k1] at w; cases w
        · refine in_f (by decide) (hi_N (by decide)) (by rw [nI_toInt (by omega)]; omega) (bt rfl ?_)
          by_cases y2 : 48 ≤ b p ∧ b p ≤ 57
          · have k1 := ek (by rw [if_neg z', if_neg (by omega), if_neg y1])
            have k2 := ee (by rw [if_neg z', if_neg (by omega), if_neg y1])
            have sl := skf_t (b := b) (n := n) (lo := 48) (hi := 57) z y2
            have sl2 := (skf_le (b := b) (lo := 48) (hi := 57) (show p + 1 ≤ n by omega)).1
            refine in_t (by decide) (hi_N (by decide)) (by rw [nI_toInt (by omega)]; omega) (bf ne10 ⟨_, dgM (f := p) (B0 := B) (n - p) p _ rfl (Nat.le_refl _) hp (TM_fr (TM_fr tm2 (fN_si (j := 18) (by decide))) (fN_si (by decide))) (fN_trans (fN_trans fn2 (fN_si (j := 18) (by decide))) (fN_si (by decide))) ?_ ?_ ?_ ?_ ?_ (fun w B3 f3 h16 h17 h18 h20 h19 => q B3 f3 (Or.inl ⟨fun _ => ?_, h20, ?_, ?_, ?_, fun _ => ?_⟩)) (fun w B3 f3 h20 h21 => q B3 f3 (Or.inr ⟨fun u => ?_, h20, by decide, ?_⟩))⟩)
            · rw [gi_ne (by decide), gi_ne (by decide)]; exact g16
            · rw [gi_ne (by decide), gi_ne (by decide)]; exact g17
            · rw [gi_ne (by decide), gi_eq]
            · rw [gi_ne (by decide), gi_ne (by decide)]; exact g20
            · rw [gi_eq, Nat.sub_self]; rfl
            · rw [k2, ef]; exact ⟨by omega, w⟩
            · rw [h18, k1]
            · rw [h17, ef]
            · rw [h16, k2]
            · rw [h19]; unfold tV; rw [k2, ef]
            · have := u k1
              rw [k2, ef] at this
              exact w this.2
            · rw [h21, ef]
          · refine in_f (by decide) (hi_N (by decide)) (by rw [nI_toInt (by omega)]; omega) (bt rfl ?_)
            by_cases y3 : b p = 59
            · have k1 := ek (by rw [if_neg z', if_pos y3])
              have k2 := ee (by rw [if_neg z', if_pos y3])
              refine bt (by rw [y3]) ?_
              unfold w_X12_wants
              refine bf ne10 ?_
              show Q (si (si B2 0 18 (nI 3)) 0 16 (gi (si B2 0 18 (nI 3)) 0 16 + nI 1))
              rw [gi_ne (by decide), g16, nI_add]
              refine (q _ (fN_trans (fN_trans fn2 (fN_si (j := 18) (by decide))) (fN_si (by decide))) (Or.inl ⟨fun w => ?_, ?_, ?_, ?_, ?_, fun w => ?_⟩))
              · rw [k1] at w; cases w
              · rw [gi_ne (by decide), gi_ne (by decide)]; exact g20
              · rw [gi_ne (by decide), gi_eq, k1]
              · rw [gi_ne (by decide), gi_ne (by decide), ef]; exact g17
              · rw [gi_eq, k2]
              · rw [k1] at w; cases w
            · have k1 := ek (by rw [if_neg z', if_neg y3, if_neg y1])
              have k2 := ee (by rw [if_neg z', if_neg y3, if_neg y1, skf_f (fun w => y2 w.2)])
              refine bf (fun w => y3 (inj31 w (by omega) (by decide))) ?_
              unfold w_X12_wants
              rw [gi_ne (by decide), g20, gi_ne (M := B2) (by decide), g17]
              refine bt rfl (bt rfl (q _ (fN_trans (fN_trans (fN_trans (fN_trans fn2 (fN_si (j := 18) (by decide))) (fN_si (j := 20) (by decide))) (fN_si (j := 21) (by decide))) (fN_si (by decide))) (Or.inr ⟨fun u => ?_, ?_, by decide, ?_⟩)))
              · have := u k1
                rw [k2, ef] at this
                omega
              · rw [gi_ne (by decide), gi_ne (by decide), gi_eq]
              · rw [gi_ne (by decide), gi_eq, ef]
      · have z' : n ≤ p := by omega
        have k1 := ek (if_pos z')
        have k2 := ee (if_pos z')
        refine bf (by decide) (q _ (fN_trans fn2 (fN_si (by decide))) (Or.inl ⟨fun w => ?_, ?_, ?_, ?_, ?_, fun w => ?_⟩))
        · rw [k1] at w; cases w
        · rw [gi_ne (by decide)]; exact g20
        · rw [gi_eq, k1]
        · rw [gi_ne (by decide), ef]; exact g17
        · rw [gi_ne (by decide), k2]; exact g16
        · rw [k1] at w; cases w
    intro d
    induction d with
    | zero =>
      intro p B1 hd hp tm1 fn e20 e16 q
      show wb_X12_next_8 _ B1 Q
      unfold wb_X12_next_8
      have st := stop p B1 hp tm1 fn e20 e16 (by omega) q
      rw [e16] at st ⊢
      exact lookM tm1 (by omega) (fun z => by omega) (fun z => bf (m1_ne (by decide)) (by rw [e16]; exact st))
    | succ d ih =>
      intro p B1 hd hp tm1 fn e20 e16 q
      show wb_X12_next_8 (wL_X12_next_8 Q (d + 1)) B1 Q
      unfold wb_X12_next_8
      rw [e16]
      refine lookM tm1 (by omega) (fun z => ?_) (fun z => by omega)
      have b1 := (tm1.2.2 p z).1
      by_cases y : b p = 32
      · refine bt (by rw [y]) ?_
        rw [e16, nI_add]
        have sf : tF b n p = tF b n (p + 1) := skf_t z (by omega)
        refine ih (p + 1) _ (by omega) (by omega) (TM_fr tm1 (fN_si (by decide))) (fN_trans fn (fN_si (by decide))) (by rw [gi_ne (by decide)]; exact e20) (gi_eq ..) (fun B' f' h => q B' f' ?_)
        have t1 : tK b n p = tK b n (p + 1) := by unfold tK; rw [sf]
        have t2 : tE b n p = tE b n (p + 1) := by unfold tE; rw [sf]
        unfold HM tG tV
        unfold HM tG tV at h
        rw [sf, t1, t2]
        exact h
      · have st := stop p B1 hp tm1 fn e20 e16 (fun w => y w.2) q
        rw [e16] at st ⊢
        exact bf (fun w => y (inj31 w (by omega) (by decide))) st
  exact ⟨_, key (n - p) p B rfl hp tm (fun _ _ _ => rfl) e20 e16 q⟩
