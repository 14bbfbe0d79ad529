/-! the whole invariant; the first laws -/
/-- two nets hang together -/
def Conn (X : wM) (nn a b : Nat) : Prop := ∀ S : Nat → Prop, S a → (∀ x y, x < nn → y < nn → S x → gi X (16 + x) y ≠ -4 → S y) → S b
/-- the rule of the heap of net i: 0 low, 1 high, 2 least, 3 greatest -/
def ruleR (X : wM) (nn i r : Nat) : Prop := (∃ a, a < nn ∧ Conn X nn i a ∧ gi X 14 a = nI r ∧ r < 2 ∧ ∀ b, b < a → Conn X nn i b → gi X 14 b = -4) ∨ ((∀ a, a < nn → Conn X nn i a → gi X 14 a = -4) ∧ (((∃ a b, a < nn ∧ b < nn ∧ Conn X nn i a ∧ gi X (16 + a) b = nI 0) ∧ r = 2) ∨ ((¬ ∃ a b, a < nn ∧ b < nn ∧ Conn X nn i a ∧ gi X (16 + a) b = nI 0) ∧ r = 3)))
def iG (X : wM) : Prop := ∃ nn : Nat, nn ≤ 8 ∧ gi X 12 0 = nI nn ∧ ∀ i, i < nn → ∃ mk : Nat, mk < 256 ∧ gi X 24 i = nI mk ∧ (∀ j, mk.testBit j = true ↔ j < nn ∧ Conn X nn i j) ∧ ((∃ j, j < i ∧ Conn X nn i j) → gi X 25 i = nI 0) ∧ ((¬ ∃ j, j < i ∧ Conn X nn i j) → ∃ r, r < 4 ∧ ruleR X nn i r ∧ gi X 25 i = nI (mk + 256 * r))
def ftN (X : wM) (i : Nat) : Nat := ((List.range 60).filter (fun q => decide (gi X (36 + 3 * (q / 10)) (q % 10) = nI i))).length
def iF (X : wM) : Prop := ∀ i, i < 8 → gi X 13 i = nI (ftN X i)
def Inv (X M : wM) : Prop := iT X M ∧ iW X M ∧ iP X M ∧ iC X M ∧ iK X M ∧ iS X M ∧ iL X M ∧ iN X M ∧ iH X M ∧ iG X ∧ iF X
def rgG : List Nat := [2200, 14, 16, 17, 18, 19, 20, 21, 22, 23, 24, 25]
def rgF : List Nat := [13, 36, 39, 42, 45, 48, 51]
section FR2
variable {X X' M M' : wM} {T S : List Nat}
theorem rg_G {a j : Nat} (ha : a < 8) : cX (16 + a) j ∈ rgG := by
  rcases (show a = 0 ∨ a = 1 ∨ a = 2 ∨ a = 3 ∨ a = 4 ∨ a = 5 ∨ a = 6 ∨ a = 7 by omega) with rfl | rfl | rfl | rfl | rfl | rfl | rfl | rfl <;> simp [cX, rgG]
theorem Conn_fr {nn : Nat} (hn : nn ≤ 8) (h : ∀ x y, x < 8 → gi X' (16 + x) y = gi X (16 + x) y) (a b : Nat) : Conn X' nn a b ↔ Conn X nn a b := by
  constructor
  · intro k S s1 s2
    exact k S s1 (fun x y hx hy sx q => s2 x y hx hy sx (by rw [h x y (by omega)] at q; exact q))
  · intro k S s1 s2
    exact k S s1 (fun x y hx hy sx q => s2 x y hx hy sx (by rw [h x y (by omega)]; exact q))
theorem ruleR_fr {nn i r : Nat} (hn : nn ≤ 8) (h : ∀ x y, x < 8 → gi X' (16 + x) y = gi X (16 + x) y) (k : ∀ j, gi X' 14 j = gi X 14 j) (q : ruleR X nn i r) : ruleR X' nn i r := by
  have e : (∃ a b, a < nn ∧ b < nn ∧ Conn X' nn i a ∧ gi X' (16 + a) b = nI 0) ↔ ∃ a b, a < nn ∧ b < nn ∧ Conn X nn i a ∧ gi X (16 + a) b = nI 0 := by
    constructor
    · rintro ⟨a, b, h1, h2, h3, h4⟩
      exact ⟨a, b, h1, h2, (Conn_fr hn h i a).mp h3, by rw [h a b (by omega)] at h4; exact h4⟩
    · rintro ⟨a, b, h1, h2, h3, h4⟩
      exact ⟨a, b, h1, h2, (Conn_fr hn h i a).mpr h3, by rw [h a b (by omega)]; exact h4⟩
  unfold ruleR
  simp only [Conn_fr hn h, k] at e ⊢
  rw [e]
  exact q
theorem iG_fr (h : iG X) (a : sX T X X') (d : dj rgG T) : iG X' := by
  obtain ⟨nn, h1, h2, h3⟩ := h
  have k : ∀ x y, x < 8 → gi X' (16 + x) y = gi X (16 + x) y := fun x y hx => sX_at a d (rg_G hx)
  have k2 : ∀ j, gi X' 14 j = gi X 14 j := fun j => sX_at a d (by simp [cX, rgG])
  have k3 : ∀ j, gi X' 24 j = gi X 24 j := fun j => sX_at a d (by simp [cX, rgG])
  have k4 : ∀ j, gi X' 25 j = gi X 25 j := fun j => sX_at a d (by simp [cX, rgG])
  refine ⟨nn, h1, (sX_at a d (by decide)).trans h2, fun i hi => ?_⟩
  obtain ⟨mk, g1, g2, g3, g4, g5⟩ := h3 i hi
  simp only [k3, k4, Conn_fr h1 k]
  refine ⟨mk, g1, g2, g3, g4, fun q => ?_⟩
  obtain ⟨r, r1, r2, r3⟩ := g5 q
  exact ⟨r, r1, ruleR_fr h1 k k2 r2, r3⟩
theorem rg_F {c j : Nat} (hc : c < 6) : cX (36 + 3 * c) j ∈ rgF := by
  rcases (show c = 0 ∨ c = 1 ∨ c = 2 ∨ c = 3 ∨ c = 4 ∨ c = 5 by omega) with rfl | rfl | rfl | rfl | rfl | rfl <;> simp [cX, rgF]
theorem iF_fr (h : iF X) (a : sX T X X') (d : dj rgF T) : iF X' := by
  intro i hi
  have e : ftN X' i = ftN X i := by
    unfold ftN
    congr 1
    apply List.filter_congr
    intro q hq
    have hq2 : q < 60 := List.mem_range.mp hq
    rw [sX_at a d (rg_F (by omega))]
  rw [e, sX_at a d (by simp [cX, rgF])]
  exact h i hi
abbrev dk (i : Nat) (T S : List Nat) : Prop := (∀ x ∈ rgX.getD i [], x ∉ T) ∧ ∀ x ∈ rgM.getD i [], x ∉ S
abbrev dg (R T : List Nat) : Prop := ∀ x ∈ R, x ∉ T
theorem Inv_fr (h : Inv X M) (a : sX T X X') (b : sM S M M') (hT : dk 0 T S ∨ iT X' M' := by exact Or.inl (by decide)) (hW : dk 1 T S ∨ iW X' M' := by exact Or.inl (by decide)) (hP : dk 2 T S ∨ iP X' M' := by exact Or.inl (by decide)) (hC : dk 3 T S ∨ iC X' M' := by exact Or.inl (by decide)) (hK : dk 4 T S ∨ iK X' M' := by exact Or.inl (by decide)) (hS : dk 5 T S ∨ iS X' M' := by exact Or.inl (by decide)) (hL : dk 6 T S ∨ iL X' M' := by exact Or.inl (by decide)) (hN : dk 7 T S ∨ iN X' M' := by exact Or.inl (by decide)) (hH : dk 8 T S ∨ iH X' M' := by exact Or.inl (by decide)) (hG : dg rgG T ∨ iG X' := by exact Or.inl (by decide)) (hF : dg rgF T ∨ iF X' := by exact Or.inl (by decide)) : Inv X' M' := by
  obtain ⟨c0, c1, c2, c3, c4, c5, c6, c7, c8, c9, c10⟩ := h
  exact ⟨hT.elim (fun q => iT_fr c0 a b q.1 q.2) id, hW.elim (fun q => iW_fr c1 a b q.1 q.2) id, hP.elim (fun q => iP_fr c2 a b q.1 q.2) id, hC.elim (fun q => iC_fr c3 a b q.1 q.2) id, hK.elim (fun q => iK_fr c4 a b q.1 q.2) id, hS.elim (fun q => iS_fr c5 a b q.1 q.2) id, hL.elim (fun q => iL_fr c6 a b q.1 q.2) id, hN.elim (fun q => iN_fr c7 a b q.1 q.2) id, hH.elim (fun q => iH_fr c8 a b q.1 q.2) id, hG.elim (fun q => iG_fr c9 a q) id, hF.elim (fun q => iF_fr c10 a q) id⟩
end FR2
section NUM
variable {x y : Int32} {n a : Nat} {M : wM} {Q : Int32 → wM → Prop}
theorem lt_n (h : n < 2 ^ 31) : x < nI n ↔ x.toInt < n := by rw [Int32.lt_iff_toInt_lt, nI_toInt h]
theorem n_lt (h : n < 2 ^ 31) : nI n < x ↔ n < x.toInt := by rw [Int32.lt_iff_toInt_lt, nI_toInt h]
theorem le_n (h : n < 2 ^ 31) : x ≤ nI n ↔ x.toInt ≤ n := by rw [Int32.le_iff_toInt_le, nI_toInt h]
theorem n_le (h : n < 2 ^ 31) : nI n ≤ x ↔ n ≤ x.toInt := by rw [Int32.le_iff_toInt_le, nI_toInt h]
theorem eq_n (h : n < 2 ^ 31) : x = nI n ↔ x.toInt = n := by
  constructor
  · rintro rfl; exact nI_toInt h
  · intro e; exact Int32.toInt_inj.mp (by rw [e, nI_toInt h])
theorem nI_ex (h : 0 ≤ x.toInt) : ∃ k : Nat, k < 2 ^ 31 ∧ x = nI k ∧ x.toInt = k := by
  have h2 : x.toInt < 2 ^ 31 := Int32.toInt_lt x
  refine ⟨x.toInt.toNat, by omega, ?_, by omega⟩
  exact (eq_n (by omega)).mpr (by omega)
theorem bt {p A B : Prop} (h : p) (q : A) : (p → A) ∧ (¬ p → B) := ⟨fun _ => q, fun z => absurd h z⟩
theorem bf {p A B : Prop} (h : ¬ p) (q : B) : (p → A) ∧ (¬ p → B) := ⟨fun z => absurd z h, fun _ => q⟩
theorem bc {p A B : Prop} (q : p → A) (k : ¬ p → B) : (p → A) ∧ (¬ p → B) := ⟨q, k⟩
theorem in_b {v lo hi : Int64} (q1 : lo.toInt ≤ v.toInt ∧ v.toInt ≤ hi.toInt → Q (nI 1) M) (q0 : ¬ (lo.toInt ≤ v.toInt ∧ v.toInt ≤ hi.toInt) → Q (nI 0) M) : w_X12_in v lo hi M Q := by
  unfold w_X12_in
  rw [nI_0, lg_cmp_lt, lg_cmp_gt, Int64.lt_iff_toInt_lt, Int64.lt_iff_toInt_lt, ← nI_0]
  exact ⟨fun h => q0 (by omega), fun h => ⟨fun k => q0 (by omega), fun k => q1 (by omega)⟩⟩
theorem hi_N (h : n < 2 ^ 31) : (lN n).toInt = n := lN_toInt h
theorem hi_I (h : n < 2 ^ 31) : (nI n).toInt64.toInt = n := by rw [Int32.toInt_toInt64, nI_toInt h]
theorem hi_S (h : n < 2 ^ 30) : (nI n - nI 1).toInt64.toInt = (n : Int) - 1 := by
  rw [Int32.toInt_toInt64]
  have e := pk_sub_toInt (a := n) (b := 1) (by omega) (by omega)
  exact e
theorem in_t {hi : Int64} {b : Int} (ha : a < 2 ^ 31) (hb : hi.toInt = b) (h : (a : Int) ≤ x.toInt ∧ x.toInt ≤ b) (q : Q (nI 1) M) : w_X12_in x.toInt64 (lN a) hi M Q := in_b (fun _ => q) (fun z => absurd (by rw [hi_N ha, hb, Int32.toInt_toInt64]; exact h) z)
theorem in_f {hi : Int64} {b : Int} (ha : a < 2 ^ 31) (hb : hi.toInt = b) (h : ¬ ((a : Int) ≤ x.toInt ∧ x.toInt ≤ b)) (q : Q (nI 0) M) : w_X12_in x.toInt64 (lN a) hi M Q := in_b (fun z => absurd (by rw [hi_N ha, hb, Int32.toInt_toInt64] at z; exact z) h) (fun _ => q)
theorem ne10 : ¬ nI 1 = nI 0 := by decide
theorem n4 : ((-4 : Int32)).toInt = -4 := by decide
theorem n4_ne (h : n < 2 ^ 31) : ¬ nI n = -4 := by
  intro e
  have := congrArg Int32.toInt e
  rw [nI_toInt h, n4] at this
  omega
end NUM
theorem law_fault (Mx Mm : wM) (h : Inv Mx Mm) : w_X11_fault Mx (fun r A => w_X12_fault Mm (fun r2 B => r = r2 ∧ Inv A B)) := ⟨h.2.1, h⟩
theorem law_now (x1 : Int32) (Mx Mm : wM) (h : Inv Mx Mm) : w_X11_now x1 Mx (fun r A => w_X12_now x1 Mm (fun r2 B => r = r2 ∧ Inv A B)) := by
  obtain ⟨e1, s, hs, e2, e3⟩ := h.2.2.2.2.2.1
  unfold w_X11_now w_X12_now
  exact bc (fun q => bt q ⟨e2.trans e3.symm, h⟩) (fun q => bc (fun z => bf q (bt z ⟨e1, h⟩)) (fun z => bf q (bf z ⟨rfl, h⟩)))
theorem law_log (x1 : Int32) (Mx Mm : wM) (h : Inv Mx Mm) : w_X11_log x1 Mx (fun r A => w_X12_log x1 Mm (fun r2 B => r = r2 ∧ Inv A B)) := by
  obtain ⟨n, hn, e1, e2, ht⟩ := h.2.2.2.2.2.2.1
  unfold w_X11_log w_X12_log
  rw [e1, e2]
  refine bc (fun q => bc (fun z => bt q (bt z ⟨rfl, h⟩)) (fun z => ?_)) (fun q => bf q ⟨rfl, h⟩)
  have q1 := q
  have z1 := z
  rw [n_le (by decide)] at q1
  rw [n_le (by omega)] at z1
  obtain ⟨k, hk, rfl, ek⟩ := nI_ex (x := x1) (by omega)
  refine ⟨vp_in_nI (by omega) (by decide), bt q (bf z ⟨vp_in_nI (by omega) (by decide), ?_, h⟩)⟩
  rw [nI_clamp hk]
  exact ht k (by omega)
theorem law_end (x1 : Int32) (Mx Mm : wM) (h : Inv Mx Mm) : w_X11_end x1 Mx (fun r A => w_X12_end x1 Mm (fun r2 B => r = r2 ∧ Inv A B)) := by
  obtain ⟨n, hn, e1, e2, ht⟩ := h.1
  unfold w_X11_end w_X12_end
  rw [e1, e2]
  by_cases hc : 0 ≤ x1.toInt ∧ x1.toInt ≤ n
  · obtain ⟨k, hk, rfl, ek⟩ := nI_ex (x := x1) hc.1
    refine bf (by rw [lt_n (by decide)]; omega) (bt (by rw [le_n (by omega)]; omega) (in_t (by decide) (hi_I (by omega)) hc (bf ne10 ⟨e2.symm, ?_⟩)))
    refine Inv_fr (T := [1101]) (S := [1015]) h (sX_si (by decide)) (sM_si (by decide)) (hT := Or.inr ⟨k, by omega, gi_eq .., gi_eq .., fun j hj => ?_⟩)
    rw [gi_ne (by left; decide), gi_ne (by left; decide)]
    exact ht j (by omega)
  · refine bc (fun q => in_f (by decide) (hi_I (by omega)) hc (bt rfl ⟨rfl, h⟩)) (fun q => bf (fun z => ?_) (in_f (by decide) (hi_I (by omega)) hc (bt rfl ⟨rfl, h⟩)))
    rw [lt_n (by decide)] at q
    rw [le_n (by omega)] at z
    omega
theorem lvl_w {x : Int32} {M : wM} {Q : Int32 → wM → Prop} (q1 : lvl x → Q (nI 1) M) (q0 : ¬ lvl x → Q (nI 0) M) : w_X11_isLevelOrNone x M Q := by
  unfold w_X11_isLevelOrNone
  exact bc (fun z => q1 (Or.inr (Or.inl z))) (fun z => bc (fun w => q1 (Or.inr (Or.inr w))) (fun w => bc (fun v => q1 (Or.inl v)) (fun v => q0 (fun u => u.elim v (fun u => u.elim z w)))))
theorem lvl_i {x : Int32} : (x = nI 0 ∨ x = nI 1) ↔ 0 ≤ x.toInt ∧ x.toInt ≤ 1 := by
  rw [eq_n (by decide), eq_n (by decide)]
  omega
theorem law_cut (x1 x2 : Int32) (Mx Mm : wM) (h : Inv Mx Mm) : w_X11_cut x1 x2 Mx (fun r A => w_X12_cut x1 x2 Mm (fun r2 B => r = r2 ∧ Inv A B)) := by
  obtain ⟨nc, np, nn, h1, h2, h3, e1, e2, -⟩ := h.2.2.2.1
  have hk := h.2.2.2.2.1
  unfold w_X11_cut w_X12_cut
  rw [e1, e2]
  by_cases hc : 0 ≤ x1.toInt ∧ x1.toInt ≤ nc
  · obtain ⟨k, hk1, rfl, ek⟩ := nI_ex (x := x1) hc.1
    have k7 : k < 7 := by omega
    refine bf (by rw [lt_n (by decide)]; omega) (bf (by rw [n_lt (by omega)]; omega) (lvl_w (fun q => ?_) (fun q => ?_)))
    · have fin : (gi Mx 31 k = gi Mm 22 k) ∧ Inv (si Mx 31 k x2) (si Mm 22 k x2) := by
        refine ⟨(hk k k7).1, Inv_fr (T := [31]) (S := [22]) h (sX_si (by simp [cX])) (sM_si (by simp [cM])) (hK := Or.inr (fun j hj => ?_))⟩
        by_cases hjk : j = k
        · subst hjk
          rw [gi_eq, gi_eq]
          exact ⟨rfl, q⟩
        · rw [gi_ne (Or.inr hjk), gi_ne (Or.inr hjk)]
          exact hk j hj
      refine bf ne10 ⟨vp_in_nI k7 (by decide), vp_in_nI k7 (by decide), ?_⟩
      refine in_t (by decide) (hi_I (by omega)) hc (bf ne10 ?_)
      unfold wj_X12_cut_32
      rw [nI_clamp hk1]
      have w : vp_in (nI k) 7 ∧ vp_in (nI k) 7 ∧ (gi Mx 31 k = gi Mm 22 k) ∧ Inv (si Mx 31 k x2) (si Mm 22 k x2) := ⟨vp_in_nI k7 (by decide), vp_in_nI k7 (by decide), fin⟩
      refine bc (fun _ => w) (fun z => in_t (by decide) (hi_N (by decide)) ?_ (bf ne10 w))
      exact lvl_i.mp (q.elim (fun u => absurd u z) id)
    · refine bt rfl (in_t (by decide) (hi_I (by omega)) hc (bf ne10 (bf (fun z => q (Or.inl z)) (in_f (by decide) (hi_N (by decide)) (fun z => q (Or.inr (lvl_i.mpr z))) (bt rfl ⟨rfl, h⟩)))))
  · have f : w_X12_in x1.toInt64 (lN 0) (nI nc).toInt64 Mm (fun r1 M2 => (r1 = (nI 0) → (-1 : Int32) = -1 ∧ Inv Mx M2) ∧ (¬ r1 = (nI 0) → (x2 = (-4) → wj_X12_cut_32 x1 x2 M2 (fun r2 B => (-1 : Int32) = r2 ∧ Inv Mx B)) ∧ (¬ x2 = (-4) → w_X12_in x2.toInt64 (lN 0) (lN 1) M2 (fun r7 M8 => (r7 = (nI 0) → (-1 : Int32) = -1 ∧ Inv Mx M8) ∧ (¬ r7 = (nI 0) → wj_X12_cut_32 x1 x2 M8 (fun r2 B => (-1 : Int32) = r2 ∧ Inv Mx B)))))) := in_f (by decide) (hi_I (by omega)) hc (bt rfl ⟨rfl, h⟩)
    refine bc (fun q => f) (fun q => bc (fun z => f) (fun z => ?_))
    exfalso
    rw [lt_n (by decide)] at q
    rw [n_lt (by omega)] at z
    omega
