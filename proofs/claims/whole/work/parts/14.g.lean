/-! what the abstract machine comes to: aG mid s Q: from s the method mid ends with Q -/
theorem aX_fuel {al : Bool} {k : Nat} : ∀ {n mid : Nat} {t : aS} {r : Option Value × aV}, aX al n mid t = some r → aX al (n + k) mid t = some r
  | 0, _, _, _, h => by cases h
  | n + 1, mid, t, r, h => by
    rw [show n + 1 + k = (n + k) + 1 by omega, aX_s]
    rw [aX_s] at h
    split at h
    · exact aX_fuel h
    · exact h
    · rename_i q hs
      split at h
      · rename_i v hv
        cases hb : Nat.beq q.1 mIsName <;> simp only [hb, cond_true, cond_false] at hv ⊢
        · rw [aX_fuel hv]
          exact aX_fuel h
        · rw [hv]
          exact aX_fuel h
      · cases h
    · cases h
def aG (mid : Nat) (s : aS) (Q : Option Value × aV → Prop) : Prop := ∃ n r, aX false n mid s = some r ∧ Q r
section AG
variable {mid pc len : Nat} {ls : aL} {st r : List Value} {N : aV} {Q : Option Value × aV → Prop} {s s' : aS}
theorem aG_mono {Q2 : Option Value × aV → Prop} (h : aG mid s Q) (k : ∀ r, Q r → Q2 r) : aG mid s Q2 := by
  obtain ⟨n, r, h1, h2⟩ := h
  exact ⟨n, r, h1, k r h2⟩
theorem aG_step (h : aStp false mid s = some (.inl s')) (k : aG mid s' Q) : aG mid s Q := by
  obtain ⟨n, r, h1, h2⟩ := k
  exact ⟨n + 1, r, by rw [aX_s, h]; exact h1, h2⟩
def aRn (mid : Nat) : Nat → aS → Option aS
  | 0, s => some s
  | k + 1, s => match aStp false mid s with
    | some (.inl s') => aRn mid k s'
    | _ => none
theorem aG_n (n : Nat) (h : aRn mid n s = some s') (k : aG mid s' Q) : aG mid s Q := by
  induction n generalizing s with
  | zero => cases h; exact k
  | succ n ih =>
    unfold aRn at h
    split at h
    · rename_i s2 hs
      exact aG_step hs (ih h)
    · cases h
theorem aG_end {r : Option Value × aV} (h : aStp false mid s = some (.inr (.inl r))) (k : Q r) : aG mid s Q := ⟨1, r, by rw [aX_s, h], k⟩
theorem aG_call {q : Nat × List Value × aS} (h : aStp false mid s = some (.inr (.inr q))) (hn : Nat.beq q.1 mIsName = false) (k : aG q.1 (aEn q.1 q.2.1 q.2.2.2.2.2) (fun v => aG mid (q.2.2.1, q.2.2.2.1, v.1.toList ++ q.2.2.2.2.1, v.2) Q)) : aG mid s Q := by
  obtain ⟨n1, v, h1, n2, r, h2, h3⟩ := k
  refine ⟨(n1 + n2) + 1, r, ?_, h3⟩
  rw [aX_s, h]
  simp only [hn, cond_false]
  rw [aX_fuel (k := n2) h1]
  have := aX_fuel (k := n1) h2
  rwa [Nat.add_comm] at this
theorem aG_name {q : Nat × List Value × aS} {v : Option Value × aV} (h : aStp false mid s = some (.inr (.inr q))) (hn : Nat.beq q.1 mIsName = true) (hv : aNm q.2.1 q.2.2.2.2.2 = some v) (k : aG mid (q.2.2.1, q.2.2.2.1, v.1.toList ++ q.2.2.2.2.1, v.2) Q) : aG mid s Q := by
  obtain ⟨n2, r, h2, h3⟩ := k
  refine ⟨n2 + 1, r, ?_, h3⟩
  rw [aX_s, h]
  simp only [hn, cond_true, hv]
  exact h2
/-! locals may be forgotten -/
def aLe (a b : aL) : Prop := a.length = b.length ∧ ∀ (i : Nat) (v : Value), a[i]? = some (some v) → b[i]? = some (some v)
theorem aClr_keep {ls : aL} {i j : Nat} {w : Value} (h : ls[j]? = some (some w)) (hn : ¬ (j + 1 = i ∧ w.category = 2)) : (aClr ls i)[j]? = some (some w) := by
  cases i with
  | zero => exact h
  | succ k =>
    rw [aClr_s]
    split
    · rename_i v hv
      by_cases hc : v.category = 2
      · have hb : Nat.beq v.category 2 = true := by rw [hc]; rfl
        rw [hb]
        show (ls.set k none)[j]? = _
        by_cases hj : j = k
        · subst hj
          rw [hv] at h
          cases h
          exact absurd ⟨rfl, hc⟩ hn
        · rw [List.getElem?_set_ne (Ne.symm hj)]; exact h
      · have hb : Nat.beq v.category 2 = false := by
          cases hq : Nat.beq v.category 2
          · rfl
          · exact absurd (Nat.eq_of_beq_eq_true hq) hc
        rw [hb]; exact h
    · exact h
theorem aLe_ld {a b : aL} {i : Nat} {v : Value} (h : aLe a b) (hv : aLd a i = some v) : aLd b i = some v := by
  have := h.2 i v (aLd_at hv)
  unfold aLd
  rw [this]
theorem aLe_set {a b : aL} {i : Nat} {v : Value} (h : aLe a b) : aLe ((aClr a i).set i (some v)) ((aClr b i).set i (some v)) := by
  refine ⟨by simp [aClr_len, h.1], fun j w hj => ?_⟩
  by_cases hji : j = i
  · subst hji
    by_cases hl : j < a.length
    · rw [List.getElem?_set_self (by rw [aClr_len]; exact hl)] at hj
      rw [List.getElem?_set_self (by rw [aClr_len, ← h.1]; exact hl)]
      exact hj
    · rw [List.getElem?_eq_none (by rw [List.length_set, aClr_len]; omega)] at hj
      cases hj
  · rw [List.getElem?_set_ne (Ne.symm hji)] at hj ⊢
    obtain ⟨a1, a2⟩ := aClr_at hj
    exact aClr_keep (h.2 j w a1) a2
theorem aLe_setn {a b : aL} {i : Nat} (h : aLe a b) : aLe (a.set i none) (b.set i none) := by
  refine ⟨by simp [h.1], fun j w hj => ?_⟩
  by_cases hji : j = i
  · subst hji
    by_cases hl : j < a.length
    · rw [List.getElem?_set_self hl] at hj; cases hj
    · rw [List.getElem?_eq_none (by rw [List.length_set]; omega)] at hj; cases hj
  · rw [List.getElem?_set_ne (Ne.symm hji)] at hj ⊢
    exact h.2 j w hj
theorem aLe_loc {op : Instr} {a b : aL} {st : List Value} {q : aL × List Value} (h : aLe a b) (hq : aLoc op a st = some q) : ∃ b', aLoc op b st = some (b', q.2) ∧ aLe q.1 b' := by
  unfold aLoc at hq
  split at hq
  · split at hq
    · rename_i x hx; cases hq; exact ⟨b, by simp only [aLoc, aLe_ld h hx], h⟩
    · cases hq
  · split at hq
    · rename_i x hx; cases hq; exact ⟨b, by simp only [aLoc, aLe_ld h hx], h⟩
    · cases hq
  · split at hq
    · rename_i x hx; cases hq; exact ⟨b, by simp only [aLoc, aLe_ld h hx], h⟩
    · cases hq
  · obtain ⟨h1, rfl⟩ := aq_bif hq
    rw [h.1] at h1
    exact ⟨_, by simp only [aLoc, h1, cond_true], aLe_set h⟩
  · obtain ⟨h1, rfl⟩ := aq_bif hq
    rw [h.1] at h1
    exact ⟨_, by simp only [aLoc, h1, cond_true], aLe_set h⟩
  · obtain ⟨h1, rfl⟩ := aq_bif hq
    rw [h.1] at h1
    exact ⟨_, by simp only [aLoc, h1, cond_true], aLe_setn (aLe_set h)⟩
  · split at hq
    · rename_i x hx; cases hq; exact ⟨_, by simp only [aLoc, aLe_ld h hx], aLe_set h⟩
    · cases hq
  · cases hq
theorem aX_le : ∀ {n mid : Nat} {pc : Nat} {a b : aL} {st : List Value} {N : aV} {r : Option Value × aV}, aLe a b → aX false n mid (pc, a, st, N) = some r → aX false n mid (pc, b, st, N) = some r
  | 0, _, _, _, _, _, _, _, _, h => by cases h
  | n + 1, mid, pc, a, b, st, N, r, hle, h => by
    rw [aX_s] at h ⊢
    have key : ∀ {x : aR}, aStp false mid (pc, a, st, N) = some x → (∃ pc' a' b' st' N', x = .inl (pc', a', st', N') ∧ aStp false mid (pc, b, st, N) = some (.inl (pc', b', st', N')) ∧ aLe a' b') ∨ (∃ q, x = .inr (.inl q) ∧ aStp false mid (pc, b, st, N) = some x) ∨ (∃ m' as pc' st', x = .inr (.inr (m', as, pc', a, st', N)) ∧ aStp false mid (pc, b, st, N) = some (.inr (.inr (m', as, pc', b, st', N)))) := by
      intro x hx
      unfold aStp at hx ⊢
      split at hx
      · rename_i q hq
        rw [show aAt (mK mid) (pc, b, st, N).1 = some q from hq]
        dsimp only
        unfold aOp at hx ⊢
        dsimp only at hx ⊢
        split at hx
        · split at hx
          · rename_i st' hs'; cases hx; exact Or.inl ⟨_, a, b, _, _, rfl, by simp only [hs'], hle⟩
          · cases hx
        · split at hx
          · rename_i q' hs'; cases hx
            obtain ⟨b', h1, h2⟩ := aLe_loc hle hs'
            exact Or.inl ⟨_, _, b', _, _, rfl, by simp only [h1], h2⟩
          · cases hx
        · split at hx
          · rename_i st' hs'; cases hx; exact Or.inl ⟨_, a, b, _, _, rfl, by simp only [hs'], hle⟩
          · cases hx
        · split at hx
          · rename_i st' hs'; cases hx; exact Or.inl ⟨_, a, b, _, _, rfl, by simp only [hs'], hle⟩
          · cases hx
        · split at hx
          · rename_i st' hs'; cases hx; exact Or.inr (Or.inr ⟨_, _, _, _, rfl, by simp only [hs']⟩)
          · cases hx
        · split at hx
          · rename_i st' hs'; cases hx; exact Or.inr (Or.inl ⟨_, rfl, by simp only [hs']⟩)
          · cases hx
        · split at hx
          · rename_i st' hs'; cases hx; exact Or.inl ⟨_, a, b, _, _, rfl, by simp only [hs'], hle⟩
          · cases hx
      · cases hx
    cases hs : aStp false mid (pc, a, st, N) with
    | none => rw [hs] at h; cases h
    | some x =>
      rw [hs] at h
      rcases key hs with ⟨pc', a', b', st', N', rfl, h1, h2⟩ | ⟨q, rfl, h1⟩ | ⟨m', as, pc', st', rfl, h1⟩
      · rw [h1]; exact aX_le h2 h
      · rw [h1]; exact h
      · rw [h1]
        dsimp only at h ⊢
        split at h
        · rename_i v hv
          exact aX_le hle h
        · cases h
def aLeR : aL → aL → Prop
  | [], [] => True
  | none :: a, _ :: b => aLeR a b
  | some v :: a, w :: b => w = some v ∧ aLeR a b
  | _, _ => False
theorem aLeR_le : ∀ {a b : aL}, aLeR a b → aLe a b
  | [], [], _ => ⟨rfl, fun i v h => by cases h⟩
  | none :: a, w :: b, h => by
    have ih := aLeR_le (a := a) (b := b) h
    refine ⟨by simp [ih.1], fun i v hi => ?_⟩
    match i, hi with
    | 0, hi => cases hi
    | i + 1, hi => exact ih.2 i v hi
  | some v :: a, w :: b, h => by
    obtain ⟨rfl, h⟩ := h
    have ih := aLeR_le (a := a) (b := b) h
    refine ⟨by simp [ih.1], fun i v hi => ?_⟩
    match i, hi with
    | 0, hi => exact hi
    | i + 1, hi => exact ih.2 i v hi
  | [], _ :: _, h => h.elim
  | none :: _, [], h => h.elim
  | some _ :: _, [], h => h.elim
theorem aG_le {a b : aL} (h : aLeR a b) (k : aG mid (pc, a, st, N) Q) : aG mid (pc, b, st, N) Q := by
  obtain ⟨n, r, h1, h2⟩ := k
  exact ⟨n, r, aX_le (aLeR_le h) h1, h2⟩
/-! one instruction -/
theorem aStp_at {op : Instr} (h : aAt (mK mid) pc = some (op, len)) : aStp false mid (pc, ls, st, N) = aOp false mid op len (pc, ls, st, N) := by
  unfold aStp
  simp only [h]
theorem aG_get {a f n : Nat} (h : aAt (mK mid) pc = some (.getfield f, 3)) (hs : N.1[a]? = some (f / 100, n)) (hj : Nat.blt (f % 100) n = true) (hk : aFk (f / 100) (f % 100) = 0) (k : aG mid (pc + 3, ls, .int (N.2.1 a (f % 100)) :: r, N) Q) : aG mid (pc, ls, .ref a :: r, N) Q := by
  refine aG_step ?_ k
  rw [aStp_at h]
  simp [aOp, aGrp, aMem, aGet, hs, hj, hk]
theorem aG_getL {a f n : Nat} (h : aAt (mK mid) pc = some (.getfield f, 3)) (hs : N.1[a]? = some (f / 100, n)) (hj : Nat.blt (f % 100) n = true) (hk : aFk (f / 100) (f % 100) = 1) (k : aG mid (pc + 3, ls, .long (N.2.2.1 a (f % 100)) :: r, N) Q) : aG mid (pc, ls, .ref a :: r, N) Q := by
  refine aG_step ?_ k
  rw [aStp_at h]
  simp [aOp, aGrp, aMem, aGet, hs, hj, hk]
theorem aG_getR {a f n b : Nat} (h : aAt (mK mid) pc = some (.getfield f, 3)) (hs : N.1[a]? = some (f / 100, n)) (hj : Nat.blt (f % 100) n = true) (hk : aFk (f / 100) (f % 100) = 2) (hb : N.2.2.2 a (f % 100) = some b) (k : aG mid (pc + 3, ls, .ref b :: r, N) Q) : aG mid (pc, ls, .ref a :: r, N) Q := by
  refine aG_step ?_ k
  rw [aStp_at h]
  simp [aOp, aGrp, aMem, aGet, hs, hj, hk, hb, va_rf]
theorem aG_put {a f n : Nat} {x : Int32} (h : aAt (mK mid) pc = some (.putfield f, 3)) (hs : N.1[a]? = some (f / 100, n)) (hj : Nat.blt (f % 100) n = true) (hk : aFk (f / 100) (f % 100) = 0) (k : aG mid (pc + 3, ls, r, N.1, aUp N.2.1 a (f % 100) x, N.2.2) Q) : aG mid (pc, ls, .int x :: .ref a :: r, N) Q := by
  refine aG_step ?_ k
  rw [aStp_at h]
  simp [aOp, aGrp, aMem, aPut, hs, hj, hk]
theorem aG_putL {a f n : Nat} {x : Int64} (h : aAt (mK mid) pc = some (.putfield f, 3)) (hs : N.1[a]? = some (f / 100, n)) (hj : Nat.blt (f % 100) n = true) (hk : aFk (f / 100) (f % 100) = 1) (k : aG mid (pc + 3, ls, r, N.1, N.2.1, aUp N.2.2.1 a (f % 100) x, N.2.2.2) Q) : aG mid (pc, ls, .long x :: .ref a :: r, N) Q := by
  refine aG_step ?_ k
  rw [aStp_at h]
  simp [aOp, aGrp, aMem, aPut, hs, hj, hk]
theorem aG_putR {a f n x : Nat} (h : aAt (mK mid) pc = some (.putfield f, 3)) (hs : N.1[a]? = some (f / 100, n)) (hj : Nat.blt (f % 100) n = true) (hk : aFk (f / 100) (f % 100) = 2) (k : aG mid (pc + 3, ls, r, N.1, N.2.1, N.2.2.1, aUp N.2.2.2 a (f % 100) (some x)) Q) : aG mid (pc, ls, .ref x :: .ref a :: r, N) Q := by
  refine aG_step ?_ k
  rw [aStp_at h]
  simp [aOp, aGrp, aMem, aPut, hs, hj, hk]
theorem aG_iald {a n : Nat} {i : Int32} (h : aAt (mK mid) pc = some (.iaload, 1)) (hs : N.1[a]? = some (20, n)) (hN : Nat.ble N.1.length 1000000 = true) (hi : vp_in i n) (k : aG mid (pc + 1, ls, .int (N.2.1 a i.toNatClampNeg) :: r, N) Q) : aG mid (pc, ls, .int i :: .ref a :: r, N) Q := by
  refine aG_step ?_ k
  rw [aStp_at h]
  have hl : a < N.1.length := (List.getElem?_eq_some_iff.mp hs).1
  rw [Nat.ble_eq] at hN
  have hb : Nat.ble 1000000 a = false := by
    cases hq : Nat.ble 1000000 a
    · rfl
    · rw [Nat.ble_eq] at hq; omega
  simp [aOp, aGrp, aMem, hs, hb, aIn_of hi]
theorem aG_sald {w : Nat} {i : Int32} (h : aAt (mK mid) pc = some (.iaload, 1)) (hw : Nat.blt w 2 = true) (hi : vp_in i 16) (k : aG mid (pc + 1, ls, .int (aA w i.toNatClampNeg) :: r, N) Q) : aG mid (pc, ls, .int i :: .ref (1000000 + w) :: r, N) Q := by
  refine aG_step ?_ k
  rw [aStp_at h]
  rw [Nat.blt_eq] at hw
  have h1 : Nat.ble 1000000 (1000000 + w) = true := by rw [Nat.ble_eq]; omega
  have h2 : Nat.blt (1000000 + w) 1000002 = true := by rw [Nat.blt_eq]; omega
  simp [aOp, aGrp, aMem, h1, h2, aIn_of hi]
theorem aG_bald {a n : Nat} {i : Int32} (h : aAt (mK mid) pc = some (.baload, 1)) (hs : N.1[a]? = some (21, n)) (hi : vp_in i n) (k : aG mid (pc + 1, ls, .int (N.2.1 a i.toNatClampNeg) :: r, N) Q) : aG mid (pc, ls, .int i :: .ref a :: r, N) Q := by
  refine aG_step ?_ k
  rw [aStp_at h]
  simp [aOp, aGrp, aMem, hs, aIn_of hi]
theorem aG_lald {a n : Nat} {i : Int32} (h : aAt (mK mid) pc = some (.laload, 1)) (hs : N.1[a]? = some (22, n)) (hi : vp_in i n) (k : aG mid (pc + 1, ls, .long (N.2.2.1 a i.toNatClampNeg) :: r, N) Q) : aG mid (pc, ls, .int i :: .ref a :: r, N) Q := by
  refine aG_step ?_ k
  rw [aStp_at h]
  simp [aOp, aGrp, aMem, hs, aIn_of hi]
theorem aG_aald {a n kd b : Nat} {i : Int32} (h : aAt (mK mid) pc = some (.aaload, 1)) (hs : N.1[a]? = some (kd, n)) (hk : (Nat.blt 22 kd && Nat.blt kd 27) = true) (hi : vp_in i n) (hb : N.2.2.2 a i.toNatClampNeg = some b) (k : aG mid (pc + 1, ls, .ref b :: r, N) Q) : aG mid (pc, ls, .int i :: .ref a :: r, N) Q := by
  refine aG_step ?_ k
  rw [aStp_at h]
  simp [aOp, aGrp, aMem, hs, hk, aIn_of hi, hb, va_rf]
theorem aG_iast {a n : Nat} {i x : Int32} (h : aAt (mK mid) pc = some (.iastore, 1)) (hs : N.1[a]? = some (20, n)) (hi : vp_in i n) (k : aG mid (pc + 1, ls, r, N.1, aUp N.2.1 a i.toNatClampNeg x, N.2.2) Q) : aG mid (pc, ls, .int x :: .int i :: .ref a :: r, N) Q := by
  refine aG_step ?_ k
  rw [aStp_at h]
  simp [aOp, aGrp, aMem, hs, aIn_of hi]
theorem aG_bast {a n : Nat} {i x : Int32} (h : aAt (mK mid) pc = some (.bastore, 1)) (hs : N.1[a]? = some (21, n)) (hi : vp_in i n) (k : aG mid (pc + 1, ls, r, N.1, aUp N.2.1 a i.toNatClampNeg x.toInt8.toInt32, N.2.2) Q) : aG mid (pc, ls, .int x :: .int i :: .ref a :: r, N) Q := by
  refine aG_step ?_ k
  rw [aStp_at h]
  simp [aOp, aGrp, aMem, hs, aIn_of hi]
theorem aG_last {a n : Nat} {i : Int32} {x : Int64} (h : aAt (mK mid) pc = some (.lastore, 1)) (hs : N.1[a]? = some (22, n)) (hi : vp_in i n) (k : aG mid (pc + 1, ls, r, N.1, N.2.1, aUp N.2.2.1 a i.toNatClampNeg x, N.2.2.2) Q) : aG mid (pc, ls, .long x :: .int i :: .ref a :: r, N) Q := by
  refine aG_step ?_ k
  rw [aStp_at h]
  simp [aOp, aGrp, aMem, hs, aIn_of hi]
theorem aG_alen {a n : Nat} (h : aAt (mK mid) pc = some (.arraylength, 1)) (hs : N.1[a]? = some (20, n)) (k : aG mid (pc + 1, ls, .int (nI n) :: r, N) Q) : aG mid (pc, ls, .ref a :: r, N) Q := by
  refine aG_step ?_ k
  rw [aStp_at h]
  simp [aOp, aGrp, aMem, hs]
  rfl
theorem aG_div {x y : Int32} (h : aAt (mK mid) pc = some (.idiv, 1)) (hy : ¬ y = 0) (k : aG mid (pc + 1, ls, .int (x / y) :: r, N) Q) : aG mid (pc, ls, .int y :: .int x :: r, N) Q := by
  refine aG_step ?_ k
  rw [aStp_at h]
  simp [aOp, aGrp, aPure, hy]
theorem aG_rem {x y : Int32} (h : aAt (mK mid) pc = some (.irem, 1)) (hy : ¬ y = 0) (k : aG mid (pc + 1, ls, .int (x - x / y * y) :: r, N) Q) : aG mid (pc, ls, .int y :: .int x :: r, N) Q := by
  refine aG_step ?_ k
  rw [aStp_at h]
  simp [aOp, aGrp, aPure, hy]
theorem aG_if {cd : ClassFile.Cond} {off : Int} {x : Int32} {b : Bool} (hb : aT cd x (nI 0) = b) (h : aAt (mK mid) pc = some (.ifCond cd off, 3)) (k : aG mid (bif b then aJ pc off else pc + 3, ls, r, N) Q) : aG mid (pc, ls, .int x :: r, N) Q := by
  refine aG_step ?_ k
  rw [aStp_at h]
  simp [aOp, aGrp, aBr, hb]
theorem aG_icmp {cd : ClassFile.Cond} {off : Int} {x y : Int32} {b : Bool} (hb : aT cd x y = b) (h : aAt (mK mid) pc = some (.if_icmp cd off, 3)) (k : aG mid (bif b then aJ pc off else pc + 3, ls, r, N) Q) : aG mid (pc, ls, .int y :: .int x :: r, N) Q := by
  refine aG_step ?_ k
  rw [aStp_at h]
  simp [aOp, aGrp, aBr, hb]
theorem aG_tbl {d lo hi off : Int} {os : Array Int} {x : Int32} (h : aAt (mK mid) pc = some (.tableswitch d lo hi os, len)) (h1 : ¬ (x.toInt < lo ∨ hi < x.toInt)) (h2 : os[(x.toInt - lo).toNat]? = some off) (k : aG mid (aJ pc off, ls, r, N) Q) : aG mid (pc, ls, .int x :: r, N) Q := by
  refine aG_step ?_ k
  rw [aStp_at h]
  simp only [aOp, aGrp, aBr, if_neg h1, h2]
theorem aG_tbd {d lo hi : Int} {os : Array Int} {x : Int32} (h : aAt (mK mid) pc = some (.tableswitch d lo hi os, len)) (h1 : x.toInt < lo ∨ hi < x.toInt) (k : aG mid (aJ pc d, ls, r, N) Q) : aG mid (pc, ls, .int x :: r, N) Q := by
  refine aG_step ?_ k
  rw [aStp_at h]
  simp only [aOp, aGrp, aBr, if_pos h1]
theorem aG_lks {d off : Int} {ps : Array (Int × Int)} {x : Int32} (h : aAt (mK mid) pc = some (.lookupswitch d ps, len)) (h1 : Op.lookupswitch.offset ps.toList d x.toInt = off) (k : aG mid (aJ pc off, ls, r, N) Q) : aG mid (pc, ls, .int x :: r, N) Q := by
  refine aG_step ?_ k
  rw [aStp_at h]
  simp only [aOp, aGrp, aBr, h1]
theorem aG_ivv {m' b n : Nat} {rest : List Value} (h : aAt (mK mid) pc = some (.invokevirtual m', 3)) (hd : st.drop (mA m') = .ref b :: rest) (hs : N.1[b]? = some (mC m', n)) (hc : (Nat.ble 2 (mKd m') && Nat.blt m' mNm && aOkC mid m' (st.take (mA m')) rest && Nat.ble (aSl (.ref b :: (st.take (mA m')).reverse)).length (mL m')) = true) (hn : Nat.beq m' mIsName = false)
    (k : aG m' (aEn m' (.ref b :: (st.take (mA m')).reverse) N) (fun v => aG mid (pc + 3, ls, v.1.toList ++ rest, v.2) Q)) : aG mid (pc, ls, st, N) Q := by
  refine aG_call (q := (m', .ref b :: (st.take (mA m')).reverse, pc + 3, ls, rest, N)) ?_ hn k
  rw [aStp_at h]
  simp only [Bool.and_eq_true] at hc
  obtain ⟨⟨⟨h1, h2⟩, h3⟩, h4⟩ := hc
  have hb : Nat.beq (mC m') (mC m') = true := by rw [Nat.beq_eq]
  simp only [aOp, aGrp, aCal, hd, hs, h1, h2, h3, h4, hb, Bool.and_true, cond_true, Bool.true_and]
theorem aG_ret0 {x : Int32} (h : aAt (mK mid) pc = some (.ireturn, 1)) (hr : mR mid = some .int) (k : Q (some (.int x), N)) : aG mid (pc, ls, [.int x], N) Q := by
  refine aG_end ?_ k
  rw [aStp_at h]
  simp [aOp, aGrp, aRet, hr]
theorem aG_retZ {x : Int32} (h : aAt (mK mid) pc = some (.ireturn, 1)) (hr : mR mid = some .boolean) (hx : x = nI 0 ∨ x = nI 1) (k : Q (some (.int x), N)) : aG mid (pc, ls, [.int x], N) Q := by
  refine aG_end ?_ k
  rw [aStp_at h]
  rcases hx with rfl | rfl <;> simp [aOp, aGrp, aRet, hr] <;> rfl
theorem aG_retL {x : Int64} (h : aAt (mK mid) pc = some (.lreturn, 1)) (hr : mR mid = some .long) (k : Q (some (.long x), N)) : aG mid (pc, ls, [.long x], N) Q := by
  refine aG_end ?_ k
  rw [aStp_at h]
  simp [aOp, aGrp, aRet, hr]
theorem aG_retV (h : aAt (mK mid) pc = some (.return_, 1)) (hr : mR mid = none) (k : Q (none, N)) : aG mid (pc, ls, [], N) Q := by
  refine aG_end ?_ k
  rw [aStp_at h]
  simp [aOp, aGrp, aRet, hr]
end AG
