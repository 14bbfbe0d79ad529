/-! the law's start: the two objects are made -/
theorem arrV_cong {cA : ClassId} {n : Nat} {f g : Nat → Value} (h : ∀ j, j < n → f j = g j) : arrV cA n f = arrV cA n g := by
  have e : (fun j : Fin n => f j.val) = fun j => g j.val := funext fun j => h j.val j.isLt
  unfold arrV
  rw [e]
theorem aP_congr {D : va_G} {dA : Nat → ClassId} {ad : Nat → Nat} {N N' : aV} {H : Heap} (hs : N'.1 = N.1) (h1 : N'.2.1 = N.2.1) (h2 : N'.2.2.1 = N.2.2.1) (h3 : ∀ (a : Nat) (e : Nat × Nat), N.1[a]? = some e → isRefRow e.1 = true → ∀ j, j < e.2 → N'.2.2.2 a j = N.2.2.2 a j) (h : va_P D vwCl (aWl dA ad N) H) : va_P D vwCl (aWl dA ad N') H := by
  intro k q hq
  have hk := (aWl_at hq).1
  rw [hs] at hk
  have he : N.1[k]? = some (N.1.getD k (0, 0)) := by simp [List.getD, List.getElem?_eq_getElem hk]
  generalize N.1.getD k (0, 0) = e at he
  have hg := h k _ (aWl_get (dA := dA) (ad := ad) he)
  rw [aWl_get (dA := dA) (ad := ad) (e := e) (by rw [hs]; exact he)] at hq
  obtain rfl := Option.some.inj hq
  obtain ⟨c, n⟩ := e
  have h3' := h3 k (c, n) he
  by_cases c1 : c < 12
  · have hf : (List.range n).map (aFv ad N' c k) = (List.range n).map (aFv ad N c k) := by
      apply List.map_congr_left
      intro j hj
      have hj2 : j < n := List.mem_range.mp hj
      unfold aFv
      rw [h1, h2, h3' (by unfold isRefRow; simp [Nat.blt_eq, c1]) j hj2]
    rw [aE_obj c1] at hg ⊢
    rw [hf]
    exact hg
  · by_cases c2 : 22 < c
    · rw [aE_ref c2] at hg ⊢
      have hg2 : H[ad k]? = some (arrV (dA c) n (fun j => va_rf ((N.2.2.2 k j).map ad))) := hg
      show H[ad k]? = some (arrV (dA c) n (fun j => va_rf ((N'.2.2.2 k j).map ad)))
      exact hg2.trans (congrArg some (arrV_cong (fun j hj => by rw [h3' (by unfold isRefRow; simp [Nat.blt_eq, c2]) j hj])))
    · have e1 : aE dA ad N' k (c, n) = aE dA ad N k (c, n) := by
        unfold aE
        rw [if_neg c1, if_neg c1]
        by_cases c3 : c < 22
        · rw [if_pos c3, if_pos c3, h1]
        · rw [if_neg c3, if_neg c3, if_pos (by dsimp only; omega), if_pos (by dsimp only; omega), h2]
      rw [e1]
      exact hg
theorem aD_congr {dA : Nat → ClassId} {ad : Nat → Nat} {N N' : aV} {A : Nat → Prop} (hs : N'.1 = N.1) (h : va_D A (aWl dA ad N)) : va_D A (aWl dA ad N') := by
  have key : ∀ (k : Nat) (q : Nat × va_E), (aWl dA ad N')[k]? = some q → ∃ q2 : Nat × va_E, (aWl dA ad N)[k]? = some q2 ∧ q2.1 = q.1 := by
    intro k q hq
    obtain ⟨hk, rfl⟩ := aWl_at hq
    rw [hs] at hk
    exact ⟨_, aWl_get (e := N.1.getD k (0, 0)) (by simp [List.getD, List.getElem?_eq_getElem hk]), rfl⟩
  refine ⟨fun i j x y hx hy hxy => ?_, fun k q hq => ?_⟩
  · obtain ⟨x2, hx2, ex⟩ := key i x hx
    obtain ⟨y2, hy2, ey⟩ := key j y hy
    exact h.1 i j x2 y2 hx2 hy2 (by rw [ex, ey, hxy])
  · obtain ⟨q2, hq2, e⟩ := key k q hq
    rw [← e]
    exact h.2 k q2 hq2
def n0 (ci nf : Nat) : aV := ([(ci, nf)], fun _ _ => 0, fun _ _ => 0, fun _ _ => none)
def adq (q : Nat) (ext : Nat → Nat) (k : Nat) : Nat := if k < 1000000 then q + k else ext k
theorem aWl_n0 {dA : Nat → ClassId} {ad : Nat → Nat} {ci nf : Nat} (h : ci < 12) : aWl dA ad (n0 ci nf) = [(ad 0, .inr (ci, (List.range nf).map (aFv ad (n0 ci nf) ci 0)))] := by
  show [(ad 0, aE dA ad (n0 ci nf) 0 (ci, nf))] = _
  rw [aE_obj h]
section START
variable {p : Program} {l : Launch} {e : Env} {s : State} {m : MethodId} {below : List Frame} {meth : Method} {c : Code} {H : Heap} {locs : List Loc} {cells slots : Nat} {Q : State → Prop}
variable {b : Nat} {D : va_G} {dA : Nat → ClassId} {rl : Array Slot} {pc : Nat}
set_option maxHeartbeats 4000000 in
theorem lnew {ws : va_W} {mid idx ix ci n : Nat} {r : aV} {ext : Nat → Nat} (hx : p.tables.exec = Jvm.exec) (hb : c.code = code) (hml : c.maxLocals = 4) (hown : s.vm.findClass RL = some m.cls) (hts : ∀ w ∈ gw, w.before #[Value.ref b] s = true) (hK : va_K D vwCl (aTys dA) s) (hE : aExt ext (lawA s) s s.heap) (hnm : aNmOk l)
    (hci : ci < 12) (hcl : Jvm.Cond.classLink RL ix (aCl ci).1 ∈ gw) (hm : mid < mNm) (hV : mV mid ≤ 10) (h1 : mKd mid = 1) (hlk : Jvm.Cond.methodLink RL idx (mY mid) ∈ gw) (hA0 : mA mid = 0) (hL0 : 1 ≤ mL mid)
    (hX : aX true n mid (aEn mid [.ref 0] (n0 ci (aNF ci))) = some (none, r)) (hlim : r.1.length < 1000000) (hlen : 1 ≤ r.1.length) (hcz : aNF ci ≤ csz r) (hP : va_P D vwCl ws H) (hD : va_D (lawA s) ws) (hS : va_S (lawA s) s.heap H locs)
    (hz : ∀ q, lawA s q → (∀ (i : Nat) (x : Nat × va_E), ws[i]? = some x → x.1 ≠ q) → s.heap.size + cells ≤ q) (hc : cells + r.1.length ≤ 600000) (hs : slots + csz r ≤ 7302250)
    (hd0 : decode code pc = .ok (.new ix, 3)) (hd1 : decode code (pc + 3) = .ok (.dup, 1)) (hd2 : decode code (pc + 4) = .ok (.invokespecial idx, 3)) (hrl : rl.size = 4)
    (k : ∀ (q : Nat) (H1 : Heap) (locs1 : List Loc), q = s.heap.size + cells → va_P D vwCl ws H1 → va_P D vwCl (aWl dA (adq q ext) r) H1 → va_D (lawA s) (aWl dA (adq q ext) r) → va_S (lawA s) s.heap H1 locs1 → W p l e room_1 s m #[Value.ref b] below meth c H1 locs1 (cells + r.1.length) (slots + csz r) Q (F0 m (pc + 7) rl [.ref q])) : W p l e room_1 s m #[Value.ref b] below meth c H locs cells slots Q (F0 m pc rl []) := by
  obtain ⟨f1, f2, f3, f4, f5, f6, f7, f8⟩ := aMok_f hm
  obtain ⟨g1, g2, g3, g4, g5, g6, g7, g8⟩ := aClF_all hci
  have hA : ∀ q, s.heap.size ≤ q → lawA s q := fun q h => h
  refine va_new hx hb hts g2 (aTyf ci) g3 hown (hts _ hcl) (hts _ g7) (hts _ g8) hK hP hD hS hA g1 (fs := (List.range (aCl ci).2.2).map (aFv ext (n0 ci (aNF ci)) ci 0)) (fun j hj => ?_) (by show cells + 1 ≤ 600000; omega) (by show slots + (aCl ci).2.2 ≤ 7302250; omega) hd0 (fun q H1 h3 h4 h5 => ?_)
  · unfold vp_V
    rw [List.getD, aFs_at hj]
    have hf := g6 j hj
    unfold aFko at hf
    unfold aFv
    split at hf <;> rename_i hk <;> first | (cases hf; done) | skip
    · rw [of_decide_eq_true hf]; simp only [hk, n0]; rfl
    · rw [of_decide_eq_true hf]; simp only [hk, n0]; rfl
    · simp only [hk, n0]
      cases hty : aTyf ci j <;> rw [hty] at hf <;> first | rfl | (cases hf; done)
  · intro T0 hT0 X0
    have hg : (ws ++ [(q, (Sum.inr (ci, (List.range (aCl ci).2.2).map (aFv ext (n0 ci (aNF ci)) ci 0)) : va_E))])[ws.length]? = some (q, Sum.inr (ci, (List.range (aCl ci).2.2).map (aFv ext (n0 ci (aNF ci)) ci 0))) := by
      rw [List.getElem?_append_right (Nat.le_refl _)]
      simp
    have hql : q < H1.size := (h3 _ _ hg).lt
    have hqz : s.heap.size + cells ≤ q := hz q (h4.2 _ _ hg) (fun i x hi hq => by
      have hi2 : i < ws.length := (List.getElem?_eq_some_iff.mp hi).1
      have := h4.1 i ws.length x _ (by rw [List.getElem?_append_left hi2]; exact hi) hg hq
      omega)
    have hsz : T0.heap.size ≤ s.heap.size + (cells + 1) := X0.same.2.2.1
    rw [hT0] at hsz
    have hq : q = s.heap.size + cells := by omega
    have hH1 : H1.size = q + 1 := by omega
    have hne : ∀ (i : Nat) (x : Nat × va_E), ws[i]? = some x → x.1 ≠ q := fun i x hi hq => by
      have hi2 : i < ws.length := (List.getElem?_eq_some_iff.mp hi).1
      have := h4.1 i ws.length x _ (by rw [List.getElem?_append_left hi2]; exact hi) hg hq
      omega
    have hPw : va_P D vwCl ws H1 := fun i x hi => h3 i x (by rw [List.getElem?_append_left (List.getElem?_eq_some_iff.mp hi).1]; exact hi)
    have hfv : ∀ ad : Nat → Nat, aFv ad (n0 ci (aNF ci)) ci 0 = aFv ext (n0 ci (aNF ci)) ci 0 := fun ad => by
      funext j
      unfold aFv
      rfl
    have a0 : adq q ext 0 = q := by simp [adq]
    have eW : aWl dA (adq q ext) (n0 ci (aNF ci)) = [(q, .inr (ci, (List.range (aCl ci).2.2).map (aFv ext (n0 ci (aNF ci)) ci 0)))] := by
      rw [aWl_n0 hci, a0, hfv, g5]
    have hP1 : va_P D vwCl (aWl dA (adq q ext) (n0 ci (aNF ci))) H1 := by
      rw [eW]
      intro i x hi
      have h0 : i = 0 := by
        have := (List.getElem?_eq_some_iff.mp hi).1
        simp at this
        omega
      subst h0
      obtain rfl := Option.some.inj hi
      exact h3 _ _ hg
    have hD1 : va_D (lawA s) (aWl dA (adq q ext) (n0 ci (aNF ci))) := by
      rw [eW]
      refine ⟨fun i j x y hi hj _ => ?_, fun i x hi => ?_⟩
      · have h1 := (List.getElem?_eq_some_iff.mp hi).1
        have h2 := (List.getElem?_eq_some_iff.mp hj).1
        simp at h1 h2
        omega
      · have h0 : i = 0 := by
          have := (List.getElem?_eq_some_iff.mp hi).1
          simp at this
          omega
        subst h0
        obtain rfl := Option.some.inj hi
        exact h4.2 _ _ hg
    have hE1 : aExt (adq q ext) (lawA s) s s.heap := hE.ad (fun k hk => by unfold adq; rw [if_neg (by omega)])
    have hA1 : ∀ x, va_A (aWl dA (adq q ext) (n0 ci (aNF ci))) H1.size x → lawA s x := by
      intro x hx
      rcases hx with ⟨i, e, hx⟩ | hx
      · exact hD1.2 i _ hx
      · exact Nat.le_trans h5.1 hx
    have y5 : mR mid = none ∧ Jvm.Cond.instanceMethod (mY mid) ∈ gw ∧ (mY mid).name = "<init>" := by
      rcases f8 with ⟨f8, -⟩ | ⟨-, f8⟩ | ⟨f8, -⟩
      · omega
      · exact ⟨f8.2.2, f8.1, f8.2.1⟩
      · omega
    have hM : aMet l D dA (adq q ext) true mid [.ref 0] (n0 ci (aNF ci)) H1.size (none, r) := aMet_of (aRun hnm n) hm hX (by show 1 ≤ mL mid; exact hL0) (fun _ => hlim) D dA (adq q ext) H1.size
    have hG := aGood hm
    unfold aMet aWs at hM
    unfold aWs at hG
    rw [y5.1] at hM hG
    have hPre : ∀ U : State, U.heap = H1 → s.WarmedH U.vm → va_Pc ([Value.ref 0].map (aTv (adq q ext))) (aPc D dA (adq q ext) true (n0 ci (aNF ci)) H1.size) ([Value.ref 0].map (aTv (adq q ext))).toArray U := by
      intro U hU hWm
      refine ⟨rfl, by rw [hU], by rw [hU]; exact hP1, hD1.self, va_K.moved hWm.alike hK, ?_, fun _ => ⟨fun k hk => ?_, ?_, ?_⟩⟩
      · rw [hU]
        exact ((hE1.kept h5.2.1).narrow hA1).warm hWm
      · unfold adq; rw [if_pos hk]; simp
      · rw [a0]; exact hH1
      · show 0 < 1; decide
    have ecs : csz (n0 ci (aNF ci)) = aNF ci := by unfold csz n0; simp
    have eln : (n0 ci (aNF ci)).1.length = 1 := rfl
    have e1 : cells + 1 + (r.1.length - (n0 ci (aNF ci)).1.length) = cells + r.1.length := by rw [eln]; omega
    have e2 : slots + (aCl ci).2.2 + (csz r - csz (n0 ci (aNF ci))) = slots + csz r := by rw [ecs]; omega
    have hR := va_runI (e := e) (s := s) (locs := locs) (cells := cells + 1) (slots := slots + (aCl ci).2.2) (H := H1) (below := below) (meth := meth) (R := room_1) (b := adq q ext 0) (As := []) (rest := [.ref q]) (g := F0 m (pc + 4) rl [.ref q, .ref q]) (n := mA mid) ⟨hx, hb, hml, hown, hts⟩ hM ⟨callB_of (mA mid) hts hG rfl rfl rfl (hts _ f2) (hts _ hlk) f5 ⟨by show mV mid + 1 ≤ 12; omega, by show 8 + (mL mid + 11) + 32 * mV mid ≤ 430; omega⟩, y5.2.2, hts _ y5.2.1⟩ ⟨aPc_blind, hPre⟩ rfl (by rw [hA0]; rfl) hrl (by rw [a0]; rfl) (lv_room (Nat.le_of_ble_eq_true rfl)) hd2 ⟨by show cells + 1 + (r.1.length - (n0 ci (aNF ci)).1.length) ≤ 600000; omega, by show slots + (aCl ci).2.2 + (csz r - csz (n0 ci (aNF ci))) ≤ 7302250; omega⟩
    refine (lv_dup hx hb hd1 rfl ?_) T0 hT0 X0
    intro T hT X
    obtain ⟨v, st₀, t, T', Lc, h0, X', hL, e3, e4, ⟨hv, hP2, hD2, hz2, hk2⟩, st⟩ := hR T hT X
    cases hv
    rw [h0] at hz2 hk2
    rw [e1, e2] at X'
    obtain ⟨t2, a1, b1⟩ := k q T'.heap (locs ++ Lc) hq (hPw.kept (fun i x hi => by
      rw [e3]
      refine hk2 x.1 ((hPw i x hi).lt) (fun z => ?_)
      rcases z with ⟨j, e, z⟩ | z
      · rw [eW] at z
        have h0 : j = 0 := by
          have := (List.getElem?_eq_some_iff.mp z).1
          simp at this
          omega
        subst h0
        have := Option.some.inj z
        exact hne i x hi (congrArg Prod.fst this).symm
      · have := (hPw i x hi).lt
        omega)) (by rw [e3]; exact hP2) (hD2.weaken (fun k q _ h => hA1 q.1 h)) ⟨Nat.le_trans h5.1 (by rw [e3]; exact hz2), fun q h1 h2 => by rw [e3, hk2 q (Nat.lt_of_lt_of_le h1 h5.1) (fun z => h2 (hA1 q z))]; exact h5.2.1 q h1 h2, fun q hq => by
      rcases List.mem_append.mp hq with h | h
      · exact h5.2.2 q h
      · exact hA1 _ (hL q h)⟩ T' rfl X'
    exact ⟨t2, st t2 a1, b1⟩
theorem all_range {n : Nat} {f : Nat → Bool} (h : (List.range n).all f = true) {j : Nat} (hj : j < n) : f j = true := List.all_eq_true.mp h j (List.mem_range.mpr hj)
theorem iX_get : ∃ N : aV, iX = some (none, N) ∧ chkX N = true := by
  have h := iX_ok
  generalize iX = o at h ⊢
  rcases o with _ | ⟨_ | v, N⟩
  · cases h
  · exact ⟨N, rfl, h⟩
  · cases h
theorem iM_get : ∃ N : aV, iM = some (none, N) ∧ chkM N = true := by
  have h := iM_ok
  generalize iM = o at h ⊢
  rcases o with _ | ⟨_ | v, N⟩
  · cases h
  · exact ⟨N, rfl, h⟩
  · cases h
theorem chkX_sh {N : aV} (h : chkX N = true) : N.1 = shX ∧ ∀ (a : Nat) (e : Nat × Nat), N.1[a]? = some e → isRefRow e.1 = true → ∀ j, j < e.2 → rX (fun _ => 33) a j = N.2.2.2 a j := by
  unfold chkX at h
  simp only [Bool.and_eq_true] at h
  obtain ⟨⟨⟨⟨⟨⟨⟨⟨⟨⟨⟨⟨⟨⟨⟨h1, h2⟩, -⟩, -⟩, -⟩, -⟩, -⟩, -⟩, -⟩, -⟩, -⟩, -⟩, -⟩, -⟩, -⟩, -⟩ := h
  have e1 := of_decide_eq_true h1
  refine ⟨e1, fun a e ha hr j hj => ?_⟩
  rw [e1] at ha
  have hl : a < 79 := (List.getElem?_eq_some_iff.mp ha).1
  have h3 := all_range h2 hl
  have e2 : shX.getD a (0, 0) = e := by rw [List.getD, ha]; rfl
  rw [e2, hr] at h3
  exact (of_decide_eq_true (all_range h3 hj)).symm
theorem shM_ref : ∀ a, a < 43 → a ≠ 0 → isRefRow (shM.getD a (0, 0)).1 = false := by decide
theorem chkM_sh {N : aV} (h : chkM N = true) : N.1 = shM ∧ ∀ (a : Nat) (e : Nat × Nat), N.1[a]? = some e → isRefRow e.1 = true → ∀ j, j < e.2 → rM a j = N.2.2.2 a j := by
  unfold chkM at h
  simp only [Bool.and_eq_true] at h
  obtain ⟨⟨⟨⟨⟨h1, h2⟩, -⟩, -⟩, -⟩, -⟩ := h
  have e1 := of_decide_eq_true h1
  refine ⟨e1, fun a e ha hr j hj => ?_⟩
  rw [e1] at ha
  have hl : a < 43 := (List.getElem?_eq_some_iff.mp ha).1
  have e2 : shM.getD a (0, 0) = e := by rw [List.getD, ha]; rfl
  by_cases h0 : a = 0
  · subst h0
    have e3 : e = (11, 60) := by rw [← e2]; rfl
    subst e3
    exact (of_decide_eq_true (all_range h2 hj)).symm
  · have := shM_ref a hl h0
    rw [e2, hr] at this
    cases this
set_option maxHeartbeats 4000000 in
theorem start_of {Inv : wM → wM → Prop} (hI : lawOk Inv) (hI0 : ∀ N NM : aV, chkX N = true → chkM NM = true → Inv (N.2.1, N.2.2.1, fun _ => 33) (NM.2.1, NM.2.2.1, fun _ => 0)) {L : Nat} {xs : Nat → Int32} (hL : L ≤ 3072) (hat : lw_At p s m meth c b L xs) : W p l e room_1 s m #[Value.ref b] below meth c s.heap [] 0 0 (lw_Z below #[Value.ref b] s) (entryFrame m ([Value.ref b] : List Value).toArray 4) := by
  obtain ⟨hx, hb, hr, hml, hown, hts0, hX, hbl, hlocks, hgv⟩ := hat
  have hts : ∀ w ∈ gw, w.before #[Value.ref b] s = true := fun w hw => hts0 w (vx_gw hw).1
  obtain ⟨D, dA, hK⟩ := law_K hts0
  obtain ⟨ext, hE⟩ := law_E hts0 hgv
  obtain ⟨NX, hiX, hcX⟩ := iX_get
  obtain ⟨NM, hiM, hcM⟩ := iM_get
  obtain ⟨sX, rfX⟩ := chkX_sh hcX
  obtain ⟨sM, rfM⟩ := chkM_sh hcM
  have lX : NX.1.length = 79 := by rw [sX]; rfl
  have lM : NM.1.length = 43 := by rw [sM]; rfl
  have cX : csz NX = csz (mkX (NX.2.1, NX.2.2.1, fun _ => 33)) := by unfold csz mkX; rw [sX]
  have cX2 : csz NX = (shX.map (·.2)).sum := by unfold csz; rw [sX]
  have cM2 : csz NM = (shM.map (·.2)).sum := by unfold csz; rw [sM]
  have cX3 : (shX.map (·.2)).sum ≤ 1000000 ∧ 9 ≤ (shX.map (·.2)).sum := by decide
  have cM3 : (shM.map (·.2)).sum ≤ 1000000 ∧ 60 ≤ (shM.map (·.2)).sum := by decide
  have eX : n0 10 (aNF 10) = n0X := rfl
  have eM : n0 11 (aNF 11) = n0M := rfl
  rw [lg_entry_eq]
  have hl0 := lv_entry [Value.ref b] (n := 4) (Nat.le_of_ble_eq_true rfl)
  generalize ((lg_sl [Value.ref b] ++ List.replicate (4 - (lg_sl [Value.ref b]).length) Slot.unset).toArray) = rl0 at hl0 ⊢
  have hl : lv_has rl0 4 [(0, .ref b)] := hl0
  refine lnew (ws := []) (mid := 169) (idx := 9) (ix := 7) (ci := 10) (n := 3000) (r := NX) (ext := ext) hx hb hml hown hts hK hE nmMet (by decide) ll_cl7 (by decide) (by decide) (by decide) ll_X11_init (by decide) (by decide) (by rw [eX]; exact hiX) (by omega) (by omega) (by show 9 ≤ _; omega) (fun k q hq => by simp at hq) ⟨fun i j x y hi => by simp at hi, fun k q hq => by simp at hq⟩ ⟨Nat.le_refl _, fun _ _ _ => rfl, fun _ h => by simp at h⟩ (fun q hq _ => hq) (by omega) (by omega) dL_0 dL_3 dL_4 hl.1 (fun q1 H1 locs1 hq1 _ p1 d1 s1 => ?_)
  refine lv_astore_n (lv' := [(1, .ref q1), (0, .ref b)]) hx hb dL_7 rfl hl (by decide) rfl (fun rl1 hl1 => ?_)
  have p2 : va_P D vwCl (aWl dA (adq q1 ext) (mkX (NX.2.1, NX.2.2.1, fun _ => 33))) H1 := aP_congr (N := NX) sX.symm rfl rfl rfX p1
  have d2 : va_D (lawA s) (aWl dA (adq q1 ext) (mkX (NX.2.1, NX.2.2.1, fun _ => 33))) := aD_congr (N := NX) sX.symm d1
  refine lnew (ws := aWl dA (adq q1 ext) (mkX (NX.2.1, NX.2.2.1, fun _ => 33))) (mid := 51) (idx := 12) (ix := 10) (ci := 11) (n := 1000) (r := NM) (ext := ext) hx hb hml hown hts hK hE nmMet (by decide) ll_cl10 (by decide) (by decide) (by decide) ll_X12_init (by decide) (by decide) (by rw [eM]; exact hiM) (by omega) (by omega) (by show 60 ≤ _; omega) p2 d2 s1 (fun q hq hne => ?_) (by omega) (by omega) dL_8 dL_11 dL_12 hl1.1 (fun q2 H2 locs2 hq2 p3 p4 d4 s2 => ?_)
  · rw [lX, hq1] at *
    by_cases hq3 : s.heap.size + (0 + 79) ≤ q
    · exact hq3
    · exfalso
      have hlaw : s.heap.size ≤ q := hq
      have hi : q - s.heap.size < 79 := by omega
      refine hne (q - s.heap.size) _ (aWl_get (e := shX.getD (q - s.heap.size) (0, 0)) ?_) ?_
      · show shX[q - s.heap.size]? = _
        have : q - s.heap.size < shX.length := hi
        simp [List.getD, List.getElem?_eq_getElem this]
      · show adq (s.heap.size + 0) ext (q - s.heap.size) = q
        unfold adq
        rw [if_pos (by omega)]
        omega
  refine lv_astore_n (lv' := [(2, .ref q2), (1, .ref q1), (0, .ref b)]) hx hb dL_15 rfl hl1 (by decide) rfl (fun rl2 hl2 => ?_)
  refine lv_iconst (v := nI 0) hx hb dL_16 (by decide) ?_
  refine lv_istore_n (lv' := [(3, .int (nI 0)), (2, .ref q2), (1, .ref q1), (0, .ref b)]) hx hb dL_17 rfl hl2 (by decide) rfl (fun rl3 hl3 => ?_)
  have p5 : va_P D vwCl (aWl dA (adq q2 ext) (mkM (NM.2.1, NM.2.2.1, fun _ => 0))) H2 := aP_congr (N := NM) sM.symm rfl rfl rfM p4
  have d5 : va_D (lawA s) (aWl dA (adq q2 ext) (mkM (NM.2.1, NM.2.2.1, fun _ => 0))) := aD_congr (N := NM) sM.symm d4
  have hE1 : ∀ q, aExt (adq q ext) (lawA s) s s.heap := fun q => hE.ad (fun k hk => by unfold adq; rw [if_neg (by omega)])
  refine W.widen (k := 600000) (n := 7302250) (by omega) (by omega) ?_
  have a1 : adq q1 ext 0 = q1 := by simp [adq]
  have a2 : adq q2 ext 0 = q2 := by simp [adq]
  refine law_loop (adX := adq q1 ext) (adM := adq q2 ext) (D := D) (dA := dA) (xs := xs) (L := L) hI ⟨hx, hb, hml, hown, hts, hX, hbl, hK, hE1 q1, hE1 q2, fun i j hi hj => ?_, nmMet⟩ hr hlocks hL (L + 1) 0 _ _ H2 locs2 rl3 (by omega) (by omega) (hI0 NX NM hcX hcM) ⟨p3, p5, d2, d5, s2⟩ ?_
  · unfold adq
    rw [if_pos (by omega), if_pos (by omega), hq1, hq2]
    omega
  · rw [a1, a2]
    exact lv_sub hl3 [3, 2, 1, 0] rfl
end START
