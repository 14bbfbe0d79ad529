/-! levels by a guess, in the class; answer -/
theorem tbm {a b : Nat} : a &&& b = 0 ∨ ¬ a &&& b = 0 := Classical.em _
theorem lbX {A : wM} {m1 r1 m2 r2 row : Nat} {Q : Int32 → wM → Prop} (h1 : m1 < 256) (l1 : r1 < 4) (h2 : m2 < 256) (l2 : r2 < 4) (hr : row < 256) (q : Q (nI (lvG m1 r1 m2 r2 row)) A) : w_X10_levelsBy (nI row) (nI (m1 + 256 * r1)) (nI (m2 + 256 * r2)) A Q := by
  have al : m1 &&& m2 < 256 := Nat.lt_of_le_of_lt Nat.and_le_left h1
  have ol : m1 ||| m2 < 256 := Nat.or_lt_two_pow (n := 8) h1 h2
  have lo : ∀ m r, m < 256 → r < 4 → (m + 256 * r) % 2 ^ 8 = m := fun m r _ _ => by omega
  have ea : ((nI (m1 + 256 * r1)) &&& (nI (m2 + 256 * r2))) &&& (nI 255) = nI (m1 &&& m2) := by
    rw [nI_and (by omega) (by omega), pk_andN (m := nI 255) (Nat.lt_of_le_of_lt Nat.and_le_left (by omega)) 8 (by decide), Nat.and_mod_two_pow, lo m1 r1 h1 l1, lo m2 r2 h2 l2]
  have eo : ((nI (m1 + 256 * r1)) ||| (nI (m2 + 256 * r2))) &&& (nI 255) = nI (m1 ||| m2) := by
    rw [nI_or (by omega) (by omega), pk_andN (m := nI 255) (Nat.or_lt_two_pow (n := 32) (by omega) (by omega)) 8 (by decide), Nat.or_mod_two_pow, lo m1 r1 h1 l1, lo m2 r2 h2 l2]
  have es : ∀ m r, m < 256 → r < 4 → jshr (nI (m + 256 * r)) (nI 8) = nI r := fun m r hm hr => by
    rw [bshr (by omega) (by decide), show (m + 256 * r) / 2 ^ 8 = r by omega]
  have emin : jmin (nI r1) (nI r2) = nI (min r1 r2) := by
    unfold jmin
    by_cases z : r2 < r1
    · rw [if_pos (by rw [lt_n (by omega), nI_toInt (by omega)]; omega), show min r1 r2 = r2 by omega]
    · rw [if_neg (by rw [lt_n (by omega), nI_toInt (by omega)]; omega), show min r1 r2 = r1 by omega]
  unfold w_X10_levelsBy w_X2_meet
  rw [ea]
  unfold lvG at q
  by_cases z : m1 &&& m2 = 0
  · rw [if_pos z] at q
    exact bt (by rw [z]) (bt rfl (settleX hr h1 l1 (settleX (stl_lt hr h1) h2 l2 q)))
  · rw [if_neg z] at q
    refine bf (fun y => z (inj31 (b := 0) y (by omega) (by decide))) (bf ne10 ?_)
    unfold w_X2_united w_X2_of
    rw [eo, es m1 r1 h1 l1, es m2 r2 h2 l2, emin, of_v ol (by omega)]
    exact settleX hr ol (by omega) q
theorem lvG_lt {m1 r1 m2 r2 row : Nat} (h1 : m1 < 256) (h2 : m2 < 256) (hr : row < 256) : lvG m1 r1 m2 r2 row < 256 := by
  unfold lvG
  split
  · exact stl_lt (stl_lt hr h1) h2
  · exact stl_lt hr (Nat.or_lt_two_pow (n := 8) h1 h2)
