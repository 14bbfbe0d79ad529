/-! the two constructors, run: what they leave -/
def n0X : aV := ([(10, 9)], fun _ _ => 0, fun _ _ => 0, fun _ _ => none)
def n0M : aV := ([(11, 60)], fun _ _ => 0, fun _ _ => 0, fun _ _ => none)
def iX : Option (Option Value × aV) := aX true 3000 169 (aEn 169 [.ref 0] n0X)
def iM : Option (Option Value × aV) := aX true 1000 51 (aEn 51 [.ref 0] n0M)
def isRefRow (k : Nat) : Bool := Nat.blt k 12 || Nat.blt 22 k
def rowIs (N : aV) (a n : Nat) (v : Int32) : Bool := (List.range n).all fun j => decide (N.2.1 a j = v)
def chkX (N : aV) : Bool := decide (N.1 = shX) && (List.range 79).all (fun a => !isRefRow (shX.getD a (0, 0)).1 || (List.range (shX.getD a (0, 0)).2).all (fun j => decide (N.2.2.2 a j = rX (fun _ => 33) a j)))
  && decide (N.2.1 0 3 = 0) && decide (N.2.1 1 1 = 0) && decide (N.2.1 3 3 = 0) && decide (N.2.1 26 3 = 0) && decide (N.2.1 26 5 = 0) && decide (N.2.1 26 6 = 0) && decide (N.2.1 26 8 = 0) && decide (N.2.1 12 0 = 0)
  && (List.range 6).all (fun c => decide (N.2.1 (34 + 3 * c) 2 = 0) && decide (N.2.1 (34 + 3 * c) 3 = 0) && decide (N.2.1 (34 + 3 * c) 4 = 0) && decide (N.2.1 (34 + 3 * c) 6 = 0) && rowIs N (35 + 3 * c) 3 0 && rowIs N (36 + 3 * c) 10 (-4))
  && rowIs N 31 7 (-4) && rowIs N 14 8 (-4) && rowIs N 13 8 0 && (List.range 8).all (fun a => rowIs N (16 + a) 8 (-4)) && (List.range 4).all (fun k => decide (N.2.1 (71 + 2 * k) 0 = -4) && decide (N.2.1 (71 + 2 * k) 1 = 0))
def chkM (N : aV) : Bool := decide (N.1 = shM) && (List.range 60).all (fun j => decide (N.2.2.2 0 j = rM 0 j)) && (List.range 60).all (fun j => decide (N.2.1 0 j = 0)) && rowIs N 22 7 (-4) && rowIs N 40 4 (-4) && rowIs N 41 4 0
set_option maxRecDepth 1000000 in
theorem iM_ok : (match iM with | some (none, N) => chkM N | _ => false) = true := by decide +kernel
set_option maxRecDepth 1000000 in
theorem iX_ok : (match iX with | some (none, N) => chkX N | _ => false) = true := by decide +kernel
