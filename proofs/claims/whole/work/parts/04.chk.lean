/-! the printed tables are right: every resolved instruction is what decode reads, every pool entry has its word -/
def aCl (c : Nat) : vw_C := vwCl.getD c (RX0, TX0, 9)
def aFinal (c j : Nat) : Bool := ((aCl c).2.1 j).2.2.2
def aTr (o : Nat) (ini : Bool) : Instr → Option Instr
  | .getfield k => (aFr.find? fun r => Nat.beq r.1 o && Nat.beq r.2.1 k).map fun r => .getfield (100 * r.2.2.1 + r.2.2.2.1)
  | .putfield k => (aFr.find? fun r => Nat.beq r.1 o && Nat.beq r.2.1 k).bind fun r => bif !(aFinal r.2.2.1 r.2.2.2.1) || (ini && decide ((aCl r.2.2.1).1 = aOn o)) then some (.putfield (100 * r.2.2.1 + r.2.2.2.1)) else none
  | .getstatic k => (aGr.find? fun r => Nat.beq r.1 o && Nat.beq r.2.1 k).map fun r => .getstatic r.2.2.1
  | .invokevirtual k => (aMr.find? fun r => Nat.beq r.1 o && Nat.beq r.2.1 k).map fun r => .invokevirtual r.2.2.1
  | .invokestatic k => (aMr.find? fun r => Nat.beq r.1 o && Nat.beq r.2.1 k).map fun r => .invokestatic r.2.2.1
  | .invokespecial k => (aMr.find? fun r => Nat.beq r.1 o && Nat.beq r.2.1 k).map fun r => .invokespecial r.2.2.1
  | .new k => (aCr.find? fun r => Nat.beq r.1 o && Nat.beq r.2.1 k).map fun r => .new r.2.2.1
  | .anewarray k => (aCr.find? fun r => Nat.beq r.1 o && Nat.beq r.2.1 k).bind fun r => bif Nat.beq r.2.2.1 3 then some (.anewarray 23) else bif Nat.beq r.2.2.1 1 then some (.anewarray 24) else bif Nat.beq r.2.2.1 7 then some (.anewarray 25) else none
  | .multianewarray k d => bif Nat.beq o 3 && Nat.beq k 18 && Nat.beq d 2 then some (.multianewarray 26 2) else none
  | .ldc k => match aKr.find? fun r => Nat.beq r.1 o && Nat.beq r.2.1 k with
    | some r => some (.iconst r.2.2.1)
    | none => (aSr.find? fun r => Nat.beq r.1 o && Nat.beq r.2.1 k).map fun r => .ldc r.2.2.1
  | .ldc_w k => (aKr.find? fun r => Nat.beq r.1 o && Nat.beq r.2.1 k).map fun r => .iconst r.2.2.1
  | .ldc2_w k => (aLr.find? fun r => Nat.beq r.1 o && Nat.beq r.2.1 k).map fun r => .jsr_w r.2.2.1
  | .iconst n => bif decide (Int32.ofInt n = aK n) then some (.iconst n) else none
  | .bipush n => bif decide ((Int8.ofInt n).toInt32 = aK n) then some (.iconst n) else none
  | .sipush n => bif decide ((Int16.ofInt n).toInt32 = aK n) then some (.iconst n) else none
  | .lconst n => bif decide (Int64.ofNat n.val = aKL n.val) then some (.jsr_w n.val) else none
  | .iload_n n => some (.iload n.val)
  | .lload_n n => some (.lload n.val)
  | .aload_n n => some (.aload n.val)
  | .istore_n n => some (.istore n.val)
  | .lstore_n n => some (.lstore n.val)
  | .astore_n n => some (.astore n.val)
  | .iinc i n => bif decide (Int32.ofInt n = aK n) then some (.iinc i n) else none
  | .jsr_w _ => none
  | .lookupswitch d ps => bif (ps.toList.zip (ps.toList.drop 1)).all (fun (a, next) => a.1 < next.1) then some (.lookupswitch d ps) else none
  | i => some i
/-- how long an instruction is; 0: the switches -/
def aLen : Instr → Nat
  | .tableswitch _ _ _ _ | .lookupswitch _ _ => 0
  | .bipush _ | .ldc _ | .iload _ | .lload _ | .aload _ | .istore _ | .lstore _ | .astore _ | .newarray _ => 2
  | .sipush _ | .ldc_w _ | .ldc2_w _ | .getfield _ | .putfield _ | .getstatic _ | .invokevirtual _ | .invokestatic _ | .invokespecial _ | .new _ | .anewarray _ | .goto _ | .ifCond _ _ | .if_icmp _ _ | .iinc _ _ => 3
  | .multianewarray _ _ => 4
  | _ => 1
def aOff : Instr → List Int
  | .goto o => [o]
  | .ifCond _ o => [o]
  | .if_icmp _ o => [o]
  | .tableswitch d _ _ os => d :: os.toList
  | .lookupswitch d ps => d :: ps.toList.map (·.2)
  | _ => []
def aOkI (mid : Nat) (e : Nat × Instr × Nat) : Bool := match decode (mB mid) e.1 with
  | .ok (ri, n) => Nat.beq n e.2.2 && (Nat.beq (aLen ri) 0 || Nat.beq (aLen ri) n) && decide (aTr (mO mid) (mIni mid) ri = some e.2.1) && (aOff ri).all (fun o => decide (0 ≤ (e.1 : Int) + o))
  | .error _ => false
def aOk (mid : Nat) : Bool := (mK mid).all (aOkI mid)
def aTw (i : Nat) (w : Jvm.Cond) : Bool := decide (tables_1[i]? = some w) && goodWord w
theorem aTw_in {i : Nat} {w : Jvm.Cond} (h : aTw i w = true) : w ∈ gw := by
  unfold aTw at h
  rw [Bool.and_eq_true] at h
  exact vx_t i (of_decide_eq_true h.1) h.2
def aFrOk (r : Nat × Nat × Nat × Nat × Nat) : Bool := Nat.blt r.2.2.1 12 && Nat.blt r.2.2.2.1 (aCl r.2.2.1).2.2 && Nat.blt r.2.2.2.1 100 && decide (((aCl r.2.2.1).2.1 r.2.2.2.1).1 = (aCl r.2.2.1).1) && aTw r.2.2.2.2 (.fieldLink (aOn r.1) r.2.1 (aCl r.2.2.1).1 ((aCl r.2.2.1).2.1 r.2.2.2.1).2.1 ((aCl r.2.2.1).2.1 r.2.2.2.1).2.2.1)
set_option maxRecDepth 100000 in
theorem aFr_ok : aFr.all aFrOk = true := by decide +kernel
def aMrOk (r : Nat × Nat × Nat × Bool × Nat) : Bool := bif Nat.beq r.2.2.1 999 then aTw r.2.2.2.2 (.methodLink (aOn r.1) r.2.1 objectInit) else bif Nat.beq r.2.2.1 997 then aTw r.2.2.2.2 (.methodLink (aOn r.1) r.2.1 Lib.Math.max.name) else bif Nat.beq r.2.2.1 998 then aTw r.2.2.2.2 (.methodLink (aOn r.1) r.2.1 Lib.Math.min.name) else Nat.blt r.2.2.1 mNm && (bif r.2.2.2.1 then decide (Jvm.Cond.methodLinkNest (aOn r.1) r.2.1 (mY r.2.2.1) "EdgeChain" ∈ aNst) else aTw r.2.2.2.2 (.methodLink (aOn r.1) r.2.1 (mY r.2.2.1)))
set_option maxRecDepth 100000 in
theorem aMr_ok : aMr.all aMrOk = true := by decide +kernel
def aCrOk (r : Nat × Nat × Nat × Nat) : Bool := Nat.blt r.2.2.1 12 && aTw r.2.2.2 (.classLink (aOn r.1) r.2.1 (aCl r.2.2.1).1)
set_option maxRecDepth 100000 in
theorem aCr_ok : aCr.all aCrOk = true := by decide +kernel
set_option maxRecDepth 100000 in
theorem aKr_ok : aKr.all (fun r => aTw r.2.2.2 (.constant (aOn r.1) r.2.1 (aK r.2.2.1))) = true := by decide +kernel
set_option maxRecDepth 100000 in
theorem aLr_ok : aLr.all (fun r => aTw r.2.2.2 (.constantLong (aOn r.1) r.2.1 (aKL r.2.2.1))) = true := by decide +kernel
def aSt (w : Nat) : String := bif Nat.beq w 0 then "AFTER_0" else "AFTER_1"
set_option maxRecDepth 100000 in
theorem aGr_ok : aGr.all (fun r => Nat.blt r.2.2.1 2 && decide (Jvm.Cond.fieldLinkNest (aOn r.1) r.2.1 "EdgeChain" (aSt r.2.2.1) "[I" "EdgeChain" ∈ aNst)) = true := by decide +kernel
set_option maxRecDepth 100000 in
theorem aNst_ok : aNst = aNsx.filterMap (fun i => tables_1[i]?) := by decide +kernel
/-- a method's words -/
def aMok (mid : Nat) : Bool :=
  aTw (mW mid) (.code (mY mid) (mB mid) (mL mid) (mR mid)) && aTw (mXs.getD mid (0, 0, 0, 0)).1 (.initialized (mY mid).cls) && plainName (mY mid).cls && decide (aOn (mO mid) = (mY mid).cls)
  && decide ((mY mid).cls ≠ "java/lang/invoke/MethodHandle") && decide ((mY mid).cls ≠ "java/lang/invoke/VarHandle") && decide ((parseMethodDescriptor (mY mid).desc).map (fun d => d.parameters.length) = some (mA mid)) && Nat.ble (mL mid) 12 && Nat.blt 0 (mV mid)
  && decide (mid < mXs.length) && (match mKd mid with
    | 0 => aTw (mXs.getD mid (0, 0, 0, 0)).2.1 (.static (mY mid))
    | 1 => aTw (mXs.getD mid (0, 0, 0, 0)).2.1 (.instanceMethod (mY mid)) && decide ((mY mid).name = "<init>") && decide (mR mid = none)
    | 2 => Nat.blt (mC mid) 12 && decide ((aCl (mC mid)).1 = (mY mid).cls) && aTw (mXs.getD mid (0, 0, 0, 0)).2.1 (.instanceMethod (mY mid)) && aTw (mXs.getD mid (0, 0, 0, 0)).2.2.2 (.selects (mY mid).cls (mY mid) (mY mid))
    | _ => Nat.blt (mC mid) 12 && decide ((aCl (mC mid)).1 = (mY mid).cls) && aTw (mXs.getD mid (0, 0, 0, 0)).2.1 (.instanceMethod (mY mid)) && decide ((k2_sels lw_privs)[(mXs.getD mid (0, 0, 0, 0)).2.2.2]? = some (.selects (mY mid).cls (mY mid) (mY mid))) && goodWord (.selects (mY mid).cls (mY mid) (mY mid)))
