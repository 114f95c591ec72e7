/-! tables of constants; what a row of code must be (by program) -/
def xcon (a b : Nat) : Int32 := if b = 0 then nI a else -(nI a)
def xcol (a b : Nat) : Int64 := if b = 0 then lN a else -(lN a)
def xcwL : List (Nat × Nat × Nat × Nat) := [(9, 110, 100000, 0)]
def xclL : List (Nat × Nat × Nat × Nat) := [(1, 58, 1000000, 1), (1, 60, 1000000, 0), (8, 166, 1, 1), (5, 115, 1, 1), (9, 194, 28530, 0), (9, 205, 120, 0), (9, 207, 121, 0), (9, 177, 26982, 0), (9, 235, 1000000, 0), (9, 237, 1000000, 1), (9, 295, 1, 1)]
def xacL : List (Nat × Nat) := [(3, 45), (0, 95)]
def xnsL : List (Nat × Nat × Nat) := [(0, 89, 122), (0, 92, 123), (5, 77, 124)]
theorem xcw_in : ∀ q ∈ xcwL, Cond.constant (xnm q.1) q.2.1 (xcon q.2.2.1 q.2.2.2) ∈ xWs := by
  intro q hq
  refine xWs_of (ws := xcwL.map fun q => Cond.constant (xnm q.1) q.2.1 (xcon q.2.2.1 q.2.2.2)) [(5, 121)] (by decide +kernel) (by decide +kernel) _ (List.mem_map.mpr ⟨q, hq, rfl⟩)
theorem xcl_in : ∀ q ∈ xclL, Cond.constantLong (xnm q.1) q.2.1 (xcol q.2.2.1 q.2.2.2) ∈ xWs := by
  intro q hq
  refine xWs_of (ws := xclL.map fun q => Cond.constantLong (xnm q.1) q.2.1 (xcol q.2.2.1 q.2.2.2)) [(3, 220), (3, 221), (4, 31), (4, 122), (5, 177), (5, 202), (5, 203), (5, 215), (6, 25), (6, 26), (6, 70)] (by decide +kernel) (by decide +kernel) _ (List.mem_map.mpr ⟨q, hq, rfl⟩)
theorem xac_in : ∀ q ∈ xacL, Cond.methodLink (xnm q.1) q.2 arraycopyName ∈ xWs := by
  intro q hq
  refine xWs_of (ws := xacL.map fun q => Cond.methodLink (xnm q.1) q.2 arraycopyName) [(3, 147), (4, 172)] rfl rfl _ (List.mem_map.mpr ⟨q, hq, rfl⟩)
theorem xac_w : ∀ w ∈ [Cond.native arraycopyName, Cond.static arraycopyName, Cond.initialized "java/lang/System"], w ∈ xWs := xWs_of [(3, 149), (3, 148), (1, 18)] rfl rfl
theorem xst_w : ∀ w ∈ [Cond.fieldLink (xnm 2) 70 "WrongEnd$Optics" "MOST" "[I", Cond.fieldLink (xnm 13) 38 "java/lang/String" "COMPACT_STRINGS" "Z", Cond.fieldLink (xnm 13) 9 "java/lang/String" "value" "[B", Cond.fieldLink (xnm 13) 15 "java/lang/String" "coder" "B"], w ∈ xWs := xWs_of [(3, 187), (2, 178), (6, 150), (6, 151)] rfl rfl
def xlen (i : Instr) : Nat := match i with
  | .aload _ => 2
  | .iload _ => 2
  | .lload _ => 2
  | .istore _ => 2
  | .astore _ => 2
  | .lstore _ => 2
  | .bipush _ => 2
  | .ldc _ => 2
  | .newarray _ => 2
  | .sipush _ => 3
  | .ldc2_w _ => 3
  | .iinc _ _ => 3
  | .getfield _ => 3
  | .putfield _ => 3
  | .getstatic _ => 3
  | .if_icmp _ _ => 3
  | .ifCond _ _ => 3
  | .goto _ => 3
  | .invokevirtual _ => 3
  | .invokestatic _ => 3
  | .invokespecial _ => 3
  | .new _ => 3
  | .anewarray _ => 3
  | .multianewarray _ _ => 4
  | _ => 1
def xlook (x : Int32) (ps : List (Nat × Nat)) (d : Nat) : Nat := match ps with
  | [] => d
  | q :: r => if x = nI q.1 then q.2 else xlook x r d
def xrk (own : Nat) : Nat := if own < 10 then own else if own = 13 then 112 else 199
def xokx (own mL : Nat) (rt : Option FieldType) (sws : List (Nat × List (Nat × Nat) × Nat)) (pc a b c : Nat) (i : Instr) : Bool := match i with
  | .istore_n k => Nat.blt k.val mL
  | .istore k => Nat.blt k mL
  | .astore_n k => Nat.blt k.val mL
  | .astore k => Nat.blt k mL
  | .lstore_n k => Nat.blt (k.val + 1) mL
  | .lstore k => Nat.blt (k + 1) mL
  | .iinc k n => Nat.blt k mL && decide (Int32.ofInt n = xcon a b)
  | .iconst n => decide (Int32.ofInt n = xcon a b)
  | .bipush n => decide ((Int8.ofInt n).toInt32 = xcon a b)
  | .sipush n => decide ((Int16.ofInt n).toInt32 = xcon a b)
  | .lconst n => decide (Int64.ofNat (n : Nat) = xcol a b)
  | .ldc idx => (match c with
    | 0 => decide ((own, idx, a, b) ∈ xcwL)
    | 1 => Nat.beq own 7 && Nat.beq idx 71
    | _ => Nat.beq own 7 && Nat.beq idx 87)
  | .ldc2_w idx => decide ((own, idx, a, b) ∈ xclL)
  | .getfield idx => decide ((own, idx, a, b) ∈ xfl) || (Nat.beq own 13 && Nat.beq a 112 && ((Nat.beq idx 9 && Nat.beq b 0) || (Nat.beq idx 15 && Nat.beq b 1)))
  | .putfield idx => decide ((own, idx, a, b) ∈ xfl) && !(xTb a b).2.2.2
  | .getstatic idx => (Nat.beq a 0 && Nat.beq own 2 && Nat.beq idx 70) || (Nat.beq a 1 && Nat.beq own 13 && Nat.beq idx 38)
  | .if_icmp _ off => decide ((pc : Int) + off = (a : Int))
  | .ifCond _ off => decide ((pc : Int) + off = (a : Int))
  | .goto off => decide ((pc : Int) + off = (a : Int))
  | .tableswitch df lo hi offs => decide ((pc : Int) + df = ((xfs sws pc).2 : Int)) && decide (hi - lo + 1 = (offs.size : Int)) && (xfs sws pc).1.all (fun q => decide (lo ≤ (q.1 : Int)) && decide ((q.1 : Int) ≤ hi)) && decide (hi < 1000) && decide (0 ≤ lo) && (List.range offs.size).all (fun j => decide ((offs[j]?).map (fun o => (pc : Int) + o) = some (xlook (nI (lo.toNat + j)) (xfs sws pc).1 (xfs sws pc).2 : Int)))
  | .lookupswitch df ps => decide ((pc : Int) + df = ((xfs sws pc).2 : Int)) && (ps.toList.zip (ps.toList.drop 1)).all (fun (a, next) => a.1 < next.1) && decide (ps.toList = (xfs sws pc).1.map (fun q => ((q.1 : Int), (q.2 : Int) - (pc : Int)))) && (xfs sws pc).1.all (fun q => decide (q.1 < 1000))
  | .invokevirtual idx => decide ((own, idx, b) ∈ xml) && Nat.beq (xmk b) 0 && Nat.beq c (xrk (xmc b)) && Nat.beq a (xna b) && Nat.blt b 233
  | .invokestatic idx => (match c with
    | 0 => decide ((own, idx, b) ∈ xml) && Nat.beq (xmk b) 1 && Nat.beq a (xna b) && Nat.blt b 233
    | 1 => decide ((own, idx, b) ∈ xnsL) && Nat.beq (xmk b) 1 && Nat.beq a (xna b) && Nat.blt b 233
    | 2 => decide ((own, idx) ∈ xacL)
    | _ => false)
  | .ireturn => (match c with
    | 0 => decide (rt = some .int)
    | 1 => decide (rt = some .boolean)
    | _ => decide (rt = some .char) || decide (rt = some .byte))
  | .lreturn => decide (rt = some .long)
  | .return_ => decide (rt = none)
  | _ => true
def xissw (i : Instr) : Bool := match i with
  | .tableswitch .. => true
  | .lookupswitch .. => true
  | _ => false
/-- a row of code is what the method's bytes say there -/
def xoke (own : Nat) (g : xSg) (sws : List (Nat × List (Nat × Nat) × Nat)) (q : xEn) : Bool :=
  decide (decode g.2.1 q.1 = .ok (q.2.1, bif xissw q.2.1 then q.2.2.1 - q.1 else xlen q.2.1)) && (xissw q.2.1 || Nat.beq q.2.2.1 (q.1 + xlen q.2.1)) && xokx own g.2.2.1 g.2.2.2 sws q.1 q.2.2.2.1 q.2.2.2.2.1 q.2.2.2.2.2 q.2.1
def xok (M : xM) : Bool := M.2.2.1.all (xoke M.2.1 (xsg M.1) M.2.2.2)
