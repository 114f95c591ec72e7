/-! WX: a small machine over pictures of the heap. A picture: a list of cells (kind, length, references) and what their numbers are. Kinds: below 100 an object of that class of vwCl; 100 int[], 101 boolean[], 102 long[], 103 Program[], 104 int[][]; 110 the script, 111 the table MOST, 112 a String constant, 113 its bytes. -/
abbrev xEn : Type := Nat × Instr × Nat × Nat × Nat × Nat
abbrev xM : Type := Nat × Nat × List xEn × List (Nat × List (Nat × Nat) × Nat)
abbrev xLc : Type := Nat × Nat × List (Option Nat)
abbrev xLa : Type := List xLc
abbrev xS : Type := (Nat → Nat → Int32) × (Nat → Nat → Int64)
abbrev xQ : Type := Option Value → xS → Prop
abbrev xLs : Type := List (Option Value)
def xW (s : xS) (k z : Nat) (x : Int32) : xS := (va_up s.1 k (upd (s.1 k) z x), s.2)
def xWl (s : xS) (k z : Nat) (x : Int64) : xS := (s.1, va_up s.2 k (vp_updL (s.2 k) z x))
def xWc (s : xS) (k2 k x y z : Nat) : xS := (va_up s.1 k2 (va_cpy (s.1 k) (s.1 k2) x y z), s.2)
def xfd : List xEn → Nat → Option xEn
  | [], _ => none
  | e :: r, pc => bif Nat.beq e.1 pc then some e else xfd r pc
def xfs : List (Nat × List (Nat × Nat) × Nat) → Nat → List (Nat × Nat) × Nat
  | [], _ => ([], 0)
  | e :: r, pc => bif Nat.beq e.1 pc then e.2 else xfs r pc
def xnth {α : Type} : List α → Nat → Option α
  | [], _ => none
  | c :: _, 0 => some c
  | _ :: r, k + 1 => xnth r k
def xro (k : Nat) : xLc := match k with
  | 900 => (110, 0, [])
  | 902 => (111, 4, [])
  | 903 => (112, 0, [some 905])
  | 904 => (112, 1, [some 906])
  | 905 => (113, 86, [])
  | 906 => (113, 13, [])
  | _ => (199, 0, [])
def xlk (L : xLa) (k : Nat) : xLc := match xnth L k with
  | some c => c
  | none => xro k
/-- what a field is: 0 int, 1 long, 2 a reference, 3 boolean, 4 a String's coder -/
def xfkL : List (List Nat) := [[0, 0, 2, 2, 2, 2, 2, 2, 2, 2, 2, 2, 0, 0, 0, 0, 0], [2, 2, 0], [2, 2, 2, 2], [2, 2, 2, 0], [2, 0, 0, 2, 0, 0, 0, 0], [2, 2, 0, 2, 2, 2], [2, 0], [2, 2, 2, 2, 0, 0], [2, 2, 2, 2, 2, 2, 2], [2, 2, 0, 0, 2, 2, 0, 0, 0, 0, 0, 0, 0, 1, 0, 0, 0, 0, 2, 0, 0, 3, 0, 0, 2, 2, 2, 2, 1, 2, 2]]
def xfk (c b : Nat) : Nat := match xnth xfkL c with
  | some l => (match xnth l b with
    | some k => k
    | none => 9)
  | none => (match c, b with
    | 112, 0 => 2
    | 112, 1 => 4
    | _, _ => 9)
def xmost (i : Nat) : Int32 := match i with
  | 0 => nI 99
  | 1 => nI 9
  | 2 => nI 9
  | _ => nI 999
def xtxt (n : Nat) : List Nat := match n with
  | 86 => [112, 114, 105, 111, 114, 32, 115, 101, 101, 115, 32, 115, 108, 105, 112, 32, 99, 111, 115, 116, 32, 105, 102, 32, 101, 110, 100, 32, 111, 114, 32, 97, 110, 100, 32, 110, 111, 116, 32, 120, 32, 121, 32, 115, 105, 122, 101, 32, 112, 97, 105, 110, 116, 115, 32, 104, 105, 108, 108, 32, 104, 111, 117, 114, 32, 115, 99, 111, 112, 101, 32, 116, 117, 114, 110, 101, 100, 32, 102, 97, 114, 32, 97, 99, 116, 32]
  | _ => [60, 62, 61, 35, 43, 45, 42, 47, 40, 41, 59, 63, 58]
-- the stack
def xi1 (st : List Value) (k : Int32 → List Value → Prop) : Prop := match st with
  | .int x :: r => k x r
  | _ => False
def xi2 (st : List Value) (k : Int32 → Int32 → List Value → Prop) : Prop := match st with
  | .int y :: .int x :: r => k x y r
  | _ => False
def xl1 (st : List Value) (k : Int64 → List Value → Prop) : Prop := match st with
  | .long x :: r => k x r
  | _ => False
def xl2 (st : List Value) (k : Int64 → Int64 → List Value → Prop) : Prop := match st with
  | .long y :: .long x :: r => k x y r
  | _ => False
def xli (st : List Value) (k : Int64 → Int32 → List Value → Prop) : Prop := match st with
  | .int y :: .long x :: r => k x y r
  | _ => False
def xr1 (st : List Value) (k : Nat → List Value → Prop) : Prop := match st with
  | .ref a :: r => k a r
  | _ => False
def xri (st : List Value) (k : Nat → Int32 → List Value → Prop) : Prop := match st with
  | .int i :: .ref a :: r => k a i r
  | _ => False
def xrii (st : List Value) (k : Nat → Int32 → Int32 → List Value → Prop) : Prop := match st with
  | .int x :: .int i :: .ref a :: r => k a i x r
  | _ => False
def xrli (st : List Value) (k : Nat → Int32 → Int64 → List Value → Prop) : Prop := match st with
  | .long x :: .int i :: .ref a :: r => k a i x r
  | _ => False
def xv1 (st : List Value) (k : Value → List Value → Prop) : Prop := match st with
  | .int x :: r => k (.int x) r
  | .ref a :: r => k (.ref a) r
  | _ => False
def xpi (st : List Value) (k : Nat → Int32 → List Value → Prop) : Prop := match st with
  | .int x :: .ref a :: r => k a x r
  | _ => False
def xpl (st : List Value) (k : Nat → Int64 → List Value → Prop) : Prop := match st with
  | .long x :: .ref a :: r => k a x r
  | _ => False
def xcp (st : List Value) (k : Nat → Int32 → Nat → Int32 → Int32 → List Value → Prop) : Prop := match st with
  | .int n :: .int dp :: .ref b :: .int sp :: .ref a :: r => k a sp b dp n r
  | _ => False
def xpop : Nat → List Value → List Value → (List Value → List Value → Prop) → Prop
  | 0, st, acc, k => k acc st
  | n + 1, v :: st, acc, k => xpop n st (v :: acc) k
  | _ + 1, [], _, _ => False
def xfit : List Value → Nat → Bool
  | [], _ => true
  | v :: r, n => (match v with
    | .long _ => (match n with
      | m + 2 => xfit r m
      | _ => false)
    | .double _ => false
    | _ => (match n with
      | m + 1 => xfit r m
      | _ => false))
-- the locals
def xlv : xLs → Nat → Option Value
  | [], _ => none
  | v :: _, 0 => v
  | _ :: r, i + 1 => xlv r i
def xldi (ls : xLs) (i : Nat) (k : Int32 → Prop) : Prop := match xlv ls i with
  | some (.int x) => k x
  | _ => False
def xldl (ls : xLs) (i : Nat) (k : Int64 → Prop) : Prop := match xlv ls i with
  | some (.long x) => k x
  | _ => False
def xldr (ls : xLs) (i : Nat) (k : Nat → Prop) : Prop := match xlv ls i with
  | some (.ref x) => k x
  | _ => False
/-- the list with v at i; a long that ends at i is gone -/
def xse (v : Option Value) : Nat → xLs → (xLs → Prop) → Prop
  | _, [], _ => False
  | 0, _ :: r, k => k (v :: r)
  | i + 1, u :: r, k => xse v i r (fun r' => k (u :: r'))
def xkl (i : Nat) (ls : xLs) (k : xLs → Prop) : Prop := match i with
  | 0 => k ls
  | j + 1 => (match xlv ls j with
    | some (.long _) => xse none j ls k
    | some (.double _) => False
    | _ => k ls)
def xs1 (ls : xLs) (i : Nat) (v : Value) (k : xLs → Prop) : Prop := xkl i ls (fun l1 => xse (some v) i l1 k)
def xs2 (ls : xLs) (i : Nat) (v : Value) (k : xLs → Prop) : Prop := xkl i ls (fun l1 => xse none (i + 1) l1 (fun l2 => xse (some v) i l2 k))
def xkr (K : List Value → xS → Prop) (r : List Value) : xQ := fun o g => match o with
  | none => K r g
  | some v => K (v :: r) g
def xbr (c A B : Prop) : Prop := (c → A) ∧ (¬ c → B)
def xsw (x : Int32) (ps : List (Nat × Nat)) (d : Nat) (K : Nat → Prop) : Prop := match ps with
  | [] => K d
  | q :: r => xbr (x = nI q.1) (K q.2) (xsw x r d K)
def xcst (a b : Nat) (k : Int32 → Prop) : Prop := match b with
  | 0 => k (nI a)
  | _ => k (-(nI a))
def xcsl (a b : Nat) (k : Int64 → Prop) : Prop := match b with
  | 0 => k (lN a)
  | _ => k (-(lN a))
def xinc (x : Int32) (a b : Nat) (k : Int32 → Prop) : Prop := match b with
  | 0 => k (x + nI a)
  | _ => k (x - nI a)
def xcond (c : Jvm.ClassFile.Cond) (x y : Int32) (T F : Prop) : Prop := match c with
  | .eq => xbr (x = y) T F
  | .ne => xbr (x = y) F T
  | .lt => xbr (x < y) T F
  | .ge => xbr (x < y) F T
  | .gt => xbr (y < x) T F
  | .le => xbr (y < x) F T
def xif (b : Bool) (P : Prop) : Prop := match b with
  | true => P
  | false => False
def xopt {α : Type} (o : Option α) (k : α → Prop) : Prop := match o with
  | some a => k a
  | none => False
def xopm (o : Option xLc) (k : Nat → Nat → List (Option Nat) → Prop) : Prop := match o with
  | some (a, b, c) => k a b c
  | none => False
def xgf (L : xLa) (a b : Nat) (st : List Value) (s : xS) (K : List Value → Prop) : Prop :=
  xr1 st fun k r => match xlk L k with
    | (kd, _, ps) => xif (Nat.beq kd a) (match xfk a b with
      | 0 => K (.int (s.1 k b) :: r)
      | 1 => K (.long (s.2 k b) :: r)
      | 2 => xopt (xnth ps b) fun o => xopt o fun q => K (.ref q :: r)
      | 3 => K (.int (s.1 k b) :: r)
      | 4 => K (.int (nI 0) :: r)
      | _ => False)
def xpf (L : xLa) (a b : Nat) (st : List Value) (s : xS) (K : List Value → xS → Prop) : Prop :=
  match xfk a b with
  | 0 => xpi st fun k x r => xopm (xnth L k) fun kd _ _ => xif (Nat.beq kd a) (K r (xW s k b x))
  | 1 => xpl st fun k x r => xopm (xnth L k) fun kd _ _ => xif (Nat.beq kd a) (K r (xWl s k b x))
  | 3 => xpi st fun k x r => xopm (xnth L k) fun kd _ _ => xif (Nat.beq kd a) ((x = nI 0 ∨ x = nI 1) ∧ K r (xW s k b x))
  | _ => False
def xial (L : xLa) (st : List Value) (s : xS) (K : List Value → Prop) : Prop :=
  xri st fun k i r => match xlk L k with
    | (kd, n, _) => (match kd with
      | 100 => ∃ j : Nat, (j < n ∧ i = nI j) ∧ K (.int (s.1 k j) :: r)
      | 110 => ∃ j : Nat, (nI j < s.1 901 0 ∧ j < 2 ^ 31 ∧ i = nI j) ∧ K (.int (s.1 900 j) :: r)
      | 111 => ∃ j : Nat, (j < 4 ∧ i = nI j) ∧ K (.int (xmost j) :: r)
      | _ => False)
def xbal (L : xLa) (st : List Value) (s : xS) (K : List Value → Prop) : Prop :=
  xri st fun k i r => match xlk L k with
    | (kd, n, _) => (match kd with
      | 101 => ∃ j : Nat, (j < n ∧ i = nI j) ∧ K (.int (s.1 k j) :: r)
      | 113 => ∃ j : Nat, (j < n ∧ i = nI j) ∧ K (.int (nI ((xtxt n).getD j 0)) :: r)
      | _ => False)
def xaln (L : xLa) (st : List Value) (s : xS) (K : List Value → Prop) : Prop :=
  xr1 st fun k r => match xlk L k with
    | (kd, n, _) => (match kd with
      | 110 => K (.int (s.1 901 0) :: r)
      | 100 => K (.int (nI n) :: r)
      | 101 => K (.int (nI n) :: r)
      | 113 => K (.int (nI n) :: r)
      | _ => False)
def xret (c : Nat) (v : Int32) (P : Prop) : Prop := match c with
  | 0 => P
  | 1 => (v = nI 0 ∨ v = nI 1) ∧ P
  | _ => (∃ n : Nat, n < 128 ∧ v = nI n) ∧ P
def xrti (c : Nat) (st : List Value) (k : Int32 → Prop) : Prop := match st with
  | [.int v] => xret c v (k v)
  | _ => False
def xrtl (st : List Value) (k : Int64 → Prop) : Prop := match st with
  | [.long v] => k v
  | _ => False
def xrtv (st : List Value) (P : Prop) : Prop := match st with
  | [] => P
  | _ => False
def xinv (L : xLa) (c : Nat) (As r : List Value) (P : Prop) : Prop := match As with
  | .ref k :: _ => xif (Nat.beq (xlk L k).1 c && xfit r 8) P
  | _ => False
/-- one instruction: what must hold for it to be done, and for what comes behind it -/
def xex (C : Nat → List Value → xS → xQ → Prop) (Q : xQ) (K : Nat → xLs → List Value → xS → Prop) (L : xLa) (M : xM) (pc : Nat) (i : Instr) (nx a b c : Nat) (ls : xLs) (st : List Value) (s : xS) : Prop := match i with
  | .aload_n k => xldr ls k.val fun x => K nx ls (.ref x :: st) s
  | .aload k => xldr ls k fun x => K nx ls (.ref x :: st) s
  | .iload_n k => xldi ls k.val fun x => K nx ls (.int x :: st) s
  | .iload k => xldi ls k fun x => K nx ls (.int x :: st) s
  | .lload_n k => xldl ls k.val fun x => K nx ls (.long x :: st) s
  | .lload k => xldl ls k fun x => K nx ls (.long x :: st) s
  | .istore_n k => xi1 st fun x r => xs1 ls k.val (.int x) fun ls => K nx ls r s
  | .istore k => xi1 st fun x r => xs1 ls k (.int x) fun ls => K nx ls r s
  | .astore_n k => xr1 st fun x r => xs1 ls k.val (.ref x) fun ls => K nx ls r s
  | .astore k => xr1 st fun x r => xs1 ls k (.ref x) fun ls => K nx ls r s
  | .lstore_n k => xl1 st fun x r => xs2 ls k.val (.long x) fun ls => K nx ls r s
  | .lstore k => xl1 st fun x r => xs2 ls k (.long x) fun ls => K nx ls r s
  | .iinc k _ => xldi ls k fun x => xinc x a b fun y => xs1 ls k (.int y) fun ls => K nx ls st s
  | .iconst _ => xcst a b fun v => K nx ls (.int v :: st) s
  | .bipush _ => xcst a b fun v => K nx ls (.int v :: st) s
  | .sipush _ => xcst a b fun v => K nx ls (.int v :: st) s
  | .lconst _ => xcsl a b fun v => K nx ls (.long v :: st) s
  | .ldc _ => (match c with
    | 0 => xcst a b fun v => K nx ls (.int v :: st) s
    | 1 => K nx ls (.ref 903 :: st) s
    | _ => K nx ls (.ref 904 :: st) s)
  | .ldc2_w _ => xcsl a b fun v => K nx ls (.long v :: st) s
  | .iadd => xi2 st fun x y r => K nx ls (.int (x + y) :: r) s
  | .isub => xi2 st fun x y r => K nx ls (.int (x - y) :: r) s
  | .imul => xi2 st fun x y r => K nx ls (.int (x * y) :: r) s
  | .idiv => xi2 st fun x y r => ¬ y = nI 0 ∧ K nx ls (.int (x / y) :: r) s
  | .irem => xi2 st fun x y r => ¬ y = nI 0 ∧ K nx ls (.int (x - x / y * y) :: r) s
  | .ineg => xi1 st fun x r => K nx ls (.int (-x) :: r) s
  | .iand => xi2 st fun x y r => K nx ls (.int (x &&& y) :: r) s
  | .ior => xi2 st fun x y r => K nx ls (.int (x ||| y) :: r) s
  | .ishl => xi2 st fun x y r => K nx ls (.int (x <<< (y &&& 31)) :: r) s
  | .ishr => xi2 st fun x y r => K nx ls (.int (x >>> (y &&& 31)) :: r) s
  | .iushr => xi2 st fun x y r => K nx ls (.int ((x.toUInt32 >>> (y.toUInt32 &&& Int32.toUInt32 31)).toInt32) :: r) s
  | .ladd => xl2 st fun x y r => K nx ls (.long (x + y) :: r) s
  | .lsub => xl2 st fun x y r => K nx ls (.long (x - y) :: r) s
  | .lmul => xl2 st fun x y r => K nx ls (.long (x * y) :: r) s
  | .ldiv => xl2 st fun x y r => ¬ y = 0 ∧ K nx ls (.long (x / y) :: r) s
  | .lrem => xl2 st fun x y r => ¬ y = 0 ∧ K nx ls (.long (x - x / y * y) :: r) s
  | .lneg => xl1 st fun x r => K nx ls (.long (-x) :: r) s
  | .lor => xl2 st fun x y r => K nx ls (.long (x ||| y) :: r) s
  | .lshl => xli st fun x y r => K nx ls (.long (x <<< (y.toInt64 &&& 63)) :: r) s
  | .lcmp => xl2 st fun x y r => K nx ls (.int (lg_cmp x y) :: r) s
  | .i2l => xi1 st fun x r => K nx ls (.long x.toInt64 :: r) s
  | .l2i => xl1 st fun x r => K nx ls (.int x.toInt32 :: r) s
  | .i2c => xi1 st fun x r => K nx ls (.int (x.toUInt32 % 65536).toInt32 :: r) s
  | .i2b => xi1 st fun x r => K nx ls (.int x.toInt8.toInt32 :: r) s
  | .dup => xv1 st fun v r => K nx ls (v :: v :: r) s
  | .dup2 => xri st fun k j r => K nx ls (.int j :: .ref k :: .int j :: .ref k :: r) s
  | .pop => xv1 st fun _ r => K nx ls r s
  | .pop2 => xl1 st fun _ r => K nx ls r s
  | .getfield _ => xgf L a b st s fun st => K nx ls st s
  | .putfield _ => xpf L a b st s fun st s => K nx ls st s
  | .getstatic _ => (match a with
    | 0 => K nx ls (.ref 902 :: st) s
    | _ => K nx ls (.int (nI 1) :: st) s)
  | .iaload => xial L st s fun st => K nx ls st s
  | .baload => xbal L st s fun st => K nx ls st s
  | .laload => xri st fun k j r => (match xlk L k with
    | (kd, n, _) => xif (Nat.beq kd 102) (∃ q : Nat, (q < n ∧ j = nI q) ∧ K nx ls (.long (s.2 k q) :: r) s))
  | .aaload => xri st fun k j r => (match xlk L k with
    | (kd, n, ps) => (match kd with
      | 103 => ∃ z : Nat, (z < n ∧ j = nI z) ∧ xopt (xnth ps z) fun o => xopt o fun q => K nx ls (.ref q :: r) s
      | 104 => ∃ z : Nat, (z < n ∧ j = nI z) ∧ xopt (xnth ps z) fun o => xopt o fun q => K nx ls (.ref q :: r) s
      | _ => False))
  | .iastore => xrii st fun k j x r => xopm (xnth L k) fun kd n _ => xif (Nat.beq kd 100) (∃ z : Nat, (z < n ∧ j = nI z) ∧ K nx ls r (xW s k z x))
  | .bastore => xrii st fun k j x r => xopm (xnth L k) fun kd n _ => xif (Nat.beq kd 101) (∃ z : Nat, (z < n ∧ j = nI z ∧ (x = nI 0 ∨ x = nI 1)) ∧ K nx ls r (xW s k z x))
  | .lastore => xrli st fun k j x r => xopm (xnth L k) fun kd n _ => xif (Nat.beq kd 102) (∃ z : Nat, (z < n ∧ j = nI z) ∧ K nx ls r (xWl s k z x))
  | .arraylength => xaln L st s fun st => K nx ls st s
  | .if_icmp q _ => xi2 st fun x y r => xcond q x y (K a ls r s) (K nx ls r s)
  | .ifCond q _ => xi1 st fun x r => xcond q x (nI 0) (K a ls r s) (K nx ls r s)
  | .goto _ => K a ls st s
  | .tableswitch _ _ _ _ => xi1 st fun x r => xsw x (xfs M.2.2.2 pc).1 (xfs M.2.2.2 pc).2 fun t => K t ls r s
  | .lookupswitch _ _ => xi1 st fun x r => xsw x (xfs M.2.2.2 pc).1 (xfs M.2.2.2 pc).2 fun t => K t ls r s
  | .invokevirtual _ => xpop (a + 1) st [] fun As r => xinv L c As r (C b As s (xkr (fun st s => K nx ls st s) r))
  | .invokestatic _ => (match c with
    | 2 => xcp st fun k sp k2 dp n r => xopm (xnth L k) fun kd m1 _ => xopm (xnth L k2) fun kd2 m2 _ => xif (Nat.beq kd 100 && Nat.beq kd2 100 && xfit r 8) (∃ x y z : Nat, (sp = nI x ∧ dp = nI y ∧ n = nI z ∧ x + z ≤ m1 ∧ y + z ≤ m2) ∧ K nx ls r (xWc s k2 k x y z))
    | _ => xpop a st [] fun As r => xif (xfit r 8) (C b As s (xkr (fun st s => K nx ls st s) r)))
  | .ireturn => xrti c st fun v => Q (some (.int v)) s
  | .lreturn => xrtl st fun v => Q (some (.long v)) s
  | .return_ => xrtv st (Q none s)
  | _ => False
def xst (C : Nat → List Value → xS → xQ → Prop) (Q : xQ) (K : Nat → xLs → List Value → xS → Prop) (L : xLa) (M : xM) (pc : Nat) (ls : xLs) (st : List Value) (s : xS) : Prop :=
  match xfd M.2.2.1 pc with
  | some (_, i, nx, a, b, c) => xex C Q K L M pc i nx a b c ls st s
  | none => False
/-- many instructions, up to a place of 'stops' -/
def xrn (C : Nat → List Value → xS → xQ → Prop) (Q : xQ) (K : Nat → xLs → List Value → xS → Prop) (L : xLa) (M : xM) (stops : Nat → Bool) : Nat → Nat → xLs → List Value → xS → Prop
  | 0, pc, ls, st, s => K pc ls st s
  | n + 1, pc, ls, st, s => bif stops pc then K pc ls st s else xst C Q (xrn C Q K L M stops n) L M pc ls st s
def xin (l : List Nat) (pc : Nat) : Bool := match l with
  | [] => false
  | q :: r => bif Nat.beq q pc then true else xin r pc
