/-! a machine for what makes things: the picture grows -/
abbrev yQ : Type := xLa → xS → Prop
abbrev yKT : Type := Nat → xLs → List Value → xLa → xS → Nat → Nat → Prop
def xZr (s : xS) (k : Nat) : xS := (va_up s.1 k (fun _ => nI 0), va_up s.2 k (fun _ => 0))
def xZn (s : xS) (k n : Nat) : xS := (fun q => if k ≤ q ∧ q ≤ k + n then (fun _ => nI 0) else s.1 q, fun q => if k ≤ q ∧ q ≤ k + n then (fun _ => 0) else s.2 q)
def ygd (n : Nat) (v : Value) : Bool := match v with
  | .ref k => Nat.blt k n || Nat.ble 900 k
  | _ => true
def ygs (n : Nat) : List Value → Bool
  | [] => true
  | v :: r => ygd n v && ygs n r
def ygl (n : Nat) : xLs → Bool
  | [] => true
  | none :: r => ygl n r
  | some v :: r => ygd n v && ygl n r
def ygo (n : Nat) : List (Option Nat) → Bool
  | [] => true
  | none :: r => ygo n r
  | some q :: r => Nat.blt q n && ygo n r
def ygL (n : Nat) : xLa → Bool
  | [] => true
  | c :: r => ygo n c.2.2 && ygL n r
def ychk (L : xLa) (ls : xLs) (st : List Value) : Bool := ygs L.length st && (ygl L.length ls && (ygL L.length L && Nat.blt L.length 880))
/-- what a constructor may take -/
def ymc (b : Nat) : Nat × Nat := match b with
  | 95 => (1000, 40000)
  | 126 => (1000, 40000)
  | 27 => (64, 4000)
  | 44 => (64, 4000)
  | 60 => (64, 4000)
  | _ => (16, 1000)
def yhd (As : List Value) : Bool := match As with
  | .ref _ :: _ => true
  | _ => false
def yrr (st : List Value) (k : Nat → Nat → List Value → Prop) : Prop := match st with
  | .ref q :: .ref a :: r => k a q r
  | _ => False
def yri (st : List Value) (k : Nat → Int32 → Nat → List Value → Prop) : Prop := match st with
  | .ref q :: .int i :: .ref a :: r => k a i q r
  | _ => False
def yex (C : xLa → Nat → List Value → xS → yQ → Prop) (D : xLa → Nat → List Value → xS → xQ → Prop) (Z : yQ) (Q : xQ) (mc ms : Nat) (K : yKT) (L : xLa) (M : xM) (pc : Nat) (i : Instr) (nx a b c : Nat) (ls : xLs) (st : List Value) (s : xS) (kc ks : Nat) : Prop := match i with
  | .new _ => ∃ n0 : Nat, n0 = L.length ∧ xif (ychk L ls st) ((kc + 1 ≤ mc ∧ ks + xN a ≤ ms) ∧ K nx ls (.ref n0 :: st) (L ++ [(a, 0, List.replicate (xN a) none)]) (xZr s n0) (kc + 1) (ks + xN a))
  | .newarray _ => xi1 st fun x r => ∃ n0 : Nat, n0 = L.length ∧ xif (ychk L ls r) (∃ n : Nat, (x = nI n ∧ n ≤ 10000 ∧ kc + 1 ≤ mc ∧ ks + n ≤ ms) ∧ K nx ls (.ref n0 :: r) (L ++ [(a, n, [])]) (xZr s n0) (kc + 1) (ks + n))
  | .anewarray _ => xi1 st fun x r => ∃ n0 : Nat, n0 = L.length ∧ xif (ychk L ls r) (∃ n : Nat, (x = nI n ∧ n ≤ 10000 ∧ kc + 1 ≤ mc ∧ ks + n ≤ ms) ∧ K nx ls (.ref n0 :: r) (L ++ [(103, n, List.replicate n none)]) (xZr s n0) (kc + 1) (ks + n))
  | .multianewarray _ _ => xi2 st fun x y r => ∃ n0 : Nat, n0 = L.length ∧ xif (ychk L ls r) (∃ n k : Nat, (x = nI n ∧ y = nI k ∧ n ≤ 16 ∧ k ≤ 10000 ∧ kc + (1 + n) ≤ mc ∧ ks + (n + n * k) ≤ ms) ∧ K nx ls (.ref n0 :: r) ((L ++ [(104, n, (List.range n).map (fun i => some (n0 + 1 + i)))]) ++ List.replicate n (100, k, [])) (xZn s n0 n) (kc + 1 + n) (ks + n + n * k))
  | .putfield idx => (match c with
    | 0 => xex (D L) Q (fun pc ls st s => K pc ls st L s kc ks) L M pc (.putfield idx) nx a b 0 ls st s
    | _ => (match xfk a b with
      | 0 => xpi st fun k x r => xopm (xnth L k) fun kd _ _ => xif (Nat.beq kd a) (K nx ls r L (xW s k b x) kc ks)
      | 2 => yrr st fun k q r => xopm (xnth L k) fun kd n ps => xif (Nat.beq kd a && Nat.beq ps.length (xN a)) (K nx ls r (L.set k (kd, n, ps.set b (some q))) s kc ks)
      | _ => False))
  | .aastore => yri st fun k j q r => xopm (xnth L k) fun kd n ps => xopm (xnth L q) fun kq _ _ => xif (Nat.beq kd 103 && Nat.beq kq 3 && Nat.beq ps.length n) (∃ z : Nat, (z < n ∧ j = nI z) ∧ K nx ls r (L.set k (kd, n, ps.set z (some q))) s kc ks)
  | .invokespecial _ => (match c with
    | 0 => xr1 st fun _ r => xif (xfit r 8) (K nx ls r L s kc ks)
    | _ => xpop (a + 1) st [] fun As r => xif (xfit r 8 && (ygs L.length r && (ygl L.length ls && yhd As))) ((kc + (ymc b).1 ≤ mc ∧ ks + (ymc b).2 ≤ ms) ∧ C L b As s (fun L' s' => K nx ls r L' s' (kc + (ymc b).1) (ks + (ymc b).2))))
  | .return_ => xrtv st (Z L s)
  | i => xex (D L) Q (fun pc ls st s => K pc ls st L s kc ks) L M pc i nx a b c ls st s
def yst (C : xLa → Nat → List Value → xS → yQ → Prop) (D : xLa → Nat → List Value → xS → xQ → Prop) (Z : yQ) (Q : xQ) (mc ms : Nat) (K : yKT) (M : xM) (pc : Nat) (ls : xLs) (st : List Value) (L : xLa) (s : xS) (kc ks : Nat) : Prop :=
  match xfd M.2.2.1 pc with
  | some (_, i, nx, a, b, c) => yex C D Z Q mc ms K L M pc i nx a b c ls st s kc ks
  | none => False
def yrn (C : xLa → Nat → List Value → xS → yQ → Prop) (D : xLa → Nat → List Value → xS → xQ → Prop) (Z : yQ) (Q : xQ) (mc ms : Nat) (K : yKT) (M : xM) (stops : Nat → Bool) : Nat → yKT
  | 0, pc, ls, st, L, s, kc, ks => K pc ls st L s kc ks
  | n + 1, pc, ls, st, L, s, kc, ks => bif stops pc then K pc ls st L s kc ks else yst C D Z Q mc ms (yrn C D Z Q mc ms K M stops n) M pc ls st L s kc ks
/-! the rows of such code -/
def ynwL : List (Nat × Nat × Nat) := [(11, 7, 8), (11, 18, 9), (8, 16, 0), (8, 30, 6), (8, 37, 4), (4, 9, 3), (4, 41, 7), (8, 46, 3), (8, 55, 2), (2, 7, 3), (2, 18, 1), (8, 64, 5)]
def ynww (q : Nat × Nat × Nat) : List Cond := [.classLink (xnm q.1) q.2.1 (xC q.2.2), .instantiable (xC q.2.2) (xN q.2.2), .initialized (xC q.2.2)]
set_option maxRecDepth 100000 in
theorem ynw_in : ∀ w ∈ ynwL.flatMap ynww, w ∈ xWs := xWs_of [(1, 19), (1, 20), (1, 1), (4, 191), (4, 192), (1, 11), (1, 33), (1, 34), (1, 3), (1, 112), (1, 113), (1, 4), (1, 127), (1, 128), (1, 5), (1, 133), (1, 134), (1, 6), (1, 157), (1, 158), (1, 7), (1, 210), (1, 134), (1, 6), (1, 213), (1, 214), (1, 8), (1, 219), (1, 134), (1, 6), (1, 221), (1, 222), (1, 9), (2, 11), (2, 12), (1, 10)] rfl rfl
theorem ynw_of {q : Nat × Nat × Nat} (h : q ∈ ynwL) : ∀ w ∈ ynww q, w ∈ xWs := fun w hw => ynw_in w (List.mem_flatMap.mpr ⟨q, h, hw⟩)
def yobL : List (Nat × Nat) := [(8, 1), (0, 3), (6, 3), (4, 3), (3, 3), (7, 3), (2, 1), (1, 1), (5, 3), (9, 1)]
set_option maxRecDepth 100000 in
theorem yob_in : ∀ w ∈ yobL.map (fun q => Cond.methodLink (xnm q.1) q.2 Lib.objectInit), w ∈ xWs := xWs_of [(1, 24), (1, 38), (1, 117), (1, 132), (1, 138), (1, 162), (1, 218), (1, 226), (2, 16), (4, 196)] rfl rfl
set_option maxRecDepth 100000 in
theorem yob_w : ∀ w ∈ [Cond.instanceMethod Lib.objectInit, Cond.code Lib.objectInit ⟨#[0xb1]⟩ 1 none], w ∈ xWs := xWs_of [(1, 25), (1, 26)] rfl rfl
set_option maxRecDepth 100000 in
theorem yar_w : ∀ w ∈ [Cond.arrayClass .int, Cond.arrayClass .boolean, Cond.arrayClass .long, Cond.classLink (xnm 8) 46 "WrongEnd$Program", Cond.classLink (xnm 5) 36 "[[I"], w ∈ xWs := xWs_of [(1, 110), (1, 111), (2, 46), (1, 210), (2, 25)] rfl rfl
def yokx (own mL : Nat) (rt : Option FieldType) (sws : List (Nat × List (Nat × Nat) × Nat)) (pc a b c : Nat) (i : Instr) : Bool := match i with
  | .new idx => decide ((own, idx, a) ∈ ynwL) && Nat.blt a 10
  | .newarray t => (match a with
    | 100 => decide (newarray.typeOf t = .int)
    | 101 => decide (newarray.typeOf t = .boolean)
    | 102 => decide (newarray.typeOf t = .long)
    | _ => false)
  | .anewarray idx => Nat.beq own 8 && Nat.beq idx 46
  | .multianewarray idx n => Nat.beq own 5 && Nat.beq idx 36 && decide (n = 2)
  | .putfield idx => (match c with
    | 0 => decide ((own, idx, a, b) ∈ xfl) && !(xTb a b).2.2.2
    | _ => decide ((own, idx, a, b) ∈ xfl) && (xTb a b).2.2.2 && Nat.beq own a)
  | .invokespecial idx => (match c with
    | 0 => decide ((own, idx) ∈ yobL)
    | 1 => decide ((own, idx, b) ∈ xml) && (Nat.beq (xmk b) 2 && (Nat.beq a (xna b) && (Nat.blt b 233 && (decide ((xsg b).1.name = "<init>") && decide ((xsg b).2.2.2 = none)))))
    | _ => ((Nat.beq own 8 && (Nat.beq idx 32 && Nat.beq b 78)) || (Nat.beq own 2 && (Nat.beq idx 20 && Nat.beq b 20))) && Nat.beq a 0)
  | i => xokx own mL rt sws pc a b c i
def yoke (own : Nat) (g : xSg) (sws : List (Nat × List (Nat × Nat) × Nat)) (q : xEn) : Bool :=
  decide (decode g.2.1 q.1 = .ok (q.2.1, bif xissw q.2.1 then q.2.2.1 - q.1 else xlen q.2.1)) && (xissw q.2.1 || Nat.beq q.2.2.1 (q.1 + xlen q.2.1)) && yokx own g.2.2.1 g.2.2.2 sws q.1 q.2.2.2.1 q.2.2.2.2.1 q.2.2.2.2.2 q.2.1
def yok (M : xM) : Bool := M.2.2.1.all (yoke M.2.1 (xsg M.1) M.2.2.2)
/-! what it is, of the machine -/
def yag (n0 : Nat) (ad0 ad : Nat → Nat) : Prop := ∀ q, (q < n0 ∨ 900 ≤ q) → ad q = ad0 q
def yCx (p : Program) (R : Room) (s0 : State) (m : MethodId) (args : Array Value) (meth : Method) (c : Code) (E : xE) (ad0 : Nat → Nat) (A : Nat → Prop) (d : Nat) (M : xM) (mc ms : Nat) : Prop :=
  (p.tables.exec = Jvm.exec ∧ c.code = (xsg M.1).2.1 ∧ c.maxLocals = (xsg M.1).2.2.1 ∧ s0.vm.findClass (xnm M.2.1) = some m.cls) ∧ (∀ w ∈ xWs, w.before args s0 = true) ∧ xKs E ad0 A s0 s0.heap ∧ (d + 1 ≤ R.frames ∧ 64 * (d + 1) ≤ R.locals ∧ mc ≤ R.cells ∧ ms ≤ R.slots) ∧ (∀ q, s0.heap.size ≤ q → A q) ∧ yok M = true ∧ (M.2.1 < 10 → meth.name = "<init>")
def yRet (p : Program) (l : Launch) (e : Env) (R : Room) (s0 : State) (m : MethodId) (args : Array Value) (below : List Frame) (meth : Method) (c : Code) (Qf : State → Prop) (E : xE) (ad0 : Nat → Nat) (n0 : Nat) (A : Nat → Prop) (M : xM) (mc ms : Nat) (Z : yQ) : Prop :=
  ∀ (L : xLa) (s : xS) (ad : Nat → Nat) (H : Heap) (locs : List Loc) (pc : Nat) (LS : Array Slot), Z L s → yag n0 ad0 ad → n0 ≤ L.length → va_P (E.1, E.2.1) vwCl (xwo E.2.2.1 ad L s) H → xD A ad L.length → va_S A s0.heap H locs → xSc E s → xLok L → decode (xsg M.1).2.1 pc = .ok (.return_, 1) → (xsg M.1).2.2.2 = none → W p l e R s0 m args below meth c H locs mc ms Qf (F0 m pc LS [])
def zRet (p : Program) (l : Launch) (e : Env) (R : Room) (s0 : State) (m : MethodId) (args : Array Value) (below : List Frame) (meth : Method) (c : Code) (Qf : State → Prop) (E : xE) (ad0 : Nat → Nat) (n0 : Nat) (A : Nat → Prop) (M : xM) (mc ms : Nat) (Q : xQ) : Prop :=
  ∀ (L : xLa) (ad : Nat → Nat) (kc ks : Nat), kc ≤ mc → ks ≤ ms → yag n0 ad0 ad → n0 ≤ L.length → xRet p l e R s0 m args below meth c kc ks Qf E ad A L M Q
def yX (d : Nat) (M : xM) (Z : yQ) (Q : xQ) (mc ms : Nat) : yKT := fun pc ls st L s kc ks =>
  ∀ (p : Program) (l : Launch) (e : Env) (R : Room) (s0 : State) (m : MethodId) (args : Array Value) (below : List Frame) (meth : Method) (c : Code) (Qf : State → Prop) (E : xE) (ad0 : Nat → Nat) (n0 : Nat) (A : Nat → Prop), yCx p R s0 m args meth c E ad0 A d M mc ms → yRet p l e R s0 m args below meth c Qf E ad0 n0 A M mc ms Z → zRet p l e R s0 m args below meth c Qf E ad0 n0 A M mc ms Q → ∀ (ad : Nat → Nat) (H : Heap) (locs : List Loc) (LS : Array Slot), yag n0 ad0 ad → n0 ≤ L.length → kc ≤ mc → ks ≤ ms → xI E ad A L s s0 H locs (xsg M.1).2.2.1 LS ls → W p l e R s0 m args below meth c H locs kc ks Qf (F0 m pc LS (st.map (xcv ad)))
def yQc (E : xE) (ad : Nat → Nat) (L : xLa) (sz : Nat) (Z : yQ) : Array Value → State → Outcome → State → Prop := fun _ st oc t => (oc = .returned none ∧ ∃ (L' : xLa) (s' : xS) (ad' : Nat → Nat), Z L' s' ∧ yag L.length ad ad' ∧ L.length ≤ L'.length ∧ va_P (E.1, E.2.1) vwCl (xwo E.2.2.1 ad' L' s') t.heap ∧ xD (xFr ad L.length sz) ad' L'.length ∧ xSc E s' ∧ xLok L') ∧ va_F (xFr ad L.length sz) st t
def yrm (d : Nat) (b : Nat) : Room := { frames := d, cells := (ymc b).1, slots := (ymc b).2, locals := 64 * d }
def yP (d : Nat) (L : xLa) (n : Nat) (As : List Value) (s : xS) (Z : yQ) : Prop :=
  ∀ (l : Launch) (E : xE) (ad : Nat → Nat) (sz : Nat), Met l (xsg n).1 (xws n) (yrm d n) (xPc E ad L s As sz) (yQc E ad L sz Z) (ymc n).1 (ymc n).2 (xFr ad L.length sz)
/-! small things -/
theorem ygd_e {n : Nat} {v : Value} {ad ad' : Nat → Nat} (h : ygd n v = true) (ha : yag n ad ad') : xcv ad' v = xcv ad v := by
  cases v with
  | ref k =>
    have h : (Nat.blt k n || Nat.ble 900 k) = true := h
    rw [Bool.or_eq_true] at h
    show Value.ref (ad' k) = .ref (ad k)
    rw [ha k (h.elim (fun z => Or.inl (Nat.le_of_ble_eq_true z)) (fun z => Or.inr (Nat.le_of_ble_eq_true z)))]
  | _ => rfl
theorem ygs_e {n : Nat} {ad ad' : Nat → Nat} (ha : yag n ad ad') : ∀ {st : List Value}, ygs n st = true → st.map (xcv ad') = st.map (xcv ad)
  | [], _ => rfl
  | v :: r, h => by
    have h : (ygd n v && ygs n r) = true := h
    rw [Bool.and_eq_true] at h
    rw [List.map_cons, List.map_cons, ygd_e h.1 ha, ygs_e ha h.2]
theorem ygl_e {n : Nat} : ∀ {ls : xLs}, ygl n ls = true → ∀ {i : Nat} {v : Value}, xlv ls i = some v → ygd n v = true
  | [], _, i, v, hv => by cases hv
  | none :: r, h, i, v, hv => by
    cases i with
    | zero => cases hv
    | succ i => exact ygl_e (ls := r) h hv
  | some w :: r, h, i, v, hv => by
    have h : (ygd n w && ygl n r) = true := h
    rw [Bool.and_eq_true] at h
    cases i with
    | zero => cases hv; exact h.1
    | succ i => exact ygl_e h.2 hv
theorem xLv.ag {LS : Array Slot} {mL n : Nat} {ad ad' : Nat → Nat} {ls : xLs} (h : xLv LS mL ad ls) (hg : ygl n ls = true) (ha : yag n ad ad') : xLv LS mL ad' ls := by
  obtain ⟨l, h1, h2⟩ := h
  exact ⟨l, h1, fun i v hv => by rw [ygd_e (ygl_e hg hv) ha]; exact h2 i v hv⟩
theorem ygo_e {n : Nat} {ad ad' : Nat → Nat} (ha : ∀ q, q < n → ad' q = ad q) : ∀ {ps : List (Option Nat)}, ygo n ps = true → ∀ j, (ps.getD j none).map ad' = (ps.getD j none).map ad
  | [], _, j => rfl
  | none :: r, h, j => by
    cases j with
    | zero => rfl
    | succ j => exact ygo_e ha (ps := r) h j
  | some q :: r, h, j => by
    have h : (Nat.blt q n && ygo n r) = true := h
    rw [Bool.and_eq_true] at h
    cases j with
    | zero => exact congrArg some (ha q (Nat.le_of_ble_eq_true h.1))
    | succ j => exact ygo_e ha h.2 j
theorem ygL_e {n : Nat} : ∀ {L : xLa}, ygL n L = true → ∀ c ∈ L, ygo n c.2.2 = true
  | [], _, c, hc => by cases hc
  | c0 :: r, h, c, hc => by
    have h : (ygo n c0.2.2 && ygL n r) = true := h
    rw [Bool.and_eq_true] at h
    rcases List.mem_cons.mp hc with rfl | hc
    · exact h.1
    · exact ygL_e h.2 c hc
theorem xce_cg {cA : Nat → ClassId} {ad ad' : Nat → Nat} {s s' : xS} {k n : Nat} {c : xLc} (ha : ∀ q, q < n → ad' q = ad q) (hc : ygo n c.2.2 = true) (h1 : s'.1 k = s.1 k) (h2 : s'.2 k = s.2 k) : xce cA ad' s' k c = xce cA ad s k c := by
  have e : ∀ j, (c.2.2.getD j none).map ad' = (c.2.2.getD j none).map ad := ygo_e ha hc
  unfold xce xfv
  simp only [e, h1, h2]
theorem xwo_cg {cA : Nat → ClassId} {ad ad' : Nat → Nat} {s s' : xS} {L : xLa} {n : Nat} (hn : L.length ≤ n) (ha : ∀ q, q < n → ad' q = ad q) (hc : ygL n L = true) (h1 : ∀ k, k < L.length → s'.1 k = s.1 k) (h2 : ∀ k, k < L.length → s'.2 k = s.2 k) : xwo cA ad' L s' = xwo cA ad L s := by
  apply List.ext_getElem?
  intro k
  rw [xwo_get, xwo_get]
  cases hk : L[k]? with
  | none => rfl
  | some c =>
    have hl := (List.getElem?_eq_some_iff.mp hk).1
    show some (ad' k, _) = some (ad k, _)
    rw [ha k (by omega), xce_cg ha (ygL_e hc c (List.mem_of_getElem? hk)) (h1 k hl) (h2 k hl)]
theorem xwo_len {cA : Nat → ClassId} {ad : Nat → Nat} {s : xS} {L : xLa} : (xwo cA ad L s).length = L.length := by
  unfold xwo
  rw [List.length_mapIdx]
theorem xwo_app {cA : Nat → ClassId} {ad : Nat → Nat} {s : xS} {L : xLa} {c : xLc} : xwo cA ad (L ++ [c]) s = xwo cA ad L s ++ [(ad L.length, xce cA ad s L.length c)] := by
  unfold xwo
  rw [List.mapIdx_append]
  simp
theorem xD_ap {A : Nat → Prop} {ad ad' : Nat → Nat} {n q : Nat} (h : xD A ad n) (ha : ∀ k, k < n → ad' k = ad k) (hq : ad' n = q) (hne : ∀ k, k < n → ad k ≠ q) (hA : A q) : xD A ad' (n + 1) := by
  refine ⟨fun i j hi hj e => ?_, fun k hk => ?_⟩
  · by_cases e1 : i = n
    · by_cases e2 : j = n
      · rw [e1, e2]
      · rw [e1, hq, ha j (by omega)] at e
        exact absurd e.symm (hne j (by omega))
    · by_cases e2 : j = n
      · rw [e2, hq, ha i (by omega)] at e
        exact absurd e (hne i (by omega))
      · rw [ha i (by omega), ha j (by omega)] at e
        exact h.1 i j (by omega) (by omega) e
  · by_cases e1 : k = n
    · rw [e1, hq]; exact hA
    · rw [ha k (by omega)]; exact h.2 k (by omega)
theorem xD_of {A : Nat → Prop} {cA : Nat → ClassId} {ad : Nat → Nat} {L : xLa} {s : xS} {q : Nat} {e : va_E} (h : va_D A (xwo cA ad L s ++ [(q, e)])) : (∀ k, k < L.length → ad k ≠ q) ∧ A q := by
  have hq : (xwo cA ad L s ++ [(q, e)])[L.length]? = some (q, e) := by
    rw [← xwo_len (cA := cA) (ad := ad) (s := s), List.getElem?_append_right (Nat.le_refl _), Nat.sub_self]
    rfl
  refine ⟨fun k hk e1 => ?_, h.2 _ _ hq⟩
  have hk2 : (xwo cA ad L s ++ [(q, e)])[k]? = some (ad k, xce cA ad s k L[k]) := by
    rw [List.getElem?_append_left (by rw [xwo_len]; exact hk), xwo_get, List.getElem?_eq_getElem hk]
    rfl
  have := h.1 k L.length _ _ hk2 hq e1
  omega
theorem xLok.ap {L : xLa} {c : xLc} (h : xLok L) (hn : L.length < 900) (h1 : c.1 < 105) (h2 : c.2.1 < 2 ^ 31) : xLok (L ++ [c]) := by
  refine ⟨by rw [List.length_append]; show L.length + 1 ≤ 900; omega, fun k c' hk => ?_⟩
  rw [xnth_get] at hk
  rcases List.mem_append.mp (List.mem_of_getElem? hk) with hm | hm
  · obtain ⟨j, hj⟩ := List.getElem?_of_mem hm
    exact h.2 j c' (by rw [xnth_get]; exact hj)
  · rcases List.mem_singleton.mp hm with rfl
    exact ⟨h1, h2⟩
theorem xSc.cg {E : xE} {s s' : xS} (h : xSc E s) (h1 : ∀ k, 900 ≤ k → s'.1 k = s.1 k) : xSc E s' := ⟨by rw [h1 900 (by omega)]; exact h.1, by rw [h1 901 (by omega)]; exact h.2⟩
theorem xKs.ag {E : xE} {ad ad' : Nat → Nat} {n : Nat} {A : Nat → Prop} {U : State} {H : Heap} (h : xKs E ad A U H) (ha : yag n ad ad') : xKs E ad' A U H := by
  have e : ∀ q, 900 ≤ q → ad' q = ad q := fun q hq => ha q (Or.inr hq)
  unfold xKs at h ⊢
  rw [e 900 (by omega), e 902 (by omega), e 903 (by omega), e 904 (by omega), show (fun i => ad' (903 + i)) = fun i => ad (903 + i) from funext fun i => e _ (by omega), show (fun i => ad' (905 + i)) = fun i => ad (905 + i) from funext fun i => e _ (by omega)]
  exact h
theorem yag.tr {n m : Nat} {a b c : Nat → Nat} (h : yag n a b) (k : yag m b c) (hn : n ≤ m) : yag n a c := fun q hq => (k q (by omega)).trans (h q hq)
theorem yag_up {n q : Nat} {ad : Nat → Nat} (hn : n < 900) : yag n ad (va_up ad n q) := fun k hk => va_up_ne _ _ (by omega)
theorem yrr_e {st : List Value} {k : Nat → Nat → List Value → Prop} (h : yrr st k) : ∃ (a q : Nat) (r : List Value), st = .ref q :: .ref a :: r ∧ k a q r := by
  unfold yrr at h
  split at h
  · exact ⟨_, _, _, rfl, h⟩
  · exact h.elim
theorem yri_e {st : List Value} {k : Nat → Int32 → Nat → List Value → Prop} (h : yri st k) : ∃ (a : Nat) (i : Int32) (q : Nat) (r : List Value), st = .ref q :: .int i :: .ref a :: r ∧ k a i q r := by
  unfold yri at h
  split at h
  · exact ⟨_, _, _, _, rfl, h⟩
  · exact h.elim
theorem xrtv_e' {st : List Value} {P : Prop} (h : xrtv st P) : st = [] ∧ P := by
  unfold xrtv at h
  split at h
  · exact ⟨rfl, h⟩
  · exact h.elim
theorem ydef : ∀ a, a < 10 → ∀ j, j < xN a → defaultValue (xtyf a j) = (match xfk a j with | 0 => Value.int (nI 0) | 1 => .long 0 | 3 => .int (nI 0) | _ => .null) := by decide +kernel
theorem ychk_e {L : xLa} {ls : xLs} {st : List Value} (h : ychk L ls st = true) : ygs L.length st = true ∧ ygl L.length ls = true ∧ ygL L.length L = true ∧ L.length < 880 := by
  unfold ychk at h
  rw [Bool.and_eq_true, Bool.and_eq_true, Bool.and_eq_true] at h
  exact ⟨h.1, h.2.1, h.2.2.1, Nat.le_of_ble_eq_true h.2.2.2⟩
section YGO
variable {p : Program} {l : Launch} {e : Env} {R : Room} {s0 : State} {m : MethodId} {args : Array Value} {below : List Frame} {meth : Method} {c : Code} {H : Heap} {locs : List Loc} {cells slots mc ms : Nat} {Qf : State → Prop}
theorem ygo_run {E : xE} {ad : Nat → Nat} {A : Nat → Prop} {L : xLa} {pc : Nat} {LS : Array Slot} {st0 rest : List Value} {a : Array Value} {Z : yQ} (hr : va_Run p l e R s0 m args below meth c H locs cells slots mc ms (F0 m pc LS st0) rest (yQc E ad L H.size Z a) (xFr ad L.length H.size)) (hS : va_S A s0.heap H locs) (hF : ∀ q, xFr ad L.length H.size q → A q)
    (kk : ∀ (L' : xLa) (s' : xS) (ad' : Nat → Nat) (H1 : Heap) (locs1 : List Loc), Z L' s' → yag L.length ad ad' → L.length ≤ L'.length → va_P (E.1, E.2.1) vwCl (xwo E.2.2.1 ad' L' s') H1 → xD A ad' L'.length → xSc E s' → xLok L' → va_S A s0.heap H1 locs1 → W p l e R s0 m args below meth c H1 locs1 (cells + mc) (slots + ms) Qf (F0 m (pc + 3) LS rest)) : W p l e R s0 m args below meth c H locs cells slots Qf (F0 m pc LS st0) := by
  intro T hT X
  obtain ⟨v, st₀, t, T', L1, h0, X', hL1, e1, e2, ⟨⟨hv, L', s', ad', z1, z2, z3, z4, z5, z6, z7⟩, hz, hk⟩, st⟩ := hr T hT X
  cases hv
  rw [h0] at hz hk
  obtain ⟨t2, a1, b1⟩ := kk L' s' ad' T'.heap (locs ++ L1) z1 z2 z3 (by rw [e1]; exact z4) (z5.weaken (fun k hk => hF _ (z5.2 k hk))) z6 z7 ⟨Nat.le_trans hS.1 (by rw [e1]; exact hz), fun q h1 h2 => by rw [e1, hk q (Nat.lt_of_lt_of_le h1 hS.1) (fun z => h2 (hF q z))]; exact hS.2.1 q h1 h2, fun q hq => by
      rcases List.mem_append.mp hq with h | h
      · exact hS.2.2 q h
      · exact hF _ (hL1 q h)⟩ T' rfl X'
  exact ⟨t2, st t2 a1, b1⟩
end YGO
