/-! the small machine is the machine: one instruction -/
def xCx (p : Program) (R : Room) (s0 : State) (m : MethodId) (args : Array Value) (c : Code) (cells slots : Nat) (E : xE) (ad : Nat → Nat) (A : Nat → Prop) (d : Nat) (M : xM) : Prop :=
  (p.tables.exec = Jvm.exec ∧ c.code = (xsg M.1).2.1 ∧ c.maxLocals = (xsg M.1).2.2.1 ∧ s0.vm.findClass (xnm M.2.1) = some m.cls) ∧ (∀ w ∈ xWs, w.before args s0 = true) ∧ xKs E ad A s0 s0.heap ∧ (d + 1 ≤ R.frames ∧ 64 * (d + 1) ≤ R.locals ∧ cells ≤ R.cells ∧ slots ≤ R.slots) ∧ (∀ q, s0.heap.size ≤ q → A q) ∧ xok M = true
def xLok (L : xLa) : Prop := L.length ≤ 900 ∧ ∀ k c, xnth L k = some c → c.1 < 105 ∧ c.2.1 < 2 ^ 31
def xI (E : xE) (ad : Nat → Nat) (A : Nat → Prop) (L : xLa) (s : xS) (s0 : State) (H : Heap) (locs : List Loc) (mL : Nat) (LS : Array Slot) (ls : xLs) : Prop :=
  va_P (E.1, E.2.1) vwCl (xwo E.2.2.1 ad L s) H ∧ xD A ad L.length ∧ va_S A s0.heap H locs ∧ xLv LS mL ad ls ∧ xSc E s ∧ xLok L
def xretd (M : xM) (pc : Nat) (r : Option Value) : Prop := match r with
  | none => decode (xsg M.1).2.1 pc = .ok (.return_, 1) ∧ (xsg M.1).2.2.2 = none
  | some (.int v) => decode (xsg M.1).2.1 pc = .ok (.ireturn, 1) ∧ ∃ ty, (xsg M.1).2.2.2 = some ty ∧ narrow ty (.int v) = .int v
  | some (.long _) => decode (xsg M.1).2.1 pc = .ok (.lreturn, 1) ∧ (xsg M.1).2.2.2 = some .long
  | _ => False
def xRet (p : Program) (l : Launch) (e : Env) (R : Room) (s0 : State) (m : MethodId) (args : Array Value) (below : List Frame) (meth : Method) (c : Code) (cells slots : Nat) (Qf : State → Prop) (E : xE) (ad : Nat → Nat) (A : Nat → Prop) (L : xLa) (M : xM) (Q : xQ) : Prop :=
  ∀ (r : Option Value) (s : xS) (H : Heap) (locs : List Loc) (pc : Nat) (LS : Array Slot), Q r s → va_P (E.1, E.2.1) vwCl (xwo E.2.2.1 ad L s) H → va_S A s0.heap H locs → xSc E s → xretd M pc r → W p l e R s0 m args below meth c H locs cells slots Qf (F0 m pc LS (r.toList.map (xcv ad)))
/-- method M at depth d + 1 stands at pc, with these locals, this stack, this picture: it will return, and Q holds then -/
def xX (d : Nat) (M : xM) (Q : xQ) (L : xLa) (pc : Nat) (ls : xLs) (st : List Value) (s : xS) : Prop :=
  ∀ (p : Program) (l : Launch) (e : Env) (R : Room) (s0 : State) (m : MethodId) (args : Array Value) (below : List Frame) (meth : Method) (c : Code) (cells slots : Nat) (Qf : State → Prop) (E : xE) (ad : Nat → Nat) (A : Nat → Prop), xCx p R s0 m args c cells slots E ad A d M → xRet p l e R s0 m args below meth c cells slots Qf E ad A L M Q → ∀ (H : Heap) (locs : List Loc) (LS : Array Slot), xI E ad A L s s0 H locs (xsg M.1).2.2.1 LS ls → W p l e R s0 m args below meth c H locs cells slots Qf (F0 m pc LS (st.map (xcv ad)))
theorem xfd_e : ∀ {l : List xEn} {pc : Nat} {q : xEn}, xfd l pc = some q → q ∈ l ∧ q.1 = pc
  | [], _, _, h => by cases h
  | e :: r, pc, q, h => by
    unfold xfd at h
    cases hb : Nat.beq e.1 pc with
    | true =>
      rw [hb] at h
      cases h
      exact ⟨List.mem_cons_self, Nat.eq_of_beq_eq_true hb⟩
    | false =>
      rw [hb] at h
      obtain ⟨h1, h2⟩ := xfd_e (l := r) h
      exact ⟨List.mem_cons_of_mem _ h1, h2⟩
theorem xN_cl : ∀ a, a < 10 → vwCl[a]? = some (xC a, xTb a, xN a) := by
  intro a ha
  match a, ha with
  | 0, _ => rfl
  | 1, _ => rfl
  | 2, _ => rfl
  | 3, _ => rfl
  | 4, _ => rfl
  | 5, _ => rfl
  | 6, _ => rfl
  | 7, _ => rfl
  | 8, _ => rfl
  | 9, _ => rfl
  | n + 10, h => omega
theorem xnm_C : ∀ a, a < 10 → xnm a = xC a := by decide +kernel
def xlayL : List Cond := vwCl.flatMap (fun q => u_ws q.1 q.2.1 q.2.2)
def xtyf (a : Nat) : Nat → FieldType := match a with
  | 0 => tyX0
  | 1 => tyX1
  | 2 => tyX3
  | 3 => tyX4
  | 4 => tyX5
  | 5 => tyX6
  | 6 => tyX8
  | 7 => tyX9
  | 8 => tyX10
  | _ => tyX11
theorem xty_ok : ∀ a, a < 10 → ∀ k, k < xN a → parseFieldDescriptor (xTb a k).2.2.1 = some (xtyf a k) := by
  intro a ha
  match a, ha with
  | 0, _ => exact tyX0_ok
  | 1, _ => exact tyX1_ok
  | 2, _ => exact tyX3_ok
  | 3, _ => exact tyX4_ok
  | 4, _ => exact tyX5_ok
  | 5, _ => exact tyX6_ok
  | 6, _ => exact tyX8_ok
  | 7, _ => exact tyX9_ok
  | 8, _ => exact tyX10_ok
  | 9, _ => exact tyX11_ok
  | n + 10, h => omega
theorem xnm_ok : ∀ a, a < 10 → ∀ x, x < xN a → ∀ y, y < xN a → x ≠ y → (xTb a x).2.1 ≠ (xTb a y).2.1 := by
  intro a ha
  match a, ha with
  | 0, _ => exact nmX0
  | 1, _ => exact nmX1
  | 2, _ => exact nmX3
  | 3, _ => exact nmX4
  | 4, _ => exact nmX5
  | 5, _ => exact nmX6
  | 6, _ => exact nmX8
  | 7, _ => exact nmX9
  | 8, _ => exact nmX10
  | 9, _ => exact nmX11
  | n + 10, h => omega
theorem xfk_ty : ∀ a, a < 10 → ∀ b, b < xN a → (xfk a b = 0 → xtyf a b = .int) ∧ (xfk a b = 1 → xtyf a b = .long) ∧ (xfk a b = 3 → xtyf a b = .boolean) := by decide +kernel
theorem xfk_lt : ∀ a, a < 10 → ∀ b, b < xN a → xfk a b < 4 := by decide +kernel
theorem xfl_a : ∀ q ∈ xfl, q.2.2.1 < 10 := by decide +kernel
set_option maxRecDepth 100000 in
theorem xlay_in : ∀ w ∈ xlayL, w ∈ xWs := xWs_of [(1, 75), (1, 77), (1, 79), (1, 81), (1, 83), (1, 85), (1, 87), (1, 89), (1, 91), (1, 93), (1, 95), (1, 97), (1, 99), (1, 101), (1, 103), (1, 105), (1, 107), (1, 231), (1, 233), (1, 235), (2, 2), (2, 4), (2, 6), (2, 8), (1, 148), (1, 150), (1, 152), (1, 154), (1, 193), (1, 195), (1, 197), (1, 199), (1, 201), (1, 203), (1, 205), (1, 207), (2, 33), (2, 35), (2, 37), (2, 39), (2, 41), (2, 43), (1, 122), (1, 124), (1, 169), (1, 171), (1, 173), (1, 175), (1, 177), (1, 179), (2, 54), (2, 56), (2, 58), (2, 60), (2, 62), (2, 64), (2, 66), (4, 229), (4, 231), (4, 233), (4, 235), (4, 237), (4, 239), (5, 1), (5, 3), (5, 5), (5, 7), (5, 9), (5, 11), (5, 13), (5, 15), (5, 17), (5, 19), (5, 21), (5, 23), (5, 25), (5, 27), (5, 29), (5, 31), (5, 33), (5, 35), (5, 37), (5, 39), (5, 41), (5, 43), (5, 45), (5, 47), (5, 49)] rfl rfl
theorem xlay_of {a : Nat} (ha : a < 10) : ∀ w ∈ u_ws (xC a) (xTb a) (xN a), w ∈ xWs := fun w hw => xlay_in w (List.mem_flatMap.mpr ⟨_, List.mem_of_getElem? (xN_cl a ha), hw⟩)
