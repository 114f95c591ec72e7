/-! the pictures and the heap -/
abbrev xE : Type := (Nat → ClassId) × (Nat → Nat → Nat) × (Nat → ClassId) × Nat × (Nat → Int32)
def xcv (ad : Nat → Nat) (v : Value) : Value := match v with
  | .ref k => .ref (ad k)
  | v => v
def xfv (ad : Nat → Nat) (s : xS) (k : Nat) (c : xLc) (j : Nat) : Value := match xfk c.1 j with
  | 0 => .int (s.1 k j)
  | 1 => .long (s.2 k j)
  | 3 => .int (s.1 k j)
  | _ => va_rf ((c.2.2.getD j none).map ad)
def xce (cA : Nat → ClassId) (ad : Nat → Nat) (s : xS) (k : Nat) (c : xLc) : va_E :=
  if c.1 < 100 then .inr (c.1, (List.range (xN c.1)).map (fun j => xfv ad s k c j))
  else if c.1 = 102 then .inl (cA c.1, c.2.1, .inr (.inl (s.2 k)))
  else if c.1 = 100 ∨ c.1 = 101 then .inl (cA c.1, c.2.1, .inl (s.1 k))
  else .inl (cA c.1, c.2.1, .inr (.inr (.inr (.inr (fun i => (c.2.2.getD i none).map ad)))))
def xwo (cA : Nat → ClassId) (ad : Nat → Nat) (L : xLa) (s : xS) : va_W := L.mapIdx (fun k c => (ad k, xce cA ad s k c))
theorem xnth_get {α : Type} : ∀ (l : List α) (k : Nat), xnth l k = l[k]?
  | [], k => by simp [xnth]
  | c :: r, 0 => by simp [xnth]
  | c :: r, k + 1 => by simp [xnth, xnth_get r k]
theorem xwo_get (cA : Nat → ClassId) (ad : Nat → Nat) (L : xLa) (s : xS) (k : Nat) : (xwo cA ad L s)[k]? = (L[k]?).map (fun c => (ad k, xce cA ad s k c)) := by
  unfold xwo
  rw [List.getElem?_mapIdx]
theorem xwo_at {cA : Nat → ClassId} {ad : Nat → Nat} {L : xLa} {s : xS} {k : Nat} {c : xLc} (h : xnth L k = some c) : (xwo cA ad L s)[k]? = some (ad k, xce cA ad s k c) := by
  rw [xwo_get, ← xnth_get, h]
  rfl
theorem xwo_set {cA : Nat → ClassId} {ad : Nat → Nat} {L : xLa} {s s' : xS} {k : Nat} {c : xLc} {e : va_E} (h : xnth L k = some c) (he : e = xce cA ad s' k c) (h1 : ∀ j, j ≠ k → s'.1 j = s.1 j) (h2 : ∀ j, j ≠ k → s'.2 j = s.2 j) : (xwo cA ad L s).set k (ad k, e) = xwo cA ad L s' := by
  apply List.ext_getElem?
  intro j
  rw [xwo_get, List.getElem?_set]
  by_cases hj : k = j
  · subst hj
    have hl : k < (xwo cA ad L s).length := (List.getElem?_eq_some_iff.mp (xwo_at h)).1
    rw [if_pos rfl, if_pos hl, ← xnth_get, h, he]
    rfl
  · rw [if_neg hj, xwo_get]
    cases hc : L[j]? with
    | none => rfl
    | some c2 =>
      show some (ad j, xce cA ad s j c2) = some (ad j, xce cA ad s' j c2)
      have e1 := h1 j (fun q => hj q.symm)
      have e2 := h2 j (fun q => hj q.symm)
      unfold xce xfv
      rw [e1, e2]
/-- the addresses are apart, and of a kind -/
def xD (A : Nat → Prop) (ad : Nat → Nat) (n : Nat) : Prop := (∀ i j, i < n → j < n → ad i = ad j → i = j) ∧ ∀ k, k < n → A (ad k)
theorem xwo_key {cA : Nat → ClassId} {ad : Nat → Nat} {L : xLa} {s : xS} {k : Nat} {q : Nat × va_E} (h : (xwo cA ad L s)[k]? = some q) : k < L.length ∧ q.1 = ad k := by
  rw [xwo_get] at h
  cases hc : L[k]? with
  | none => rw [hc] at h; cases h
  | some c =>
    rw [hc] at h
    cases h
    exact ⟨(List.getElem?_eq_some_iff.mp hc).1, rfl⟩
theorem xD.va {A : Nat → Prop} {ad : Nat → Nat} {L : xLa} (h : xD A ad L.length) (cA : Nat → ClassId) (s : xS) : va_D A (xwo cA ad L s) := by
  refine ⟨fun i j p q hi hj e => ?_, fun k q hk => ?_⟩
  · obtain ⟨a1, a2⟩ := xwo_key hi
    obtain ⟨b1, b2⟩ := xwo_key hj
    exact h.1 i j a1 b1 (by rw [← a2, ← b2]; exact e)
  · obtain ⟨a1, a2⟩ := xwo_key hk
    rw [a2]
    exact h.2 k a1
theorem xD.weaken {A B : Nat → Prop} {ad : Nat → Nat} {n : Nat} (h : xD A ad n) (hB : ∀ k, k < n → B (ad k)) : xD B ad n := ⟨h.1, hB⟩
def xty (cA : Nat → ClassId) : List (ClassId × FieldType) := [(cA 100, .int), (cA 101, .boolean), (cA 102, .long), (cA 103, .object "WrongEnd$Program"), (cA 104, .array .int)]
def xwords : String := "prior sees slip cost if end or and not x y size paints hill hour scope turned far act "
def xmarks : String := "<>=#+-*/();?:"
def xby : List (List Int32) := [(xtxt 86).map nI, (xtxt 13).map nI]
def xNw (U : State) : Prop := va_Nw (.methodLinkNest "WrongEnd" 32 yX8_init "WrongEnd") U ∧ va_Nw (.methodLinkNest "WrongEnd$Optics" 20 yX1_init "WrongEnd") U ∧ va_Nw (.methodLinkNest "WrongEnd$Fort" 89 yX10_isHour "WrongEnd") U ∧ va_Nw (.methodLinkNest "WrongEnd$Fort" 92 yX10_isDigit "WrongEnd") U ∧ va_Nw (.methodLinkNest "WrongEnd$Scales" 77 yX10_oneMore "WrongEnd") U ∧ va_AO "WrongEnd$Program" U ∧ va_AOA .int U
/-- what stays as it is from the start on: the classes, the script, the statics, the String constants, the nest's words -/
def xKs (E : xE) (ad : Nat → Nat) (A : Nat → Prop) (U : State) (H : Heap) : Prop :=
  va_K (E.1, E.2.1) vwCl (xty E.2.2.1) U ∧ (va_X (ad 900) E.2.2.2.1 E.2.2.2.2 U H ∧ ad 900 < H.size ∧ ¬ A (ad 900) ∧ E.2.2.2.1 < 2 ^ 31) ∧
  (va_Z "WrongEnd$Optics" "MOST" "[I" (.ref (ad 902)) A U H ∧ va_T .int (ad 902) 4 (fun j => .int (xmost j)) A U H) ∧
  va_Z "java/lang/String" "COMPACT_STRINGS" "Z" (.int 1) A U H ∧
  va_Zq "jdk/internal/util/Preconditions" "SIOOBE_FORMATTER" "Ljava/util/function/BiFunction;" A U H ∧
  (vk_R "WrongEnd$Tokens" 71 xwords (ad 903) U ∧ vk_R "WrongEnd$Tokens" 87 xmarks (ad 904) U) ∧
  vk_S 2 [86, 13] xby (fun i => ad (903 + i)) (fun i => ad (905 + i)) A U H ∧ xNw U
theorem xAOA_spec {u : State} (h : va_AOA .int u) : ∃ comp c k, u.vm.findClass (FieldType.array .int).toString = some comp ∧ (u.vm.classes.findIdx? fun (x : Class) => match x.kind with | .array component _ => component == comp | _ => false) = some c ∧ u.vm.classes[c]? = some k ∧ k.kind = .array comp (.array .int) ∧ u.vm.findClass ("[" ++ (FieldType.array .int).toString) = some c := by
  unfold va_AOA Cond.before at h
  simp only [Cond.holds, Cond.value, beq_iff_eq] at h
  cases hc : u.vm.findClass (FieldType.array .int).toString with
  | none => simp [hc] at h
  | some comp =>
    simp only [hc, Option.bind_some, Option.bind_eq_some_iff, Option.map_eq_some_iff] at h
    obtain ⟨c, hi, k, hk, hb⟩ := h
    obtain ⟨hlt, hp, -⟩ := Array.findIdx?_eq_some_iff_getElem.mp hi
    have hkk : u.vm.classes[c] = k := (Array.getElem?_eq_some_iff.mp hk).2
    rw [hkk] at hp
    cases hkind : k.kind with
    | array component ty =>
      rw [hkind] at hb hp
      simp at hb hp
      exact ⟨comp, c, k, rfl, hi, hk, by rw [hkind, hp, hb.1], hb.2⟩
    | _ => rw [hkind] at hb; simp at hb
theorem xAOA_moved {u U : State} (hvm : u.vm.Alike U.vm) (h : va_AOA .int u) : va_AOA .int U := by
  obtain ⟨comp, c, k, h1, h2, h3, h4, h5⟩ := xAOA_spec h
  obtain ⟨k', hk', he⟩ := hvm.2.2 _ _ h3
  have e1 := va_idx_bare U.vm comp
  have e2 := va_idx_bare u.vm comp
  have e3 : U.vm.bare = u.vm.bare := by first | exact hvm.bare_eq | exact hvm.bare_eq.symm
  rw [e3] at e1
  have hi : (U.vm.classes.findIdx? fun (x : Class) => match x.kind with | .array component _ => component == comp | _ => false) = some c := (e1.symm.trans e2).trans h2
  have hkind : k'.kind = .array comp (.array .int) := by rw [he]; exact h4
  rw [← hvm.findClass] at h1 h5
  unfold va_AOA Cond.before Cond.holds
  simp only [Cond.value]
  rw [h1, Option.bind_some]
  refine (congrArg (fun o : Option Nat => (o.bind (fun c => (U.vm.classes[c]?).map fun (k : Class) => match k.kind with | .array _ ty => decide (ty = FieldType.array .int) && decide (U.vm.findClass ("[" ++ (FieldType.array .int).toString) = some c) | _ => false) == some true)) hi).trans ?_
  simp [hk', hkind, h5]
theorem xNw.warm {s U : State} (hW : s.WarmedH U.vm) (h : xNw s) : xNw U := by
  obtain ⟨h1, h2, h3, h4, h5, h6, h7⟩ := h
  refine ⟨h1.warmM hW, h2.warmM hW, h3.warmM hW, h4.warmM hW, h5.warmM hW, va_AO.moved hW.alike h6, ?_⟩
  exact xAOA_moved hW.alike h7
theorem xNw.same {u U : State} (h : u.vm = U.vm) (h0 : xNw u) : xNw U := by
  obtain ⟨h1, h2, h3, h4, h5, h6, h7⟩ := h0
  refine ⟨h1.same rfl h, h2.same rfl h, h3.same rfl h, h4.same rfl h, h5.same rfl h, va_AO.moved (by rw [h]; exact Vm.Alike.refl _) h6, ?_⟩
  exact xAOA_moved (by rw [h]; exact Vm.Alike.refl _) h7
theorem xKs.to {E : xE} {ad : Nat → Nat} {A B : Nat → Prop} {s U : State} {H H1 : Heap} (hW : s.WarmedH U.vm) (hq : ∀ a : Nat, a < H.size → ¬ A a → H1[a]? = H[a]?) (hz : H.size ≤ H1.size) (hAB : ∀ q, B q → A q) (h : xKs E ad A s H) : xKs E ad B U H1 := by
  obtain ⟨h1, ⟨h2, h3, h4, h5⟩, ⟨h6, h7⟩, h8, h9, ⟨h10, h11⟩, h12, h13⟩ := h
  exact ⟨h1.moved hW.alike, ⟨(h2.kept (hq _ h3 h4)).moved hW.alike, Nat.lt_of_lt_of_le h3 hz, fun q => h4 (hAB _ q), h5⟩, ⟨((h6.kept hq).narrow hAB).moved hW.alike, ((h7.kept hq).narrow hAB).moved hW.alike⟩, ((h8.kept hq).narrow hAB).moved hW.alike, ((h9.kept hq).narrow hAB).moved hW.alike, ⟨h10.warm hW, h11.warm hW⟩, ((h12.kept hq).narrow hAB).moved hW.alike, h13.warm hW⟩
theorem xKs.same {E : xE} {ad : Nat → Nat} {A : Nat → Prop} {u U : State} {H : Heap} (hv : u.vm = U.vm) (h : xKs E ad A u H) : xKs E ad A U H := by
  obtain ⟨h1, ⟨h2, h3, h4, h5⟩, ⟨h6, h7⟩, h8, h9, ⟨h10, h11⟩, h12, h13⟩ := h
  have ha : u.vm.Alike U.vm := by rw [hv]; exact Vm.Alike.refl _
  exact ⟨h1.moved ha, ⟨h2.moved ha, h3, h4, h5⟩, ⟨h6.moved ha, h7.moved ha⟩, h8.moved ha, h9.moved ha, ⟨h10.same hv.symm, h11.same hv.symm⟩, h12.moved ha, h13.same hv⟩
/-- which cells a method may change -/
def xFr (ad : Nat → Nat) (n sz : Nat) : Nat → Prop := fun q => (∃ k, k < n ∧ q = ad k) ∨ sz ≤ q
def xSc (E : xE) (s : xS) : Prop := s.1 900 = E.2.2.2.2 ∧ s.1 901 0 = nI E.2.2.2.1
def xPc (E : xE) (ad : Nat → Nat) (L : xLa) (s : xS) (As : List Value) (sz : Nat) : Array Value → State → Prop := fun v U => v = (As.map (xcv ad)).toArray ∧ U.heap.size = sz ∧ xKs E ad (xFr ad L.length sz) U U.heap ∧ va_P (E.1, E.2.1) vwCl (xwo E.2.2.1 ad L s) U.heap ∧ xD (xFr ad L.length sz) ad L.length ∧ xSc E s
def xQc (E : xE) (ad : Nat → Nat) (L : xLa) (sz : Nat) (Q : xQ) : Array Value → State → Outcome → State → Prop := fun _ st oc t => (∃ (r : Option Value) (s' : xS), oc = .returned (r.map (xcv ad)) ∧ Q r s' ∧ va_P (E.1, E.2.1) vwCl (xwo E.2.2.1 ad L s') t.heap ∧ xSc E s') ∧ va_F (xFr ad L.length sz) st t
def xws (n : Nat) : List Cond := .code (xsg n).1 (xsg n).2.1 (xsg n).2.2.1 (xsg n).2.2.2 :: xWs
def xrm (d : Nat) : Room := { frames := d, cells := 0, slots := 0, locals := 64 * d }
/-- method n at depth d: from the picture s, with these arguments, it returns, and Q holds of its answer and of the picture then -/
def xP (d : Nat) (L : xLa) (n : Nat) (As : List Value) (s : xS) (Q : xQ) : Prop :=
  ∀ (l : Launch) (E : xE) (ad : Nat → Nat) (sz : Nat), Met l (xsg n).1 (xws n) (xrm d) (xPc E ad L s As sz) (xQc E ad L sz Q) 0 0 (xFr ad L.length sz)
theorem xPc_blind (E : xE) (ad : Nat → Nat) (L : xLa) (s : xS) (As : List Value) (sz : Nat) : FrameBlind (xPc E ad L s As sz) := by
  intro a U g mk h
  obtain ⟨h1, h2, h3, h4⟩ := h
  exact ⟨h1, h2, h3.same rfl, h4⟩
/-- the locals -/
def xLv (LS : Array Slot) (mL : Nat) (ad : Nat → Nat) (ls : xLs) : Prop := ∃ l : List (Nat × Value), lv_has LS mL l ∧ ∀ i v, xlv ls i = some v → (i, xcv ad v) ∈ l
theorem xLv.at {LS : Array Slot} {mL : Nat} {ad : Nat → Nat} {ls : xLs} (h : xLv LS mL ad ls) {i : Nat} {v : Value} (hv : xlv ls i = some v) : LS[i]? = some (.val (xcv ad v)) := by
  obtain ⟨l, h1, h2⟩ := h
  exact h1.2.2 _ (h2 i v hv)
theorem xLv.size {LS : Array Slot} {mL : Nat} {ad : Nat → Nat} {ls : xLs} (h : xLv LS mL ad ls) : LS.size = mL := by
  obtain ⟨l, h1, -⟩ := h
  exact h1.1
theorem xse_e {v : Option Value} : ∀ {i : Nat} {ls : xLs} {k : xLs → Prop}, xse v i ls k → ∃ ls', k ls' ∧ ∀ j, xlv ls' j = if j = i then v else xlv ls j
  | _, [], _, h => by unfold xse at h; exact h.elim
  | 0, u :: r, k, h => by
    refine ⟨v :: r, h, fun j => ?_⟩
    cases j with
    | zero => simp [xlv]
    | succ j => simp [xlv]
  | i + 1, u :: r, k, h => by
    obtain ⟨r', h1, h2⟩ := xse_e (i := i) (ls := r) h
    refine ⟨u :: r', h1, fun j => ?_⟩
    cases j with
    | zero => simp [xlv]
    | succ j => simp [xlv, h2 j]
theorem xkl_e {i : Nat} {ls : xLs} {k : xLs → Prop} (h : xkl i ls k) : ∃ ls', k ls' ∧ ∀ j w, xlv ls' j = some w → xlv ls j = some w ∧ ¬ (j + 1 = i ∧ w.category = 2) := by
  unfold xkl at h
  split at h
  · exact ⟨ls, h, fun j w hw => ⟨hw, fun q => by omega⟩⟩
  · rename_i j0
    split at h
    · rename_i x hx
      obtain ⟨ls', h1, h2⟩ := xse_e h
      refine ⟨ls', h1, fun j w hw => ?_⟩
      rw [h2 j] at hw
      by_cases e : j = j0
      · rw [if_pos e] at hw; cases hw
      · rw [if_neg e] at hw
        exact ⟨hw, fun q => e (by omega)⟩
    · exact h.elim
    · rename_i n1 n2
      refine ⟨ls, h, fun j w hw => ⟨hw, fun q => ?_⟩⟩
      have e : j = j0 := by omega
      subst e
      cases w with
      | long x => exact n1 x hw
      | double x => exact n2 x hw
      | _ => simp [Value.category] at q
theorem xLv.st1 {LS : Array Slot} {mL : Nat} {ad : Nat → Nat} {ls : xLs} (h : xLv LS mL ad ls) {i : Nat} {v : Value} {k : xLs → Prop} (hk : xs1 ls i v k) : ∃ (ls' : xLs) (l : List (Nat × Value)), k ls' ∧ lv_has LS mL l ∧ (∀ j w, xlv ls j = some w → (j, xcv ad w) ∈ l) ∧ ∀ LS', lv_has LS' mL ((i, xcv ad v) :: l.filter (fun q => !(q.1 == i) && !(q.1 + 1 == i && q.2.category == 2))) → xLv LS' mL ad ls' := by
  obtain ⟨l, h1, h2⟩ := h
  obtain ⟨l1, a1, a2⟩ := xkl_e hk
  obtain ⟨l2, b1, b2⟩ := xse_e a1
  refine ⟨l2, l, b1, h1, h2, fun LS' hl => ⟨_, hl, fun j w hw => ?_⟩⟩
  rw [b2 j] at hw
  by_cases e : j = i
  · subst e
    rw [if_pos rfl] at hw
    cases hw
    exact List.mem_cons_self
  · rw [if_neg e] at hw
    obtain ⟨c1, c2⟩ := a2 j w hw
    refine List.mem_cons_of_mem _ (List.mem_filter.mpr ⟨h2 j w c1, ?_⟩)
    have hc : (xcv ad w).category = w.category := by cases w <;> rfl
    simp only [hc, Bool.and_eq_true, Bool.not_eq_true', beq_eq_false_iff_ne, ne_eq, Bool.and_eq_false_iff]
    refine ⟨e, ?_⟩
    by_cases f : j + 1 = i
    · exact Or.inr (fun q => c2 ⟨f, q⟩)
    · exact Or.inl f
theorem xLv.st2 {LS : Array Slot} {mL : Nat} {ad : Nat → Nat} {ls : xLs} (h : xLv LS mL ad ls) {i : Nat} {v : Value} {k : xLs → Prop} (hk : xs2 ls i v k) : ∃ (ls' : xLs) (l : List (Nat × Value)), k ls' ∧ lv_has LS mL l ∧ ∀ LS', lv_has LS' mL ((i, xcv ad v) :: l.filter (fun q => !(q.1 == i) && (!(q.1 == i + 1) && !(q.1 + 1 == i && q.2.category == 2)))) → xLv LS' mL ad ls' := by
  obtain ⟨l, h1, h2⟩ := h
  obtain ⟨l1, a1, a2⟩ := xkl_e hk
  obtain ⟨l2, b1, b2⟩ := xse_e a1
  obtain ⟨l3, d1, d2⟩ := xse_e b1
  refine ⟨l3, l, d1, h1, fun LS' hl => ⟨_, hl, fun j w hw => ?_⟩⟩
  rw [d2 j, b2 j] at hw
  by_cases e : j = i
  · subst e
    rw [if_pos rfl] at hw
    cases hw
    exact List.mem_cons_self
  · rw [if_neg e] at hw
    by_cases e1 : j = i + 1
    · rw [if_pos e1] at hw; cases hw
    · rw [if_neg e1] at hw
      obtain ⟨c1, c2⟩ := a2 j w hw
      refine List.mem_cons_of_mem _ (List.mem_filter.mpr ⟨h2 j w c1, ?_⟩)
      have hc : (xcv ad w).category = w.category := by cases w <;> rfl
      simp only [hc, Bool.and_eq_true, Bool.not_eq_true', beq_eq_false_iff_ne, ne_eq, Bool.and_eq_false_iff]
      refine ⟨e, e1, ?_⟩
      by_cases f : j + 1 = i
      · exact Or.inr (fun q => c2 ⟨f, q⟩)
      · exact Or.inl f
-- what the small words of the machine give
theorem xi1_e {st : List Value} {k : Int32 → List Value → Prop} (h : xi1 st k) : ∃ x r, st = .int x :: r ∧ k x r := by
  unfold xi1 at h
  split at h
  · exact ⟨_, _, rfl, h⟩
  · exact h.elim
theorem xi2_e {st : List Value} {k : Int32 → Int32 → List Value → Prop} (h : xi2 st k) : ∃ x y r, st = .int y :: .int x :: r ∧ k x y r := by
  unfold xi2 at h
  split at h
  · exact ⟨_, _, _, rfl, h⟩
  · exact h.elim
theorem xl1_e {st : List Value} {k : Int64 → List Value → Prop} (h : xl1 st k) : ∃ x r, st = .long x :: r ∧ k x r := by
  unfold xl1 at h
  split at h
  · exact ⟨_, _, rfl, h⟩
  · exact h.elim
theorem xl2_e {st : List Value} {k : Int64 → Int64 → List Value → Prop} (h : xl2 st k) : ∃ x y r, st = .long y :: .long x :: r ∧ k x y r := by
  unfold xl2 at h
  split at h
  · exact ⟨_, _, _, rfl, h⟩
  · exact h.elim
theorem xli_e {st : List Value} {k : Int64 → Int32 → List Value → Prop} (h : xli st k) : ∃ x y r, st = .int y :: .long x :: r ∧ k x y r := by
  unfold xli at h
  split at h
  · exact ⟨_, _, _, rfl, h⟩
  · exact h.elim
theorem xr1_e {st : List Value} {k : Nat → List Value → Prop} (h : xr1 st k) : ∃ (x : Nat) (r : List Value), st = .ref x :: r ∧ k x r := by
  unfold xr1 at h
  split at h
  · exact ⟨_, _, rfl, h⟩
  · exact h.elim
theorem xri_e {st : List Value} {k : Nat → Int32 → List Value → Prop} (h : xri st k) : ∃ (a : Nat) (i : Int32) (r : List Value), st = .int i :: .ref a :: r ∧ k a i r := by
  unfold xri at h
  split at h
  · exact ⟨_, _, _, rfl, h⟩
  · exact h.elim
theorem xrii_e {st : List Value} {k : Nat → Int32 → Int32 → List Value → Prop} (h : xrii st k) : ∃ (a : Nat) (i x : Int32) (r : List Value), st = .int x :: .int i :: .ref a :: r ∧ k a i x r := by
  unfold xrii at h
  split at h
  · exact ⟨_, _, _, _, rfl, h⟩
  · exact h.elim
theorem xrli_e {st : List Value} {k : Nat → Int32 → Int64 → List Value → Prop} (h : xrli st k) : ∃ (a : Nat) (i : Int32) (x : Int64) (r : List Value), st = .long x :: .int i :: .ref a :: r ∧ k a i x r := by
  unfold xrli at h
  split at h
  · exact ⟨_, _, _, _, rfl, h⟩
  · exact h.elim
theorem xv1_e {st : List Value} {k : Value → List Value → Prop} (h : xv1 st k) : ∃ v r, st = v :: r ∧ (∀ ad, (xcv ad v).category = 1) ∧ k v r := by
  unfold xv1 at h
  split at h
  · exact ⟨_, _, rfl, fun _ => rfl, h⟩
  · exact ⟨_, _, rfl, fun _ => rfl, h⟩
  · exact h.elim
theorem xpi_e {st : List Value} {k : Nat → Int32 → List Value → Prop} (h : xpi st k) : ∃ (a : Nat) (x : Int32) (r : List Value), st = .int x :: .ref a :: r ∧ k a x r := by
  unfold xpi at h
  split at h
  · exact ⟨_, _, _, rfl, h⟩
  · exact h.elim
theorem xpl_e {st : List Value} {k : Nat → Int64 → List Value → Prop} (h : xpl st k) : ∃ (a : Nat) (x : Int64) (r : List Value), st = .long x :: .ref a :: r ∧ k a x r := by
  unfold xpl at h
  split at h
  · exact ⟨_, _, _, rfl, h⟩
  · exact h.elim
theorem xcp_e {st : List Value} {k : Nat → Int32 → Nat → Int32 → Int32 → List Value → Prop} (h : xcp st k) : ∃ (a : Nat) (sp : Int32) (b : Nat) (dp n : Int32) (r : List Value), st = .int n :: .int dp :: .ref b :: .int sp :: .ref a :: r ∧ k a sp b dp n r := by
  unfold xcp at h
  split at h
  · exact ⟨_, _, _, _, _, _, rfl, h⟩
  · exact h.elim
theorem xldi_e {ls : xLs} {i : Nat} {k : Int32 → Prop} (h : xldi ls i k) : ∃ x, xlv ls i = some (.int x) ∧ k x := by
  unfold xldi at h
  split at h
  · rename_i x hx; exact ⟨x, hx, h⟩
  · exact h.elim
theorem xldl_e {ls : xLs} {i : Nat} {k : Int64 → Prop} (h : xldl ls i k) : ∃ x, xlv ls i = some (.long x) ∧ k x := by
  unfold xldl at h
  split at h
  · rename_i x hx; exact ⟨x, hx, h⟩
  · exact h.elim
theorem xldr_e {ls : xLs} {i : Nat} {k : Nat → Prop} (h : xldr ls i k) : ∃ x : Nat, xlv ls i = some (.ref x) ∧ k x := by
  unfold xldr at h
  split at h
  · rename_i x hx; exact ⟨x, hx, h⟩
  · exact h.elim
theorem xopt_e {α : Type} {o : Option α} {k : α → Prop} (h : xopt o k) : ∃ a, o = some a ∧ k a := by
  unfold xopt at h
  split at h
  · exact ⟨_, rfl, h⟩
  · exact h.elim
theorem xopm_e {o : Option xLc} {k : Nat → Nat → List (Option Nat) → Prop} (h : xopm o k) : ∃ c, o = some c ∧ k c.1 c.2.1 c.2.2 := by
  unfold xopm at h
  split at h
  · exact ⟨_, rfl, h⟩
  · exact h.elim
theorem xif_e {b : Bool} {P : Prop} (h : xif b P) : b = true ∧ P := by
  unfold xif at h
  split at h
  · exact ⟨rfl, h⟩
  · exact h.elim
theorem xpop_e : ∀ {n : Nat} {st acc : List Value} {k : List Value → List Value → Prop}, xpop n st acc k → ∃ As r, As.length = n ∧ st = As ++ r ∧ k (As.reverse ++ acc) r
  | 0, st, acc, k, h => ⟨[], st, rfl, rfl, h⟩
  | n + 1, v :: st, acc, k, h => by
    obtain ⟨As, r, h1, h2, h3⟩ := xpop_e (n := n) (st := st) (acc := v :: acc) h
    exact ⟨v :: As, r, by simp [h1], by rw [h2]; rfl, by simpa using h3⟩
  | n + 1, [], _, _, h => h.elim
theorem xcat1 (v : Value) (h1 : ∀ x, v ≠ .long x) (h2 : ∀ x, v ≠ .double x) : v.category = 1 := by
  cases v with
  | long x => exact absurd rfl (h1 x)
  | double x => exact absurd rfl (h2 x)
  | _ => rfl
theorem xfit_e : ∀ {st : List Value} {n : Nat} (ad : Nat → Nat), xfit st n = true → ((st.map (xcv ad)).map fun v => v.category).sum ≤ n
  | [], n, ad, _ => Nat.zero_le n
  | v :: r, n, ad, h => by
    have hc : (xcv ad v).category = v.category := by cases v <;> rfl
    rw [List.map_cons, List.map_cons, List.sum_cons, hc]
    cases v with
    | long x =>
      match n, h with
      | m + 2, h =>
        have := xfit_e (st := r) (n := m) ad h
        have e : (Value.long x).category = 2 := rfl
        omega
      | 0, h => cases h
      | 1, h => cases h
    | double x => cases h
    | int x =>
      match n, h with
      | m + 1, h =>
        have := xfit_e (st := r) (n := m) ad h
        have e : (Value.int x).category = 1 := rfl
        omega
      | 0, h => cases h
    | float x =>
      match n, h with
      | m + 1, h =>
        have := xfit_e (st := r) (n := m) ad h
        have e : (Value.float x).category = 1 := rfl
        omega
      | 0, h => cases h
    | null =>
      match n, h with
      | m + 1, h =>
        have := xfit_e (st := r) (n := m) ad h
        have e : (Value.null).category = 1 := rfl
        omega
      | 0, h => cases h
    | ref x =>
      match n, h with
      | m + 1, h =>
        have := xfit_e (st := r) (n := m) ad h
        have e : (Value.ref x).category = 1 := rfl
        omega
      | 0, h => cases h
    | retAddr x =>
      match n, h with
      | m + 1, h =>
        have := xfit_e (st := r) (n := m) ad h
        have e : (Value.retAddr x).category = 1 := rfl
        omega
      | 0, h => cases h
