def va_AOA (ty : FieldType) (U : State) : Prop := (Cond.arrayOver (.array ty)).before #[] U = true
theorem va_AOA.use {ty : FieldType} {A : Array Value} {U : State} (h : va_AOA ty U) : (Cond.arrayOver (.array ty)).before A U = true := h
/-! ===== BEGIN words of one list among another's, by their places ===== -/
theorem goodIn_r {big : List Cond} (ws : List Cond) (ps : List Nat) (hp : ws = ps.filterMap (fun i => big[i]?)) (h : ws.all goodWord = true) : GoodIn big ws := by
  intro w hw
  have h1 := List.all_eq_true.mp h w hw
  rw [hp] at hw
  obtain ⟨i, -, hi⟩ := List.mem_filterMap.mp hw
  have hm : w ∈ big := by first | exact List.mem_of_getElem? hi | exact List.getElem?_mem hi
  exact ⟨hm, good_of_word h1⟩
theorem goodIn_app {big a b : List Cond} (ha : GoodIn big a) (hb : GoodIn big b) : GoodIn big (a ++ b) := fun w h => (List.mem_append.mp h).elim (ha w) (hb w)
theorem goodIn_ca {big a b : List Cond} {c : Cond} (ha : GoodIn big (c :: a)) (hb : GoodIn big b) : GoodIn big (c :: (a ++ b)) := fun w h => (List.mem_cons.mp h).elim (fun e => ha w (List.mem_cons.mpr (Or.inl e))) (fun h => (List.mem_append.mp h).elim (fun h => ha w (List.mem_cons.mpr (Or.inr h))) (hb w))
theorem goodIn_sub {big ws : List Cond} (hm : ∀ w ∈ ws, w ∈ big) (h : ws.all goodWord = true) : GoodIn big ws := fun w hw => ⟨hm w hw, good_of_word (List.all_eq_true.mp h w hw)⟩
/-! ===== END ===== -/

/-! ===== BEGIN new T[n][m]: the outer array a place, the inner ones among the pooled ===== -/
/-- f, but v at every address of l -/
def vr_up {α : Type} (f : Nat → α) (l : List Nat) (v : α) : Nat → α := fun a => if a ∈ l then v else f a
theorem vr_up_in {α : Type} {f : Nat → α} {l : List Nat} {v : α} {a : Nat} (h : a ∈ l) : vr_up f l v a = v := if_pos h
theorem vr_up_ne {α : Type} {f : Nat → α} {l : List Nat} {v : α} {a : Nat} (h : a ∉ l) : vr_up f l v a = f a := if_neg h
theorem vr_rows {L l : List Nat} {f : Nat → va_E} {e : va_E} (h : ∀ a, a ∈ l → a ∉ L) : va_pl L f ++ l.map (fun a => (a, e)) = va_pl (L ++ l) (vr_up f l e) := by
  unfold va_pl
  rw [List.map_append]
  congr 1
  · apply List.map_congr_left
    intro a ha
    rw [vr_up_ne (fun q => h a q ha)]
  · apply List.map_congr_left
    intro a ha
    rw [vr_up_in ha]
theorem vr_lay {X rows : va_W} {x : Nat × va_E} {pl : va_W} {D : va_G} {cl : List vw_C} {H : Heap} (hP : va_P D cl (((X ++ pl) ++ [x]) ++ rows) H) : va_P D cl ((X ++ [x]) ++ (pl ++ rows)) H := by
  rw [List.append_assoc (X ++ pl)] at hP
  have h := va_P.swap hP
  rw [← List.append_assoc X] at h
  have h2 := va_P.swap h
  rw [List.append_assoc (X ++ [x])] at h2
  exact h2
theorem vr_layD {X rows : va_W} {x : Nat × va_E} {pl : va_W} {A : Nat → Prop} (hD : va_D A (((X ++ pl) ++ [x]) ++ rows)) : va_D A ((X ++ [x]) ++ (pl ++ rows)) := by
  rw [List.append_assoc (X ++ pl)] at hD
  have h := va_D.swap hD
  rw [← List.append_assoc X] at h
  have h2 := va_D.swap h
  rw [List.append_assoc (X ++ [x])] at h2
  exact h2
theorem vr_outer (c : ClassId) (N h0 : Nat) : ∀ i : Nat, Jvm.Free.Multi.outerC c N h0 i = arrV c N (fun j => va_rf (if j < i then some (h0 + 1 + j) else none))
  | 0 => by
    show ({ cls := c, slots := Array.replicate N .null, vm := .none } : Cell) = _
    rw [arrV_new]
    refine congrArg (arrV c N) (funext fun j => ?_)
    simp [va_rf]
  | i + 1 => by
    show (Jvm.Free.Multi.outerC c N h0 i).setSlot i (.ref (h0 + 1 + i)) = _
    rw [vr_outer c N h0 i, arrV_store]
    refine congrArg (arrV c N) (funext fun j => ?_)
    by_cases e : j = i
    · subst e
      simp [updV, va_rf]
    · by_cases h : j < i
      · simp [updV, e, h, Nat.lt_succ_of_lt h]
      · simp [updV, e, h, show ¬ j < i + 1 by omega]
section VGM
variable {p : Program} {l : Launch} {e : Env} {R : Room} {s : State} {m : MethodId} {args : Array Value} {below : List Frame} {meth : Method} {c : Code} {H : Heap} {locs : List Loc} {cells slots : Nat} {Q : State → Prop}
variable {cc : ByteArray} {pc : Nat} {ls : Array Slot} {rest : List Value} {D : va_G} {cl : List vw_C} {A : Nat → Prop} {a : Nat} {tys : List (ClassId × FieldType)} {ws : va_W} {H0 : Heap}
theorem va_mna {X : va_W} {L : List Nat} {f : Nat → va_E} {cc : ByteArray} (hexec : p.tables.exec = Jvm.exec) (hb : c.code = cc) {own : String} {index : Nat} {ty : FieldType} {cy : ClassId} (hown : s.vm.findClass own = some m.cls) (hclink : (Cond.classLink own index ("[" ++ (FieldType.array ty).toString)).before args s = true) (hover : va_AOA ty s) (harr : (Cond.arrayClass ty).before args s = true) (hcy : s.vm.findClass (FieldType.array ty).toString = some cy)
    (hK : va_K D cl tys s) (hP : va_P D cl (X ++ va_pl L f) H) (hD : va_D A (X ++ va_pl L f)) (hS : va_S A H0 H locs) (hA : ∀ q, H0.size ≤ q → A q) {n k : Int32} {N' K' : Nat} {z : vp_A} (hn : ¬ n < 0) (hk : ¬ k < 0) (hN : n.toNatClampNeg = N') (hM : k.toNatClampNeg = K')
    (hb1 : N' * 4 ≤ 536870912) (hb2 : K' * componentBytes ty ≤ 536870912) (hb3 : K' ≤ 536870912) (hdf : fits ty (defaultValue ty) = true) (hdd : (defaultValue ty).isDefault = true) (hcells : cells + (1 + N') ≤ R.cells) (hslots : slots + (N' + N' * K') ≤ R.slots) (hz : ∀ c : ClassId, Jvm.Free.Multi.innerC c K' (defaultValue ty) = vp_cell c z) (hdg : decode cc pc = .ok (.multianewarray index 2, 4))
    (kk : ∀ (q : Nat) (r : Nat → Nat) (cA : ClassId) (H1 : Heap), (∀ i j : Nat, i < N' → j < N' → r i = r j → i = j) → (∀ i : Nat, i < N' → r i ∉ L) → va_K D cl (tys ++ [(cA, .array ty)]) s →
      va_P D cl ((X ++ [(q, .inl (cA, N', .inr (.inr (.inr (.inr (fun i => if i < N' then some (r i) else none))))))]) ++ va_pl (L ++ (List.range N').map r) (vr_up f ((List.range N').map r) (.inl (cy, z)))) H1 → va_D A ((X ++ [(q, .inl (cA, N', .inr (.inr (.inr (.inr (fun i => if i < N' then some (r i) else none))))))]) ++ va_pl (L ++ (List.range N').map r) (vr_up f ((List.range N').map r) (.inl (cy, z)))) → va_S A H0 H1 locs →
      W p l e R s m args below meth c H1 locs (cells + 1 + N') (slots + N' + N' * K') Q (F0 m (pc + 4) ls (.ref q :: rest))) : W p l e R s m args below meth c H locs cells slots Q (F0 m pc ls (.int k :: .int n :: rest)) := by
  subst hN
  subst hM
  intro T hT Xs
  obtain ⟨vm₁, cA, comp, -, fA, fC, hO, -, X', step⟩ := Xs.multianewarray2F hexec hown hclink (va_AOA.use hover) harr (g := F0 m pc ls (.int k :: .int n :: rest)) rfl (by rw [hb]; exact hdg) rfl hn hk hb1 hb2 hb3 hdf hdd hcells hslots
  have ec : some cy = some comp := hcy.symm.trans fC
  cases ec
  generalize hF : Jvm.Free.Multi.fill (T.setVm vm₁) cA cy n.toNatClampNeg k.toNatClampNeg (defaultValue ty) n.toNatClampNeg = F at X' step
  have hTh : (T.setVm vm₁).heap = H := hT
  obtain ⟨f1, f2, -, -⟩ := Jvm.Free.Multi.fill_facts (T.setVm vm₁) cA cy n.toNatClampNeg k.toNatClampNeg (defaultValue ty) n.toNatClampNeg
  rw [hF, hTh] at f1 f2
  have hold : ∀ x : Nat, x < H.size → F.heap[x]? = H[x]? := fun x hx => by
    have := Jvm.Free.Multi.fill_old (T.setVm vm₁) cA cy n.toNatClampNeg k.toNatClampNeg (defaultValue ty) (a := x) (by rw [hTh]; exact hx) n.toNatClampNeg
    rw [hF, hTh] at this
    exact this
  have hrow : ∀ j : Nat, j < n.toNatClampNeg → F.heap[H.size + 1 + j]? = some (vp_cell cy z) := fun j hj => by
    have := Jvm.Free.Multi.fill_inner (T.setVm vm₁) cA cy n.toNatClampNeg k.toNatClampNeg (defaultValue ty) n.toNatClampNeg j hj
    rw [hF, hTh, hz] at this
    exact this
  have hout : Jvm.Free.Multi.outerC cA n.toNatClampNeg H.size n.toNatClampNeg = vp_cell cA (n.toNatClampNeg, .inr (.inr (.inr (.inr (fun i => if i < n.toNatClampNeg then some (H.size + 1 + i) else none))))) := by
    rw [vp_cell_q]
    exact vr_outer cA n.toNatClampNeg H.size n.toNatClampNeg
  rw [hout] at f2
  have hlt : ∀ a, a ∈ L → a < H.size := fun a ha => by
    obtain ⟨k9, hk9⟩ := va_pl_get (X := X) (f := f) ha
    exact (hP k9 _ hk9).lt
  have hnl : ∀ i : Nat, i < n.toNatClampNeg → H.size + 1 + i ∉ L := fun i _ h => by
    have := hlt _ h
    omega
  have hnm : ∀ a, a ∈ (List.range n.toNatClampNeg).map (fun i => H.size + 1 + i) → a ∉ L := fun a ha h => by
    obtain ⟨i, -, rfl⟩ := List.mem_map.mp ha
    have := hlt _ h
    omega
  have hP0 : va_P D cl (X ++ va_pl L f) F.heap := hP.kept (fun k9 x hx => hold x.1 ((hP k9 x hx).lt))
  have hP1 : va_P D cl ((X ++ va_pl L f) ++ [(H.size, .inl (cA, n.toNatClampNeg, .inr (.inr (.inr (.inr (fun i => if i < n.toNatClampNeg then some (H.size + 1 + i) else none))))))]) F.heap := hP0.app (fun k9 x hx => by
    have h0 : k9 < 1 := (List.getElem?_eq_some_iff.mp hx).1
    rw [show k9 = 0 by omega] at hx
    cases hx
    exact f2)
  have hP2 : va_P D cl (((X ++ va_pl L f) ++ [(H.size, .inl (cA, n.toNatClampNeg, .inr (.inr (.inr (.inr (fun i => if i < n.toNatClampNeg then some (H.size + 1 + i) else none))))))]) ++ ((List.range n.toNatClampNeg).map (fun i => H.size + 1 + i)).map (fun a => (a, .inl (cy, z)))) F.heap := hP1.app (fun k9 x hx => by
    obtain ⟨a, ha, rfl⟩ := List.mem_map.mp (List.mem_of_getElem? hx)
    obtain ⟨i, hi, rfl⟩ := List.mem_map.mp ha
    exact hrow i (List.mem_range.mp hi))
  have hD2 : va_D A (((X ++ va_pl L f) ++ [(H.size, .inl (cA, n.toNatClampNeg, .inr (.inr (.inr (.inr (fun i => if i < n.toNatClampNeg then some (H.size + 1 + i) else none))))))]) ++ ((List.range n.toNatClampNeg).map (fun i => H.size + 1 + i)).map (fun a => (a, .inl (cy, z)))) := by
    have hD1 := hD.push (e := .inl (cA, n.toNatClampNeg, .inr (.inr (.inr (.inr (fun i => if i < n.toNatClampNeg then some (H.size + 1 + i) else none)))))) hP rfl (hA _ hS.1)
    generalize hW1 : (X ++ va_pl L f) ++ [(H.size, .inl (cA, n.toNatClampNeg, .inr (.inr (.inr (.inr (fun i => if i < n.toNatClampNeg then some (H.size + 1 + i) else none))))))] = W1 at hD1 hP1 ⊢
    have hle : ∀ (k9 : Nat) (x : Nat × va_E), W1[k9]? = some x → x.1 ≤ H.size := fun k9 x hx => by
      rw [← hW1] at hx
      by_cases hl : k9 < (X ++ va_pl L f).length
      · rw [List.getElem?_append_left hl] at hx
        exact Nat.le_of_lt ((hP k9 x hx).lt)
      · rw [List.getElem?_append_right (by omega)] at hx
        have h0 : k9 - (X ++ va_pl L f).length < 1 := (List.getElem?_eq_some_iff.mp hx).1
        rw [show k9 - (X ++ va_pl L f).length = 0 by omega] at hx
        cases hx
        exact Nat.le_refl _
    have hr : ∀ (k9 : Nat) (x : Nat × va_E), (((List.range n.toNatClampNeg).map (fun i => H.size + 1 + i)).map (fun a => ((a, .inl (cy, z)) : Nat × va_E)))[k9]? = some x → x.1 = H.size + 1 + k9 := fun k9 x hx => by
      rw [List.getElem?_map, List.getElem?_map] at hx
      by_cases h9 : k9 < n.toNatClampNeg
      · rw [List.getElem?_range h9] at hx
        cases hx
        rfl
      · have hn0 : (List.range n.toNatClampNeg)[k9]? = none := List.getElem?_eq_none (by rw [List.length_range]; omega)
        rw [hn0] at hx
        cases hx
    refine ⟨fun i j x y hi hj hxy => ?_, fun k9 x hx => ?_⟩
    · by_cases h1 : i < W1.length <;> by_cases h2 : j < W1.length
      · rw [List.getElem?_append_left h1] at hi
        rw [List.getElem?_append_left h2] at hj
        exact hD1.1 i j x y hi hj hxy
      · rw [List.getElem?_append_left h1] at hi
        rw [List.getElem?_append_right (by omega)] at hj
        have := hle _ _ hi
        have := hr _ _ hj
        omega
      · rw [List.getElem?_append_right (by omega)] at hi
        rw [List.getElem?_append_left h2] at hj
        have := hle _ _ hj
        have := hr _ _ hi
        omega
      · rw [List.getElem?_append_right (by omega)] at hi hj
        have := hr _ _ hi
        have := hr _ _ hj
        omega
    · by_cases h1 : k9 < W1.length
      · rw [List.getElem?_append_left h1] at hx
        exact hD1.2 k9 x hx
      · rw [List.getElem?_append_right (by omega)] at hx
        have := hr _ _ hx
        exact hA _ (by have := hS.1; omega)
  have hAr : ArrOfT s cA (.array ty) := fun N9 z9 => by
    obtain ⟨-, k9, hk9, cm9, hkk9⟩ := (hO 0 0 0).1
    exact ⟨(fun q hq => by cases hq), k9, hk9, cm9, hkk9⟩
  have hK2 : va_K D cl (tys ++ [(cA, .array ty)]) s := ⟨hK.1, fun k9 x hx => by
    by_cases hl : k9 < tys.length
    · rw [List.getElem?_append_left hl] at hx
      exact hK.2 k9 x hx
    · rw [List.getElem?_append_right (by omega)] at hx
      have h0 : k9 - tys.length < 1 := (List.getElem?_eq_some_iff.mp hx).1
      rw [show k9 - tys.length = 0 by omega] at hx
      cases hx
      exact ⟨hAr, fA⟩⟩
  obtain ⟨t, a1, b1⟩ := kk H.size (fun i => H.size + 1 + i) cA F.heap (fun i j _ _ h => by have h9 : H.size + 1 + i = H.size + 1 + j := h; omega) hnl hK2 (by rw [← vr_rows hnm]; exact vr_lay hP2) (by rw [← vr_rows hnm]; exact vr_layD hD2) ⟨by rw [f1]; have := hS.1; omega, fun x h1 h2 => (hold x (Nat.lt_of_lt_of_le h1 hS.1)).trans (hS.2.1 x h1 h2), hS.2.2⟩ F rfl X'
  refine ⟨t, step t ?_, b1⟩
  have e : T.heap.size = H.size := by rw [hT]
  rw [e]
  exact a1
end VGM
/-! ===== END ===== -/

def RX0 : String := "WrongEnd$Fort"
def TX0 : u_T := fun k => match k with
  | 0 => ("WrongEnd$Fort", "wide", "I", true)
  | 1 => ("WrongEnd$Fort", "high", "I", true)
  | 2 => ("WrongEnd$Fort", "hills", "[I", true)
  | 3 => ("WrongEnd$Fort", "cells", "[I", true)
  | 4 => ("WrongEnd$Fort", "turned", "[Z", true)
  | 5 => ("WrongEnd$Fort", "lent", "[Z", true)
  | 6 => ("WrongEnd$Fort", "reporters", "[I", true)
  | 7 => ("WrongEnd$Fort", "heldTurned", "[Z", true)
  | 8 => ("WrongEnd$Fort", "hours", "[I", true)
  | 9 => ("WrongEnd$Fort", "told", "[I", true)
  | 10 => ("WrongEnd$Fort", "stepScopes", "[I", true)
  | 11 => ("WrongEnd$Fort", "stepLends", "[Z", true)
  | 12 => ("WrongEnd$Fort", "scopes", "I", false)
  | 13 => ("WrongEnd$Fort", "reports", "I", false)
  | 14 => ("WrongEnd$Fort", "steps", "I", false)
  | 15 => ("WrongEnd$Fort", "texts", "I", false)
  | _ => ("WrongEnd$Fort", "ruling", "I", false)
def tyX0 : Nat → FieldType := fun k => match k with
  | 0 => .int
  | 1 => .int
  | 2 => .array .int
  | 3 => .array .int
  | 4 => .array .boolean
  | 5 => .array .boolean
  | 6 => .array .int
  | 7 => .array .boolean
  | 8 => .array .int
  | 9 => .array .int
  | 10 => .array .int
  | 11 => .array .boolean
  | 12 => .int
  | 13 => .int
  | 14 => .int
  | 15 => .int
  | _ => .int
abbrev wsX00 : List Cond := u_ws RX0 TX0 17
theorem nmX0 : ∀ a, a < 17 → ∀ b, b < 17 → a ≠ b → (TX0 a).2.1 ≠ (TX0 b).2.1 := by decide +kernel
theorem tyX0_ok : ∀ k, k < 17 → parseFieldDescriptor (TX0 k).2.2.1 = some (tyX0 k) := by decide +kernel
abbrev cX0_init : ByteArray := prog_2_method_1_code
def yX0_init : MethodName := ⟨RX0, "<init>", "(II)V"⟩
abbrev cX0_hasCell : ByteArray := prog_2_method_2_code
def yX0_hasCell : MethodName := ⟨RX0, "hasCell", "(I)Z"⟩
abbrev cX0_hasScope : ByteArray := prog_2_method_3_code
def yX0_hasScope : MethodName := ⟨RX0, "hasScope", "(I)Z"⟩
abbrev cX0_isFree : ByteArray := prog_2_method_4_code
def yX0_isFree : MethodName := ⟨RX0, "isFree", "(I)Z"⟩
abbrev cX0_hasState : ByteArray := prog_2_method_5_code
def yX0_hasState : MethodName := ⟨RX0, "hasState", "(I)Z"⟩
abbrev cX0_hasReports : ByteArray := prog_2_method_6_code
def yX0_hasReports : MethodName := ⟨RX0, "hasReports", "(I)Z"⟩
abbrev cX0_hasText : ByteArray := prog_2_method_7_code
def yX0_hasText : MethodName := ⟨RX0, "hasText", "(I)Z"⟩
abbrev cX0_countCells : ByteArray := prog_2_method_8_code
def yX0_countCells : MethodName := ⟨RX0, "countCells", "()I"⟩
abbrev cX0_countStates : ByteArray := prog_2_method_9_code
def yX0_countStates : MethodName := ⟨RX0, "countStates", "()I"⟩
abbrev cX0_countFree : ByteArray := prog_2_method_10_code
def yX0_countFree : MethodName := ⟨RX0, "countFree", "()I"⟩
abbrev cX0_freeScope : ByteArray := prog_2_method_11_code
def yX0_freeScope : MethodName := ⟨RX0, "freeScope", "(I)I"⟩
abbrev cX0_place : ByteArray := prog_2_method_12_code
def yX0_place : MethodName := ⟨RX0, "place", "(I)I"⟩
abbrev cX0_change : ByteArray := prog_2_method_13_code
def yX0_change : MethodName := ⟨RX0, "change", "(IZZ)Z"⟩
abbrev cX0_addStep : ByteArray := prog_2_method_14_code
def yX0_addStep : MethodName := ⟨RX0, "addStep", "(IZ)V"⟩
abbrev cX0_dropOldestStep : ByteArray := prog_2_method_15_code
def yX0_dropOldestStep : MethodName := ⟨RX0, "dropOldestStep", "()V"⟩
abbrev cX0_stepBack : ByteArray := prog_2_method_16_code
def yX0_stepBack : MethodName := ⟨RX0, "stepBack", "()I"⟩
abbrev cX0_write : ByteArray := prog_2_method_17_code
def yX0_write : MethodName := ⟨RX0, "write", "(III)I"⟩
abbrev cX0_tellOne : ByteArray := prog_2_method_18_code
def yX0_tellOne : MethodName := ⟨RX0, "tellOne", "(I)I"⟩
abbrev cX0_copy : ByteArray := prog_2_method_19_code
def yX0_copy : MethodName := ⟨RX0, "copy", "(LWrongEnd$Fort;)V"⟩
abbrev cX0_copyRow : ByteArray := prog_2_method_20_code
def yX0_copyRow : MethodName := ⟨RX0, "copyRow", "([Z[Z)V"⟩
def RX1 : String := "WrongEnd$Machine"
def TX1 : u_T := fun k => match k with
  | 0 => ("WrongEnd$Machine", "names", "[I", true)
  | 1 => ("WrongEnd$Machine", "pile", "[I", true)
  | _ => ("WrongEnd$Machine", "top", "I", false)
def tyX1 : Nat → FieldType := fun k => match k with
  | 0 => .array .int
  | 1 => .array .int
  | _ => .int
abbrev wsX10 : List Cond := u_ws RX1 TX1 3
theorem nmX1 : ∀ a, a < 3 → ∀ b, b < 3 → a ≠ b → (TX1 a).2.1 ≠ (TX1 b).2.1 := by decide +kernel
theorem tyX1_ok : ∀ k, k < 3 → parseFieldDescriptor (TX1 k).2.2.1 = some (tyX1 k) := by decide +kernel
abbrev cX1_init : ByteArray := prog_3_method_1_code
def yX1_init : MethodName := ⟨RX1, "<init>", "()V"⟩
abbrev cX1_work : ByteArray := prog_3_method_2_code
def yX1_work : MethodName := ⟨RX1, "work", "(LWrongEnd$Program;I)I"⟩
abbrev cX1_push : ByteArray := prog_3_method_3_code
def yX1_push : MethodName := ⟨RX1, "push", "(I)V"⟩
abbrev cX1_pop : ByteArray := prog_3_method_4_code
def yX1_pop : MethodName := ⟨RX1, "pop", "()I"⟩
abbrev cX1_joined : ByteArray := prog_3_method_5_code
def yX1_joined : MethodName := ⟨RX1, "joined", "(III)J"⟩
abbrev cX1_bounded : ByteArray := prog_3_method_6_code
def yX1_bounded : MethodName := ⟨RX1, "bounded", "(J)I"⟩
def RX2 : String := "WrongEnd$Name"
def TX2 : u_T := fun k => match k with
  | _ => ("", "", "", false)
def tyX2 : Nat → FieldType := fun k => match k with
  | _ => .int
abbrev wsX20 : List Cond := u_ws RX2 TX2 0
theorem nmX2 : ∀ a, a < 0 → ∀ b, b < 0 → a ≠ b → (TX2 a).2.1 ≠ (TX2 b).2.1 := by decide +kernel
theorem tyX2_ok : ∀ k, k < 0 → parseFieldDescriptor (TX2 k).2.2.1 = some (tyX2 k) := by decide +kernel
abbrev cX2_isOf : ByteArray := prog_4_method_2_code
def yX2_isOf : MethodName := ⟨RX2, "isOf", "(II)Z"⟩
def RX3 : String := "WrongEnd$Optics"
def TX3 : u_T := fun k => match k with
  | 0 => ("WrongEnd$Optics", "fort", "LWrongEnd$Fort;", true)
  | 1 => ("WrongEnd$Optics", "texts", "[LWrongEnd$Program;", true)
  | 2 => ("WrongEnd$Optics", "blank", "LWrongEnd$Program;", true)
  | _ => ("WrongEnd$Optics", "machine", "LWrongEnd$Machine;", true)
def tyX3 : Nat → FieldType := fun k => match k with
  | 0 => .object "WrongEnd$Fort"
  | 1 => .array (.object "WrongEnd$Program")
  | 2 => .object "WrongEnd$Program"
  | _ => .object "WrongEnd$Machine"
abbrev wsX30 : List Cond := u_ws RX3 TX3 4
theorem nmX3 : ∀ a, a < 4 → ∀ b, b < 4 → a ≠ b → (TX3 a).2.1 ≠ (TX3 b).2.1 := by decide +kernel
theorem tyX3_ok : ∀ k, k < 4 → parseFieldDescriptor (TX3 k).2.2.1 = some (tyX3 k) := by decide +kernel
abbrev cX3_init : ByteArray := prog_5_method_1_code
def yX3_init : MethodName := ⟨RX3, "<init>", "(LWrongEnd$Fort;[LWrongEnd$Program;)V"⟩
abbrev cX3_face : ByteArray := prog_5_method_2_code
def yX3_face : MethodName := ⟨RX3, "face", "(I)V"⟩
abbrev cX3_aim : ByteArray := prog_5_method_3_code
def yX3_aim : MethodName := ⟨RX3, "aim", "(IIZI)V"⟩
abbrev cX3_choose : ByteArray := prog_5_method_4_code
def yX3_choose : MethodName := ⟨RX3, "choose", "(I)V"⟩
abbrev cX3_tell : ByteArray := prog_5_method_5_code
def yX3_tell : MethodName := ⟨RX3, "tell", "(I)I"⟩
abbrev cX3_without : ByteArray := prog_5_method_6_code
def yX3_without : MethodName := ⟨RX3, "without", "(I)I"⟩
def RX4 : String := "WrongEnd$Program"
def TX4 : u_T := fun k => match k with
  | 0 => ("WrongEnd$Program", "orders", "[I", true)
  | 1 => ("WrongEnd$Program", "starts", "[I", true)
  | 2 => ("WrongEnd$Program", "stops", "[I", true)
  | _ => ("WrongEnd$Program", "size", "I", false)
def tyX4 : Nat → FieldType := fun k => match k with
  | 0 => .array .int
  | 1 => .array .int
  | 2 => .array .int
  | _ => .int
abbrev wsX40 : List Cond := u_ws RX4 TX4 4
theorem nmX4 : ∀ a, a < 4 → ∀ b, b < 4 → a ≠ b → (TX4 a).2.1 ≠ (TX4 b).2.1 := by decide +kernel
theorem tyX4_ok : ∀ k, k < 4 → parseFieldDescriptor (TX4 k).2.2.1 = some (tyX4 k) := by decide +kernel
abbrev cX4_init : ByteArray := prog_6_method_1_code
def yX4_init : MethodName := ⟨RX4, "<init>", "(I)V"⟩
abbrev cX4_clear : ByteArray := prog_6_method_2_code
def yX4_clear : MethodName := ⟨RX4, "clear", "()V"⟩
abbrev cX4_has : ByteArray := prog_6_method_3_code
def yX4_has : MethodName := ⟨RX4, "has", "(I)Z"⟩
abbrev cX4_open : ByteArray := prog_6_method_4_code
def yX4_open : MethodName := ⟨RX4, "open", "(I)V"⟩
abbrev cX4_close : ByteArray := prog_6_method_5_code
def yX4_close : MethodName := ⟨RX4, "close", "(I)V"⟩
abbrev cX4_add : ByteArray := prog_6_method_6_code
def yX4_add : MethodName := ⟨RX4, "add", "(II)I"⟩
abbrev cX4_landHere : ByteArray := prog_6_method_7_code
def yX4_landHere : MethodName := ⟨RX4, "landHere", "(I)V"⟩
abbrev cX4_start : ByteArray := prog_6_method_8_code
def yX4_start : MethodName := ⟨RX4, "start", "(I)I"⟩
abbrev cX4_stop : ByteArray := prog_6_method_9_code
def yX4_stop : MethodName := ⟨RX4, "stop", "(I)I"⟩
abbrev cX4_orderAt : ByteArray := prog_6_method_10_code
def yX4_orderAt : MethodName := ⟨RX4, "orderAt", "(I)I"⟩
abbrev cX4_copy : ByteArray := prog_6_method_11_code
def yX4_copy : MethodName := ⟨RX4, "copy", "(LWrongEnd$Program;)V"⟩
def RX5 : String := "WrongEnd$Reader"
def TX5 : u_T := fun k => match k with
  | 0 => ("WrongEnd$Reader", "draft", "LWrongEnd$Program;", true)
  | 1 => ("WrongEnd$Reader", "faultKind", "I", false)
  | 2 => ("WrongEnd$Reader", "faultPlace", "I", false)
  | 3 => ("WrongEnd$Reader", "tokens", "LWrongEnd$Tokens;", true)
  | 4 => ("WrongEnd$Reader", "at", "I", false)
  | 5 => ("WrongEnd$Reader", "kind", "I", false)
  | 6 => ("WrongEnd$Reader", "value", "I", false)
  | _ => ("WrongEnd$Reader", "clause", "I", false)
def tyX5 : Nat → FieldType := fun k => match k with
  | 0 => .object "WrongEnd$Program"
  | 1 => .int
  | 2 => .int
  | 3 => .object "WrongEnd$Tokens"
  | 4 => .int
  | 5 => .int
  | 6 => .int
  | _ => .int
abbrev wsX50 : List Cond := u_ws RX5 TX5 8
theorem nmX5 : ∀ a, a < 8 → ∀ b, b < 8 → a ≠ b → (TX5 a).2.1 ≠ (TX5 b).2.1 := by decide +kernel
theorem tyX5_ok : ∀ k, k < 8 → parseFieldDescriptor (TX5 k).2.2.1 = some (tyX5 k) := by decide +kernel
abbrev cX5_init : ByteArray := prog_7_method_1_code
def yX5_init : MethodName := ⟨RX5, "<init>", "(LWrongEnd$Tape;)V"⟩
abbrev cX5_read : ByteArray := prog_7_method_2_code
def yX5_read : MethodName := ⟨RX5, "read", "()Z"⟩
abbrev cX5_readClause : ByteArray := prog_7_method_3_code
def yX5_readClause : MethodName := ⟨RX5, "readClause", "()V"⟩
abbrev cX5_readSum : ByteArray := prog_7_method_4_code
def yX5_readSum : MethodName := ⟨RX5, "readSum", "(I)V"⟩
abbrev cX5_readProduct : ByteArray := prog_7_method_5_code
def yX5_readProduct : MethodName := ⟨RX5, "readProduct", "(I)V"⟩
abbrev cX5_readOne : ByteArray := prog_7_method_6_code
def yX5_readOne : MethodName := ⟨RX5, "readOne", "(I)V"⟩
abbrev cX5_takeNumber : ByteArray := prog_7_method_7_code
def yX5_takeNumber : MethodName := ⟨RX5, "takeNumber", "()V"⟩
abbrev cX5_takeName : ByteArray := prog_7_method_8_code
def yX5_takeName : MethodName := ⟨RX5, "takeName", "()V"⟩
abbrev cX5_enters : ByteArray := prog_7_method_9_code
def yX5_enters : MethodName := ⟨RX5, "enters", "(I)Z"⟩
abbrev cX5_readChoice : ByteArray := prog_7_method_10_code
def yX5_readChoice : MethodName := ⟨RX5, "readChoice", "(I)V"⟩
abbrev cX5_readEither : ByteArray := prog_7_method_11_code
def yX5_readEither : MethodName := ⟨RX5, "readEither", "(I)V"⟩
abbrev cX5_readBoth : ByteArray := prog_7_method_12_code
def yX5_readBoth : MethodName := ⟨RX5, "readBoth", "(I)V"⟩
abbrev cX5_readAsk : ByteArray := prog_7_method_13_code
def yX5_readAsk : MethodName := ⟨RX5, "readAsk", "(I)V"⟩
abbrev cX5_expect : ByteArray := prog_7_method_14_code
def yX5_expect : MethodName := ⟨RX5, "expect", "(I)V"⟩
abbrev cX5_refuse : ByteArray := prog_7_method_15_code
def yX5_refuse : MethodName := ⟨RX5, "refuse", "(I)V"⟩
abbrev cX5_advance : ByteArray := prog_7_method_16_code
def yX5_advance : MethodName := ⟨RX5, "advance", "()V"⟩
def RX6 : String := "WrongEnd$Scales"
def TX6 : u_T := fun k => match k with
  | 0 => ("WrongEnd$Scales", "fort", "LWrongEnd$Fort;", true)
  | 1 => ("WrongEnd$Scales", "optics", "LWrongEnd$Optics;", true)
  | 2 => ("WrongEnd$Scales", "states", "I", true)
  | 3 => ("WrongEnd$Scales", "weights", "[J", true)
  | 4 => ("WrongEnd$Scales", "views", "[[I", true)
  | _ => ("WrongEnd$Scales", "greatest", "[J", true)
def tyX6 : Nat → FieldType := fun k => match k with
  | 0 => .object "WrongEnd$Fort"
  | 1 => .object "WrongEnd$Optics"
  | 2 => .int
  | 3 => .array .long
  | 4 => .array (.array .int)
  | _ => .array .long
abbrev wsX60 : List Cond := u_ws RX6 TX6 6
theorem nmX6 : ∀ a, a < 6 → ∀ b, b < 6 → a ≠ b → (TX6 a).2.1 ≠ (TX6 b).2.1 := by decide +kernel
theorem tyX6_ok : ∀ k, k < 6 → parseFieldDescriptor (TX6 k).2.2.1 = some (tyX6 k) := by decide +kernel
abbrev cX6_init : ByteArray := prog_8_method_1_code
def yX6_init : MethodName := ⟨RX6, "<init>", "(LWrongEnd$Fort;LWrongEnd$Optics;)V"⟩
abbrev cX6_weightAsOf : ByteArray := prog_8_method_2_code
def yX6_weightAsOf : MethodName := ⟨RX6, "weightAsOf", "(II)J"⟩
abbrev cX6_share : ByteArray := prog_8_method_3_code
def yX6_share : MethodName := ⟨RX6, "share", "(I)I"⟩
abbrev cX6_weigh : ByteArray := prog_8_method_4_code
def yX6_weigh : MethodName := ⟨RX6, "weigh", "(I)J"⟩
abbrev cX6_weightOf : ByteArray := prog_8_method_5_code
def yX6_weightOf : MethodName := ⟨RX6, "weightOf", "(III)J"⟩
abbrev cX6_heaviest : ByteArray := prog_8_method_6_code
def yX6_heaviest : MethodName := ⟨RX6, "heaviest", "()I"⟩
abbrev cX6_cheapest : ByteArray := prog_8_method_7_code
def yX6_cheapest : MethodName := ⟨RX6, "cheapest", "(I)I"⟩
abbrev cX6_costOf : ByteArray := prog_8_method_8_code
def yX6_costOf : MethodName := ⟨RX6, "costOf", "(I)J"⟩
abbrev cX6_lookAll : ByteArray := prog_8_method_9_code
def yX6_lookAll : MethodName := ⟨RX6, "lookAll", "(I)V"⟩
abbrev cX6_look : ByteArray := prog_8_method_10_code
def yX6_look : MethodName := ⟨RX6, "look", "(III)V"⟩
abbrev cX6_sureByOne : ByteArray := prog_8_method_11_code
def yX6_sureByOne : MethodName := ⟨RX6, "sureByOne", "(I)J"⟩
abbrev cX6_sureByTwo : ByteArray := prog_8_method_12_code
def yX6_sureByTwo : MethodName := ⟨RX6, "sureByTwo", "(II)J"⟩
abbrev cX6_raise : ByteArray := prog_8_method_13_code
def yX6_raise : MethodName := ⟨RX6, "raise", "(IIJ)V"⟩
abbrev cX6_clearGreatest : ByteArray := prog_8_method_14_code
def yX6_clearGreatest : MethodName := ⟨RX6, "clearGreatest", "(I)V"⟩
abbrev cX6_sumGreatest : ByteArray := prog_8_method_15_code
def yX6_sumGreatest : MethodName := ⟨RX6, "sumGreatest", "(I)J"⟩
abbrev cX6_bestOfOne : ByteArray := prog_8_method_16_code
def yX6_bestOfOne : MethodName := ⟨RX6, "bestOfOne", "()I"⟩
abbrev cX6_bestOfTwo : ByteArray := prog_8_method_17_code
def yX6_bestOfTwo : MethodName := ⟨RX6, "bestOfTwo", "(I)I"⟩
abbrev cX6_bestNewCell : ByteArray := prog_8_method_18_code
def yX6_bestNewCell : MethodName := ⟨RX6, "bestNewCell", "(I)I"⟩
def RX7 : String := "WrongEnd$Sign"
def TX7 : u_T := fun k => match k with
  | _ => ("", "", "", false)
def tyX7 : Nat → FieldType := fun k => match k with
  | _ => .int
abbrev wsX70 : List Cond := u_ws RX7 TX7 0
theorem nmX7 : ∀ a, a < 0 → ∀ b, b < 0 → a ≠ b → (TX7 a).2.1 ≠ (TX7 b).2.1 := by decide +kernel
theorem tyX7_ok : ∀ k, k < 0 → parseFieldDescriptor (TX7 k).2.2.1 = some (tyX7 k) := by decide +kernel
def RX8 : String := "WrongEnd$Tape"
def TX8 : u_T := fun k => match k with
  | 0 => ("WrongEnd$Tape", "bytes", "[I", true)
  | _ => ("WrongEnd$Tape", "length", "I", false)
def tyX8 : Nat → FieldType := fun k => match k with
  | 0 => .array .int
  | _ => .int
abbrev wsX80 : List Cond := u_ws RX8 TX8 2
theorem nmX8 : ∀ a, a < 2 → ∀ b, b < 2 → a ≠ b → (TX8 a).2.1 ≠ (TX8 b).2.1 := by decide +kernel
theorem tyX8_ok : ∀ k, k < 2 → parseFieldDescriptor (TX8 k).2.2.1 = some (tyX8 k) := by decide +kernel
abbrev cX8_init : ByteArray := prog_10_method_1_code
def yX8_init : MethodName := ⟨RX8, "<init>", "()V"⟩
abbrev cX8_hasRoom : ByteArray := prog_10_method_2_code
def yX8_hasRoom : MethodName := ⟨RX8, "hasRoom", "(I)Z"⟩
abbrev cX8_put : ByteArray := prog_10_method_3_code
def yX8_put : MethodName := ⟨RX8, "put", "(I)V"⟩
abbrev cX8_at : ByteArray := prog_10_method_4_code
def yX8_at : MethodName := ⟨RX8, "at", "(I)I"⟩
def RX9 : String := "WrongEnd$Tokens"
def TX9 : u_T := fun k => match k with
  | 0 => ("WrongEnd$Tokens", "tape", "LWrongEnd$Tape;", true)
  | 1 => ("WrongEnd$Tokens", "kinds", "[I", true)
  | 2 => ("WrongEnd$Tokens", "values", "[I", true)
  | 3 => ("WrongEnd$Tokens", "places", "[I", true)
  | 4 => ("WrongEnd$Tokens", "count", "I", false)
  | _ => ("WrongEnd$Tokens", "next", "I", false)
def tyX9 : Nat → FieldType := fun k => match k with
  | 0 => .object "WrongEnd$Tape"
  | 1 => .array .int
  | 2 => .array .int
  | 3 => .array .int
  | 4 => .int
  | _ => .int
abbrev wsX90 : List Cond := u_ws RX9 TX9 6
theorem nmX9 : ∀ a, a < 6 → ∀ b, b < 6 → a ≠ b → (TX9 a).2.1 ≠ (TX9 b).2.1 := by decide +kernel
theorem tyX9_ok : ∀ k, k < 6 → parseFieldDescriptor (TX9 k).2.2.1 = some (tyX9 k) := by decide +kernel
abbrev cX9_init : ByteArray := prog_11_method_1_code
def yX9_init : MethodName := ⟨RX9, "<init>", "(LWrongEnd$Tape;)V"⟩
abbrev cX9_kindAt : ByteArray := prog_11_method_2_code
def yX9_kindAt : MethodName := ⟨RX9, "kindAt", "(I)I"⟩
abbrev cX9_valueAt : ByteArray := prog_11_method_3_code
def yX9_valueAt : MethodName := ⟨RX9, "valueAt", "(I)I"⟩
abbrev cX9_placeAt : ByteArray := prog_11_method_4_code
def yX9_placeAt : MethodName := ⟨RX9, "placeAt", "(I)I"⟩
abbrev cX9_split : ByteArray := prog_11_method_5_code
def yX9_split : MethodName := ⟨RX9, "split", "()V"⟩
abbrev cX9_add : ByteArray := prog_11_method_6_code
def yX9_add : MethodName := ⟨RX9, "add", "(III)V"⟩
abbrev cX9_splitWord : ByteArray := prog_11_method_7_code
def yX9_splitWord : MethodName := ⟨RX9, "splitWord", "()V"⟩
abbrev cX9_wordNumber : ByteArray := prog_11_method_8_code
def yX9_wordNumber : MethodName := ⟨RX9, "wordNumber", "(II)I"⟩
abbrev cX9_splitNumber : ByteArray := prog_11_method_9_code
def yX9_splitNumber : MethodName := ⟨RX9, "splitNumber", "()V"⟩
abbrev cX9_splitMark : ByteArray := prog_11_method_10_code
def yX9_splitMark : MethodName := ⟨RX9, "splitMark", "(I)V"⟩
abbrev cX9_isBlank : ByteArray := prog_11_method_11_code
def yX9_isBlank : MethodName := ⟨RX9, "isBlank", "(I)Z"⟩
abbrev cX9_isLetter : ByteArray := prog_11_method_12_code
def yX9_isLetter : MethodName := ⟨RX9, "isLetter", "(I)Z"⟩
abbrev cX9_isFigure : ByteArray := prog_11_method_13_code
def yX9_isFigure : MethodName := ⟨RX9, "isFigure", "(I)Z"⟩
def RX10 : String := "WrongEnd"
def TX10 : u_T := fun k => match k with
  | 0 => ("WrongEnd", "fort", "LWrongEnd$Fort;", true)
  | 1 => ("WrongEnd", "kept", "LWrongEnd$Fort;", true)
  | 2 => ("WrongEnd", "tape", "LWrongEnd$Tape;", true)
  | 3 => ("WrongEnd", "reader", "LWrongEnd$Reader;", true)
  | 4 => ("WrongEnd", "texts", "[LWrongEnd$Program;", true)
  | 5 => ("WrongEnd", "optics", "LWrongEnd$Optics;", true)
  | _ => ("WrongEnd", "scales", "LWrongEnd$Scales;", true)
def tyX10 : Nat → FieldType := fun k => match k with
  | 0 => .object "WrongEnd$Fort"
  | 1 => .object "WrongEnd$Fort"
  | 2 => .object "WrongEnd$Tape"
  | 3 => .object "WrongEnd$Reader"
  | 4 => .array (.object "WrongEnd$Program")
  | 5 => .object "WrongEnd$Optics"
  | _ => .object "WrongEnd$Scales"
abbrev wsX100 : List Cond := u_ws RX10 TX10 7
theorem nmX10 : ∀ a, a < 7 → ∀ b, b < 7 → a ≠ b → (TX10 a).2.1 ≠ (TX10 b).2.1 := by decide +kernel
theorem tyX10_ok : ∀ k, k < 7 → parseFieldDescriptor (TX10 k).2.2.1 = some (tyX10 k) := by decide +kernel
abbrev cX10_init : ByteArray := prog_1_method_1_code
def yX10_init : MethodName := ⟨RX10, "<init>", "(II)V"⟩
abbrev cX10_hill : ByteArray := prog_1_method_2_code
def yX10_hill : MethodName := ⟨RX10, "hill", "(II)Z"⟩
abbrev cX10_scope : ByteArray := prog_1_method_3_code
def yX10_scope : MethodName := ⟨RX10, "scope", "(I)I"⟩
abbrev cX10_turn : ByteArray := prog_1_method_4_code
def yX10_turn : MethodName := ⟨RX10, "turn", "(IZ)Z"⟩
abbrev cX10_lend : ByteArray := prog_1_method_5_code
def yX10_lend : MethodName := ⟨RX10, "lend", "(IZ)Z"⟩
abbrev cX10_undo : ByteArray := prog_1_method_6_code
def yX10_undo : MethodName := ⟨RX10, "undo", "()I"⟩
abbrev cX10_feed : ByteArray := prog_1_method_7_code
def yX10_feed : MethodName := ⟨RX10, "feed", "(IIIII)I"⟩
abbrev cX10_end : ByteArray := prog_1_method_8_code
def yX10_end : MethodName := ⟨RX10, "end", "(I)I"⟩
abbrev cX10_text : ByteArray := prog_1_method_9_code
def yX10_text : MethodName := ⟨RX10, "text", "()I"⟩
abbrev cX10_fault : ByteArray := prog_1_method_10_code
def yX10_fault : MethodName := ⟨RX10, "fault", "(I)I"⟩
abbrev cX10_by : ByteArray := prog_1_method_11_code
def yX10_by : MethodName := ⟨RX10, "by", "(I)Z"⟩
abbrev cX10_prior : ByteArray := prog_1_method_12_code
def yX10_prior : MethodName := ⟨RX10, "prior", "(I)I"⟩
abbrev cX10_sees : ByteArray := prog_1_method_13_code
def yX10_sees : MethodName := ⟨RX10, "sees", "(IZIIZ)I"⟩
abbrev cX10_report : ByteArray := prog_1_method_14_code
def yX10_report : MethodName := ⟨RX10, "report", "(III)I"⟩
abbrev cX10_forget : ByteArray := prog_1_method_15_code
def yX10_forget : MethodName := ⟨RX10, "forget", "()I"⟩
abbrev cX10_weight : ByteArray := prog_1_method_16_code
def yX10_weight : MethodName := ⟨RX10, "weight", "(II)J"⟩
abbrev cX10_odds : ByteArray := prog_1_method_17_code
def yX10_odds : MethodName := ⟨RX10, "odds", "(IIIII)J"⟩
abbrev cX10_likely : ByteArray := prog_1_method_18_code
def yX10_likely : MethodName := ⟨RX10, "likely", "(I)I"⟩
abbrev cX10_sure : ByteArray := prog_1_method_19_code
def yX10_sure : MethodName := ⟨RX10, "sure", "(III)J"⟩
abbrev cX10_ask : ByteArray := prog_1_method_20_code
def yX10_ask : MethodName := ⟨RX10, "ask", "(IZI)I"⟩
abbrev cX10_eighth : ByteArray := prog_1_method_21_code
def yX10_eighth : MethodName := ⟨RX10, "eighth", "(I)I"⟩
abbrev cX10_does : ByteArray := prog_1_method_22_code
def yX10_does : MethodName := ⟨RX10, "does", "(II)J"⟩
abbrev cX10_spied : ByteArray := prog_1_method_23_code
def yX10_spied : MethodName := ⟨RX10, "spied", "(IIIII)I"⟩
abbrev cX10_image : ByteArray := prog_1_method_24_code
def yX10_image : MethodName := ⟨RX10, "image", "()I"⟩
abbrev cX10_back : ByteArray := prog_1_method_25_code
def yX10_back : MethodName := ⟨RX10, "back", "()I"⟩
abbrev cX10_about : ByteArray := prog_1_method_26_code
def yX10_about : MethodName := ⟨RX10, "about", "(I)I"⟩
abbrev cX10_isFreeHold : ByteArray := prog_1_method_27_code
def yX10_isFreeHold : MethodName := ⟨RX10, "isFreeHold", "(I)Z"⟩
abbrev cX10_isHour : ByteArray := prog_1_method_28_code
def yX10_isHour : MethodName := ⟨RX10, "isHour", "(I)Z"⟩
abbrev cX10_isDigit : ByteArray := prog_1_method_29_code
def yX10_isDigit : MethodName := ⟨RX10, "isDigit", "(I)Z"⟩
abbrev cX10_oneMore : ByteArray := prog_1_method_30_code
def yX10_oneMore : MethodName := ⟨RX10, "oneMore", "(I)I"⟩
abbrev cX10_inLowestTerms : ByteArray := prog_1_method_31_code
def yX10_inLowestTerms : MethodName := ⟨RX10, "inLowestTerms", "(JJJ)J"⟩
def RX11 : String := "WrongEndModel"
def TX11 : u_T := fun k => match k with
  | 0 => ("WrongEndModel", "a", "[I", true)
  | 1 => ("WrongEndModel", "image", "[I", true)
  | 2 => ("WrongEndModel", "wide", "I", true)
  | 3 => ("WrongEndModel", "high", "I", true)
  | 4 => ("WrongEndModel", "texts", "[I", true)
  | 5 => ("WrongEndModel", "tape", "[I", true)
  | 6 => ("WrongEndModel", "taped", "I", false)
  | 7 => ("WrongEndModel", "fault", "I", false)
  | 8 => ("WrongEndModel", "faultPlace", "I", false)
  | 9 => ("WrongEndModel", "at", "I", false)
  | 10 => ("WrongEndModel", "place", "I", false)
  | 11 => ("WrongEndModel", "token", "I", false)
  | 12 => ("WrongEndModel", "number", "I", false)
  | 13 => ("WrongEndModel", "word", "J", false)
  | 14 => ("WrongEndModel", "text0", "I", false)
  | 15 => ("WrongEndModel", "clauses", "I", false)
  | 16 => ("WrongEndModel", "written", "I", false)
  | 17 => ("WrongEndModel", "came", "I", false)
  | 18 => ("WrongEndModel", "pile", "[I", true)
  | 19 => ("WrongEndModel", "piled", "I", false)
  | 20 => ("WrongEndModel", "opens", "I", false)
  | 21 => ("WrongEndModel", "isWhole", "Z", false)
  | 22 => ("WrongEndModel", "sort0", "I", false)
  | 23 => ("WrongEndModel", "once", "I", false)
  | 24 => ("WrongEndModel", "named", "[I", true)
  | 25 => ("WrongEndModel", "values", "[J", true)
  | 26 => ("WrongEndModel", "truth", "[Z", true)
  | 27 => ("WrongEndModel", "weights", "[J", true)
  | 28 => ("WrongEndModel", "all", "J", false)
  | 29 => ("WrongEndModel", "seen", "[I", true)
  | _ => ("WrongEndModel", "slips", "[I", true)
def tyX11 : Nat → FieldType := fun k => match k with
  | 0 => .array .int
  | 1 => .array .int
  | 2 => .int
  | 3 => .int
  | 4 => .array .int
  | 5 => .array .int
  | 6 => .int
  | 7 => .int
  | 8 => .int
  | 9 => .int
  | 10 => .int
  | 11 => .int
  | 12 => .int
  | 13 => .long
  | 14 => .int
  | 15 => .int
  | 16 => .int
  | 17 => .int
  | 18 => .array .int
  | 19 => .int
  | 20 => .int
  | 21 => .boolean
  | 22 => .int
  | 23 => .int
  | 24 => .array .int
  | 25 => .array .long
  | 26 => .array .boolean
  | 27 => .array .long
  | 28 => .long
  | 29 => .array .int
  | _ => .array .int
abbrev wsX110 : List Cond := u_ws RX11 TX11 31
theorem nmX11 : ∀ a, a < 31 → ∀ b, b < 31 → a ≠ b → (TX11 a).2.1 ≠ (TX11 b).2.1 := by decide +kernel
theorem tyX11_ok : ∀ k, k < 31 → parseFieldDescriptor (TX11 k).2.2.1 = some (tyX11 k) := by decide +kernel
abbrev cX11_init : ByteArray := prog_13_method_1_code
def yX11_init : MethodName := ⟨RX11, "<init>", "(II)V"⟩
abbrev cX11_copy : ByteArray := prog_13_method_2_code
def yX11_copy : MethodName := ⟨RX11, "copy", "([I[I)V"⟩
abbrev cX11_isIn : ByteArray := prog_13_method_3_code
def yX11_isIn : MethodName := ⟨RX11, "isIn", "(III)Z"⟩
abbrev cX11_held : ByteArray := prog_13_method_4_code
def yX11_held : MethodName := ⟨RX11, "held", "(JII)I"⟩
abbrev cX11_states : ByteArray := prog_13_method_5_code
def yX11_states : MethodName := ⟨RX11, "states", "()I"⟩
abbrev cX11_isCell : ByteArray := prog_13_method_6_code
def yX11_isCell : MethodName := ⟨RX11, "isCell", "(I)Z"⟩
abbrev cX11_isState : ByteArray := prog_13_method_7_code
def yX11_isState : MethodName := ⟨RX11, "isState", "(I)Z"⟩
abbrev cX11_isScope : ByteArray := prog_13_method_8_code
def yX11_isScope : MethodName := ⟨RX11, "isScope", "(I)Z"⟩
abbrev cX11_scopeAt : ByteArray := prog_13_method_9_code
def yX11_scopeAt : MethodName := ⟨RX11, "scopeAt", "(I)I"⟩
abbrev cX11_isHour : ByteArray := prog_13_method_10_code
def yX11_isHour : MethodName := ⟨RX11, "isHour", "(I)Z"⟩
abbrev cX11_hill : ByteArray := prog_13_method_11_code
def yX11_hill : MethodName := ⟨RX11, "hill", "(II)Z"⟩
abbrev cX11_scope : ByteArray := prog_13_method_12_code
def yX11_scope : MethodName := ⟨RX11, "scope", "(I)I"⟩
abbrev cX11_make : ByteArray := prog_13_method_13_code
def yX11_make : MethodName := ⟨RX11, "make", "(IIZ)Z"⟩
abbrev cX11_turn : ByteArray := prog_13_method_14_code
def yX11_turn : MethodName := ⟨RX11, "turn", "(IZ)Z"⟩
abbrev cX11_lend : ByteArray := prog_13_method_15_code
def yX11_lend : MethodName := ⟨RX11, "lend", "(IZ)Z"⟩
abbrev cX11_undo : ByteArray := prog_13_method_16_code
def yX11_undo : MethodName := ⟨RX11, "undo", "()I"⟩
abbrev cX11_four : ByteArray := prog_13_method_17_code
def yX11_four : MethodName := ⟨RX11, "four", "(I)V"⟩
abbrev cX11_feed : ByteArray := prog_13_method_18_code
def yX11_feed : MethodName := ⟨RX11, "feed", "(IIIII)I"⟩
abbrev cX11_end : ByteArray := prog_13_method_19_code
def yX11_end : MethodName := ⟨RX11, "end", "(I)I"⟩
abbrev cX11_byteAt : ByteArray := prog_13_method_20_code
def yX11_byteAt : MethodName := ⟨RX11, "byteAt", "(I)I"⟩
abbrev cX11_isLetter : ByteArray := prog_13_method_21_code
def yX11_isLetter : MethodName := ⟨RX11, "isLetter", "(I)Z"⟩
abbrev cX11_isDigit : ByteArray := prog_13_method_22_code
def yX11_isDigit : MethodName := ⟨RX11, "isDigit", "(I)Z"⟩
abbrev cX11_nextToken : ByteArray := prog_13_method_23_code
def yX11_nextToken : MethodName := ⟨RX11, "nextToken", "()V"⟩
abbrev cX11_w3 : ByteArray := prog_13_method_24_code
def yX11_w3 : MethodName := ⟨RX11, "w3", "(III)J"⟩
abbrev cX11_w5 : ByteArray := prog_13_method_25_code
def yX11_w5 : MethodName := ⟨RX11, "w5", "(IIIII)J"⟩
abbrev cX11_w4 : ByteArray := prog_13_method_26_code
def yX11_w4 : MethodName := ⟨RX11, "w4", "(IIII)J"⟩
abbrev cX11_w6 : ByteArray := prog_13_method_27_code
def yX11_w6 : MethodName := ⟨RX11, "w6", "(IIIIII)J"⟩
abbrev cX11_isWord : ByteArray := prog_13_method_28_code
def yX11_isWord : MethodName := ⟨RX11, "isWord", "(J)Z"⟩
abbrev cX11_emit : ByteArray := prog_13_method_29_code
def yX11_emit : MethodName := ⟨RX11, "emit", "(II)V"⟩
abbrev cX11_push : ByteArray := prog_13_method_30_code
def yX11_push : MethodName := ⟨RX11, "push", "(I)V"⟩
abbrev cX11_rank : ByteArray := prog_13_method_31_code
def yX11_rank : MethodName := ⟨RX11, "rank", "(I)I"⟩
abbrev cX11_settle : ByteArray := prog_13_method_32_code
def yX11_settle : MethodName := ⟨RX11, "settle", "(I)V"⟩
abbrev cX11_whole : ByteArray := prog_13_method_33_code
def yX11_whole : MethodName := ⟨RX11, "whole", "()V"⟩
abbrev cX11_marker : ByteArray := prog_13_method_34_code
def yX11_marker : MethodName := ⟨RX11, "marker", "()I"⟩
abbrev cX11_kindOpen : ByteArray := prog_13_method_35_code
def yX11_kindOpen : MethodName := ⟨RX11, "kindOpen", "(Z)I"⟩
abbrev cX11_isCompared : ByteArray := prog_13_method_36_code
def yX11_isCompared : MethodName := ⟨RX11, "isCompared", "()Z"⟩
abbrev cX11_isAskAhead : ByteArray := prog_13_method_37_code
def yX11_isAskAhead : MethodName := ⟨RX11, "isAskAhead", "(Z)Z"⟩
abbrev cX11_opensBy : ByteArray := prog_13_method_38_code
def yX11_opensBy : MethodName := ⟨RX11, "opensBy", "(I)I"⟩
abbrev cX11_beginOne : ByteArray := prog_13_method_39_code
def yX11_beginOne : MethodName := ⟨RX11, "beginOne", "(Z)I"⟩
abbrev cX11_compareOf : ByteArray := prog_13_method_40_code
def yX11_compareOf : MethodName := ⟨RX11, "compareOf", "()I"⟩
abbrev cX11_betweenOf : ByteArray := prog_13_method_41_code
def yX11_betweenOf : MethodName := ⟨RX11, "betweenOf", "(Z)I"⟩
abbrev cX11_behindOne : ByteArray := prog_13_method_42_code
def yX11_behindOne : MethodName := ⟨RX11, "behindOne", "(Z)Z"⟩
abbrev cX11_parsed : ByteArray := prog_13_method_43_code
def yX11_parsed : MethodName := ⟨RX11, "parsed", "(Z)I"⟩
abbrev cX11_nameOf : ByteArray := prog_13_method_44_code
def yX11_nameOf : MethodName := ⟨RX11, "nameOf", "()I"⟩
abbrev cX11_isOf : ByteArray := prog_13_method_45_code
def yX11_isOf : MethodName := ⟨RX11, "isOf", "(I)Z"⟩
abbrev cX11_sortOf : ByteArray := prog_13_method_46_code
def yX11_sortOf : MethodName := ⟨RX11, "sortOf", "()I"⟩
abbrev cX11_clause : ByteArray := prog_13_method_47_code
def yX11_clause : MethodName := ⟨RX11, "clause", "()I"⟩
abbrev cX11_readText : ByteArray := prog_13_method_48_code
def yX11_readText : MethodName := ⟨RX11, "readText", "()I"⟩
abbrev cX11_text : ByteArray := prog_13_method_49_code
def yX11_text : MethodName := ⟨RX11, "text", "()I"⟩
abbrev cX11_fault : ByteArray := prog_13_method_50_code
def yX11_fault : MethodName := ⟨RX11, "fault", "(I)I"⟩
abbrev cX11_by : ByteArray := prog_13_method_51_code
def yX11_by : MethodName := ⟨RX11, "by", "(I)Z"⟩
abbrev cX11_clip : ByteArray := prog_13_method_52_code
def yX11_clip : MethodName := ⟨RX11, "clip", "(J)J"⟩
abbrev cX11_two : ByteArray := prog_13_method_53_code
def yX11_two : MethodName := ⟨RX11, "two", "(IJJ)J"⟩
abbrev cX11_isAsked : ByteArray := prog_13_method_54_code
def yX11_isAsked : MethodName := ⟨RX11, "isAsked", "(IJJ)Z"⟩
abbrev cX11_work : ByteArray := prog_13_method_55_code
def yX11_work : MethodName := ⟨RX11, "work", "(I)V"⟩
abbrev cX11_sumOf : ByteArray := prog_13_method_56_code
def yX11_sumOf : MethodName := ⟨RX11, "sumOf", "(III)I"⟩
abbrev cX11_sizeOf : ByteArray := prog_13_method_57_code
def yX11_sizeOf : MethodName := ⟨RX11, "sizeOf", "(I)I"⟩
abbrev cX11_name : ByteArray := prog_13_method_58_code
def yX11_name : MethodName := ⟨RX11, "name", "(I)V"⟩
abbrev cX11_apart : ByteArray := prog_13_method_59_code
def yX11_apart : MethodName := ⟨RX11, "apart", "(II)I"⟩
abbrev cX11_nameBy : ByteArray := prog_13_method_60_code
def yX11_nameBy : MethodName := ⟨RX11, "nameBy", "(IIIII)V"⟩
abbrev cX11_seenBy : ByteArray := prog_13_method_61_code
def yX11_seenBy : MethodName := ⟨RX11, "seenBy", "(I)I"⟩
abbrev cX11_priorOf : ByteArray := prog_13_method_62_code
def yX11_priorOf : MethodName := ⟨RX11, "priorOf", "(I)I"⟩
abbrev cX11_prior : ByteArray := prog_13_method_63_code
def yX11_prior : MethodName := ⟨RX11, "prior", "(I)I"⟩
abbrev cX11_sees : ByteArray := prog_13_method_64_code
def yX11_sees : MethodName := ⟨RX11, "sees", "(IZIIZ)I"⟩
abbrev cX11_report : ByteArray := prog_13_method_65_code
def yX11_report : MethodName := ⟨RX11, "report", "(III)I"⟩
abbrev cX11_forget : ByteArray := prog_13_method_66_code
def yX11_forget : MethodName := ⟨RX11, "forget", "()I"⟩
abbrev cX11_often : ByteArray := prog_13_method_67_code
def yX11_often : MethodName := ⟨RX11, "often", "(III)I"⟩
abbrev cX11_weightOf : ByteArray := prog_13_method_68_code
def yX11_weightOf : MethodName := ⟨RX11, "weightOf", "(II)J"⟩
abbrev cX11_weight : ByteArray := prog_13_method_69_code
def yX11_weight : MethodName := ⟨RX11, "weight", "(II)J"⟩
abbrev cX11_findWeights : ByteArray := prog_13_method_70_code
def yX11_findWeights : MethodName := ⟨RX11, "findWeights", "(I)V"⟩
abbrev cX11_common : ByteArray := prog_13_method_71_code
def yX11_common : MethodName := ⟨RX11, "common", "(JJ)J"⟩
abbrev cX11_odds : ByteArray := prog_13_method_72_code
def yX11_odds : MethodName := ⟨RX11, "odds", "(IIIII)J"⟩
abbrev cX11_likely : ByteArray := prog_13_method_73_code
def yX11_likely : MethodName := ⟨RX11, "likely", "(I)I"⟩
abbrev cX11_lay : ByteArray := prog_13_method_74_code
def yX11_lay : MethodName := ⟨RX11, "lay", "(III)V"⟩
abbrev cX11_oftenBy : ByteArray := prog_13_method_75_code
def yX11_oftenBy : MethodName := ⟨RX11, "oftenBy", "(III)I"⟩
abbrev cX11_sureBy : ByteArray := prog_13_method_76_code
def yX11_sureBy : MethodName := ⟨RX11, "sureBy", "(I)J"⟩
abbrev cX11_sureByTwo : ByteArray := prog_13_method_77_code
def yX11_sureByTwo : MethodName := ⟨RX11, "sureByTwo", "(II)J"⟩
abbrev cX11_canAsk : ByteArray := prog_13_method_78_code
def yX11_canAsk : MethodName := ⟨RX11, "canAsk", "(I)Z"⟩
abbrev cX11_layAll : ByteArray := prog_13_method_79_code
def yX11_layAll : MethodName := ⟨RX11, "layAll", "(I)V"⟩
abbrev cX11_sure : ByteArray := prog_13_method_80_code
def yX11_sure : MethodName := ⟨RX11, "sure", "(III)J"⟩
abbrev cX11_askOne : ByteArray := prog_13_method_81_code
def yX11_askOne : MethodName := ⟨RX11, "askOne", "()I"⟩
abbrev cX11_askTwo : ByteArray := prog_13_method_82_code
def yX11_askTwo : MethodName := ⟨RX11, "askTwo", "()I"⟩
abbrev cX11_ask : ByteArray := prog_13_method_83_code
def yX11_ask : MethodName := ⟨RX11, "ask", "(IZI)I"⟩
abbrev cX11_eighth : ByteArray := prog_13_method_84_code
def yX11_eighth : MethodName := ⟨RX11, "eighth", "(I)I"⟩
abbrev cX11_does : ByteArray := prog_13_method_85_code
def yX11_does : MethodName := ⟨RX11, "does", "(II)J"⟩
abbrev cX11_spied : ByteArray := prog_13_method_86_code
def yX11_spied : MethodName := ⟨RX11, "spied", "(IIIII)I"⟩
abbrev cX11_image : ByteArray := prog_13_method_87_code
def yX11_image : MethodName := ⟨RX11, "image", "()I"⟩
abbrev cX11_back : ByteArray := prog_13_method_88_code
def yX11_back : MethodName := ⟨RX11, "back", "()I"⟩
abbrev cX11_about : ByteArray := prog_13_method_89_code
def yX11_about : MethodName := ⟨RX11, "about", "(I)I"⟩
def RJ11 : String := "java/lang/Character"
def TJ11 : u_T := fun k => match k with
  | _ => ("", "", "", false)
def tyJ11 : Nat → FieldType := fun k => match k with
  | _ => .int
abbrev wsJ110 : List Cond := u_ws RJ11 TJ11 0
theorem nmJ11 : ∀ a, a < 0 → ∀ b, b < 0 → a ≠ b → (TJ11 a).2.1 ≠ (TJ11 b).2.1 := by decide +kernel
theorem tyJ11_ok : ∀ k, k < 0 → parseFieldDescriptor (TJ11 k).2.2.1 = some (tyJ11 k) := by decide +kernel
abbrev cJ11_isValidCodePoint_9a6ad : ByteArray := prog_14_method_11_code
def yJ11_isValidCodePoint_9a6ad : MethodName := ⟨RJ11, "isValidCodePoint", "(I)Z"⟩
abbrev cJ11_highSurrogate_5068e : ByteArray := prog_14_method_28_code
def yJ11_highSurrogate_5068e : MethodName := ⟨RJ11, "highSurrogate", "(I)C"⟩
abbrev cJ11_lowSurrogate_5068e : ByteArray := prog_14_method_29_code
def yJ11_lowSurrogate_5068e : MethodName := ⟨RJ11, "lowSurrogate", "(I)C"⟩
def RJ9 : String := "java/lang/Math"
def TJ9 : u_T := fun k => match k with
  | _ => ("", "", "", false)
def tyJ9 : Nat → FieldType := fun k => match k with
  | _ => .int
abbrev wsJ90 : List Cond := u_ws RJ9 TJ9 0
theorem nmJ9 : ∀ a, a < 0 → ∀ b, b < 0 → a ≠ b → (TJ9 a).2.1 ≠ (TJ9 b).2.1 := by decide +kernel
theorem tyJ9_ok : ∀ k, k < 0 → parseFieldDescriptor (TJ9 k).2.2.1 = some (tyJ9 k) := by decide +kernel
abbrev cJ9_abs_0f7a4 : ByteArray := prog_15_method_59_code
def yJ9_abs_0f7a4 : MethodName := ⟨RJ9, "abs", "(I)I"⟩
abbrev cJ9_max_7cf53 : ByteArray := prog_15_method_65_code
def yJ9_max_7cf53 : MethodName := ⟨RJ9, "max", "(II)I"⟩
abbrev cJ9_max_f86c9 : ByteArray := prog_15_method_66_code
def yJ9_max_f86c9 : MethodName := ⟨RJ9, "max", "(JJ)J"⟩
abbrev cJ9_min_7cf53 : ByteArray := prog_15_method_69_code
def yJ9_min_7cf53 : MethodName := ⟨RJ9, "min", "(II)I"⟩
abbrev cJ9_min_f86c9 : ByteArray := prog_15_method_70_code
def yJ9_min_f86c9 : MethodName := ⟨RJ9, "min", "(JJ)J"⟩
def RJ0 : String := "java/lang/String"
def TJ0 : u_T := fun k => match k with
  | _ => ("", "", "", false)
def tyJ0 : Nat → FieldType := fun k => match k with
  | _ => .int
abbrev wsJ00 : List Cond := u_ws RJ0 TJ0 0
theorem nmJ0 : ∀ a, a < 0 → ∀ b, b < 0 → a ≠ b → (TJ0 a).2.1 ≠ (TJ0 b).2.1 := by decide +kernel
theorem tyJ0_ok : ∀ k, k < 0 → parseFieldDescriptor (TJ0 k).2.2.1 = some (tyJ0 k) := by decide +kernel
abbrev cJ0_length_8abf5 : ByteArray := prog_16_method_54_code
def yJ0_length_8abf5 : MethodName := ⟨RJ0, "length", "()I"⟩
abbrev cJ0_charAt_5068e : ByteArray := prog_16_method_56_code
def yJ0_charAt_5068e : MethodName := ⟨RJ0, "charAt", "(I)C"⟩
abbrev cJ0_indexOf_0f7a4 : ByteArray := prog_16_method_79_code
def yJ0_indexOf_0f7a4 : MethodName := ⟨RJ0, "indexOf", "(I)I"⟩
abbrev cJ0_indexOf_7cf53 : ByteArray := prog_16_method_80_code
def yJ0_indexOf_7cf53 : MethodName := ⟨RJ0, "indexOf", "(II)I"⟩
abbrev cJ0_coder_7d493 : ByteArray := prog_16_method_152_code
def yJ0_coder_7d493 : MethodName := ⟨RJ0, "coder", "()B"⟩
abbrev cJ0_isLatin1_aae02 : ByteArray := prog_16_method_154_code
def yJ0_isLatin1_aae02 : MethodName := ⟨RJ0, "isLatin1", "()Z"⟩
abbrev cJ0_checkIndex_df160 : ByteArray := prog_16_method_155_code
def yJ0_checkIndex_df160 : MethodName := ⟨RJ0, "checkIndex", "(II)V"⟩
abbrev cJ0_checkBoundsBeginEnd_23922 : ByteArray := prog_16_method_158_code
def yJ0_checkBoundsBeginEnd_23922 : MethodName := ⟨RJ0, "checkBoundsBeginEnd", "(III)V"⟩
def RJ1 : String := "java/lang/StringLatin1"
def TJ1 : u_T := fun k => match k with
  | _ => ("", "", "", false)
def tyJ1 : Nat → FieldType := fun k => match k with
  | _ => .int
abbrev wsJ10 : List Cond := u_ws RJ1 TJ1 0
theorem nmJ1 : ∀ a, a < 0 → ∀ b, b < 0 → a ≠ b → (TJ1 a).2.1 ≠ (TJ1 b).2.1 := by decide +kernel
theorem tyJ1_ok : ∀ k, k < 0 → parseFieldDescriptor (TJ1 k).2.2.1 = some (tyJ1 k) := by decide +kernel
abbrev cJ1_charAt_3b067 : ByteArray := prog_17_method_2_code
def yJ1_charAt_3b067 : MethodName := ⟨RJ1, "charAt", "([BI)C"⟩
abbrev cJ1_canEncode_9a6ad : ByteArray := prog_17_method_4_code
def yJ1_canEncode_9a6ad : MethodName := ⟨RJ1, "canEncode", "(I)Z"⟩
abbrev cJ1_indexOf_4cfef : ByteArray := prog_17_method_22_code
def yJ1_indexOf_4cfef : MethodName := ⟨RJ1, "indexOf", "([BIII)I"⟩
abbrev cJ1_indexOfChar_4cfef : ByteArray := prog_17_method_23_code
def yJ1_indexOfChar_4cfef : MethodName := ⟨RJ1, "indexOfChar", "([BIII)I"⟩
def RJ2 : String := "java/lang/StringUTF16"
def TJ2 : u_T := fun k => match k with
  | _ => ("", "", "", false)
def tyJ2 : Nat → FieldType := fun k => match k with
  | _ => .int
abbrev wsJ20 : List Cond := u_ws RJ2 TJ2 0
theorem nmJ2 : ∀ a, a < 0 → ∀ b, b < 0 → a ≠ b → (TJ2 a).2.1 ≠ (TJ2 b).2.1 := by decide +kernel
theorem tyJ2_ok : ∀ k, k < 0 → parseFieldDescriptor (TJ2 k).2.2.1 = some (tyJ2 k) := by decide +kernel
abbrev cJ2_getChar_3b067 : ByteArray := prog_18_method_5_code
def yJ2_getChar_3b067 : MethodName := ⟨RJ2, "getChar", "([BI)C"⟩
abbrev cJ2_length_9d52b : ByteArray := prog_18_method_6_code
def yJ2_length_9d52b : MethodName := ⟨RJ2, "length", "([B)I"⟩
abbrev cJ2_indexOf_4cfef : ByteArray := prog_18_method_40_code
def yJ2_indexOf_4cfef : MethodName := ⟨RJ2, "indexOf", "([BIII)I"⟩
abbrev cJ2_indexOfChar_4cfef : ByteArray := prog_18_method_47_code
def yJ2_indexOfChar_4cfef : MethodName := ⟨RJ2, "indexOfChar", "([BIII)I"⟩
abbrev cJ2_indexOfCharUnsafe_4cfef : ByteArray := prog_18_method_48_code
def yJ2_indexOfCharUnsafe_4cfef : MethodName := ⟨RJ2, "indexOfCharUnsafe", "([BIII)I"⟩
abbrev cJ2_indexOfSupplementary_4cfef : ByteArray := prog_18_method_49_code
def yJ2_indexOfSupplementary_4cfef : MethodName := ⟨RJ2, "indexOfSupplementary", "([BIII)I"⟩
abbrev cJ2_charAt_3b067 : ByteArray := prog_18_method_83_code
def yJ2_charAt_3b067 : MethodName := ⟨RJ2, "charAt", "([BI)C"⟩
abbrev cJ2_checkIndex_2214a : ByteArray := prog_18_method_91_code
def yJ2_checkIndex_2214a : MethodName := ⟨RJ2, "checkIndex", "(I[B)V"⟩
abbrev cJ2_checkBoundsBeginEnd_d044e : ByteArray := prog_18_method_93_code
def yJ2_checkBoundsBeginEnd_d044e : MethodName := ⟨RJ2, "checkBoundsBeginEnd", "(II[B)V"⟩
def RJ10 : String := "java/lang/System"
def TJ10 : u_T := fun k => match k with
  | _ => ("", "", "", false)
def tyJ10 : Nat → FieldType := fun k => match k with
  | _ => .int
abbrev wsJ100 : List Cond := u_ws RJ10 TJ10 0
theorem nmJ10 : ∀ a, a < 0 → ∀ b, b < 0 → a ≠ b → (TJ10 a).2.1 ≠ (TJ10 b).2.1 := by decide +kernel
theorem tyJ10_ok : ∀ k, k < 0 → parseFieldDescriptor (TJ10 k).2.2.1 = some (tyJ10 k) := by decide +kernel
def RJ3 : String := "jdk/internal/util/Preconditions"
def TJ3 : u_T := fun k => match k with
  | _ => ("", "", "", false)
def tyJ3 : Nat → FieldType := fun k => match k with
  | _ => .int
abbrev wsJ30 : List Cond := u_ws RJ3 TJ3 0
theorem nmJ3 : ∀ a, a < 0 → ∀ b, b < 0 → a ≠ b → (TJ3 a).2.1 ≠ (TJ3 b).2.1 := by decide +kernel
theorem tyJ3_ok : ∀ k, k < 0 → parseFieldDescriptor (TJ3 k).2.2.1 = some (tyJ3 k) := by decide +kernel
abbrev cJ3_checkIndex_8e157 : ByteArray := prog_20_method_11_code
def yJ3_checkIndex_8e157 : MethodName := ⟨RJ3, "checkIndex", "(IILjava/util/function/BiFunction;)I"⟩
abbrev cJ3_checkFromToIndex_8c36e : ByteArray := prog_20_method_12_code
def yJ3_checkFromToIndex_8c36e : MethodName := ⟨RJ3, "checkFromToIndex", "(IIILjava/util/function/BiFunction;)I"⟩
def RL : String := "WrongEndLaw"
abbrev cL_cell : ByteArray := method_2_code
def yL_cell : MethodName := ⟨RL, "cell", "([II)I"⟩
abbrev cL_law : ByteArray := code
def yL_law : MethodName := ⟨RL, "law", "([I)Z"⟩
abbrev vwCl : List vw_C := [(RX0, TX0, 17), (RX1, TX1, 3), (RX3, TX3, 4), (RX4, TX4, 4), (RX5, TX5, 8), (RX6, TX6, 6), (RX8, TX8, 2), (RX9, TX9, 6), (RX10, TX10, 7), (RX11, TX11, 31)]
