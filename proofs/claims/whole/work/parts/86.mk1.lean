/-! the making machine is the machine: what is new -/
theorem yn0 {n : Nat} (h : n ≤ 10000) : ¬ nI n < 0 := fun q => (vp_in_nI (Nat.lt_succ_self n) (by omega) : vp_in (nI n) (n + 1)) (Or.inl q)
def ydv (a j : Nat) : Value := match xfk a j with
  | 0 => .int (nI 0)
  | 1 => .long 0
  | 3 => .int (nI 0)
  | _ => .null
theorem yrep {α : Type} (n j : Nat) (x : α) : (List.replicate n x).getD j x = x := by
  rw [List.getD_eq_getElem?_getD, List.getElem?_replicate]
  split <;> rfl
theorem yfv {ad : Nat → Nat} {s : xS} {n a N j : Nat} : xfv ad (xZr s n) n (a, 0, List.replicate N none) j = ydv a j := by
  unfold xfv ydv xZr
  simp only [va_up_self, yrep]
  rfl
section YMK
variable {p : Program} {l : Launch} {e : Env} {R : Room} {s0 : State} {m : MethodId} {args : Array Value} {below : List Frame} {meth : Method} {c : Code} {H : Heap} {locs : List Loc} {kc ks : Nat} {Qf : State → Prop} {E : xE} {ad : Nat → Nat} {A : Nat → Prop} {mn own pc a b : Nat} {L : xLa} {s : xS} {LS : Array Slot} {ls : xLs} {rest : List Value} {mL : Nat} {cc : ByteArray}
theorem yI_ap {H1 : Heap} {q : Nat} {cell : xLc} {s' : xS} {el : va_E} (hI : xI E ad A L s s0 H locs mL LS ls) (hg : ygl L.length ls = true) (hG : ygL L.length L = true) (h880 : L.length < 880) (h1 : ∀ j, j ≠ L.length → s'.1 j = s.1 j) (h2 : ∀ j, j ≠ L.length → s'.2 j = s.2 j) (hk : cell.1 < 105) (hn : cell.2.1 < 2 ^ 31) (he : el = xce E.2.2.1 (va_up ad L.length q) s' L.length cell) (g1 : va_P (E.1, E.2.1) vwCl (xwo E.2.2.1 ad L s ++ [(q, el)]) H1) (g2 : va_D A (xwo E.2.2.1 ad L s ++ [(q, el)])) (g3 : va_S A s0.heap H1 locs) : xI E (va_up ad L.length q) A (L ++ [cell]) s' s0 H1 locs mL LS ls := by
  obtain ⟨hP, hD, hS, hL, hSc, hLk⟩ := hI
  have e1 : ∀ k, k < L.length → va_up ad L.length q k = ad k := fun k hk => va_up_ne _ _ (by omega)
  refine ⟨?_, ?_, g3, hL.ag hg (yag_up (by omega)), hSc.cg (fun k hk => h1 k (by omega)), hLk.ap (by omega) hk hn⟩
  · rw [xwo_app, xwo_cg (ad := ad) (s := s) (n := L.length) (Nat.le_refl _) e1 hG (fun k hk => h1 k (by omega)) (fun k hk => h2 k (by omega)), va_up_self, ← he]
    exact g1
  · rw [List.length_append]
    exact xD_ap hD e1 (va_up_self _ _ _) (xD_of g2).1 (xD_of g2).2
theorem xZr_1 {s : xS} {k j : Nat} (h : j ≠ k) : (xZr s k).1 j = s.1 j := va_up_ne _ _ h
theorem xZr_2 {s : xS} {k j : Nat} (h : j ≠ k) : (xZr s k).2 j = s.2 j := va_up_ne _ _ h
theorem y_new {idx : Nat} (hx : p.tables.exec = Jvm.exec) (hb : c.code = cc) (hown : s0.vm.findClass (xnm own) = some m.cls) (hts : ∀ w ∈ xWs, w.before args s0 = true) (hKs : xKs E ad A s0 s0.heap) (hA : ∀ q, s0.heap.size ≤ q → A q) (hI : xI E ad A L s s0 H locs mL LS ls) (hm : (own, idx, a) ∈ ynwL) (ha : a < 10) (hg : ygl L.length ls = true) (hG : ygL L.length L = true) (h880 : L.length < 880) (hce : kc + 1 ≤ R.cells) (hsl : ks + xN a ≤ R.slots) (hdec : decode cc pc = .ok (.new idx, 3))
    (kk : ∀ (q : Nat) (H1 : Heap), xI E (va_up ad L.length q) A (L ++ [(a, 0, List.replicate (xN a) none)]) (xZr s L.length) s0 H1 locs mL LS ls → W p l e R s0 m args below meth c H1 locs (kc + 1) (ks + xN a) Qf (F0 m (pc + 3) LS (.ref q :: rest))) : W p l e R s0 m args below meth c H locs kc ks Qf (F0 m pc LS rest) := by
  have hI' := hI
  obtain ⟨hP, hD, hS, hL, hSc, hLk⟩ := hI
  have hw := ynw_of hm
  refine va_new (D := (E.1, E.2.1)) (fs := (List.range (xN a)).map (ydv a)) hx hb hts (xlay_of ha) (xtyf a) (xty_ok a ha) hown (hts _ (hw (.classLink (xnm own) idx (xC a)) (by simp [ynww]))) (hts _ (hw (.instantiable (xC a) (xN a)) (by simp [ynww]))) (hts _ (hw (.initialized (xC a)) (by simp [ynww]))) hKs.1 hP (hD.va _ _) hS hA (xN_cl a ha) (fun j hj => ?_) hce hsl hdec (fun q H1 g1 g2 g3 => ?_)
  · unfold vp_V
    rw [List.getD_eq_getElem?_getD, List.getElem?_map, List.getElem?_range hj, ydef a ha j hj]
    rfl
  · refine kk q H1 (yI_ap hI' hg hG h880 (fun j hj => xZr_1 hj) (fun j hj => xZr_2 hj) (show a < 105 by omega) (show (0 : Nat) < 2 ^ 31 by decide) ?_ g1 g2 g3)
    rw [xce_o (show a < 100 by omega)]
    show Sum.inr (a, _) = Sum.inr (a, _)
    congr 2
    exact List.map_congr_left (fun j _ => yfv.symm)
theorem y_newa {t : ArrayType} {ty : FieldType} {kd t0 n : Nat} {a0 : vp_A} (hx : p.tables.exec = Jvm.exec) (hb : c.code = cc) (hts : ∀ w ∈ xWs, w.before args s0 = true) (hKs : xKs E ad A s0 s0.heap) (hA : ∀ q, s0.heap.size ≤ q → A q) (hI : xI E ad A L s s0 H locs mL LS ls) (hty : newarray.typeOf t = ty) (hw : Cond.arrayClass ty ∈ xWs) (ht : (xty E.2.2.1)[t0]? = some (E.2.2.1 kd, ty)) (hra : ∀ cA, va_RA s0 cA ty → s0.vm.findClass ("[" ++ ty.toString) = some cA) (hkd : kd < 105) (hg : ygl L.length ls = true) (hG : ygL L.length L = true) (h880 : L.length < 880) (hn : n ≤ 10000) (hby : n * componentBytes ty ≤ 536870912) (ha0 : ∀ cA : ClassId, vp_cell cA a0 = arrV cA n (fun _ => defaultValue ty)) (hxc : ∀ ad', Sum.inl (E.2.2.1 kd, a0) = xce E.2.2.1 ad' (xZr s L.length) L.length (kd, n, [])) (hce : kc + 1 ≤ R.cells) (hsl : ks + n ≤ R.slots) (hdec : decode cc pc = .ok (.newarray t, 2))
    (kk : ∀ (q : Nat) (H1 : Heap), xI E (va_up ad L.length q) A (L ++ [(kd, n, [])]) (xZr s L.length) s0 H1 locs mL LS ls → W p l e R s0 m args below meth c H1 locs (kc + 1) (ks + n) Qf (F0 m (pc + 2) LS (.ref q :: rest))) : W p l e R s0 m args below meth c H locs kc ks Qf (F0 m pc LS (.int (nI n) :: rest)) := by
  have hI' := hI
  obtain ⟨hP, hD, hS, hL, hSc, hLk⟩ := hI
  refine va_newa (D := (E.1, E.2.1)) hx hb (by rw [hty]; exact hts _ hw) hty hKs.1 hP (hD.va _ _) hS hA ha0 (yn0 (by omega)) (nI_clamp (by omega)) hby hce hsl hdec (fun q cA H1 k1 g1 g2 g3 => ?_)
  have e1 : cA = E.2.2.1 kd := Option.some.inj ((hra _ (k1.2 5 (cA, ty) rfl).2).symm.trans (hra _ (hKs.1.2 t0 _ ht).2))
  subst e1
  exact kk q H1 (yI_ap hI' hg hG h880 (fun j hj => xZr_1 hj) (fun j hj => xZr_2 hj) hkd (show n < 2 ^ 31 by omega) (hxc _) g1 g2 g3)
theorem y_newq {n : Nat} (hx : p.tables.exec = Jvm.exec) (hb : c.code = cc) (hown : s0.vm.findClass (xnm 8) = some m.cls) (hts : ∀ w ∈ xWs, w.before args s0 = true) (hKs : xKs E ad A s0 s0.heap) (hA : ∀ q, s0.heap.size ≤ q → A q) (hI : xI E ad A L s s0 H locs mL LS ls) (hg : ygl L.length ls = true) (hG : ygL L.length L = true) (h880 : L.length < 880) (hn : n ≤ 10000) (hce : kc + 1 ≤ R.cells) (hsl : ks + n ≤ R.slots) (hdec : decode cc pc = .ok (.anewarray 46, 3))
    (kk : ∀ (q : Nat) (H1 : Heap), xI E (va_up ad L.length q) A (L ++ [(103, n, List.replicate n none)]) (xZr s L.length) s0 H1 locs mL LS ls → W p l e R s0 m args below meth c H1 locs (kc + 1) (ks + n) Qf (F0 m (pc + 3) LS (.ref q :: rest))) : W p l e R s0 m args below meth c H locs kc ks Qf (F0 m pc LS (.int (nI n) :: rest)) := by
  have hI' := hI
  obtain ⟨hP, hD, hS, hL, hSc, hLk⟩ := hI
  have hAO : va_AO "WrongEnd$Program" s0 := hKs.2.2.2.2.2.2.2.2.2.2.2.2.1
  refine va_newq (D := (E.1, E.2.1)) (C := "WrongEnd$Program") hx hb hown (hts _ (yar_w _ (by simp))) hAO hKs.1 hP (hD.va _ _) hS hA (yn0 (by omega)) (nI_clamp (by omega)) (by omega) hce hsl hdec (fun q cA H1 k1 g1 g2 g3 => ?_)
  have e1 : cA = E.2.2.1 103 := by
    obtain ⟨_, _, _, _, _, u1⟩ := (k1.2 5 (cA, .object "WrongEnd$Program") rfl).2
    obtain ⟨_, _, _, _, _, u2⟩ := (hKs.1.2 3 _ rfl).2
    exact Option.some.inj (u1.symm.trans u2)
  subst e1
  refine kk q H1 (yI_ap hI' hg hG h880 (fun j hj => xZr_1 hj) (fun j hj => xZr_2 hj) (show (103 : Nat) < 105 by decide) (show n < 2 ^ 31 by omega) ?_ g1 g2 g3)
  rw [xce_p rfl]
  congr 7
  funext i
  show none = Option.map _ ((List.replicate n none).getD i none)
  rw [yrep]
  rfl
end YMK
