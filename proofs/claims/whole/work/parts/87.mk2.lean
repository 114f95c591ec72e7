/-! the making machine is the machine: fields, calls -/
theorem ynar (ty : FieldType) (x : Nat) : narrow ty (.ref x) = .ref x := by cases ty <;> rfl
theorem yfit0 : ∀ a, a < 10 → ∀ b, b < xN a → xfk a b = 2 → fits (xtyf a b) (.ref 0) = true := by decide +kernel
theorem yfits (ty : FieldType) (x : Nat) (h : fits ty (.ref 0) = true) : fits ty (.ref x) = true := by
  cases ty with
  | object n => rfl
  | array t => rfl
  | _ => exact absurd h (by decide)
theorem ygset {ps : List (Option Nat)} {b j : Nat} {x : Option Nat} (hb : b < ps.length) : (ps.set b x).getD j none = if j = b then x else ps.getD j none := by
  rw [List.getD_eq_getElem?_getD, List.getD_eq_getElem?_getD, List.getElem?_set]
  by_cases e : b = j
  · rw [if_pos e, if_pos (by omega), if_pos e.symm]
    rfl
  · rw [if_neg e, if_neg (fun z => e z.symm)]
theorem xwo_setL {cA : Nat → ClassId} {ad : Nat → Nat} {L : xLa} {s : xS} {k : Nat} {c' : xLc} (hk : k < L.length) : (xwo cA ad L s).set k (ad k, xce cA ad s k c') = xwo cA ad (L.set k c') s := by
  apply List.ext_getElem?
  intro j
  rw [xwo_get, List.getElem?_set, List.getElem?_set, xwo_len]
  by_cases e : k = j
  · subst e
    rw [if_pos rfl, if_pos hk, if_pos rfl, if_pos hk]
    rfl
  · rw [if_neg e, if_neg e, xwo_get]
theorem xLok.st {L : xLa} {k : Nat} {c : xLc} (h : xLok L) (h1 : c.1 < 105) (h2 : c.2.1 < 2 ^ 31) : xLok (L.set k c) := by
  refine ⟨by rw [List.length_set]; exact h.1, fun j c' hj => ?_⟩
  rw [xnth_get, List.getElem?_set] at hj
  by_cases e : k = j
  · rw [if_pos e] at hj
    split at hj
    · cases hj; exact ⟨h1, h2⟩
    · cases hj
  · rw [if_neg e] at hj
    exact h.2 j c' (by rw [xnth_get]; exact hj)
theorem xnth_lt {L : xLa} {k : Nat} {c : xLc} (h : xnth L k = some c) : k < L.length := by
  rw [xnth_get] at h
  exact (List.getElem?_eq_some_iff.mp h).1
section YMK
variable {p : Program} {l : Launch} {e : Env} {R : Room} {s0 : State} {m : MethodId} {args : Array Value} {below : List Frame} {meth : Method} {c : Code} {H : Heap} {locs : List Loc} {kc ks : Nat} {Qf : State → Prop} {E : xE} {ad : Nat → Nat} {A : Nat → Prop} {mn own pc a b : Nat} {L : xLa} {s : xS} {LS : Array Slot} {ls : xLs} {rest : List Value} {mL : Nat} {cc : ByteArray}
theorem y_putF {idx k : Nat} {cell : xLc} {v : Value} {L' : xLa} {s' : xS} {ty : FieldType} (hx : p.tables.exec = Jvm.exec) (hb : c.code = cc) (hown : s0.vm.findClass (xnm own) = some m.cls) (hts : ∀ w ∈ xWs, w.before args s0 = true) (hKs : xKs E ad A s0 s0.heap) (hI : xI E ad A L s s0 H locs mL LS ls) (hm : (own, idx, a, b) ∈ xfl) (hfin : (xTb a b).2.2.2 = true) (hoa : own = a) (hname : meth.name = "<init>") (hw : xnth L k = some cell) (hca : cell.1 = a) (hty : xtyf a b = ty) (hna : narrow ty v = v) (hfi : fits ty v = true)
    (hset : (xwo E.2.2.1 ad L s).set k (ad k, .inr (a, ((List.range (xN a)).map (fun j => xfv ad s k cell j)).set b v)) = xwo E.2.2.1 ad L' s') (hdec : decode cc pc = .ok (.putfield idx, 3))
    (kk : ∀ (H1 : Heap) (locs1 : List Loc), va_P (E.1, E.2.1) vwCl (xwo E.2.2.1 ad L' s') H1 → va_S A s0.heap H1 locs1 → W p l e R s0 m args below meth c H1 locs1 kc ks Qf (F0 m (pc + 3) LS rest)) : W p l e R s0 m args below meth c H locs kc ks Qf (F0 m pc LS (v :: .ref (ad k) :: rest)) := by
  obtain ⟨hP, hD, hS, hL, hSc, hLk⟩ := hI
  have ha := xfl_a _ hm
  have hbn := xfl_N _ hm
  have hT := xfl_T _ hm
  dsimp only at ha hbn hT
  have he := xwo_at (cA := E.2.2.1) (ad := ad) (s := s) hw
  rw [xce_o (by omega), hca] at he
  have hlink := hts _ (xfw_in _ (List.mem_map.mpr ⟨_, hm, rfl⟩))
  have hlen : b < ((List.range (xN a)).map (fun j => xfv ad s k cell j)).length := by simpa using hbn
  refine va_putF (D := (E.1, E.2.1)) hx hb hts (xlay_of ha) (xtyf a) (xty_ok _ ha) (xnm_ok _ ha) hown hKs.1 hP (hD.va _ _) hS k he (xN_cl _ ha) b hbn hlink (fun z hz => by rw [hT] at hz; exact hz) hfin hname (by rw [hT, hoa]; exact (xnm_C _ ha).symm) (ty := ty) (by rw [← hty]; exact xty_ok _ ha _ hbn) hna hfi hlen hdec (fun H1 locs1 g1 g2 g3 => ?_)
  rw [hset] at g1
  exact kk H1 locs1 g1 g3
theorem y_rng {N b : Nat} {f g : Nat → Value} {v : Value} (hb : b < N) (h : ∀ j, j < N → g j = if j = b then v else f j) : ((List.range N).map f).set b v = (List.range N).map g := by
  apply List.ext_getElem?
  intro j
  rw [List.getElem?_set, List.getElem?_map, List.getElem?_map]
  by_cases hj : j < N
  · rw [List.getElem?_range hj]
    show _ = some (g j)
    rw [h j hj]
    by_cases e : b = j
    · rw [if_pos e, if_pos (by simpa using hb), if_pos e.symm]
    · rw [if_neg e, if_neg (fun z => e z.symm)]
      rfl
  · have hr0 : (List.range N)[j]? = none := List.getElem?_eq_none (by rw [List.length_range]; omega)
    rw [hr0, if_neg (by omega)]
    rfl
theorem y_pfi {idx k : Nat} {x : Int32} {cell : xLc} (hx : p.tables.exec = Jvm.exec) (hb : c.code = cc) (hown : s0.vm.findClass (xnm own) = some m.cls) (hts : ∀ w ∈ xWs, w.before args s0 = true) (hKs : xKs E ad A s0 s0.heap) (hI : xI E ad A L s s0 H locs mL LS ls) (hm : (own, idx, a, b) ∈ xfl) (hfin : (xTb a b).2.2.2 = true) (hoa : own = a) (hname : meth.name = "<init>") (hw : xnth L k = some cell) (hca : cell.1 = a) (hk : xfk a b = 0) (hdec : decode cc pc = .ok (.putfield idx, 3))
    (kk : ∀ (H1 : Heap) (locs1 : List Loc), xI E ad A L (xW s k b x) s0 H1 locs1 mL LS ls → W p l e R s0 m args below meth c H1 locs1 kc ks Qf (F0 m (pc + 3) LS rest)) : W p l e R s0 m args below meth c H locs kc ks Qf (F0 m pc LS (.int x :: .ref (ad k) :: rest)) := by
  have hI' := hI
  obtain ⟨hP, hD, hS, hL, hSc, hLk⟩ := hI
  have ha := xfl_a _ hm
  have hbn := xfl_N _ hm
  dsimp only at ha hbn
  have hkl := xnth_lt hw
  have := hLk.1
  refine y_putF (L' := L) (s' := xW s k b x) hx hb hown hts hKs hI' hm hfin hoa hname hw hca ((xfk_ty a ha b hbn).1 hk) rfl rfl (xwo_set hw ?_ (fun j hj => va_up_ne _ _ hj) (fun j hj => rfl)) hdec (fun H1 locs1 g1 g3 => kk H1 locs1 ⟨g1, hD, g3, hL, hSc.cg (fun j hj => va_up_ne _ _ (by omega)), hLk⟩)
  rw [xce_o (by omega), hca]
  congr 2
  refine y_rng hbn (fun j hj => ?_)
  unfold xfv
  rw [hca]
  by_cases e : j = b
  · subst e
    rw [if_pos rfl, hk]
    show Value.int (va_up s.1 k (upd (s.1 k) j x) k j) = _
    rw [va_up_self, pk_us]
  · rw [if_neg e]
    show (match xfk a j with | 0 => Value.int (va_up s.1 k (upd (s.1 k) b x) k j) | 1 => _ | 3 => Value.int (va_up s.1 k (upd (s.1 k) b x) k j) | _ => _) = _
    rw [va_up_self, pk_un e]
    rfl
theorem y_pfr {idx k q n : Nat} {ps : List (Option Nat)} (hx : p.tables.exec = Jvm.exec) (hb : c.code = cc) (hown : s0.vm.findClass (xnm own) = some m.cls) (hts : ∀ w ∈ xWs, w.before args s0 = true) (hKs : xKs E ad A s0 s0.heap) (hI : xI E ad A L s s0 H locs mL LS ls) (hm : (own, idx, a, b) ∈ xfl) (hfin : (xTb a b).2.2.2 = true) (hoa : own = a) (hname : meth.name = "<init>") (hw : xnth L k = some (a, n, ps)) (hps : ps.length = xN a) (hk : xfk a b = 2) (hdec : decode cc pc = .ok (.putfield idx, 3))
    (kk : ∀ (H1 : Heap) (locs1 : List Loc), xI E ad A (L.set k (a, n, ps.set b (some q))) s s0 H1 locs1 mL LS ls → W p l e R s0 m args below meth c H1 locs1 kc ks Qf (F0 m (pc + 3) LS rest)) : W p l e R s0 m args below meth c H locs kc ks Qf (F0 m pc LS (.ref (ad q) :: .ref (ad k) :: rest)) := by
  have hI' := hI
  obtain ⟨hP, hD, hS, hL, hSc, hLk⟩ := hI
  have ha := xfl_a _ hm
  have hbn := xfl_N _ hm
  dsimp only at ha hbn
  have hkl := xnth_lt hw
  refine y_putF (L' := L.set k (a, n, ps.set b (some q))) (s' := s) hx hb hown hts hKs hI' hm hfin hoa hname hw rfl rfl (ynar _ _) (yfits _ _ (yfit0 a ha b hbn hk)) ?_ hdec (fun H1 locs1 g1 g3 => kk H1 locs1 ⟨g1, by rw [List.length_set]; exact hD, g3, hL, hSc, hLk.st (show a < 105 by omega) (show n < 2 ^ 31 from (hLk.2 k _ hw).2)⟩)
  rw [← xwo_setL hkl, xce_o (show a < 100 by omega)]
  congr 3
  show _ = (a, _)
  congr 1
  refine y_rng hbn (fun j hj => ?_)
  unfold xfv
  show (match xfk a j with | 0 => _ | 1 => _ | 3 => _ | _ => va_rf (((ps.set b (some q)).getD j none).map ad)) = _
  rw [ygset (by omega)]
  by_cases e : j = b
  · subst e
    rw [if_pos rfl, if_pos rfl, hk]
    rfl
  · rw [if_neg e, if_neg e]
    rfl
theorem y_ast {k q n z nq : Nat} {ps pq : List (Option Nat)} (hx : p.tables.exec = Jvm.exec) (hb : c.code = cc) (hKs : xKs E ad A s0 s0.heap) (hI : xI E ad A L s s0 H locs mL LS ls) (hw : xnth L k = some (103, n, ps)) (hq : xnth L q = some (3, nq, pq)) (hps : ps.length = n) (hz : z < n) (hdec : decode cc pc = .ok (.aastore, 1))
    (kk : ∀ (H1 : Heap) (locs1 : List Loc), xI E ad A (L.set k (103, n, ps.set z (some q))) s s0 H1 locs1 mL LS ls → W p l e R s0 m args below meth c H1 locs1 kc ks Qf (F0 m (pc + 1) LS rest)) : W p l e R s0 m args below meth c H locs kc ks Qf (F0 m pc LS (.ref (ad q) :: .int (nI z) :: .ref (ad k) :: rest)) := by
  obtain ⟨hP, hD, hS, hL, hSc, hLk⟩ := hI
  have he := xwo_at (cA := E.2.2.1) (ad := ad) (s := s) hw
  rw [xce_p rfl] at he
  have hv := xwo_at (cA := E.2.2.1) (ad := ad) (s := s) hq
  rw [xce_o (show (3 : Nat) < 100 by decide)] at hv
  obtain ⟨-, hin, hcl⟩ := xlen_w hLk hw (j := z) hz
  refine va_astq (D := (E.1, E.2.1)) hx hb hKs.1 hP (hD.va _ _) hS k 3 q 3 he rfl hv (r := (xC 3, xTb 3, xN 3)) (xN_cl 3 (by decide)) hin hdec (fun H1 locs1 g1 g2 g3 => ?_)
  have hset : (xwo E.2.2.1 ad L s).set k (ad k, .inl (E.2.2.1 103, n, .inr (.inr (.inr (.inr (va_up (fun i => (ps.getD i none).map ad) (nI z).toNatClampNeg (some (ad q)))))))) = xwo E.2.2.1 ad (L.set k (103, n, ps.set z (some q))) s := by
    rw [← xwo_setL (xnth_lt hw), xce_p rfl, hcl]
    congr 9
    funext i
    show va_up _ _ _ i = (((ps.set z (some q)).getD i none).map ad)
    rw [ygset (by omega)]
    by_cases e : i = z
    · subst e
      rw [va_up_self, if_pos rfl]
      rfl
    · rw [va_up_ne _ _ e, if_neg e]
  have g1 : va_P (E.1, E.2.1) vwCl ((xwo E.2.2.1 ad L s).set k (ad k, .inl (E.2.2.1 103, n, .inr (.inr (.inr (.inr (va_up (fun i => (ps.getD i none).map ad) (nI z).toNatClampNeg (some (ad q))))))))) H1 := g1
  rw [hset] at g1
  exact kk H1 locs1 ⟨g1, by rw [List.length_set]; exact hD, g3, hL, hSc, hLk.st (show (103 : Nat) < 105 by decide) (show n < 2 ^ 31 from (hLk.2 k _ hw).2)⟩
theorem y_obj {idx k : Nat} {r : List Value} (hx : p.tables.exec = Jvm.exec) (hb : c.code = cc) (hml : c.maxLocals = mL) (hown : s0.vm.findClass (xnm own) = some m.cls) (hts : ∀ w ∈ xWs, w.before args s0 = true) (hL : xLv LS mL ad ls) (hm : (own, idx) ∈ yobL) (hfr : 1 ≤ R.frames) (hlo : 64 ≤ R.locals) (hf : xfit r 8 = true) (hdec : decode cc pc = .ok (.invokespecial idx, 3))
    (kk : W p l e R s0 m args below meth c H locs kc ks Qf (F0 m (pc + 3) LS (r.map (xcv ad)))) : W p l e R s0 m args below meth c H locs kc ks Qf (F0 m pc LS (.ref (ad k) :: r.map (xcv ad))) := by
  have := lv_room (m := m) (pc := pc) (ls := LS) (rest := .ref (ad k) :: r.map (xcv ad)) (xfit_e ad hf)
  exact W.objInit hx hb hown (hts _ (yob_in _ (List.mem_map.mpr ⟨_, hm, rfl⟩))) (hts _ (yob_w _ (by simp))) (hts _ (yob_w _ (by simp))) rfl (by rw [hml]; exact hL.size) rfl hdec hfr (by omega) kk
end YMK
