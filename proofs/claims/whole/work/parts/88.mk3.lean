/-! the making machine is the machine: calls, rows of rows -/
theorem xD_va {A : Nat → Prop} {cA : Nat → ClassId} {ad : Nat → Nat} {L : xLa} {s : xS} (h : va_D A (xwo cA ad L s)) : xD A ad L.length := by
  have g : ∀ k, k < L.length → ∃ e, (xwo cA ad L s)[k]? = some (ad k, e) := fun k hk => ⟨_, by rw [xwo_get, List.getElem?_eq_getElem hk]; rfl⟩
  refine ⟨fun i j hi hj e => ?_, fun k hk => ?_⟩
  · obtain ⟨e1, h1⟩ := g i hi
    obtain ⟨e2, h2⟩ := g j hj
    exact h.1 i j _ _ h1 h2 e
  · obtain ⟨e1, h1⟩ := g k hk
    exact h.2 k _ h1
theorem xwo_ap2 {cA : Nat → ClassId} {ad : Nat → Nat} {s : xS} {L1 L2 : xLa} : xwo cA ad (L1 ++ L2) s = xwo cA ad L1 s ++ L2.mapIdx (fun i c => (ad (i + L1.length), xce cA ad s (i + L1.length) c)) := by
  unfold xwo
  rw [List.mapIdx_append]
section YMK
variable {p : Program} {l : Launch} {e : Env} {R : Room} {s0 : State} {m : MethodId} {args : Array Value} {below : List Frame} {meth : Method} {c : Code} {H : Heap} {locs : List Loc} {kc ks : Nat} {Qf : State → Prop} {E : xE} {ad : Nat → Nat} {A : Nat → Prop} {mn own pc a b d : Nat} {L : xLa} {s : xS} {LS : Array Slot} {ls : xLs} {rest : List Value} {mL : Nat} {cc : ByteArray}
theorem y_call {idx k : Nat} {As' r : List Value} {Z : yQ} (hx : p.tables.exec = Jvm.exec) (hb : c.code = cc) (hml : c.maxLocals = mL) (hown : s0.vm.findClass (xnm own) = some m.cls) (hts : ∀ w ∈ xWs, w.before args s0 = true) (hKs : xKs E ad A s0 s0.heap) (hfr : d + 1 ≤ R.frames) (hlo : 64 * (d + 1) ≤ R.locals) (hA : ∀ q, s0.heap.size ≤ q → A q) (hI : xI E ad A L s s0 H locs mL LS ls) (ho5 : b < 233) (hmk : xmk b = 2) (hname : (xsg b).1.name = "<init>") (hret : (xsg b).2.2.2 = none)
    (hln : Cond.methodLink (xnm own) idx (xsg b).1 ∈ xWs ∨ va_Nw (.methodLinkNest (xnm own) idx (xsg b).1 "WrongEnd") s0) (hlen : As'.length = xna b) (hf : xfit r 8 = true) (hr : ygs L.length r = true) (hg : ygl L.length ls = true) (hce : kc + (ymc b).1 ≤ R.cells) (hsl : ks + (ymc b).2 ≤ R.slots) (hdec : decode cc pc = .ok (.invokespecial idx, 3)) (h : yP d L b (.ref k :: As') s Z)
    (kk : ∀ (L' : xLa) (s' : xS) (ad' : Nat → Nat) (H1 : Heap) (locs1 : List Loc), Z L' s' → yag L.length ad ad' → L.length ≤ L'.length → xI E ad' A L' s' s0 H1 locs1 mL LS ls → W p l e R s0 m args below meth c H1 locs1 (kc + (ymc b).1) (ks + (ymc b).2) Qf (F0 m (pc + 3) LS (r.map (xcv ad')))) : W p l e R s0 m args below meth c H locs kc ks Qf (F0 m pc LS ((As'.map (xcv ad)).reverse ++ .ref (ad k) :: r.map (xcv ad))) := by
  obtain ⟨hP, hD, hS, hL, hSc, hLk⟩ := hI
  obtain ⟨f1, f2, f3, f4, f5, f6⟩ := xmf_e ho5
  have hF : ∀ q, xFr ad L.length H.size q → A q := fun q hq => by
    rcases hq with ⟨k, hk, rfl⟩ | hq
    · exact hD.2 k hk
    · exact hA q (Nat.le_trans hS.1 hq)
  have hmw : xmw b = .code (xsg b).1 (xsg b).2.1 (xsg b).2.2.1 (xsg b).2.2.2 :: .initialized (xsg b).1.cls :: [.instanceMethod (xsg b).1] := by unfold xmw; rw [hmk]; rfl
  have hin := xmw_in ho5
  rw [hmw] at hin
  have hws : xws b = .code (xsg b).1 (xsg b).2.1 (xsg b).2.2.1 none :: xWs := by unfold xws; rw [hret]
  have hrun : va_Run p l e R s0 m args below meth c H locs kc ks (ymc b).1 (ymc b).2 (F0 m pc LS ((As'.map (xcv ad)).reverse ++ .ref (ad k) :: r.map (xcv ad))) (r.map (xcv ad)) (yQc E ad L H.size Z (Value.ref (ad k) :: As'.map (xcv ad)).toArray) (xFr ad L.length H.size) := by
    rcases hln with hl | hl
    · exact va_runI (As := As'.map (xcv ad)) (rest := r.map (xcv ad)) ⟨hx, hb, hml, hown, hts⟩ (h l E ad H.size) (cwI (xna b) hts (xws_good ho5) hws rfl rfl (hts _ (hin _ (by simp))) (hts _ hl) (hts _ (hin _ (by simp))) hname ⟨f2, f3, f4⟩ ⟨by show d + 1 ≤ _; exact hfr, by show 8 + (_ + 11) + 64 * d ≤ _; omega⟩) ⟨xPc_blind _ _ _ _ _ _, fun U hU hW => ⟨rfl, by rw [hU], by rw [hU]; exact hKs.to hW hS.2.1 hS.1 hF, by rw [hU]; exact hP, hD.weaken (fun k hk => Or.inl ⟨k, hk, rfl⟩), hSc⟩⟩ rfl (by rw [List.length_map, hlen]) hL.size rfl (lv_room (xfit_e ad hf)) hdec ⟨hce, hsl⟩
    · exact va_runIN (As := As'.map (xcv ad)) (rest := r.map (xcv ad)) ⟨hx, hb, hml, hown, hts⟩ (h l E ad H.size) ⟨va_cnB (xna b) hts (xws_good ho5) hws rfl rfl hl (hts _ (hin _ (by simp))) ⟨f2, f3, f4⟩ ⟨by show d + 1 ≤ _; exact hfr, by show 8 + (_ + 11) + 64 * d ≤ _; omega⟩, hname, hts _ (hin _ (by simp))⟩ ⟨xPc_blind _ _ _ _ _ _, fun U hU hW => ⟨rfl, by rw [hU], by rw [hU]; exact hKs.to hW hS.2.1 hS.1 hF, by rw [hU]; exact hP, hD.weaken (fun k hk => Or.inl ⟨k, hk, rfl⟩), hSc⟩⟩ rfl (by rw [List.length_map, hlen]) hL.size rfl (lv_room (xfit_e ad hf)) hdec ⟨hce, hsl⟩
  refine ygo_run hrun hS hF (fun L' s' ad' H1 locs1 z1 z2 z3 z4 z5 z6 z7 z8 => ?_)
  rw [← ygs_e z2 hr]
  exact kk L' s' ad' H1 locs1 z1 z2 z3 ⟨z4, z5, z8, hL.ag hg z2, z6, z7⟩
def yam (ad : Nat → Nat) (n0 N q : Nat) (r : Nat → Nat) : Nat → Nat := fun x => if x = n0 then q else if n0 < x ∧ x ≤ n0 + N then r (x - n0 - 1) else ad x
theorem yam_o {ad : Nat → Nat} {n0 N q x : Nat} {r : Nat → Nat} (h : x < n0 ∨ n0 + N < x) : yam ad n0 N q r x = ad x := by
  unfold yam
  rw [if_neg (by omega), if_neg (by omega)]
theorem yam_q {ad : Nat → Nat} {n0 N q : Nat} {r : Nat → Nat} : yam ad n0 N q r n0 = q := if_pos rfl
theorem yam_r {ad : Nat → Nat} {n0 N q i : Nat} {r : Nat → Nat} (h : i < N) : yam ad n0 N q r (n0 + 1 + i) = r i := by
  unfold yam
  rw [if_neg (by omega), if_pos (by omega), show n0 + 1 + i - n0 - 1 = i by omega]
theorem xZn_o1 {s : xS} {k n q : Nat} (h : q < k ∨ k + n < q) : (xZn s k n).1 q = s.1 q := if_neg (by omega)
theorem xZn_o2 {s : xS} {k n q : Nat} (h : q < k ∨ k + n < q) : (xZn s k n).2 q = s.2 q := if_neg (by omega)
theorem xZn_z {s : xS} {k n q : Nat} (h : k ≤ q ∧ q ≤ k + n) : (xZn s k n).1 q = fun _ => nI 0 := if_pos h
theorem y_mna {n k : Nat} (hx : p.tables.exec = Jvm.exec) (hb : c.code = cc) (hown : s0.vm.findClass (xnm 5) = some m.cls) (hts : ∀ w ∈ xWs, w.before args s0 = true) (hKs : xKs E ad A s0 s0.heap) (hA : ∀ q, s0.heap.size ≤ q → A q) (hI : xI E ad A L s s0 H locs mL LS ls) (hg : ygl L.length ls = true) (hG : ygL L.length L = true) (h880 : L.length < 880) (hn : n ≤ 16) (hk : k ≤ 10000) (hce : kc + (1 + n) ≤ R.cells) (hsl : ks + (n + n * k) ≤ R.slots) (hdec : decode cc pc = .ok (.multianewarray 36 2, 4))
    (kk : ∀ (ad' : Nat → Nat) (H1 : Heap), yag L.length ad ad' → xI E ad' A ((L ++ [(104, n, (List.range n).map (fun i => some (L.length + 1 + i)))]) ++ List.replicate n (100, k, [])) (xZn s L.length n) s0 H1 locs mL LS ls → W p l e R s0 m args below meth c H1 locs (kc + 1 + n) (ks + n + n * k) Qf (F0 m (pc + 4) LS (.ref (ad' L.length) :: rest))) : W p l e R s0 m args below meth c H locs kc ks Qf (F0 m pc LS (.int (nI k) :: .int (nI n) :: rest)) := by
  obtain ⟨hP, hD, hS, hL, hSc, hLk⟩ := hI
  have e2 : ("[" ++ (FieldType.array .int).toString) = "[[I" := by decide +kernel
  have hcy : s0.vm.findClass (FieldType.array .int).toString = some (E.2.2.1 100) := (hKs.1.2 0 _ rfl).2
  refine va_mna (D := (E.1, E.2.1)) (X := xwo E.2.2.1 ad L s) (L := []) (f := fun _ => .inr (0, [])) (ty := .int) (cy := E.2.2.1 100) (z := (k, .inl (fun _ => nI 0))) hx hb hown (by rw [e2]; exact hts _ (yar_w _ (by simp))) hKs.2.2.2.2.2.2.2.2.2.2.2.2.2 (hts _ (yar_w _ (by simp))) hcy hKs.1 (by show va_P _ _ (_ ++ []) _; rw [List.append_nil]; exact hP) (by show va_D _ (_ ++ []); rw [List.append_nil]; exact hD.va _ _) hS hA (yn0 (by omega)) (yn0 hk) (nI_clamp (by omega)) (nI_clamp (by omega)) (by omega) (by show k * 4 ≤ _; omega) (by omega) rfl rfl hce hsl (fun cA => by rw [nI_0]; exact (arrV_new cA k (.int 0))) hdec (fun q r cA H1 u1 u2 k1 g1 g2 g3 => ?_)
  have e1 : cA = E.2.2.1 104 := Option.some.inj ((show s0.vm.findClass ("[" ++ (FieldType.array .int).toString) = some cA from (k1.2 5 (cA, .array .int) rfl).2).symm.trans (hKs.1.2 4 _ rfl).2)
  subst e1
  have hag : yag L.length ad (yam ad L.length n q r) := fun x hx => yam_o (by omega)
  have E1 : xwo E.2.2.1 (yam ad L.length n q r) ((L ++ [(104, n, (List.range n).map (fun i => some (L.length + 1 + i)))]) ++ List.replicate n (100, k, [])) (xZn s L.length n) = (xwo E.2.2.1 ad L s ++ [(q, .inl (E.2.2.1 104, n, .inr (.inr (.inr (.inr (fun i => if i < n then some (r i) else none))))))]) ++ va_pl ([] ++ (List.range n).map r) (vr_up (fun _ => .inr (0, [])) ((List.range n).map r) (.inl (E.2.2.1 100, (k, .inl (fun _ => nI 0))))) := by
    rw [xwo_ap2, xwo_app, xwo_cg (ad := ad) (s := s) (n := L.length) (Nat.le_refl _) (fun x hx => yam_o (Or.inl hx)) hG (fun x hx => xZn_o1 (Or.inl hx)) (fun x hx => xZn_o2 (Or.inl hx)), yam_q, xce_q rfl, List.nil_append]
    congr 1
    · congr 10
      funext i
      show Option.map _ (((List.range n).map (fun i => some (L.length + 1 + i))).getD i none) = _
      rw [List.getD_eq_getElem?_getD, List.getElem?_map]
      by_cases hi : i < n
      · rw [List.getElem?_range hi, if_pos hi]
        show some (yam ad L.length n q r (L.length + 1 + i)) = _
        rw [yam_r hi]
      · rw [List.getElem?_eq_none (by rw [List.length_range]; omega), if_neg hi]
        rfl
    · unfold va_pl
      apply List.ext_getElem?
      intro i
      rw [List.getElem?_mapIdx, List.getElem?_replicate, List.getElem?_map, List.getElem?_map]
      by_cases hi : i < n
      · rw [if_pos hi, List.getElem?_range hi]
        show some (yam ad L.length n q r (i + (L ++ _).length), _) = some (r i, _)
        rw [List.length_append, show i + (L.length + List.length [((104 : Nat), n, (List.range n).map (fun i => some (L.length + 1 + i)))]) = L.length + 1 + i by show i + (L.length + 1) = _; omega, yam_r hi, xce_i rfl, xZn_z (by omega), vr_up_in (List.mem_map.mpr ⟨i, List.mem_range.mpr hi, rfl⟩)]
      · rw [if_neg hi, List.getElem?_eq_none (by rw [List.length_range]; omega)]
        rfl
  rw [← E1] at g1 g2
  have hk2 := kk (yam ad L.length n q r) H1 hag ⟨g1, xD_va g2, g3, hL.ag hg hag, hSc.cg (fun x hx => xZn_o1 (by omega)), ?_⟩
  · rw [yam_q] at hk2
    exact hk2
  · refine ⟨by rw [List.length_append, List.length_append, List.length_replicate]; show L.length + 1 + n ≤ 900; omega, fun j c' hj => ?_⟩
    rw [xnth_get] at hj
    rcases List.mem_append.mp (List.mem_of_getElem? hj) with hm | hm
    · rcases List.mem_append.mp hm with hm | hm
      · obtain ⟨i, hi⟩ := List.getElem?_of_mem hm
        exact hLk.2 i c' (by rw [xnth_get]; exact hi)
      · rcases List.mem_singleton.mp hm with rfl
        exact ⟨by show (104 : Nat) < 105; decide, by show n < 2 ^ 31; omega⟩
    · rw [List.eq_of_mem_replicate hm]
      exact ⟨by show (100 : Nat) < 105; decide, by show k < 2 ^ 31; omega⟩
end YMK
