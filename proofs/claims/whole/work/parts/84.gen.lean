/-! one instruction, wherever it stands (09.step with another head) -/
set_option maxHeartbeats 8000000 in
set_option maxRecDepth 100000 in
theorem xex_gen {p : Program} {l : Launch} {e : Env} {R : Room} {s0 : State} {m : MethodId} {args : Array Value} {below : List Frame} {meth : Method} {c : Code} {cells slots : Nat} {Qf : State → Prop} {E : xE} {ad : Nat → Nat} {A : Nat → Prop} {d mn own : Nat} {sws : List (Nat × List (Nat × Nat) × Nat)} {code : List xEn} {Q : xQ} {L : xLa} {K : Nat → xLs → List Value → xS → Prop} {pc0 : Nat} {i : Instr} {nx a b c0 : Nat} {ls : xLs} {st : List Value} {s : xS} {H : Heap} {locs : List Loc} {LS : Array Slot}
    (hx : p.tables.exec = Jvm.exec) (hb : c.code = (xsg mn).2.1) (hml : c.maxLocals = (xsg mn).2.2.1) (hown : s0.vm.findClass (xnm own) = some m.cls) (hts : ∀ w ∈ xWs, w.before args s0 = true) (hKs : xKs E ad A s0 s0.heap) (hfr : d + 1 ≤ R.frames) (hlo : 64 * (d + 1) ≤ R.locals) (hce : cells ≤ R.cells) (hsl : slots ≤ R.slots) (hA : ∀ q, s0.heap.size ≤ q → A q)
    (RT : xRet p l e R s0 m args below meth c cells slots Qf E ad A L (mn, own, code, sws) Q) (hI : xI E ad A L s s0 H locs (xsg mn).2.2.1 LS ls)
    (go : ∀ (nx : Nat) (ls : xLs) (st : List Value) (s : xS) (H : Heap) (locs : List Loc) (LS : Array Slot), K nx ls st s → xI E ad A L s s0 H locs (xsg mn).2.2.1 LS ls → W p l e R s0 m args below meth c H locs cells slots Qf (F0 m nx LS (st.map (xcv ad))))
    (hq : xoke own (xsg mn) sws (pc0, i, nx, a, b, c0) = true) (h : xex (xP d L) Q K L (mn, own, code, sws) pc0 i nx a b c0 ls st s) : W p l e R s0 m args below meth c H locs cells slots Qf (F0 m pc0 LS (st.map (xcv ad))) := by
  have hI' := hI
  obtain ⟨hP, hD, hS, hL, hSc, hLk⟩ := hI
  unfold xoke at hq
  rw [Bool.and_eq_true, Bool.and_eq_true, decide_eq_true_eq] at hq
  obtain ⟨⟨hdec, hnx⟩, hox⟩ := hq
  cases i with
  | aload_n k =>
    obtain rfl : nx = pc0 + 1 := Nat.eq_of_beq_eq_true hnx
    obtain ⟨x, h1, h⟩ := xldr_e h
    exact lv_aload_n hx hb hdec rfl (hL.at h1) (go _ _ _ _ _ _ _ h hI')
  | iload_n k =>
    obtain rfl : nx = pc0 + 1 := Nat.eq_of_beq_eq_true hnx
    obtain ⟨x, h1, h⟩ := xldi_e h
    exact lv_iload_n hx hb hdec rfl (hL.at h1) (go _ _ _ _ _ _ _ h hI')
  | lload_n k =>
    obtain rfl : nx = pc0 + 1 := Nat.eq_of_beq_eq_true hnx
    obtain ⟨x, h1, h⟩ := xldl_e h
    exact lv_lload_n hx hb hdec rfl (hL.at h1) (go _ _ _ _ _ _ _ h hI')
  | aload k =>
    obtain rfl : nx = pc0 + 2 := Nat.eq_of_beq_eq_true hnx
    obtain ⟨x, h1, h⟩ := xldr_e h
    exact lv_aload hx hb hdec (hL.at h1) (go _ _ _ _ _ _ _ h hI')
  | iload k =>
    obtain rfl : nx = pc0 + 2 := Nat.eq_of_beq_eq_true hnx
    obtain ⟨x, h1, h⟩ := xldi_e h
    exact lv_iload hx hb hdec (hL.at h1) (go _ _ _ _ _ _ _ h hI')
  | lload k =>
    obtain rfl : nx = pc0 + 2 := Nat.eq_of_beq_eq_true hnx
    obtain ⟨x, h1, h⟩ := xldl_e h
    exact lv_lload hx hb hdec (hL.at h1) (go _ _ _ _ _ _ _ h hI')
  | istore_n k =>
    obtain rfl : nx = pc0 + 1 := Nat.eq_of_beq_eq_true hnx
    obtain ⟨x, r, rfl, h⟩ := xi1_e h
    obtain ⟨ls', lv, h, g1, g2, g3⟩ := hL.st1 h
    exact lv_istore_n hx hb hdec rfl g1 (Nat.le_of_ble_eq_true hox) rfl (fun LS' hl => go _ _ _ _ _ _ _ h ⟨hP, hD, hS, g3 LS' hl, hSc, hLk⟩)
  | astore_n k =>
    obtain rfl : nx = pc0 + 1 := Nat.eq_of_beq_eq_true hnx
    obtain ⟨x, r, rfl, h⟩ := xr1_e h
    obtain ⟨ls', lv, h, g1, g2, g3⟩ := hL.st1 h
    exact lv_astore_n hx hb hdec rfl g1 (Nat.le_of_ble_eq_true hox) rfl (fun LS' hl => go _ _ _ _ _ _ _ h ⟨hP, hD, hS, g3 LS' hl, hSc, hLk⟩)
  | istore k =>
    obtain rfl : nx = pc0 + 2 := Nat.eq_of_beq_eq_true hnx
    obtain ⟨x, r, rfl, h⟩ := xi1_e h
    obtain ⟨ls', lv, h, g1, g2, g3⟩ := hL.st1 h
    exact lv_istore hx hb hdec g1 (Nat.le_of_ble_eq_true hox) rfl (fun LS' hl => go _ _ _ _ _ _ _ h ⟨hP, hD, hS, g3 LS' hl, hSc, hLk⟩)
  | astore k =>
    obtain rfl : nx = pc0 + 2 := Nat.eq_of_beq_eq_true hnx
    obtain ⟨x, r, rfl, h⟩ := xr1_e h
    obtain ⟨ls', lv, h, g1, g2, g3⟩ := hL.st1 h
    exact lv_astore hx hb hdec g1 (Nat.le_of_ble_eq_true hox) rfl (fun LS' hl => go _ _ _ _ _ _ _ h ⟨hP, hD, hS, g3 LS' hl, hSc, hLk⟩)
  | lstore_n k =>
    obtain rfl : nx = pc0 + 1 := Nat.eq_of_beq_eq_true hnx
    obtain ⟨x, r, rfl, h⟩ := xl1_e h
    obtain ⟨ls', lv, h, g1, g3⟩ := hL.st2 h
    exact lv_lstore_n hx hb hdec rfl g1 (Nat.le_of_ble_eq_true hox) rfl (fun LS' hl => go _ _ _ _ _ _ _ h ⟨hP, hD, hS, g3 LS' hl, hSc, hLk⟩)
  | lstore k =>
    obtain rfl : nx = pc0 + 2 := Nat.eq_of_beq_eq_true hnx
    obtain ⟨x, r, rfl, h⟩ := xl1_e h
    obtain ⟨ls', lv, h, g1, g3⟩ := hL.st2 h
    exact lv_lstore hx hb hdec g1 (Nat.le_of_ble_eq_true hox) rfl (fun LS' hl => go _ _ _ _ _ _ _ h ⟨hP, hD, hS, g3 LS' hl, hSc, hLk⟩)
  | iinc k n =>
    obtain rfl : nx = pc0 + 3 := Nat.eq_of_beq_eq_true hnx
    obtain ⟨x, h1, h⟩ := xldi_e h
    have h := xinc_e h
    have hox : (Nat.blt k (xsg mn).2.2.1 && decide (Int32.ofInt n = xcon a b)) = true := hox
    rw [Bool.and_eq_true, decide_eq_true_eq] at hox
    obtain ⟨ls', lv, h, g1, g2, g3⟩ := hL.st1 h
    obtain ⟨kk, hkk⟩ := List.getElem?_of_mem (g2 k (.int x) h1)
    exact lv_iinc (v := x + xcon a b) hx hb hdec g1 hkk (by rw [hox.2]) (Nat.le_of_ble_eq_true hox.1) rfl (fun LS' hl => go _ _ _ _ _ _ _ h ⟨hP, hD, hS, g3 LS' hl, hSc, hLk⟩)
  | iconst n =>
    obtain rfl : nx = pc0 + 1 := Nat.eq_of_beq_eq_true hnx
    have h : xcst a b fun v => K (pc0 + 1) ls (.int v :: st) s := h
    have h := xcst_e h
    exact lv_iconst hx hb hdec (of_decide_eq_true hox) (go _ _ _ _ _ _ _ h hI')
  | bipush n =>
    obtain rfl : nx = pc0 + 2 := Nat.eq_of_beq_eq_true hnx
    have h : xcst a b fun v => K (pc0 + 2) ls (.int v :: st) s := h
    have h := xcst_e h
    exact lv_bipush hx hb hdec (of_decide_eq_true hox) (go _ _ _ _ _ _ _ h hI')
  | sipush n =>
    obtain rfl : nx = pc0 + 3 := Nat.eq_of_beq_eq_true hnx
    have h : xcst a b fun v => K (pc0 + 3) ls (.int v :: st) s := h
    have h := xcst_e h
    exact lv_sipush hx hb hdec (of_decide_eq_true hox) (go _ _ _ _ _ _ _ h hI')
  | lconst n =>
    obtain rfl : nx = pc0 + 1 := Nat.eq_of_beq_eq_true hnx
    have h : xcsl a b fun v => K (pc0 + 1) ls (.long v :: st) s := h
    have h := xcsl_e h
    exact lv_lconst hx hb hdec (of_decide_eq_true hox) (go _ _ _ _ _ _ _ h hI')
  | ldc idx =>
    obtain rfl : nx = pc0 + 2 := Nat.eq_of_beq_eq_true hnx
    match c0, h, hox with
    | 0, h, hox =>
      have h : xcst a b fun v => K (pc0 + 2) ls (.int v :: st) s := h
      have h := xcst_e h
      exact lv_ldc hx hb hown (hts _ (xcw_in (own, idx, a, b) (of_decide_eq_true hox))) hdec (go _ _ _ _ _ _ _ h hI')
    | 1, h, hox =>
      have hox : (Nat.beq own 7 && Nat.beq idx 71) = true := hox
      rw [Bool.and_eq_true] at hox
      obtain rfl : own = 7 := Nat.eq_of_beq_eq_true hox.1
      obtain rfl : idx = 71 := Nat.eq_of_beq_eq_true hox.2
      exact va_ldcS hx hb hown hKs.2.2.2.2.2.1.1 hdec (go _ _ _ _ _ _ _ h hI')
    | n + 2, h, hox =>
      have hox : (Nat.beq own 7 && Nat.beq idx 87) = true := hox
      rw [Bool.and_eq_true] at hox
      obtain rfl : own = 7 := Nat.eq_of_beq_eq_true hox.1
      obtain rfl : idx = 87 := Nat.eq_of_beq_eq_true hox.2
      exact va_ldcS hx hb hown hKs.2.2.2.2.2.1.2 hdec (go _ _ _ _ _ _ _ h hI')
  | ldc2_w idx =>
    obtain rfl : nx = pc0 + 3 := Nat.eq_of_beq_eq_true hnx
    have h : xcsl a b fun v => K (pc0 + 3) ls (.long v :: st) s := h
    have h := xcsl_e h
    exact lv_ldc2 hx hb hown (hts _ (xcl_in (own, idx, a, b) (of_decide_eq_true hox))) hdec (go _ _ _ _ _ _ _ h hI')
  | iadd =>
    obtain rfl : nx = pc0 + 1 := Nat.eq_of_beq_eq_true hnx
    obtain ⟨x, y, r, rfl, h⟩ := xi2_e h
    exact lv_iadd hx hb hdec (go _ _ _ _ _ _ _ h hI')
  | isub =>
    obtain rfl : nx = pc0 + 1 := Nat.eq_of_beq_eq_true hnx
    obtain ⟨x, y, r, rfl, h⟩ := xi2_e h
    exact lv_isub hx hb hdec (go _ _ _ _ _ _ _ h hI')
  | imul =>
    obtain rfl : nx = pc0 + 1 := Nat.eq_of_beq_eq_true hnx
    obtain ⟨x, y, r, rfl, h⟩ := xi2_e h
    exact lv_imul hx hb hdec (go _ _ _ _ _ _ _ h hI')
  | iand =>
    obtain rfl : nx = pc0 + 1 := Nat.eq_of_beq_eq_true hnx
    obtain ⟨x, y, r, rfl, h⟩ := xi2_e h
    exact lv_iand hx hb hdec (go _ _ _ _ _ _ _ h hI')
  | ior =>
    obtain rfl : nx = pc0 + 1 := Nat.eq_of_beq_eq_true hnx
    obtain ⟨x, y, r, rfl, h⟩ := xi2_e h
    exact lv_ior hx hb hdec (go _ _ _ _ _ _ _ h hI')
  | ishl =>
    obtain rfl : nx = pc0 + 1 := Nat.eq_of_beq_eq_true hnx
    obtain ⟨x, y, r, rfl, h⟩ := xi2_e h
    exact lv_ishl hx hb hdec (go _ _ _ _ _ _ _ h hI')
  | ishr =>
    obtain rfl : nx = pc0 + 1 := Nat.eq_of_beq_eq_true hnx
    obtain ⟨x, y, r, rfl, h⟩ := xi2_e h
    exact lv_ishr hx hb hdec (go _ _ _ _ _ _ _ h hI')
  | iushr =>
    obtain rfl : nx = pc0 + 1 := Nat.eq_of_beq_eq_true hnx
    obtain ⟨x, y, r, rfl, h⟩ := xi2_e h
    exact lv_iushr hx hb hdec rfl (go _ _ _ _ _ _ _ h hI')
  | idiv =>
    obtain rfl : nx = pc0 + 1 := Nat.eq_of_beq_eq_true hnx
    obtain ⟨x, y, r, rfl, h0, h⟩ := xi2_e h
    exact lv_idiv hx hb hdec (by rw [← nI_0]; exact h0) (go _ _ _ _ _ _ _ h hI')
  | irem =>
    obtain rfl : nx = pc0 + 1 := Nat.eq_of_beq_eq_true hnx
    obtain ⟨x, y, r, rfl, h0, h⟩ := xi2_e h
    exact lv_irem hx hb hdec (by rw [← nI_0]; exact h0) (go _ _ _ _ _ _ _ h hI')
  | ineg =>
    obtain rfl : nx = pc0 + 1 := Nat.eq_of_beq_eq_true hnx
    obtain ⟨x, r, rfl, h⟩ := xi1_e h
    exact lv_ineg hx hb hdec (go _ _ _ _ _ _ _ h hI')
  | ladd =>
    obtain rfl : nx = pc0 + 1 := Nat.eq_of_beq_eq_true hnx
    obtain ⟨x, y, r, rfl, h⟩ := xl2_e h
    exact lv_ladd hx hb hdec (go _ _ _ _ _ _ _ h hI')
  | lsub =>
    obtain rfl : nx = pc0 + 1 := Nat.eq_of_beq_eq_true hnx
    obtain ⟨x, y, r, rfl, h⟩ := xl2_e h
    exact lv_lsub hx hb hdec (go _ _ _ _ _ _ _ h hI')
  | lmul =>
    obtain rfl : nx = pc0 + 1 := Nat.eq_of_beq_eq_true hnx
    obtain ⟨x, y, r, rfl, h⟩ := xl2_e h
    exact lv_lmul hx hb hdec (go _ _ _ _ _ _ _ h hI')
  | lor =>
    obtain rfl : nx = pc0 + 1 := Nat.eq_of_beq_eq_true hnx
    obtain ⟨x, y, r, rfl, h⟩ := xl2_e h
    exact lv_lor hx hb hdec (go _ _ _ _ _ _ _ h hI')
  | ldiv =>
    obtain rfl : nx = pc0 + 1 := Nat.eq_of_beq_eq_true hnx
    obtain ⟨x, y, r, rfl, h0, h⟩ := xl2_e h
    exact lv_ldiv hx hb hdec h0 (go _ _ _ _ _ _ _ h hI')
  | lrem =>
    obtain rfl : nx = pc0 + 1 := Nat.eq_of_beq_eq_true hnx
    obtain ⟨x, y, r, rfl, h0, h⟩ := xl2_e h
    exact lv_lrem hx hb hdec h0 (go _ _ _ _ _ _ _ h hI')
  | lneg =>
    obtain rfl : nx = pc0 + 1 := Nat.eq_of_beq_eq_true hnx
    obtain ⟨x, r, rfl, h⟩ := xl1_e h
    exact lv_lneg hx hb hdec (go _ _ _ _ _ _ _ h hI')
  | lshl =>
    obtain rfl : nx = pc0 + 1 := Nat.eq_of_beq_eq_true hnx
    obtain ⟨x, y, r, rfl, h⟩ := xli_e h
    exact lv_lshl hx hb hdec rfl (go _ _ _ _ _ _ _ h hI')
  | lcmp =>
    obtain rfl : nx = pc0 + 1 := Nat.eq_of_beq_eq_true hnx
    obtain ⟨x, y, r, rfl, h⟩ := xl2_e h
    exact W.lcmp hx hb hdec (go _ _ _ _ _ _ _ h hI')
  | i2l =>
    obtain rfl : nx = pc0 + 1 := Nat.eq_of_beq_eq_true hnx
    obtain ⟨x, r, rfl, h⟩ := xi1_e h
    exact lv_i2l hx hb hdec rfl (go _ _ _ _ _ _ _ h hI')
  | l2i =>
    obtain rfl : nx = pc0 + 1 := Nat.eq_of_beq_eq_true hnx
    obtain ⟨x, r, rfl, h⟩ := xl1_e h
    exact lv_l2i hx hb hdec rfl (go _ _ _ _ _ _ _ h hI')
  | i2c =>
    obtain rfl : nx = pc0 + 1 := Nat.eq_of_beq_eq_true hnx
    obtain ⟨x, r, rfl, h⟩ := xi1_e h
    exact lv_i2c hx hb hdec rfl (go _ _ _ _ _ _ _ h hI')
  | i2b =>
    obtain rfl : nx = pc0 + 1 := Nat.eq_of_beq_eq_true hnx
    obtain ⟨x, r, rfl, h⟩ := xi1_e h
    exact lv_i2b hx hb hdec rfl (go _ _ _ _ _ _ _ h hI')
  | dup =>
    obtain rfl : nx = pc0 + 1 := Nat.eq_of_beq_eq_true hnx
    have h : xv1 st fun v r => K (pc0 + 1) ls (v :: v :: r) s := h
    obtain ⟨v, r, rfl, hc, h⟩ := xv1_e h
    exact lv_dup hx hb hdec (hc ad) (go _ _ _ _ _ _ _ h hI')
  | pop =>
    obtain rfl : nx = pc0 + 1 := Nat.eq_of_beq_eq_true hnx
    have h : xv1 st fun _ r => K (pc0 + 1) ls r s := h
    obtain ⟨v, r, rfl, hc, h⟩ := xv1_e h
    exact lv_pop hx hb hdec (hc ad) (go _ _ _ _ _ _ _ h hI')
  | dup2 =>
    obtain rfl : nx = pc0 + 1 := Nat.eq_of_beq_eq_true hnx
    obtain ⟨k, j, r, rfl, h⟩ := xri_e h
    exact lv_dup2_11 hx hb hdec rfl rfl (go _ _ _ _ _ _ _ h hI')
  | pop2 =>
    obtain rfl : nx = pc0 + 1 := Nat.eq_of_beq_eq_true hnx
    obtain ⟨x, r, rfl, h⟩ := xl1_e h
    exact lv_pop2_2 hx hb hdec rfl (go _ _ _ _ _ _ _ h hI')
  | getfield idx =>
    obtain rfl : nx = pc0 + 3 := Nat.eq_of_beq_eq_true hnx
    have h9 : xgf L a b st s fun st => K (pc0 + 3) ls st s := h
    clear h
    obtain ⟨k, r, cc, rfl, hlk, hca, h⟩ := xgf_e h9
    clear h9
    have hox : (decide ((own, idx, a, b) ∈ xfl) || (Nat.beq own 13 && Nat.beq a 112 && ((Nat.beq idx 9 && Nat.beq b 0) || (Nat.beq idx 15 && Nat.beq b 1)))) = true := hox
    rw [Bool.or_eq_true, decide_eq_true_eq] at hox
    rcases hox with hox | hox
    · have ha := xfl_a _ hox
      have hbn := xfl_N _ hox
      have hT := xfl_T _ hox
      dsimp only at ha hbn hT
      have hw := xlk_w hlk (by omega)
      have he := xwo_at (cA := E.2.2.1) (ad := ad) (s := s) hw
      rw [xce_o (by omega)] at he
      subst hca
      have hf := xfk_lt _ ha _ hbn
      have hlink := hts _ (xfw_in _ (List.mem_map.mpr ⟨_, hox, rfl⟩))
      have hv := xfs_get (cA := E.2.2.1) (ad := ad) (s := s) (k := k) (c := cc) hbn
      have row : ∀ v : Value, xfv ad s k cc b = v → W p l e R s0 m args below meth c H locs cells slots Qf (F0 m (pc0 + 3) LS (v :: r.map (xcv ad))) → W p l e R s0 m args below meth c H locs cells slots Qf (F0 m pc0 LS (.ref (ad k) :: r.map (xcv ad))) := fun v hv1 kk => va_get hx hb hts (xlay_of ha) hown hKs.1 hP k he (xN_cl _ ha) b hbn hlink (fun z hz => by rw [hT] at hz; exact hz) (v := v) (by rw [hv, hv1]) hdec kk
      rcases h with ⟨hk, h⟩ | ⟨hk, h⟩ | ⟨hk, q, hq, h⟩ | ⟨hk, h⟩ | ⟨hk, h⟩
      · exact row (.int (s.1 k b)) (by unfold xfv; rw [hk]; rfl) (go _ _ _ _ _ _ _ h hI')
      · exact row (.long (s.2 k b)) (by unfold xfv; rw [hk]; rfl) (go _ _ _ _ _ _ _ h hI')
      · exact row (.ref (ad q)) (by unfold xfv; rw [hk]; show va_rf ((cc.2.2.getD b none).map ad) = _; rw [xgetD hq]; rfl) (go _ _ _ _ _ _ _ h hI')
      · exact row (.int (s.1 k b)) (by unfold xfv; rw [hk]; rfl) (go _ _ _ _ _ _ _ h hI')
      · omega
    · rw [Bool.and_eq_true, Bool.and_eq_true, Bool.or_eq_true, Bool.and_eq_true, Bool.and_eq_true] at hox
      obtain ⟨⟨ho, ha⟩, hob⟩ := hox
      obtain rfl : own = 13 := Nat.eq_of_beq_eq_true ho
      obtain rfl : a = 112 := Nat.eq_of_beq_eq_true ha
      have hro := xro_c (xlk_r hLk hlk (by omega)) (by omega)
      have hSt := hKs.2.2.2.2.2.2.1
      have hi : ∃ i, i < 2 ∧ k = 903 + i ∧ cc.2.2 = [some (905 + i)] := by
        rcases hro with ⟨-, q⟩ | ⟨-, q⟩ | ⟨q1, q⟩ | ⟨q1, q⟩ | ⟨-, q⟩ | ⟨-, q⟩
        · rw [q] at hca; exact absurd hca (by decide)
        · rw [q] at hca; exact absurd hca (by decide)
        · exact ⟨0, by decide, q1, by rw [q]⟩
        · exact ⟨1, by decide, q1, by rw [q]⟩
        · rw [q] at hca; exact absurd hca (by decide)
        · rw [q] at hca; exact absurd hca (by decide)
      obtain ⟨i, hi2, rfl, hps⟩ := hi
      rcases hob with hob | hob
      · obtain rfl : idx = 9 := Nat.eq_of_beq_eq_true hob.1
        obtain rfl : b = 0 := Nat.eq_of_beq_eq_true hob.2
        have hk2 : xfk 112 0 = 2 := by decide
        rcases h with ⟨hk, -⟩ | ⟨hk, -⟩ | ⟨hk, q, hq, h⟩ | ⟨hk, -⟩ | ⟨hk, -⟩
        · rw [hk2] at hk; cases hk
        · rw [hk2] at hk; cases hk
        · rw [hps] at hq
          cases hq
          exact vk_getf hx hb (hSt.1 i hi2).2.2.1 hS hown (hts (.fieldLink (xnm 13) 9 "java/lang/String" "value" "[B") (xst_w _ (by simp))) (fun _ h => h) hdec (go _ _ _ _ _ _ _ h hI')
        · rw [hk2] at hk; cases hk
        · rw [hk2] at hk; cases hk
      · obtain rfl : idx = 15 := Nat.eq_of_beq_eq_true hob.1
        obtain rfl : b = 1 := Nat.eq_of_beq_eq_true hob.2
        have hk2 : xfk 112 1 = 4 := by decide
        rcases h with ⟨hk, -⟩ | ⟨hk, -⟩ | ⟨hk, -⟩ | ⟨hk, -⟩ | ⟨hk, h⟩
        · rw [hk2] at hk; cases hk
        · rw [hk2] at hk; cases hk
        · rw [hk2] at hk; cases hk
        · rw [hk2] at hk; cases hk
        · rw [nI_0] at h
          exact vk_getf hx hb (hSt.1 i hi2).2.1 hS hown (hts (.fieldLink (xnm 13) 15 "java/lang/String" "coder" "B") (xst_w _ (by simp))) (fun _ h => h) hdec (go _ _ _ _ _ _ _ h hI')
  | putfield idx =>
    obtain rfl : nx = pc0 + 3 := Nat.eq_of_beq_eq_true hnx
    have h9 : xpf L a b st s fun st s => K (pc0 + 3) ls st s := h
    clear h
    obtain ⟨k, r, cc, hw, hca, h⟩ := xpf_e h9
    clear h9
    have hox : (decide ((own, idx, a, b) ∈ xfl) && !(xTb a b).2.2.2) = true := hox
    rw [Bool.and_eq_true, decide_eq_true_eq, Bool.not_eq_true'] at hox
    obtain ⟨hox, hfin⟩ := hox
    have ha := xfl_a _ hox
    have hbn := xfl_N _ hox
    have hT := xfl_T _ hox
    dsimp only at ha hbn hT
    have he := xwo_at (cA := E.2.2.1) (ad := ad) (s := s) hw
    rw [xce_o (by omega)] at he
    subst hca
    have hlink := hts _ (xfw_in _ (List.mem_map.mpr ⟨_, hox, rfl⟩))
    have hft := xfk_ty _ ha _ hbn
    have hlen : b < ((List.range (xN cc.1)).map (fun j => xfv ad s k cc j)).length := by simpa using hbn
    have row : ∀ (v w : Value) (ty : FieldType) (s' : xS), xtyf cc.1 b = ty → narrow ty v = v → fits ty v = true → (∀ j, xfv ad s' k cc j = if j = b then v else xfv ad s k cc j) → (∀ j, j ≠ k → s'.1 j = s.1 j) → (∀ j, j ≠ k → s'.2 j = s.2 j) → xSc E s' → K (pc0 + 3) ls r s' → W p l e R s0 m args below meth c H locs cells slots Qf (F0 m pc0 LS (v :: .ref (ad k) :: r.map (xcv ad))) := by
      intro v w ty s' hty hna hfi hxf h1 h2 hsc hk
      refine va_put hx hb hts (xlay_of ha) (xtyf cc.1) (xty_ok _ ha) (xnm_ok _ ha) hown hKs.1 hP (hD.va _ _) hS k he (xN_cl _ ha) b hbn hlink (fun z hz => by rw [hT] at hz; exact hz) hfin (ty := ty) (by rw [← hty]; exact xty_ok _ ha _ hbn) hna hfi hlen hdec (fun H1 locs1 g1 g2 g3 => ?_)
      have hset : (xwo E.2.2.1 ad L s).set k (ad k, .inr (cc.1, ((List.range (xN cc.1)).map (fun j => xfv ad s k cc j)).set b v)) = xwo E.2.2.1 ad L s' := by
        refine xwo_set hw ?_ h1 h2
        rw [xce_o (by omega)]
        congr 2
        apply List.ext_getElem?
        intro j
        rw [List.getElem?_set, List.getElem?_map]
        by_cases hj : j < xN cc.1
        · rw [List.getElem?_map, List.getElem?_range hj]
          show _ = some (xfv ad s' k cc j)
          rw [hxf j]
          by_cases e : b = j
          · rw [if_pos e, if_pos hlen, if_pos e.symm]
          · rw [if_neg e, if_neg (fun z => e z.symm)]
            rfl
        · have hr0 : (List.range (xN cc.1))[j]? = none := List.getElem?_eq_none (by rw [List.length_range]; omega)
          rw [List.getElem?_map, hr0]
          have e : b ≠ j := by omega
          rw [if_neg e]
          rfl
      rw [hset] at g1
      exact go _ _ _ _ _ _ _ hk ⟨g1, hD, g3, hL, hsc, hLk⟩
    have hkl : k < 900 := by
      have := hLk.1
      rw [xnth_get] at hw
      have := (List.getElem?_eq_some_iff.mp hw).1
      omega
    rcases h with ⟨hk, x, rfl, h⟩ | ⟨hk, x, rfl, h⟩ | ⟨hk, x, rfl, hx01, h⟩
    · refine row (.int x) (.int x) .int (xW s k b x) (hft.1 hk) rfl rfl (fun j => ?_) (fun j hj => va_up_ne _ _ hj) (fun j hj => rfl) ⟨by rw [← hSc.1]; exact va_up_ne _ _ (by omega), by rw [← hSc.2]; exact congrFun (va_up_ne _ _ (by omega)) 0⟩ h
      unfold xfv
      by_cases e : j = b
      · subst e
        rw [if_pos rfl, hk]
        show Value.int (va_up s.1 k (upd (s.1 k) j x) k j) = _
        rw [va_up_self, pk_us]
      · rw [if_neg e]
        show (match xfk cc.1 j with | 0 => Value.int (va_up s.1 k (upd (s.1 k) b x) k j) | 1 => _ | 3 => Value.int (va_up s.1 k (upd (s.1 k) b x) k j) | _ => _) = _
        rw [va_up_self, pk_un e]
        rfl
    · refine row (.long x) (.long x) .long (xWl s k b x) (hft.2.1 hk) rfl rfl (fun j => ?_) (fun j hj => rfl) (fun j hj => va_up_ne _ _ hj) hSc h
      unfold xfv
      by_cases e : j = b
      · subst e
        rw [if_pos rfl, hk]
        show Value.long (va_up s.2 k (vp_updL (s.2 k) j x) k j) = _
        rw [va_up_self, pk_uLs]
      · rw [if_neg e]
        show (match xfk cc.1 j with | 0 => _ | 1 => Value.long (va_up s.2 k (vp_updL (s.2 k) b x) k j) | 3 => _ | _ => _) = _
        rw [va_up_self, pk_uLn e]
        rfl
    · obtain ⟨z1, z2, -⟩ := xvz x hx01
      refine row (.int x) (.int x) .boolean (xW s k b x) (hft.2.2 hk) z1 z2 (fun j => ?_) (fun j hj => va_up_ne _ _ hj) (fun j hj => rfl) ⟨by rw [← hSc.1]; exact va_up_ne _ _ (by omega), by rw [← hSc.2]; exact congrFun (va_up_ne _ _ (by omega)) 0⟩ h
      unfold xfv
      by_cases e : j = b
      · subst e
        rw [if_pos rfl, hk]
        show Value.int (va_up s.1 k (upd (s.1 k) j x) k j) = _
        rw [va_up_self, pk_us]
      · rw [if_neg e]
        show (match xfk cc.1 j with | 0 => Value.int (va_up s.1 k (upd (s.1 k) b x) k j) | 1 => _ | 3 => Value.int (va_up s.1 k (upd (s.1 k) b x) k j) | _ => _) = _
        rw [va_up_self, pk_un e]
        rfl
  | getstatic idx =>
    obtain rfl : nx = pc0 + 3 := Nat.eq_of_beq_eq_true hnx
    have hox : ((Nat.beq a 0 && Nat.beq own 2 && Nat.beq idx 70) || (Nat.beq a 1 && Nat.beq own 13 && Nat.beq idx 38)) = true := hox
    rw [Bool.or_eq_true, Bool.and_eq_true, Bool.and_eq_true, Bool.and_eq_true, Bool.and_eq_true] at hox
    rcases hox with ⟨⟨q1, q2⟩, q3⟩ | ⟨⟨q1, q2⟩, q3⟩
    · obtain rfl : a = 0 := Nat.eq_of_beq_eq_true q1
      obtain rfl : own = 2 := Nat.eq_of_beq_eq_true q2
      obtain rfl : idx = 70 := Nat.eq_of_beq_eq_true q3
      exact va_gets hx hb hKs.2.2.1.1 hS hown (hts (.fieldLink (xnm 2) 70 "WrongEnd$Optics" "MOST" "[I") (xst_w _ (by simp))) (fun _ h => h) hdec (go _ _ _ _ _ _ _ h hI')
    · obtain rfl : a = 1 := Nat.eq_of_beq_eq_true q1
      obtain rfl : own = 13 := Nat.eq_of_beq_eq_true q2
      obtain rfl : idx = 38 := Nat.eq_of_beq_eq_true q3
      exact va_gets hx hb hKs.2.2.2.1 hS hown (hts (.fieldLink (xnm 13) 38 "java/lang/String" "COMPACT_STRINGS" "Z") (xst_w _ (by simp))) (fun _ h => h) hdec (go _ _ _ _ _ _ _ h hI')
  | iaload =>
    obtain rfl : nx = pc0 + 1 := Nat.eq_of_beq_eq_true hnx
    have h9 : xial L st s fun st => K (pc0 + 1) ls st s := h
    clear h
    obtain ⟨k, j, r, cc, rfl, hlk, h⟩ := xial_e h9
    clear h9
    rcases h with ⟨hc, z, ⟨hz, rfl⟩, h⟩ | ⟨hc, z, ⟨hz, hz2, rfl⟩, h⟩ | ⟨hc, z, ⟨hz, rfl⟩, h⟩
    · have he := xwo_at (cA := E.2.2.1) (ad := ad) (s := s) (xlk_w hlk (by omega))
      rw [xce_i hc] at he
      obtain ⟨-, hin, hcl⟩ := xlen_w hLk (xlk_w hlk (by omega)) hz
      exact va_iald hx hb hKs.1 hP k 0 he rfl hin hdec (by rw [hcl]; exact go _ _ _ _ _ _ _ h hI')
    · have hro := xro_c (xlk_r hLk hlk (by omega)) (by omega)
      have hk : k = 900 := by
        rcases hro with ⟨q1, q⟩ | ⟨-, q⟩ | ⟨q1, q⟩ | ⟨q1, q⟩ | ⟨-, q⟩ | ⟨-, q⟩
        · exact q1
        all_goals (rw [q] at hc; exact absurd hc (by decide))
      subst hk
      obtain ⟨hX, hbl, hbA, hN⟩ := hKs.2.1
      rw [hSc.2] at hz
      have hz3 : z < E.2.2.2.1 := (nI_ltI hz2 hN).mp hz
      rw [hSc.1] at h
      exact va_sld hx hb hX hbl hbA hS (vp_in_nI hz3 hN) hdec (by rw [nI_clamp hz2]; exact go _ _ _ _ _ _ _ h hI')
    · have hro := xro_c (xlk_r hLk hlk (by omega)) (by omega)
      have hk : k = 902 := by
        rcases hro with ⟨-, q⟩ | ⟨q1, q⟩ | ⟨-, q⟩ | ⟨-, q⟩ | ⟨-, q⟩ | ⟨-, q⟩
        · rw [q] at hc; exact absurd hc (by decide)
        · exact q1
        all_goals (rw [q] at hc; exact absurd hc (by decide))
      subst hk
      exact va_ti hx hb hKs.2.2.1.2 hS (vp_in_nI hz (by decide)) (v := .int (xmost z)) (by rw [nI_clamp (by omega)]) hdec (go _ _ _ _ _ _ _ h hI')
  | baload =>
    obtain rfl : nx = pc0 + 1 := Nat.eq_of_beq_eq_true hnx
    have h9 : xbal L st s fun st => K (pc0 + 1) ls st s := h
    clear h
    obtain ⟨k, j, r, cc, rfl, hlk, h⟩ := xbal_e h9
    clear h9
    rcases h with ⟨hc, z, ⟨hz, rfl⟩, h⟩ | ⟨hc, z, ⟨hz, rfl⟩, h⟩
    · have he := xwo_at (cA := E.2.2.1) (ad := ad) (s := s) (xlk_w hlk (by omega))
      rw [xce_z hc] at he
      obtain ⟨-, hin, hcl⟩ := xlen_w hLk (xlk_w hlk (by omega)) hz
      exact va_zald hx hb hKs.1 hP k 1 he rfl hin hdec (by rw [hcl]; exact go _ _ _ _ _ _ _ h hI')
    · have hro := xro_c (xlk_r hLk hlk (by omega)) (by omega)
      have hi : ∃ i, i < 2 ∧ k = 905 + i ∧ cc.2.1 = [86, 13].getD i 0 := by
        rcases hro with ⟨-, q⟩ | ⟨-, q⟩ | ⟨-, q⟩ | ⟨-, q⟩ | ⟨q1, q⟩ | ⟨q1, q⟩
        · rw [q] at hc; exact absurd hc (by decide)
        · rw [q] at hc; exact absurd hc (by decide)
        · rw [q] at hc; exact absurd hc (by decide)
        · rw [q] at hc; exact absurd hc (by decide)
        · exact ⟨0, by decide, q1, by rw [q]; rfl⟩
        · exact ⟨1, by decide, q1, by rw [q]; rfl⟩
      obtain ⟨i, hi2, rfl, hn⟩ := hi
      rw [hn] at hz h
      have hz2 : z < 2 ^ 31 := by
        rcases (show i = 0 ∨ i = 1 by omega) with rfl | rfl
        · exact Nat.lt_trans hz (by decide)
        · exact Nat.lt_trans hz (by decide)
      have hz3 : [86, 13].getD i 0 < 2 ^ 31 := by
        rcases (show i = 0 ∨ i = 1 by omega) with rfl | rfl
        · decide
        · decide
      exact va_tb hx hb (hKs.2.2.2.2.2.2.1.1 i hi2).2.2.2 hS (vp_in_nI hz hz3) (v := .int (nI ((xtxt ([86, 13].getD i 0)).getD z 0))) (by rw [nI_clamp hz2]; exact congrArg Value.int (xbyD i _ hi2)) hdec (go _ _ _ _ _ _ _ h hI')
  | arraylength =>
    obtain rfl : nx = pc0 + 1 := Nat.eq_of_beq_eq_true hnx
    have h9 : xaln L st s fun st => K (pc0 + 1) ls st s := h
    clear h
    obtain ⟨k, r, cc, rfl, hlk, h⟩ := xaln_e h9
    clear h9
    rcases h with ⟨hc, h⟩ | ⟨hc, h⟩ | ⟨hc, h⟩ | ⟨hc, h⟩
    · have hro := xro_c (xlk_r hLk hlk (by omega)) (by omega)
      have hk : k = 900 := by
        rcases hro with ⟨q1, q⟩ | ⟨-, q⟩ | ⟨q1, q⟩ | ⟨q1, q⟩ | ⟨-, q⟩ | ⟨-, q⟩
        · exact q1
        all_goals (rw [q] at hc; exact absurd hc (by decide))
      subst hk
      obtain ⟨hX, hbl, hbA, hN⟩ := hKs.2.1
      rw [hSc.2] at h
      exact va_slen hx hb hX hbl hbA hS hdec (go _ _ _ _ _ _ _ h hI')
    · have he := xwo_at (cA := E.2.2.1) (ad := ad) (s := s) (xlk_w hlk (by omega))
      rw [xce_i hc] at he
      exact va_alen hx hb hKs.1 hP k 0 he (ty := .int) rfl rfl hdec (go _ _ _ _ _ _ _ h hI')
    · have he := xwo_at (cA := E.2.2.1) (ad := ad) (s := s) (xlk_w hlk (by omega))
      rw [xce_z hc] at he
      exact va_alen hx hb hKs.1 hP k 1 he (ty := .boolean) rfl rfl hdec (go _ _ _ _ _ _ _ h hI')
    · have hro := xro_c (xlk_r hLk hlk (by omega)) (by omega)
      have hi : ∃ i, i < 2 ∧ k = 905 + i ∧ cc.2.1 = [86, 13].getD i 0 := by
        rcases hro with ⟨-, q⟩ | ⟨-, q⟩ | ⟨-, q⟩ | ⟨-, q⟩ | ⟨q1, q⟩ | ⟨q1, q⟩
        · rw [q] at hc; exact absurd hc (by decide)
        · rw [q] at hc; exact absurd hc (by decide)
        · rw [q] at hc; exact absurd hc (by decide)
        · rw [q] at hc; exact absurd hc (by decide)
        · exact ⟨0, by decide, q1, by rw [q]; rfl⟩
        · exact ⟨1, by decide, q1, by rw [q]; rfl⟩
      obtain ⟨i, hi2, rfl, hn⟩ := hi
      rw [hn] at h
      exact va_tlen hx hb (hKs.2.2.2.2.2.2.1.1 i hi2).2.2.2 hS rfl hdec (go _ _ _ _ _ _ _ h hI')
  | laload =>
    obtain rfl : nx = pc0 + 1 := Nat.eq_of_beq_eq_true hnx
    obtain ⟨k, j, r, cc, rfl, hlk, hc, z, ⟨hz, rfl⟩, hh⟩ := xlal_e (K := fun st => K (pc0 + 1) ls st s) h
    have he := xwo_at (cA := E.2.2.1) (ad := ad) (s := s) (xlk_w hlk (by omega))
    rw [xce_l hc] at he
    obtain ⟨-, hin, hcl⟩ := xlen_w hLk (xlk_w hlk (by omega)) hz
    exact va_lald hx hb hKs.1 hP k 2 he rfl hin hdec (by rw [hcl]; exact go _ _ _ _ _ _ _ hh hI')
  | aaload =>
    obtain rfl : nx = pc0 + 1 := Nat.eq_of_beq_eq_true hnx
    obtain ⟨k, z, r, cc, q, rfl, hlk, hc, hz, hps, h⟩ := xaal_e (K := fun st => K (pc0 + 1) ls st s) h
    obtain ⟨-, hin, hcl⟩ := xlen_w hLk (xlk_w hlk (by omega)) hz
    have hv : va_rf ((cc.2.2.getD (nI z).toNatClampNeg none).map ad) = .ref (ad q) := by rw [hcl, xgetD hps]; rfl
    have hlt : (nI z).toNatClampNeg < cc.2.1 := Nat.not_le.mp fun q => hin (Or.inr q)
    rcases hc with hc | hc
    · have he := xwo_at (cA := E.2.2.1) (ad := ad) (s := s) (xlk_w hlk (by omega))
      rw [xce_p hc] at he
      exact va_aldq hx hb hKs.1 hP k 3 he (C := "WrongEnd$Program") rfl hin hdec (by rw [hv]; exact go _ _ _ _ _ _ _ h hI')
    · have he := xwo_at (cA := E.2.2.1) (ad := ad) (s := s) (xlk_w hlk (by omega))
      rw [xce_q hc] at he
      exact W.aald (v := .ref (ad q)) (ty := .array .int) hx hb (hP k _ he) ((hKs.1.2 4 _ rfl).1 cc.2.1 (fun z => va_rf ((cc.2.2.getD z none).map ad))) rfl (fun q => by cases q) (by show ¬ (nI z < 0 ∨ (arrV _ _ _).slots.size ≤ _); rw [arrV_size]; exact hin) (by show (arrV _ _ _).slots[_]? = _; rw [arrV_read _ _ hlt, hv]) rfl rfl hdec (go _ _ _ _ _ _ _ h hI')
  | iastore =>
    obtain rfl : nx = pc0 + 1 := Nat.eq_of_beq_eq_true hnx
    obtain ⟨k, j, x, r, rfl, h⟩ := xrii_e h
    obtain ⟨cc, hw, h⟩ := xopm_e h
    obtain ⟨hc, z, ⟨hz, rfl⟩, hh⟩ := xif_e h
    obtain ⟨-, hin, hcl⟩ := xlen_w hLk hw hz
    have hc := Nat.eq_of_beq_eq_true hc
    have he := xwo_at (cA := E.2.2.1) (ad := ad) (s := s) hw
    rw [xce_i hc] at he
    have hkl : k < 900 := by
      have := hLk.1
      rw [xnth_get] at hw
      have := (List.getElem?_eq_some_iff.mp hw).1
      omega
    refine va_iast hx hb hKs.1 hP (hD.va _ _) hS k 0 he rfl hin hdec (fun H1 locs1 g1 g2 g3 => ?_)
    rw [hcl, xwo_set (s' := (va_up s.1 k (upd (s.1 k) z x), s.2)) hw (by rw [xce_i hc]; show _ = Sum.inl (_, _, Sum.inl (va_up s.1 k _ k)); rw [va_up_self]) (fun i hi => va_up_ne _ _ hi) (fun i hi => rfl)] at g1
    exact go _ _ _ _ _ _ _ hh ⟨g1, hD, g3, hL, ⟨by rw [← hSc.1]; exact va_up_ne _ _ (by omega), by rw [← hSc.2]; exact congrFun (va_up_ne _ _ (by omega)) 0⟩, hLk⟩
  | bastore =>
    obtain rfl : nx = pc0 + 1 := Nat.eq_of_beq_eq_true hnx
    obtain ⟨k, j, x, r, rfl, h⟩ := xrii_e h
    obtain ⟨cc, hw, h⟩ := xopm_e h
    obtain ⟨hc, z, ⟨hz, rfl, hx01⟩, hh⟩ := xif_e h
    obtain ⟨-, hin, hcl⟩ := xlen_w hLk hw hz
    obtain ⟨-, -, z3⟩ := xvz x hx01
    have hc := Nat.eq_of_beq_eq_true hc
    have he := xwo_at (cA := E.2.2.1) (ad := ad) (s := s) hw
    rw [xce_z hc] at he
    have hkl : k < 900 := by
      have := hLk.1
      rw [xnth_get] at hw
      have := (List.getElem?_eq_some_iff.mp hw).1
      omega
    refine va_zast hx hb hKs.1 hP (hD.va _ _) hS k 1 he rfl hin hdec (fun H1 locs1 g1 g2 g3 => ?_)
    rw [z3, hcl, xwo_set (s' := (va_up s.1 k (upd (s.1 k) z x), s.2)) hw (by rw [xce_z hc]; show _ = Sum.inl (_, _, Sum.inl (va_up s.1 k _ k)); rw [va_up_self]) (fun i hi => va_up_ne _ _ hi) (fun i hi => rfl)] at g1
    exact go _ _ _ _ _ _ _ hh ⟨g1, hD, g3, hL, ⟨by rw [← hSc.1]; exact va_up_ne _ _ (by omega), by rw [← hSc.2]; exact congrFun (va_up_ne _ _ (by omega)) 0⟩, hLk⟩
  | lastore =>
    obtain rfl : nx = pc0 + 1 := Nat.eq_of_beq_eq_true hnx
    obtain ⟨k, j, x, r, rfl, h⟩ := xrli_e h
    obtain ⟨cc, hw, h⟩ := xopm_e h
    obtain ⟨hc, z, ⟨hz, rfl⟩, hh⟩ := xif_e h
    obtain ⟨-, hin, hcl⟩ := xlen_w hLk hw hz
    have hc := Nat.eq_of_beq_eq_true hc
    have he := xwo_at (cA := E.2.2.1) (ad := ad) (s := s) hw
    rw [xce_l hc] at he
    refine va_last hx hb hKs.1 hP (hD.va _ _) hS k 2 he rfl hin hdec (fun H1 locs1 g1 g2 g3 => ?_)
    rw [hcl, xwo_set (s := s) (s' := (s.1, va_up s.2 k (vp_updL (s.2 k) z x))) hw (by rw [xce_l hc]; exact congrArg (fun z => (Sum.inl (E.2.2.1 102, cc.2.1, Sum.inr (Sum.inl z)) : va_E)) (va_up_self _ _ _).symm) (fun i hi => rfl) (fun i hi => va_up_ne _ _ hi)] at g1
    exact go _ _ _ _ _ _ _ hh ⟨g1, hD, g3, hL, hSc, hLk⟩
  | if_icmp q off =>
    obtain rfl : nx = pc0 + 3 := Nat.eq_of_beq_eq_true hnx
    have ht := of_decide_eq_true hox
    obtain ⟨x, y, r, rfl, h⟩ := xi2_e h
    cases q with
    | eq =>
      exact lv_icmp_eq hx hb hdec ht (fun hc => go _ _ _ _ _ _ _ (h.1 hc) hI') (fun hc => go _ _ _ _ _ _ _ (h.2 hc) hI')
    | ne =>
      exact lv_icmp_ne hx hb hdec ht (fun hc => go _ _ _ _ _ _ _ (h.2 hc) hI') (fun hc => go _ _ _ _ _ _ _ (h.1 hc) hI')
    | lt =>
      exact lv_icmp_lt hx hb hdec ht (fun hc => go _ _ _ _ _ _ _ (h.1 hc) hI') (fun hc => go _ _ _ _ _ _ _ (h.2 hc) hI')
    | ge =>
      exact lv_icmp_ge hx hb hdec ht (fun hc => go _ _ _ _ _ _ _ (h.2 (Int32.not_lt.mpr hc)) hI') (fun hc => go _ _ _ _ _ _ _ (h.1 (Int32.not_le.mp hc)) hI')
    | gt =>
      exact lv_icmp_gt hx hb hdec ht (fun hc => go _ _ _ _ _ _ _ (h.1 hc) hI') (fun hc => go _ _ _ _ _ _ _ (h.2 hc) hI')
    | le =>
      exact lv_icmp_le hx hb hdec ht (fun hc => go _ _ _ _ _ _ _ (h.2 (Int32.not_lt.mpr hc)) hI') (fun hc => go _ _ _ _ _ _ _ (h.1 (Int32.not_le.mp hc)) hI')
  | ifCond q off =>
    obtain rfl : nx = pc0 + 3 := Nat.eq_of_beq_eq_true hnx
    have ht := of_decide_eq_true hox
    obtain ⟨x, r, rfl, h⟩ := xi1_e h
    cases q with
    | eq =>
      exact lv_if_eq hx hb hdec ht (fun hc => go _ _ _ _ _ _ _ (by rw [← nI_0] at hc; exact h.1 hc) hI') (fun hc => go _ _ _ _ _ _ _ (by rw [← nI_0] at hc; exact h.2 hc) hI')
    | ne =>
      exact lv_if_ne hx hb hdec ht (fun hc => go _ _ _ _ _ _ _ (by rw [← nI_0] at hc; exact h.2 hc) hI') (fun hc => go _ _ _ _ _ _ _ (by rw [← nI_0] at hc; exact h.1 hc) hI')
    | lt =>
      exact lv_if_lt hx hb hdec ht (fun hc => go _ _ _ _ _ _ _ (by rw [← nI_0] at hc; exact h.1 hc) hI') (fun hc => go _ _ _ _ _ _ _ (by rw [← nI_0] at hc; exact h.2 hc) hI')
    | ge =>
      exact lv_if_ge hx hb hdec ht (fun hc => go _ _ _ _ _ _ _ (by rw [← nI_0] at hc; exact h.2 (Int32.not_lt.mpr hc)) hI') (fun hc => go _ _ _ _ _ _ _ (by rw [← nI_0] at hc; exact h.1 (Int32.not_le.mp hc)) hI')
    | gt =>
      exact lv_if_gt hx hb hdec ht (fun hc => go _ _ _ _ _ _ _ (by rw [← nI_0] at hc; exact h.1 hc) hI') (fun hc => go _ _ _ _ _ _ _ (by rw [← nI_0] at hc; exact h.2 hc) hI')
    | le =>
      exact lv_if_le hx hb hdec ht (fun hc => go _ _ _ _ _ _ _ (by rw [← nI_0] at hc; exact h.2 (Int32.not_lt.mpr hc)) hI') (fun hc => go _ _ _ _ _ _ _ (by rw [← nI_0] at hc; exact h.1 (Int32.not_le.mp hc)) hI')
  | goto off =>
    have ht := of_decide_eq_true hox
    exact lv_goto hx hb hdec ht (go _ _ _ _ _ _ _ h hI')
  | tableswitch df lo hi offs =>
    obtain ⟨x, r, rfl, h⟩ := xi1_e h
    have h := xsw_e h
    simp only [xokx, Bool.and_eq_true, decide_eq_true_eq, List.all_eq_true] at hox
    obtain ⟨⟨⟨⟨⟨hdf, hsz⟩, hall⟩, h1k⟩, hl0⟩, hjs⟩ := hox
    by_cases hr : x.toInt < lo ∨ hi < x.toInt
    · rw [xlook_d (fun q hq z => by
        have hq2 := hall q hq
        rw [z, nI_toInt (by omega)] at hr
        omega)] at h
      exact lv_tableOut hx hb hdec hr hdf (go _ _ _ _ _ _ _ h hI')
    · have hj : (x.toInt - lo).toNat < offs.size := by omega
      have hjx : nI (lo.toNat + (x.toInt - lo).toNat) = x := by
        apply Int32.toInt_inj.mp
        rw [nI_toInt (by omega)]
        omega
      have ho := hjs (x.toInt - lo).toNat (List.mem_range.mpr hj)
      rw [hjx] at ho
      rw [Array.getElem?_eq_getElem hj] at ho
      exact lv_tableIn (off := offs[(x.toInt - lo).toNat]) hx hb hdec (by omega) (by omega) (Array.getElem?_eq_getElem hj) (Option.some.inj ho) (go _ _ _ _ _ _ _ h hI')
  | lookupswitch df ps =>
    obtain ⟨x, r, rfl, h⟩ := xi1_e h
    have h := xsw_e h
    have hox : (decide ((pc0 : Int) + df = ((xfs sws pc0).2 : Int)) && (ps.toList.zip (ps.toList.drop 1)).all (fun (a, next) => a.1 < next.1) && decide (ps.toList = (xfs sws pc0).1.map (fun q => ((q.1 : Int), (q.2 : Int) - (pc0 : Int)))) && (xfs sws pc0).1.all (fun q => decide (q.1 < 1000))) = true := hox
    rw [Bool.and_eq_true, Bool.and_eq_true, Bool.and_eq_true, decide_eq_true_eq, decide_eq_true_eq] at hox
    obtain ⟨⟨⟨hdf, hso⟩, hps⟩, hall⟩ := hox
    have hall := List.all_eq_true.mp hall
    have ht := xoff (x := x) hdf (ps := (xfs sws pc0).1) (fun q hq => of_decide_eq_true (hall q hq))
    rw [← hps] at ht
    exact lv_lookup hx hb hdec hso rfl ht (go _ _ _ _ _ _ _ h hI')
  | invokevirtual idx =>
    obtain rfl : nx = pc0 + 3 := Nat.eq_of_beq_eq_true hnx
    have h9 : xpop (a + 1) st [] fun As r => xinv L c0 As r (xP d L b As s (xkr (fun st s => K (pc0 + 3) ls st s) r)) := h
    clear h
    obtain ⟨As0, r, hlen, rfl, h⟩ := xpop_e h9
    clear h9
    rw [List.append_nil] at h
    have hox : (decide ((own, idx, b) ∈ xml) && Nat.beq (xmk b) 0 && Nat.beq c0 (xrk (xmc b)) && Nat.beq a (xna b) && Nat.blt b 233) = true := hox
    rw [Bool.and_eq_true, Bool.and_eq_true, Bool.and_eq_true, Bool.and_eq_true, decide_eq_true_eq] at hox
    obtain ⟨⟨⟨⟨ho1, ho2⟩, ho3⟩, ho4⟩, ho5⟩ := hox
    have ho2 := Nat.eq_of_beq_eq_true ho2
    have ho3 := Nat.eq_of_beq_eq_true ho3
    have ho4 := Nat.eq_of_beq_eq_true ho4
    have ho5 : b < 233 := Nat.le_of_ble_eq_true ho5
    cases hAs : As0.reverse with
    | nil => rw [hAs] at h; exact h.elim
    | cons v As' =>
      rw [hAs] at h
      cases v with
      | ref k =>
        obtain ⟨hc, h⟩ := xif_e h
        rw [Bool.and_eq_true] at hc
        have hck := Nat.eq_of_beq_eq_true hc.1
        obtain ⟨f1, f2, f3, f4, f5, f6⟩ := xmf_e ho5
        have hA0 : As0 = As'.reverse ++ [.ref k] := by rw [← List.reverse_reverse As0, hAs, List.reverse_cons]
        have hl2 : As'.length = a := by rw [hA0] at hlen; simp at hlen; exact hlen
        have hst : (As0 ++ r).map (xcv ad) = (As'.map (xcv ad)).reverse ++ .ref (ad k) :: r.map (xcv ad) := by rw [hA0]; simp [xcv]
        have hF : ∀ q, xFr ad L.length H.size q → A q := fun q hq => by
          rcases hq with ⟨k, hk, rfl⟩ | hq
          · exact hD.2 k hk
          · exact hA q (Nat.le_trans hS.1 hq)
        have hrec : ∃ cell : Cell, H[ad k]? = some cell ∧ cell.vm.isStatics = false ∧ s0.vm.findClass (xsg b).1.cls = some cell.cls := by
          rw [f1]
          by_cases hm : xmc b < 10
          · have hk0 : (xlk L k).1 = xmc b := by rw [hck, ho3]; unfold xrk; rw [if_pos hm]
            have hw := xlk_w (L := L) (k := k) rfl (by omega)
            have he := xwo_at (cA := E.2.2.1) (ad := ad) (s := s) hw
            rw [xce_o (by omega), hk0] at he
            have := va_recv hKs.1 hP (xN_cl _ hm) he
            rw [← xnm_C _ hm] at this
            exact this
          · have hk0 : (xlk L k).1 = if xmc b = 13 then 112 else 199 := by rw [hck, ho3]; unfold xrk; rw [if_neg hm]
            by_cases hm3 : xmc b = 13
            · rw [if_pos hm3] at hk0
              have hro := xro_c (xlk_r (c := xlk L k) hLk rfl (by omega)) (by omega)
              have hi : ∃ i, i < 2 ∧ k = 903 + i := by
                rcases hro with ⟨-, q⟩ | ⟨-, q⟩ | ⟨q1, q⟩ | ⟨q1, q⟩ | ⟨-, q⟩ | ⟨-, q⟩
                · rw [q] at hk0; exact absurd hk0 (by decide)
                · rw [q] at hk0; exact absurd hk0 (by decide)
                · exact ⟨0, by decide, q1⟩
                · exact ⟨1, by decide, q1⟩
                · rw [q] at hk0; exact absurd hk0 (by decide)
                · rw [q] at hk0; exact absurd hk0 (by decide)
              obtain ⟨i, hi2, rfl⟩ := hi
              rw [hm3]
              exact vk_recv (i := i) (adK := fun i => ad (903 + i)) hKs.2.2.2.2.2.2.1 hi2 hS
            · exfalso
              have hne : ∀ n, n < 233 → xmk n = 0 → 10 ≤ xmc n → xmc n = 13 := by decide +kernel
              exact hm3 (hne b ho5 ho2 (by omega))
        have hmw : xmw b = .code (xsg b).1 (xsg b).2.1 (xsg b).2.2.1 (xsg b).2.2.2 :: .initialized (xsg b).1.cls :: [.instanceMethod (xsg b).1, .selects (xsg b).1.cls (xsg b).1 (xsg b).1] := by unfold xmw; rw [ho2]; rfl
        have hin := xmw_in ho5
        rw [hmw] at hin
        have hG : GoodIn xWs (wsV (xnm own) idx (xsg b).1.cls (xsg b).1 (xws b)) := by
          intro w hw
          unfold wsV at hw
          rcases List.mem_append.mp hw with hw | hw
          · simp only [List.mem_cons, List.not_mem_nil, or_false] at hw
            rcases hw with rfl | rfl | rfl | rfl
            · exact xgood (xmlw_in _ (List.mem_map.mpr ⟨_, ho1, rfl⟩))
            · exact xgood (hin _ (by simp))
            · exact xgood (hin _ (by simp))
            · exact xgood (hin _ (by simp))
          · exact xws_good ho5 w hw
        show W p l e R s0 m args below meth c H locs cells slots Qf (F0 m pc0 LS ((As0 ++ r).map (xcv ad)))
        rw [hst]
        refine xgo (va_runV (As := As'.map (xcv ad)) (rest := r.map (xcv ad)) ⟨hx, hb, hml, hown, hts⟩ (h l E ad H.size) (cwV (xna b) hts hG rfl rfl rfl ⟨rfl, f2, f3, f4⟩ ⟨by show d + 1 ≤ _; exact hfr, by show 8 + (_ + 11) + 64 * d ≤ _; omega⟩) ⟨xPc_blind _ _ _ _ _ _, hrec, fun U hU hW => ⟨rfl, by rw [hU], by rw [hU]; exact hKs.to hW hS.2.1 hS.1 hF, by rw [hU]; exact hP, hD.weaken (fun k hk => Or.inl ⟨k, hk, rfl⟩), hSc⟩⟩ rfl (by rw [List.length_map, hl2, ho4]) hL.size rfl (lv_room (xfit_e ad hc.2)) hdec ⟨hce, hsl⟩) hS hF (fun r1 s' H1 locs1 hq g1 g2 g3 => ?_)
        cases r1 with
        | none => exact go _ _ _ _ _ _ _ hq ⟨g1, hD, g3, hL, g2, hLk⟩
        | some v => exact go _ _ _ _ _ _ _ hq ⟨g1, hD, g3, hL, g2, hLk⟩
      | _ => exact False.elim h
  | invokestatic idx =>
    obtain rfl : nx = pc0 + 3 := Nat.eq_of_beq_eq_true hnx
    rcases c0 with _ | _ | _ | n
    · skip
      have hox : (decide ((own, idx, b) ∈ xml) && Nat.beq (xmk b) 1 && Nat.beq a (xna b) && Nat.blt b 233) = true := hox
      rw [Bool.and_eq_true, Bool.and_eq_true, Bool.and_eq_true, decide_eq_true_eq] at hox
      obtain ⟨⟨⟨ho1, ho2⟩, ho4⟩, ho5⟩ := hox
      have ho2 := Nat.eq_of_beq_eq_true ho2
      have ho4 := Nat.eq_of_beq_eq_true ho4
      have ho5 : b < 233 := Nat.le_of_ble_eq_true ho5
      have h9 : xpop a st [] fun As r => xif (xfit r 8) (xP d L b As s (xkr (fun st s => K (pc0 + 3) ls st s) r)) := h
      clear h
      obtain ⟨As0, r, hlen, rfl, h⟩ := xpop_e h9
      clear h9
      rw [List.append_nil] at h
      obtain ⟨hc, h⟩ := xif_e h
      obtain ⟨f1, f2, f3, f4, f5, f6⟩ := xmf_e ho5
      have hst : (As0 ++ r).map (xcv ad) = (As0.reverse.map (xcv ad)).reverse ++ r.map (xcv ad) := by simp
      have hF : ∀ q, xFr ad L.length H.size q → A q := fun q hq => by
        rcases hq with ⟨k, hk, rfl⟩ | hq
        · exact hD.2 k hk
        · exact hA q (Nat.le_trans hS.1 hq)
      have hmw : xmw b = .code (xsg b).1 (xsg b).2.1 (xsg b).2.2.1 (xsg b).2.2.2 :: .initialized (xsg b).1.cls :: [.static (xsg b).1] := by unfold xmw; rw [ho2]; rfl
      have hin := xmw_in ho5
      rw [hmw] at hin
      have hG : GoodIn xWs (va_wsS (xnm own) idx (xsg b).1 (xws b)) := by
        intro w hw
        unfold va_wsS at hw
        rcases List.mem_append.mp hw with hw | hw
        · simp only [List.mem_cons, List.not_mem_nil, or_false] at hw
          rcases hw with rfl | rfl | rfl
          · exact xgood (xmlw_in _ (List.mem_map.mpr ⟨_, ho1, rfl⟩))
          · exact xgood (hin _ (by simp))
          · exact xgood (hin _ (by simp))
        · exact xws_good ho5 w hw
      show W p l e R s0 m args below meth c H locs cells slots Qf (F0 m pc0 LS ((As0 ++ r).map (xcv ad)))
      rw [hst]
      refine xgo (va_runS (As := As0.reverse.map (xcv ad)) (rest := r.map (xcv ad)) ⟨hx, hb, hml, hown, hts⟩ (h l E ad H.size) (va_cwS (xna b) hts hG rfl rfl rfl ⟨f2, f3, f4⟩ ⟨by show d + 1 ≤ _; exact hfr, by show 8 + (_ + 11) + 64 * d ≤ _; omega⟩) ⟨xPc_blind _ _ _ _ _ _, fun U hU hW => ⟨rfl, by rw [hU], by rw [hU]; exact hKs.to hW hS.2.1 hS.1 hF, by rw [hU]; exact hP, hD.weaken (fun k hk => Or.inl ⟨k, hk, rfl⟩), hSc⟩⟩ rfl (by rw [List.length_map, List.length_reverse, hlen, ho4]) hL.size rfl (lv_room (xfit_e ad hc)) hdec ⟨hce, hsl⟩) hS hF (fun r1 s' H1 locs1 hq g1 g2 g3 => ?_)
      cases r1 with
      | none => exact go _ _ _ _ _ _ _ hq ⟨g1, hD, g3, hL, g2, hLk⟩
      | some v => exact go _ _ _ _ _ _ _ hq ⟨g1, hD, g3, hL, g2, hLk⟩
    · skip
      have hox : (decide ((own, idx, b) ∈ xnsL) && Nat.beq (xmk b) 1 && Nat.beq a (xna b) && Nat.blt b 233) = true := hox
      rw [Bool.and_eq_true, Bool.and_eq_true, Bool.and_eq_true, decide_eq_true_eq] at hox
      obtain ⟨⟨⟨ho1, ho2⟩, ho4⟩, ho5⟩ := hox
      have ho2 := Nat.eq_of_beq_eq_true ho2
      have ho4 := Nat.eq_of_beq_eq_true ho4
      have ho5 : b < 233 := Nat.le_of_ble_eq_true ho5
      have h9 : xpop a st [] fun As r => xif (xfit r 8) (xP d L b As s (xkr (fun st s => K (pc0 + 3) ls st s) r)) := h
      clear h
      obtain ⟨As0, r, hlen, rfl, h⟩ := xpop_e h9
      clear h9
      rw [List.append_nil] at h
      obtain ⟨hc, h⟩ := xif_e h
      obtain ⟨f1, f2, f3, f4, f5, f6⟩ := xmf_e ho5
      have hst : (As0 ++ r).map (xcv ad) = (As0.reverse.map (xcv ad)).reverse ++ r.map (xcv ad) := by simp
      have hF : ∀ q, xFr ad L.length H.size q → A q := fun q hq => by
        rcases hq with ⟨k, hk, rfl⟩ | hq
        · exact hD.2 k hk
        · exact hA q (Nat.le_trans hS.1 hq)
      have hmw : xmw b = .code (xsg b).1 (xsg b).2.1 (xsg b).2.2.1 (xsg b).2.2.2 :: .initialized (xsg b).1.cls :: [.static (xsg b).1] := by unfold xmw; rw [ho2]; rfl
      have hin := xmw_in ho5
      rw [hmw] at hin
      have hnl : va_Nw (.methodLinkNest (xnm own) idx (xsg b).1 "WrongEnd") s0 := xnest hKs.2.2.2.2.2.2.2 ho1
      show W p l e R s0 m args below meth c H locs cells slots Qf (F0 m pc0 LS ((As0 ++ r).map (xcv ad)))
      rw [hst]
      refine xgo (va_runSN (As := As0.reverse.map (xcv ad)) (rest := r.map (xcv ad)) ⟨hx, hb, hml, hown, hts⟩ (h l E ad H.size) (⟨va_cnB (xna b) hts (xws_good ho5) rfl rfl rfl hnl (hts _ (hin _ (by simp))) ⟨f2, f3, f4⟩ ⟨by show d + 1 ≤ _; exact hfr, by show 8 + (_ + 11) + 64 * d ≤ _; omega⟩, hts _ (hin _ (by simp)), trivial⟩) ⟨xPc_blind _ _ _ _ _ _, fun U hU hW => ⟨rfl, by rw [hU], by rw [hU]; exact hKs.to hW hS.2.1 hS.1 hF, by rw [hU]; exact hP, hD.weaken (fun k hk => Or.inl ⟨k, hk, rfl⟩), hSc⟩⟩ rfl (by rw [List.length_map, List.length_reverse, hlen, ho4]) hL.size rfl (lv_room (xfit_e ad hc)) hdec ⟨hce, hsl⟩) hS hF (fun r1 s' H1 locs1 hq g1 g2 g3 => ?_)
      cases r1 with
      | none => exact go _ _ _ _ _ _ _ hq ⟨g1, hD, g3, hL, g2, hLk⟩
      | some v => exact go _ _ _ _ _ _ _ hq ⟨g1, hD, g3, hL, g2, hLk⟩
    · skip
      obtain ⟨k, sp, k2, dp, n, r, rfl, h⟩ := xcp_e h
      obtain ⟨q1, hw1, h⟩ := xopm_e h
      obtain ⟨q2, hw, h⟩ := xopm_e h
      obtain ⟨hcc, x, y, z, ⟨rfl, rfl, rfl, n4, n5⟩, hh⟩ := xif_e h
      have b1 := (hLk.2 _ _ hw1).2
      have b2 := (hLk.2 _ _ hw).2
      have c1 : (nI x).toNatClampNeg = x := nI_clamp (by omega)
      have c2 : (nI y).toNatClampNeg = y := nI_clamp (by omega)
      have c3 : (nI z).toNatClampNeg = z := nI_clamp (by omega)
      rw [Bool.and_eq_true, Bool.and_eq_true] at hcc
      have hc1 := Nat.eq_of_beq_eq_true hcc.1.1
      have hc2 := Nat.eq_of_beq_eq_true hcc.1.2
      have he1 := xwo_at (cA := E.2.2.1) (ad := ad) (s := s) hw1
      rw [xce_i hc1] at he1
      have he2 := xwo_at (cA := E.2.2.1) (ad := ad) (s := s) hw
      rw [xce_i hc2] at he2
      have hkl : k2 < 900 := by
        have := hLk.1
        rw [xnth_get] at hw
        have := (List.getElem?_eq_some_iff.mp hw).1
        omega
      have hcat := xfit_e ad hcc.2
      have hnf : nativeFrameWords "java/lang/System" "arraycopy" 5 = 7 := by decide +kernel
      refine va_copyi hx hb (by rw [hml, hL.size]) hown (hts _ (xac_in (own, idx) (of_decide_eq_true hox))) (hts _ (xac_w _ (by simp))) (hts _ (xac_w _ (by simp))) (hts _ (xac_w _ (by simp))) hKs.1 hP (hD.va _ _) hS k k2 0 0 he1 he2 (ty := .int) rfl rfl rfl (nI_pos (by omega)) (nI_pos (by omega)) (nI_pos (by omega)) (by rw [c1, c3]; exact n4) (by rw [c2, c3]; exact n5) (fun _ _ => rfl) (by omega) (by rw [hnf]; omega) hdec (fun H1 locs1 g1 g2 g3 => ?_)
      rw [c1, c2, c3, xwo_set (s' := (va_up s.1 k2 (va_cpy (s.1 k) (s.1 k2) x y z), s.2)) hw (by rw [xce_i hc2]; show _ = Sum.inl (_, _, Sum.inl (va_up s.1 k2 _ k2)); rw [va_up_self]) (fun i hi => va_up_ne _ _ hi) (fun i hi => rfl)] at g1
      exact go _ _ _ _ _ _ _ hh ⟨g1, hD, g3, hL, ⟨by rw [← hSc.1]; exact va_up_ne _ _ (by omega), by rw [← hSc.2]; exact congrFun (va_up_ne _ _ (by omega)) 0⟩, hLk⟩
    · cases hox
  | ireturn =>
    obtain rfl : nx = pc0 + 1 := Nat.eq_of_beq_eq_true hnx
    have h9 : xrti c0 st fun v => Q (some (.int v)) s := h
    clear h
    unfold xrti at h9
    split at h9
    · rename_i v
      match c0, h9, hox with
      | 0, h, hox => exact RT _ _ _ _ _ _ h hP hS hSc ⟨hdec, .int, of_decide_eq_true hox, rfl⟩
      | 1, h, hox => exact RT _ _ _ _ _ _ h.2 hP hS hSc ⟨hdec, .boolean, of_decide_eq_true hox, (xvz v h.1).1⟩
      | n + 2, h, hox =>
        obtain ⟨⟨n1, hn1, rfl⟩, h⟩ := h
        have hox : (decide ((xsg mn).2.2.2 = some .char) || decide ((xsg mn).2.2.2 = some .byte)) = true := hox
        rw [Bool.or_eq_true, decide_eq_true_eq, decide_eq_true_eq] at hox
        rcases hox with hox | hox
        · exact RT _ _ _ _ _ _ h hP hS hSc ⟨hdec, .char, hox, (pk_charN (by omega)).1⟩
        · exact RT _ _ _ _ _ _ h hP hS hSc ⟨hdec, .byte, hox, xvb n1 hn1⟩
    · exact h9.elim
  | lreturn =>
    obtain rfl : nx = pc0 + 1 := Nat.eq_of_beq_eq_true hnx
    have h9 : xrtl st fun v => Q (some (.long v)) s := h
    clear h
    unfold xrtl at h9
    split at h9
    · exact RT _ _ _ _ _ _ h9 hP hS hSc ⟨hdec, of_decide_eq_true hox⟩
    · exact h9.elim
  | return_ =>
    obtain rfl : nx = pc0 + 1 := Nat.eq_of_beq_eq_true hnx
    have h9 : xrtv st (Q none s) := h
    clear h
    unfold xrtv at h9
    split at h9
    · exact RT _ _ _ _ _ _ h9 hP hS hSc ⟨hdec, of_decide_eq_true hox⟩
    · exact h9.elim
  | _ => exact False.elim h
