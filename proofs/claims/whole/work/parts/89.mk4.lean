/-! the making machine is the machine -/
set_option maxHeartbeats 8000000 in
set_option maxRecDepth 100000 in
theorem yst_sound {d : Nat} {M : xM} {Z : yQ} {Q : xQ} {mc ms : Nat} {K : yKT} {pc : Nat} {ls : xLs} {st : List Value} {L : xLa} {s : xS} {kc ks : Nat} (hK : ∀ pc ls st L s kc ks, K pc ls st L s kc ks → yX d M Z Q mc ms pc ls st L s kc ks) (h : yst (yP d) (xP d) Z Q mc ms K M pc ls st L s kc ks) : yX d M Z Q mc ms pc ls st L s kc ks := by
  intro p l e R s0 m args below meth c Qf E ad0 n0 A CX RT ZT ad H locs LS hag hn0 hkc hks hI
  have go : ∀ (nx : Nat) (ls : xLs) (st : List Value) (L : xLa) (s : xS) (kc ks : Nat) (ad : Nat → Nat) (H : Heap) (locs : List Loc) (LS : Array Slot), K nx ls st L s kc ks → yag n0 ad0 ad → n0 ≤ L.length → kc ≤ mc → ks ≤ ms → xI E ad A L s s0 H locs (xsg M.1).2.2.1 LS ls → W p l e R s0 m args below meth c H locs kc ks Qf (F0 m nx LS (st.map (xcv ad))) := fun nx ls st L s kc ks ad H locs LS hk h1 h2 h3 h4 hi => hK nx ls st L s kc ks hk p l e R s0 m args below meth c Qf E ad0 n0 A CX RT ZT ad H locs LS h1 h2 h3 h4 hi
  obtain ⟨⟨hx, hb, hml, hown⟩, hts, hKs0, ⟨hfr, hlo, hce, hsl⟩, hA, hok, hname⟩ := CX
  have hKs := hKs0.ag hag
  have hI' := hI
  obtain ⟨hP, hD, hS, hL, hSc, hLk⟩ := hI
  obtain ⟨mn, own, code, sws⟩ := M
  unfold yst at h
  dsimp only at h
  cases hfd : xfd code pc with
  | none => rw [hfd] at h; exact h.elim
  | some q =>
  obtain ⟨pc0, i, nx, a, b, c0⟩ := q
  rw [hfd] at h
  dsimp only at h
  obtain ⟨hmem, hpc⟩ := xfd_e hfd
  have hpc : pc0 = pc := hpc
  subst hpc
  have hq : yoke own (xsg mn) sws (pc0, i, nx, a, b, c0) = true := List.all_eq_true.mp hok _ hmem
  have hq0 := hq
  unfold yoke at hq
  rw [Bool.and_eq_true, Bool.and_eq_true, decide_eq_true_eq] at hq
  obtain ⟨⟨hdec, hnx⟩, hox⟩ := hq
  clear hmem hfd hok
  have XT : xRet p l e R s0 m args below meth c kc ks Qf E ad A L (mn, own, code, sws) Q := ZT L ad kc ks hkc hks hag hn0
  have gx : ∀ (nx : Nat) (ls : xLs) (st : List Value) (s : xS) (H : Heap) (locs : List Loc) (LS : Array Slot), K nx ls st L s kc ks → xI E ad A L s s0 H locs (xsg mn).2.2.1 LS ls → W p l e R s0 m args below meth c H locs kc ks Qf (F0 m nx LS (st.map (xcv ad))) := fun nx ls st s H locs LS hk hi => go nx ls st L s kc ks ad H locs LS hk hag hn0 hkc hks hi
  cases i with
  | new idx =>
    obtain rfl : nx = pc0 + 3 := Nat.eq_of_beq_eq_true hnx
    have hox : (decide ((own, idx, a) ∈ ynwL) && Nat.blt a 10) = true := hox
    rw [Bool.and_eq_true, decide_eq_true_eq] at hox
    obtain ⟨_, rfl, h3⟩ := h
    obtain ⟨hc, ⟨h1, h2⟩, h4⟩ := xif_e h3
    obtain ⟨c1, c2, c3, c4⟩ := ychk_e hc
    refine y_new hx hb hown hts hKs hA hI' hox.1 (Nat.le_of_ble_eq_true hox.2) c2 c3 c4 (by omega) (by omega) hdec (fun q H1 hi => ?_)
    have g := go _ _ _ _ _ _ _ (va_up ad L.length q) H1 locs LS h4 (hag.tr (yag_up (by omega)) hn0) (by rw [List.length_append]; omega) h1 h2 hi
    rw [List.map_cons, ygs_e (yag_up (by omega)) c1] at g
    rw [show xcv (va_up ad L.length q) (.ref L.length) = .ref q from congrArg Value.ref (va_up_self _ _ _)] at g
    exact g
  | newarray t =>
    obtain rfl : nx = pc0 + 2 := Nat.eq_of_beq_eq_true hnx
    obtain ⟨x, r, rfl, _, rfl, h3⟩ := xi1_e h
    obtain ⟨hc, n, ⟨rfl, hn, h1, h2⟩, h4⟩ := xif_e h3
    obtain ⟨c1, c2, c3, c4⟩ := ychk_e hc
    have fin : ∀ (q : Nat) (H1 : Heap), xI E (va_up ad L.length q) A (L ++ [(a, n, [])]) (xZr s L.length) s0 H1 locs (xsg mn).2.2.1 LS ls → W p l e R s0 m args below meth c H1 locs (kc + 1) (ks + n) Qf (F0 m (pc0 + 2) LS (.ref q :: r.map (xcv ad))) := fun q H1 hi => by
      have g := go _ _ _ _ _ _ _ (va_up ad L.length q) H1 locs LS h4 (hag.tr (yag_up (by omega)) hn0) (by rw [List.length_append]; omega) h1 h2 hi
      rw [List.map_cons, ygs_e (yag_up (by omega)) c1] at g
      rw [show xcv (va_up ad L.length q) (.ref L.length) = .ref q from congrArg Value.ref (va_up_self _ _ _)] at g
      exact g
    have hox : (match (generalizing := false) a with | 100 => decide (newarray.typeOf t = .int) | 101 => decide (newarray.typeOf t = .boolean) | 102 => decide (newarray.typeOf t = .long) | _ => false) = true := hox
    split at hox
    · exact y_newa (ty := .int) (t0 := 0) (a0 := (n, .inl (fun _ => nI 0))) hx hb hts hKs hA hI' (of_decide_eq_true hox) (yar_w _ (by simp)) rfl (fun cA hc => hc) (by decide) c2 c3 c4 hn (by show n * 4 ≤ _; omega) (fun cA => by rw [nI_0]; rfl) (fun ad' => by rw [xce_i rfl]; show _ = Sum.inl (_, _, Sum.inl (va_up _ _ _ _)); rw [va_up_self]) (by omega) (by omega) hdec fin
    · exact y_newa (ty := .boolean) (t0 := 1) (a0 := (n, .inl (fun _ => nI 0))) hx hb hts hKs hA hI' (of_decide_eq_true hox) (yar_w _ (by simp)) rfl (fun cA hc => hc) (by decide) c2 c3 c4 hn (by show n * 1 ≤ _; omega) (fun cA => by rw [nI_0]; rfl) (fun ad' => by rw [xce_z rfl]; show _ = Sum.inl (_, _, Sum.inl (va_up _ _ _ _)); rw [va_up_self]) (by omega) (by omega) hdec fin
    · exact y_newa (ty := .long) (t0 := 2) (a0 := (n, .inr (.inl (fun _ => 0)))) hx hb hts hKs hA hI' (of_decide_eq_true hox) (yar_w _ (by simp)) rfl (fun cA hc => hc) (by decide) c2 c3 c4 hn (by show n * 8 ≤ _; omega) (fun cA => rfl) (fun ad' => by rw [xce_l rfl]; show _ = Sum.inl (_, _, Sum.inr (Sum.inl (va_up _ _ _ _))); rw [va_up_self]) (by omega) (by omega) hdec fin
    · cases hox
  | anewarray idx =>
    obtain rfl : nx = pc0 + 3 := Nat.eq_of_beq_eq_true hnx
    have hox : (Nat.beq own 8 && Nat.beq idx 46) = true := hox
    rw [Bool.and_eq_true] at hox
    obtain rfl : own = 8 := Nat.eq_of_beq_eq_true hox.1
    obtain rfl : idx = 46 := Nat.eq_of_beq_eq_true hox.2
    obtain ⟨x, r, rfl, _, rfl, h3⟩ := xi1_e h
    obtain ⟨hc, n, ⟨rfl, hn, h1, h2⟩, h4⟩ := xif_e h3
    obtain ⟨c1, c2, c3, c4⟩ := ychk_e hc
    refine y_newq hx hb hown hts hKs hA hI' c2 c3 c4 hn (by omega) (by omega) hdec (fun q H1 hi => ?_)
    have g := go _ _ _ _ _ _ _ (va_up ad L.length q) H1 locs LS h4 (hag.tr (yag_up (by omega)) hn0) (by rw [List.length_append]; omega) h1 h2 hi
    rw [List.map_cons, ygs_e (yag_up (by omega)) c1] at g
    rw [show xcv (va_up ad L.length q) (.ref L.length) = .ref q from congrArg Value.ref (va_up_self _ _ _)] at g
    exact g
  | multianewarray idx dm =>
    obtain rfl : nx = pc0 + 4 := Nat.eq_of_beq_eq_true hnx
    have hox : (Nat.beq own 5 && Nat.beq idx 36 && decide (dm = 2)) = true := hox
    rw [Bool.and_eq_true, Bool.and_eq_true, decide_eq_true_eq] at hox
    obtain rfl : own = 5 := Nat.eq_of_beq_eq_true hox.1.1
    obtain rfl : idx = 36 := Nat.eq_of_beq_eq_true hox.1.2
    obtain rfl : dm = 2 := hox.2
    obtain ⟨x, y, r, rfl, _, rfl, h3⟩ := xi2_e h
    obtain ⟨hc, n, k, ⟨rfl, rfl, hn, hk, h1, h2⟩, h4⟩ := xif_e h3
    obtain ⟨c1, c2, c3, c4⟩ := ychk_e hc
    refine y_mna hx hb hown hts hKs hA hI' c2 c3 c4 hn hk (by omega) (by omega) hdec (fun ad' H1 ha hi => ?_)
    have g := go _ _ _ _ _ _ _ ad' H1 locs LS h4 (hag.tr ha hn0) (by rw [List.length_append, List.length_append]; omega) (by omega) (by omega) hi
    rw [List.map_cons, ygs_e ha c1] at g
    exact g
  | putfield idx =>
    rcases c0 with _ | c0
    · exact xex_gen hx hb hml hown hts hKs hfr hlo (by omega) (by omega) hA XT hI' gx hq0 h
    · obtain rfl : nx = pc0 + 3 := Nat.eq_of_beq_eq_true hnx
      have hox : (decide ((own, idx, a, b) ∈ xfl) && (xTb a b).2.2.2 && Nat.beq own a) = true := hox
      rw [Bool.and_eq_true, Bool.and_eq_true, decide_eq_true_eq] at hox
      obtain ⟨⟨ho1, ho2⟩, ho3⟩ := hox
      have ho3 := Nat.eq_of_beq_eq_true ho3
      have ha := xfl_a _ ho1
      dsimp only at ha
      have hnm := hname (by show own < 10; omega)
      have h3 : (match (generalizing := false) xfk a b with
        | 0 => xpi st fun k x r => xopm (xnth L k) fun kd _ _ => xif (Nat.beq kd a) (K (pc0 + 3) ls r L (xW s k b x) kc ks)
        | 2 => yrr st fun k q r => xopm (xnth L k) fun kd n ps => xif (Nat.beq kd a && Nat.beq ps.length (xN a)) (K (pc0 + 3) ls r (L.set k (kd, n, ps.set b (some q))) s kc ks)
        | _ => False) := h
      clear h
      split at h3
      · rename_i hk
        obtain ⟨k, x, r, rfl, h4⟩ := xpi_e h3
        obtain ⟨cell, hw, h5⟩ := xopm_e h4
        obtain ⟨hc, h⟩ := xif_e h5
        exact y_pfi hx hb hown hts hKs hI' ho1 ho2 ho3 hnm hw (Nat.eq_of_beq_eq_true hc) hk hdec (fun H1 locs1 hi => gx _ _ _ _ _ _ _ h hi)
      · rename_i hk
        obtain ⟨k, q, r, rfl, h4⟩ := yrr_e h3
        obtain ⟨cell, hw, h5⟩ := xopm_e h4
        obtain ⟨kd, n, ps⟩ := cell
        dsimp only at h5
        obtain ⟨hc, h⟩ := xif_e h5
        rw [Bool.and_eq_true] at hc
        obtain rfl : kd = a := Nat.eq_of_beq_eq_true hc.1
        exact y_pfr hx hb hown hts hKs hI' ho1 ho2 ho3 hnm hw (Nat.eq_of_beq_eq_true hc.2) hk hdec (fun H1 locs1 hi => go _ _ _ _ _ _ _ ad H1 locs1 LS h hag (by rw [List.length_set]; exact hn0) hkc hks hi)
      · exact h3.elim
  | aastore =>
    obtain rfl : nx = pc0 + 1 := Nat.eq_of_beq_eq_true hnx
    obtain ⟨k, j, q, r, rfl, h3⟩ := yri_e h
    obtain ⟨⟨kd, n, ps⟩, hw, h4⟩ := xopm_e h3
    obtain ⟨⟨kq, nq, pq⟩, hw2, h5⟩ := xopm_e h4
    dsimp only at h5
    obtain ⟨hc, z, ⟨hz, rfl⟩, h6⟩ := xif_e h5
    rw [Bool.and_eq_true, Bool.and_eq_true] at hc
    obtain rfl : kd = 103 := Nat.eq_of_beq_eq_true hc.1.1
    obtain rfl : kq = 3 := Nat.eq_of_beq_eq_true hc.1.2
    exact y_ast hx hb hKs hI' hw hw2 (Nat.eq_of_beq_eq_true hc.2) hz hdec (fun H1 locs1 hi => go _ _ _ _ _ _ _ ad H1 locs1 LS h6 hag (by rw [List.length_set]; exact hn0) hkc hks hi)
  | invokespecial idx =>
    obtain rfl : nx = pc0 + 3 := Nat.eq_of_beq_eq_true hnx
    rcases c0 with _ | c0
    · obtain ⟨k, r, rfl, h3⟩ := xr1_e h
      obtain ⟨hc, h4⟩ := xif_e h3
      exact y_obj hx hb hml hown hts hL (of_decide_eq_true hox) (by omega) (by omega) hc hdec (gx _ _ _ _ _ _ _ h4 hI')
    · have h9 : xpop (a + 1) st [] fun As r => xif (xfit r 8 && (ygs L.length r && (ygl L.length ls && yhd As))) ((kc + (ymc b).1 ≤ mc ∧ ks + (ymc b).2 ≤ ms) ∧ yP d L b As s (fun L' s' => K (pc0 + 3) ls r L' s' (kc + (ymc b).1) (ks + (ymc b).2))) := h
      clear h
      obtain ⟨As0, r, hlen, rfl, h⟩ := xpop_e h9
      clear h9
      rw [List.append_nil] at h
      obtain ⟨hc, ⟨h1, h2⟩, h⟩ := xif_e h
      rw [Bool.and_eq_true, Bool.and_eq_true, Bool.and_eq_true] at hc
      have hw : b < 233 ∧ xmk b = 2 ∧ a = xna b ∧ (xsg b).1.name = "<init>" ∧ (xsg b).2.2.2 = none ∧ (Cond.methodLink (xnm own) idx (xsg b).1 ∈ xWs ∨ va_Nw (.methodLinkNest (xnm own) idx (xsg b).1 "WrongEnd") s0) := by
        rcases c0 with _ | c0
        · have hox : (decide ((own, idx, b) ∈ xml) && (Nat.beq (xmk b) 2 && (Nat.beq a (xna b) && (Nat.blt b 233 && (decide ((xsg b).1.name = "<init>") && decide ((xsg b).2.2.2 = none)))))) = true := hox
          rw [Bool.and_eq_true, Bool.and_eq_true, Bool.and_eq_true, Bool.and_eq_true, Bool.and_eq_true, decide_eq_true_eq, decide_eq_true_eq, decide_eq_true_eq] at hox
          exact ⟨Nat.le_of_ble_eq_true hox.2.2.2.1, Nat.eq_of_beq_eq_true hox.2.1, Nat.eq_of_beq_eq_true hox.2.2.1, hox.2.2.2.2.1, hox.2.2.2.2.2, Or.inl (xmlw_in _ (List.mem_map.mpr ⟨_, hox.1, rfl⟩))⟩
        · have hox : (((Nat.beq own 8 && (Nat.beq idx 32 && Nat.beq b 78)) || (Nat.beq own 2 && (Nat.beq idx 20 && Nat.beq b 20))) && Nat.beq a 0) = true := hox
          rw [Bool.and_eq_true, Bool.or_eq_true, Bool.and_eq_true, Bool.and_eq_true, Bool.and_eq_true, Bool.and_eq_true] at hox
          obtain ⟨h9, ha9⟩ := hox
          obtain rfl : a = 0 := Nat.eq_of_beq_eq_true ha9
          obtain ⟨n1, n2, -⟩ := hKs.2.2.2.2.2.2.2
          rcases h9 with ⟨q1, q2, q3⟩ | ⟨q1, q2, q3⟩
          · obtain rfl : own = 8 := Nat.eq_of_beq_eq_true q1
            obtain rfl : idx = 32 := Nat.eq_of_beq_eq_true q2
            obtain rfl : b = 78 := Nat.eq_of_beq_eq_true q3
            exact ⟨by decide, by decide +kernel, by decide +kernel, by decide +kernel, by decide +kernel, Or.inr n1⟩
          · obtain rfl : own = 2 := Nat.eq_of_beq_eq_true q1
            obtain rfl : idx = 20 := Nat.eq_of_beq_eq_true q2
            obtain rfl : b = 20 := Nat.eq_of_beq_eq_true q3
            exact ⟨by decide, by decide +kernel, by decide +kernel, by decide +kernel, by decide +kernel, Or.inr n2⟩
      obtain ⟨w1, w2, w3, w4, w5, w6⟩ := hw
      cases hAs : As0.reverse with
      | nil =>
        have : As0.length = 0 := by rw [← List.length_reverse, hAs]; rfl
        omega
      | cons v As' =>
        rw [hAs] at h hc
        have hA0 : As0 = As'.reverse ++ [v] := by rw [← List.reverse_reverse As0, hAs, List.reverse_cons]
        have hl2 : As'.length = a := by rw [hA0] at hlen; simp at hlen; exact hlen
        cases v with
        | ref k =>
          have hst : (As0 ++ r).map (xcv ad) = (As'.map (xcv ad)).reverse ++ .ref (ad k) :: r.map (xcv ad) := by rw [hA0]; simp [xcv]
          show W p l e R s0 m args below meth c H locs kc ks Qf (F0 m pc0 LS ((As0 ++ r).map (xcv ad)))
          rw [hst]
          exact y_call hx hb hml hown hts hKs hfr hlo hA hI' w1 w2 w4 w5 w6 (hl2.trans w3) hc.1 hc.2.1 hc.2.2.1 (by omega) (by omega) hdec h (fun L' s' ad' H1 locs1 z1 z2 z3 z4 => go _ _ _ _ _ _ _ ad' H1 locs1 LS z1 (hag.tr z2 hn0) (by omega) h1 h2 z4)
        | _ => exact absurd hc.2.2.2 (by intro z; cases z)
  | return_ =>
    obtain ⟨rfl, h3⟩ := xrtv_e' h
    have hr : (xsg mn).2.2.2 = none := of_decide_eq_true hox
    exact W.widen hkc hks (RT L s ad H locs pc0 LS h3 hag hn0 hP hD hS hSc hLk hdec hr)
  | _ => exact xex_gen hx hb hml hown hts hKs hfr hlo (by omega) (by omega) hA XT hI' gx hq0 h
theorem yrn_sound {d : Nat} {M : xM} {Z : yQ} {Q : xQ} {mc ms : Nat} (stops : Nat → Bool) : ∀ (n : Nat) (pc : Nat) (ls : xLs) (st : List Value) (L : xLa) (s : xS) (kc ks : Nat), yrn (yP d) (xP d) Z Q mc ms (yX d M Z Q mc ms) M stops n pc ls st L s kc ks → yX d M Z Q mc ms pc ls st L s kc ks
  | 0, _, _, _, _, _, _, _, h => h
  | n + 1, pc, ls, st, L, s, kc, ks, h => by
    unfold yrn at h
    cases hb : stops pc with
    | true => rw [hb] at h; exact h
    | false =>
      rw [hb] at h
      exact yst_sound (yrn_sound stops n) h
set_option maxHeartbeats 4000000 in
theorem yP_in {d : Nat} {M : xM} {Z : yQ} {L : xLa} {As : List Value} {s : xS} (hok : yok M = true) (hM : M.1 < 233) (hmc : xmc M.1 = M.2.1) (hnm : (xsg M.1).1.name = "<init>") (hLk : xLok L) (h : xenk (xsg M.1).2.2.1 As fun ls => yX d M Z (fun _ _ => False) (ymc M.1).1 (ymc M.1).2 0 ls [] L s 0 0) : yP (d + 1) L M.1 As s Z := by
  intro l E ad sz
  obtain ⟨f1, f2, f3, f4, f5, f6⟩ := xmf_e hM
  refine xMetF (cc := (xsg M.1).2.1) (maxL := (xsg M.1).2.2.1) (ret := (xsg M.1).2.2.2) f5 rfl ?_
  intro p e s0 m args below meth c s₁ B hml hv
  obtain ⟨rfl, hsz, hKs, hP, hD, hSc⟩ := hv
  have hts : ∀ w ∈ xws M.1, w.before ((As.map (xcv ad)).toArray) s0 = true := atoms_spec (ws := xws M.1) B.pre
  have hown : s0.vm.findClass (xnm M.2.1) = some m.cls := by
    rw [← hmc, ← f1]
    exact findClass_of_methodNamed B.named
  have hin : meth.name = "<init>" := (name_of_methodNamed B.named B.method).1.trans hnm
  obtain ⟨ls, hX, hle, hinL⟩ := xenk_e ad 0 h
  rw [lg_entry_eq]
  have hl := lv_entry (As.map (xcv ad)) hle
  subst hsz
  have hlocks := B.notSynchronized
  have hret := B.returns
  refine hX p l e _ s0 m _ below meth c _ E ad L.length (xFr ad L.length s0.heap.size) ⟨⟨B.exec, B.bytes, hml, hown⟩, fun w hw => hts w (List.mem_cons_of_mem _ hw), hKs, ⟨Nat.le_refl _, Nat.le_refl _, Nat.le_refl _, Nat.le_refl _⟩, fun q hq => Or.inr hq, hok, fun _ => hin⟩ ?_ (fun L ad kc ks _ _ _ _ r s H locs pc LS hq => hq.elim) ad s0.heap [] _ (fun _ _ => rfl) (Nat.le_refl _) (Nat.zero_le _) (Nat.zero_le _) ⟨hP, hD, va_S.rf, ⟨_, hl, fun i v hv => by have := hinL i v hv; rw [Nat.zero_add] at this; exact this⟩, hSc, hLk⟩
  intro L' s' ad' H locs pc LS hQ hag hn0 hP' hD' hS' hSc' hLk' hdec hr
  exact W.vret B.exec B.bytes (by rw [hret, hr]) (fun t ht hW => ⟨⟨rfl, L', s', ad', hQ, hag, hn0, by rw [ht]; exact hP', hD', hSc', hLk'⟩, hS'.F ht⟩) (fun q hq => hS'.2.2 q hq) hdec
theorem yX_of {d : Nat} {M M2 : xM} {Z : yQ} {Q : xQ} {mc ms pc : Nat} {ls : xLs} {st : List Value} {L : xLa} {s : xS} {kc ks : Nat} (hok : xok M2 = true) (e1 : M2.1 = M.1) (e2 : M2.2.1 = M.2.1) (h : xX d M2 Q L pc ls st s) : yX d M Z Q mc ms pc ls st L s kc ks := by
  intro p l e R s0 m args below meth c Qf E ad0 n0 A CX RT ZT ad H locs LS hag hn0 hkc hks hI
  obtain ⟨⟨hx, hb, hml, hown⟩, hts, hKs0, ⟨hfr, hlo, hce, hsl⟩, hA, hok', hname⟩ := CX
  refine h p l e R s0 m args below meth c kc ks Qf E ad A ⟨⟨hx, by rw [e1]; exact hb, by rw [e1]; exact hml, by rw [e2]; exact hown⟩, hts, hKs0.ag hag, ⟨hfr, hlo, by omega, by omega⟩, hA, hok⟩ ?_ H locs LS (by rw [e1]; exact hI)
  intro r s' H' locs' pc' LS' q1 q2 q3 q4 q5
  refine ZT L ad kc ks hkc hks hag hn0 r s' H' locs' pc' LS' q1 q2 q3 q4 ?_
  unfold xretd at q5 ⊢
  rw [e1] at q5
  exact q5
