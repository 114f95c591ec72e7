/-! String.checkIndex, by the machine itself -/
set_option maxRecDepth 100000 in
theorem kck_w : ∀ w ∈ [Cond.fieldLink (xnm 13) 1053 "jdk/internal/util/Preconditions" "SIOOBE_FORMATTER" "Ljava/util/function/BiFunction;", Cond.methodLink (xnm 13) 1059 yJ3_checkIndex_8e157, Cond.static yJ3_checkIndex_8e157, Cond.initialized yJ3_checkIndex_8e157.cls, Cond.code yJ3_checkIndex_8e157 cJ3_checkIndex_8e157 3 (some .int)], w ∈ xWs := xWs_of [(2, 194), (2, 196), (2, 197), (1, 14), (2, 198)] rfl rfl
def kckP (i n : Nat) (v : Value) : Array Value → State → Prop := fun a _ => a = ([.int (nI i), .int (nI n), v] : List Value).toArray
def kckQ (i : Nat) : Array Value → State → Outcome → State → Prop := fun _ st oc t => oc = .returned (some (.int (nI i))) ∧ t.heap = st.heap
def kckV (v : Value) : Prop := v = .null ∨ ∃ t, v = .ref t
theorem kck3 {l : Launch} {d i n : Nat} {v : Value} (hi : i < n) (hn : n < 2 ^ 31) (hv : kckV v) : Met l yJ3_checkIndex_8e157 (Cond.code yJ3_checkIndex_8e157 cJ3_checkIndex_8e157 3 (some .int) :: []) (xrm d) (kckP i n v) (kckQ i) 0 0 (fun _ => False) := by
  refine xMetF (cc := cJ3_checkIndex_8e157) (maxL := 3) (ret := some .int) (by decide +kernel) rfl ?_
  intro p e s0 m args below meth c s₁ B hml hp
  have hp : args = ([.int (nI i), .int (nI n), v] : List Value).toArray := hp
  subst hp
  rw [lg_entry_eq]
  have hle : (lg_sl [.int (nI i), .int (nI n), v]).length ≤ 3 := by
    rcases hv with rfl | ⟨t, rfl⟩ <;> exact Nat.le_refl _
  have hl := lv_entry [.int (nI i), .int (nI n), v] hle
  have a0 := hl.2.2 (0, .int (nI i)) List.mem_cons_self
  have a1 := hl.2.2 (1, .int (nI n)) (List.mem_cons_of_mem _ List.mem_cons_self)
  have hlocks := B.notSynchronized
  refine lv_iload_n B.exec B.bytes (show decode cJ3_checkIndex_8e157 0 = .ok (.iload_n 0, 1) by decide +kernel) rfl a0 ?_
  refine lv_if_lt B.exec B.bytes (show decode cJ3_checkIndex_8e157 1 = .ok (.ifCond .lt 8, 3) by decide +kernel) (tgt := 9) (by decide) (fun hc => absurd (Or.inl hc) (vp_in_nI hi hn)) (fun _ => ?_)
  refine lv_iload_n B.exec B.bytes (show decode cJ3_checkIndex_8e157 4 = .ok (.iload_n 0, 1) by decide +kernel) rfl a0 ?_
  refine lv_iload_n B.exec B.bytes (show decode cJ3_checkIndex_8e157 5 = .ok (.iload_n 1, 1) by decide +kernel) rfl a1 ?_
  refine lv_icmp_lt B.exec B.bytes (show decode cJ3_checkIndex_8e157 6 = .ok (.if_icmp .lt 10, 3) by decide +kernel) (tgt := 16) (by decide) (fun _ => ?_) (fun hc => absurd (zlt hi hn) hc)
  refine lv_iload_n B.exec B.bytes (show decode cJ3_checkIndex_8e157 16 = .ok (.iload_n 0, 1) by decide +kernel) rfl a0 ?_
  exact W.iret B.exec B.bytes B.returns (fun t ht hW => ⟨rfl, ht⟩) (fun q hq => by cases hq) (show decode cJ3_checkIndex_8e157 17 = .ok (.ireturn, 1) by decide +kernel)
theorem kck {d : Nat} {L : xLa} {s : xS} {Q : xQ} {i n : Nat} (hi : i < n) (hn : n < 2 ^ 31) (hLk : xLok L) (hQ : Q none s) : xP (d + 2) L 228 [.int (nI i), .int (nI n)] s Q := by
  intro l E ad sz
  refine xMetF (cc := (xsg 228).2.1) (maxL := (xsg 228).2.2.1) (ret := (xsg 228).2.2.2) (by decide +kernel) rfl ?_
  intro p e s0 m args below meth c s₁ B hml hv
  obtain ⟨rfl, hsz, hKs, hP, hD, hSc⟩ := hv
  have hts0 : ∀ w ∈ xws 228, w.before (([.int (nI i), .int (nI n)] : List Value).map (xcv ad)).toArray s0 = true := atoms_spec (ws := xws 228) B.pre
  have hts : ∀ w ∈ xWs, w.before (([.int (nI i), .int (nI n)] : List Value).map (xcv ad)).toArray s0 = true := fun w hw => hts0 w (List.mem_cons_of_mem _ hw)
  have hown : s0.vm.findClass (xnm 13) = some m.cls := by
    rw [show xnm 13 = (xsg 228).1.cls by decide +kernel]
    exact findClass_of_methodNamed B.named
  have hlocks := B.notSynchronized
  have hret := B.returns
  subst hsz
  rw [lg_entry_eq]
  have e22 : (xsg 228).2.2.1 = 2 := by decide +kernel
  have e3 : (xsg 228).2.2.2 = none := by decide +kernel
  have hl := lv_entry (([.int (nI i), .int (nI n)] : List Value).map (xcv ad)) (n := (xsg 228).2.2.1) (by rw [e22]; exact Nat.le_refl 2)
  have a0 := hl.2.2 (0, .int (nI i)) List.mem_cons_self
  have a1 := hl.2.2 (1, .int (nI n)) (List.mem_cons_of_mem _ List.mem_cons_self)
  have fin : ∀ v, kckV v → va_Z "jdk/internal/util/Preconditions" "SIOOBE_FORMATTER" "Ljava/util/function/BiFunction;" v (xFr ad L.length s0.heap.size) s0 s0.heap → W p l e (headSpec (xws 228) (xrm (d + 2))).room s0 m (([.int (nI i), .int (nI n)] : List Value).map (xcv ad)).toArray below meth c s0.heap [] 0 0 (MQ below (xQc E ad L s0.heap.size Q) (([.int (nI i), .int (nI n)] : List Value).map (xcv ad)).toArray s0 0 0 (xFr ad L.length s0.heap.size)) (F0 m 2 ((lg_sl (([.int (nI i), .int (nI n)] : List Value).map (xcv ad)) ++ List.replicate ((xsg 228).2.2.1 - (lg_sl (([.int (nI i), .int (nI n)] : List Value).map (xcv ad))).length) Slot.unset).toArray) [.int (nI n), .int (nI i)]) := by
    intro v hkv hz
    refine va_gets B.exec B.bytes hz va_S.rf hown (hts _ (kck_w (Cond.fieldLink (xnm 13) 1053 "jdk/internal/util/Preconditions" "SIOOBE_FORMATTER" "Ljava/util/function/BiFunction;") (by simp))) (fun _ h => h) (show decode (xsg 228).2.1 2 = .ok (.getstatic 1053, 3) by decide +kernel) ?_
    have hG : GoodIn xWs (va_wsS (xnm 13) 1059 yJ3_checkIndex_8e157 (Cond.code yJ3_checkIndex_8e157 cJ3_checkIndex_8e157 3 (some .int) :: [])) := by
      intro w hw
      unfold va_wsS at hw
      rcases List.mem_append.mp hw with hw | hw
      · simp only [List.mem_cons, List.not_mem_nil, or_false] at hw
        rcases hw with rfl | rfl | rfl <;> exact xgood (kck_w _ (by simp))
      · rcases List.mem_singleton.mp hw with rfl
        exact xgood (kck_w _ (by simp))
    intro T hT X
    obtain ⟨v', st₀, t, T', L1, h0, X', hL1, e1, e2, ⟨hv, hh⟩, st⟩ := va_runS (As := [.int (nI i), .int (nI n), v]) (rest := []) ⟨B.exec, B.bytes, hml, hown, hts⟩ (kck3 (l := l) (d := d + 1) hi hn hkv) (va_cwS 3 hts hG rfl rfl rfl ⟨by decide +kernel, by decide +kernel, by decide +kernel⟩ ⟨by show d + 1 + 1 ≤ d + 2; omega, by show 8 + (3 + 11) + 64 * (d + 1) ≤ 64 * (d + 2); omega⟩) ⟨fun a U g mk h => h, fun U hU hW => rfl⟩ rfl rfl hl.1 rfl (lv_room (st := []) (by show (0 : Nat) ≤ 8; decide)) (show decode (xsg 228).2.1 5 = .ok (.invokestatic 1059, 3) by decide +kernel) ⟨Nat.zero_le _, Nat.zero_le _⟩ T hT X
    cases hv
    have hL : L1 = [] := by
      cases L1 with
      | nil => rfl
      | cons q r => exact (hL1 q List.mem_cons_self).elim
    subst hL
    have kk : W p l e (headSpec (xws 228) (xrm (d + 2))).room s0 m (([.int (nI i), .int (nI n)] : List Value).map (xcv ad)).toArray below meth c s0.heap [] 0 0 (MQ below (xQc E ad L s0.heap.size Q) (([.int (nI i), .int (nI n)] : List Value).map (xcv ad)).toArray s0 0 0 (xFr ad L.length s0.heap.size)) (F0 m 8 ((lg_sl (([.int (nI i), .int (nI n)] : List Value).map (xcv ad)) ++ List.replicate ((xsg 228).2.2.1 - (lg_sl (([.int (nI i), .int (nI n)] : List Value).map (xcv ad))).length) Slot.unset).toArray) [.int (nI i)]) := by
      refine lv_pop B.exec B.bytes (show decode (xsg 228).2.1 8 = .ok (.pop, 1) by decide +kernel) rfl ?_
      exact W.vret B.exec B.bytes (by rw [hret, e3]) (fun t ht hW => ⟨⟨none, s, rfl, hQ, by rw [ht]; exact hP, hSc⟩, (va_S.rf (A := xFr ad L.length s0.heap.size)).F ht⟩) (fun q hq => by cases hq) (show decode (xsg 228).2.1 9 = .ok (.return_, 1) by decide +kernel)
    obtain ⟨t2, b1, b2⟩ := kk T' (by rw [e1, hh, h0]) X'
    exact ⟨t2, st t2 b1, b2⟩
  refine lv_iload_n B.exec B.bytes (show decode (xsg 228).2.1 0 = .ok (.iload_n 0, 1) by decide +kernel) rfl a0 ?_
  refine lv_iload_n B.exec B.bytes (show decode (xsg 228).2.1 1 = .ok (.iload_n 1, 1) by decide +kernel) rfl a1 ?_
  rcases hKs.2.2.2.2.1 with hz | ⟨t, hz⟩
  · exact fin _ (Or.inl rfl) hz
  · exact fin _ (Or.inr ⟨t, rfl⟩) hz
theorem xrkk : xRk xX xP := ⟨xrules, fun _ _ _ _ _ _ hi hn hL hQ => kck hi hn hL hQ⟩
