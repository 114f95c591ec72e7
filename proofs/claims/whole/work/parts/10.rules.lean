/-! the rules of the small machine, proved of the machine: a run of instructions; a method from its entry -/
/-- the locals at a method's entry -/
def xenk : Nat → List Value → (xLs → Prop) → Prop
  | 0, [], k => k []
  | 0, _ :: _, _ => False
  | n + 1, [], k => xenk n [] (fun r => k (none :: r))
  | n + 1, v :: As, k => (match v with
    | .long x => (match n with
      | m + 1 => xenk m As (fun r => k (some (.long x) :: none :: r))
      | 0 => False)
    | .int x => xenk n As (fun r => k (some (.int x) :: r))
    | .ref x => xenk n As (fun r => k (some (.ref x) :: r))
    | _ => False)
theorem xlv_none (n : Nat) (i : Nat) : xlv (List.replicate n none) i = none := by
  induction n generalizing i with
  | zero => rfl
  | succ n ih =>
    cases i with
    | zero => rfl
    | succ i => exact ih i
theorem xenk_e : ∀ {n : Nat} {As : List Value} {k : xLs → Prop} (ad : Nat → Nat) (j : Nat), xenk n As k → ∃ ls, k ls ∧ (lg_sl (As.map (xcv ad))).length ≤ n ∧ ∀ i v, xlv ls i = some v → (j + i, xcv ad v) ∈ lv_args j (As.map (xcv ad))
  | 0, [], k, ad, j, h => ⟨[], h, Nat.le_refl _, fun i v hv => by cases hv⟩
  | 0, _ :: _, _, ad, j, h => h.elim
  | n + 1, [], k, ad, j, h => by
    obtain ⟨r, h1, h2, h3⟩ := xenk_e (n := n) (As := []) ad (j + 1) h
    refine ⟨none :: r, h1, Nat.zero_le _, fun i v hv => ?_⟩
    cases i with
    | zero => cases hv
    | succ i =>
      have := h3 i v hv
      cases this
  | n + 1, .int x :: As, k, ad, j, h => by
    obtain ⟨r, h1, h2, h3⟩ := xenk_e (n := n) (As := As) ad (j + 1) h
    refine ⟨_, h1, ?_, fun i v hv => ?_⟩
    · show (lg_sl (Value.int x :: As.map (xcv ad))).length ≤ _
      have : lg_sl (Value.int x :: As.map (xcv ad)) = .val (.int x) :: lg_sl (As.map (xcv ad)) := rfl
      rw [this, List.length_cons]
      omega
    · show _ ∈ lv_args j (Value.int x :: As.map (xcv ad))
      cases i with
      | zero => cases hv; exact List.mem_cons_self
      | succ i =>
        refine List.mem_cons_of_mem _ ?_
        have := h3 i v hv
        rw [show j + 1 + i = j + (i + 1) by omega] at this
        exact this
  | n + 1, .ref x :: As, k, ad, j, h => by
    obtain ⟨r, h1, h2, h3⟩ := xenk_e (n := n) (As := As) ad (j + 1) h
    refine ⟨_, h1, ?_, fun i v hv => ?_⟩
    · show (lg_sl (Value.ref (ad x) :: As.map (xcv ad))).length ≤ _
      have : lg_sl (Value.ref (ad x) :: As.map (xcv ad)) = .val (.ref (ad x)) :: lg_sl (As.map (xcv ad)) := rfl
      rw [this, List.length_cons]
      omega
    · show _ ∈ lv_args j (Value.ref (ad x) :: As.map (xcv ad))
      cases i with
      | zero => cases hv; exact List.mem_cons_self
      | succ i =>
        refine List.mem_cons_of_mem _ ?_
        have := h3 i v hv
        rw [show j + 1 + i = j + (i + 1) by omega] at this
        exact this
  | 1, .long x :: As, k, ad, j, h => h.elim
  | n + 2, .long x :: As, k, ad, j, h => by
    obtain ⟨r, h1, h2, h3⟩ := xenk_e (n := n) (As := As) ad (j + 2) h
    refine ⟨_, h1, ?_, fun i v hv => ?_⟩
    · show (lg_sl (Value.long x :: As.map (xcv ad))).length ≤ _
      have : lg_sl (Value.long x :: As.map (xcv ad)) = .val (.long x) :: .second :: lg_sl (As.map (xcv ad)) := rfl
      rw [this, List.length_cons, List.length_cons]
      omega
    · show _ ∈ lv_args j (Value.long x :: As.map (xcv ad))
      match i, hv with
      | 0, hv => cases hv; exact List.mem_cons_self
      | 1, hv => cases hv
      | i + 2, hv =>
        refine List.mem_cons_of_mem _ ?_
        have := h3 i v hv
        rw [show j + 2 + i = j + (i + 2) by omega] at this
        exact this
  | n + 1, .float x :: As, k, ad, j, h => h.elim
  | n + 1, .double x :: As, k, ad, j, h => h.elim
  | n + 1, .null :: As, k, ad, j, h => h.elim
  | n + 1, .retAddr x :: As, k, ad, j, h => h.elim
theorem xrn_sound {d : Nat} {M : xM} {Q : xQ} {L : xLa} (stops : Nat → Bool) : ∀ (n : Nat) (pc : Nat) (ls : xLs) (st : List Value) (s : xS), xrn (xP d L) Q (xX d M Q L) L M stops n pc ls st s → xX d M Q L pc ls st s
  | 0, _, _, _, _, h => h
  | n + 1, pc, ls, st, s, h => by
    unfold xrn at h
    cases hb : stops pc with
    | true => rw [hb] at h; exact h
    | false =>
      rw [hb] at h
      exact xst_sound (xrn_sound stops n) h
section XMF
variable {l : Launch}
theorem xMetF {y : MethodName} {ws ws' : List Cond} {rm : Room} {Pc : Array Value → State → Prop} {Qc : Array Value → State → Outcome → State → Prop} {mc ms : Nat} {free : Addr → Prop} {cc : ByteArray} {maxL : Nat} {ret : Option FieldType}
    (hy : plainFor y = true) (hw : ws = Cond.code y cc maxL ret :: ws')
    (body : ∀ p e s m args below meth c s₁, BodyLoose p l y (headSpec ws rm) cc maxL ret e s m args below meth c s₁ → c.maxLocals = maxL → Pc args s →
      W p l e (headSpec ws rm).room s m args below meth c s.heap [] 0 0 (MQ below Qc args s mc ms free) (entryFrame m args maxL)) : Met l y ws rm Pc Qc mc ms free := by
  refine MetFree.of_bodySF (code := cc) (maxLocals := maxL) (ret := ret) hy ?_ ?_
  · intro args s m h hn
    obtain ⟨meth, c, h1, h2, h3, h4, h5, h6, -, -⟩ := Cond.code_spec hn (atoms_spec (ws := ws) h _ (by rw [hw]; exact List.mem_cons_self))
    exact ⟨meth, c, h1, h2, h3, h4, h5, h6⟩
  · intro p e s m args below meth c s₁ B hml hP _
    have hh0 : s₁.heap = s.heap := by rw [B.state]; rfl
    obtain ⟨t, a1, o, b1, b2, b3⟩ := body p e s m args below meth c s₁ B hml hP s₁ hh0 (Stand.of_body B)
    exact ⟨t, o, a1, b1, b2, ⟨b3.1, b3.2⟩⟩
end XMF
set_option maxHeartbeats 4000000 in
theorem xP_in {d : Nat} {M : xM} {Q : xQ} {L : xLa} {As : List Value} {s : xS} (hok : xok M = true) (hM : M.1 < 233) (hmc : xmc M.1 = M.2.1) (hLk : xLok L) (h : xenk (xsg M.1).2.2.1 As fun ls => xX d M Q L 0 ls [] s) : xP (d + 1) L M.1 As s Q := by
  intro l E ad sz
  obtain ⟨f1, f2, f3, f4, f5, f6⟩ := xmf_e hM
  refine xMetF (cc := (xsg M.1).2.1) (maxL := (xsg M.1).2.2.1) (ret := (xsg M.1).2.2.2) f5 rfl ?_
  intro p e s0 m args below meth c s₁ B hml hv
  obtain ⟨rfl, hsz, hKs, hP, hD, hSc⟩ := hv
  have hts : ∀ w ∈ xws M.1, w.before ((As.map (xcv ad)).toArray) s0 = true := atoms_spec (ws := xws M.1) B.pre
  have hown : s0.vm.findClass (xnm M.2.1) = some m.cls := by
    rw [← hmc, ← f1]
    exact findClass_of_methodNamed B.named
  obtain ⟨ls, hX, hle, hin⟩ := xenk_e ad 0 h
  rw [lg_entry_eq]
  have hl := lv_entry (As.map (xcv ad)) hle
  subst hsz
  refine hX p l e _ s0 m _ below meth c 0 0 _ E ad (xFr ad L.length s0.heap.size) ⟨⟨B.exec, B.bytes, hml, hown⟩, fun w hw => hts w (List.mem_cons_of_mem _ hw), hKs, ⟨Nat.le_refl _, Nat.le_refl _, Nat.zero_le _, Nat.zero_le _⟩, fun q hq => Or.inr hq, hok⟩ ?_ s0.heap [] _ ⟨hP, hD, va_S.rf, ⟨_, hl, fun i v hv => by have := hin i v hv; rw [Nat.zero_add] at this; exact this⟩, hSc, hLk⟩
  intro r s' H locs pc LS hQ hP' hS' hSc' hr
  have hlocks := B.notSynchronized
  have hret := B.returns
  have hq : ∀ t : State, t.heap = H → s0.WarmedH t.vm → xQc E ad L s0.heap.size Q ((As.map (xcv ad)).toArray) s0 (.returned (r.map (xcv ad))) t := fun t ht hW => ⟨⟨r, s', rfl, hQ, by rw [ht]; exact hP', hSc'⟩, hS'.F ht⟩
  cases r with
  | none =>
    obtain ⟨h1, h2⟩ := hr
    exact W.vret B.exec B.bytes (by rw [hret, h2]) hq (fun q hq => hS'.2.2 q hq) h1
  | some v =>
    cases v with
    | int v =>
      obtain ⟨h1, ty, h2, h3⟩ := hr
      exact W.zret B.exec B.bytes (by rw [hret, h2]) h3 hq (fun q hq => hS'.2.2 q hq) h1
    | long v =>
      obtain ⟨h1, h2⟩ := hr
      exact W.lret B.exec B.bytes (by rw [hret, h2]) hq (fun q hq => hS'.2.2 q hq) h1
    | _ => exact hr.elim
abbrev xXT : Type := Nat → xM → xQ → xLa → Nat → xLs → List Value → xS → Prop
abbrev xPT : Type := Nat → xLa → Nat → List Value → xS → xQ → Prop
/-- the rules: what the methods' proofs use, and nothing else of the machine -/
def xRl (X : xXT) (P : xPT) : Prop :=
  (∀ (d : Nat) (M : xM) (Q : xQ) (L : xLa) (pc : Nat) (ls : xLs) (st : List Value) (s : xS) (stops : List Nat) (n : Nat), xst (P d L) Q (xrn (P d L) Q (X d M Q L) L M (xin stops) n) L M pc ls st s → X d M Q L pc ls st s) ∧
  (∀ (d : Nat) (M : xM) (Q : xQ) (L : xLa) (As : List Value) (s : xS) (mL : Nat), xok M = true → M.1 < 233 → xmc M.1 = M.2.1 → (xsg M.1).2.2.1 = mL → xLok L → (xenk mL As fun ls => X d M Q L 0 ls [] s) → P (d + 1) L M.1 As s Q)
theorem xrules : xRl xX xP := by
  refine ⟨fun d M Q L pc ls st s stops n h => xst_sound (xrn_sound (xin stops) n) h, fun d M Q L As s mL h1 h2 h3 h4 h5 h6 => ?_⟩
  subst h4
  exact xP_in h1 h2 h3 h5 h6
