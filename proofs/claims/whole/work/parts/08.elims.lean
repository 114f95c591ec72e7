theorem xro_k (k : Nat) : 110 ≤ (xro k).1 := by
  unfold xro
  split <;> decide
theorem xlk_w {L : xLa} {k : Nat} {c : xLc} (h : xlk L k = c) (hc : c.1 < 110) : xnth L k = some c := by
  unfold xlk at h
  split at h
  · rename_i c2 h2
    rw [h2, h]
  · have := xro_k k
    rw [h] at this
    omega
theorem xlk_r {L : xLa} (hL : xLok L) {k : Nat} {c : xLc} (h : xlk L k = c) (hc : 105 ≤ c.1) : xro k = c := by
  unfold xlk at h
  split at h
  · rename_i c2 h2
    have := (hL.2 k c2 h2).1
    rw [h] at this
    omega
  · exact h
theorem xro_c {k : Nat} {c : xLc} (h : xro k = c) (hc : c.1 < 199) : (k = 900 ∧ c = (110, 0, [])) ∨ (k = 902 ∧ c = (111, 4, [])) ∨ (k = 903 ∧ c = (112, 0, [some 905])) ∨ (k = 904 ∧ c = (112, 1, [some 906])) ∨ (k = 905 ∧ c = (113, 86, [])) ∨ (k = 906 ∧ c = (113, 13, [])) := by
  unfold xro at h
  split at h
  · exact Or.inl ⟨rfl, h.symm⟩
  · exact Or.inr (Or.inl ⟨rfl, h.symm⟩)
  · exact Or.inr (Or.inr (Or.inl ⟨rfl, h.symm⟩))
  · exact Or.inr (Or.inr (Or.inr (Or.inl ⟨rfl, h.symm⟩)))
  · exact Or.inr (Or.inr (Or.inr (Or.inr (Or.inl ⟨rfl, h.symm⟩))))
  · exact Or.inr (Or.inr (Or.inr (Or.inr (Or.inr ⟨rfl, h.symm⟩))))
  · rw [← h] at hc
    exact absurd hc (by decide)
theorem xlen_w {L : xLa} (hL : xLok L) {k : Nat} {c : xLc} (h : xnth L k = some c) {j : Nat} (hj : j < c.2.1) : j < 2 ^ 31 ∧ vp_in (nI j) c.2.1 ∧ (nI j).toNatClampNeg = j := by
  have h1 := (hL.2 k c h).2
  have h2 : j < 2 ^ 31 := by omega
  exact ⟨h2, vp_in_nI hj h1, nI_clamp h2⟩
theorem xce_o {cA : Nat → ClassId} {ad : Nat → Nat} {s : xS} {k : Nat} {c : xLc} (h : c.1 < 100) : xce cA ad s k c = .inr (c.1, (List.range (xN c.1)).map (fun j => xfv ad s k c j)) := if_pos h
theorem xce_i {cA : Nat → ClassId} {ad : Nat → Nat} {s : xS} {k : Nat} {c : xLc} (h : c.1 = 100) : xce cA ad s k c = .inl (cA 100, c.2.1, .inl (s.1 k)) := by
  unfold xce
  rw [h]
  rfl
theorem xce_z {cA : Nat → ClassId} {ad : Nat → Nat} {s : xS} {k : Nat} {c : xLc} (h : c.1 = 101) : xce cA ad s k c = .inl (cA 101, c.2.1, .inl (s.1 k)) := by
  unfold xce
  rw [h]
  rfl
theorem xce_l {cA : Nat → ClassId} {ad : Nat → Nat} {s : xS} {k : Nat} {c : xLc} (h : c.1 = 102) : xce cA ad s k c = .inl (cA 102, c.2.1, .inr (.inl (s.2 k))) := by
  unfold xce
  rw [h]
  rfl
theorem xce_p {cA : Nat → ClassId} {ad : Nat → Nat} {s : xS} {k : Nat} {c : xLc} (h : c.1 = 103) : xce cA ad s k c = .inl (cA 103, c.2.1, .inr (.inr (.inr (.inr (fun i => (c.2.2.getD i none).map ad))))) := by
  unfold xce
  rw [h]
  rfl
theorem xce_q {cA : Nat → ClassId} {ad : Nat → Nat} {s : xS} {k : Nat} {c : xLc} (h : c.1 = 104) : xce cA ad s k c = .inl (cA 104, c.2.1, .inr (.inr (.inr (.inr (fun i => (c.2.2.getD i none).map ad))))) := by
  unfold xce
  rw [h]
  rfl
theorem xgetD {α : Type} {l : List (Option α)} {i : Nat} {o : Option α} (h : xnth l i = some o) : l.getD i none = o := by
  rw [xnth_get] at h
  rw [List.getD_eq_getElem?_getD, h]
  rfl
theorem xfs_get {cA : Nat → ClassId} {ad : Nat → Nat} {s : xS} {k : Nat} {c : xLc} {b n : Nat} (hb : b < n) : ((List.range n).map (fun j => xfv ad s k c j))[b]? = some (xfv ad s k c b) := by
  rw [List.getElem?_map, List.getElem?_range hb]
  rfl
theorem xgf_a {a b k : Nat} {ps : List (Option Nat)} {s : xS} {r : List Value} {K : List Value → Prop} (h : match xfk a b with
      | 0 => K (.int (s.1 k b) :: r)
      | 1 => K (.long (s.2 k b) :: r)
      | 2 => xopt (xnth ps b) fun o => xopt o fun q => K (.ref q :: r)
      | 3 => K (.int (s.1 k b) :: r)
      | 4 => K (.int (nI 0) :: r)
      | _ => False) : (xfk a b = 0 ∧ K (.int (s.1 k b) :: r)) ∨ (xfk a b = 1 ∧ K (.long (s.2 k b) :: r)) ∨ (xfk a b = 2 ∧ ∃ q, xnth ps b = some (some q) ∧ K (.ref q :: r)) ∨ (xfk a b = 3 ∧ K (.int (s.1 k b) :: r)) ∨ (xfk a b = 4 ∧ K (.int (nI 0) :: r)) := by
  split at h
  · rename_i hf; exact Or.inl ⟨hf, h⟩
  · rename_i hf; exact Or.inr (Or.inl ⟨hf, h⟩)
  · rename_i hf
    obtain ⟨o, g1, h⟩ := xopt_e h
    obtain ⟨q, g2, h⟩ := xopt_e h
    exact Or.inr (Or.inr (Or.inl ⟨hf, q, by rw [g1, g2], h⟩))
  · rename_i hf; exact Or.inr (Or.inr (Or.inr (Or.inl ⟨hf, h⟩)))
  · rename_i hf; exact Or.inr (Or.inr (Or.inr (Or.inr ⟨hf, h⟩)))
  · exact h.elim
theorem xgf_e {L : xLa} {a b : Nat} {st : List Value} {s : xS} {K : List Value → Prop} (h : xgf L a b st s K) : ∃ (k : Nat) (r : List Value) (c : xLc), st = .ref k :: r ∧ xlk L k = c ∧ c.1 = a ∧ ((xfk a b = 0 ∧ K (.int (s.1 k b) :: r)) ∨ (xfk a b = 1 ∧ K (.long (s.2 k b) :: r)) ∨ (xfk a b = 2 ∧ ∃ q, xnth c.2.2 b = some (some q) ∧ K (.ref q :: r)) ∨ (xfk a b = 3 ∧ K (.int (s.1 k b) :: r)) ∨ (xfk a b = 4 ∧ K (.int (nI 0) :: r))) := by
  unfold xgf xr1 at h
  split at h
  · rename_i k r
    refine ⟨k, r, xlk L k, rfl, rfl, ?_⟩
    generalize xlk L k = c at h ⊢
    obtain ⟨kd, n, ps⟩ := c
    dsimp only at h ⊢
    obtain ⟨h1, h⟩ := xif_e h
    refine ⟨Nat.eq_of_beq_eq_true h1, ?_⟩
    exact xgf_a h
  · exact h.elim
theorem xpf_e {L : xLa} {a b : Nat} {st : List Value} {s : xS} {K : List Value → xS → Prop} (h : xpf L a b st s K) : ∃ (k : Nat) (r : List Value) (c : xLc), xnth L k = some c ∧ c.1 = a ∧ ((xfk a b = 0 ∧ ∃ x, st = .int x :: .ref k :: r ∧ K r (xW s k b x)) ∨ (xfk a b = 1 ∧ ∃ x, st = .long x :: .ref k :: r ∧ K r (xWl s k b x)) ∨ (xfk a b = 3 ∧ ∃ x, st = .int x :: .ref k :: r ∧ (x = nI 0 ∨ x = nI 1) ∧ K r (xW s k b x))) := by
  unfold xpf at h
  split at h
  · rename_i hf
    obtain ⟨k, x, r, rfl, h⟩ := xpi_e h
    obtain ⟨c, h1, h⟩ := xopm_e h
    obtain ⟨h2, h⟩ := xif_e h
    exact ⟨k, r, c, h1, Nat.eq_of_beq_eq_true h2, Or.inl ⟨hf, x, rfl, h⟩⟩
  · rename_i hf
    obtain ⟨k, x, r, rfl, h⟩ := xpl_e h
    obtain ⟨c, h1, h⟩ := xopm_e h
    obtain ⟨h2, h⟩ := xif_e h
    exact ⟨k, r, c, h1, Nat.eq_of_beq_eq_true h2, Or.inr (Or.inl ⟨hf, x, rfl, h⟩)⟩
  · rename_i hf
    obtain ⟨k, x, r, rfl, h⟩ := xpi_e h
    obtain ⟨c, h1, h⟩ := xopm_e h
    obtain ⟨h2, h⟩ := xif_e h
    exact ⟨k, r, c, h1, Nat.eq_of_beq_eq_true h2, Or.inr (Or.inr ⟨hf, x, rfl, h⟩)⟩
  · exact h.elim
theorem xial_e {L : xLa} {st : List Value} {s : xS} {K : List Value → Prop} (h : xial L st s K) : ∃ (k : Nat) (i : Int32) (r : List Value) (c : xLc), st = .int i :: .ref k :: r ∧ xlk L k = c ∧ ((c.1 = 100 ∧ ∃ j : Nat, (j < c.2.1 ∧ i = nI j) ∧ K (.int (s.1 k j) :: r)) ∨ (c.1 = 110 ∧ ∃ j : Nat, (nI j < s.1 901 0 ∧ j < 2 ^ 31 ∧ i = nI j) ∧ K (.int (s.1 900 j) :: r)) ∨ (c.1 = 111 ∧ ∃ j : Nat, (j < 4 ∧ i = nI j) ∧ K (.int (xmost j) :: r))) := by
  unfold xial xri at h
  split at h
  · rename_i i k r
    refine ⟨k, i, r, xlk L k, rfl, rfl, ?_⟩
    generalize xlk L k = c at h ⊢
    obtain ⟨kd, n, ps⟩ := c
    dsimp only at h ⊢
    split at h
    · exact Or.inl ⟨rfl, h⟩
    · exact Or.inr (Or.inl ⟨rfl, h⟩)
    · exact Or.inr (Or.inr ⟨rfl, h⟩)
    · exact h.elim
  · exact h.elim
theorem xbal_e {L : xLa} {st : List Value} {s : xS} {K : List Value → Prop} (h : xbal L st s K) : ∃ (k : Nat) (i : Int32) (r : List Value) (c : xLc), st = .int i :: .ref k :: r ∧ xlk L k = c ∧ ((c.1 = 101 ∧ ∃ j : Nat, (j < c.2.1 ∧ i = nI j) ∧ K (.int (s.1 k j) :: r)) ∨ (c.1 = 113 ∧ ∃ j : Nat, (j < c.2.1 ∧ i = nI j) ∧ K (.int (nI ((xtxt c.2.1).getD j 0)) :: r))) := by
  unfold xbal xri at h
  split at h
  · rename_i i k r
    refine ⟨k, i, r, xlk L k, rfl, rfl, ?_⟩
    generalize xlk L k = c at h ⊢
    obtain ⟨kd, n, ps⟩ := c
    dsimp only at h ⊢
    split at h
    · exact Or.inl ⟨rfl, h⟩
    · exact Or.inr ⟨rfl, h⟩
    · exact h.elim
  · exact h.elim
theorem xaln_e {L : xLa} {st : List Value} {s : xS} {K : List Value → Prop} (h : xaln L st s K) : ∃ (k : Nat) (r : List Value) (c : xLc), st = .ref k :: r ∧ xlk L k = c ∧ ((c.1 = 110 ∧ K (.int (s.1 901 0) :: r)) ∨ (c.1 = 100 ∧ K (.int (nI c.2.1) :: r)) ∨ (c.1 = 101 ∧ K (.int (nI c.2.1) :: r)) ∨ (c.1 = 113 ∧ K (.int (nI c.2.1) :: r))) := by
  unfold xaln xr1 at h
  split at h
  · rename_i k r
    refine ⟨k, r, xlk L k, rfl, rfl, ?_⟩
    generalize xlk L k = c at h ⊢
    obtain ⟨kd, n, ps⟩ := c
    dsimp only at h ⊢
    split at h
    · exact Or.inl ⟨rfl, h⟩
    · exact Or.inr (Or.inl ⟨rfl, h⟩)
    · exact Or.inr (Or.inr (Or.inl ⟨rfl, h⟩))
    · exact Or.inr (Or.inr (Or.inr ⟨rfl, h⟩))
    · exact h.elim
  · exact h.elim
theorem xcst_e {a b : Nat} {k : Int32 → Prop} (h : xcst a b k) : k (xcon a b) := by
  unfold xcst at h
  unfold xcon
  split at h
  · exact h
  · rename_i hb
    rw [if_neg hb]
    exact h
theorem xcsl_e {a b : Nat} {k : Int64 → Prop} (h : xcsl a b k) : k (xcol a b) := by
  unfold xcsl at h
  unfold xcol
  split at h
  · exact h
  · rename_i hb
    rw [if_neg hb]
    exact h
theorem xinc_e {x : Int32} {a b : Nat} {k : Int32 → Prop} (h : xinc x a b k) : k (x + xcon a b) := by
  unfold xinc at h
  unfold xcon
  split at h
  · exact h
  · rename_i hb
    rw [if_neg hb, ← Int32.sub_eq_add_neg]
    exact h
theorem xsw_e {x : Int32} {d : Nat} {K : Nat → Prop} : ∀ {ps : List (Nat × Nat)}, xsw x ps d K → K (xlook x ps d)
  | [], h => h
  | q :: r, h => by
    unfold xlook
    by_cases e : x = nI q.1
    · rw [if_pos e]
      exact h.1 e
    · rw [if_neg e]
      exact xsw_e (ps := r) (h.2 e)
theorem xlook_d {x : Int32} {d : Nat} : ∀ {ps : List (Nat × Nat)}, (∀ q ∈ ps, x ≠ nI q.1) → xlook x ps d = d
  | [], _ => rfl
  | q :: r, h => by
    unfold xlook
    rw [if_neg (h q List.mem_cons_self)]
    exact xlook_d (ps := r) (fun z hz => h z (List.mem_cons_of_mem _ hz))
theorem xoff {x : Int32} {d pc : Nat} {df : Int} (hd : (pc : Int) + df = (d : Int)) : ∀ {ps : List (Nat × Nat)}, (∀ q ∈ ps, q.1 < 1000) → (pc : Int) + Op.lookupswitch.offset (ps.map (fun q => ((q.1 : Int), (q.2 : Int) - (pc : Int)))) df x.toInt = (xlook x ps d : Int)
  | [], _ => hd
  | q :: r, h => by
    unfold xlook
    rw [List.map_cons, Op.lookupswitch.offset_cons]
    have hq := h q List.mem_cons_self
    have hi : (nI q.1).toInt = (q.1 : Int) := nI_toInt (by omega)
    by_cases e : x = nI q.1
    · rw [if_pos e, if_pos (by rw [e, hi])]
      omega
    · rw [if_neg e, if_neg (fun z => e (Int32.toInt_inj.mp (by rw [hi]; first | exact z | exact z.symm)))]
      exact xoff hd (ps := r) (fun z hz => h z (List.mem_cons_of_mem _ hz))
theorem xgood {w : Cond} (h : w ∈ xWs) : w ∈ xWs ∧ ((w.onTables && w.keeps) = true ∨ ∃ ty, w = .arrayClass ty) := ⟨h, good_of_word (List.mem_filter.mp h).2⟩
theorem xws_good {n : Nat} (h : n < 233) : GoodIn xWs (xws n) := by
  intro w hw
  rcases List.mem_cons.mp hw with rfl | hw
  · exact xgood (xmw_in h _ List.mem_cons_self)
  · exact xgood hw
theorem xmf_e {n : Nat} (h : n < 233) : (xsg n).1.cls = xnm (xmc n) ∧ (xsg n).1.cls ≠ "java/lang/invoke/MethodHandle" ∧ (xsg n).1.cls ≠ "java/lang/invoke/VarHandle" ∧ (parseMethodDescriptor (xsg n).1.desc).map (fun d => d.parameters.length) = some (xna n) ∧ plainFor (xsg n).1 = true ∧ (xsg n).2.2.1 ≤ 40 := by
  have := xmf_in h
  unfold xmf at this
  simp only [Bool.and_eq_true, decide_eq_true_eq] at this
  exact ⟨this.1.1.1.1.1, this.1.1.1.1.2, this.1.1.1.2, this.1.1.2, this.1.2, this.2⟩
theorem xfl_T : ∀ q ∈ xfl, (xTb q.2.2.1 q.2.2.2).1 = xC q.2.2.1 := by decide +kernel
theorem xvz : ∀ x, (x = nI 0 ∨ x = nI 1) → narrow .boolean (.int x) = .int x ∧ fits .boolean (.int x) = true ∧ vp_nar .boolean x = x := by
  intro x h
  rcases h with rfl | rfl
  · exact ⟨by decide +kernel, by decide +kernel, by decide +kernel⟩
  · exact ⟨by decide +kernel, by decide +kernel, by decide +kernel⟩
theorem xvb : ∀ n, n < 128 → narrow .byte (.int (nI n)) = .int (nI n) := by decide +kernel
theorem xbyD (i j : Nat) (hi : i < 2) : (xby.getD i []).getD j 0 = nI ((xtxt ([86, 13].getD i 0)).getD j 0) := by
  have key : ∀ l : List Nat, (l.map nI).getD j 0 = nI (l.getD j 0) := by
    intro l
    rw [List.getD_eq_getElem?_getD, List.getD_eq_getElem?_getD, List.getElem?_map]
    cases l[j]? with
    | none => exact nI_0.symm
    | some v => rfl
  match i, hi with
  | 0, _ => exact key _
  | 1, _ => exact key _
section XGO
variable {p : Program} {l : Launch} {e : Env} {R : Room} {s0 : State} {m : MethodId} {args : Array Value} {below : List Frame} {meth : Method} {c : Code} {H : Heap} {locs : List Loc} {cells slots : Nat} {Qf : State → Prop}
/-- behind a call -/
theorem xgo {E : xE} {ad : Nat → Nat} {A : Nat → Prop} {L : xLa} {pc : Nat} {LS : Array Slot} {st0 rest : List Value} {a : Array Value} {Q' : xQ} (hr : va_Run p l e R s0 m args below meth c H locs cells slots 0 0 (F0 m pc LS st0) rest (xQc E ad L H.size Q' a) (xFr ad L.length H.size)) (hS : va_S A s0.heap H locs) (hF : ∀ q, xFr ad L.length H.size q → A q)
    (kk : ∀ (r : Option Value) (s' : xS) (H1 : Heap) (locs1 : List Loc), Q' r s' → va_P (E.1, E.2.1) vwCl (xwo E.2.2.1 ad L s') H1 → xSc E s' → va_S A s0.heap H1 locs1 → W p l e R s0 m args below meth c H1 locs1 cells slots Qf (F0 m (pc + 3) LS ((r.map (xcv ad)).toList ++ rest))) : W p l e R s0 m args below meth c H locs cells slots Qf (F0 m pc LS st0) := by
  intro T hT X
  obtain ⟨v, st₀, t, T', L1, h0, X', hL1, e1, e2, ⟨⟨r, s', hv, hq, hP, hSc⟩, hz, hk⟩, st⟩ := hr T hT X
  cases hv
  rw [h0] at hz hk
  obtain ⟨t2, a1, b1⟩ := kk r s' T'.heap (locs ++ L1) hq (by rw [e1]; exact hP) hSc ⟨Nat.le_trans hS.1 (by rw [e1]; exact hz), fun q h1 h2 => by rw [e1, hk q (Nat.lt_of_lt_of_le h1 hS.1) (fun z => h2 (hF q z))]; exact hS.2.1 q h1 h2, fun q hq => by
      rcases List.mem_append.mp hq with h | h
      · exact hS.2.2 q h
      · exact hF _ (hL1 q h)⟩ T' rfl X'
  exact ⟨t2, st t2 a1, b1⟩
end XGO
