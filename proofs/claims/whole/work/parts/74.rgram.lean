/-! the reference's parser keeps to the grammar (by program mk74.py, which writes the names out) -/
/-- at the head of the parser's loop -/
def RH (X : xXT) (Q : xQ) (d S : Nat) (s0 : xS) (n cnt : Nat) (kd vl pl en : Nat → Nat) (T w0 c : Nat) (i : Nat) (p : List Nat) (op : Nat) (W : Cd) (wh : Nat) : Prop := ∀ (s : xS) (o3 : Option Value), ST s0 n cnt kd vl pl en T w0 c s i p op W wh → X (d + 5) mX11_parsed Q (L0 S) 12 [some (.ref 79), some (.int (nI 0)), some (.int (nI 1)), o3] [] s
def ER (Q : xQ) (s0 : xS) (n cnt : Nat) (kd vl pl en : Nat → Nat) (T w0 : Nat) (k j : Nat) : Prop := ∀ s' : xS, RM s' n cnt kd vl pl en j → fP T w0 s0 s' → Q (some (.int (nI k))) s'
def rkh (m : Nat) : Nat := if m = 1 then 6 else if m = 2 then 5 else if m = 3 then 4 else if m = 4 then 2 else 1
def rkl (m : Nat) : Nat := if m = 1 then 6 else if m = 2 then 5 else if m = 3 then 3 else if m = 4 then 2 else 1
def RK0 (X : xXT) (Q : xQ) (d S : Nat) (s0 : xS) (n cnt : Nat) (kd vl pl en : Nat → Nat) (T w0 c : Nat) (p : List Nat) (op : Nat) (W : Cd) (r : pR) : Prop := match r with
  | .inl e => ER Q s0 n cnt kd vl pl en T w0 e.1 e.2
  | .inr x => RH X Q d S s0 n cnt kd vl pl en T w0 c x.1 (sm2 p) (op - nm2 p) (W ++ x.2.2 ++ cdz (rpm (nm2 p))) 1
def RKm (X : xXT) (Q : xQ) (d S : Nat) (s0 : xS) (n cnt : Nat) (kd vl pl en : Nat → Nat) (T w0 c : Nat) (m : Nat) (p : List Nat) (op : Nat) (W : Cd) (r : pR) : Prop := match r with
  | .inl e => ER Q s0 n cnt kd vl pl en T w0 e.1 e.2
  | .inr x => ∀ (ops : List Nat) (Y : Cd), (∀ o, o ∈ ops → rkl m ≤ rk o ∧ o < 40) → Y ++ cdz ops = x.2.2 → (3 ≤ m → cpd (ops ++ p) = true) → ops.length ≤ m + (8 - op) → RH X Q d S s0 n cnt kd vl pl en T w0 c x.1 (ops ++ p) (op + cn ops) (W ++ Y) 1
def RR0 (X : xXT) (Q : xQ) (d S : Nat) (s0 : xS) (n cnt : Nat) (kd vl pl en : Nat → Nat) (T w0 c : Nat) (f : Nat) : Prop := ∀ (op i : Nat) (p : List Nat) (W : Cd) (D : Dn) (C : Cd), op ≤ 8 → i ≤ cnt → w0 + W.length + p.length ≤ i → p.length ≤ 6 * op + 5 → 16 * (cnt + 1 - i) < f → nm2 p ≤ op → (tk3 cnt kd 0 i = 9 → ¬ aa p) → RK0 X Q d S s0 n cnt kd vl pl en T w0 c p op W (pE (tk3 cnt kd 0) (tk3 cnt vl 0) c f 0 op i D C) → RH X Q d S s0 n cnt kd vl pl en T w0 c i p op W 0
def RRm (X : xXT) (Q : xQ) (d S : Nat) (s0 : xS) (n cnt : Nat) (kd vl pl en : Nat → Nat) (T w0 c : Nat) (f m : Nat) : Prop := ∀ (op i : Nat) (p : List Nat) (W : Cd) (D : Dn) (C : Cd), op ≤ 8 → i ≤ cnt → w0 + W.length + p.length ≤ i → p.length + m ≤ 6 * op + 5 → 16 * (cnt + 1 - i) + m < f → hrk (rkh m) p → (m ≤ 2 → tk3 cnt kd 0 i = 9 → ¬ aa p) → (3 ≤ m → aa p) → RKm X Q d S s0 n cnt kd vl pl en T w0 c m p op W (pE (tk3 cnt kd 0) (tk3 cnt vl 0) c f m op i D C) → RH X Q d S s0 n cnt kd vl pl en T w0 c i p op W 0
def RRl (X : xXT) (Q : xQ) (d S : Nat) (s0 : xS) (n cnt : Nat) (kd vl pl en : Nat → Nat) (T w0 c : Nat) (f l : Nat) : Prop := ∀ (op i : Nat) (p : List Nat) (W : Cd) (D : Dn) (C : Cd) (ops : List Nat) (Y : Cd), op ≤ 8 → i ≤ cnt → w0 + W.length + p.length + C.length ≤ i → p.length + l ≤ 6 * op + 5 → 16 * (cnt + 1 - i) < f → hrk (rkh l) p → (3 ≤ l → aa p) → (∀ o, o ∈ ops → rkl l ≤ rk o ∧ o < 40) → Y ++ cdz ops = C → (3 ≤ l → cpd (ops ++ p) = true) → ops.length ≤ l + (8 - op) → RKm X Q d S s0 n cnt kd vl pl en T w0 c l p op W (pE (tk3 cnt kd 0) (tk3 cnt vl 0) c f (l + 10) op i D C) → RH X Q d S s0 n cnt kd vl pl en T w0 c i (ops ++ p) (op + cn ops) (W ++ Y) 1
theorem cn_le : ∀ a : List Nat, cn a ≤ a.length
  | [] => Nat.le_refl _
  | o :: a => by
    have := cn_le a
    show (if o = 2 ∨ o = 20 then 1 else 0) + cn a ≤ a.length + 1
    split <;> omega
theorem btw_none {k : Nat} {p : List Nat} (h : TE 2 k) (hk : ko p ≠ 41) : btw k p = none := by
  have a := h.1 (by decide)
  have b := h.2.1 (by decide)
  unfold btw
  rw [if_neg (by omega), if_neg (by omega), if_neg (by omega), if_neg (by omega), if_neg hk]
theorem btw_ask {k : Nat} {p : List Nat} (h : TE 2 k) (hk : ko p = 41) (hc : ¬ cpd p = true) : btw k p = if 10 ≤ k ∧ k < 16 then some (mc k) else none := by
  have a := h.1 (by decide)
  have b := h.2.1 (by decide)
  unfold btw
  rw [if_neg (by omega), if_neg (by omega), if_neg (by omega), if_neg (by omega), if_pos hk, if_neg hc]
theorem btw_5 {k : Nat} {p : List Nat} (h : TE 5 k) (hc : cpd p = true) : btw k p = none := by
  have a := h.1 (by decide)
  have b := h.2.1 (by decide)
  have e := h.2.2.1 (by decide)
  have g := h.2.2.2 (by decide)
  unfold btw
  rw [if_neg (by omega), if_neg (by omega), if_neg (by omega), if_neg (by omega), if_pos hc, if_neg e, if_neg g]
  split <;> rfl
theorem btw_op {l k : Nat} {p : List Nat} (h : lop l k) (hk : 3 ≤ l → ko p = 41) (hc : 3 ≤ l → cpd p = true) : btw k p = some (opc k) := by
  unfold btw
  rcases (show k = 16 ∨ k = 17 ∨ k = 18 ∨ k = 19 ∨ (l = 4 ∧ k = 8) ∨ (l = 5 ∧ k = 7) by omega) with rfl | rfl | rfl | rfl | ⟨rfl, rfl⟩ | ⟨rfl, rfl⟩
  · rfl
  · rfl
  · rfl
  · rfl
  · rw [if_neg (by decide), if_neg (by decide), if_neg (by decide), if_neg (by decide), if_pos (hk (by decide)), if_pos (hc (by decide)), if_pos rfl]; rfl
  · rw [if_neg (by decide), if_neg (by decide), if_neg (by decide), if_neg (by decide), if_pos (hk (by decide)), if_pos (hc (by decide)), if_neg (by decide), if_pos rfl]; rfl
theorem rk_op {l k : Nat} (h : lop l k) : rk (opc k) = rkl l ∧ rkl l = rkh l ∧ opc k < 40 ∧ opc k ≠ 2 := by
  rcases (show (l = 2 ∧ k = 16) ∨ (l = 2 ∧ k = 17) ∨ (l = 1 ∧ k = 18) ∨ (l = 1 ∧ k = 19) ∨ (l = 4 ∧ k = 8) ∨ (l = 5 ∧ k = 7) by omega) with ⟨rfl, rfl⟩ | ⟨rfl, rfl⟩ | ⟨rfl, rfl⟩ | ⟨rfl, rfl⟩ | ⟨rfl, rfl⟩ | ⟨rfl, rfl⟩ <;> decide
theorem dm_mk {ops p : List Nat} {m : Nat} (ha : ∀ o, o ∈ ops → o < 40) (hm : 40 ≤ m) : dm (ops ++ m :: p) = m :: p := by
  rw [dm_app ops _ ha]
  unfold dm
  rw [if_neg (by omega)]
theorem kv_mk {ops p : List Nat} {m : Nat} (ha : ∀ o, o ∈ ops → o < 40) (hm : 40 ≤ m) : kv (ops ++ m :: p) = nI m ∧ ko (ops ++ m :: p) = m := by
  unfold kv ko
  rw [dm_mk ha hm]
  exact ⟨rfl, rfl⟩
theorem ko_41 {p : List Nat} (h : ko p = 41) : kv p = nI 41 ∧ dm p ≠ [] := by
  unfold ko at h
  unfold kv
  cases hd : dm p with
  | nil => rw [hd] at h; exact absurd h (by decide)
  | cons o q =>
    rw [hd] at h
    have h : o = 41 := h
    exact ⟨by rw [h], fun z => by cases z⟩
section RGRAM
variable {X : xXT} {P : xPT} {Q : xQ} {d S n cnt T w0 c : Nat} {s0 : xS} {kd vl pl en t : Nat → Nat} {f : Nat}
theorem r_begin (I : xRl X P) (hS : S ≤ 128) (hG : RG s0 n cnt t kd vl pl en T) (hc : c < 4) {i op : Nat} {p : List Nat} {W : Cd} (hop : op ≤ 8) (hp : p.length < 160) (hno : nm2 p ≤ op) (hw : w0 + W.length + p.length ≤ 300)
    (h2 : tk3 cnt kd 0 i = 2 → 9999 < tk3 cnt vl 0 i → ER Q s0 n cnt kd vl pl en T w0 2 i)
    (hn : tk3 cnt kd 0 i = 2 → ¬ 9999 < tk3 cnt vl 0 i → RH X Q d S s0 n cnt kd vl pl en T w0 c (i + 1) (sm2 p) (op - nm2 p) (W ++ [(0, tk3 cnt vl 0 i)] ++ cdz (rpm (nm2 p))) 1)
    (h5 : tk3 cnt kd 0 i = 3 → ¬ al (tk3 cnt vl 0 i) c → ER Q s0 n cnt kd vl pl en T w0 5 i)
    (hm : tk3 cnt kd 0 i = 3 → al (tk3 cnt vl 0 i) c → RH X Q d S s0 n cnt kd vl pl en T w0 c (i + 1) (sm2 p) (op - nm2 p) (W ++ [(1, tk3 cnt vl 0 i)] ++ cdz (rpm (nm2 p))) 1)
    (h3 : (tk3 cnt kd 0 i = 20 ∨ tk3 cnt kd 0 i = 17 ∨ tk3 cnt kd 0 i = 5 ∨ (tk3 cnt kd 0 i = 9 ∧ aa p)) → op = 8 → ER Q s0 n cnt kd vl pl en T w0 3 i)
    (ho : ∀ o, ((tk3 cnt kd 0 i = 20 ∧ o = 40) ∨ (tk3 cnt kd 0 i = 17 ∧ o = 2) ∨ (tk3 cnt kd 0 i = 5 ∧ o = 41) ∨ (tk3 cnt kd 0 i = 9 ∧ aa p ∧ o = 20)) → op < 8 → RH X Q d S s0 n cnt kd vl pl en T w0 c (i + 1) (o :: p) (op + 1) W 0)
    (h1 : tk3 cnt kd 0 i ≠ 2 → tk3 cnt kd 0 i ≠ 3 → tk3 cnt kd 0 i ≠ 20 → tk3 cnt kd 0 i ≠ 17 → tk3 cnt kd 0 i ≠ 5 → ¬ (tk3 cnt kd 0 i = 9 ∧ aa p) → ER Q s0 n cnt kd vl pl en T w0 1 i) : RH X Q d S s0 n cnt kd vl pl en T w0 c i p op W 0 := by
  intro s o3 hs
  have e21 := hs.2.2.2.2.2.2.1
  have er : ∀ k, 1 ≤ k → k < 10 → ER Q s0 n cnt kd vl pl en T w0 k i → xbr (nI k = nI 0) (X (d + 5) mX11_parsed Q (L0 S) 12 [some (.ref 79), some (.int (nI 0)), some (.int (nI 1)), some (.int (nI k))] [] s) (Q (some (.int (nI k))) s) := fun k k1 k2 g => xbr_f (zne (by omega) (by omega) (by decide)) (g s hs.1 hs.2.2.2.2.2.2.2)
  refine rn I [12] 99 ?_
  refine xbr_f n10 ?_
  refine xbr_t e21 ?_
  refine q_begin I hS hG hc hs hop hp hno hw (fun a b => ?_) (fun a b s' g => ?_) (fun a b => ?_) (fun a b s' g => ?_) (fun a b => ?_) (fun o a b s' g => ?_) (fun a1 a2 a3 a4 a5 a6 => ?_)
  · exact er 2 (by decide) (by decide) (h2 a b)
  · exact xbr_t rfl (hn a b s' _ g)
  · exact er 5 (by decide) (by decide) (h5 a b)
  · exact xbr_t rfl (hm a b s' _ g)
  · exact er 3 (by decide) (by decide) (h3 a b)
  · exact xbr_t rfl (ho o a b s' _ g)
  · exact er 1 (by decide) (by decide) (h1 a1 a2 a3 a4 a5 a6)
theorem r_op (I : xRl X P) (hS : S ≤ 128) (hG : RG s0 n cnt t kd vl pl en T) {i op o op' : Nat} {ops p : List Nat} {W : Cd} (hb : btw (tk3 cnt kd 0 i) (ops ++ p) = some o) (ha : ∀ x, x ∈ ops → rk o ≤ rk x) (hh : hrk (rk o) p) (ho : op = op' + cn ops) (ho2 : op < 1000) (hw : w0 + W.length + ops.length ≤ 301) (hl : (ops ++ p).length < 160) (h : RH X Q d S s0 n cnt kd vl pl en T w0 c (i + 1) (o :: p) op' (W ++ cdz ops) 0) : RH X Q d S s0 n cnt kd vl pl en T w0 c i (ops ++ p) op W 1 := by
  intro s o3 hs
  refine rn I [12] 99 ?_
  refine xbr_f n10 ?_
  refine xbr_f (by rw [hs.2.2.2.2.2.2.1]; exact n10) ?_
  exact q_behind_op I hS hG hs hb ha hh ho ho2 hw hl (fun s' g => h s' _ g)
theorem r_close (I : xRl X P) (hS : S ≤ 128) (hG : RG s0 n cnt t kd vl pl en T) {i op m op' : Nat} {ops p : List Nat} {W : Cd} (hb : btw (tk3 cnt kd 0 i) (ops ++ m :: p) = none) (hm : (tk3 cnt kd 0 i = 21 ∧ m = 40) ∨ (tk3 cnt kd 0 i = 6 ∧ m = 43)) (ha : ∀ x, x ∈ ops → 1 ≤ rk x ∧ x < 40) (ho : op = op' + nm2 p + 1 + cn ops) (ho2 : op < 1000) (hw : w0 + W.length + ops.length + 1 + p.length ≤ 301) (hl : (ops ++ m :: p).length < 160) (h : RH X Q d S s0 n cnt kd vl pl en T w0 c (i + 1) (sm2 p) op' (W ++ cdz ops ++ (if m = 43 then [(23, 0)] else []) ++ cdz (rpm (nm2 p))) 1) : RH X Q d S s0 n cnt kd vl pl en T w0 c i (ops ++ m :: p) op W 1 := by
  intro s o3 hs
  refine rn I [12] 99 ?_
  refine xbr_f n10 ?_
  refine xbr_f (by rw [hs.2.2.2.2.2.2.1]; exact n10) ?_
  exact q_behind_close I hS hG hs hb hm ha ho ho2 hw hl (fun s' g => h s' _ g)
theorem r_turn (I : xRl X P) (hS : S ≤ 128) (hG : RG s0 n cnt t kd vl pl en T) {i op m op' : Nat} {ops p : List Nat} {W : Cd} (hb : btw (tk3 cnt kd 0 i) (ops ++ m :: p) = none) (hm : (tk3 cnt kd 0 i = 23 ∧ m = 41 ∧ cpd (ops ++ m :: p) = true) ∨ (tk3 cnt kd 0 i = 24 ∧ m = 42)) (ha : ∀ x, x ∈ ops → 1 ≤ rk x ∧ x < 40) (ho : op = op' + cn ops) (ho2 : op < 1000) (hw : w0 + W.length + ops.length ≤ 301) (hl : (ops ++ m :: p).length < 160) (h : RH X Q d S s0 n cnt kd vl pl en T w0 c (i + 1) ((m + 1) :: p) op' (W ++ cdz ops) 0) : RH X Q d S s0 n cnt kd vl pl en T w0 c i (ops ++ m :: p) op W 1 := by
  intro s o3 hs
  refine rn I [12] 99 ?_
  refine xbr_f n10 ?_
  refine xbr_f (by rw [hs.2.2.2.2.2.2.1]; exact n10) ?_
  exact q_behind_turn I hS hG hs hb hm ha ho ho2 hw hl (fun s' g => h s' _ g)
theorem r_stop (I : xRl X P) (hS : S ≤ 128) {i op : Nat} {p : List Nat} {W : Cd} (hb : btw (tk3 cnt kd 0 i) p = none) (hl : p.length < 160) (h21 : tk3 cnt kd 0 i = 21 → ¬ kv p = nI 40) (h6 : tk3 cnt kd 0 i = 6 → ¬ kv p = nI 43) (h23 : tk3 cnt kd 0 i = 23 → kv p = nI 41 → ¬ cpd p = true) (h24 : tk3 cnt kd 0 i = 24 → ¬ kv p = nI 42) (hd : dm p ≠ []) (h : ER Q s0 n cnt kd vl pl en T w0 1 i) : RH X Q d S s0 n cnt kd vl pl en T w0 c i p op W 1 := by
  intro s o3 hs
  refine rn I [] 99 ?_
  refine xbr_f n10 ?_
  refine xbr_f (by rw [hs.2.2.2.2.2.2.1]; exact n10) ?_
  refine q_behind_no I hS hs hb hl h21 h6 h23 h24 ?_
  refine xbr_t rfl ?_
  refine q_marker I hS hs.2.1.1 hs.2.1.2 (by omega) ?_
  obtain ⟨a, ea⟩ := dm_suf p
  have l2 : (dm p).length ≤ p.length := by
    have := congrArg List.length ea
    rw [List.length_append] at this
    omega
  have g := h s hs.1 hs.2.2.2.2.2.2.2
  cases hdm : dm p with
  | nil => exact absurd hdm hd
  | cons o q =>
    rw [hdm] at l2
    have l2 : q.length + 1 ≤ p.length := l2
    have e : nI (o :: q).length - nI 1 = nI q.length := by show nI (q.length + 1) - nI 1 = _; rw [nsb (by omega)]; rfl
    exact xbr_f (by rw [e]; exact zn0 (by omega)) g
theorem r_exit (I : xRl X P) (hS : S ≤ 128) (hG : RG s0 n cnt t kd vl pl en T) {i op op' : Nat} {ops : List Nat} {W : Cd} (hb : btw (tk3 cnt kd 0 i) ops = none) (hl : ops.length < 160) (ha : ∀ x, x ∈ ops → 1 ≤ rk x ∧ x < 40) (ho : op = op' + cn ops) (ho2 : op < 1000) (hw : w0 + W.length + ops.length ≤ 301) (h : ∀ s' : xS, ST s0 n cnt kd vl pl en T w0 c s' i [] op' (W ++ cdz ops) 1 → Q (some (.int (nI 0))) s') : RH X Q d S s0 n cnt kd vl pl en T w0 c i ops op W 1 := by
  have ed : dm ops = [] := by
    have := dm_app ops [] (fun x hx => (ha x hx).2)
    rw [List.append_nil] at this
    exact this
  have ek : kv ops = -(nI 1) := by unfold kv; rw [ed]
  intro s o3 hs
  refine rn I [] 99 ?_
  refine xbr_f n10 ?_
  refine xbr_f (by rw [hs.2.2.2.2.2.2.1]; exact n10) ?_
  refine q_behind_no I hS hs hb hl (fun _ z => zm1n' (by decide) (ek.symm.trans z)) (fun _ z => zm1n' (by decide) (ek.symm.trans z)) (fun _ z => absurd (ek.symm.trans z) (zm1n' (by decide))) (fun _ z => zm1n' (by decide) (ek.symm.trans z)) ?_
  refine xbr_t rfl ?_
  refine q_marker I hS hs.2.1.1 hs.2.1.2 (by omega) ?_
  rw [ed]
  refine xbr_t (by show nI 0 - nI 1 < nI 0; rw [nm01]; exact zm1) ?_
  refine xbr_t rfl ?_
  exact q_settle I hS hG.2.2.2.2 (r := 1) rfl (by decide) (by decide) (ops := ops) (p := []) (op' := op') (by rw [List.append_nil]; exact hs) (fun x hx => (ha x hx).1) trivial ho ho2 hw (by rw [List.append_nil]; omega) h
theorem R_loop (I : xRl X P) (hS : S ≤ 128) (hG : RG s0 n cnt t kd vl pl en T) (hc : c < 4) {l : Nat} (hl4 : l = 1 ∨ l = 2 ∨ l = 4 ∨ l = 5) (ih0 : l = 1 → RR0 X Q d S s0 n cnt kd vl pl en T w0 c f) (ihm : l ≠ 1 → RRm X Q d S s0 n cnt kd vl pl en T w0 c f (l - 1)) (ihl : RRl X Q d S s0 n cnt kd vl pl en T w0 c f l) : RRl X Q d S s0 n cnt kd vl pl en T w0 c (f + 1) l := by
  have hK := hG.2.2.2.1.kk hc
  have c3 := hK.1
  have h31 := (pE_p (c := c) hK.2.2.2.1 hK.2.2.2.2.1 f).1
  intro op i p W D C ops Y hop hi hw hpl hf hh haa ha hY hcp hol h
  have hYl : Y.length + ops.length = C.length := by
    have := congrArg List.length hY
    rw [List.length_append, cdz_len] at this
    exact this
  have hcn := cn_le ops
  have lo : (ops ++ p).length = ops.length + p.length := List.length_append
  rw [pE_L hl4] at h
  by_cases ho : lop l (tk3 cnt kd 0 i)
  · rw [if_pos ho] at h
    have ic := hK.2.2.2.1 i (by omega)
    obtain ⟨r1, r2, r3, r4⟩ := rk_op ho
    have hb := btw_op (p := ops ++ p) ho (fun z => by rw [ko_app (fun o ho => (ha o ho).2)]; exact (haa z).1) hcp
    refine r_op I hS hG (op' := op) hb (fun x hx => by rw [r1]; exact (ha x hx).1) (by rw [r1, r2]; exact hh) rfl (by omega) (by rw [List.length_append]; omega) (by omega) ?_
    rw [List.append_assoc, hY]
    have lW : (W ++ C).length = W.length + C.length := List.length_append
    have lp : (opc (tk3 cnt kd 0 i) :: p).length = p.length + 1 := rfl
    -- what comes behind the operand
    have KO : ∀ (x : Nat × Dn × Cd), pE (tk3 cnt kd 0) (tk3 cnt vl 0) c f (l - 1) op (i + 1) D C = .inr x → ∀ (ops2 : List Nat) (Y2 : Cd), (∀ o, o ∈ ops2 → rkl l ≤ rk o ∧ o < 40) → Y2 ++ cdz ops2 = x.2.2 → (3 ≤ l → cpd (ops2 ++ opc (tk3 cnt kd 0 i) :: p) = true) → ops2.length ≤ (l - 1) + (8 - op) → RH X Q d S s0 n cnt kd vl pl en T w0 c x.1 (ops2 ++ opc (tk3 cnt kd 0 i) :: p) (op + cn ops2) (W ++ C ++ Y2) 1 := by
      intro x hr ops2 Y2 b1 b2 b3 b4
      rw [hr, pB_r] at h
      obtain ⟨a1, a2, a3, a4, a5, a6⟩ := h31 (l - 1) op (i + 1) D C x.1 x.2.1 x.2.2 (by omega) hr
      have a2 := a2 ic
      have cnx : cn (ops2 ++ [opc (tk3 cnt kd 0 i)]) = cn ops2 := by
        rw [cn_app]
        show cn ops2 + ((if opc (tk3 cnt kd 0 i) = 2 ∨ opc (tk3 cnt kd 0 i) = 20 then 1 else 0) + 0) = cn ops2
        have : opc (tk3 cnt kd 0 i) ≠ 20 := fun z => by
          rw [z] at r1
          have : rk 20 = 3 := rfl
          rcases hl4 with rfl | rfl | rfl | rfl <;> (rw [this] at r1; revert r1; decide)
        rw [if_neg (by omega)]
        rfl
      have q := ihl op x.1 p W _ (C ++ x.2.2 ++ [(opc (tk3 cnt kd 0 i), 0)]) (ops2 ++ [opc (tk3 cnt kd 0 i)]) (C ++ Y2) hop a2 (by rw [List.length_append, List.length_append]; show w0 + W.length + p.length + (C.length + x.2.2.length + 1) ≤ x.1; omega) hpl (by omega) hh haa (fun o ho => by
        rcases List.mem_append.mp ho with z | z
        · exact b1 o z
        · have : o = opc (tk3 cnt kd 0 i) := by simpa using z
          rw [this, r1]
          exact ⟨Nat.le_refl _, r3⟩) (by rw [cdz_app, ← List.append_assoc, List.append_assoc C Y2, b2]; rfl) (fun z => by rw [List.append_assoc]; exact b3 z) (by rw [List.length_append]; show ops2.length + 1 ≤ _; omega) h
      rw [cnx, List.append_assoc] at q
      rw [List.append_assoc]
      exact q
    by_cases l1 : l = 1
    · subst l1
      have nz : nm2 (opc (tk3 cnt kd 0 i) :: p) = 0 := by unfold nm2; rw [if_neg r4]
      have sz : sm2 (opc (tk3 cnt kd 0 i) :: p) = opc (tk3 cnt kd 0 i) :: p := by unfold sm2; rw [if_neg r4]
      have na : ¬ aa (opc (tk3 cnt kd 0 i) :: p) := fun z => by
        rcases z.2 with z | ⟨_, z⟩
        · omega
        · rw [r1] at z; revert z; decide
      refine ih0 rfl op (i + 1) (opc (tk3 cnt kd 0 i) :: p) (W ++ C) D C hop (by omega) (by omega) (by omega) (by omega) (by omega) (fun _ => na) ?_
      cases hr : pE (tk3 cnt kd 0) (tk3 cnt vl 0) c f 0 op (i + 1) D C with
      | inl e =>
        rw [show (1 : Nat) - 1 = 0 from rfl, hr] at h
        exact h
      | inr x =>
        have q := KO x hr [] x.2.2 (fun o ho => by cases ho) (List.append_nil _) (fun z => by omega) (by show 0 ≤ _; omega)
        show RH X Q d S s0 n cnt kd vl pl en T w0 c x.1 (sm2 (opc (tk3 cnt kd 0 i) :: p)) (op - nm2 (opc (tk3 cnt kd 0 i) :: p)) (W ++ C ++ x.2.2 ++ cdz (rpm (nm2 (opc (tk3 cnt kd 0 i) :: p)))) 1
        rw [nz, sz, show cdz (rpm 0) = [] from rfl, List.append_nil]
        exact q
    · have na : l - 1 ≤ 2 → tk3 cnt kd 0 (i + 1) = 9 → ¬ aa (opc (tk3 cnt kd 0 i) :: p) := fun l2 _ z => by
        have : l = 2 := by omega
        subst this
        rcases z.2 with z | ⟨_, z⟩
        · omega
        · rw [r1] at z; revert z; decide
      have ya : 3 ≤ l - 1 → aa (opc (tk3 cnt kd 0 i) :: p) := fun l3 => by
        refine ⟨?_, Or.inr ?_⟩
        · rw [show opc (tk3 cnt kd 0 i) :: p = [opc (tk3 cnt kd 0 i)] ++ p from rfl, ko_app (fun o ho => by rw [List.mem_singleton.mp ho]; exact r3)]
          exact (haa (by omega)).1
        · rw [r1]
          rcases (show l = 4 ∨ l = 5 by omega) with rfl | rfl <;> decide
      have hh2 : hrk (rkh (l - 1)) (opc (tk3 cnt kd 0 i) :: p) := by
        show rk (opc (tk3 cnt kd 0 i)) < rkh (l - 1)
        rw [r1]
        rcases (show l = 2 ∨ l = 4 ∨ l = 5 by omega) with rfl | rfl | rfl <;> decide
      refine ihm l1 op (i + 1) (opc (tk3 cnt kd 0 i) :: p) (W ++ C) D C hop (by omega) (by omega) (by omega) (by omega) hh2 na ya ?_
      cases hr : pE (tk3 cnt kd 0) (tk3 cnt vl 0) c f (l - 1) op (i + 1) D C with
      | inl e =>
        rw [hr] at h
        exact h
      | inr x =>
        intro ops2 Y2 b1 b2 b3 b4
        refine KO x hr ops2 Y2 (fun o ho => ⟨Nat.le_trans ?_ (b1 o ho).1, (b1 o ho).2⟩) b2 (fun z => b3 (by omega)) b4
        rcases (show l = 2 ∨ l = 4 ∨ l = 5 by omega) with rfl | rfl | rfl <;> decide
  · rw [if_neg ho] at h
    exact h ops Y ha hY hcp hol
theorem R_lev (hG : RG s0 n cnt t kd vl pl en T) (hc : c < 4) {m : Nat} (hm : m = 1 ∨ m = 2 ∨ m = 4 ∨ m = 5) (ih0 : m = 1 → RR0 X Q d S s0 n cnt kd vl pl en T w0 c f) (ihm : m ≠ 1 → RRm X Q d S s0 n cnt kd vl pl en T w0 c f (m - 1)) (ihl : RRl X Q d S s0 n cnt kd vl pl en T w0 c f m) : RRm X Q d S s0 n cnt kd vl pl en T w0 c (f + 1) m := by
  have hK := hG.2.2.2.1.kk hc
  have h31 := (pE_p (c := c) hK.2.2.2.1 hK.2.2.2.2.1 f).1
  intro op i p W D C hop hi hw hpl hf hh hna haa h
  rw [pE_l hm] at h
  have KO : ∀ (x : Nat × Dn × Cd), pE (tk3 cnt kd 0) (tk3 cnt vl 0) c f (m - 1) op i D C = .inr x → ∀ (ops2 : List Nat) (Y2 : Cd), (∀ o, o ∈ ops2 → rkl m ≤ rk o ∧ o < 40) → Y2 ++ cdz ops2 = x.2.2 → (3 ≤ m → cpd (ops2 ++ p) = true) → ops2.length ≤ m + (8 - op) → RH X Q d S s0 n cnt kd vl pl en T w0 c x.1 (ops2 ++ p) (op + cn ops2) (W ++ Y2) 1 := by
    intro x hr ops2 Y2 b1 b2 b3 b4
    rw [hr, pB_r] at h
    obtain ⟨a1, a2, a3, a4, a5, a6⟩ := h31 (m - 1) op i D C x.1 x.2.1 x.2.2 (by omega) hr
    exact ihl op x.1 p W _ x.2.2 ops2 Y2 hop (a2 hi) (by omega) hpl (by omega) hh haa b1 b2 b3 b4 h
  by_cases m1 : m = 1
  · subst m1
    have nz : nm2 p = 0 ∧ sm2 p = p := by
      cases p with
      | nil => exact ⟨rfl, rfl⟩
      | cons o q =>
        have : o ≠ 2 := fun z => by
          have hh : rk o < 6 := hh
          rw [z] at hh
          revert hh
          decide
        unfold nm2 sm2
        rw [if_neg this, if_neg this]
        exact ⟨rfl, rfl⟩
    refine ih0 rfl op i p W D C hop hi hw (by omega) (by omega) (by omega) (hna (by decide)) ?_
    cases hr : pE (tk3 cnt kd 0) (tk3 cnt vl 0) c f 0 op i D C with
    | inl e =>
      rw [show (1 : Nat) - 1 = 0 from rfl, hr] at h
      exact h
    | inr x =>
      have q := KO x hr [] x.2.2 (fun o ho => by cases ho) (List.append_nil _) (fun z => by omega) (by show 0 ≤ _; omega)
      show RH X Q d S s0 n cnt kd vl pl en T w0 c x.1 (sm2 p) (op - nm2 p) (W ++ x.2.2 ++ cdz (rpm (nm2 p))) 1
      rw [nz.1, nz.2, show cdz (rpm 0) = [] from rfl, List.append_nil]
      exact q
  · have hh2 : hrk (rkh (m - 1)) p := by
      cases p with
      | nil => trivial
      | cons o q =>
        have hh : rk o < rkh m := hh
        show rk o < rkh (m - 1)
        rcases (show m = 2 ∨ m = 4 ∨ m = 5 by omega) with rfl | rfl | rfl
        · exact Nat.lt_of_lt_of_le hh (by decide)
        · exact Nat.lt_of_lt_of_le hh (by decide)
        · exact Nat.lt_of_lt_of_le hh (by decide)
    refine ihm m1 op i p W D C hop hi hw (by omega) (by omega) hh2 (fun z => hna (by omega)) (fun z => haa (by omega)) ?_
    cases hr : pE (tk3 cnt kd 0) (tk3 cnt vl 0) c f (m - 1) op i D C with
    | inl e =>
      rw [hr] at h
      exact h
    | inr x =>
      intro ops2 Y2 b1 b2 b3 b4
      refine KO x hr ops2 Y2 (fun o ho => ⟨Nat.le_trans ?_ (b1 o ho).1, (b1 o ho).2⟩) b2 (fun z => b3 (by omega)) (by omega)
      rcases (show m = 2 ∨ m = 4 ∨ m = 5 by omega) with rfl | rfl | rfl <;> decide
end RGRAM
