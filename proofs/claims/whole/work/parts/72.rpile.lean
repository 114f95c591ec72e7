/-! the reference's parser: settling, markers, what is ahead, what lies between -/
def sm2 : List Nat → List Nat
  | [] => []
  | o :: q => if o = 2 then sm2 q else o :: q
def nm2 : List Nat → Nat
  | [] => 0
  | o :: q => if o = 2 then nm2 q + 1 else 0
def rpm (k : Nat) : List Nat := List.replicate k 2
theorem sm2_e : ∀ p : List Nat, p = rpm (nm2 p) ++ sm2 p
  | [] => rfl
  | o :: q => by
    unfold nm2 sm2
    by_cases h : o = 2
    · rw [if_pos h, if_pos h, h]
      show 2 :: q = 2 :: (rpm (nm2 q) ++ sm2 q)
      rw [← sm2_e q]
    · rw [if_neg h, if_neg h]
      rfl
theorem sm2_h : ∀ p : List Nat, hrk 7 (sm2 p)
  | [] => trivial
  | o :: q => by
    unfold sm2
    by_cases h : o = 2
    · rw [if_pos h]
      exact sm2_h q
    · rw [if_neg h]
      show rk o < 7
      have := rk7 o
      have := (rk_f (o := o)).2.1
      omega
theorem nm2_l (p : List Nat) : nm2 p + (sm2 p).length = p.length := by
  have := congrArg List.length (sm2_e p)
  rw [List.length_append] at this
  unfold rpm at this
  rw [List.length_replicate] at this
  omega
theorem cn_rp : ∀ k, cn (rpm k) = k
  | 0 => rfl
  | k + 1 => by
    show (if 2 = 2 ∨ 2 = 20 then 1 else 0) + cn (rpm k) = k + 1
    rw [cn_rp k]
    show 1 + k = k + 1
    omega
theorem cn_app : ∀ a b : List Nat, cn (a ++ b) = cn a + cn b
  | [], b => by show cn b = 0 + cn b; omega
  | o :: a, b => by
    show (if o = 2 ∨ o = 20 then 1 else 0) + cn (a ++ b) = ((if o = 2 ∨ o = 20 then 1 else 0) + cn a) + cn b
    rw [cn_app a b]
    omega
theorem cdz_app (a b : List Nat) : cdz (a ++ b) = cdz a ++ cdz b := List.map_append
theorem cdz_len (a : List Nat) : (cdz a).length = a.length := List.length_map _
theorem dm_app : ∀ a p : List Nat, (∀ o, o ∈ a → o < 40) → dm (a ++ p) = dm p
  | [], _, _ => rfl
  | o :: a, p, h => by
    show (if o < 40 then dm (a ++ p) else _) = _
    rw [if_pos (h o List.mem_cons_self)]
    exact dm_app a p (fun x hx => h x (List.mem_cons_of_mem _ hx))
theorem ko_app {a p : List Nat} (h : ∀ o, o ∈ a → o < 40) : ko (a ++ p) = ko p := by
  unfold ko
  rw [dm_app a p h]
theorem cpd_app : ∀ a p : List Nat, (∀ o, o ∈ a → 5 ≤ rk o) → cpd (a ++ p) = cpd p
  | [], _, _ => rfl
  | o :: a, p, h => by
    show (if 4 < rk o then cpd (a ++ p) else _) = _
    have := h o List.mem_cons_self
    rw [if_pos (by omega)]
    exact cpd_app a p (fun x hx => h x (List.mem_cons_of_mem _ hx))
theorem dm_suf : ∀ p : List Nat, ∃ a, p = a ++ dm p
  | [] => ⟨[], rfl⟩
  | o :: q => by
    obtain ⟨a, e⟩ := dm_suf q
    unfold dm
    by_cases h : o < 40
    · rw [if_pos h]
      exact ⟨o :: a, by rw [List.cons_append, ← e]⟩
    · rw [if_neg h]
      exact ⟨[], rfl⟩
def ahd : List Nat → Prop
  | [] => False
  | o :: _ => o = 41 ∨ (1 ≤ rk o ∧ rk o ≤ 3)
def aa (p : List Nat) : Prop := ko p = 41 ∧ ahd p
def btw (k : Nat) (p : List Nat) : Option Nat := if k = 16 then some 3 else if k = 17 then some 4 else if k = 18 then some 5 else if k = 19 then some 6 else if ko p = 41 then (if cpd p = true then (if k = 8 then some 21 else if k = 7 then some 22 else none) else (if 10 ≤ k ∧ k < 16 then some (mc k) else none)) else none
theorem nm01 : nI 0 - nI 1 = -(nI 1) := by decide +kernel
section RPILE
variable {X : xXT} {P : xPT} {d S n cnt T w0 c i op wh : Nat} {s0 s : xS} {Q : xQ} {kd vl pl en t : Nat → Nat} {p : List Nat} {W : Cd}
theorem x_settle (I : xRl X P) (hS : S ≤ 128) (hT : T < 4) {r : Nat} (hr : r < 100) (hr1 : 1 ≤ r) : ∀ (ops : List Nat) (op op' : Nat) (W : Cd) (s : xS), ST s0 n cnt kd vl pl en T w0 c s i (ops ++ p) op W wh → (∀ o, o ∈ ops → r ≤ rk o) → hrk r p → op = op' + cn ops → op < 1000 → w0 + W.length + ops.length ≤ 301 → (ops ++ p).length ≤ 160 → (∀ s' : xS, ST s0 n cnt kd vl pl en T w0 c s' i p op' (W ++ cdz ops) wh → Q none s') → X (d + 1) mX11_settle Q (L0 S) 0 [some (.ref 79), some (.int (nI r))] [] s := by
  intro ops
  induction ops with
  | nil =>
    intro op op' W s hs ha hh ho ho2 hw hl h
    have ho : op = op' := ho
    subst ho
    have k := h s (by show ST s0 n cnt kd vl pl en T w0 c s i p op (W ++ []) wh; rw [List.append_nil]; exact hs)
    have hs : ST s0 n cnt kd vl pl en T w0 c s i p op W wh := hs
    have hl : p.length ≤ 160 := hl
    refine rn I [] 99 ?_
    have e19 := hs.2.1.1
    cases p with
    | nil => exact xbr_f (by rw [e19]; exact znl (Nat.le_refl _) (by decide)) k
    | cons o q =>
      have hl : q.length + 1 ≤ 160 := hl
      have e19 : s.1 79 19 = nI (q.length + 1) := e19
      have pr := hs.2.1.2
      have e84 : s.1 84 q.length = nI o := pr.1
      refine xbr_t (by rw [e19]; exact zlt (by omega) (by omega)) ?_
      refine ⟨q.length, ⟨by omega, by rw [e19, nsb (by omega)]; rfl⟩, ?_⟩
      refine q_rank I hS e84 pr.2.1 ?_
      have := rk7 o
      exact xbr_t (zlt hh (by omega)) k
  | cons o ops ih =>
    intro op op' W s hs ha hh ho ho2 hw hl h
    have hs : ST s0 n cnt kd vl pl en T w0 c s i (o :: (ops ++ p)) op W wh := hs
    have hl : (ops ++ p).length + 1 ≤ 160 := hl
    have hw : w0 + W.length + (ops.length + 1) ≤ 301 := hw
    have ho : op = op' + ((if o = 2 ∨ o = 20 then 1 else 0) + cn ops) := ho
    have e19 : s.1 79 19 = nI ((ops ++ p).length + 1) := hs.2.1.1
    have pr := hs.2.1.2
    have e84 : s.1 84 (ops ++ p).length = nI o := pr.1
    have hro := ha o List.mem_cons_self
    have r7 := rk7 o
    have ep : s.1 79 19 - nI 1 = nI (ops ++ p).length := by rw [e19, nsb (by omega)]; rfl
    refine rn I [0] 99 ?_
    refine xbr_t (by rw [e19]; exact zlt (by omega) (by omega)) ?_
    refine ⟨(ops ++ p).length, ⟨by omega, ep⟩, ?_⟩
    refine q_rank I hS e84 pr.2.1 ?_
    refine xbr_f (znl hro (by omega)) ?_
    have s1 := hs.pop ep
    have p1 : (xW s 79 19 (s.1 79 19 - nI 1)).1 79 19 = nI (ops ++ p).length := s1.2.1.1
    have q1 : (xW s 79 19 (s.1 79 19 - nI 1)).1 84 (ops ++ p).length = nI o := by rw [xW_n (by decide)]; exact e84
    refine ⟨(ops ++ p).length, ⟨by omega, p1⟩, ?_⟩
    refine q_emit I hS s1 hT (by omega) (o := o) (v := 0) q1 rfl (fun s2 t2 g2 => ?_)
    have p2 : s2.1 79 19 = nI (ops ++ p).length := t2.2.1.1
    have q2 : s2.1 84 (ops ++ p).length = nI o := by rw [g2]; exact q1
    refine ⟨(ops ++ p).length, ⟨by omega, p2⟩, ?_⟩
    have e20 := t2.2.2.1
    have len2 : w0 + (W ++ [(o, 0)]).length + ops.length ≤ 301 := by rw [List.length_append]; show w0 + (W.length + 1) + ops.length ≤ 301; omega
    have hfin : ∀ s' : xS, ST s0 n cnt kd vl pl en T w0 c s' i p op' ((W ++ [(o, 0)]) ++ cdz ops) wh → Q none s' := fun s' a => h s' (by rw [List.append_assoc] at a; exact a)
    have DEC : (o = 2 ∨ o = 20) → X (d + 1) mX11_settle Q (L0 S) 0 [some (.ref 79), some (.int (nI r))] [] (xW s2 79 20 (s2.1 79 20 - nI 1)) := by
      intro z
      rw [if_pos z] at ho
      exact ih (op - 1) op' _ _ (t2.opn (v := op - 1) (by rw [e20, nsb (by omega)])) (fun x hx => ha x (List.mem_cons_of_mem _ hx)) hh (by omega) (by omega) len2 (by omega) hfin
    by_cases z2 : o = 2
    · exact xbr_t (by rw [q2, z2]) (DEC (Or.inl z2))
    · refine xbr_f (by rw [q2]; exact zne z2 (by have := pr.2.1; omega) (by decide)) ?_
      refine ⟨(ops ++ p).length, ⟨by omega, p2⟩, ?_⟩
      by_cases z20 : o = 20
      · exact xbr_t (by rw [q2, z20]) (DEC (Or.inr z20))
      · refine xbr_f (by rw [q2]; exact zne z20 (by have := pr.2.1; omega) (by decide)) ?_
        rw [if_neg (by omega)] at ho
        exact ih op op' _ _ t2 (fun x hx => ha x (List.mem_cons_of_mem _ hx)) hh (by omega) ho2 len2 (by omega) hfin
theorem q_settle (I : xRl X P) (hS : S ≤ 128) (hT : T < 4) {x : Int32} {r : Nat} (ex : x = nI r) (hr : r < 100) (hr1 : 1 ≤ r) {ops : List Nat} {op op' : Nat} {W : Cd} (hs : ST s0 n cnt kd vl pl en T w0 c s i (ops ++ p) op W wh) (ha : ∀ o, o ∈ ops → r ≤ rk o) (hh : hrk r p) (ho : op = op' + cn ops) (ho2 : op < 1000) (hw : w0 + W.length + ops.length ≤ 301) (hl : (ops ++ p).length ≤ 160) (h : ∀ s' : xS, ST s0 n cnt kd vl pl en T w0 c s' i p op' (W ++ cdz ops) wh → Q none s') : P (d + 2) (L0 S) 157 [.ref 79, .int x] s Q := by
  subst ex
  refine inX11_settle I (L0ok hS) ?_
  exact x_settle I hS hT hr hr1 ops op op' W s hs ha hh ho ho2 hw hl h
theorem q_whole (I : xRl X P) (hS : S ≤ 128) (hT : T < 4) {op' : Nat} (hs : ST s0 n cnt kd vl pl en T w0 c s i p op W wh) (ho : op = op' + nm2 p) (ho2 : op < 1000) (hw : w0 + W.length + nm2 p ≤ 301) (hl : p.length ≤ 160) (h : ∀ s' : xS, ST s0 n cnt kd vl pl en T w0 c s' i (sm2 p) op' (W ++ cdz (rpm (nm2 p))) 1 → Q none s') : P (d + 3) (L0 S) 158 [.ref 79] s Q := by
  have k := hs.whl 1
  have e := sm2_e p
  refine inX11_whole I (L0ok hS) ?_
  refine rn I [] 99 ?_
  refine ⟨bo, ?_⟩
  have lr : (rpm (nm2 p)).length = nm2 p := List.length_replicate
  refine q_settle I hS hT (r := 7) rfl (by decide) (by decide) (ops := rpm (nm2 p)) (p := sm2 p) (op' := op') (by rw [← e]; exact k) (fun o ho => ?_) (sm2_h p) (by rw [cn_rp]; exact ho) ho2 (by rw [lr]; exact hw) (by rw [← e]; exact hl) h
  have : o = 2 := (List.mem_replicate.mp ho).2
  subst this
  decide
theorem q_marker (I : xRl X P) (hS : S ≤ 128) (e19 : s.1 79 19 = nI p.length) (pr : PLr (s.1 84) p) (hl : p.length ≤ 160) (h : Q (some (.int (nI (dm p).length - nI 1))) s) : P (d + 1) (L0 S) 159 [.ref 79] s Q := by
  have loop : ∀ q : List Nat, PLr (s.1 84) q → q.length ≤ 160 → Q (some (.int (nI (dm q).length - nI 1))) s → X d mX11_marker Q (L0 S) 7 [some (.ref 79), some (.int (nI q.length - nI 1))] [] s := by
    intro q
    induction q with
    | nil =>
      intro _ _ h
      refine rn I [] 99 ?_
      refine xbr_t (by show nI 0 - nI 1 < nI 0; rw [nm01]; exact zm1) ?_
      exact h
    | cons o q ih =>
      intro pr hl h
      have hl : q.length + 1 ≤ 160 := hl
      have e : nI (o :: q).length - nI 1 = nI q.length := by show nI (q.length + 1) - nI 1 = _; rw [nsb (by omega)]; rfl
      have h : Q (some (.int (nI (if o < 40 then dm q else o :: q).length - nI 1))) s := h
      rw [e]
      refine rn I [7] 99 ?_
      refine xbr_f (zn0 (by omega)) ?_
      refine ⟨q.length, ⟨by omega, rfl⟩, ?_⟩
      by_cases h40 : o < 40
      · rw [if_pos h40] at h
        refine xbr_t (by rw [pr.1]; exact zlt h40 (by decide)) ?_
        exact ih pr.2.2 (by omega) h
      · rw [if_neg h40, e] at h
        exact xbr_f (by rw [pr.1]; exact znl (by omega) (by have := pr.2.1; omega)) h
  refine inX11_marker I (L0ok hS) ?_
  refine rn I [7] 99 ?_
  show X _ _ _ _ _ [some (.ref 79), some (.int (s.1 79 19 - nI 1))] [] s
  rw [e19]
  exact loop p pr hl h
theorem q_kindOpen (I : xRl X P) (hS : S ≤ 128) (e19 : s.1 79 19 = nI p.length) (pr : PLr (s.1 84) p) (hl : p.length ≤ 160) (h : Q (some (.int (nI (ko p)))) s) : P (d + 2) (L0 S) 160 [.ref 79, .int (nI 0)] s Q := by
  refine inX11_kindOpen I (L0ok hS) ?_
  refine rn I [] 99 ?_
  refine q_marker I hS e19 pr hl ?_
  obtain ⟨a, ea⟩ := dm_suf p
  have pr2 : PLr (s.1 84) (dm p) := PLr.tl (a := a) (by rw [← ea]; exact pr)
  have l2 : (dm p).length ≤ p.length := by
    have := congrArg List.length ea
    rw [List.length_append] at this
    omega
  unfold ko at h
  cases hd : dm p with
  | nil =>
    rw [hd] at h
    refine xbr_t (by show nI 0 - nI 1 < nI 0; rw [nm01]; exact zm1) ?_
    exact xbr_t rfl h
  | cons o q =>
    rw [hd] at h pr2 l2
    have l2 : q.length + 1 ≤ p.length := l2
    have e : nI (o :: q).length - nI 1 = nI q.length := by show nI (q.length + 1) - nI 1 = _; rw [nsb (by omega)]; rfl
    have h : Q (some (.int (nI o))) s := h
    rw [← pr2.1] at h
    refine xbr_f (by rw [e]; exact zn0 (by omega)) ?_
    exact ⟨q.length, ⟨by omega, e⟩, h⟩
theorem q_isCompared (I : xRl X P) (hS : S ≤ 128) (e19 : s.1 79 19 = nI p.length) (pr : PLr (s.1 84) p) (hl : p.length ≤ 160) (h1 : cpd p = true → Q (some (.int (nI 1))) s) (h0 : ¬ cpd p = true → Q (some (.int (nI 0))) s) : P (d + 2) (L0 S) 161 [.ref 79] s Q := by
  have loop : ∀ q : List Nat, PLr (s.1 84) q → q.length ≤ 160 → (cpd q = true → Q (some (.int (nI 1))) s) → (¬ cpd q = true → Q (some (.int (nI 0))) s) → X (d + 1) mX11_isCompared Q (L0 S) 7 [some (.ref 79), some (.int (nI q.length - nI 1))] [] s := by
    intro q
    induction q with
    | nil =>
      intro _ _ h1 h0
      have m : nI 0 - nI 1 < nI 0 := by rw [nm01]; exact zm1
      refine rn I [] 99 ?_
      refine xbr_t m ?_
      refine xbr_t m ?_
      exact ⟨bz, h0 (fun z => by cases z)⟩
    | cons o q ih =>
      intro pr hl h1 h0
      have hl : q.length + 1 ≤ 160 := hl
      have r7 := rk7 o
      have e : nI (o :: q).length - nI 1 = nI q.length := by show nI (q.length + 1) - nI 1 = _; rw [nsb (by omega)]; rfl
      have ec : cpd (o :: q) = if 4 < rk o then cpd q else decide (rk o = 4) := rfl
      rw [e]
      refine rn I [7] 99 ?_
      refine xbr_f (zn0 (by omega)) ?_
      refine ⟨q.length, ⟨by omega, rfl⟩, ?_⟩
      refine q_rank I hS pr.1 pr.2.1 ?_
      by_cases h4 : 4 < rk o
      · rw [ec, if_pos h4] at h1 h0
        refine xbr_t (zlt h4 (by omega)) ?_
        exact ih pr.2.2 (by omega) h1 h0
      · rw [ec, if_neg h4] at h1 h0
        refine xbr_f (znl (by omega) (by omega)) ?_
        refine xbr_f (zn0 (by omega)) ?_
        refine ⟨q.length, ⟨by omega, rfl⟩, ?_⟩
        refine q_rank I hS pr.1 pr.2.1 ?_
        by_cases h44 : rk o = 4
        · exact xbr_t (by rw [h44]) ⟨bo, h1 (decide_eq_true h44)⟩
        · exact xbr_f (zne h44 (by omega) (by decide)) ⟨bz, h0 (fun z => h44 (of_decide_eq_true z))⟩
  refine inX11_isCompared I (L0ok hS) ?_
  refine rn I [7] 99 ?_
  show X _ _ _ _ _ [some (.ref 79), some (.int (s.1 79 19 - nI 1))] [] s
  rw [e19]
  exact loop p pr hl h1 h0
theorem dm_lt : ∀ {p : List Nat} {r : Nat → Int32}, PLr r p → ko p < 100
  | [], _, _ => by decide
  | o :: q, r, h => by
    unfold ko dm
    by_cases h4 : o < 40
    · rw [if_pos h4]
      exact dm_lt (p := q) h.2.2
    · rw [if_neg h4]
      exact h.2.1
theorem q_isAskAhead (I : xRl X P) (hS : S ≤ 128) (e19 : s.1 79 19 = nI p.length) (pr : PLr (s.1 84) p) (hl : p.length ≤ 160) (h1 : aa p → Q (some (.int (nI 1))) s) (h0 : ¬ aa p → Q (some (.int (nI 0))) s) : P (d + 3) (L0 S) 162 [.ref 79, .int (nI 0)] s Q := by
  refine inX11_isAskAhead I (L0ok hS) ?_
  refine rn I [] 99 ?_
  refine q_kindOpen I hS e19 pr hl ?_
  have k100 := dm_lt pr
  by_cases hk : ko p = 41
  · refine xbr_t (by rw [hk]) ?_
    cases p with
    | nil => exact absurd hk (by decide)
    | cons o q =>
      have hl : q.length + 1 ≤ 160 := hl
      have e19 : s.1 79 19 = nI (q.length + 1) := e19
      have ep : s.1 79 19 - nI 1 = nI q.length := by rw [e19, nsb (by omega)]; rfl
      have r7 := rk7 o
      refine xbr_f (by rw [e19]; exact zne (by omega) (by omega) (by decide)) ?_
      refine ⟨q.length, ⟨by omega, ep⟩, ?_⟩
      by_cases z : o = 41
      · exact xbr_t (by rw [pr.1, z]) ⟨bo, h1 ⟨hk, Or.inl z⟩⟩
      · refine xbr_f (by rw [pr.1]; exact zne z (by have := pr.2.1; omega) (by decide)) ?_
        refine ⟨q.length, ⟨by omega, ep⟩, ?_⟩
        refine q_rank I hS pr.1 pr.2.1 ?_
        refine q_isIn I hS (fun a1 a2 => ?_) (fun a => ?_)
        · refine xbr_f n10 ?_
          exact ⟨bo, h1 ⟨hk, Or.inr ⟨zge (by omega) (by omega) a1, zge (by decide) (by omega) a2⟩⟩⟩
        · refine xbr_t rfl ?_
          refine ⟨bz, h0 (fun y => ?_)⟩
          rcases y.2 with y2 | y2
          · exact z y2
          · rcases a with a | a
            · have := zlt' (by omega) (by decide) a
              omega
            · have := zlt' (by decide) (by omega) a
              omega
  · refine xbr_f (zne hk (by omega) (by decide)) ?_
    exact ⟨bz, h0 (fun y => hk y.1)⟩
theorem q_opensBy (I : xRl X P) (hS : S ≤ 128) (hG : RG s0 n cnt t kd vl pl en T) (hs : ST s0 n cnt kd vl pl en T w0 c s i p op W wh) (hop : op ≤ 8) (hp : p.length < 160) {o : Nat} (ho : o < 100) (h3 : op = 8 → Q (some (.int (nI 3))) s) (h0 : op < 8 → ∀ s' : xS, ST s0 n cnt kd vl pl en T w0 c s' (i + 1) (o :: p) (op + 1) W wh → Q (some (.int (nI 0))) s') : P (d + 4) (L0 S) 163 [.ref 79, .int (nI o)] s Q := by
  have e20 := hs.2.2.1
  refine inX11_opensBy I (L0ok hS) ?_
  refine rn I [] 99 ?_
  by_cases h8 : op = 8
  · exact xbr_t (by rw [e20, h8]) (h3 h8)
  · refine xbr_f (by rw [e20]; exact zne h8 (by omega) (by decide)) ?_
    refine q_push I hS (hs.opn (v := op + 1) (by rw [e20, nad])) hp rfl ho (fun s1 t1 => ?_)
    exact q_nx I hS hG t1 (fun s2 t2 => h0 (by omega) s2 t2)
theorem q_between (I : xRl X P) (hS : S ≤ 128) {k v : Nat} (hT : TRel k v (s.1 79 11) (s.1 79 12) (s.2 79 13)) (e19 : s.1 79 19 = nI p.length) (pr : PLr (s.1 84) p) (hl : p.length ≤ 160) (h : Q (some (.int (o32 (btw k p)))) s) : P (d + 3) (L0 S) 166 [.ref 79, .int (nI 0)] s Q := by
  have TT : ∀ {k'}, tkS k' → (s.1 79 11 = nI (tkn k') ↔ k = k') := fun hk => hT.tok hk
  unfold btw at h
  refine inX11_betweenOf I (L0ok hS) ?_
  refine rn I [] 199 ?_
  by_cases k16 : k = 16
  · rw [if_pos k16] at h
    exact xbr_t ((TT (k' := 16) (by decide)).mpr k16) h
  rw [if_neg k16] at h
  refine xbr_f (fun z => k16 ((TT (k' := 16) (by decide)).mp z)) ?_
  by_cases k17 : k = 17
  · rw [if_pos k17] at h
    exact xbr_t ((TT (k' := 17) (by decide)).mpr k17) h
  rw [if_neg k17] at h
  refine xbr_f (fun z => k17 ((TT (k' := 17) (by decide)).mp z)) ?_
  by_cases k18 : k = 18
  · rw [if_pos k18] at h
    exact xbr_t ((TT (k' := 18) (by decide)).mpr k18) h
  rw [if_neg k18] at h
  refine xbr_f (fun z => k18 ((TT (k' := 18) (by decide)).mp z)) ?_
  by_cases k19 : k = 19
  · rw [if_pos k19] at h
    exact xbr_t ((TT (k' := 19) (by decide)).mpr k19) h
  rw [if_neg k19] at h
  refine xbr_f (fun z => k19 ((TT (k' := 19) (by decide)).mp z)) ?_
  refine q_kindOpen I hS e19 pr hl ?_
  have k100 := dm_lt pr
  by_cases hk : ko p = 41
  · rw [if_pos hk] at h
    refine xbr_t (by rw [hk]) ?_
    refine q_isCompared I hS e19 pr hl (fun hc => ?_) (fun hc => ?_)
    · rw [if_pos hc] at h
      refine xbr_f n10 ?_
      refine q_w3 I hS (by decide) (by decide) (by decide) ?_
      refine q_isWord I hS hT (w := 7) (by decide) (by decide +kernel) (fun z => ?_) (fun z => ?_)
      · have : k = 8 := by unfold isw at z; omega
        rw [if_pos this] at h
        exact xbr_f n10 h
      · have k8 : ¬ k = 8 := fun y => z (by unfold isw; omega)
        rw [if_neg k8] at h
        refine xbr_t rfl ?_
        have W := hT.word (w := 6) (by decide)
        have e6 : pkl (wds 6) = 28530 := by decide +kernel
        by_cases k7 : k = 7
        · rw [if_pos k7] at h
          obtain ⟨w1, w2⟩ := W.mpr (by unfold isw; omega)
          refine xbr_t w1 ?_
          exact xbr_t (lc_eq.mpr (by rw [w2, e6])) h
        · rw [if_neg k7] at h
          refine xbr_c (fun z1 => ?_) (fun _ => h)
          refine xbr_f (fun z2 => k7 ?_) h
          have := W.mp ⟨z1, by rw [e6]; exact lc_eq.mp z2⟩
          unfold isw at this
          omega
    · rw [if_neg hc] at h
      refine xbr_t rfl ?_
      exact q_compareOf I hS hT h
  · rw [if_neg hk] at h
    exact xbr_f (zne hk (by omega) (by decide)) h
end RPILE
