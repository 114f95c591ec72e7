/-! the reference's parser: its state, its pile, its code -/
def EN (n cnt : Nat) (en : Nat → Nat) (i : Nat) : Nat := tk3 (cnt + 1) en n i
def RM (s : xS) (n cnt : Nat) (kd vl pl en : Nat → Nat) (i : Nat) : Prop := s.1 79 9 = nI (EN n cnt en (i + 1)) ∧ s.1 79 10 = nI (tk3 cnt pl n i) ∧ TRel (tk3 cnt kd 0 i) (tk3 cnt vl 0 i) (s.1 79 11) (s.1 79 12) (s.2 79 13)
theorem TXs.o {n : Nat} {t : Nat → Nat} {cnt : Nat} {kd vl pl en : Nat → Nat} (h : TXs n t cnt kd vl pl en) (i : Nat) : TKo n t (EN n cnt en i) (tk3 cnt pl n i) (EN n cnt en (i + 1)) (tk3 cnt kd 0 i) (tk3 cnt vl 0 i) := by
  unfold EN tk3
  by_cases h1 : i < cnt
  · rw [if_pos (by omega), if_pos h1, if_pos (by omega), if_pos h1, if_pos h1]
    exact Or.inl (h.1.2 i h1)
  · rw [if_neg h1, if_neg (by omega : ¬ i + 1 < cnt + 1), if_neg h1, if_neg h1]
    by_cases h2 : i < cnt + 1
    · have e : i = cnt := by omega
      subst e
      rw [if_pos h2]
      exact Or.inr ⟨rfl, rfl, rfl, rfl, h.2.1, h.2.2.1⟩
    · rw [if_neg h2]
      exact Or.inr ⟨rfl, rfl, rfl, rfl, Nat.le_refl _, fun q h1 h2 => by omega⟩
/-- which cells the parser of a clause may change: text T, its code from w on -/
def fP (T w : Nat) (s s' : xS) : Prop := (∀ q, q ≠ 79 → q ≠ 82 → q ≠ 84 → s'.1 q = s.1 q) ∧ (∀ i, (i < 620 * T + 15 + 2 * w ∨ 620 * T + 620 ≤ i) → s'.1 82 i = s.1 82 i) ∧ (∀ i, (i < 9 ∨ i = 14 ∨ i = 15 ∨ i = 17 ∨ i = 18 ∨ 22 ≤ i) → s'.1 79 i = s.1 79 i) ∧ (∀ q, q ≠ 79 → s'.2 q = s.2 q) ∧ ∀ i, i ≠ 13 → s'.2 79 i = s.2 79 i
theorem fP.tr {T w : Nat} {a b c : xS} (h : fP T w a b) (k : fP T w b c) : fP T w a c := ⟨fun q h1 h2 h3 => (k.1 q h1 h2 h3).trans (h.1 q h1 h2 h3), fun i hi => (k.2.1 i hi).trans (h.2.1 i hi), fun i hi => (k.2.2.1 i hi).trans (h.2.2.1 i hi), fun q hq => (k.2.2.2.1 q hq).trans (h.2.2.2.1 q hq), fun q hq => (k.2.2.2.2 q hq).trans (h.2.2.2.2 q hq)⟩
theorem fP.rf {T w : Nat} {a : xS} : fP T w a a := ⟨fun _ _ _ _ => rfl, fun _ _ => rfl, fun _ _ => rfl, fun _ _ => rfl, fun _ _ => rfl⟩
theorem fN.p {T w : Nat} {a b : xS} (h : fN a b) : fP T w a b := ⟨fun q h1 _ _ => h.1 q h1, fun i _ => by rw [h.1 82 (by decide)], fun i hi => h.2.1 i (by omega), h.2.2.1, h.2.2.2⟩
theorem fPw {T w z : Nat} {s : xS} {x : Int32} (hz : z = 16 ∨ z = 19 ∨ z = 20 ∨ z = 21) : fP T w s (xW s 79 z x) := ⟨fun q h1 _ _ => xW_n h1, fun i _ => by rw [xW_n (by decide)], fun i hi => by rw [xW_s, ud_n (by omega)], fun _ _ => rfl, fun _ _ => rfl⟩
theorem fP84 {T w z : Nat} {s : xS} {x : Int32} : fP T w s (xW s 84 z x) := ⟨fun q _ _ h1 => xW_n h1, fun i _ => by rw [xW_n (by decide)], fun i hi => by rw [xW_n (by decide)], fun _ _ => rfl, fun _ _ => rfl⟩
theorem fP82 {T w z : Nat} {s : xS} {x : Int32} (h1 : 620 * T + 15 + 2 * w ≤ z) (h2 : z < 620 * T + 620) : fP T w s (xW s 82 z x) := ⟨fun q _ h _ => xW_n h, fun i hi => by rw [xW_s, ud_n (by omega)], fun i hi => by rw [xW_n (by decide)], fun _ _ => rfl, fun _ _ => rfl⟩
theorem TM.P {T w n : Nat} {s s' : xS} {t : Nat → Nat} (h : TM s n t) (f : fP T w s s') : TM s' n t := ⟨by rw [f.2.2.1 6 (by omega)]; exact h.1, fun i hi => by rw [f.1 83 (by decide) (by decide) (by decide)]; exact h.2 i hi⟩
/-- the pile, its top first -/
def PLr (r : Nat → Int32) : List Nat → Prop
  | [] => True
  | v :: q => r q.length = nI v ∧ v < 100 ∧ PLr r q
theorem PLr.up {r : Nat → Int32} {x : Int32} {k : Nat} : ∀ {p : List Nat}, p.length ≤ k → PLr r p → PLr (upd r k x) p
  | [], _, _ => trivial
  | v :: q, h, hp => ⟨by
      have : q.length < k := h
      rw [ud_n (by omega)]
      exact hp.1, hp.2.1, PLr.up (Nat.le_of_lt h) hp.2.2⟩
theorem PLr.tl {r : Nat → Int32} : ∀ {a p : List Nat}, PLr r (a ++ p) → PLr r p
  | [], _, h => h
  | _ :: _, _, h => PLr.tl h.2.2
def ST (s0 : xS) (n cnt : Nat) (kd vl pl en : Nat → Nat) (T w0 c : Nat) (s : xS) (i : Nat) (p : List Nat) (op : Nat) (W : Cd) (wh : Nat) : Prop :=
  RM s n cnt kd vl pl en i ∧ (s.1 79 19 = nI p.length ∧ PLr (s.1 84) p) ∧ s.1 79 20 = nI op ∧ (s.1 79 16 = nI (w0 + W.length) ∧ CR (s.1 82) (620 * T) w0 W) ∧ s.1 79 14 = nI (620 * T) ∧ s.1 79 22 = nI c ∧ s.1 79 21 = nI wh ∧ fP T w0 s0 s
def rk (o : Nat) : Nat := if 40 ≤ o then 0 else if o = 22 then 1 else if o = 21 then 2 else if o = 20 then 3 else if 10 ≤ o then 4 else if o = 2 then 7 else if 5 ≤ o then 6 else 5
theorem rk7 (o : Nat) : rk o ≤ 7 := by
  unfold rk
  repeat' split
  all_goals omega
theorem rk_f {o : Nat} : (rk o = 0 ↔ 40 ≤ o) ∧ (rk o = 7 ↔ o = 2) ∧ (rk o = 3 ↔ o = 20) := by
  unfold rk
  repeat' split
  all_goals omega
def cn : List Nat → Nat
  | [] => 0
  | o :: q => (if o = 2 ∨ o = 20 then 1 else 0) + cn q
def cdz (ops : List Nat) : Cd := ops.map (fun o => (o, 0))
def dm : List Nat → List Nat
  | [] => []
  | o :: q => if o < 40 then dm q else o :: q
def ko (p : List Nat) : Nat := match dm p with
  | [] => 40
  | o :: _ => o
def cpd : List Nat → Bool
  | [] => false
  | o :: q => if 4 < rk o then cpd q else decide (rk o = 4)
def hrk (r : Nat) : List Nat → Prop
  | [] => True
  | o :: _ => rk o < r
section RSTATE
variable {X : xXT} {P : xPT} {d S n cnt T w0 c i op wh : Nat} {s0 s : xS} {Q : xQ} {kd vl pl en t : Nat → Nat} {p : List Nat} {W : Cd}
theorem q_rank (I : xRl X P) (hS : S ≤ 128) {x : Int32} {o : Nat} (ex : x = nI o) (ho : o < 100) (h : Q (some (.int (nI (rk o)))) s) : P (d + 1) (L0 S) 156 [.int x] s Q := by
  subst ex
  unfold rk at h
  refine inX11_rank I (L0ok hS) ?_
  refine rn I [] 99 ?_
  by_cases h1 : 40 ≤ o
  · rw [if_pos h1] at h
    exact xbr_f (znl h1 (by omega)) h
  rw [if_neg h1] at h
  refine xbr_t (zlt (by omega) (by decide)) ?_
  by_cases h2 : o = 22
  · rw [if_pos h2] at h
    exact xbr_t (by rw [h2]) h
  rw [if_neg h2] at h
  refine xbr_f (zne h2 (by omega) (by decide)) ?_
  by_cases h3 : o = 21
  · rw [if_pos h3] at h
    exact xbr_t (by rw [h3]) h
  rw [if_neg h3] at h
  refine xbr_f (zne h3 (by omega) (by decide)) ?_
  by_cases h4 : o = 20
  · rw [if_pos h4] at h
    exact xbr_t (by rw [h4]) h
  rw [if_neg h4] at h
  refine xbr_f (zne h4 (by omega) (by decide)) ?_
  by_cases h5 : 10 ≤ o
  · rw [if_pos h5] at h
    exact xbr_f (znl h5 (by omega)) h
  rw [if_neg h5] at h
  refine xbr_t (zlt (by omega) (by decide)) ?_
  by_cases h6 : o = 2
  · rw [if_pos h6] at h
    exact xbr_t (by rw [h6]) h
  rw [if_neg h6] at h
  refine xbr_f (zne h6 (by omega) (by decide)) ?_
  by_cases h7 : 5 ≤ o
  · rw [if_pos h7] at h
    exact xbr_f (znl h7 (by omega)) h
  · rw [if_neg h7] at h
    exact xbr_t (zlt (by omega) (by decide)) h
theorem q_emit (I : xRl X P) (hS : S ≤ 128) (hs : ST s0 n cnt kd vl pl en T w0 c s i p op W wh) (hT : T < 4) (hw : w0 + W.length ≤ 301) {x y : Int32} {o v : Nat} (ex : x = nI o) (ey : y = nI v) (h : ∀ s' : xS, ST s0 n cnt kd vl pl en T w0 c s' i p op (W ++ [(o, v)]) wh → s'.1 84 = s.1 84 → Q none s') : P (d + 1) (L0 S) 154 [.ref 79, .int x, .int y] s Q := by
  subst ex
  subst ey
  obtain ⟨h1, ⟨h2, h3⟩, h4, ⟨h5, h6⟩, h7, h8, h9, h10⟩ := hs
  have eA : s.1 79 14 + nI 15 + nI 2 * s.1 79 16 = nI (620 * T + 15 + 2 * (w0 + W.length)) := by rw [h7, h5, nml, nad, nad]
  refine inX11_emit I (L0ok hS) ?_
  refine rn I [] 99 ?_
  refine ⟨620 * T + 15 + 2 * (w0 + W.length), ⟨by omega, eA⟩, ?_⟩
  refine ⟨620 * T + 16 + 2 * (w0 + W.length), ⟨by omega, ?_⟩, ?_⟩
  · show (xW s 82 (620 * T + 15 + 2 * (w0 + W.length)) (nI o)).1 79 14 + nI 15 + nI 2 * (xW s 82 (620 * T + 15 + 2 * (w0 + W.length)) (nI o)).1 79 16 + nI 1 = _
    rw [xW_n (by decide), eA, nad]
    congr 1
    omega
  have F : fP T w0 s (xW (xW (xW s 82 (620 * T + 15 + 2 * (w0 + W.length)) (nI o)) 82 (620 * T + 16 + 2 * (w0 + W.length)) (nI v)) 79 16 ((xW (xW s 82 (620 * T + 15 + 2 * (w0 + W.length)) (nI o)) 82 (620 * T + 16 + 2 * (w0 + W.length)) (nI v)).1 79 16 + nI 1)) := ((fP82 (by omega) (by omega)).tr (fP82 (by omega) (by omega))).tr (fPw (Or.inl rfl))
  have G : ∀ j, j ≠ 16 → (xW (xW (xW s 82 (620 * T + 15 + 2 * (w0 + W.length)) (nI o)) 82 (620 * T + 16 + 2 * (w0 + W.length)) (nI v)) 79 16 ((xW (xW s 82 (620 * T + 15 + 2 * (w0 + W.length)) (nI o)) 82 (620 * T + 16 + 2 * (w0 + W.length)) (nI v)).1 79 16 + nI 1)).1 79 j = s.1 79 j := fun j hj => by rw [xW_s, ud_n hj, xW_n (by decide), xW_n (by decide)]
  refine h _ ⟨?_, ⟨?_, ?_⟩, ?_, ⟨?_, ?_⟩, ?_, ?_, ?_, h10.tr F⟩ (by rw [xW_n (by decide), xW_n (by decide), xW_n (by decide)])
  · unfold RM
    rw [G 9 (by decide), G 10 (by decide), G 11 (by decide), G 12 (by decide)]
    exact h1
  · rw [G 19 (by decide)]; exact h2
  · rw [xW_n (by decide), xW_n (by decide), xW_n (by decide)]; exact h3
  · rw [G 20 (by decide)]; exact h4
  · rw [xW_s, ud_s, xW_n (by decide), xW_n (by decide), h5, nad, List.length_append]; rfl
  · rw [xW_n (by decide), CR.app]
    refine ⟨h6.cg (fun j j1 j2 => by rw [xW_s, ud_n (by omega), xW_s, ud_n (by omega)]), ?_, ?_, trivial⟩
    · rw [xW_s, ud_n (by omega), xW_s, ud_s]
    · rw [xW_s, ud_s]
  · rw [G 14 (by decide)]; exact h7
  · rw [G 22 (by decide)]; exact h8
  · rw [G 21 (by decide)]; exact h9
theorem q_push (I : xRl X P) (hS : S ≤ 128) (hs : ST s0 n cnt kd vl pl en T w0 c s i p op W wh) (hp : p.length < 160) {x : Int32} {o : Nat} (ex : x = nI o) (ho : o < 100) (h : ∀ s' : xS, ST s0 n cnt kd vl pl en T w0 c s' i (o :: p) op W wh → Q none s') : P (d + 1) (L0 S) 155 [.ref 79, .int x] s Q := by
  subst ex
  obtain ⟨h1, ⟨h2, h3⟩, h4, ⟨h5, h6⟩, h7, h8, h9, h10⟩ := hs
  refine inX11_push I (L0ok hS) ?_
  refine rn I [] 99 ?_
  refine ⟨p.length, ⟨hp, h2⟩, ?_⟩
  have G : ∀ j, j ≠ 19 → (xW (xW s 84 p.length (nI o)) 79 19 ((xW s 84 p.length (nI o)).1 79 19 + nI 1)).1 79 j = s.1 79 j := fun j hj => by rw [xW_s, ud_n hj, xW_n (by decide)]
  refine h _ ⟨?_, ⟨?_, ?_, ho, ?_⟩, ?_, ⟨?_, ?_⟩, ?_, ?_, ?_, (h10.tr fP84).tr (fPw (Or.inr (Or.inl rfl)))⟩
  · unfold RM
    rw [G 9 (by decide), G 10 (by decide), G 11 (by decide), G 12 (by decide)]
    exact h1
  · rw [xW_s, ud_s, xW_n (by decide), h2, nad]; rfl
  · rw [xW_n (by decide), xW_s, ud_s]
  · rw [xW_n (by decide)]
    show PLr (va_up s.1 84 (upd (s.1 84) p.length (nI o)) 84) p
    rw [up_s]
    exact h3.up (Nat.le_refl _)
  · rw [G 20 (by decide)]; exact h4
  · rw [G 16 (by decide)]; exact h5
  · rw [xW_n (by decide), xW_n (by decide)]; exact h6
  · rw [G 14 (by decide)]; exact h7
  · rw [G 22 (by decide)]; exact h8
  · rw [G 21 (by decide)]; exact h9
theorem ST.whl (hs : ST s0 n cnt kd vl pl en T w0 c s i p op W wh) (v : Nat) : ST s0 n cnt kd vl pl en T w0 c (xW s 79 21 (nI v)) i p op W v := by
  obtain ⟨h1, ⟨h2, h3⟩, h4, ⟨h5, h6⟩, h7, h8, h9, h10⟩ := hs
  have G : ∀ j, j ≠ 21 → (xW s 79 21 (nI v)).1 79 j = s.1 79 j := fun j hj => by rw [xW_s, ud_n hj]
  refine ⟨?_, ⟨?_, ?_⟩, ?_, ⟨?_, ?_⟩, ?_, ?_, ?_, h10.tr (fPw (Or.inr (Or.inr (Or.inr rfl))))⟩
  · unfold RM
    rw [G 9 (by decide), G 10 (by decide), G 11 (by decide), G 12 (by decide)]
    exact h1
  · rw [G 19 (by decide)]; exact h2
  · rw [xW_n (by decide)]; exact h3
  · rw [G 20 (by decide)]; exact h4
  · rw [G 16 (by decide)]; exact h5
  · rw [xW_n (by decide)]; exact h6
  · rw [G 14 (by decide)]; exact h7
  · rw [G 22 (by decide)]; exact h8
  · rw [xW_s, ud_s]
theorem ST.opn (hs : ST s0 n cnt kd vl pl en T w0 c s i p op W wh) {x : Int32} {v : Nat} (ex : x = nI v) : ST s0 n cnt kd vl pl en T w0 c (xW s 79 20 x) i p v W wh := by
  subst ex
  obtain ⟨h1, ⟨h2, h3⟩, h4, ⟨h5, h6⟩, h7, h8, h9, h10⟩ := hs
  have G : ∀ j, j ≠ 20 → (xW s 79 20 (nI v)).1 79 j = s.1 79 j := fun j hj => by rw [xW_s, ud_n hj]
  refine ⟨?_, ⟨?_, ?_⟩, ?_, ⟨?_, ?_⟩, ?_, ?_, ?_, h10.tr (fPw (Or.inr (Or.inr (Or.inl rfl))))⟩
  · unfold RM
    rw [G 9 (by decide), G 10 (by decide), G 11 (by decide), G 12 (by decide)]
    exact h1
  · rw [G 19 (by decide)]; exact h2
  · rw [xW_n (by decide)]; exact h3
  · rw [xW_s, ud_s]
  · rw [G 16 (by decide)]; exact h5
  · rw [xW_n (by decide)]; exact h6
  · rw [G 14 (by decide)]; exact h7
  · rw [G 22 (by decide)]; exact h8
  · rw [G 21 (by decide)]; exact h9
theorem ST.pop {o : Nat} (hs : ST s0 n cnt kd vl pl en T w0 c s i (o :: p) op W wh) {x : Int32} (ex : x = nI p.length) : ST s0 n cnt kd vl pl en T w0 c (xW s 79 19 x) i p op W wh := by
  subst ex
  obtain ⟨h1, ⟨h2, h3⟩, h4, ⟨h5, h6⟩, h7, h8, h9, h10⟩ := hs
  have G : ∀ j, j ≠ 19 → (xW s 79 19 (nI p.length)).1 79 j = s.1 79 j := fun j hj => by rw [xW_s, ud_n hj]
  refine ⟨?_, ⟨?_, ?_⟩, ?_, ⟨?_, ?_⟩, ?_, ?_, ?_, h10.tr (fPw (Or.inr (Or.inl rfl)))⟩
  · unfold RM
    rw [G 9 (by decide), G 10 (by decide), G 11 (by decide), G 12 (by decide)]
    exact h1
  · rw [xW_s, ud_s]
  · rw [xW_n (by decide)]; exact h3.2.2
  · rw [G 20 (by decide)]; exact h4
  · rw [G 16 (by decide)]; exact h5
  · rw [xW_n (by decide)]; exact h6
  · rw [G 14 (by decide)]; exact h7
  · rw [G 22 (by decide)]; exact h8
  · rw [G 21 (by decide)]; exact h9
theorem ST.trn {o o' : Nat} (hs : ST s0 n cnt kd vl pl en T w0 c s i (o :: p) op W wh) (ho : o' < 100) {x : Int32} (ex : x = nI o') : ST s0 n cnt kd vl pl en T w0 c (xW s 84 p.length x) i (o' :: p) op W wh := by
  subst ex
  obtain ⟨h1, ⟨h2, h3⟩, h4, ⟨h5, h6⟩, h7, h8, h9, h10⟩ := hs
  refine ⟨?_, ⟨?_, ?_, ho, ?_⟩, ?_, ⟨?_, ?_⟩, ?_, ?_, ?_, h10.tr fP84⟩
  · unfold RM
    rw [xW_n (by decide)]
    exact h1
  · rw [xW_n (by decide)]; exact h2
  · rw [xW_s, ud_s]
  · show PLr (va_up s.1 84 (upd (s.1 84) p.length (nI o')) 84) p
    rw [up_s]
    exact h3.2.2.up (Nat.le_refl _)
  · rw [xW_n (by decide)]; exact h4
  · rw [xW_n (by decide)]; exact h5
  · rw [xW_n (by decide)]; exact h6
  · rw [xW_n (by decide)]; exact h7
  · rw [xW_n (by decide)]; exact h8
  · rw [xW_n (by decide)]; exact h9
theorem ST.tok (hs : ST s0 n cnt kd vl pl en T w0 c s i p op W wh) {s' : xS} {j : Nat} (f : fN s s') (hr : RM s' n cnt kd vl pl en j) : ST s0 n cnt kd vl pl en T w0 c s' j p op W wh := by
  obtain ⟨h1, ⟨h2, h3⟩, h4, ⟨h5, h6⟩, h7, h8, h9, h10⟩ := hs
  refine ⟨hr, ⟨?_, ?_⟩, ?_, ⟨?_, ?_⟩, ?_, ?_, ?_, h10.tr f.p⟩
  · rw [f.2.1 19 (by omega)]; exact h2
  · rw [f.1 84 (by decide)]; exact h3
  · rw [f.2.1 20 (by omega)]; exact h4
  · rw [f.2.1 16 (by omega)]; exact h5
  · rw [f.1 82 (by decide)]; exact h6
  · rw [f.2.1 14 (by omega)]; exact h7
  · rw [f.2.1 22 (by omega)]; exact h8
  · rw [f.2.1 21 (by omega)]; exact h9
/-- what stays the same throughout: the tape, and the tokens -/
def RG (s0 : xS) (n cnt : Nat) (t kd vl pl en : Nat → Nat) (T : Nat) : Prop := TM s0 n t ∧ n ≤ 300 ∧ (∀ i, i < n → t i < 256) ∧ TXs n t cnt kd vl pl en ∧ T < 4
theorem q_nx (I : xRl X P) (hS : S ≤ 128) (hG : RG s0 n cnt t kd vl pl en T) (hs : ST s0 n cnt kd vl pl en T w0 c s i p op W wh) (h : ∀ s' : xS, ST s0 n cnt kd vl pl en T w0 c s' (i + 1) p op W wh → Q none s') : P (d + 3) (L0 S) 148 [.ref 79] s Q := by
  obtain ⟨g1, g2, g3, g4, g5⟩ := hG
  have hs' := hs
  obtain ⟨h1, -, -, -, -, -, -, h10⟩ := hs'
  exact q_next I hS (g1.P h10) g2 g3 h1.1 (g4.o (i + 1)) (fun s' a b c f => h s' (hs.tok f ⟨a, b, c⟩))
end RSTATE
