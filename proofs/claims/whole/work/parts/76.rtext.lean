/-! the reference's parsed, clause, readText and text -/
def fQ2 (T : Nat) (s s' : xS) : Prop := (∀ q, q ≠ 79 → q ≠ 82 → q ≠ 84 → s'.1 q = s.1 q) ∧ (∀ i, (i < 620 * T ∨ 620 * T + 620 ≤ i) → s'.1 82 i = s.1 82 i) ∧ (∀ i, (i < 9 ∨ i = 15 ∨ i = 17 ∨ i = 18 ∨ 24 ≤ i) → s'.1 79 i = s.1 79 i) ∧ (∀ q, q ≠ 79 → s'.2 q = s.2 q) ∧ ∀ i, i ≠ 13 → s'.2 79 i = s.2 79 i
theorem fQ2.tr {T : Nat} {a b c : xS} (h : fQ2 T a b) (k : fQ2 T b c) : fQ2 T a c := ⟨fun q h1 h2 h3 => (k.1 q h1 h2 h3).trans (h.1 q h1 h2 h3), fun i hi => (k.2.1 i hi).trans (h.2.1 i hi), fun i hi => (k.2.2.1 i hi).trans (h.2.2.1 i hi), fun q hq => (k.2.2.2.1 q hq).trans (h.2.2.2.1 q hq), fun q hq => (k.2.2.2.2 q hq).trans (h.2.2.2.2 q hq)⟩
theorem fQ2.rf {T : Nat} {a : xS} : fQ2 T a a := ⟨fun _ _ _ _ => rfl, fun _ _ => rfl, fun _ _ => rfl, fun _ _ => rfl, fun _ _ => rfl⟩
theorem fP.q {T w : Nat} {a b : xS} (h : fP T w a b) : fQ2 T a b := ⟨h.1, fun i hi => h.2.1 i (by omega), fun i hi => h.2.2.1 i (by omega), h.2.2.2.1, h.2.2.2.2⟩
theorem fN.q {T : Nat} {a b : xS} (h : fN a b) : fQ2 T a b := (h.p (T := T) (w := 0)).q
theorem fQw {T z : Nat} {s : xS} {x : Int32} (h1 : 9 ≤ z) (h2 : z ≤ 23) (h3 : z ≠ 15) (h4 : z ≠ 17) (h5 : z ≠ 18) : fQ2 T s (xW s 79 z x) := ⟨fun q h1 _ _ => xW_n h1, fun i _ => by rw [xW_n (by decide)], fun i hi => by rw [xW_s, ud_n (by omega)], fun _ _ => rfl, fun _ _ => rfl⟩
theorem fQ82 {T z : Nat} {s : xS} {x : Int32} (h1 : 620 * T ≤ z) (h2 : z < 620 * T + 620) : fQ2 T s (xW s 82 z x) := ⟨fun q _ h _ => xW_n h, fun i hi => by rw [xW_s, ud_n (by omega)], fun i hi => by rw [xW_n (by decide)], fun _ _ => rfl, fun _ _ => rfl⟩
theorem TM.Q {T n : Nat} {s s' : xS} {t : Nat → Nat} (h : TM s n t) (f : fQ2 T s s') : TM s' n t := ⟨by rw [f.2.2.1 6 (by omega)]; exact h.1, fun i hi => by rw [f.1 83 (by decide) (by decide) (by decide)]; exact h.2 i hi⟩
theorem RM.cg {s s' : xS} {n cnt : Nat} {kd vl pl en : Nat → Nat} {i : Nat} (h : RM s n cnt kd vl pl en i) (e : ∀ j, 9 ≤ j → j ≤ 12 → s'.1 79 j = s.1 79 j) (e2 : s'.2 = s.2) : RM s' n cnt kd vl pl en i := by
  unfold RM
  rw [e 9 (by decide) (by decide), e 10 (by decide) (by decide), e 11 (by decide) (by decide), e 12 (by decide) (by decide), e2]
  exact h
def ci (dn : Nat → Option Dn) : Nat := (if (dn 0).isSome = true then 1 else 0) + (if (dn 1).isSome = true then 1 else 0) + (if (dn 2).isSome = true then 1 else 0) + (if (dn 3).isSome = true then 1 else 0)
theorem ci_ud {dn : Nat → Option Dn} {c : Nat} (hc : c < 4) (h : ¬ (dn c).isSome = true) (D : Dn) : ci (ud dn c D) = ci dn + 1 ∧ ci dn ≤ 3 := by
  have e : (ud dn c D c).isSome = true := by rw [ud_at]; rfl
  have b : ∀ d : Nat → Option Dn, ∀ j, (if (d j).isSome = true then 1 else 0) ≤ 1 := fun d j => by split <;> omega
  unfold ci
  have b0 := b dn 0
  have b1 := b dn 1
  have b2 := b dn 2
  have b3 := b dn 3
  rcases (show c = 0 ∨ c = 1 ∨ c = 2 ∨ c = 3 by omega) with rfl | rfl | rfl | rfl
  · rw [if_pos e, ud_ne (by decide), ud_ne (by decide), ud_ne (by decide), if_neg h]
    omega
  · rw [if_pos e, ud_ne (by decide), ud_ne (by decide), ud_ne (by decide), if_neg h]
    omega
  · rw [if_pos e, ud_ne (by decide), ud_ne (by decide), ud_ne (by decide), if_neg h]
    omega
  · rw [if_pos e, ud_ne (by decide), ud_ne (by decide), ud_ne (by decide), if_neg h]
    omega
def obt (om c : Nat) : Nat := om / 2 ^ c % 2
def ou (om c : Nat) : Nat := if obt om c = 1 then om else om + 2 ^ c
theorem on1 : ∀ om, om < 16 → ∀ c, c < 4 → ((nI om >>> (nI c &&& 31)) &&& nI 1 = nI 1 ↔ obt om c = 1) := by decide +kernel
theorem on2 : ∀ om, om < 16 → ∀ c, c < 4 → nI om ||| (nI 1 <<< (nI c &&& 31)) = nI (ou om c) ∧ ou om c < 16 := by decide +kernel
theorem on3 : ∀ om, om < 16 → ∀ c, c < 4 → ∀ c', c' < 4 → obt (ou om c) c' = if c' = c then 1 else obt om c' := by decide +kernel
def XN (r : Nat → Int32) (t c m : Nat) (l : Nat → Nat) (w : Nat) (od : Option Dn) : Prop := match od with
  | none => ∀ j, j < m → l j ≠ c
  | some D => ∃ j a b C, j < m ∧ l j = c ∧ (∀ i, i < j → l i ≠ c) ∧ r (620 * t + 2 + 3 * j) = nI a ∧ r (620 * t + 3 + 3 * j) = nI b ∧ b ≤ w ∧ a + C.length = b ∧ CR r (620 * t) a C ∧ MG C D
theorem XN.xm {r : Nat → Int32} {t c m : Nat} {l : Nat → Nat} {w : Nat} {od : Option Dn} (h : XN r t c m l w od) (hw : w ≤ 300) : XM r t c m l od := by
  cases od with
  | none => exact h
  | some D =>
    obtain ⟨j, a, b, C, h1, h2, h3, h4, h5, h6, h7⟩ := h
    exact ⟨j, a, b, C, h1, h2, h3, h4, h5, by omega, h7⟩
def TS (s : xS) (T : Nat) (dn : Nat → Option Dn) (w : Nat) : Prop := s.1 79 16 = nI w ∧ s.1 79 14 = nI (620 * T) ∧ s.1 79 20 = nI 0 ∧ (∃ om, om < 16 ∧ s.1 79 23 = nI om ∧ ∀ c, c < 4 → (obt om c = 1 ↔ (dn c).isSome = true)) ∧ s.1 82 (620 * T) = nI (ci dn) ∧ ∃ l : Nat → Nat, (∀ j, j < ci dn → s.1 82 (620 * T + 1 + 3 * j) = nI (l j) ∧ l j < 4) ∧ ∀ c, c < 4 → XN (s.1 82) T c (ci dn) l w (dn c)
def PrE (r : pR) : Prop := ∀ e, r = .inl e → 1 ≤ e.1 ∧ e.1 ≤ 5
theorem pr_l {k i : Nat} (h1 : 1 ≤ k) (h2 : k ≤ 5) : PrE (.inl (k, i)) := fun e he => by cases he; exact ⟨h1, h2⟩
theorem pr_r {x : Nat × Dn × Cd} : PrE (.inr x) := fun e he => by cases he
theorem pr_ite {c : Prop} [Decidable c] {a b : pR} (ha : PrE a) (hb : PrE b) : PrE (if c then a else b) := by
  split
  · exact ha
  · exact hb
theorem pr_B {r : pR} {k : Nat → Dn → Cd → pR} (hr : PrE r) (hk : ∀ j D C, PrE (k j D C)) : PrE (pB r k) := by
  cases r with
  | inl e => exact hr
  | inr x => exact hk _ _ _
theorem pE_e (K V : Nat → Nat) (c : Nat) : ∀ (f m op i : Nat) (D : Dn) (C : Cd), PrE (pE K V c f m op i D C)
  | 0, _, _, i, _, _ => pr_l (by decide) (by decide)
  | f + 1, m, op, i, D, C => by
    have ih := pE_e K V c f
    rw [pE]
    repeat' first | exact pr_r | exact pr_l (by decide) (by decide) | exact ih _ _ _ _ _ | refine pr_ite ?_ ?_ | refine pr_B (ih _ _ _ _ _) (fun j D C => ?_)
theorem pE_err_ne {K V : Nat → Nat} {c f m op i : Nat} {D : Dn} {C : Cd} {e : Nat × Nat} (h : pE K V c f m op i D C = .inl e) : ¬ nI e.1 = nI 0 := by
  have := pE_e K V c f m op i D C e h
  exact zne (by omega) (by omega) (by decide)
theorem TS_add {r r' : Nat → Int32} {T c w : Nat} {dn : Nat → Option Dn} {l : Nat → Nat} {D : Dn} {C : Cd} (hc : c < 4) (hn : ¬ (dn c).isSome = true) (l1 : ∀ j, j < ci dn → r (620 * T + 1 + 3 * j) = nI (l j) ∧ l j < 4) (l2 : ∀ c', c' < 4 → XN r T c' (ci dn) l w (dn c')) (m1 : r' (620 * T + 1 + 3 * ci dn) = nI c) (m2 : r' (620 * T + 2 + 3 * ci dn) = nI w) (m3 : r' (620 * T + 3 + 3 * ci dn) = nI (w + C.length)) (ro : ∀ j, 620 * T + 1 ≤ j → j < 620 * T + 1 + 3 * ci dn → r' j = r j) (rc : ∀ j, 620 * T + 15 ≤ j → j < 620 * T + 15 + 2 * w → r' j = r j) (hC : CR r' (620 * T) w C) (hM : MG C D) : ∃ l' : Nat → Nat, (∀ j, j < ci (ud dn c D) → r' (620 * T + 1 + 3 * j) = nI (l' j) ∧ l' j < 4) ∧ ∀ c', c' < 4 → XN r' T c' (ci (ud dn c D)) l' (w + C.length) (ud dn c D c') := by
  obtain ⟨e, e3⟩ := ci_ud (D := D) hc hn
  rw [e]
  refine ⟨on l (ci dn) c, fun j hj => ?_, fun c' hc' => ?_⟩
  · by_cases z : j = ci dn
    · rw [z, on_s]
      exact ⟨m1, hc⟩
    · rw [on_n z, ro _ (by omega) (by omega)]
      exact l1 j (by omega)
  · have g := l2 c' hc'
    by_cases z : c' = c
    · subst z
      rw [ud_at]
      have g : ∀ j, j < ci dn → l j ≠ c' := by
        cases hd : dn c' with
        | none => rw [hd] at g; exact g
        | some D' => rw [hd] at hn; exact absurd rfl hn
      exact ⟨ci dn, w, w + C.length, C, by omega, on_s, fun i hi => by rw [on_n (by omega)]; exact g i hi, m2, m3, Nat.le_refl _, rfl, hC, hM⟩
    · rw [ud_ne z]
      cases hd : dn c' with
      | none =>
        rw [hd] at g
        intro j hj
        by_cases y : j = ci dn
        · rw [y, on_s]
          exact fun q => z q.symm
        · rw [on_n y]
          exact g j (by omega)
      | some D' =>
        rw [hd] at g
        obtain ⟨j, a, b, C', g1, g2, g3, g4, g5, g6, g7, g8, g9⟩ := g
        exact ⟨j, a, b, C', by omega, by rw [on_n (by omega)]; exact g2, fun i hi => by rw [on_n (by omega)]; exact g3 i hi, by rw [ro _ (by omega) (by omega)]; exact g4, by rw [ro _ (by omega) (by omega)]; exact g5, by omega, g7, g8.cg (fun i h1 h2 => rc i (by omega) (by omega)), g9⟩
section RTEXT
variable {X : xXT} {P : xPT} {d S n cnt T : Nat} {s : xS} {Q : xQ} {kd vl pl en t : Nat → Nat} {dn : Nat → Option Dn}
theorem q_parsed (I : xRl X P) (hS : S ≤ 128) (hG : RG s n cnt t kd vl pl en T) {c w0 i F : Nat} (hc : c < 4) (hR : RM s n cnt kd vl pl en i) (e20 : s.1 79 20 = nI 0) (e16 : s.1 79 16 = nI w0) (e14 : s.1 79 14 = nI (620 * T)) (e22 : s.1 79 22 = nI c) (hw : w0 ≤ i) (hi : i ≤ cnt) (hF : 16 * (cnt + 2) ≤ F) (he : ∀ e, pE (tk3 cnt kd 0) (tk3 cnt vl 0) c F 2 0 i (fun _ => 0) [] = .inl e → ∀ s' : xS, RM s' n cnt kd vl pl en e.2 → fP T w0 s s' → Q (some (.int (nI e.1))) s') (hk : ∀ x, pE (tk3 cnt kd 0) (tk3 cnt vl 0) c F 2 0 i (fun _ => 0) [] = .inr x → ∀ s' : xS, RM s' n cnt kd vl pl en x.1 → CR (s'.1 82) (620 * T) w0 x.2.2 → s'.1 79 16 = nI (w0 + x.2.2.length) → s'.1 79 20 = nI 0 → fP T w0 s s' → Q (some (.int (nI 0))) s') : P (d + 6) (L0 S) 168 [.ref 79, .int (nI 0)] s Q := by
  have hK := hG.2.2.2.1.kk hc
  have c3 := hK.1
  have f1 : fP T w0 s (xW (xW s 79 19 (nI 0)) 79 21 (nI 0)) := (fPw (Or.inr (Or.inl rfl))).tr (fPw (Or.inr (Or.inr (Or.inr rfl))))
  have G : ∀ j, j ≠ 19 → j ≠ 21 → (xW (xW s 79 19 (nI 0)) 79 21 (nI 0)).1 79 j = s.1 79 j := fun j h1 h2 => by rw [xW_s, ud_n h2, xW_s, ud_n h1]
  have st : ST s n cnt kd vl pl en T w0 c (xW (xW s 79 19 (nI 0)) 79 21 (nI 0)) i [] 0 [] 0 := by
    refine ⟨hR.cg (fun j h1 h2 => G j (by omega) (by omega)) rfl, ⟨?_, trivial⟩, ?_, ⟨?_, trivial⟩, ?_, ?_, ?_, f1⟩
    · rw [xW_s, ud_n (by decide), xW_s, ud_s]; rfl
    · rw [G 20 (by decide) (by decide)]; exact e20
    · rw [G 16 (by decide) (by decide)]; exact e16
    · rw [G 14 (by decide) (by decide)]; exact e14
    · rw [G 22 (by decide) (by decide)]; exact e22
    · rw [xW_s, ud_s]
  refine inX11_parsed I (L0ok hS) ?_
  refine rn I [12] 99 ?_
  refine ⟨bz, ?_⟩
  refine ((R_main I hS hG hc F).2.2.1) 0 i [] [] (fun _ => 0) [] (by decide) hi (by show w0 + 0 + 0 ≤ i; omega) (by show 0 + 2 ≤ 5; decide) (by omega) trivial (fun _ _ z => absurd z.1 (by decide)) (fun z => by omega) ?_ _ none st
  cases hr : pE (tk3 cnt kd 0) (tk3 cnt vl 0) c F 2 0 i (fun _ => 0) [] with
  | inl e => exact fun s' a b => he e hr s' a b
  | inr x =>
    obtain ⟨a1, a2, a3, a4, a5, a6⟩ := (pE_p (c := c) hK.2.2.2.1 hK.2.2.2.2.1 F).1 2 0 i _ _ x.1 x.2.1 x.2.2 (by decide) hr
    have a2 := a2 hi
    intro ops Y b1 b2 b3 b4
    have b1 : ∀ o, o ∈ ops → 5 ≤ rk o ∧ o < 40 := b1
    have hYl : Y.length + ops.length = x.2.2.length := by
      have := congrArg List.length b2
      rw [List.length_append, cdz_len] at this
      exact this
    have hcn := cn_le ops
    have ed : dm ops = [] := by
      have := dm_app ops [] (fun o ho => (b1 o ho).2)
      rw [List.append_nil] at this
      exact this
    have ek : ko ops = 40 := by unfold ko; rw [ed]
    rw [List.append_nil, Nat.zero_add, List.nil_append]
    refine r_exit I hS hG (op' := 0) (btw_none a6 (by rw [ek]; decide)) (by omega) (fun o ho => ⟨by have := (b1 o ho).1; omega, (b1 o ho).2⟩) (by omega) (by omega) (by omega) (fun s' g => ?_)
    rw [b2] at g
    exact hk x hr s' g.1 g.2.2.2.1.2 g.2.2.2.1.1 g.2.2.1 g.2.2.2.2.2.2.2
theorem q_clause (I : xRl X P) (hS : S ≤ 128) (hG : RG s n cnt t kd vl pl en T) {w i F : Nat} (hR : RM s n cnt kd vl pl en i) (hs : TS s T dn w) (hw : w ≤ i) (hi : i ≤ cnt) (hF : 16 * (cnt + 2) ≤ F)
    (h1 : tk3 cnt kd 0 i ≠ 4 → Q (some (.int (nI 1))) s)
    (h4 : tk3 cnt kd 0 i = 4 → (dn (tk3 cnt vl 0 i)).isSome = true → Q (some (.int (nI 4))) s)
    (he : tk3 cnt kd 0 i = 4 → ¬ (dn (tk3 cnt vl 0 i)).isSome = true → ∀ e, pE (tk3 cnt kd 0) (tk3 cnt vl 0) (tk3 cnt vl 0 i) F 2 0 (i + 1) (fun _ => 0) [] = .inl e → ∀ s' : xS, RM s' n cnt kd vl pl en e.2 → fQ2 T s s' → Q (some (.int (nI e.1))) s')
    (h22 : tk3 cnt kd 0 i = 4 → ¬ (dn (tk3 cnt vl 0 i)).isSome = true → ∀ x, pE (tk3 cnt kd 0) (tk3 cnt vl 0) (tk3 cnt vl 0 i) F 2 0 (i + 1) (fun _ => 0) [] = .inr x → tk3 cnt kd 0 x.1 ≠ 22 → ∀ s' : xS, RM s' n cnt kd vl pl en x.1 → fQ2 T s s' → Q (some (.int (nI 1))) s')
    (hk : tk3 cnt kd 0 i = 4 → ¬ (dn (tk3 cnt vl 0 i)).isSome = true → ∀ x, pE (tk3 cnt kd 0) (tk3 cnt vl 0) (tk3 cnt vl 0 i) F 2 0 (i + 1) (fun _ => 0) [] = .inr x → tk3 cnt kd 0 x.1 = 22 → ∀ (s' : xS) (w' : Nat), RM s' n cnt kd vl pl en (x.1 + 1) → TS s' T (ud dn (tk3 cnt vl 0 i) x.2.1) w' → w' ≤ x.1 → x.1 < cnt → i < x.1 → fQ2 T s s' → Q (some (.int (nI 0))) s') : P (d + 7) (L0 S) 172 [.ref 79] s Q := by
  have hX := hG.2.2.2.1
  have hT := hG.2.2.2.2
  have bd := hX.bd i
  have b6 := bd.2.2.2.2.2.1
  have b7 := bd.2.2.2.2.2.2
  obtain ⟨t1, t2, t3, ⟨om, o1, o2, o3⟩, t5, l, l1, l2⟩ := hs
  refine inX11_clause I (L0ok hS) ?_
  refine rn I [] 199 ?_
  refine q_sortOf I hS hR.2.2 (fun z => by rw [b7]; exact bd.2.2.1 (by rw [← b6]; exact z)) ?_
  by_cases k4 : tk3 cnt kd 0 i = 4
  · rw [if_pos k4, show o32 (some (tk3 cnt vl 0 i)) = nI (tk3 cnt vl 0 i) from rfl]
    obtain ⟨v4, ic⟩ := hX.c4 k4
    have hK := hX.kk v4
    have c3 := hK.1
    have h4 := h4 k4
    have he := he k4
    have h22 := h22 k4
    have hk := hk k4
    refine xbr_f (zn0 (by omega)) ?_
    by_cases hsome : (dn (tk3 cnt vl 0 i)).isSome = true
    · refine xbr_t ?_ (h4 hsome)
      show (s.1 79 23 >>> (nI (tk3 cnt vl 0 i) &&& 31)) &&& nI 1 = nI 1
      rw [o2]
      exact (on1 om o1 _ v4).mpr ((o3 _ v4).mpr hsome)
    · refine xbr_f ?_ ?_
      · show ¬ (s.1 79 23 >>> (nI (tk3 cnt vl 0 i) &&& 31)) &&& nI 1 = nI 1
        rw [o2]
        exact fun z => hsome ((o3 _ v4).mp ((on1 om o1 _ v4).mp z))
      have he := he hsome
      have h22 := h22 hsome
      have hk := hk hsome
      obtain ⟨q1, q2⟩ := on2 om o1 _ v4
      have ew : s.1 79 23 ||| (nI 1 <<< (nI (tk3 cnt vl 0 i) &&& 31)) = nI (ou om (tk3 cnt vl 0 i)) := by rw [o2]; exact q1
      -- behind the two fields
      have f2 : fQ2 T s (xW (xW s 79 23 (s.1 79 23 ||| (nI 1 <<< (nI (tk3 cnt vl 0 i) &&& 31)))) 79 22 (nI (tk3 cnt vl 0 i))) := (fQw (by decide) (by decide) (by decide) (by decide) (by decide)).tr (fQw (by decide) (by decide) (by decide) (by decide) (by decide))
      have G2 : ∀ j, j ≠ 22 → j ≠ 23 → (xW (xW s 79 23 (s.1 79 23 ||| (nI 1 <<< (nI (tk3 cnt vl 0 i) &&& 31)))) 79 22 (nI (tk3 cnt vl 0 i))).1 79 j = s.1 79 j := fun j h1 h2 => by rw [xW_s, ud_n h1, xW_s, ud_n h2]
      have g22 : (xW (xW s 79 23 (s.1 79 23 ||| (nI 1 <<< (nI (tk3 cnt vl 0 i) &&& 31)))) 79 22 (nI (tk3 cnt vl 0 i))).1 79 22 = nI (tk3 cnt vl 0 i) := by rw [xW_s, ud_s]
      have g23 : (xW (xW s 79 23 (s.1 79 23 ||| (nI 1 <<< (nI (tk3 cnt vl 0 i) &&& 31)))) 79 22 (nI (tk3 cnt vl 0 i))).1 79 23 = nI (ou om (tk3 cnt vl 0 i)) := by rw [xW_s, ud_n (by decide), xW_s, ud_s]; exact ew
      have g82 : (xW (xW s 79 23 (s.1 79 23 ||| (nI 1 <<< (nI (tk3 cnt vl 0 i) &&& 31)))) 79 22 (nI (tk3 cnt vl 0 i))).1 82 = s.1 82 := by rw [xW_n (by decide), xW_n (by decide)]
      have R2 := hR.cg (s' := xW (xW s 79 23 (s.1 79 23 ||| (nI 1 <<< (nI (tk3 cnt vl 0 i) &&& 31)))) 79 22 (nI (tk3 cnt vl 0 i))) (fun j h1 h2 => G2 j (by omega) (by omega)) rfl
      refine q_next I hS (hG.1.Q f2) hG.2.1 hG.2.2.1 R2.1 (hX.o (i + 1)) (fun s3 n1 n2 n3 f3 => ?_)
      have R3 : RM s3 n cnt kd vl pl en (i + 1) := ⟨n1, n2, n3⟩
      have f3' : fQ2 T s s3 := f2.tr f3.q
      have m22 : s3.1 79 22 = nI (tk3 cnt vl 0 i) := (f3.2.1 22 (by omega)).trans g22
      have m23 : s3.1 79 23 = nI (ou om (tk3 cnt vl 0 i)) := (f3.2.1 23 (by omega)).trans g23
      have m16 : s3.1 79 16 = nI w := ((f3.2.1 16 (by omega)).trans (G2 16 (by decide) (by decide))).trans t1
      have m14 : s3.1 79 14 = nI (620 * T) := ((f3.2.1 14 (by omega)).trans (G2 14 (by decide) (by decide))).trans t2
      have m20 : s3.1 79 20 = nI 0 := ((f3.2.1 20 (by omega)).trans (G2 20 (by decide) (by decide))).trans t3
      have m82 : s3.1 82 = s.1 82 := (f3.1 82 (by decide)).trans g82
      obtain ⟨-, cm⟩ := ci_ud (dn := dn) v4 hsome (fun _ => 0)
      refine ⟨620 * T, ⟨by omega, m14⟩, ?_⟩
      have ex : s3.1 79 14 + nI 1 + nI 3 * s3.1 82 (620 * T) = nI (620 * T + 1 + 3 * ci dn) := by rw [m14, m82, t5, nml, nad, nad]
      refine ⟨620 * T + 1 + 3 * ci dn, ⟨by omega, ex⟩, ?_⟩
      refine ⟨620 * T + 2 + 3 * ci dn, ⟨by omega, by rw [ex, nad]; congr 1; omega⟩, ?_⟩
      have f5 : fQ2 T s3 (xW (xW s3 82 (620 * T + 1 + 3 * ci dn) (nI (tk3 cnt vl 0 i))) 82 (620 * T + 2 + 3 * ci dn) ((xW s3 82 (620 * T + 1 + 3 * ci dn) (nI (tk3 cnt vl 0 i))).1 79 16)) := (fQ82 (by omega) (by omega)).tr (fQ82 (by omega) (by omega))
      have G5 : (xW (xW s3 82 (620 * T + 1 + 3 * ci dn) (nI (tk3 cnt vl 0 i))) 82 (620 * T + 2 + 3 * ci dn) ((xW s3 82 (620 * T + 1 + 3 * ci dn) (nI (tk3 cnt vl 0 i))).1 79 16)).1 79 = s3.1 79 := by rw [xW_n (by decide), xW_n (by decide)]
      have H1 : ∀ j, j ≠ 620 * T + 1 + 3 * ci dn → j ≠ 620 * T + 2 + 3 * ci dn → (xW (xW s3 82 (620 * T + 1 + 3 * ci dn) (nI (tk3 cnt vl 0 i))) 82 (620 * T + 2 + 3 * ci dn) ((xW s3 82 (620 * T + 1 + 3 * ci dn) (nI (tk3 cnt vl 0 i))).1 79 16)).1 82 j = s.1 82 j := fun j h1 h2 => by rw [xW_s, ud_n h2, xW_s, ud_n h1, m82]
      have H2 : (xW (xW s3 82 (620 * T + 1 + 3 * ci dn) (nI (tk3 cnt vl 0 i))) 82 (620 * T + 2 + 3 * ci dn) ((xW s3 82 (620 * T + 1 + 3 * ci dn) (nI (tk3 cnt vl 0 i))).1 79 16)).1 82 (620 * T + 1 + 3 * ci dn) = nI (tk3 cnt vl 0 i) := by rw [xW_s, ud_n (by omega), xW_s, ud_s]
      have H3 : (xW (xW s3 82 (620 * T + 1 + 3 * ci dn) (nI (tk3 cnt vl 0 i))) 82 (620 * T + 2 + 3 * ci dn) ((xW s3 82 (620 * T + 1 + 3 * ci dn) (nI (tk3 cnt vl 0 i))).1 79 16)).1 82 (620 * T + 2 + 3 * ci dn) = nI w := by rw [xW_s, ud_s, xW_n (by decide)]; exact m16
      have e22 : (xW (xW s3 82 (620 * T + 1 + 3 * ci dn) (nI (tk3 cnt vl 0 i))) 82 (620 * T + 2 + 3 * ci dn) ((xW s3 82 (620 * T + 1 + 3 * ci dn) (nI (tk3 cnt vl 0 i))).1 79 16)).2 = s3.2 := rfl
      revert f5 G5 H1 H2 H3 e22
      generalize xW (xW s3 82 (620 * T + 1 + 3 * ci dn) (nI (tk3 cnt vl 0 i))) 82 (620 * T + 2 + 3 * ci dn) ((xW s3 82 (620 * T + 1 + 3 * ci dn) (nI (tk3 cnt vl 0 i))).1 79 16) = s5
      intro f5 G5 H1 H2 H3 e22
      have f5' := f3'.tr f5
      have R5 : RM s5 n cnt kd vl pl en (i + 1) := R3.cg (fun j _ _ => by rw [G5]) e22
      have G5' : RG s5 n cnt t kd vl pl en T := ⟨hG.1.Q f5', hG.2⟩
      refine q_parsed I hS G5' (w0 := w) (i := i + 1) v4 R5 (by rw [G5]; exact m20) (by rw [G5]; exact m16) (by rw [G5]; exact m14) (by rw [G5]; exact m22) (by omega) (by omega) hF (fun e hr s6 R6 f6 => ?_) (fun x hr s6 R6 C6 w6 o6 f6 => ?_)
      · have e1 := he e hr s6 R6 (f5'.tr f6.q)
        refine xbr_c (fun z => ?_) (fun _ => e1)
        exact absurd z (pE_err_ne hr)
      · refine xbr_t rfl ?_
        obtain ⟨a1, a2, a3, a4, a5, a6⟩ := (pE_p (c := tk3 cnt vl 0 i) hK.2.2.2.1 hK.2.2.2.2.1 F).1 2 0 (i + 1) _ _ x.1 x.2.1 x.2.2 (by decide) hr
        have a2 := a2 (by omega)
        refine ⟨620 * T + 3 + 3 * ci dn, ⟨by omega, by rw [ex, nad]; congr 1; omega⟩, ?_⟩
        have k82 : ∀ j, j < 620 * T + 15 + 2 * w → s6.1 82 j = s5.1 82 j := fun j hj => f6.2.1 j (Or.inl hj)
        have k14 : s6.1 79 14 = nI (620 * T) := (f6.2.2.1 14 (by omega)).trans (by rw [G5]; exact m14)
        have k0 : s6.1 82 (620 * T) = nI (ci dn) := (k82 _ (by omega)).trans ((H1 _ (by omega) (by omega)).trans t5)
        refine ⟨620 * T, ⟨by omega, by show (xW s6 82 (620 * T + 3 + 3 * ci dn) (s6.1 79 16)).1 79 14 = _; rw [xW_n (by decide)]; exact k14⟩, ?_⟩
        refine ⟨620 * T, ⟨by omega, by show (xW s6 82 (620 * T + 3 + 3 * ci dn) (s6.1 79 16)).1 79 14 = _; rw [xW_n (by decide)]; exact k14⟩, ?_⟩
        have f8 : fQ2 T s6 (xW (xW s6 82 (620 * T + 3 + 3 * ci dn) (s6.1 79 16)) 82 (620 * T) ((xW s6 82 (620 * T + 3 + 3 * ci dn) (s6.1 79 16)).1 82 (620 * T) + nI 1)) := (fQ82 (by omega) (by omega)).tr (fQ82 (by omega) (by omega))
        have G8 : (xW (xW s6 82 (620 * T + 3 + 3 * ci dn) (s6.1 79 16)) 82 (620 * T) ((xW s6 82 (620 * T + 3 + 3 * ci dn) (s6.1 79 16)).1 82 (620 * T) + nI 1)).1 79 = s6.1 79 := by rw [xW_n (by decide), xW_n (by decide)]
        have J1 : ∀ j, j ≠ 620 * T → j ≠ 620 * T + 3 + 3 * ci dn → (xW (xW s6 82 (620 * T + 3 + 3 * ci dn) (s6.1 79 16)) 82 (620 * T) ((xW s6 82 (620 * T + 3 + 3 * ci dn) (s6.1 79 16)).1 82 (620 * T) + nI 1)).1 82 j = s6.1 82 j := fun j h1 h2 => by rw [xW_s, ud_n h1, xW_s, ud_n h2]
        have J2 : (xW (xW s6 82 (620 * T + 3 + 3 * ci dn) (s6.1 79 16)) 82 (620 * T) ((xW s6 82 (620 * T + 3 + 3 * ci dn) (s6.1 79 16)).1 82 (620 * T) + nI 1)).1 82 (620 * T) = nI (ci dn + 1) := by rw [xW_s, ud_s, xW_s, ud_n (by omega), k0, nad]
        have J3 : (xW (xW s6 82 (620 * T + 3 + 3 * ci dn) (s6.1 79 16)) 82 (620 * T) ((xW s6 82 (620 * T + 3 + 3 * ci dn) (s6.1 79 16)).1 82 (620 * T) + nI 1)).1 82 (620 * T + 3 + 3 * ci dn) = nI (w + x.2.2.length) := by rw [xW_s, ud_n (by omega), xW_s, ud_s]; exact w6
        have e28 : (xW (xW s6 82 (620 * T + 3 + 3 * ci dn) (s6.1 79 16)) 82 (620 * T) ((xW s6 82 (620 * T + 3 + 3 * ci dn) (s6.1 79 16)).1 82 (620 * T) + nI 1)).2 = s6.2 := rfl
        revert f8 G8 J1 J2 J3 e28
        generalize xW (xW s6 82 (620 * T + 3 + 3 * ci dn) (s6.1 79 16)) 82 (620 * T) ((xW s6 82 (620 * T + 3 + 3 * ci dn) (s6.1 79 16)).1 82 (620 * T) + nI 1) = s8
        intro f8 G8 J1 J2 J3 e28
        have R8 : RM s8 n cnt kd vl pl en x.1 := R6.cg (fun j _ _ => by rw [G8]) e28
        have f8' := (f5'.tr f6.q).tr f8
        have TK := R8.2.2.tok (k' := 22) (by decide)
        by_cases kx : tk3 cnt kd 0 x.1 = 22
        · refine xbr_t (TK.mpr kx) ?_
          have xc := hK.2.2.2.1 x.1 (by omega)
          refine q_next I hS (hG.1.Q f8') hG.2.1 hG.2.2.1 R8.1 (hX.o (x.1 + 1)) (fun s9 u1 u2 u3 f9 => ?_)
          have w79 : ∀ j, 12 < j → s9.1 79 j = s6.1 79 j := fun j hj => by rw [f9.2.1 j (by omega), G8]
          have w82 : s9.1 82 = s8.1 82 := f9.1 82 (by decide)
          refine hk x hr kx s9 (w + x.2.2.length) ⟨u1, u2, u3⟩ ⟨?_, ?_, ?_, ⟨ou om (tk3 cnt vl 0 i), q2, ?_, fun c' hc' => ?_⟩, ?_, ?_⟩ (by omega) xc (by omega) (f8'.tr f9.q)
          · rw [w79 16 (by decide)]; exact w6
          · rw [w79 14 (by decide)]; exact k14
          · rw [w79 20 (by decide)]; exact o6
          · rw [w79 23 (by decide), f6.2.2.1 23 (by omega), G5]; exact m23
          · rw [on3 om o1 _ v4 c' hc']
            by_cases z : c' = tk3 cnt vl 0 i
            · rw [if_pos z, z, ud_at]
              exact ⟨fun _ => rfl, fun _ => rfl⟩
            · rw [if_neg z, ud_ne z]
              exact o3 c' hc'
          · rw [w82, J2, (ci_ud (D := x.2.1) v4 hsome).1]
          · rw [w82]
            refine TS_add v4 hsome l1 l2 ?_ ?_ J3 (fun j h1 h2 => ?_) (fun j h1 h2 => ?_) (C6.cg (fun j h1 h2 => J1 j (by omega) (by omega))) (a5.1 (by decide)).2
            · rw [J1 _ (by omega) (by omega), k82 _ (by omega)]; exact H2
            · rw [J1 _ (by omega) (by omega), k82 _ (by omega)]; exact H3
            · rw [J1 _ (by omega) (by omega), k82 _ (by omega)]; exact H1 j (by omega) (by omega)
            · rw [J1 _ (by omega) (by omega), k82 _ (by omega)]; exact H1 j (by omega) (by omega)
        · refine xbr_f (fun z => kx (TK.mp z)) ?_
          exact h22 x hr kx s8 R8 f8'
  · rw [if_neg k4]
    exact xbr_t zm1 (h1 k4)
end RTEXT
