/-! the class's text() -/
theorem xWc_n {s : xS} {k2 k x y z q : Nat} (h : q ≠ k2) : (xWc s k2 k x y z).1 q = s.1 q := up_n h
theorem xWc_c {s : xS} {k2 k z i : Nat} (h : i < z) : (xWc s k2 k 0 0 z).1 k2 i = s.1 k i := by
  show va_up s.1 k2 _ k2 i = _
  rw [up_s]
  exact sb_cpy0 h
def CPd (s s' : xS) (k : Nat) : Prop := (∀ q, (q < k ∨ k + 3 < q) → s'.1 q = s.1 q) ∧ s'.2 = s.2 ∧ s'.1 k 3 = s.1 26 3 ∧ (∀ j, j < 4 → s'.1 (k + 1) j = s.1 27 j) ∧ (∀ j, j < 4 → s'.1 (k + 2) j = s.1 28 j) ∧ ∀ j, j < 300 → s'.1 (k + 3) j = s.1 29 j
theorem CPd.mk' {s : xS} {k : Nat} (hk : 34 < k) : CPd s (xW (xWc (xWc (xWc s (k + 3) 29 0 0 300) (k + 1) 27 0 0 4) (k + 2) 28 0 0 4) k 3 ((xWc (xWc (xWc s (k + 3) 29 0 0 300) (k + 1) 27 0 0 4) (k + 2) 28 0 0 4).1 26 3)) k := by
  refine ⟨fun q hq => ?_, rfl, ?_, fun j hj => ?_, fun j hj => ?_, fun j hj => ?_⟩
  · rw [xW_n (by omega), xWc_n (by omega), xWc_n (by omega), xWc_n (by omega)]
  · rw [xW_s, ud_s, xWc_n (by omega), xWc_n (by omega), xWc_n (by omega)]
  · rw [xW_n (by omega), xWc_n (by omega), xWc_c hj, xWc_n (by omega)]
  · rw [xW_n (by omega), xWc_c hj, xWc_n (by omega), xWc_n (by omega)]
  · rw [xW_n (by omega), xWc_n (by omega), xWc_n (by omega), xWc_c hj]
def xt (dn : Nat → Nat → Option Dn) (T : Nat) (d1 : Nat → Option Dn) : Nat → Nat → Option Dn := fun t => if t = T then d1 else dn t
theorem xt_s {dn : Nat → Nat → Option Dn} {T : Nat} {d1 : Nat → Option Dn} : xt dn T d1 T = d1 := if_pos rfl
theorem xt_n {dn : Nat → Nat → Option Dn} {T t : Nat} {d1 : Nat → Option Dn} (h : t ≠ T) : xt dn T d1 t = dn t := if_neg h
theorem PG.cg {s s' : xS} {k : Nat} {o : Nat → Nat} {z : Nat} (h : PG s k o z) (e1 : s'.1 k = s.1 k) (e2 : s'.1 (k + 3) = s.1 (k + 3)) : PG s' k o z := ⟨by rw [e1]; exact h.1, h.2.1, fun i hi => by rw [e2]; exact h.2.2 i hi⟩
theorem XC.rw {s s' : xS} {k c : Nat} {o : Nat → Nat} {z : Nat} {od : Option Dn} (h : XC s k c o z od) (e1 : s'.1 (k + 1) = s.1 (k + 1)) (e2 : s'.1 (k + 2) = s.1 (k + 2)) : XC s' k c o z od := by
  cases od with
  | none => exact (show s'.1 (k + 1) c = _ by rw [e1]; exact h)
  | some D =>
    obtain ⟨a, b, h1, h2, h3, h4⟩ := h
    exact ⟨a, b, by rw [e1]; exact h1, by rw [e2]; exact h2, h3, h4⟩
theorem TXC.cg {s s' : xS} {n : Nat} {dn dn' : Nat → Nat → Option Dn} (h : TXC s n dn) {m : Nat} (hm : m ≤ n) (e53 : s'.1 53 = s.1 53) (e : ∀ q, 35 ≤ q → q < 35 + 4 * m → s'.1 q = s.1 q) (ed : ∀ t, t < m → dn' t = dn t) : TXC s' m dn' := by
  refine ⟨fun c hc => by rw [e53]; exact h.1 c hc, fun t ht => ?_⟩
  obtain ⟨o, z, h1, h2⟩ := h.2 t (by omega)
  refine ⟨o, z, h1.cg (e _ (by omega) (by omega)) (e _ (by omega) (by omega)), fun c hc => ?_⟩
  rw [ed t ht]
  exact ⟨(h2 c hc).1.rw (e _ (by omega) (by omega)) (e _ (by omega) (by omega)), (h2 c hc).2⟩
theorem TXC.add {s s' : xS} {T : Nat} {dn : Nat → Nat → Option Dn} {d1 : Nat → Option Dn} {o : Nat → Nat} {z : Nat} (h : TXC s T dn) (hT : T < 4) (hc : CPd s s' (35 + 4 * T)) (hp : PG s 26 o z) (hx : ∀ c, c < 4 → XC s 26 c o z (d1 c)) (hd : ∀ c, TDs c (d1 c)) : TXC s' (T + 1) (xt dn T d1) := by
  obtain ⟨c1, c2, c3, c4, c5, c6⟩ := hc
  refine ⟨fun c hc => by rw [c1 53 (by omega)]; exact h.1 c hc, fun t ht => ?_⟩
  by_cases e : t = T
  · subst e
    have hz := hp.2.1
    refine ⟨o, z, ⟨c3.trans hp.1, hz, fun i hi => ⟨(c6 i (by omega)).trans (hp.2.2 i hi).1, (hp.2.2 i hi).2⟩⟩, fun c hc => ?_⟩
    rw [xt_s]
    refine ⟨?_, hd c⟩
    have g := hx c hc
    cases hD : d1 c with
    | none =>
      rw [hD] at g
      exact (c4 c hc).trans g
    | some D =>
      rw [hD] at g
      obtain ⟨a, b, g1, g2, g3, g4⟩ := g
      exact ⟨a, b, (c4 c hc).trans g1, (c5 c hc).trans g2, g3, g4⟩
  · rw [xt_n e]
    obtain ⟨o', z', h1, h2⟩ := h.2 t (by omega)
    exact ⟨o', z', h1.cg (c1 _ (by omega)) (c1 _ (by omega)), fun c hc => ⟨(h2 c hc).1.rw (c1 _ (by omega)) (c1 _ (by omega)), (h2 c hc).2⟩⟩
def fX1 (s s' : xS) : Prop := (∀ q, ((12 ≤ q ∧ q ≤ 22) ∨ 51 ≤ q) → s'.1 q = s.1 q) ∧ s'.2 = s.2
def TO (Q : xQ) (s : xS) (cnt n : Nat) (pl t : Nat → Nat) (f : Nm) (ru : Int32) (dn : Nat → Nat → Option Dn) (r : Sum (Nat × Nat) (Nat → Option Dn)) : Prop := match r with
  | .inl e => ∀ s' : xS, 1 ≤ e.1 → e.1 ≤ 5 → s'.1 25 1 = nI e.1 → s'.1 25 2 = nI (tk3 cnt pl n e.2) → TC s' 0 t → FC s'.1 1 f ru → TXC s' (f 0 15) dn → fX1 s s' → Q (some (.int (-(nI 1)))) s'
  | .inr d1 => ∀ s' : xS, s'.1 25 1 = nI 0 → s'.1 25 2 = -(nI 1) → TC s' 0 t → FC s'.1 1 (nu f 0 15 (f 0 15 + 1)) ru → TXC s' (f 0 15 + 1) (xt dn (f 0 15) d1) → fX1 s s' → Q (some (.int (nI (f 0 15)))) s'
section TEXT
variable {X : xXT} {P : xPT} {d S n : Nat} {s : xS} {Q : xQ} {t : Nat → Nat} {f : Nm} {ru : Int32} {dn : Nat → Nat → Option Dn}
theorem m_pcopy (I : xRl X P) (hS : S ≤ 128) {T : Nat} (hT : T < 4) (h : ∀ s' : xS, CPd s s' (35 + 4 * T) → Q none s') : P (d + 2) (L0 S) 43 [.ref (35 + 4 * T), .ref 26] s Q := by
  refine inX4_copy I (L0ok hS) ?_
  rcases (show T = 0 ∨ T = 1 ∨ T = 2 ∨ T = 3 by omega) with rfl | rfl | rfl | rfl
  · refine rn I [] 99 ?_
    refine s_minS I hS ?_
    refine ⟨0, 0, 300, ⟨rfl, rfl, rfl, Nat.le_refl _, Nat.le_refl _⟩, ?_⟩
    refine ⟨0, 0, 4, ⟨rfl, rfl, rfl, Nat.le_refl _, Nat.le_refl _⟩, ?_⟩
    refine ⟨0, 0, 4, ⟨rfl, rfl, rfl, Nat.le_refl _, Nat.le_refl _⟩, ?_⟩
    exact h _ (CPd.mk' (k := 35) (by decide))
  · refine rn I [] 99 ?_
    refine s_minS I hS ?_
    refine ⟨0, 0, 300, ⟨rfl, rfl, rfl, Nat.le_refl _, Nat.le_refl _⟩, ?_⟩
    refine ⟨0, 0, 4, ⟨rfl, rfl, rfl, Nat.le_refl _, Nat.le_refl _⟩, ?_⟩
    refine ⟨0, 0, 4, ⟨rfl, rfl, rfl, Nat.le_refl _, Nat.le_refl _⟩, ?_⟩
    exact h _ (CPd.mk' (k := 39) (by decide))
  · refine rn I [] 99 ?_
    refine s_minS I hS ?_
    refine ⟨0, 0, 300, ⟨rfl, rfl, rfl, Nat.le_refl _, Nat.le_refl _⟩, ?_⟩
    refine ⟨0, 0, 4, ⟨rfl, rfl, rfl, Nat.le_refl _, Nat.le_refl _⟩, ?_⟩
    refine ⟨0, 0, 4, ⟨rfl, rfl, rfl, Nat.le_refl _, Nat.le_refl _⟩, ?_⟩
    exact h _ (CPd.mk' (k := 43) (by decide))
  · refine rn I [] 99 ?_
    refine s_minS I hS ?_
    refine ⟨0, 0, 300, ⟨rfl, rfl, rfl, Nat.le_refl _, Nat.le_refl _⟩, ?_⟩
    refine ⟨0, 0, 4, ⟨rfl, rfl, rfl, Nat.le_refl _, Nat.le_refl _⟩, ?_⟩
    refine ⟨0, 0, 4, ⟨rfl, rfl, rfl, Nat.le_refl _, Nat.le_refl _⟩, ?_⟩
    exact h _ (CPd.mk' (k := 47) (by decide))
theorem m_Text (I : xRk X P) (hS : S ≤ 128) (hF : FC s.1 1 f ru) (hB : FB f) (hC : TC s n t) (hn : n ≤ 300) (hb : ∀ i, i < n → t i < 256) (hX : TXC s (f 0 15) dn) (h4 : f 0 15 = 4 → Q (some (.int (-(nI 1)))) s) (h : f 0 15 < 4 → ∀ (cnt : Nat) (kd vl pl en : Nat → Nat), TXs n t cnt kd vl pl en → TO Q s cnt n pl t f ru dn (pT (tk3 cnt kd 0) (tk3 cnt vl 0) (16 * (cnt + 2)) (cnt + 2) 0 (fun _ => none))) : P (d + 84) (L0 S) 103 [.ref 0] s Q := by
  have b4 := hB.1.2.2.2
  have e15 : s.1 1 15 = nI (f 0 15) := hF.2.1 15 (by omega)
  refine inX10_text I.1 (L0ok hS) ?_
  refine rn I.1 [35] 99 ?_
  by_cases l4 : f 0 15 < 4
  · have h := h l4
    refine xbr_t (by rw [e15]; exact zlt l4 (by decide)) ?_
    refine m_read I hS hC hn hb (fun cnt kd vl pl en hT => ?_)
    have h := h cnt kd vl pl en hT
    cases hr : pT (tk3 cnt kd 0) (tk3 cnt vl 0) (16 * (cnt + 2)) (cnt + 2) 0 (fun _ => none) with
    | inl e =>
      rw [hr] at h
      intro s1 a1 a2 a3 a4 f1
      refine xbr_t rfl ?_
      refine h _ a2 a3 (by rw [xW_n (by decide)]; exact a1) (by rw [xW_n (by decide)]; exact a4) ⟨by rw [xW_s, ud_s], fun i hi => absurd hi (Nat.not_lt_zero _)⟩ ?_ ?_ ⟨fun q hq => by rw [xW_n (by omega)]; exact f1.1 q (by omega), f1.2⟩
      · exact hF.same (fun k h1 h2 => by show (xW s1 23 1 (nI 0)).1 k = _; rw [xW_n (by omega)]; exact f1.1 k (by omega))
      · exact hX.cg (Nat.le_refl _) (by rw [xW_n (by omega)]; exact f1.1 53 (by omega)) (fun q h1 h2 => by rw [xW_n (by omega)]; exact f1.1 q (by omega)) (fun _ _ => rfl)
    | inr d1 =>
      rw [hr] at h
      have hD := pT_d hT (cnt + 2) 0 _ _ (fun c D hD => by cases hD) hr
      intro s1 o z a1 a2 p1 x1 f1
      refine xbr_f n10 ?_
      have F2 : FC (xW s1 23 1 (nI 0)).1 1 f ru := hF.same (fun k h1 h2 => by rw [xW_n (by omega)]; exact f1.1 k (by omega))
      have X2 : TXC (xW s1 23 1 (nI 0)) (f 0 15) dn := hX.cg (Nat.le_refl _) (by rw [xW_n (by omega)]; exact f1.1 53 (by omega)) (fun q h1 h2 => by rw [xW_n (by omega)]; exact f1.1 q (by omega)) (fun _ _ => rfl)
      have p2 : PG (xW s1 23 1 (nI 0)) 26 o z := p1.cg (xW_n (by decide)) (xW_n (by decide))
      have x2 : ∀ c, c < 4 → XC (xW s1 23 1 (nI 0)) 26 c o z (d1 c) := fun c hc => (x1 c hc).rw (xW_n (by decide)) (xW_n (by decide))
      have a1' : (xW s1 23 1 (nI 0)).1 25 1 = nI 0 := by rw [xW_n (by decide)]; exact a1
      have a2' : (xW s1 23 1 (nI 0)).1 25 2 = -(nI 1) := by rw [xW_n (by decide)]; exact a2
      have t2 : (xW s1 23 1 (nI 0)).1 23 1 = nI 0 := by rw [xW_s, ud_s]
      have f2 : ∀ q, (q < 23 ∨ 33 < q) → (xW s1 23 1 (nI 0)).1 q = s.1 q := fun q hq => by rw [xW_n (by omega)]; exact f1.1 q (by omega)
      have f2' : (xW s1 23 1 (nI 0)).2 = s.2 := f1.2
      revert F2 X2 p2 x2 a1' a2' t2 f2 f2'
      generalize xW s1 23 1 (nI 0) = s2
      intro F2 X2 p2 x2 a1' a2' t2 f2 f2'
      have e2 : s2.1 1 15 = nI (f 0 15) := F2.2.1 15 (by omega)
      show X (d + 83) mX10_text Q (L0 S) 35 _ [] s2
      have COPY : ∀ s3 : xS, CPd s2 s3 (35 + 4 * f 0 15) → Q (some (.int ((xW s3 1 15 (s3.1 1 15 + nI 1)).1 1 15 - nI 1))) (xW s3 1 15 (s3.1 1 15 + nI 1)) := by
        intro s3 c3
        have F3 : FC s3.1 1 f ru := F2.same (fun k h1 h2 => c3.1 k (by omega))
        have e3 : s3.1 1 15 + nI 1 = nI (f 0 15 + 1) := by rw [F3.2.1 15 (by omega), nad]
        have X3 := X2.add l4 c3 p2 x2 hD
        have q := h (xW s3 1 15 (s3.1 1 15 + nI 1)) (by rw [xW_n (by decide), c3.1 25 (by omega)]; exact a1') (by rw [xW_n (by decide), c3.1 25 (by omega)]; exact a2') ⟨by rw [xW_n (by decide), c3.1 23 (by omega)]; exact t2, fun i hi => absurd hi (Nat.not_lt_zero _)⟩ (by rw [e3]; exact F3.fld (by decide) (by decide)) (X3.cg (Nat.le_refl _) (xW_n (by decide)) (fun q h1 h2 => xW_n (by omega)) (fun _ _ => rfl)) ⟨fun q hq => by rw [xW_n (by omega), c3.1 q (by omega)]; exact f2 q (by omega), c3.2.1.trans f2'⟩
        have e4 : (xW s3 1 15 (s3.1 1 15 + nI 1)).1 1 15 - nI 1 = nI (f 0 15) := by rw [xW_s, ud_s, e3, nsb (by omega)]; rfl
        rw [e4]
        exact q
      refine rn I.1 [] 99 ?_
      refine ⟨f 0 15, ⟨l4, e2⟩, ?_⟩
      rcases (show f 0 15 = 0 ∨ f 0 15 = 1 ∨ f 0 15 = 2 ∨ f 0 15 = 3 by omega) with z | z | z | z
      · rw [z] at COPY ⊢
        exact m_pcopy (T := 0) I.1 hS (by decide) COPY
      · rw [z] at COPY ⊢
        exact m_pcopy (T := 1) I.1 hS (by decide) COPY
      · rw [z] at COPY ⊢
        exact m_pcopy (T := 2) I.1 hS (by decide) COPY
      · rw [z] at COPY ⊢
        exact m_pcopy (T := 3) I.1 hS (by decide) COPY
  · refine xbr_f (by rw [e15]; exact znl (by omega) (by omega)) ?_
    exact h4 (by omega)
end TEXT
