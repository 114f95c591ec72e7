/-! the reference's readText and text -/
def RX (Q : xQ) (s : xS) (n cnt : Nat) (kd vl pl en : Nat → Nat) (T : Nat) (r : Sum (Nat × Nat) (Nat → Option Dn)) : Prop := match r with
  | .inl e => ∀ s' : xS, 1 ≤ e.1 → e.1 ≤ 5 → RM s' n cnt kd vl pl en e.2 → fQ2 T s s' → Q (some (.int (nI e.1))) s'
  | .inr d1 => ∀ (s' : xS) (w : Nat), TS s' T d1 w → w ≤ 300 → fQ2 T s s' → Q (some (.int (nI 0))) s'
theorem RX.fr {Q : xQ} {s s' : xS} {n cnt : Nat} {kd vl pl en : Nat → Nat} {T : Nat} {r : Sum (Nat × Nat) (Nat → Option Dn)} (h : RX Q s n cnt kd vl pl en T r) (f : fQ2 T s s') : RX Q s' n cnt kd vl pl en T r := by
  cases r with
  | inl e => exact fun s2 a b c g => h s2 a b c (f.tr g)
  | inr d1 => exact fun s2 w a b g => h s2 w a b (f.tr g)
section RTEXT2
variable {X : xXT} {P : xPT} {d S n cnt T : Nat} {s : xS} {Q : xQ} {kd vl pl en t : Nat → Nat} {f : Nm} {ru : Int32}
theorem rt_loop (I : xRl X P) (hS : S ≤ 128) {F : Nat} (hF : 16 * (cnt + 2) ≤ F) : ∀ (g i w : Nat) (dn : Nat → Option Dn) (s : xS) (o1 : Option Value), RG s n cnt t kd vl pl en T → cnt + 1 - i ≤ g → i ≤ cnt → w ≤ i → RM s n cnt kd vl pl en i → TS s T dn w → RX Q s n cnt kd vl pl en T (pT (tk3 cnt kd 0) (tk3 cnt vl 0) F g i dn) → X (d + 7) mX11_readText Q (L0 S) 48 [some (.ref 79), o1] [] s := by
  intro g
  induction g with
  | zero => intro i w dn s o1 hG h1 h2; omega
  | succ g ih =>
    intro i w dn s o1 hG hg hi hw hR hs h
    have c3 := hG.2.2.2.1.2.2.2.2.1
    have T0 := hR.2.2.tok (k' := 0) (by decide)
    have ER : ∀ k s', 1 ≤ k → k ≤ 5 → Q (some (.int (nI k))) s' → xbr (nI k = nI 0) (X (d + 7) mX11_readText Q (L0 S) 48 [some (.ref 79), some (.int (nI k))] [] s') (Q (some (.int (nI k))) s') := fun k s' h1 h2 q => xbr_f (zne (by omega) (by omega) (by decide)) q
    unfold pT at h
    refine rn I [48] 99 ?_
    by_cases k0 : tk3 cnt kd 0 i = 0
    · rw [if_neg (by omega), if_pos k0] at h
      exact xbr_t (T0.mpr k0) (h s w hs (by omega) fQ2.rf)
    · refine xbr_f (fun z => k0 (T0.mp z)) ?_
      refine q_clause I hS hG hR hs hw hi hF (fun k4 => ?_) (fun k4 hsm => ?_) (fun k4 hsm e hr s' R' f' => ?_) (fun k4 hsm x hr kx s' R' f' => ?_) (fun k4 hsm x hr kx s' w' R' S' w1 x1 x2 f' => ?_)
      · rw [if_neg k4, if_neg k0] at h
        exact ER 1 s (by decide) (by decide) (h s (Nat.le_refl 1) (show 1 ≤ 5 by decide) hR fQ2.rf)
      · rw [if_pos k4, if_pos hsm] at h
        exact ER 4 s (by decide) (by decide) (h s (show 1 ≤ 4 by decide) (show 4 ≤ 5 by decide) hR fQ2.rf)
      · rw [if_pos k4, if_neg hsm, hr] at h
        have e5 := pE_e _ _ _ _ _ _ _ _ _ e hr
        exact ER e.1 s' e5.1 e5.2 (h s' e5.1 e5.2 R' f')
      · rw [if_pos k4, if_neg hsm, hr] at h
        have h : RX Q s n cnt kd vl pl en T (if tk3 cnt kd 0 x.1 = 22 then pT (tk3 cnt kd 0) (tk3 cnt vl 0) F g (x.1 + 1) (ud dn (tk3 cnt vl 0 i) x.2.1) else .inl (1, x.1)) := h
        rw [if_neg kx] at h
        exact ER 1 s' (by decide) (by decide) (h s' (Nat.le_refl 1) (show 1 ≤ 5 by decide) R' f')
      · rw [if_pos k4, if_neg hsm, hr] at h
        have h : RX Q s n cnt kd vl pl en T (if tk3 cnt kd 0 x.1 = 22 then pT (tk3 cnt kd 0) (tk3 cnt vl 0) F g (x.1 + 1) (ud dn (tk3 cnt vl 0 i) x.2.1) else .inl (1, x.1)) := h
        rw [if_pos kx] at h
        exact xbr_t rfl (ih (x.1 + 1) w' _ s' _ ⟨hG.1.Q f', hG.2⟩ (by omega) (by omega) (by omega) R' S' (h.fr f'))
theorem q_readText (I : xRl X P) (hS : S ≤ 128) (hG : RG s n cnt t kd vl pl en T) (e80 : s.1 80 1 = nI T) (h : RX Q s n cnt kd vl pl en T (pT (tk3 cnt kd 0) (tk3 cnt vl 0) (16 * (cnt + 2)) (cnt + 2) 0 (fun _ => none))) : P (d + 8) (L0 S) 173 [.ref 79] s Q := by
  have hT := hG.2.2.2.2
  have hX := hG.2.2.2.1
  have en0 : EN n cnt en 0 = 0 := by
    unfold EN tk3
    rw [if_pos (by omega)]
    exact hX.1.1
  have A44 : ∀ s1 : xS, fQ2 T s s1 → s1.1 79 9 = nI 0 → s1.1 79 23 = nI 0 → s1.1 79 20 = nI 0 → s1.1 79 16 = nI 0 → s1.1 79 14 = nI (620 * T) → s1.1 82 (620 * T) = nI 0 → X (d + 7) mX11_readText Q (L0 S) 44 [some (.ref 79), none] [] s1 := by
    intro s1 fa g9 g23 g20 g16 g14 g82
    refine rn I [48] 99 ?_
    refine q_next I hS (hG.1.Q fa) hG.2.1 hG.2.2.1 g9 (by have := hX.o 0; rw [en0] at this; exact this) (fun s2 n1 n2 n3 f2 => ?_)
    have fb := fa.tr f2.q
    refine rt_loop I hS (Nat.le_refl _) (cnt + 2) 0 0 (fun _ => none) s2 none ⟨hG.1.Q fb, hG.2⟩ (by omega) (by omega) (Nat.le_refl _) ⟨n1, n2, n3⟩ ⟨?_, ?_, ?_, ⟨0, by decide, ?_, fun c hc => ?_⟩, ?_, (fun _ => 0), fun j hj => absurd hj (Nat.not_lt_zero _), fun c hc => fun j hj => absurd hj (Nat.not_lt_zero _)⟩ (h.fr fb)
    · rw [f2.2.1 16 (by omega)]; exact g16
    · rw [f2.2.1 14 (by omega)]; exact g14
    · rw [f2.2.1 20 (by omega)]; exact g20
    · rw [f2.2.1 23 (by omega)]; exact g23
    · refine ⟨fun z => ?_, fun z => by cases z⟩
      rcases (show c = 0 ∨ c = 1 ∨ c = 2 ∨ c = 3 by omega) with rfl | rfl | rfl | rfl <;> (revert z; decide)
    · rw [f2.1 82 (by decide)]; exact g82
  refine inX11_readText I (L0ok hS) ?_
  refine rn I [44] 99 ?_
  refine ⟨1, ⟨by decide, rfl⟩, ?_⟩
  have e1 : nI 620 * s.1 80 1 = nI (620 * T) := by rw [e80, nml]
  refine ⟨620 * T, ⟨by omega, by show (xW s 79 14 (nI 620 * s.1 80 1)).1 79 14 = _; rw [xW_s, ud_s]; exact e1⟩, ?_⟩
  have w {z : Nat} {q : xS} {x : Int32} (h1 : 9 ≤ z) (h2 : z ≤ 23) (h3 : z ≠ 15) (h4 : z ≠ 17) (h5 : z ≠ 18) : fQ2 T q (xW q 79 z x) := fQw h1 h2 h3 h4 h5
  refine A44 (xW (xW (xW (xW (xW (xW s 79 14 (nI 620 * s.1 80 1)) 82 (620 * T) (nI 0)) 79 16 (nI 0)) 79 20 (nI 0)) 79 23 (nI 0)) 79 9 (nI 0)) ((((((w (by decide) (by decide) (by decide) (by decide) (by decide)).tr (fQ82 (by omega) (by omega))).tr (w (by decide) (by decide) (by decide) (by decide) (by decide))).tr (w (by decide) (by decide) (by decide) (by decide) (by decide))).tr (w (by decide) (by decide) (by decide) (by decide) (by decide))).tr (w (by decide) (by decide) (by decide) (by decide) (by decide))) ?_ ?_ ?_ ?_ ?_ ?_
  · rw [xW_s, ud_s]
  · rw [xW_s, ud_n (by decide), xW_s, ud_s]
  · rw [xW_s, ud_n (by decide), xW_s, ud_n (by decide), xW_s, ud_s]
  · rw [xW_s, ud_n (by decide), xW_s, ud_n (by decide), xW_s, ud_n (by decide), xW_s, ud_s]
  · rw [xW_s, ud_n (by decide), xW_s, ud_n (by decide), xW_s, ud_n (by decide), xW_s, ud_n (by decide), xW_n (by decide), xW_s, ud_s]; exact e1
  · rw [xW_n (by decide), xW_n (by decide), xW_n (by decide), xW_n (by decide), xW_s, ud_s]
def fX2 (s s' : xS) : Prop := (∀ q, q ≠ 79 → q ≠ 80 → q ≠ 82 → q ≠ 84 → s'.1 q = s.1 q) ∧ (∀ i, (i < 6 ∨ 24 ≤ i) → s'.1 79 i = s.1 79 i) ∧ (∀ q, q ≠ 79 → s'.2 q = s.2 q) ∧ ∀ i, i ≠ 13 → s'.2 79 i = s.2 79 i
theorem TXM.cg {s s' : xS} {n : Nat} {dn dn' : Nat → Nat → Option Dn} (h : TXM s n dn) {m : Nat} (hm : m ≤ n) (e : ∀ i, i < 620 * m → s'.1 82 i = s.1 82 i) (ed : ∀ t, t < m → dn' t = dn t) : TXM s' m dn' := by
  intro t ht
  obtain ⟨k, l, h1, h2, h3, h4⟩ := h t (by omega)
  refine ⟨k, l, h1, by rw [e _ (by omega)]; exact h2, fun j hj => by rw [e _ (by omega)]; exact h3 j hj, fun c hc => ?_⟩
  rw [ed t ht]
  have g := h4 c hc
  cases hd : dn t c with
  | none => rw [hd] at g; exact g
  | some D =>
    rw [hd] at g
    obtain ⟨j, a, w, C, g1, g2, g3, g4, g5, g6, g7, g8, g9⟩ := g
    exact ⟨j, a, w, C, g1, g2, g3, by rw [e _ (by omega)]; exact g4, by rw [e _ (by omega)]; exact g5, g6, g7, g8.cg (fun i i1 i2 => e i (by omega)), g9⟩
theorem ci_le (dn : Nat → Option Dn) : ci dn ≤ 4 := by
  have b : ∀ j, (if (dn j).isSome = true then 1 else 0) ≤ 1 := fun j => by split <;> omega
  have b0 := b 0
  have b1 := b 1
  have b2 := b 2
  have b3 := b 3
  unfold ci
  omega
theorem TXM.add {s s' : xS} {T w : Nat} {dn : Nat → Nat → Option Dn} {d1 : Nat → Option Dn} (h : TXM s T dn) (hS : TS s' T d1 w) (hw : w ≤ 300) (e : ∀ i, i < 620 * T → s'.1 82 i = s.1 82 i) : TXM s' (T + 1) (xt dn T d1) := by
  have k := h.cg (s' := s') (dn' := xt dn T d1) (Nat.le_refl _) e (fun t ht => xt_n (by omega))
  intro t ht
  by_cases z : t = T
  · subst z
    obtain ⟨-, -, -, -, t5, l, l1, l2⟩ := hS
    refine ⟨ci d1, l, ci_le d1, t5, l1, fun c hc => ?_⟩
    rw [xt_s]
    exact (l2 c hc).xm hw
  · exact k t (by omega)
def TO2 (Q : xQ) (s : xS) (cnt n : Nat) (pl t : Nat → Nat) (f : Nm) (ru : Int32) (dn : Nat → Nat → Option Dn) (r : Sum (Nat × Nat) (Nat → Option Dn)) : Prop := match r with
  | .inl e => ∀ s' : xS, 1 ≤ e.1 → e.1 ≤ 5 → s'.1 79 7 = nI e.1 → s'.1 79 8 = nI (tk3 cnt pl n e.2) → TM s' 0 t → FA (s'.1 80) f ru → TXM s' (f 0 15) dn → fX2 s s' → Q (some (.int (-(nI 1)))) s'
  | .inr d1 => ∀ s' : xS, s'.1 79 7 = nI 0 → s'.1 79 8 = -(nI 1) → TM s' 0 t → FA (s'.1 80) (nu f 0 15 (f 0 15 + 1)) ru → TXM s' (f 0 15 + 1) (xt dn (f 0 15) d1) → fX2 s s' → Q (some (.int (nI (f 0 15)))) s'
theorem q_text (I : xRl X P) (hS : S ≤ 128) {dn : Nat → Nat → Option Dn} (hA : FA (s.1 80) f ru) (hB : FB f) (hM : TM s n t) (hn : n ≤ 300) (hb : ∀ i, i < n → t i < 256) (hD : TXM s (f 0 15) dn) (h4 : f 0 15 = 4 → Q (some (.int (-(nI 1)))) s) (h : f 0 15 < 4 → TXs n t cnt kd vl pl en ∧ TO2 Q s cnt n pl t f ru dn (pT (tk3 cnt kd 0) (tk3 cnt vl 0) (16 * (cnt + 2)) (cnt + 2) 0 (fun _ => none))) : P (d + 9) (L0 S) 174 [.ref 79] s Q := by
  have b4 := hB.1.2.2.2
  have e1 : s.1 80 1 = nI (f 0 15) := hA.2.2.2.1
  refine inX11_text I (L0ok hS) ?_
  refine rn I [] 99 ?_
  refine ⟨1, ⟨by decide, rfl⟩, ?_⟩
  by_cases l4 : f 0 15 = 4
  · exact xbr_t (by rw [e1, l4]) (h4 l4)
  · refine xbr_f (by rw [e1]; exact zne l4 (by omega) (by decide)) ?_
    obtain ⟨hX, h⟩ := h (by omega)
    refine q_readText I hS (n := n) (cnt := cnt) (t := t) (kd := kd) (vl := vl) (pl := pl) (en := en) (T := f 0 15) ⟨hM, hn, hb, hX, by omega⟩ e1 ?_
    cases hr : pT (tk3 cnt kd 0) (tk3 cnt vl 0) (16 * (cnt + 2)) (cnt + 2) 0 (fun _ => none) with
    | inl e =>
      rw [hr] at h
      intro s1 k1 k5 R1 f1
      have nz : ¬ nI e.1 = nI 0 := zne (by omega) (by omega) (by decide)
      refine xbr_f (by rw [xW_s, ud_s]; exact nz) ?_
      refine xbr_f (by rw [xW_s, ud_n (by decide), xW_s, ud_n (by decide), xW_s, ud_s]; exact nz) ?_
      refine h _ k1 k5 ?_ ?_ ⟨?_, fun i hi => absurd hi (Nat.not_lt_zero _)⟩ ?_ (hD.cg (Nat.le_refl _) (fun i hi => ?_) (fun _ _ => rfl)) ⟨fun q h1 h2 h3 h4 => ?_, fun i hi => ?_, f1.2.2.2.1, f1.2.2.2.2⟩
      · rw [xW_s, ud_n (by decide), xW_s, ud_n (by decide), xW_s, ud_s]
      · rw [xW_s, ud_n (by decide), xW_s, ud_s, xW_s, ud_n (by decide)]
        exact R1.2.1
      · rw [xW_s, ud_s]
      · rw [xW_n (by decide), xW_n (by decide), xW_n (by decide), f1.1 80 (by decide) (by decide) (by decide)]; exact hA
      · rw [xW_n (by decide), xW_n (by decide), xW_n (by decide)]; exact f1.2.1 i (Or.inl hi)
      · rw [xW_n h1, xW_n h1, xW_n h1]; exact f1.1 q h1 h3 h4
      · rw [xW_s, ud_n (by omega), xW_s, ud_n (by omega), xW_s, ud_n (by omega)]; exact f1.2.2.1 i (by omega)
    | inr d1 =>
      rw [hr] at h
      intro s1 w S1 w3 f1
      refine xbr_t (by rw [xW_s, ud_s]) ?_
      refine xbr_t (by rw [xW_s, ud_n (by decide), xW_s, ud_n (by decide), xW_s, ud_s]) ?_
      have A1 : FA (s1.1 80) f ru := by rw [f1.1 80 (by decide) (by decide) (by decide)]; exact hA
      have e81 : s1.1 80 1 = nI (f 0 15) := A1.2.2.2.1
      have g80 : (xW (xW (xW s1 79 7 (nI 0)) 79 8 (-(nI 1))) 79 6 (nI 0)).1 80 = s1.1 80 := by rw [xW_n (by decide), xW_n (by decide), xW_n (by decide)]
      have g7 : (xW (xW (xW s1 79 7 (nI 0)) 79 8 (-(nI 1))) 79 6 (nI 0)).1 79 7 = nI 0 := by rw [xW_s, ud_n (by decide), xW_s, ud_n (by decide), xW_s, ud_s]
      have g8 : (xW (xW (xW s1 79 7 (nI 0)) 79 8 (-(nI 1))) 79 6 (nI 0)).1 79 8 = -(nI 1) := by rw [xW_s, ud_n (by decide), xW_s, ud_s]
      have g6 : (xW (xW (xW s1 79 7 (nI 0)) 79 8 (-(nI 1))) 79 6 (nI 0)).1 79 6 = nI 0 := by rw [xW_s, ud_s]
      have gq : ∀ q, q ≠ 79 → (xW (xW (xW s1 79 7 (nI 0)) 79 8 (-(nI 1))) 79 6 (nI 0)).1 q = s1.1 q := fun q h1 => by rw [xW_n h1, xW_n h1, xW_n h1]
      have gi : ∀ i, (i < 6 ∨ 8 < i) → (xW (xW (xW s1 79 7 (nI 0)) 79 8 (-(nI 1))) 79 6 (nI 0)).1 79 i = s1.1 79 i := fun i hi => by rw [xW_s, ud_n (by omega), xW_s, ud_n (by omega), xW_s, ud_n (by omega)]
      have g2 : (xW (xW (xW s1 79 7 (nI 0)) 79 8 (-(nI 1))) 79 6 (nI 0)).2 = s1.2 := rfl
      revert g80 g7 g8 g6 gq gi g2
      generalize xW (xW (xW s1 79 7 (nI 0)) 79 8 (-(nI 1))) 79 6 (nI 0) = s2
      intro g80 g7 g8 g6 gq gi g2
      refine ⟨1, ⟨by decide, rfl⟩, ?_⟩
      refine ⟨1, ⟨by decide, rfl⟩, ?_⟩
      refine ⟨1, ⟨by decide, rfl⟩, ?_⟩
      have ev : s2.1 80 1 + nI 1 = nI (f 0 15 + 1) := by rw [g80, e81, nad]
      have ex : (xW s2 80 1 (s2.1 80 1 + nI 1)).1 80 1 - nI 1 = nI (f 0 15) := by rw [xW_s, ud_s, ev, nsb (by omega)]; rfl
      have q := h (xW s2 80 1 (s2.1 80 1 + nI 1)) (by rw [xW_n (by decide)]; exact g7) (by rw [xW_n (by decide)]; exact g8) ⟨by rw [xW_n (by decide)]; exact g6, fun i hi => absurd hi (Nat.not_lt_zero _)⟩ ?_ ?_ ⟨fun q h1 h2 h3 h4 => ?_, fun i hi => ?_, fun q hq => ?_, fun i hi => ?_⟩
      · rw [← ex] at q
        exact q
      · show FA (va_up s2.1 80 (upd (s2.1 80) 1 (s2.1 80 1 + nI 1)) 80) _ _
        rw [up_s, ev, g80]
        exact A1.cnt (Or.inr (Or.inl ⟨rfl, rfl⟩))
      · refine TXM.add (s := s) hD ?_ w3 (fun i hi => ?_)
        · obtain ⟨u1, u2, u3, u4, u5, u6⟩ := S1
          have e79 : ∀ i, 8 < i → (xW s2 80 1 (s2.1 80 1 + nI 1)).1 79 i = s1.1 79 i := fun i hi => by rw [xW_n (by decide)]; exact gi i (Or.inr hi)
          have e82 : (xW s2 80 1 (s2.1 80 1 + nI 1)).1 82 = s1.1 82 := by rw [xW_n (by decide)]; exact gq 82 (by decide)
          unfold TS
          rw [e79 16 (by decide), e79 14 (by decide), e79 20 (by decide), e79 23 (by decide), e82]
          exact ⟨u1, u2, u3, u4, u5, u6⟩
        · rw [xW_n (by decide), gq 82 (by decide)]
          exact f1.2.1 i (Or.inl hi)
      · rw [xW_n h2, gq q h1]; exact f1.1 q h1 h3 h4
      · rw [xW_n (by decide), gi i (by omega)]; exact f1.2.2.1 i (by omega)
      · show s2.2 q = _
        rw [g2]; exact f1.2.2.2.1 q hq
      · show s2.2 79 i = _
        rw [g2]; exact f1.2.2.2.2 i hi
end RTEXT2
