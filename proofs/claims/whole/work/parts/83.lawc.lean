/-! the law's calls: the tape, the text, the image (by program mk83.py) -/
theorem RV.up {ru : Int32} {n m : Nat} (h : RV ru n) (hm : n ≤ m) : RV ru m := by
  rcases h with h | ⟨j, h1, h2⟩
  · exact Or.inl h
  · exact Or.inr ⟨j, by omega, h2⟩
section LAWC
section K
variable {S n : Nat} {s s1 s2 : xS} {f f' g : Nm} {ru ru' rk : Int32} {t : Nat → Nat} {dn dn' : Nat → Nat → Option Dn}
/-- after a text has been read -/
theorem LI_D {N : Nat} {sc : Nat → Int32} (e900 : s.1 900 = sc) (e901 : s.1 901 0 = nI N) (h : LC S s f ru g rk n t dn) (hF : FC s1.1 1 f' ru) (hT : TC s1 0 t) (hX : TXC s1 (f' 0 15) dn') (f1 : fX1 s s1) (hA : FA (s2.1 80) f' ru) (hM : TM s2 0 t) (hD : TXM s2 (f' 0 15) dn') (f2 : fX2 s1 s2) (hB : FB f') (e0 : f' 0 0 = f 0 0) (e1 : f' 0 1 = f 0 1) (e15 : f 0 15 ≤ f' 0 15) (ft : s1.1 25 1 = s2.1 79 7 ∧ s1.1 25 2 = s2.1 79 8) : LI S N sc s2 := by
  obtain ⟨⟨F1, F12, A80, A81⟩, ⟨B, Bg, wg, t15, rv, rvk⟩, ⟨tc, tm, n3, tb⟩, -, ⟨e59, eS, mw⟩, ⟨xc, xm⟩, nc, nmd⟩ := h
  have G : ∀ q, ((12 ≤ q ∧ q ≤ 22) ∨ 51 ≤ q) → q ≠ 79 → q ≠ 80 → q ≠ 82 → q ≠ 84 → s2.1 q = s.1 q := fun q h0 h1 h2 h3 h4 => (f2.1 q h1 h2 h3 h4).trans (f1.1 q h0)
  have e79 : ∀ i, i < 6 → s2.1 79 i = s.1 79 i := fun i hi => (f2.2.1 i (Or.inl hi)).trans (by rw [f1.1 79 (by omega)])
  have H : ∀ q, q < 79 → s2.1 q = s1.1 q := fun q hq => f2.1 q (by omega) (by omega) (by omega) (by omega)
  have b4 := hB.1.2.2.2
  refine ⟨by rw [G 900 (by omega) (by decide) (by decide) (by decide) (by decide)]; exact e900, by rw [G 901 (by omega) (by decide) (by decide) (by decide) (by decide)]; exact e901, f', ru, g, rk, 0, t, dn', ⟨hF.q (fun k h1 h2 => H k (by omega)), F12.q (fun k h1 h2 => G k (by omega) (by omega) (by omega) (by omega) (by omega)), hA, A81.q (G 81 (by omega) (by decide) (by decide) (by decide) (by decide))⟩, ⟨hB, Bg, ⟨by rw [e0]; exact wg.1, by rw [e1]; exact wg.2⟩, by omega, rv.up e15, rvk⟩, ⟨hT.q (H 23 (by decide)) (H 24 (by decide)), hM, by decide, fun i hi => by omega⟩, ⟨by rw [H 25 (by decide)]; exact ft.1, by rw [H 25 (by decide)]; exact ft.2⟩, ⟨by rw [G 59 (by omega) (by decide) (by decide) (by decide) (by decide)]; exact e59, ?_, ?_⟩, ⟨hX.q b4 (fun q h1 h2 => H q (by omega)), hD⟩, NC.q nc (G 57 (by omega) (by decide) (by decide) (by decide) (by decide)), NMd.q nmd (G 85 (by omega) (by decide) (by decide) (by decide) (by decide))⟩
  · unfold cc; rw [e0, e1]; exact eS
  · exact ⟨by rw [e79 2 (by decide), e0]; exact mw.1, by rw [e79 3 (by decide), e1]; exact mw.2⟩
/-- after the image has been made -/
theorem LI_E {N : Nat} {sc : Nat → Int32} (e900 : s.1 900 = sc) (e901 : s.1 901 0 = nI N) (h : LC S s f ru g rk n t dn) (hF : FC s1.1 12 f ru) (o1 : ∀ q, (q < 12 ∨ 22 < q) → s1.1 q = s.1 q) (hA : FA (s2.1 81) f ru) (o2 : ∀ q, q ≠ 81 → s2.1 q = s1.1 q) : LI S N sc s2 := by
  have E : ∀ q, (q < 12 ∨ 22 < q) → q ≠ 81 → s2.1 q = s.1 q := fun q h1 h2 => (o2 q h2).trans (o1 q h1)
  obtain ⟨⟨F1, F12, A80, A81⟩, ⟨B, Bg, wg, t15, rv, rvk⟩, ⟨tc, tm, n3, tb⟩, ⟨ft1, ft2⟩, ⟨e59, eS, mw⟩, ⟨xc, xm⟩, nc, nmd⟩ := h
  have e79 := E 79 (by omega) (by decide)
  have e25 := E 25 (by omega) (by decide)
  have b4 := B.1.2.2.2
  exact ⟨by rw [E 900 (by omega) (by decide)]; exact e900, by rw [E 901 (by omega) (by decide)]; exact e901, f, ru, f, ru, n, t, dn, ⟨F1.q (fun k h1 h2 => E k (by omega) (by omega)), hF.q (fun k h1 h2 => o2 k (by omega)), A80.q (E 80 (by omega) (by decide)), hA⟩, ⟨B, B, ⟨rfl, rfl⟩, Nat.le_refl _, rv, rv⟩, ⟨tc.q (E 23 (by omega) (by decide)) (E 24 (by omega) (by decide)), tm.q (by rw [e79]) (E 83 (by omega) (by decide)), n3, tb⟩, ⟨by rw [e25, e79]; exact ft1, by rw [e25, e79]; exact ft2⟩, ⟨by rw [E 59 (by omega) (by decide)]; exact e59, eS, mw.q (by rw [e79]) (by rw [e79])⟩, ⟨xc.q b4 (fun q h1 h2 => E q (by omega) (by omega)), xm.q (E 82 (by omega) (by decide))⟩, NC.q nc (E 57 (by omega) (by decide)), NMd.q nmd (E 85 (by omega) (by decide))⟩
/-- after the image has come back -/
theorem LI_F {N : Nat} {sc : Nat → Int32} (e900 : s.1 900 = sc) (e901 : s.1 901 0 = nI N) (h : LC S s f ru g rk n t dn) (hF : FC s1.1 1 g rk) (o1 : ∀ q, (q < 1 ∨ 11 < q) → s1.1 q = s.1 q) (hA : FA (s2.1 80) g rk) (o2 : ∀ q, q ≠ 80 → s2.1 q = s1.1 q) : LI S N sc s2 := by
  have E : ∀ q, (q < 1 ∨ 11 < q) → q ≠ 80 → s2.1 q = s.1 q := fun q h1 h2 => (o2 q h2).trans (o1 q h1)
  obtain ⟨⟨F1, F12, A80, A81⟩, ⟨B, Bg, wg, t15, rv, rvk⟩, ⟨tc, tm, n3, tb⟩, ⟨ft1, ft2⟩, ⟨e59, eS, mw⟩, ⟨xc, xm⟩, nc, nmd⟩ := h
  have e79 := E 79 (by omega) (by decide)
  have e25 := E 25 (by omega) (by decide)
  have b4 := B.1.2.2.2
  refine ⟨by rw [E 900 (by omega) (by decide)]; exact e900, by rw [E 901 (by omega) (by decide)]; exact e901, g, rk, g, rk, n, t, dn, ⟨hF.q (fun k h1 h2 => o2 k (by omega)), F12.q (fun k h1 h2 => E k (by omega) (by omega)), hA, A81.q (E 81 (by omega) (by decide))⟩, ⟨Bg, Bg, ⟨rfl, rfl⟩, Nat.le_refl _, rvk, rvk⟩, ⟨tc.q (E 23 (by omega) (by decide)) (E 24 (by omega) (by decide)), tm.q (by rw [e79]) (E 83 (by omega) (by decide)), n3, tb⟩, ⟨by rw [e25, e79]; exact ft1, by rw [e25, e79]; exact ft2⟩, ⟨by rw [E 59 (by omega) (by decide)]; exact e59, ?_, ?_⟩, ⟨?_, ?_⟩, NC.q nc (E 57 (by omega) (by decide)), NMd.q nmd (E 85 (by omega) (by decide))⟩
  · unfold cc; rw [wg.1, wg.2]; exact eS
  · exact ⟨by rw [e79, wg.1]; exact mw.1, by rw [e79, wg.2]; exact mw.2⟩
  · exact xc.cg t15 (E 53 (by omega) (by decide)) (fun q h1 h2 => E q (by omega) (by omega)) (fun _ _ => rfl)
  · exact xm.cg t15 (fun i _ => by rw [E 82 (by omega) (by decide)]) (fun _ _ => rfl)
end K
variable {X : xXT} {P : xPT} {d S : Nat} {Q : xQ}
set_option maxRecDepth 20000 in
theorem law_5 (I : xRk X P) (hS : S ≤ 128) {N i : Nat} {sc : Nat → Int32} {s : xS} (hs : LI S N sc s) (hi : i + 6 ≤ N) (hN : N ≤ 3074) (h : ∀ s' : xS, LI S N sc s' → X (d + 99) mL_law Q (L0 S) 1047 [some (.ref 900), some (.ref 0), some (.ref 79), some (.int (nI i))] [] s') : X (d + 99) mL_law Q (L0 S) 335 [some (.ref 900), some (.ref 0), some (.ref 79), some (.int (nI i))] [] s := by
  have hs0 := hs
  obtain ⟨e900, e901, f, ru, g, rk, n, t, dn, hL⟩ := hs
  have hL0 := hL
  obtain ⟨⟨F1, F12, A80, A81⟩, ⟨B, Bg, wg, t15, rv, rvk⟩, ⟨tc, tm, n3, tb⟩, ⟨ft1, ft2⟩, ⟨e59, eS, mw⟩, ⟨xc, xm⟩, nc, nmd⟩ := hL
  have SR : ∀ (q : xS) (k : Nat), q.1 901 = s.1 901 → k ≤ 5 → nI (i + k) < q.1 901 0 ∧ i + k < 2 ^ 31 ∧ nI i + nI k = nI (i + k) := fun q k e hk => ⟨by rw [e, e901]; exact zlt (by omega) (by omega), by omega, nad i k⟩
  have c16 := B.cc16
  have b8 := B.1.1
  refine rn I.1 [1047] 199 ?_
  refine ⟨i + 1, SR s 1 rfl (by decide), ?_⟩
  refine ⟨i + 2, SR s 2 rfl (by decide), ?_⟩
  refine ⟨i + 3, SR s 3 rfl (by decide), ?_⟩
  refine ⟨i + 4, SR s 4 rfl (by decide), ?_⟩
  refine ⟨i + 5, SR s 5 rfl (by decide), ?_⟩
  refine m_feed I.1 hS tc n3 (fun hr s1 T1 f1 => ?_) (fun hr => ?_)
  · have E : s1.1 900 = s.1 900 := f1.1 900 (by decide) (by decide)
    obtain ⟨a80, a81, mw1, xm1, tm1, nmd1⟩ := hL0.r (s1 := s1) (fun q hq => f1.1 q (by omega) (by omega))
    refine ⟨i + 1, SR s1 1 (f1.1 901 (by decide) (by decide)) (by decide), ?_⟩
    refine ⟨i + 2, SR s1 2 (f1.1 901 (by decide) (by decide)) (by decide), ?_⟩
    refine ⟨i + 3, SR s1 3 (f1.1 901 (by decide) (by decide)) (by decide), ?_⟩
    refine ⟨i + 4, SR s1 4 (f1.1 901 (by decide) (by decide)) (by decide), ?_⟩
    refine ⟨i + 5, SR s1 5 (f1.1 901 (by decide) (by decide)) (by decide), ?_⟩
    rw [E]
    refine q_feed I.1 hS tm1 n3 (fun _ s2 T2 f2 => ?_) (fun z => by omega)
    exact xbr_t rfl (h s2 (LI_C e900 e901 hL0 T1 f1 T2 f2 hr (ap20_lt tb)))
  · refine ⟨i + 1, SR s 1 rfl (by decide), ?_⟩
    refine ⟨i + 2, SR s 2 rfl (by decide), ?_⟩
    refine ⟨i + 3, SR s 3 rfl (by decide), ?_⟩
    refine ⟨i + 4, SR s 4 rfl (by decide), ?_⟩
    refine ⟨i + 5, SR s 5 rfl (by decide), ?_⟩
    exact q_feed I.1 hS tm n3 (fun z => by omega) (fun _ => xbr_t rfl (h s hs0))
set_option maxRecDepth 20000 in
theorem law_6 (I : xRk X P) (hS : S ≤ 128) {N i : Nat} {sc : Nat → Int32} {s : xS} (hs : LI S N sc s) (hi : i + 6 ≤ N) (hN : N ≤ 3074) (h : ∀ s' : xS, LI S N sc s' → X (d + 99) mL_law Q (L0 S) 1047 [some (.ref 900), some (.ref 0), some (.ref 79), some (.int (nI i))] [] s') : X (d + 99) mL_law Q (L0 S) 398 [some (.ref 900), some (.ref 0), some (.ref 79), some (.int (nI i))] [] s := by
  have hs0 := hs
  obtain ⟨e900, e901, f, ru, g, rk, n, t, dn, hL⟩ := hs
  have hL0 := hL
  obtain ⟨⟨F1, F12, A80, A81⟩, ⟨B, Bg, wg, t15, rv, rvk⟩, ⟨tc, tm, n3, tb⟩, ⟨ft1, ft2⟩, ⟨e59, eS, mw⟩, ⟨xc, xm⟩, nc, nmd⟩ := hL
  have SR : ∀ (q : xS) (k : Nat), q.1 901 = s.1 901 → k ≤ 5 → nI (i + k) < q.1 901 0 ∧ i + k < 2 ^ 31 ∧ nI i + nI k = nI (i + k) := fun q k e hk => ⟨by rw [e, e901]; exact zlt (by omega) (by omega), by omega, nad i k⟩
  have c16 := B.cc16
  have b8 := B.1.1
  refine rn I.1 [1047] 199 ?_
  refine ⟨i + 1, SR s 1 rfl (by decide), ?_⟩
  refine m_end I.1 hS tc n3 (fun m hm em s1 T1 f1 => ?_) (fun no => ?_)
  · have E : s1.1 900 = s.1 900 := f1.1 900 (by decide) (by decide)
    obtain ⟨a80, a81, mw1, xm1, tm1, nmd1⟩ := hL0.r (s1 := s1) (fun q hq => f1.1 q (by omega) (by omega))
    refine ⟨i + 1, SR s1 1 (f1.1 901 (by decide) (by decide)) (by decide), ?_⟩
    rw [E]
    refine q_end I.1 hS tm1 n3 (fun m' hm' em' s2 T2 f2 => ?_) (fun no => absurd em (no m hm))
    have e1 : m' = m := zeq (by omega) (by omega) (em'.symm.trans em)
    subst e1
    exact xbr_t rfl (h s2 (LI_C e900 e901 hL0 T1 f1 T2 f2 (by omega) (fun i hi => tb i (by omega))))
  · refine ⟨i + 1, SR s 1 rfl (by decide), ?_⟩
    exact q_end I.1 hS tm n3 (fun m hm em => absurd em (no m hm)) (fun _ => xbr_t rfl (h s hs0))
set_option maxRecDepth 20000 in
theorem law_7 (I : xRk X P) (hS : S ≤ 128) {N i : Nat} {sc : Nat → Int32} {s : xS} (hs : LI S N sc s) (hi : i + 6 ≤ N) (hN : N ≤ 3074) (h : ∀ s' : xS, LI S N sc s' → X (d + 99) mL_law Q (L0 S) 1047 [some (.ref 900), some (.ref 0), some (.ref 79), some (.int (nI i))] [] s') : X (d + 99) mL_law Q (L0 S) 421 [some (.ref 900), some (.ref 0), some (.ref 79), some (.int (nI i))] [] s := by
  have hs0 := hs
  obtain ⟨e900, e901, f, ru, g, rk, n, t, dn, hL⟩ := hs
  have hL0 := hL
  obtain ⟨⟨F1, F12, A80, A81⟩, ⟨B, Bg, wg, t15, rv, rvk⟩, ⟨tc, tm, n3, tb⟩, ⟨ft1, ft2⟩, ⟨e59, eS, mw⟩, ⟨xc, xm⟩, nc, nmd⟩ := hL
  have SR : ∀ (q : xS) (k : Nat), q.1 901 = s.1 901 → k ≤ 5 → nI (i + k) < q.1 901 0 ∧ i + k < 2 ^ 31 ∧ nI i + nI k = nI (i + k) := fun q k e hk => ⟨by rw [e, e901]; exact zlt (by omega) (by omega), by omega, nad i k⟩
  have c16 := B.cc16
  have b8 := B.1.1
  have b4 := B.1.2.2.2
  refine rn I.1 [1047] 199 ?_
  refine m_Text I hS F1 B tc n3 tb xc (fun e4 => ?_) (fun l4 cnt kd vl pl en tx => ?_)
  · exact q_text (cnt := 0) (kd := t) (vl := t) (pl := t) (en := t) I.1 hS A80 B tm n3 tb xm (fun _ => xbr_t rfl (h s hs0)) (fun z => by omega)
  · cases hr : pT (tk3 cnt kd 0) (tk3 cnt vl 0) (16 * (cnt + 2)) (cnt + 2) 0 (fun _ => none) with
    | inl e =>
      intro s1 h1 h5 g1 g2 T1 F1' X1 f1
      obtain ⟨a80, a81, mw1, xm1, tm1, nmd1⟩ := hL0.r (s1 := s1) (fun q hq => f1.1 q (by omega))
      refine q_text (cnt := cnt) (kd := kd) (vl := vl) (pl := pl) (en := en) I.1 hS a80 B tm1 n3 tb xm1 (fun z => by omega) (fun _ => ⟨tx, ?_⟩)
      rw [hr]
      intro s2 _ _ k1 k2 T2 A2 X2 f2
      exact xbr_t rfl (h s2 (LI_D e900 e901 hL0 F1' T1 X1 f1 A2 T2 X2 f2 B rfl rfl (Nat.le_refl _) ⟨g1.trans k1.symm, g2.trans k2.symm⟩))
    | inr d1 =>
      intro s1 g1 g2 T1 F1' X1 f1
      obtain ⟨a80, a81, mw1, xm1, tm1, nmd1⟩ := hL0.r (s1 := s1) (fun q hq => f1.1 q (by omega))
      refine q_text (cnt := cnt) (kd := kd) (vl := vl) (pl := pl) (en := en) I.1 hS a80 B tm1 n3 tb xm1 (fun z => by omega) (fun _ => ⟨tx, ?_⟩)
      rw [hr]
      intro s2 k1 k2 T2 A2 X2 f2
      have e15 : nu f 0 15 (f 0 15 + 1) 0 15 = f 0 15 + 1 := nu_s _ _ _ _
      exact xbr_t rfl (h s2 (LI_D e900 e901 hL0 F1' T1 (by rw [e15]; exact X1) f1 A2 T2 (by rw [e15]; exact X2) f2 (B.cnt (Or.inr (Or.inr (Or.inr ⟨rfl, by omega⟩)))) (nu_n (by omega)) (nu_n (by omega)) (by rw [e15]; omega) ⟨g1.trans k1.symm, g2.trans k2.symm⟩))
set_option maxRecDepth 20000 in
theorem law_8 (I : xRk X P) (hS : S ≤ 128) {N i : Nat} {sc : Nat → Int32} {s : xS} (hs : LI S N sc s) (hi : i + 6 ≤ N) (hN : N ≤ 3074) (h : ∀ s' : xS, LI S N sc s' → X (d + 99) mL_law Q (L0 S) 1047 [some (.ref 900), some (.ref 0), some (.ref 79), some (.int (nI i))] [] s') : X (d + 99) mL_law Q (L0 S) 434 [some (.ref 900), some (.ref 0), some (.ref 79), some (.int (nI i))] [] s := by
  have hs0 := hs
  obtain ⟨e900, e901, f, ru, g, rk, n, t, dn, hL⟩ := hs
  have hL0 := hL
  obtain ⟨⟨F1, F12, A80, A81⟩, ⟨B, Bg, wg, t15, rv, rvk⟩, ⟨tc, tm, n3, tb⟩, ⟨ft1, ft2⟩, ⟨e59, eS, mw⟩, ⟨xc, xm⟩, nc, nmd⟩ := hL
  have SR : ∀ (q : xS) (k : Nat), q.1 901 = s.1 901 → k ≤ 5 → nI (i + k) < q.1 901 0 ∧ i + k < 2 ^ 31 ∧ nI i + nI k = nI (i + k) := fun q k e hk => ⟨by rw [e, e901]; exact zlt (by omega) (by omega), by omega, nad i k⟩
  have c16 := B.cc16
  have b8 := B.1.1
  refine rn I.1 [1047] 199 ?_
  refine ⟨i + 1, SR s 1 rfl (by decide), ?_⟩
  refine m_Fault I.1 hS (fun v hv => ?_)
  refine ⟨i + 1, SR s 1 rfl (by decide), ?_⟩
  refine q_fault I.1 hS (fun w hw => ?_)
  rw [ft1, ft2] at hv
  exact xbr_t (hv.eq hw) (h s hs0)
set_option maxRecDepth 20000 in
theorem law_22 (I : xRk X P) (hS : S ≤ 128) {N i : Nat} {sc : Nat → Int32} {s : xS} (hs : LI S N sc s) (hi : i + 6 ≤ N) (hN : N ≤ 3074) (h : ∀ s' : xS, LI S N sc s' → X (d + 99) mL_law Q (L0 S) 1047 [some (.ref 900), some (.ref 0), some (.ref 79), some (.int (nI i))] [] s') : X (d + 99) mL_law Q (L0 S) 998 [some (.ref 900), some (.ref 0), some (.ref 79), some (.int (nI i))] [] s := by
  have hs0 := hs
  obtain ⟨e900, e901, f, ru, g, rk, n, t, dn, hL⟩ := hs
  have hL0 := hL
  obtain ⟨⟨F1, F12, A80, A81⟩, ⟨B, Bg, wg, t15, rv, rvk⟩, ⟨tc, tm, n3, tb⟩, ⟨ft1, ft2⟩, ⟨e59, eS, mw⟩, ⟨xc, xm⟩, nc, nmd⟩ := hL
  have SR : ∀ (q : xS) (k : Nat), q.1 901 = s.1 901 → k ≤ 5 → nI (i + k) < q.1 901 0 ∧ i + k < 2 ^ 31 ∧ nI i + nI k = nI (i + k) := fun q k e hk => ⟨by rw [e, e901]; exact zlt (by omega) (by omega), by omega, nad i k⟩
  have c16 := B.cc16
  have b8 := B.1.1
  refine rn I.1 [1047] 199 ?_
  refine m_Image I.1 hS F1 B F12 wg (fun s1 o1 F' _ => ?_)
  obtain ⟨a80, a81, mw1, xm1, tm1, nmd1⟩ := hL0.r (s1 := s1) (fun q hq => o1 q (by omega))
  refine q_image I.1 hS a80 (fun s2 A' o2 _ => ?_)
  exact xbr_t rfl (h s2 (LI_E e900 e901 hL0 F' o1 A' o2))
set_option maxRecDepth 20000 in
theorem law_23 (I : xRk X P) (hS : S ≤ 128) {N i : Nat} {sc : Nat → Int32} {s : xS} (hs : LI S N sc s) (hi : i + 6 ≤ N) (hN : N ≤ 3074) (h : ∀ s' : xS, LI S N sc s' → X (d + 99) mL_law Q (L0 S) 1047 [some (.ref 900), some (.ref 0), some (.ref 79), some (.int (nI i))] [] s') : X (d + 99) mL_law Q (L0 S) 1011 [some (.ref 900), some (.ref 0), some (.ref 79), some (.int (nI i))] [] s := by
  have hs0 := hs
  obtain ⟨e900, e901, f, ru, g, rk, n, t, dn, hL⟩ := hs
  have hL0 := hL
  obtain ⟨⟨F1, F12, A80, A81⟩, ⟨B, Bg, wg, t15, rv, rvk⟩, ⟨tc, tm, n3, tb⟩, ⟨ft1, ft2⟩, ⟨e59, eS, mw⟩, ⟨xc, xm⟩, nc, nmd⟩ := hL
  have SR : ∀ (q : xS) (k : Nat), q.1 901 = s.1 901 → k ≤ 5 → nI (i + k) < q.1 901 0 ∧ i + k < 2 ^ 31 ∧ nI i + nI k = nI (i + k) := fun q k e hk => ⟨by rw [e, e901]; exact zlt (by omega) (by omega), by omega, nad i k⟩
  have c16 := B.cc16
  have b8 := B.1.1
  refine rn I.1 [1047] 199 ?_
  refine m_Back I.1 hS F1 Bg F12 ⟨wg.1.symm, wg.2.symm⟩ (fun s1 o1 F' _ => ?_)
  obtain ⟨a80, a81, mw1, xm1, tm1, nmd1⟩ := hL0.r (s1 := s1) (fun q hq => o1 q (by omega))
  refine q_back I.1 hS a81 (fun s2 A' o2 _ => ?_)
  exact xbr_t rfl (h s2 (LI_F e900 e901 hL0 F' o1 A' o2))
set_option maxRecDepth 20000 in
theorem law_24 (I : xRk X P) (hS : S ≤ 128) {N i : Nat} {sc : Nat → Int32} {s : xS} (hs : LI S N sc s) (hi : i + 6 ≤ N) (hN : N ≤ 3074) (h : ∀ s' : xS, LI S N sc s' → X (d + 99) mL_law Q (L0 S) 1047 [some (.ref 900), some (.ref 0), some (.ref 79), some (.int (nI i))] [] s') : X (d + 99) mL_law Q (L0 S) 1024 [some (.ref 900), some (.ref 0), some (.ref 79), some (.int (nI i))] [] s := by
  have hs0 := hs
  obtain ⟨e900, e901, f, ru, g, rk, n, t, dn, hL⟩ := hs
  have hL0 := hL
  obtain ⟨⟨F1, F12, A80, A81⟩, ⟨B, Bg, wg, t15, rv, rvk⟩, ⟨tc, tm, n3, tb⟩, ⟨ft1, ft2⟩, ⟨e59, eS, mw⟩, ⟨xc, xm⟩, nc, nmd⟩ := hL
  have SR : ∀ (q : xS) (k : Nat), q.1 901 = s.1 901 → k ≤ 5 → nI (i + k) < q.1 901 0 ∧ i + k < 2 ^ 31 ∧ nI i + nI k = nI (i + k) := fun q k e hk => ⟨by rw [e, e901]; exact zlt (by omega) (by omega), by omega, nad i k⟩
  have c16 := B.cc16
  have b8 := B.1.1
  refine rn I.1 [1047] 199 ?_
  refine ⟨i + 1, SR s 1 rfl (by decide), ?_⟩
  refine m_About I.1 hS F1 B tc (fun v hv => ?_)
  refine ⟨i + 1, SR s 1 rfl (by decide), ?_⟩
  refine q_about I.1 hS A80 mw B tm (fun w hw => ?_)
  exact xbr_t (hv.eq hw) (h s hs0)
theorem nI_ne {a b : Nat} (ha : a < 2 ^ 31) (hb : b < 2 ^ 31) (h : a ≠ b) : ¬ nI a = nI b := fun e => h (zeq ha hb e)
set_option maxRecDepth 20000 in
theorem law_loop (I : xRk X P) (hS : S ≤ 128) {N : Nat} {sc : Nat → Int32} (hN : N ≤ 3074) (hQ : ∀ s' : xS, Q (some (.int (nI 1))) s') : ∀ m i, N ≤ i + m → i ≤ N + 6 → ∀ s : xS, LI S N sc s → X (d + 99) mL_law Q (L0 S) 38 [some (.ref 900), some (.ref 0), some (.ref 79), some (.int (nI i))] [] s := by
  intro m
  induction m with
  | zero =>
    intro i h1 h2 s hs
    refine rn I.1 [1053] 99 ?_
    refine xbr_t (by rw [hs.2.1]; exact (cut6 hN (by omega)).mpr (by omega)) ?_
    refine rn I.1 [] 99 ?_
    exact ⟨Or.inr rfl, hQ s⟩
  | succ m ih =>
    intro i h1 h2 s hs
    refine rn I.1 [168, 201, 224, 273, 322, 335, 398, 421, 434, 457, 480, 503, 598, 641, 654, 688, 752, 775, 819, 878, 901, 935, 998, 1011, 1024, 1047, 1053] 99 ?_
    by_cases c : N < i + 6
    · refine xbr_t (by rw [hs.2.1]; exact (cut6 hN (by omega)).mpr c) ?_
      refine rn I.1 [] 99 ?_
      exact ⟨Or.inr rfl, hQ s⟩
    · refine xbr_f (by rw [hs.2.1]; exact fun z => c ((cut6 hN (by omega)).mp z)) ?_
      refine ⟨i, ⟨by rw [hs.2.1]; exact zlt (by omega) (by omega), by omega, rfl⟩, ?_⟩
      have K : ∀ s' : xS, LI S N sc s' → X (d + 99) mL_law Q (L0 S) 1047 [some (.ref 900), some (.ref 0), some (.ref 79), some (.int (nI i))] [] s' := by
        intro s' hs'
        have e := ih (i + 6) (by omega) (by omega) s' hs'
        rw [← nad i 6] at e
        refine rn I.1 [38] 99 ?_
        exact e
      obtain ⟨k, k32, ek⟩ := and31 (s.1 900 i)
      by_cases k0 : k = 0
      · subst k0
        exact xbr_t ek (law_0 I hS hs (by omega) hN K)
      by_cases k1 : k = 1
      · subst k1
        exact xbr_f (fun e => nI_ne (by decide) (by decide) (by decide) (ek.symm.trans e)) (xbr_t ek (law_1 I hS hs (by omega) hN K))
      by_cases k2 : k = 2
      · subst k2
        exact xbr_f (fun e => nI_ne (by decide) (by decide) (by decide) (ek.symm.trans e)) (xbr_f (fun e => nI_ne (by decide) (by decide) (by decide) (ek.symm.trans e)) (xbr_t ek (law_2 I hS hs (by omega) hN K)))
      by_cases k3 : k = 3
      · subst k3
        exact xbr_f (fun e => nI_ne (by decide) (by decide) (by decide) (ek.symm.trans e)) (xbr_f (fun e => nI_ne (by decide) (by decide) (by decide) (ek.symm.trans e)) (xbr_f (fun e => nI_ne (by decide) (by decide) (by decide) (ek.symm.trans e)) (xbr_t ek (law_3 I hS hs (by omega) hN K))))
      by_cases k4 : k = 4
      · subst k4
        exact xbr_f (fun e => nI_ne (by decide) (by decide) (by decide) (ek.symm.trans e)) (xbr_f (fun e => nI_ne (by decide) (by decide) (by decide) (ek.symm.trans e)) (xbr_f (fun e => nI_ne (by decide) (by decide) (by decide) (ek.symm.trans e)) (xbr_f (fun e => nI_ne (by decide) (by decide) (by decide) (ek.symm.trans e)) (xbr_t ek (law_4 I hS hs (by omega) hN K)))))
      by_cases k5 : k = 5
      · subst k5
        exact xbr_f (fun e => nI_ne (by decide) (by decide) (by decide) (ek.symm.trans e)) (xbr_f (fun e => nI_ne (by decide) (by decide) (by decide) (ek.symm.trans e)) (xbr_f (fun e => nI_ne (by decide) (by decide) (by decide) (ek.symm.trans e)) (xbr_f (fun e => nI_ne (by decide) (by decide) (by decide) (ek.symm.trans e)) (xbr_f (fun e => nI_ne (by decide) (by decide) (by decide) (ek.symm.trans e)) (xbr_t ek (law_5 I hS hs (by omega) hN K))))))
      by_cases k6 : k = 6
      · subst k6
        exact xbr_f (fun e => nI_ne (by decide) (by decide) (by decide) (ek.symm.trans e)) (xbr_f (fun e => nI_ne (by decide) (by decide) (by decide) (ek.symm.trans e)) (xbr_f (fun e => nI_ne (by decide) (by decide) (by decide) (ek.symm.trans e)) (xbr_f (fun e => nI_ne (by decide) (by decide) (by decide) (ek.symm.trans e)) (xbr_f (fun e => nI_ne (by decide) (by decide) (by decide) (ek.symm.trans e)) (xbr_f (fun e => nI_ne (by decide) (by decide) (by decide) (ek.symm.trans e)) (xbr_t ek (law_6 I hS hs (by omega) hN K)))))))
      by_cases k7 : k = 7
      · subst k7
        exact xbr_f (fun e => nI_ne (by decide) (by decide) (by decide) (ek.symm.trans e)) (xbr_f (fun e => nI_ne (by decide) (by decide) (by decide) (ek.symm.trans e)) (xbr_f (fun e => nI_ne (by decide) (by decide) (by decide) (ek.symm.trans e)) (xbr_f (fun e => nI_ne (by decide) (by decide) (by decide) (ek.symm.trans e)) (xbr_f (fun e => nI_ne (by decide) (by decide) (by decide) (ek.symm.trans e)) (xbr_f (fun e => nI_ne (by decide) (by decide) (by decide) (ek.symm.trans e)) (xbr_f (fun e => nI_ne (by decide) (by decide) (by decide) (ek.symm.trans e)) (xbr_t ek (law_7 I hS hs (by omega) hN K))))))))
      by_cases k8 : k = 8
      · subst k8
        exact xbr_f (fun e => nI_ne (by decide) (by decide) (by decide) (ek.symm.trans e)) (xbr_f (fun e => nI_ne (by decide) (by decide) (by decide) (ek.symm.trans e)) (xbr_f (fun e => nI_ne (by decide) (by decide) (by decide) (ek.symm.trans e)) (xbr_f (fun e => nI_ne (by decide) (by decide) (by decide) (ek.symm.trans e)) (xbr_f (fun e => nI_ne (by decide) (by decide) (by decide) (ek.symm.trans e)) (xbr_f (fun e => nI_ne (by decide) (by decide) (by decide) (ek.symm.trans e)) (xbr_f (fun e => nI_ne (by decide) (by decide) (by decide) (ek.symm.trans e)) (xbr_f (fun e => nI_ne (by decide) (by decide) (by decide) (ek.symm.trans e)) (xbr_t ek (law_8 I hS hs (by omega) hN K)))))))))
      by_cases k9 : k = 9
      · subst k9
        exact xbr_f (fun e => nI_ne (by decide) (by decide) (by decide) (ek.symm.trans e)) (xbr_f (fun e => nI_ne (by decide) (by decide) (by decide) (ek.symm.trans e)) (xbr_f (fun e => nI_ne (by decide) (by decide) (by decide) (ek.symm.trans e)) (xbr_f (fun e => nI_ne (by decide) (by decide) (by decide) (ek.symm.trans e)) (xbr_f (fun e => nI_ne (by decide) (by decide) (by decide) (ek.symm.trans e)) (xbr_f (fun e => nI_ne (by decide) (by decide) (by decide) (ek.symm.trans e)) (xbr_f (fun e => nI_ne (by decide) (by decide) (by decide) (ek.symm.trans e)) (xbr_f (fun e => nI_ne (by decide) (by decide) (by decide) (ek.symm.trans e)) (xbr_f (fun e => nI_ne (by decide) (by decide) (by decide) (ek.symm.trans e)) (xbr_t ek (law_9 I hS hs (by omega) hN K))))))))))
      by_cases k10 : k = 10
      · subst k10
        exact xbr_f (fun e => nI_ne (by decide) (by decide) (by decide) (ek.symm.trans e)) (xbr_f (fun e => nI_ne (by decide) (by decide) (by decide) (ek.symm.trans e)) (xbr_f (fun e => nI_ne (by decide) (by decide) (by decide) (ek.symm.trans e)) (xbr_f (fun e => nI_ne (by decide) (by decide) (by decide) (ek.symm.trans e)) (xbr_f (fun e => nI_ne (by decide) (by decide) (by decide) (ek.symm.trans e)) (xbr_f (fun e => nI_ne (by decide) (by decide) (by decide) (ek.symm.trans e)) (xbr_f (fun e => nI_ne (by decide) (by decide) (by decide) (ek.symm.trans e)) (xbr_f (fun e => nI_ne (by decide) (by decide) (by decide) (ek.symm.trans e)) (xbr_f (fun e => nI_ne (by decide) (by decide) (by decide) (ek.symm.trans e)) (xbr_f (fun e => nI_ne (by decide) (by decide) (by decide) (ek.symm.trans e)) (xbr_t ek (law_10 I hS hs (by omega) hN K)))))))))))
      by_cases k11 : k = 11
      · subst k11
        exact xbr_f (fun e => nI_ne (by decide) (by decide) (by decide) (ek.symm.trans e)) (xbr_f (fun e => nI_ne (by decide) (by decide) (by decide) (ek.symm.trans e)) (xbr_f (fun e => nI_ne (by decide) (by decide) (by decide) (ek.symm.trans e)) (xbr_f (fun e => nI_ne (by decide) (by decide) (by decide) (ek.symm.trans e)) (xbr_f (fun e => nI_ne (by decide) (by decide) (by decide) (ek.symm.trans e)) (xbr_f (fun e => nI_ne (by decide) (by decide) (by decide) (ek.symm.trans e)) (xbr_f (fun e => nI_ne (by decide) (by decide) (by decide) (ek.symm.trans e)) (xbr_f (fun e => nI_ne (by decide) (by decide) (by decide) (ek.symm.trans e)) (xbr_f (fun e => nI_ne (by decide) (by decide) (by decide) (ek.symm.trans e)) (xbr_f (fun e => nI_ne (by decide) (by decide) (by decide) (ek.symm.trans e)) (xbr_f (fun e => nI_ne (by decide) (by decide) (by decide) (ek.symm.trans e)) (xbr_t ek (law_11 I hS hs (by omega) hN K))))))))))))
      by_cases k12 : k = 12
      · subst k12
        exact xbr_f (fun e => nI_ne (by decide) (by decide) (by decide) (ek.symm.trans e)) (xbr_f (fun e => nI_ne (by decide) (by decide) (by decide) (ek.symm.trans e)) (xbr_f (fun e => nI_ne (by decide) (by decide) (by decide) (ek.symm.trans e)) (xbr_f (fun e => nI_ne (by decide) (by decide) (by decide) (ek.symm.trans e)) (xbr_f (fun e => nI_ne (by decide) (by decide) (by decide) (ek.symm.trans e)) (xbr_f (fun e => nI_ne (by decide) (by decide) (by decide) (ek.symm.trans e)) (xbr_f (fun e => nI_ne (by decide) (by decide) (by decide) (ek.symm.trans e)) (xbr_f (fun e => nI_ne (by decide) (by decide) (by decide) (ek.symm.trans e)) (xbr_f (fun e => nI_ne (by decide) (by decide) (by decide) (ek.symm.trans e)) (xbr_f (fun e => nI_ne (by decide) (by decide) (by decide) (ek.symm.trans e)) (xbr_f (fun e => nI_ne (by decide) (by decide) (by decide) (ek.symm.trans e)) (xbr_f (fun e => nI_ne (by decide) (by decide) (by decide) (ek.symm.trans e)) (xbr_t ek (law_12 I hS hs (by omega) hN K)))))))))))))
      by_cases k13 : k = 13
      · subst k13
        exact xbr_f (fun e => nI_ne (by decide) (by decide) (by decide) (ek.symm.trans e)) (xbr_f (fun e => nI_ne (by decide) (by decide) (by decide) (ek.symm.trans e)) (xbr_f (fun e => nI_ne (by decide) (by decide) (by decide) (ek.symm.trans e)) (xbr_f (fun e => nI_ne (by decide) (by decide) (by decide) (ek.symm.trans e)) (xbr_f (fun e => nI_ne (by decide) (by decide) (by decide) (ek.symm.trans e)) (xbr_f (fun e => nI_ne (by decide) (by decide) (by decide) (ek.symm.trans e)) (xbr_f (fun e => nI_ne (by decide) (by decide) (by decide) (ek.symm.trans e)) (xbr_f (fun e => nI_ne (by decide) (by decide) (by decide) (ek.symm.trans e)) (xbr_f (fun e => nI_ne (by decide) (by decide) (by decide) (ek.symm.trans e)) (xbr_f (fun e => nI_ne (by decide) (by decide) (by decide) (ek.symm.trans e)) (xbr_f (fun e => nI_ne (by decide) (by decide) (by decide) (ek.symm.trans e)) (xbr_f (fun e => nI_ne (by decide) (by decide) (by decide) (ek.symm.trans e)) (xbr_f (fun e => nI_ne (by decide) (by decide) (by decide) (ek.symm.trans e)) (xbr_t ek (law_13 I hS hs (by omega) hN K))))))))))))))
      by_cases k14 : k = 14
      · subst k14
        exact xbr_f (fun e => nI_ne (by decide) (by decide) (by decide) (ek.symm.trans e)) (xbr_f (fun e => nI_ne (by decide) (by decide) (by decide) (ek.symm.trans e)) (xbr_f (fun e => nI_ne (by decide) (by decide) (by decide) (ek.symm.trans e)) (xbr_f (fun e => nI_ne (by decide) (by decide) (by decide) (ek.symm.trans e)) (xbr_f (fun e => nI_ne (by decide) (by decide) (by decide) (ek.symm.trans e)) (xbr_f (fun e => nI_ne (by decide) (by decide) (by decide) (ek.symm.trans e)) (xbr_f (fun e => nI_ne (by decide) (by decide) (by decide) (ek.symm.trans e)) (xbr_f (fun e => nI_ne (by decide) (by decide) (by decide) (ek.symm.trans e)) (xbr_f (fun e => nI_ne (by decide) (by decide) (by decide) (ek.symm.trans e)) (xbr_f (fun e => nI_ne (by decide) (by decide) (by decide) (ek.symm.trans e)) (xbr_f (fun e => nI_ne (by decide) (by decide) (by decide) (ek.symm.trans e)) (xbr_f (fun e => nI_ne (by decide) (by decide) (by decide) (ek.symm.trans e)) (xbr_f (fun e => nI_ne (by decide) (by decide) (by decide) (ek.symm.trans e)) (xbr_f (fun e => nI_ne (by decide) (by decide) (by decide) (ek.symm.trans e)) (xbr_t ek (law_14 I hS hs (by omega) hN K)))))))))))))))
      by_cases k15 : k = 15
      · subst k15
        exact xbr_f (fun e => nI_ne (by decide) (by decide) (by decide) (ek.symm.trans e)) (xbr_f (fun e => nI_ne (by decide) (by decide) (by decide) (ek.symm.trans e)) (xbr_f (fun e => nI_ne (by decide) (by decide) (by decide) (ek.symm.trans e)) (xbr_f (fun e => nI_ne (by decide) (by decide) (by decide) (ek.symm.trans e)) (xbr_f (fun e => nI_ne (by decide) (by decide) (by decide) (ek.symm.trans e)) (xbr_f (fun e => nI_ne (by decide) (by decide) (by decide) (ek.symm.trans e)) (xbr_f (fun e => nI_ne (by decide) (by decide) (by decide) (ek.symm.trans e)) (xbr_f (fun e => nI_ne (by decide) (by decide) (by decide) (ek.symm.trans e)) (xbr_f (fun e => nI_ne (by decide) (by decide) (by decide) (ek.symm.trans e)) (xbr_f (fun e => nI_ne (by decide) (by decide) (by decide) (ek.symm.trans e)) (xbr_f (fun e => nI_ne (by decide) (by decide) (by decide) (ek.symm.trans e)) (xbr_f (fun e => nI_ne (by decide) (by decide) (by decide) (ek.symm.trans e)) (xbr_f (fun e => nI_ne (by decide) (by decide) (by decide) (ek.symm.trans e)) (xbr_f (fun e => nI_ne (by decide) (by decide) (by decide) (ek.symm.trans e)) (xbr_f (fun e => nI_ne (by decide) (by decide) (by decide) (ek.symm.trans e)) (xbr_t ek (law_15 I hS hs (by omega) hN K))))))))))))))))
      by_cases k16 : k = 16
      · subst k16
        exact xbr_f (fun e => nI_ne (by decide) (by decide) (by decide) (ek.symm.trans e)) (xbr_f (fun e => nI_ne (by decide) (by decide) (by decide) (ek.symm.trans e)) (xbr_f (fun e => nI_ne (by decide) (by decide) (by decide) (ek.symm.trans e)) (xbr_f (fun e => nI_ne (by decide) (by decide) (by decide) (ek.symm.trans e)) (xbr_f (fun e => nI_ne (by decide) (by decide) (by decide) (ek.symm.trans e)) (xbr_f (fun e => nI_ne (by decide) (by decide) (by decide) (ek.symm.trans e)) (xbr_f (fun e => nI_ne (by decide) (by decide) (by decide) (ek.symm.trans e)) (xbr_f (fun e => nI_ne (by decide) (by decide) (by decide) (ek.symm.trans e)) (xbr_f (fun e => nI_ne (by decide) (by decide) (by decide) (ek.symm.trans e)) (xbr_f (fun e => nI_ne (by decide) (by decide) (by decide) (ek.symm.trans e)) (xbr_f (fun e => nI_ne (by decide) (by decide) (by decide) (ek.symm.trans e)) (xbr_f (fun e => nI_ne (by decide) (by decide) (by decide) (ek.symm.trans e)) (xbr_f (fun e => nI_ne (by decide) (by decide) (by decide) (ek.symm.trans e)) (xbr_f (fun e => nI_ne (by decide) (by decide) (by decide) (ek.symm.trans e)) (xbr_f (fun e => nI_ne (by decide) (by decide) (by decide) (ek.symm.trans e)) (xbr_f (fun e => nI_ne (by decide) (by decide) (by decide) (ek.symm.trans e)) (xbr_t ek (law_16 I hS hs (by omega) hN K)))))))))))))))))
      by_cases k17 : k = 17
      · subst k17
        exact xbr_f (fun e => nI_ne (by decide) (by decide) (by decide) (ek.symm.trans e)) (xbr_f (fun e => nI_ne (by decide) (by decide) (by decide) (ek.symm.trans e)) (xbr_f (fun e => nI_ne (by decide) (by decide) (by decide) (ek.symm.trans e)) (xbr_f (fun e => nI_ne (by decide) (by decide) (by decide) (ek.symm.trans e)) (xbr_f (fun e => nI_ne (by decide) (by decide) (by decide) (ek.symm.trans e)) (xbr_f (fun e => nI_ne (by decide) (by decide) (by decide) (ek.symm.trans e)) (xbr_f (fun e => nI_ne (by decide) (by decide) (by decide) (ek.symm.trans e)) (xbr_f (fun e => nI_ne (by decide) (by decide) (by decide) (ek.symm.trans e)) (xbr_f (fun e => nI_ne (by decide) (by decide) (by decide) (ek.symm.trans e)) (xbr_f (fun e => nI_ne (by decide) (by decide) (by decide) (ek.symm.trans e)) (xbr_f (fun e => nI_ne (by decide) (by decide) (by decide) (ek.symm.trans e)) (xbr_f (fun e => nI_ne (by decide) (by decide) (by decide) (ek.symm.trans e)) (xbr_f (fun e => nI_ne (by decide) (by decide) (by decide) (ek.symm.trans e)) (xbr_f (fun e => nI_ne (by decide) (by decide) (by decide) (ek.symm.trans e)) (xbr_f (fun e => nI_ne (by decide) (by decide) (by decide) (ek.symm.trans e)) (xbr_f (fun e => nI_ne (by decide) (by decide) (by decide) (ek.symm.trans e)) (xbr_f (fun e => nI_ne (by decide) (by decide) (by decide) (ek.symm.trans e)) (xbr_t ek (law_17 I hS hs (by omega) hN K))))))))))))))))))
      by_cases k18 : k = 18
      · subst k18
        exact xbr_f (fun e => nI_ne (by decide) (by decide) (by decide) (ek.symm.trans e)) (xbr_f (fun e => nI_ne (by decide) (by decide) (by decide) (ek.symm.trans e)) (xbr_f (fun e => nI_ne (by decide) (by decide) (by decide) (ek.symm.trans e)) (xbr_f (fun e => nI_ne (by decide) (by decide) (by decide) (ek.symm.trans e)) (xbr_f (fun e => nI_ne (by decide) (by decide) (by decide) (ek.symm.trans e)) (xbr_f (fun e => nI_ne (by decide) (by decide) (by decide) (ek.symm.trans e)) (xbr_f (fun e => nI_ne (by decide) (by decide) (by decide) (ek.symm.trans e)) (xbr_f (fun e => nI_ne (by decide) (by decide) (by decide) (ek.symm.trans e)) (xbr_f (fun e => nI_ne (by decide) (by decide) (by decide) (ek.symm.trans e)) (xbr_f (fun e => nI_ne (by decide) (by decide) (by decide) (ek.symm.trans e)) (xbr_f (fun e => nI_ne (by decide) (by decide) (by decide) (ek.symm.trans e)) (xbr_f (fun e => nI_ne (by decide) (by decide) (by decide) (ek.symm.trans e)) (xbr_f (fun e => nI_ne (by decide) (by decide) (by decide) (ek.symm.trans e)) (xbr_f (fun e => nI_ne (by decide) (by decide) (by decide) (ek.symm.trans e)) (xbr_f (fun e => nI_ne (by decide) (by decide) (by decide) (ek.symm.trans e)) (xbr_f (fun e => nI_ne (by decide) (by decide) (by decide) (ek.symm.trans e)) (xbr_f (fun e => nI_ne (by decide) (by decide) (by decide) (ek.symm.trans e)) (xbr_f (fun e => nI_ne (by decide) (by decide) (by decide) (ek.symm.trans e)) (xbr_t ek (law_18 I hS hs (by omega) hN K)))))))))))))))))))
      by_cases k19 : k = 19
      · subst k19
        exact xbr_f (fun e => nI_ne (by decide) (by decide) (by decide) (ek.symm.trans e)) (xbr_f (fun e => nI_ne (by decide) (by decide) (by decide) (ek.symm.trans e)) (xbr_f (fun e => nI_ne (by decide) (by decide) (by decide) (ek.symm.trans e)) (xbr_f (fun e => nI_ne (by decide) (by decide) (by decide) (ek.symm.trans e)) (xbr_f (fun e => nI_ne (by decide) (by decide) (by decide) (ek.symm.trans e)) (xbr_f (fun e => nI_ne (by decide) (by decide) (by decide) (ek.symm.trans e)) (xbr_f (fun e => nI_ne (by decide) (by decide) (by decide) (ek.symm.trans e)) (xbr_f (fun e => nI_ne (by decide) (by decide) (by decide) (ek.symm.trans e)) (xbr_f (fun e => nI_ne (by decide) (by decide) (by decide) (ek.symm.trans e)) (xbr_f (fun e => nI_ne (by decide) (by decide) (by decide) (ek.symm.trans e)) (xbr_f (fun e => nI_ne (by decide) (by decide) (by decide) (ek.symm.trans e)) (xbr_f (fun e => nI_ne (by decide) (by decide) (by decide) (ek.symm.trans e)) (xbr_f (fun e => nI_ne (by decide) (by decide) (by decide) (ek.symm.trans e)) (xbr_f (fun e => nI_ne (by decide) (by decide) (by decide) (ek.symm.trans e)) (xbr_f (fun e => nI_ne (by decide) (by decide) (by decide) (ek.symm.trans e)) (xbr_f (fun e => nI_ne (by decide) (by decide) (by decide) (ek.symm.trans e)) (xbr_f (fun e => nI_ne (by decide) (by decide) (by decide) (ek.symm.trans e)) (xbr_f (fun e => nI_ne (by decide) (by decide) (by decide) (ek.symm.trans e)) (xbr_f (fun e => nI_ne (by decide) (by decide) (by decide) (ek.symm.trans e)) (xbr_t ek (law_19 I hS hs (by omega) hN K))))))))))))))))))))
      by_cases k20 : k = 20
      · subst k20
        exact xbr_f (fun e => nI_ne (by decide) (by decide) (by decide) (ek.symm.trans e)) (xbr_f (fun e => nI_ne (by decide) (by decide) (by decide) (ek.symm.trans e)) (xbr_f (fun e => nI_ne (by decide) (by decide) (by decide) (ek.symm.trans e)) (xbr_f (fun e => nI_ne (by decide) (by decide) (by decide) (ek.symm.trans e)) (xbr_f (fun e => nI_ne (by decide) (by decide) (by decide) (ek.symm.trans e)) (xbr_f (fun e => nI_ne (by decide) (by decide) (by decide) (ek.symm.trans e)) (xbr_f (fun e => nI_ne (by decide) (by decide) (by decide) (ek.symm.trans e)) (xbr_f (fun e => nI_ne (by decide) (by decide) (by decide) (ek.symm.trans e)) (xbr_f (fun e => nI_ne (by decide) (by decide) (by decide) (ek.symm.trans e)) (xbr_f (fun e => nI_ne (by decide) (by decide) (by decide) (ek.symm.trans e)) (xbr_f (fun e => nI_ne (by decide) (by decide) (by decide) (ek.symm.trans e)) (xbr_f (fun e => nI_ne (by decide) (by decide) (by decide) (ek.symm.trans e)) (xbr_f (fun e => nI_ne (by decide) (by decide) (by decide) (ek.symm.trans e)) (xbr_f (fun e => nI_ne (by decide) (by decide) (by decide) (ek.symm.trans e)) (xbr_f (fun e => nI_ne (by decide) (by decide) (by decide) (ek.symm.trans e)) (xbr_f (fun e => nI_ne (by decide) (by decide) (by decide) (ek.symm.trans e)) (xbr_f (fun e => nI_ne (by decide) (by decide) (by decide) (ek.symm.trans e)) (xbr_f (fun e => nI_ne (by decide) (by decide) (by decide) (ek.symm.trans e)) (xbr_f (fun e => nI_ne (by decide) (by decide) (by decide) (ek.symm.trans e)) (xbr_f (fun e => nI_ne (by decide) (by decide) (by decide) (ek.symm.trans e)) (xbr_t ek (law_20 I hS hs (by omega) hN K)))))))))))))))))))))
      by_cases k21 : k = 21
      · subst k21
        exact xbr_f (fun e => nI_ne (by decide) (by decide) (by decide) (ek.symm.trans e)) (xbr_f (fun e => nI_ne (by decide) (by decide) (by decide) (ek.symm.trans e)) (xbr_f (fun e => nI_ne (by decide) (by decide) (by decide) (ek.symm.trans e)) (xbr_f (fun e => nI_ne (by decide) (by decide) (by decide) (ek.symm.trans e)) (xbr_f (fun e => nI_ne (by decide) (by decide) (by decide) (ek.symm.trans e)) (xbr_f (fun e => nI_ne (by decide) (by decide) (by decide) (ek.symm.trans e)) (xbr_f (fun e => nI_ne (by decide) (by decide) (by decide) (ek.symm.trans e)) (xbr_f (fun e => nI_ne (by decide) (by decide) (by decide) (ek.symm.trans e)) (xbr_f (fun e => nI_ne (by decide) (by decide) (by decide) (ek.symm.trans e)) (xbr_f (fun e => nI_ne (by decide) (by decide) (by decide) (ek.symm.trans e)) (xbr_f (fun e => nI_ne (by decide) (by decide) (by decide) (ek.symm.trans e)) (xbr_f (fun e => nI_ne (by decide) (by decide) (by decide) (ek.symm.trans e)) (xbr_f (fun e => nI_ne (by decide) (by decide) (by decide) (ek.symm.trans e)) (xbr_f (fun e => nI_ne (by decide) (by decide) (by decide) (ek.symm.trans e)) (xbr_f (fun e => nI_ne (by decide) (by decide) (by decide) (ek.symm.trans e)) (xbr_f (fun e => nI_ne (by decide) (by decide) (by decide) (ek.symm.trans e)) (xbr_f (fun e => nI_ne (by decide) (by decide) (by decide) (ek.symm.trans e)) (xbr_f (fun e => nI_ne (by decide) (by decide) (by decide) (ek.symm.trans e)) (xbr_f (fun e => nI_ne (by decide) (by decide) (by decide) (ek.symm.trans e)) (xbr_f (fun e => nI_ne (by decide) (by decide) (by decide) (ek.symm.trans e)) (xbr_f (fun e => nI_ne (by decide) (by decide) (by decide) (ek.symm.trans e)) (xbr_t ek (law_21 I hS hs (by omega) hN K))))))))))))))))))))))
      by_cases k22 : k = 22
      · subst k22
        exact xbr_f (fun e => nI_ne (by decide) (by decide) (by decide) (ek.symm.trans e)) (xbr_f (fun e => nI_ne (by decide) (by decide) (by decide) (ek.symm.trans e)) (xbr_f (fun e => nI_ne (by decide) (by decide) (by decide) (ek.symm.trans e)) (xbr_f (fun e => nI_ne (by decide) (by decide) (by decide) (ek.symm.trans e)) (xbr_f (fun e => nI_ne (by decide) (by decide) (by decide) (ek.symm.trans e)) (xbr_f (fun e => nI_ne (by decide) (by decide) (by decide) (ek.symm.trans e)) (xbr_f (fun e => nI_ne (by decide) (by decide) (by decide) (ek.symm.trans e)) (xbr_f (fun e => nI_ne (by decide) (by decide) (by decide) (ek.symm.trans e)) (xbr_f (fun e => nI_ne (by decide) (by decide) (by decide) (ek.symm.trans e)) (xbr_f (fun e => nI_ne (by decide) (by decide) (by decide) (ek.symm.trans e)) (xbr_f (fun e => nI_ne (by decide) (by decide) (by decide) (ek.symm.trans e)) (xbr_f (fun e => nI_ne (by decide) (by decide) (by decide) (ek.symm.trans e)) (xbr_f (fun e => nI_ne (by decide) (by decide) (by decide) (ek.symm.trans e)) (xbr_f (fun e => nI_ne (by decide) (by decide) (by decide) (ek.symm.trans e)) (xbr_f (fun e => nI_ne (by decide) (by decide) (by decide) (ek.symm.trans e)) (xbr_f (fun e => nI_ne (by decide) (by decide) (by decide) (ek.symm.trans e)) (xbr_f (fun e => nI_ne (by decide) (by decide) (by decide) (ek.symm.trans e)) (xbr_f (fun e => nI_ne (by decide) (by decide) (by decide) (ek.symm.trans e)) (xbr_f (fun e => nI_ne (by decide) (by decide) (by decide) (ek.symm.trans e)) (xbr_f (fun e => nI_ne (by decide) (by decide) (by decide) (ek.symm.trans e)) (xbr_f (fun e => nI_ne (by decide) (by decide) (by decide) (ek.symm.trans e)) (xbr_f (fun e => nI_ne (by decide) (by decide) (by decide) (ek.symm.trans e)) (xbr_t ek (law_22 I hS hs (by omega) hN K)))))))))))))))))))))))
      by_cases k23 : k = 23
      · subst k23
        exact xbr_f (fun e => nI_ne (by decide) (by decide) (by decide) (ek.symm.trans e)) (xbr_f (fun e => nI_ne (by decide) (by decide) (by decide) (ek.symm.trans e)) (xbr_f (fun e => nI_ne (by decide) (by decide) (by decide) (ek.symm.trans e)) (xbr_f (fun e => nI_ne (by decide) (by decide) (by decide) (ek.symm.trans e)) (xbr_f (fun e => nI_ne (by decide) (by decide) (by decide) (ek.symm.trans e)) (xbr_f (fun e => nI_ne (by decide) (by decide) (by decide) (ek.symm.trans e)) (xbr_f (fun e => nI_ne (by decide) (by decide) (by decide) (ek.symm.trans e)) (xbr_f (fun e => nI_ne (by decide) (by decide) (by decide) (ek.symm.trans e)) (xbr_f (fun e => nI_ne (by decide) (by decide) (by decide) (ek.symm.trans e)) (xbr_f (fun e => nI_ne (by decide) (by decide) (by decide) (ek.symm.trans e)) (xbr_f (fun e => nI_ne (by decide) (by decide) (by decide) (ek.symm.trans e)) (xbr_f (fun e => nI_ne (by decide) (by decide) (by decide) (ek.symm.trans e)) (xbr_f (fun e => nI_ne (by decide) (by decide) (by decide) (ek.symm.trans e)) (xbr_f (fun e => nI_ne (by decide) (by decide) (by decide) (ek.symm.trans e)) (xbr_f (fun e => nI_ne (by decide) (by decide) (by decide) (ek.symm.trans e)) (xbr_f (fun e => nI_ne (by decide) (by decide) (by decide) (ek.symm.trans e)) (xbr_f (fun e => nI_ne (by decide) (by decide) (by decide) (ek.symm.trans e)) (xbr_f (fun e => nI_ne (by decide) (by decide) (by decide) (ek.symm.trans e)) (xbr_f (fun e => nI_ne (by decide) (by decide) (by decide) (ek.symm.trans e)) (xbr_f (fun e => nI_ne (by decide) (by decide) (by decide) (ek.symm.trans e)) (xbr_f (fun e => nI_ne (by decide) (by decide) (by decide) (ek.symm.trans e)) (xbr_f (fun e => nI_ne (by decide) (by decide) (by decide) (ek.symm.trans e)) (xbr_f (fun e => nI_ne (by decide) (by decide) (by decide) (ek.symm.trans e)) (xbr_t ek (law_23 I hS hs (by omega) hN K))))))))))))))))))))))))
      by_cases k24 : k = 24
      · subst k24
        exact xbr_f (fun e => nI_ne (by decide) (by decide) (by decide) (ek.symm.trans e)) (xbr_f (fun e => nI_ne (by decide) (by decide) (by decide) (ek.symm.trans e)) (xbr_f (fun e => nI_ne (by decide) (by decide) (by decide) (ek.symm.trans e)) (xbr_f (fun e => nI_ne (by decide) (by decide) (by decide) (ek.symm.trans e)) (xbr_f (fun e => nI_ne (by decide) (by decide) (by decide) (ek.symm.trans e)) (xbr_f (fun e => nI_ne (by decide) (by decide) (by decide) (ek.symm.trans e)) (xbr_f (fun e => nI_ne (by decide) (by decide) (by decide) (ek.symm.trans e)) (xbr_f (fun e => nI_ne (by decide) (by decide) (by decide) (ek.symm.trans e)) (xbr_f (fun e => nI_ne (by decide) (by decide) (by decide) (ek.symm.trans e)) (xbr_f (fun e => nI_ne (by decide) (by decide) (by decide) (ek.symm.trans e)) (xbr_f (fun e => nI_ne (by decide) (by decide) (by decide) (ek.symm.trans e)) (xbr_f (fun e => nI_ne (by decide) (by decide) (by decide) (ek.symm.trans e)) (xbr_f (fun e => nI_ne (by decide) (by decide) (by decide) (ek.symm.trans e)) (xbr_f (fun e => nI_ne (by decide) (by decide) (by decide) (ek.symm.trans e)) (xbr_f (fun e => nI_ne (by decide) (by decide) (by decide) (ek.symm.trans e)) (xbr_f (fun e => nI_ne (by decide) (by decide) (by decide) (ek.symm.trans e)) (xbr_f (fun e => nI_ne (by decide) (by decide) (by decide) (ek.symm.trans e)) (xbr_f (fun e => nI_ne (by decide) (by decide) (by decide) (ek.symm.trans e)) (xbr_f (fun e => nI_ne (by decide) (by decide) (by decide) (ek.symm.trans e)) (xbr_f (fun e => nI_ne (by decide) (by decide) (by decide) (ek.symm.trans e)) (xbr_f (fun e => nI_ne (by decide) (by decide) (by decide) (ek.symm.trans e)) (xbr_f (fun e => nI_ne (by decide) (by decide) (by decide) (ek.symm.trans e)) (xbr_f (fun e => nI_ne (by decide) (by decide) (by decide) (ek.symm.trans e)) (xbr_f (fun e => nI_ne (by decide) (by decide) (by decide) (ek.symm.trans e)) (xbr_t ek (law_24 I hS hs (by omega) hN K)))))))))))))))))))))))))
      exact xbr_f (fun e => nI_ne (by omega) (by decide) (by omega) (ek.symm.trans e)) (xbr_f (fun e => nI_ne (by omega) (by decide) (by omega) (ek.symm.trans e)) (xbr_f (fun e => nI_ne (by omega) (by decide) (by omega) (ek.symm.trans e)) (xbr_f (fun e => nI_ne (by omega) (by decide) (by omega) (ek.symm.trans e)) (xbr_f (fun e => nI_ne (by omega) (by decide) (by omega) (ek.symm.trans e)) (xbr_f (fun e => nI_ne (by omega) (by decide) (by omega) (ek.symm.trans e)) (xbr_f (fun e => nI_ne (by omega) (by decide) (by omega) (ek.symm.trans e)) (xbr_f (fun e => nI_ne (by omega) (by decide) (by omega) (ek.symm.trans e)) (xbr_f (fun e => nI_ne (by omega) (by decide) (by omega) (ek.symm.trans e)) (xbr_f (fun e => nI_ne (by omega) (by decide) (by omega) (ek.symm.trans e)) (xbr_f (fun e => nI_ne (by omega) (by decide) (by omega) (ek.symm.trans e)) (xbr_f (fun e => nI_ne (by omega) (by decide) (by omega) (ek.symm.trans e)) (xbr_f (fun e => nI_ne (by omega) (by decide) (by omega) (ek.symm.trans e)) (xbr_f (fun e => nI_ne (by omega) (by decide) (by omega) (ek.symm.trans e)) (xbr_f (fun e => nI_ne (by omega) (by decide) (by omega) (ek.symm.trans e)) (xbr_f (fun e => nI_ne (by omega) (by decide) (by omega) (ek.symm.trans e)) (xbr_f (fun e => nI_ne (by omega) (by decide) (by omega) (ek.symm.trans e)) (xbr_f (fun e => nI_ne (by omega) (by decide) (by omega) (ek.symm.trans e)) (xbr_f (fun e => nI_ne (by omega) (by decide) (by omega) (ek.symm.trans e)) (xbr_f (fun e => nI_ne (by omega) (by decide) (by omega) (ek.symm.trans e)) (xbr_f (fun e => nI_ne (by omega) (by decide) (by omega) (ek.symm.trans e)) (xbr_f (fun e => nI_ne (by omega) (by decide) (by omega) (ek.symm.trans e)) (xbr_f (fun e => nI_ne (by omega) (by decide) (by omega) (ek.symm.trans e)) (xbr_f (fun e => nI_ne (by omega) (by decide) (by omega) (ek.symm.trans e)) (xbr_f (fun e => nI_ne (by omega) (by decide) (by omega) (ek.symm.trans e)) (K s hs)))))))))))))))))))))))))
end LAWC
