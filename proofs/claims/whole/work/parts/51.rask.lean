/-! the reference's askTwo and ask -/
section RASK
variable {X : xXT} {P : xPT} {d S : Nat} {s : xS} {Q : xQ} {f : Nm} {ru : Int32} {e : Nat → Nat} {dn : Nat → Nat → Option Dn} {dr : Nat → Option Dn}
theorem q_askTwo (I : xRl X P) (hS : S ≤ 128) (hA : FA (s.1 80) f ru) (hW : MW s f) (hB : FB f) {h : Nat} (hG : WM2 s (8 * cc f) (wk f dr (f 0 13))) (hV : ∀ j, j < 2 * f 0 12 → LV s (8 * cc f) j (snv f dr (f 2 (j / 2)) h j) (slv f dr (f 2 (j / 2)) h j)) (k : Q (some (.int (qc (ob f (su2 f dr h) (2 * f 0 12) (2 * f 0 12))))) s) : P (d + 4) (L0 S) 207 [.ref 79] s Q := by
  have hn8 := hB.1.1
  have hn13 := hB.1.2.1
  have e0 : nI 2 * s.1 80 0 = nI (2 * f 0 12) := by rw [hA.2.2.1, nml]
  have g62 : ∀ i j, su2 f dr h i j < 2 ^ 62 := fun i j => su2_b hB
  have inner : ∀ a, a < 2 * f 0 12 → ∀ o, (∀ (o5 o6 : Option Value), X (d + 3) mX11_askTwo Q (L0 S) 104 [some (.ref 79), some (.int (qc (ib f (su2 f dr h) o a (2 * f 0 12 - (a / 2 * 2 + 2))))), some (.long (q64 (su2 f dr h) (ib f (su2 f dr h) o a (2 * f 0 12 - (a / 2 * 2 + 2))))), none, some (.int (nI a)), o5, o6, none] [] s) →
      ∀ m i, a / 2 * 2 + 2 + i + m = 2 * f 0 12 → ∀ (o6 : Option Value), X (d + 3) mX11_askTwo Q (L0 S) 32 [some (.ref 79), some (.int (qc (ib f (su2 f dr h) o a i))), some (.long (q64 (su2 f dr h) (ib f (su2 f dr h) o a i))), none, some (.int (nI a)), some (.int (nI (a / 2 * 2 + 2 + i))), o6, none] [] s := by
    intro a ha o K m
    induction m with
    | zero =>
      intro i hi o6
      refine rn I [104] 99 ?_
      refine ⟨0, ⟨by decide, rfl⟩, ?_⟩
      refine xbr_f (by rw [e0]; exact znl (by omega) (by omega)) ?_
      have q := K (some (.int (nI (a / 2 * 2 + 2 + i)))) o6
      rw [show 2 * f 0 12 - (a / 2 * 2 + 2) = i by omega] at q
      exact q
    | succ m ih =>
      intro i hi o6
      have nx : ib f (su2 f dr h) o a (i + 1) = st2 f (su2 f dr h) (ib f (su2 f dr h) o a i) a (a / 2 * 2 + 2 + i) := rfl
      have skip : ¬ (okH f a ∧ okH f (a / 2 * 2 + 2 + i)) → X (d + 3) mX11_askTwo Q (L0 S) 98 [some (.ref 79), some (.int (qc (ib f (su2 f dr h) o a i))), some (.long (q64 (su2 f dr h) (ib f (su2 f dr h) o a i))), none, some (.int (nI a)), some (.int (nI (a / 2 * 2 + 2 + i))), o6, none] [] s := by
        intro hn
        refine rn I [32] 99 ?_
        have q := ih (i + 1) (by omega) o6
        rw [nx, st2_n hn, ← Nat.add_assoc, n1s (a / 2 * 2 + 2 + i)] at q
        exact q
      refine rn I [32, 98] 99 ?_
      refine ⟨0, ⟨by decide, rfl⟩, ?_⟩
      refine xbr_t (by rw [e0]; exact zlt (by omega) (by omega)) ?_
      refine q_canAsk I hS hA hB (fun j hj ej => ?_) (fun hc => xbr_t rfl (skip (fun z => hc a z.1 rfl)))
      have := okH16 hB hj
      have ej := zeq (by omega) (by omega) ej
      subst ej
      refine xbr_f n10 ?_
      refine q_canAsk I hS hA hB (fun j2 hj2 ej2 => ?_) (fun hc => xbr_t rfl (skip (fun z => hc _ z.2 rfl)))
      have := okH16 hB hj2
      have ej2 := zeq (by omega) (by omega) ej2
      subst ej2
      refine xbr_f n10 ?_
      refine q_sureByTwo I hS hW hB (by omega) (by omega) hG (wkb (by omega)) (hV a (by omega)) (hV _ (by omega)) snv_le slv_le snv_le slv_le ?_
      have q := ih (i + 1) (by omega) (some (.long (lN (su2 f dr h a (a / 2 * 2 + 2 + i)))))
      rw [← Nat.add_assoc, n1s (a / 2 * 2 + 2 + i)] at q
      have cmp := cmpQ (g := su2 f dr h) (o := ib f (su2 f dr h) o a i) (g62 a (a / 2 * 2 + 2 + i)) g62
      by_cases hc : ∀ b, ib f (su2 f dr h) o a i = some b → su2 f dr h b.1 b.2 < su2 f dr h a (a / 2 * 2 + 2 + i)
      · rw [nx, st2_up ⟨hj, hj2⟩ hc] at q
        refine xbr_t (cmp.mpr hc) ?_
        refine rn I [32] 99 ?_
        rw [show qc (some (a, a / 2 * 2 + 2 + i)) = nI 100 * nI a + nI (a / 2 * 2 + 2 + i) by rw [nml, nad]; rfl] at q
        exact q
      · refine xbr_f (fun z => hc (cmp.mp z)) ?_
        cases eo : ib f (su2 f dr h) o a i with
        | none => exact absurd (fun b z => (by rw [eo] at z; cases z)) hc
        | some b =>
          rw [nx, eo, st2_no (fun z => hc (fun b' hb' => (by rw [eo] at hb'; cases hb'; exact z)))] at q
          refine rn I [32] 99 ?_
          exact q
  have outer : ∀ m a, a + m = 2 * f 0 12 → ∀ (o5 o6 : Option Value), X (d + 3) mX11_askTwo Q (L0 S) 9 [some (.ref 79), some (.int (qc (ob f (su2 f dr h) (2 * f 0 12) a))), some (.long (q64 (su2 f dr h) (ob f (su2 f dr h) (2 * f 0 12) a))), none, some (.int (nI a)), o5, o6, none] [] s := by
    intro m
    induction m with
    | zero =>
      intro a ha o5 o6
      have ha : a = 2 * f 0 12 := ha
      subst ha
      refine rn I [] 99 ?_
      refine ⟨0, ⟨by decide, rfl⟩, ?_⟩
      refine xbr_f (by rw [e0]; exact znl (Nat.le_refl _) (by omega)) ?_
      exact k
    | succ m ih =>
      intro a ha o5 o6
      have ed : nI a / nI 2 * nI 2 + nI 2 = nI (a / 2 * 2 + 2 + 0) := by rw [dv2 (by omega), nml, nad]
      refine rn I [32] 99 ?_
      refine ⟨0, ⟨by decide, rfl⟩, ?_⟩
      refine xbr_t (by rw [e0]; exact zlt (by omega) (by omega)) ?_
      refine And.intro (by decide +kernel) ?_
      have q := inner a (by omega) (ob f (su2 f dr h) (2 * f 0 12) a) (fun o5 o6 => by
        refine rn I [9] 99 ?_
        have q := ih (a + 1) (by omega) o5 o6
        rw [n1s a] at q
        exact q) (2 * f 0 12 - (a / 2 * 2 + 2)) 0 (by omega) o6
      rw [← ed] at q
      exact q
  refine inX11_askTwo I (L0ok hS) ?_
  refine rn I [9] 99 ?_
  exact outer (2 * f 0 12) 0 (by omega) none none
theorem q_ask (I : xRl X P) (hS : S ≤ 128) (hA : FA (s.1 80) f ru) (hW : MW s f) (hB : FB f) (hX : TXM s (f 0 15) dn) (hd : ∀ t, t < f 0 15 → ∀ c, c < 4 → TDs c (dn t c)) (hr : rdn ru (f 0 15) dn dr) (hN : NMd s e) (he : EB e) {c1 c3 : Int32} {bt : Nat} (hb : bt < 2) (h1 : ∀ h w, h < 24 → c1 = nI h → w ≤ bt → c3 = nI w → ∀ s' : xS, (∃ e', NMd s' e' ∧ EB e') → fR s s' → Q (some (.int (AK f dr bt w h))) s') (h0 : (¬ ∃ h w, h < 24 ∧ c1 = nI h ∧ w ≤ bt ∧ c3 = nI w) → Q (some (.int (-(nI 1)))) s) : P (d + 11) (L0 S) 208 [.ref 79, .int c1, .int (nI bt), .int c3] s Q := by
  have hn8 := hB.1.1
  have T : ∀ h w, h < 24 → c1 = nI h → w ≤ bt → c3 = nI w → X (d + 10) mX11_ask Q (L0 S) 26 [some (.ref 79), some (.int c1), some (.int (nI bt)), some (.int c3), none] [] s := by
    intro h w hh eh hw ew
    have k := h1 h w hh eh hw ew
    unfold AK at k
    refine rn I [] 99 ?_
    refine q_layAll I hS hA hW hB hX hd hr hN he eh hh (fun s1 N1 f1 w1 v1 => ?_)
    have k := k s1 N1 f1
    rcases (show bt = 0 ∨ bt = 1 by omega) with rfl | rfl
    · refine xbr_t rfl ?_
      rw [if_pos rfl] at k
      exact q_askOne I hS (f1.FA hA) (f1.MW hW) hB w1 v1 k
    · refine xbr_f n10 ?_
      rw [if_neg (by decide)] at k
      refine q_askTwo I hS (f1.FA hA) (f1.MW hW) hB w1 v1 ?_
      have obb := ob_b (g := su2 f dr h) (N := 2 * f 0 12) hB (2 * f 0 12)
      cases eo : ob f (su2 f dr h) (2 * f 0 12) (2 * f 0 12) with
      | none =>
        rw [eo] at k
        refine xbr_t zm1 ?_
        have k : Q (some (.int (if w = 0 then -(nI 1) else -(nI 1)))) s1 := k
        rw [show (if w = 0 then -(nI 1) else -(nI 1)) = -(nI 1) by split <;> rfl] at k
        exact k
      | some p =>
        obtain ⟨p1, p2⟩ := obb p eo
        rw [eo] at k
        have k : Q (some (.int (if w = 0 then nI p.1 else nI p.2))) s1 := k
        have nz : ¬ nI 100 = nI 0 := by decide +kernel
        have dvv : nI (100 * p.1 + p.2) / nI 100 = nI p.1 := by rw [pk_div (by omega) (by decide) (by decide)]; congr 1; omega
        have rmm : nI (100 * p.1 + p.2) - nI (100 * p.1 + p.2) / nI 100 * nI 100 = nI p.2 := by rw [pk_rem (by omega) (by decide) (by decide)]; congr 1; omega
        refine xbr_f (zn0 (by omega)) ?_
        rcases (show w = 0 ∨ w = 1 by omega) with rfl | rfl
        · refine xbr_t ew ?_
          rw [if_pos rfl, ← dvv] at k
          exact ⟨nz, k⟩
        · refine xbr_f (by rw [ew]; exact n10) ?_
          rw [if_neg (by decide), ← rmm] at k
          exact ⟨nz, k⟩
  refine inX11_ask I (L0ok hS) ?_
  refine rn I [26] 99 ?_
  refine q_isHour I hS (fun h hh eh => ?_) (fun hc => xbr_t rfl (h0 (fun ⟨x, _, a, b, _⟩ => hc x a b)))
  refine xbr_f n10 ?_
  rcases (show bt = 0 ∨ bt = 1 by omega) with rfl | rfl
  · refine xbr_t rfl ?_
    refine q_isIn I hS (fun b1 b2 => ?_) (fun b => ?_)
    · obtain ⟨w, _, hw, ew⟩ := rng (n := 0) (by decide) (by decide) b1 b2
      exact xbr_f n10 (T h w hh eh hw ew)
    · refine xbr_t rfl (h0 (fun ⟨_, w, _, _, x, y⟩ => ?_))
      rw [y] at b
      exact b.elim (zn0 (by omega)) (znl x (by omega))
  · refine xbr_f n10 ?_
    refine q_isIn I hS (fun b1 b2 => ?_) (fun b => ?_)
    · obtain ⟨w, _, hw, ew⟩ := rng (n := 1) (by decide) (by decide) b1 b2
      exact xbr_f n10 (T h w hh eh hw ew)
    · refine xbr_t rfl (h0 (fun ⟨_, w, _, _, x, y⟩ => ?_))
      rw [y] at b
      exact b.elim (zn0 (by omega)) (znl x (by omega))
end RASK
