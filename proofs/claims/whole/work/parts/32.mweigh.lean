/-! the reference's priors, sights and weights -/
theorem fW.FA {a b : xS} {f : Nm} {ru : Int32} (h : fW a b) (hA : FA (a.1 80) f ru) : FA (b.1 80) f ru := by rw [h.1 80 (by decide) (by decide)]; exact hA
theorem fW.MW {a b : xS} {f : Nm} (h : fW a b) (hA : MW a f) : MW b f := ⟨by rw [h.1 79 (by decide) (by decide)]; exact hA.1, by rw [h.1 79 (by decide) (by decide)]; exact hA.2⟩
theorem fW.TX {a b : xS} {n : Nat} {dn : Nat → Nat → Option Dn} (h : fW a b) (hX : TXM a n dn) : TXM b n dn := hX.same (h.1 82 (by decide) (by decide))
theorem NMd.same {a b : xS} {e : Nat → Nat} (h : fV a b) (hN : NMd a e) : NMd b e := fun k hk => by rw [h.1 85 (by decide)]; exact hN k hk
section MWEIGH
variable {X : xXT} {P : xPT} {d S : Nat} {s : xS} {Q : xQ} {f : Nm} {ru : Int32} {e : Nat → Nat} {dn : Nat → Nat → Option Dn} {dr : Nat → Option Dn}
theorem q_prior (I : xRl X P) (hS : S ≤ 128) (hA : FA (s.1 80) f ru) (hW : MW s f) (hB : FB f) (hX : TXM s (f 0 15) dn) (hd : ∀ t, t < f 0 15 → ∀ c, c < 4 → TDs c (dn t c)) (hr : rdn ru (f 0 15) dn dr) (hN : NMd s e) (he : EB e) {c : Int32} (h1 : ∀ st, st < 8 * cc f → c = nI st → ∀ s' : xS, (∃ e', NMd s' e' ∧ EB e') → fW s s' → Q (some (.int (nI (pv f dr st)))) s') (h0 : (∀ st, st < 8 * cc f → c ≠ nI st) → Q (some (.int (-(nI 1)))) s) : P (d + 7) (L0 S) 188 [.ref 79, .int c] s Q := by
  refine inX11_prior I (L0ok hS) ?_
  refine rn I [] 99 ?_
  refine q_isState I hS hW hB (fun st hst est => ?_) (fun hc => ?_)
  · subst est
    refine xbr_f n10 ?_
    refine q_priorOf I hS hA hW hB hX hd hr hN he hst (fun s1 N1 f1 => ?_)
    rw [pv_e (rdn_td hr hd)]
    exact h1 st hst rfl s1 ⟨_, N1, fce_b hB hst he⟩ f1
  · refine xbr_t rfl ?_
    exact h0 hc
/-- a slip, once the names stand -/
theorem q_slip (I : xRl X P) (hS : S ≤ 128) (hA : FA (s.1 80) f ru) (hB : FB f) (hX : TXM s (f 0 15) dn) (hd : ∀ t, t < f 0 15 → ∀ c, c < 4 → TDs c (dn t c)) (hr : rdn ru (f 0 15) dn dr) {st n cell tu hr' : Nat} (hN : NMd s (aie f n cell tu hr' (fce f st e))) (he : EB (aie f n cell tu hr' (fce f st e))) (h : ∀ s' : xS, fV s s' → Q (some (.int (nI (lv f dr st n cell tu hr')))) s') : P (d + 5) (L0 S) 181 [.ref 79, .int (nI 2), .int (nI 9), .int (nI 0)] s Q := by
  have ov : odv (dr 2) 9 0 (aie f n cell tu hr' (fce f st e)) = lv f dr st n cell tu hr' := by
    rw [← lv_e (rdn_td hr hd) e]
    cases dr 2 <;> rfl
  rw [← ov] at h
  exact q_sumOf I hS hA hB hX hd hr hN he (by decide) (by decide) h
theorem q_seen (I : xRl X P) (hS : S ≤ 128) (hA : FA (s.1 80) f ru) (hB : FB f) (hX : TXM s (f 0 15) dn) (hd : ∀ t, t < f 0 15 → ∀ c, c < 4 → TDs c (dn t c)) (hr : rdn ru (f 0 15) dn dr) {st n cell tu hr' : Nat} (hst : st < 1000) (hN : NMd s (aie f n cell tu hr' (fce f st e))) (he : EB (aie f n cell tu hr' (fce f st e))) (h : ∀ s' : xS, fV s s' → Q (some (.int (nI (sv f dr st n cell tu hr')))) s') : P (d + 6) (L0 S) 186 [.ref 79, .int (nI st)] s Q := by
  refine q_seenBy I hS hA hB hX hd hr hN he hst rfl (fun s1 f1 => ?_)
  rw [sv_e (rdn_td hr hd)]
  exact h s1 f1
theorem q_sees (I : xRl X P) (hS : S ≤ 128) (hA : FA (s.1 80) f ru) (hW : MW s f) (hB : FB f) (hX : TXM s (f 0 15) dn) (hd : ∀ t, t < f 0 15 → ∀ c, c < 4 → TDs c (dn t c)) (hr : rdn ru (f 0 15) dn dr) (hN : NMd s e) (he : EB e) {c1 c2 c3 : Int32} {tu sl : Nat} (htu : tu < 2) (hsl : sl < 2) (h1 : ∀ n st hh, n < f 0 12 → c1 = nI n → st < 8 * cc f → c2 = nI st → hh < 24 → c3 = nI hh → ∀ s' : xS, (∃ e', NMd s' e' ∧ EB e') → fW s s' → Q (some (.int (nI (if sl = 1 then lv f dr st n (f 2 n) tu hh else sv f dr st n (f 2 n) tu hh)))) s') (h0 : (¬ ∃ n st hh, n < f 0 12 ∧ c1 = nI n ∧ st < 8 * cc f ∧ c2 = nI st ∧ hh < 24 ∧ c3 = nI hh) → Q (some (.int (-(nI 1)))) s) : P (d + 7) (L0 S) 189 [.ref 79, .int c1, .int (nI tu), .int c2, .int c3, .int (nI sl)] s Q := by
  have hn8 := hB.1.1
  have hcc := hB.cc16
  refine inX11_sees I (L0ok hS) ?_
  refine rn I [47] 99 ?_
  refine q_isScope I hS hA hB (fun n hn en => ?_) (fun hc => ?_)
  · subst en
    refine xbr_f n10 ?_
    refine q_isState I hS hW hB (fun st hst est => ?_) (fun hc => ?_)
    · subst est
      refine xbr_f n10 ?_
      refine q_isHour I hS (fun hh hhh eh => ?_) (fun hc => ?_)
      · subst eh
        refine xbr_f n10 ?_
        have g2 : s.1 80 (30 + 3 * n) = nI (f 2 n) := hA.1 2 n (by decide) (by show n < 8; omega)
        have b2 : f 2 n < cc f := hB.2.1 2 n (by show n < 8; omega)
        have z01 := fce01 (f := f) (st := st) (e := e) hB hst
        refine q_scopeAt I hS (j := n) rfl ?_
        refine ⟨30 + 3 * n, ⟨by omega, rfl⟩, ?_⟩
        have T : X (d + 6) mX11_sees Q (L0 S) 47 [some (.ref 79), some (.int (nI n)), some (.int (nI tu)), some (.int (nI st)), some (.int (nI hh)), some (.int (nI sl))] [.int (nI tu), .int (s.1 80 (30 + 3 * n)), .int (nI n), .int (nI st), .ref 79] s := by
          rw [g2]
          refine rn I [] 99 ?_
          refine q_nameBy I hS hA hW hB hN hst b2 (fun s2 N2 f2 => ?_)
          have E2 : EB (aie f n (f 2 n) tu hh (fce f st e)) := aie_b (by omega) (by omega) (by omega) (by omega) z01.1 z01.2 (fce_b hB hst he)
          rcases (show sl = 0 ∨ sl = 1 by omega) with rfl | rfl
          · refine xbr_t rfl ?_
            refine q_seen I hS (f2.FA hA) hB (f2.TX hX) hd hr (by omega) N2 E2 (fun s3 f3 => ?_)
            have k := h1 n st hh hn rfl hst rfl hhh rfl s3 ⟨_, N2.same f3, E2⟩ (f2.tr f3.w)
            rw [if_neg (by decide)] at k
            exact k
          · refine xbr_f n10 ?_
            refine q_slip I hS (f2.FA hA) hB (f2.TX hX) hd hr N2 E2 (fun s3 f3 => ?_)
            have k := h1 n st hh hn rfl hst rfl hhh rfl s3 ⟨_, N2.same f3, E2⟩ (f2.tr f3.w)
            rw [if_pos rfl] at k
            exact k
        rcases (show tu = 0 ∨ tu = 1 by omega) with rfl | rfl
        · exact xbr_t rfl T
        · exact xbr_f n10 T
      · refine xbr_t rfl ?_
        exact h0 (fun ⟨_, _, x, _, _, _, _, q1, q2⟩ => hc x q1 q2)
    · refine xbr_t rfl ?_
      exact h0 (fun ⟨_, x, _, _, _, q1, q2, _, _⟩ => hc x q1 q2)
  · refine xbr_t rfl ?_
    exact h0 (fun ⟨x, _, _, q1, q2, _, _, _, _⟩ => hc x q1 q2)
theorem q_weightOf (I : xRl X P) (hS : S ≤ 128) (hA : FA (s.1 80) f ru) (hW : MW s f) (hB : FB f) (hX : TXM s (f 0 15) dn) (hd : ∀ t, t < f 0 15 → ∀ c, c < 4 → TDs c (dn t c)) (hr : rdn ru (f 0 15) dn dr) (hN : NMd s e) (he : EB e) {st k : Nat} (hst : st < 8 * cc f) (hk : k ≤ 10) (h : ∀ s' : xS, (∃ e', NMd s' e' ∧ EB e') → fW s s' → Q (some (.long (lN (wt f dr st k)))) s') : P (d + 8) (L0 S) 193 [.ref 79, .int (nI st), .int (nI k)] s Q := by
  have hcc := hB.cc16
  have loop : ∀ m i, i + m = k → ∀ (s' : xS) (o6 o7 : Option Value), (∃ e', NMd s' e' ∧ EB e') → fW s s' → X (d + 7) mX11_weightOf Q (L0 S) 10 [some (.ref 79), some (.int (nI st)), some (.int (nI k)), some (.long (lN (wt f dr st i))), none, some (.int (nI i)), o6, o7] [] s' := by
    intro m
    induction m with
    | zero =>
      intro i hi s' o6 o7 ⟨e', N', E'⟩ f'
      have hi : i = k := hi
      subst hi
      refine rn I [] 99 ?_
      refine xbr_f (znl (Nat.le_refl _) (by omega)) ?_
      exact h s' ⟨_, N', E'⟩ f'
    | succ m ih =>
      intro i hi s' o6 o7 ⟨e', N', E'⟩ f'
      have A' := f'.FA hA
      have hi10 : i < 10 := by omega
      have g5 : s'.1 80 (60 + 4 * i) = nI (f 5 i) := A'.1 5 i (by decide) hi10
      have b5 : f 5 i < 8 := hB.2.1 5 i hi10
      have g2 : s'.1 80 (30 + 3 * f 5 i) = nI (f 2 (f 5 i)) := A'.1 2 (f 5 i) (by decide) b5
      have b2 : f 2 (f 5 i) < cc f := hB.2.1 2 (f 5 i) b5
      have g6 : s'.1 80 (61 + 4 * i) = nI (f 6 i) := A'.1 6 i (by decide) hi10
      have b6 : f 6 i < 2 := hB.2.1 6 i hi10
      have g7 : s'.1 80 (62 + 4 * i) = nI (f 7 i) := A'.1 7 i (by decide) hi10
      have b7 : f 7 i < 24 := hB.2.1 7 i hi10
      have b8 : f 8 i < 10 := hB.2.1 8 i hi10
      have ix : nI 60 + nI 4 * nI i = nI (60 + 4 * i) := by rw [nml, nad]
      have z01 := fce01 (f := f) (st := st) (e := e') hB hst
      have E2 : EB (aie f (f 5 i) (f 2 (f 5 i)) (f 6 i) (f 7 i) (fce f st e')) := aie_b (by omega) (by omega) (by omega) (by omega) z01.1 z01.2 (fce_b hB hst E')
      refine rn I [10] 99 ?_
      refine xbr_t (zlt (by omega) (by omega)) ?_
      refine ⟨60 + 4 * i, ⟨by omega, ix⟩, ?_⟩
      refine ⟨60 + 4 * i, ⟨by omega, ix⟩, ?_⟩
      refine q_scopeAt I hS (j := f 5 i) g5 ?_
      refine ⟨30 + 3 * f 5 i, ⟨by omega, rfl⟩, ?_⟩
      refine ⟨61 + 4 * i, ⟨by omega, by rw [ix, nad]; congr 1; omega⟩, ?_⟩
      refine ⟨62 + 4 * i, ⟨by omega, by rw [ix, nad]; congr 1; omega⟩, ?_⟩
      rw [g5, g2, g6, g7]
      refine q_nameBy I hS A' (f'.MW hW) hB N' hst b2 (fun s1 N1 f1 => ?_)
      have f1' := f'.tr f1
      refine q_seen I hS (f1'.FA hA) hB (f1'.TX hX) hd hr (by omega) N1 E2 (fun s2 f2 => ?_)
      have f2' := f1'.tr f2.w
      refine q_slip I hS (f2'.FA hA) hB (f2'.TX hX) hd hr (N1.same f2) E2 (fun s3 f3 => ?_)
      have f3' := f2'.tr f3.w
      have g8 : s3.1 80 (63 + 4 * i) = nI (f 8 i) := (f3'.FA hA).1 8 i (by decide) hi10
      refine ⟨63 + 4 * i, ⟨by omega, by rw [ix, nad]; congr 1; omega⟩, ?_⟩
      rw [g8]
      have sl : sv f dr st (f 5 i) (f 2 (f 5 i)) (f 6 i) (f 7 i) ≤ 9 := sv_le
      refine q_often I hS (by omega) lv_le (by omega) ?_
      have sb : shr f dr st i ≤ 10 := oft_le lv_le
      have z := ih (i + 1) (by omega) s3 (some (.int (nI 60 + nI 4 * nI i))) (some (.int (nI (sv f dr st (f 5 i) (f 2 (f 5 i)) (f 6 i) (f 7 i))))) ⟨_, (N1.same f2).same f3, E2⟩ f3'
      rw [n1s i, show wt f dr st (i + 1) = wt f dr st i * shr f dr st i from rfl, ← lml, ← nil (n := shr f dr st i) (by omega)] at z
      exact z
  refine inX11_weightOf I (L0ok hS) ?_
  refine rn I [10] 99 ?_
  refine q_priorOf I hS hA hW hB hX hd hr hN he hst (fun s1 N1 f1 => ?_)
  rw [pv_e (rdn_td hr hd)]
  have pb : pv f dr st ≤ 99 := pv_le
  have z := loop k 0 (by omega) s1 none none ⟨_, N1, fce_b hB hst he⟩ f1
  rw [show wt f dr st 0 = pv f dr st from rfl, ← nil (by omega)] at z
  exact z
theorem q_weight (I : xRl X P) (hS : S ≤ 128) (hA : FA (s.1 80) f ru) (hW : MW s f) (hB : FB f) (hX : TXM s (f 0 15) dn) (hd : ∀ t, t < f 0 15 → ∀ c, c < 4 → TDs c (dn t c)) (hr : rdn ru (f 0 15) dn dr) (hN : NMd s e) (he : EB e) {c1 c2 : Int32} (h1 : ∀ st k, st < 8 * cc f → c1 = nI st → k ≤ f 0 13 → c2 = nI k → ∀ s' : xS, (∃ e', NMd s' e' ∧ EB e') → fW s s' → Q (some (.long (lN (wt f dr st k)))) s') (h0 : (¬ ∃ st k, st < 8 * cc f ∧ c1 = nI st ∧ k ≤ f 0 13 ∧ c2 = nI k) → Q (some (.long (-(lN 1)))) s) : P (d + 9) (L0 S) 194 [.ref 79, .int c1, .int c2] s Q := by
  have hn := hB.1.2.1
  have e3 : s.1 80 3 = nI (f 0 13) := hA.2.2.2.2.2.1
  have es : nI (f 0 13) = nI (f 0 13 + 1) - nI 1 := by rw [nsb (by omega)]; rfl
  refine inX11_weight I (L0ok hS) ?_
  refine rn I [] 99 ?_
  refine q_isState I hS hW hB (fun st hst est => ?_) (fun hc => ?_)
  · subst est
    refine xbr_f n10 ?_
    refine ⟨3, ⟨by decide, rfl⟩, ?_⟩
    refine q_isIn I hS (fun a1 a2 => ?_) (fun a => ?_)
    · rw [e3, es] at a2
      obtain ⟨k, hk, rfl⟩ := rm1 (by omega) a1 a2
      refine xbr_f n10 ?_
      exact q_weightOf I hS hA hW hB hX hd hr hN he hst (by omega) (h1 st k hst rfl (by omega) rfl)
    · rw [e3, es] at a
      refine xbr_t rfl ?_
      exact h0 (fun ⟨_, x, _, _, q1, q2⟩ => rm2 (by omega) a x (by omega) q2)
  · refine xbr_t rfl ?_
    exact h0 (fun ⟨x, _, q1, q2, _, _⟩ => hc x q1 q2)
end MWEIGH
