/-! the reference's spied -/
section MSPIED
variable {X : xXT} {P : xPT} {d S : Nat} {s : xS} {Q : xQ} {f : Nm} {ru : Int32} {e : Nat → Nat} {dn : Nat → Nat → Option Dn} {dr : Nat → Option Dn}
theorem q_spied (I : xRl X P) (hS : S ≤ 128) (hA : FA (s.1 80) f ru) (hW : MW s f) (hB : FB f) (hX : TXM s (f 0 15) dn) (hd : ∀ t, t < f 0 15 → ∀ c, c < 4 → TDs c (dn t c)) (hr : rdn ru (f 0 15) dn dr) (hN : NMd s e) (he : EB e) {c1 c2 c3 c4 c5 : Int32} (h1 : ∀ sd st hh n k j, okS f c1 c2 c3 c4 c5 sd st hh n k → j < f 0 12 → f 4 j = 0 → cfr f j = k % cfr f (f 0 12) → ∀ s' : xS, (∃ e', NMd s' e' ∧ EB e') → fW s s' → Q (some (.int (nI (spv f dr sd st hh k j)))) s') (h0 : (∀ sd st hh n k, ¬ okS f c1 c2 c3 c4 c5 sd st hh n k) → ∀ s' : xS, (∃ e', NMd s' e' ∧ EB e') → fW s s' → Q (some (.int (-(nI 1)))) s') : P (d + 7) (L0 S) 211 [.ref 79, .int c1, .int c2, .int c3, .int c4, .int c5] s Q := by
  have hn8 := hB.1.1
  have hcc := hB.cc16
  have fl := cfr_le f (f 0 12)
  have F42 : (∀ sd st hh n k, ¬ okS f c1 c2 c3 c4 c5 sd st hh n k) → X (d + 6) mX11_spied Q (L0 S) 42 [some (.ref 79), some (.int c1), some (.int c2), some (.int c3), some (.int c4), some (.int c5), none, none, none, none, none] [] s := by
    intro hn
    refine rn I [] 99 ?_
    exact h0 hn s ⟨e, hN, he⟩ fW.rf
  refine inX11_spied I (L0ok hS) ?_
  refine rn I [42, 57] 99 ?_
  refine q_isIn I hS (fun q1 q2 => ?_) (fun q => ?_)
  · obtain ⟨sd, _, sd9, rfl⟩ := rng (n := 9999) (by decide) (by decide) q1 q2
    refine xbr_f n10 ?_
    refine q_isState I hS hW hB (fun st hst est => ?_) (fun hc => ?_)
    · subst est
      refine xbr_f n10 ?_
      refine q_isHour I hS (fun hh hhh eh => ?_) (fun hc => ?_)
      · subst eh
        refine xbr_f n10 ?_
        refine q_isIn I hS (fun q3 q4 => ?_) (fun q => ?_)
        · obtain ⟨n, n1, n10', rfl⟩ := rng (n := 10) (by decide) (by decide) q3 q4
          refine xbr_f n10 ?_
          have nf : n * cfr f (f 0 12) ≤ 10 * 8 := Nat.mul_le_mul n10' (by omega)
          refine xbr_c (fun q => F42 (fun _ _ _ n' k ⟨_, _, _, _, _, _, a, b, c, g, h⟩ => by
            have : n' * cfr f (f 0 12) ≤ 10 * 8 := Nat.mul_le_mul b (by omega)
            rw [h] at q
            exact zn0 (by omega) q)) (fun q5 => ?_)
          obtain ⟨k, hk31, rfl⟩ := nI_of (x := c5) (by rw [← nI_0]; exact q5)
          have hok : ∀ j, j < f 0 12 → f 4 j = 0 → k < n * cfr f (f 0 12) → cfr f j = k % cfr f (f 0 12) → ∀ s' : xS, (∃ e', NMd s' e' ∧ EB e') → fW s s' → Q (some (.int (nI (spv f dr sd st hh k j)))) s' := fun j a b g c => h1 sd st hh n k j ⟨sd9, rfl, hst, rfl, hhh, rfl, n1, n10', rfl, g, rfl⟩ a b c
          have hno : n * cfr f (f 0 12) ≤ k → ∀ s' : xS, (∃ e', NMd s' e' ∧ EB e') → fW s s' → Q (some (.int (-(nI 1)))) s' := fun hle => h0 (fun _ _ _ n' k' ⟨_, _, _, _, _, _, a, b, c, g, h⟩ => by
            have b1 : n' * cfr f (f 0 12) ≤ 10 * 8 := Nat.mul_le_mul b (by omega)
            have e1 := zeq (by omega) (by omega) c
            have e2 := zeq hk31 (by omega) h
            rw [← e1, ← e2] at g
            omega)
          clear h0 F42 h1
          have d0 : nI sd * nI 3 + nI 1 = nI (sd * 3 + 1) := by rw [nml, nad]
          have db := drw_b (d0 := sd * 3 + 1) (by omega)
          have inner : ∀ (r : Nat), r < n → (∀ (s3 : xS) (o10 : Option Value), (∃ e', NMd s3 e' ∧ EB e') → fW s s3 → (r + 1) * cfr f (f 0 12) ≤ k → X (d + 6) mX11_spied Q (L0 S) 57 [some (.ref 79), some (.int (nI sd)), some (.int (nI st)), some (.int (nI hh)), some (.int (nI n)), some (.int (nI k)), some (.int (nI (drw (sd * 3 + 1) ((r + 1) * cfr f (f 0 12))))), some (.int (nI ((r + 1) * cfr f (f 0 12)))), some (.int (nI (r + 1))), some (.int (nI (f 0 12))), o10] [] s3) →
              ∀ m i, i + m = f 0 12 → ∀ (s3 : xS) (o10 : Option Value), (∃ e', NMd s3 e' ∧ EB e') → fW s s3 → r * cfr f (f 0 12) + cfr f i ≤ k → X (d + 6) mX11_spied Q (L0 S) 67 [some (.ref 79), some (.int (nI sd)), some (.int (nI st)), some (.int (nI hh)), some (.int (nI n)), some (.int (nI k)), some (.int (nI (drw (sd * 3 + 1) (r * cfr f (f 0 12) + cfr f i)))), some (.int (nI (r * cfr f (f 0 12) + cfr f i))), some (.int (nI r)), some (.int (nI i)), o10] [] s3 := by
            intro r hrn K m
            have rf : r * cfr f (f 0 12) ≤ 10 * 8 := Nat.mul_le_mul (by omega) (by omega)
            induction m with
            | zero =>
              intro i hi s3 o10 N3 f3 hle
              have hi : i = f 0 12 := hi
              subst hi
              have g0 : s3.1 80 0 = nI (f 0 12) := (f3.FA hA).2.2.1
              have kk := K s3 o10 N3 f3 (by rw [Nat.succ_mul]; exact hle)
              rw [Nat.succ_mul, n1s r] at kk
              refine rn I [57] 99 ?_
              refine ⟨0, ⟨by decide, rfl⟩, ?_⟩
              refine xbr_f (by rw [g0]; exact znl (Nat.le_refl _) (by omega)) ?_
              exact kk
            | succ m ih =>
              intro i hi s3 o10 ⟨e', N', E'⟩ f3 hle
              have A3 := f3.FA hA
              have g0 : s3.1 80 0 = nI (f 0 12) := A3.2.2.1
              have i8 : i < 8 := by omega
              have g4 : s3.1 80 (32 + 3 * i) = nI (f 4 i) := A3.1 4 i (by decide) i8
              have b4 : f 4 i < 2 := hB.2.1 4 i i8
              refine rn I [67, 165] 199 ?_
              refine ⟨0, ⟨by decide, rfl⟩, ?_⟩
              refine xbr_t (by rw [g0]; exact zlt (by omega) (by omega)) ?_
              refine q_scopeAt I hS (j := i) rfl ?_
              refine ⟨32 + 3 * i, ⟨by omega, by rw [nad]; congr 1; omega⟩, ?_⟩
              by_cases h4 : f 4 i = 0
              · refine xbr_f (by rw [g4, h4]; exact n01) ?_
                have cl : cfr f i < cfr f (f 0 12) := cfr_lt h4 (by omega)
                have g2 : s3.1 80 (30 + 3 * i) = nI (f 2 i) := A3.1 2 i (by decide) i8
                have b2 : f 2 i < cc f := hB.2.1 2 i i8
                have g3 : s3.1 80 (31 + 3 * i) = nI (f 3 i) := A3.1 3 i (by decide) i8
                have b3 : f 3 i < 2 := hB.2.1 3 i i8
                have hm : nI hh + nI r - (nI hh + nI r) / nI 24 * nI 24 = nI ((hh + r) % 24) := by rw [nad]; exact pk_rem (by omega) (by decide) (by decide)
                have h24 : (hh + r) % 24 < 24 := Nat.mod_lt _ (by decide)
                have z01 := fce01 (f := f) (st := st) (e := e') hB hst
                have E2 : EB (aie f i (f 2 i) (f 3 i) ((hh + r) % 24) (fce f st e')) := aie_b (by omega) (by omega) (by omega) (by omega) z01.1 z01.2 (fce_b hB hst E')
                refine q_scopeAt I hS (j := i) rfl ?_
                refine ⟨30 + 3 * i, ⟨by omega, rfl⟩, ?_⟩
                refine q_scopeAt I hS (j := i) rfl ?_
                refine ⟨31 + 3 * i, ⟨by omega, by rw [nad]; congr 1; omega⟩, ?_⟩
                refine And.intro (by decide +kernel) ?_
                rw [g2, g3, hm]
                refine q_nameBy I hS A3 (f3.MW hW) hB N' hst b2 (fun s4 N4 f4 => ?_)
                have f4' := f3.tr f4
                refine q_seen I hS (f4'.FA hA) hB (f4'.TX hX) hd hr (by omega) N4 E2 (fun s5 f5 => ?_)
                have f5' := f4'.tr f5.w
                refine And.intro (by decide +kernel) ?_
                refine q_slip I hS (f5'.FA hA) hB (f5'.TX hX) hd hr (N4.same f5) E2 (fun s6 f6 => ?_)
                have f6' := f5'.tr f6.w
                have N6 := (N4.same f5).same f6
                have dbi := db (r * cfr f (f 0 12) + cfr f i)
                have r10 : nI (drw (sd * 3 + 1) (r * cfr f (f 0 12) + cfr f i)) - nI (drw (sd * 3 + 1) (r * cfr f (f 0 12) + cfr f i)) / nI 10 * nI 10 = nI (drw (sd * 3 + 1) (r * cfr f (f 0 12) + cfr f i) % 10) := pk_rem (by omega) (by decide) (by decide)
                have lb : lv f dr st i (f 2 i) (f 3 i) ((hh + r) % 24) ≤ 9 := lv_le
                have sb : sv f dr st i (f 2 i) (f 3 i) ((hh + r) % 24) ≤ 9 := sv_le
                have nk : ∀ x : Int32, x = nI (spo (sv f dr st i (f 2 i) (f 3 i) ((hh + r) % 24)) (lv f dr st i (f 2 i) (f 3 i) ((hh + r) % 24)) (drw (sd * 3 + 1) (r * cfr f (f 0 12) + cfr f i))) → X (d + 6) mX11_spied Q (L0 S) 165 [some (.ref 79), some (.int (nI sd)), some (.int (nI st)), some (.int (nI hh)), some (.int (nI n)), some (.int (nI k)), some (.int (nI (drw (sd * 3 + 1) (r * cfr f (f 0 12) + cfr f i)))), some (.int (nI (r * cfr f (f 0 12) + cfr f i))), some (.int (nI r)), some (.int (nI i)), some (.int x)] [] s6 := by
                  intro x hx
                  refine rn I [67] 99 ?_
                  refine And.intro (by decide +kernel) ?_
                  by_cases hk : r * cfr f (f 0 12) + cfr f i = k
                  · refine xbr_t (by rw [hk]) ?_
                    have hd1 : k / cfr f (f 0 12) = r := by
                      rw [← hk, Nat.mul_comm, Nat.mul_add_div (by omega), Nat.div_eq_of_lt cl, Nat.add_zero]
                    have hm1 : k % cfr f (f 0 12) = cfr f i := by
                      rw [← hk, Nat.mul_comm, Nat.mul_add_mod, Nat.mod_eq_of_lt cl]
                    have hlt : k < n * cfr f (f 0 12) := by
                      have : (r + 1) * cfr f (f 0 12) ≤ n * cfr f (f 0 12) := Nat.mul_le_mul_right _ hrn
                      rw [Nat.succ_mul] at this
                      omega
                    have q := hok i (by omega) h4 hlt hm1.symm s6 ⟨_, N6, E2⟩ f6'
                    unfold spv at q
                    rw [hd1, ← hk, ← hx] at q
                    exact q
                  · refine xbr_f (zne hk (by omega) hk31) ?_
                    have q := ih (i + 1) (by omega) s6 (some (.int x)) ⟨_, N6, E2⟩ f6' (by rw [cfq_s h4]; omega)
                    rw [cfq_s h4, ← Nat.add_assoc, show drw (sd * 3 + 1) (r * cfr f (f 0 12) + cfr f i + 1) = (drw (sd * 3 + 1) (r * cfr f (f 0 12) + cfr f i) * 179 + 83) % 30071 from rfl, ← stp30 dbi, n1s (r * cfr f (f 0 12) + cfr f i), n1s i] at q
                    exact q
                by_cases hc : drw (sd * 3 + 1) (r * cfr f (f 0 12) + cfr f i) % 10 < lv f dr st i (f 2 i) (f 3 i) ((hh + r) % 24)
                · refine xbr_t (by rw [r10]; exact zlt hc (by omega)) ?_
                  refine And.intro (by decide +kernel) ?_
                  refine nk _ ?_
                  unfold spo
                  rw [if_pos hc, nad]
                  exact pk_rem (by omega) (by decide) (by decide)
                · refine xbr_f (by rw [r10]; exact znl (by omega) (by omega)) ?_
                  refine nk _ ?_
                  unfold spo
                  rw [if_neg hc]
              · refine xbr_t (by rw [g4, show f 4 i = 1 by omega]) ?_
                have q := ih (i + 1) (by omega) s3 o10 ⟨e', N', E'⟩ f3 (by rw [cfr_n h4]; exact hle)
                rw [cfr_n h4, n1s i] at q
                exact q
          have outer : ∀ m r, r + m = n → ∀ (s3 : xS) (o9 o10 : Option Value), (∃ e', NMd s3 e' ∧ EB e') → fW s s3 → r * cfr f (f 0 12) ≤ k → X (d + 6) mX11_spied Q (L0 S) 57 [some (.ref 79), some (.int (nI sd)), some (.int (nI st)), some (.int (nI hh)), some (.int (nI n)), some (.int (nI k)), some (.int (nI (drw (sd * 3 + 1) (r * cfr f (f 0 12))))), some (.int (nI (r * cfr f (f 0 12)))), some (.int (nI r)), o9, o10] [] s3 := by
            intro m
            induction m with
            | zero =>
              intro r hrn s3 o9 o10 N3 f3 hle
              have hrn : r = n := hrn
              subst hrn
              refine rn I [] 99 ?_
              refine xbr_f (znl (Nat.le_refl _) (by omega)) ?_
              exact hno hle s3 N3 f3
            | succ m ih =>
              intro r hrn s3 o9 o10 N3 f3 hle
              refine rn I [67] 99 ?_
              refine xbr_t (zlt (by omega) (by omega)) ?_
              exact inner r (by omega) (fun s4 o10 N4 f4 h4 => ih (r + 1) (by omega) s4 _ o10 N4 f4 h4) (f 0 12) 0 (by omega) s3 o10 N3 f3 hle
          have q := outer n 0 (by omega) s none none ⟨e, hN, he⟩ fW.rf (by rw [Nat.zero_mul]; exact Nat.zero_le _)
          rw [Nat.zero_mul, show drw (sd * 3 + 1) 0 = sd * 3 + 1 from rfl, ← d0] at q
          exact q
        · refine xbr_t rfl ?_
          refine F42 (fun _ _ _ n k ⟨_, _, _, _, _, _, a, b, c, _⟩ => ?_)
          rw [c] at q
          exact q.elim (znl a (by omega)) (znl b (by omega))
      · refine xbr_t rfl ?_
        exact F42 (fun _ _ x _ _ ⟨_, _, _, _, a, b, _⟩ => hc x a b)
    · refine xbr_t rfl ?_
      exact F42 (fun _ x _ _ _ ⟨_, _, a, b, _⟩ => hc x a b)
  · refine xbr_t rfl ?_
    refine F42 (fun sd _ _ _ _ ⟨a, b, _⟩ => ?_)
    rw [b] at q
    exact q.elim (zn0 (by omega)) (znl a (by omega))
end MSPIED
