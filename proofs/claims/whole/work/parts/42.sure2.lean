/-! the class's sureByTwo -/
section SURE2
variable {X : xXT} {P : xPT} {d S : Nat} {s : xS} {Q : xQ} {g : Nat → Nat}
theorem m_vr27 (I : xRl X P) (hS : S ≤ 128) {j j2 st : Nat} {o4 o5 : Option Value} (hj : j < 16) (hst : st < S) (k : X (d + 3) mX6_sureByTwo Q (L0 S) 35 [some (.ref 59), some (.int (nI j)), some (.int (nI j2)), some (.int (nI st)), o4, o5] [.int (s.1 (63 + j) st)] s) : X (d + 3) mX6_sureByTwo Q (L0 S) 27 [some (.ref 59), some (.int (nI j)), some (.int (nI j2)), some (.int (nI st)), o4, o5] [] s := by
  rcases h16 hj with rfl | rfl | rfl | rfl | rfl | rfl | rfl | rfl | rfl | rfl | rfl | rfl | rfl | rfl | rfl | rfl
  all_goals
    refine rn I [35] 99 ?_
    refine ⟨_, ⟨hj, rfl⟩, ?_⟩
    exact ⟨st, ⟨hst, rfl⟩, k⟩
theorem m_vr40 (I : xRl X P) (hS : S ≤ 128) {j j2 st : Nat} {o4 o5 : Option Value} (hj : j < 16) (hst : st < S) (k : X (d + 3) mX6_sureByTwo Q (L0 S) 48 [some (.ref 59), some (.int (nI j)), some (.int (nI j2)), some (.int (nI st)), o4, o5] [.int (s.1 (63 + j) st)] s) : X (d + 3) mX6_sureByTwo Q (L0 S) 40 [some (.ref 59), some (.int (nI j)), some (.int (nI j2)), some (.int (nI st)), o4, o5] [] s := by
  rcases h16 hj with rfl | rfl | rfl | rfl | rfl | rfl | rfl | rfl | rfl | rfl | rfl | rfl | rfl | rfl | rfl | rfl
  all_goals
    refine rn I [48] 99 ?_
    refine ⟨_, ⟨hj, rfl⟩, ?_⟩
    exact ⟨st, ⟨hst, rfl⟩, k⟩
theorem m_vr59 (I : xRl X P) (hS : S ≤ 128) {j j2 st : Nat} {x : Value} {o4 o5 : Option Value} (hj : j2 < 16) (hst : st < S) (k : X (d + 3) mX6_sureByTwo Q (L0 S) 67 [some (.ref 59), some (.int (nI j)), some (.int (nI j2)), some (.int (nI st)), o4, o5] [.int (s.1 (63 + j2) st), x, .ref 59] s) : X (d + 3) mX6_sureByTwo Q (L0 S) 59 [some (.ref 59), some (.int (nI j)), some (.int (nI j2)), some (.int (nI st)), o4, o5] [x, .ref 59] s := by
  rcases h16 hj with rfl | rfl | rfl | rfl | rfl | rfl | rfl | rfl | rfl | rfl | rfl | rfl | rfl | rfl | rfl | rfl
  all_goals
    refine rn I [67] 99 ?_
    refine ⟨_, ⟨hj, rfl⟩, ?_⟩
    exact ⟨st, ⟨hst, rfl⟩, k⟩
theorem m_vr92 (I : xRl X P) (hS : S ≤ 128) {j j2 st : Nat} {x : Value} {o4 o5 : Option Value} (hj : j2 < 16) (hst : st < S) (k : X (d + 3) mX6_sureByTwo Q (L0 S) 100 [some (.ref 59), some (.int (nI j)), some (.int (nI j2)), some (.int (nI st)), o4, o5] [.int (s.1 (63 + j2) st), x, .ref 59] s) : X (d + 3) mX6_sureByTwo Q (L0 S) 92 [some (.ref 59), some (.int (nI j)), some (.int (nI j2)), some (.int (nI st)), o4, o5] [x, .ref 59] s := by
  rcases h16 hj with rfl | rfl | rfl | rfl | rfl | rfl | rfl | rfl | rfl | rfl | rfl | rfl | rfl | rfl | rfl | rfl
  all_goals
    refine rn I [100] 99 ?_
    refine ⟨_, ⟨hj, rfl⟩, ?_⟩
    exact ⟨st, ⟨hst, rfl⟩, k⟩
theorem m_sureByTwo (I : xRl X P) (hS : S ≤ 128) {n : Nat} (hSS : S = n) (e59 : s.1 59 2 = nI S) {sn sl sn' sl' : Nat → Nat} {j j2 : Nat} (hj : j < 16) (hj2 : j2 < 16) (hW : WC s n g) (hg : ∀ i, g i ≤ 990000000000) (hV : VV s n j g sn sl) (hV2 : VV s n j2 g sn' sl') (hs : ∀ i, sn i ≤ 9) (hl : ∀ i, sl i ≤ 9) (hs2 : ∀ i, sn' i ≤ 9) (hl2 : ∀ i, sl' i ≤ 9) (h : ∀ s' : xS, fG s s' → Q (some (.long (lN (sr2 g sn sl sn' sl' n)))) s') : P (d + 4) (L0 S) 71 [.ref 59, .int (nI j), .int (nI j2)] s Q := by
  subst hSS
  have nz : ¬ nI 10 = nI 0 := by decide +kernel
  have hb : ∀ t i, g i * oft (sn i) (sl i) (t / 10) * oft (sn' i) (sl' i) (t % 10) ≤ 990000000000 * 10 * 10 := fun t i => Nat.mul_le_mul (Nat.mul_le_mul (hg i) (oft_le (hl i))) (oft_le (hl2 i))
  have loop : ∀ m i, i + m = S → ∀ (s' : xS) (o4 o5 : Option Value), GR s' 100 (fun t => mxs (fun st => g st * oft (sn st) (sl st) (t / 10) * oft (sn' st) (sl' st) (t % 10)) i) → fG s s' → X (d + 3) mX6_sureByTwo Q (L0 S) 8 [some (.ref 59), some (.int (nI j)), some (.int (nI j2)), some (.int (nI i)), o4, o5] [] s' := by
    intro m
    induction m with
    | zero =>
      intro i hi s' o4 o5 G' f'
      have hi : i = S := hi
      subst hi
      have es : s'.1 59 2 = nI i := by rw [f'.1]; exact e59
      refine rn I [] 99 ?_
      refine xbr_f (by rw [es]; exact znl (Nat.le_refl _) (by omega)) ?_
      exact m_sumG I hS (by decide) G' (h s' f')
    | succ m ih =>
      intro i hi s' o4 o5 G' f'
      have es : s'.1 59 2 = nI S := by rw [f'.1]; exact e59
      have ew : s'.2 61 i = lN (g i) := by rw [f'.2 61 (by decide)]; exact hW i (by omega)
      have g62 : g i < 2 ^ 62 := Nat.lt_of_le_of_lt (hg i) (by decide)
      refine rn I [8, 27] 99 ?_
      refine xbr_t (by rw [es]; exact zlt (by omega) (by omega)) ?_
      refine ⟨i, ⟨by omega, rfl⟩, ?_⟩
      by_cases hz : g i = 0
      · refine xbr_t (by rw [ew]; exact (lze g62).mpr hz) ?_
        have q := ih (i + 1) (by omega) s' o4 o5 (fun t ht => by
          rw [G' t ht]
          show _ = lN (mx2 _ (g i * _ * _))
          rw [hz, Nat.zero_mul, Nat.zero_mul, mx2_0]) f'
        rw [n1s i] at q
        exact q
      · refine xbr_f (by rw [ew]; exact fun q => hz ((lze g62).mp q)) ?_
        have hsi := hs i
        have hli := hl i
        have ev : s'.1 (63 + j) i = nI (10 * sn i + sl i) := by rw [f'.1]; exact hV i (by omega) hz
        have ev2 : s'.1 (63 + j2) i = nI (10 * sn' i + sl' i) := by rw [f'.1]; exact hV2 i (by omega) hz
        have dv : s'.1 (63 + j) i / nI 10 = nI (sn i) := by rw [ev, pk_div (by omega) (by decide) (by decide)]; congr 1; omega
        have rm : s'.1 (63 + j) i - s'.1 (63 + j) i / nI 10 * nI 10 = nI (sl i) := by rw [ev, pk_rem (by omega) (by decide) (by decide)]; congr 1; omega
        refine m_vr27 I hS hj (by omega) ?_
        refine rn I [40] 99 ?_
        refine And.intro nz ?_
        refine m_vr40 I hS hj (by omega) ?_
        refine rn I [59] 99 ?_
        refine And.intro nz ?_
        rw [dv]
        have rm' : s'.1 (63 + j) i - nI (sn i) * nI 10 = nI (sl i) := by rw [← dv]; exact rm
        rw [rm']
        refine m_vr59 I hS hj2 (by omega) ?_
        refine rn I [92] 99 ?_
        refine ⟨i, ⟨by omega, rfl⟩, ?_⟩
        have m10 : (sn i + 1) % 10 < 10 := Nat.mod_lt _ (by decide)
        have wb1 : g i * (10 - sl i) ≤ 990000000000 * 10 := Nat.mul_le_mul (hg i) (by omega)
        have wb2 : g i * sl i ≤ 990000000000 * 10 := Nat.mul_le_mul (hg i) (by omega)
        have r0 : ∀ t, mxs (fun st => g st * oft (sn st) (sl st) (t / 10) * oft (sn' st) (sl' st) (t % 10)) i ≤ 990000000000 * 10 * 10 := fun t => mxs_le (hb t) i
        refine m_raise I hS (n := 100) (t0 := 10 * sn i) (sn := sn' i) (sl := sl' i) (w := g i * (10 - sl i)) G' (by decide) (by omega) (hs2 i) (hl2 i) (by omega) (fun t => Nat.lt_of_le_of_lt (r0 t) (by decide)) (nml _ _) ev2 (by rw [ew, nsb (by omega), nil (by omega), lml]) (fun s1 G1 f1 => ?_)
        have f1' := f'.tr f1
        refine m_oneMore I hS (by omega) ?_
        refine m_vr92 I hS hj2 (by omega) ?_
        refine rn I [8] 99 ?_
        refine ⟨i, ⟨by omega, rfl⟩, ?_⟩
        have ew1 : s1.2 61 i = lN (g i) := by rw [f1'.2 61 (by decide)]; exact hW i (by omega)
        have ev21 : s1.1 (63 + j2) i = nI (10 * sn' i + sl' i) := by rw [f1'.1]; exact hV2 i (by omega) hz
        have r1 : ∀ t, rai (fun t => mxs (fun st => g st * oft (sn st) (sl st) (t / 10) * oft (sn' st) (sl' st) (t % 10)) i) (10 * sn i) (sn' i) (sl' i) (g i * (10 - sl i)) t < 2 ^ 62 := by
          intro t
          have a1 : g i * (10 - sl i) * (10 - sl' i) ≤ 990000000000 * 10 * 10 := Nat.mul_le_mul wb1 (by omega)
          have a2 : g i * (10 - sl i) * sl' i ≤ 990000000000 * 10 * 10 := Nat.mul_le_mul wb1 (by have := hl2 i; omega)
          have : rai (fun t => mxs (fun st => g st * oft (sn st) (sl st) (t / 10) * oft (sn' st) (sl' st) (t % 10)) i) (10 * sn i) (sn' i) (sl' i) (g i * (10 - sl i)) t ≤ 990000000000 * 10 * 10 := by
            unfold rai
            split
            · exact mx2_le (r0 t) a1
            · split
              · exact mx2_le (r0 t) a2
              · exact r0 t
          omega
        refine m_raise I hS (n := 100) (t0 := 10 * ((sn i + 1) % 10)) (sn := sn' i) (sl := sl' i) (w := g i * sl i) G1 (by decide) (by omega) (hs2 i) (hl2 i) (by omega) r1 (nml _ _) ev21 (by rw [ew1, nil (by omega), lml]) (fun s2 G2 f2 => ?_)
        have q := ih (i + 1) (by omega) s2 (some (.int (nI (sn i)))) (some (.int (nI (sl i)))) (fun t ht => by
          rw [G2 t ht]
          congr 1
          show _ = mx2 (mxs _ i) (g i * oft (sn i) (sl i) (t / 10) * oft (sn' i) (sl' i) (t % 10))
          have tt : t = 10 * (t / 10) + t % 10 := by omega
          have u10 : t % 10 < 10 := Nat.mod_lt _ (by decide)
          by_cases h1 : t / 10 = sn i
          · rw [rai_o (hs2 i) (by omega)]
            have := rai_e (r := fun t => mxs (fun st => g st * oft (sn st) (sl st) (t / 10) * oft (sn' st) (sl' st) (t % 10)) i) (t0 := 10 * sn i) (sn := sn' i) (sl := sl' i) (w := g i * (10 - sl i)) (u := t % 10) (hs2 i) u10
            rw [show 10 * sn i + t % 10 = t by omega] at this
            rw [this, show oft (sn i) (sl i) (t / 10) = 10 - sl i from if_pos h1]
          · by_cases h2 : t / 10 = (sn i + 1) % 10
            · have := rai_e (r := rai (fun t => mxs (fun st => g st * oft (sn st) (sl st) (t / 10) * oft (sn' st) (sl' st) (t % 10)) i) (10 * sn i) (sn' i) (sl' i) (g i * (10 - sl i))) (t0 := 10 * ((sn i + 1) % 10)) (sn := sn' i) (sl := sl' i) (w := g i * sl i) (u := t % 10) (hs2 i) u10
              rw [show 10 * ((sn i + 1) % 10) + t % 10 = t by omega] at this
              rw [this, rai_o (hs2 i) (by omega), show oft (sn i) (sl i) (t / 10) = sl i by unfold oft; rw [if_neg h1, if_pos h2]]
            · rw [rai_o (hs2 i) (by omega), rai_o (hs2 i) (by omega), show oft (sn i) (sl i) (t / 10) = 0 by unfold oft; rw [if_neg h1, if_neg h2], Nat.mul_zero, Nat.zero_mul, mx2_0]) (f1'.tr f2)
        rw [n1s i] at q
        exact q
  refine inX6_sureByTwo I (L0ok hS) ?_
  refine rn I [8] 99 ?_
  refine m_clear I hS (by decide) (fun s1 G1 f1 => ?_)
  exact loop S 0 (by omega) s1 none none G1 f1
end SURE2
