/-! the reference's sureByTwo -/
section MSURE2
variable {X : xXT} {P : xPT} {d S : Nat} {s : xS} {Q : xQ} {f : Nm} {g : Nat → Nat}
theorem q_sureByTwo (I : xRl X P) (hS : S ≤ 128) (hW : MW s f) (hB : FB f) {j j2 : Nat} {sn sl sn' sl' : Nat → Nat} (hj : j < 16) (hj2 : j2 < 16) (hG : WM2 s (8 * cc f) g) (hg : ∀ i, g i ≤ 990000000000) (hV : LV s (8 * cc f) j sn sl) (hV2 : LV s (8 * cc f) j2 sn' sl') (hs : ∀ i, sn i ≤ 9) (hl : ∀ i, sl i ≤ 9) (hs2 : ∀ i, sn' i ≤ 9) (hl2 : ∀ i, sl' i ≤ 9) (h : Q (some (.long (lN (sr2 g sn sl sn' sl' (8 * cc f))))) s) : P (d + 3) (L0 S) 202 [.ref 79, .int (nI j), .int (nI j2)] s Q := by
  have hcc := hB.cc16
  have nz : ¬ nI 10 = nI 0 := by decide +kernel
  have hb : ∀ t i, g i * oft (sn i) (sl i) (t / 10) * oft (sn' i) (sl' i) (t % 10) ≤ 990000000000 * 10 * 10 := fun t i => Nat.mul_le_mul (Nat.mul_le_mul (hg i) (oft_le (hl i))) (oft_le (hl2 i))
  have inner : ∀ t, t < 100 → (∀ o9 o10 : Option Value, X (d + 2) mX11_sureByTwo Q (L0 S) 5 [some (.ref 79), some (.int (nI j)), some (.int (nI j2)), some (.long (lN (sm (fun t => mxs (fun st => g st * oft (sn st) (sl st) (t / 10) * oft (sn' st) (sl' st) (t % 10)) (8 * cc f)) (t + 1)))), none, some (.int (nI (t + 1))), some (.long (lN (mxs (fun st => g st * oft (sn st) (sl st) (t / 10) * oft (sn' st) (sl' st) (t % 10)) (8 * cc f)))), none, some (.int (nI (8 * cc f))), o9, o10, none] [] s) →
      ∀ m i, i + m = 8 * cc f → ∀ o9 o10 : Option Value, X (d + 2) mX11_sureByTwo Q (L0 S) 18 [some (.ref 79), some (.int (nI j)), some (.int (nI j2)), some (.long (lN (sm (fun t => mxs (fun st => g st * oft (sn st) (sl st) (t / 10) * oft (sn' st) (sl' st) (t % 10)) (8 * cc f)) t))), none, some (.int (nI t)), some (.long (lN (mxs (fun st => g st * oft (sn st) (sl st) (t / 10) * oft (sn' st) (sl' st) (t % 10)) i))), none, some (.int (nI i)), o9, o10, none] [] s := by
    intro t ht K m
    have td : nI t / nI 10 = nI (t / 10) := pk_div (by omega) (by decide) (by decide)
    have tm : nI t - nI t / nI 10 * nI 10 = nI (t % 10) := pk_rem (by omega) (by decide) (by decide)
    induction m with
    | zero =>
      intro i hi o9 o10
      have hi : i = 8 * cc f := hi
      subst hi
      refine rn I [5] 99 ?_
      refine q_states I hS hW ?_
      refine xbr_f (znl (Nat.le_refl _) (by omega)) ?_
      have q := K o9 o10
      rw [show sm (fun t => mxs (fun st => g st * oft (sn st) (sl st) (t / 10) * oft (sn' st) (sl' st) (t % 10)) (8 * cc f)) (t + 1) = sm (fun t => mxs (fun st => g st * oft (sn st) (sl st) (t / 10) * oft (sn' st) (sl' st) (t % 10)) (8 * cc f)) t + mxs (fun st => g st * oft (sn st) (sl st) (t / 10) * oft (sn' st) (sl' st) (t % 10)) (8 * cc f) from rfl, ← lad, n1s t] at q
      exact q
    | succ m ih =>
      intro i hi o9 o10
      have b2 := mxs_le (hb t) i
      have o1 : oft (sn i) (sl i) (t / 10) ≤ 10 := oft_le (hl i)
      have o2 : oft (sn' i) (sl' i) (t % 10) ≤ 10 := oft_le (hl2 i)
      refine rn I [18] 99 ?_
      refine q_states I hS hW ?_
      refine xbr_t (zlt (by omega) (by omega)) ?_
      refine And.intro nz ?_
      refine q_oftenBy I hS (by omega) hV hj (st := i) (by omega) hs hl td (by omega) ?_
      by_cases hz : oft (sn i) (sl i) (t / 10) = 0
      · refine xbr_t (by rw [hz]) ?_
        have q := ih (i + 1) (by omega) (some (.int (nI (oft (sn i) (sl i) (t / 10))))) o10
        rw [n1s i, show mxs (fun st => g st * oft (sn st) (sl st) (t / 10) * oft (sn' st) (sl' st) (t % 10)) (i + 1) = mxs (fun st => g st * oft (sn st) (sl st) (t / 10) * oft (sn' st) (sl' st) (t % 10)) i by show mx2 _ (g i * oft (sn i) (sl i) (t / 10) * _) = _; rw [hz, Nat.mul_zero, Nat.zero_mul, mx2_0]] at q
        exact q
      · refine xbr_f (zne hz (by omega) (by decide)) ?_
        refine ⟨i, ⟨by omega, rfl⟩, ?_⟩
        rw [hG i (by omega)]
        refine And.intro nz ?_
        refine q_oftenBy I hS (by omega) hV2 hj2 (st := i) (by omega) hs2 hl2 tm (by omega) ?_
        have v : lN (g i) * (nI (oft (sn i) (sl i) (t / 10))).toInt64 * (nI (oft (sn' i) (sl' i) (t % 10))).toInt64 = lN (g i * oft (sn i) (sl i) (t / 10) * oft (sn' i) (sl' i) (t % 10)) := by rw [nil (by omega), nil (by omega), lml, lml]
        have b1 := hb t i
        have q := ih (i + 1) (by omega) (some (.int (nI (oft (sn i) (sl i) (t / 10))))) (some (.long (lN (g i * oft (sn i) (sl i) (t / 10) * oft (sn' i) (sl' i) (t % 10)))))
        have q : X (d + 2) mX11_sureByTwo Q (L0 S) 18 [some (.ref 79), some (.int (nI j)), some (.int (nI j2)), some (.long (lN (sm (fun t => mxs (fun st => g st * oft (sn st) (sl st) (t / 10) * oft (sn' st) (sl' st) (t % 10)) (8 * cc f)) t))), none, some (.int (nI t)), some (.long (lN (mx2 (mxs (fun st => g st * oft (sn st) (sl st) (t / 10) * oft (sn' st) (sl' st) (t % 10)) i) (g i * oft (sn i) (sl i) (t / 10) * oft (sn' i) (sl' i) (t % 10))))), none, some (.int (nI (i + 1))), some (.int (nI (oft (sn i) (sl i) (t / 10)))), some (.long (lN (g i * oft (sn i) (sl i) (t / 10) * oft (sn' i) (sl' i) (t % 10)))), none] [] s := q
        have cmp : nI 0 < lg_cmp (lN (g i) * (nI (oft (sn i) (sl i) (t / 10))).toInt64 * (nI (oft (sn' i) (sl' i) (t % 10))).toInt64) (lN (mxs (fun st => g st * oft (sn st) (sl st) (t / 10) * oft (sn' st) (sl' st) (t % 10)) i)) ↔ mxs (fun st => g st * oft (sn st) (sl st) (t / 10) * oft (sn' st) (sl' st) (t % 10)) i < g i * oft (sn i) (sl i) (t / 10) * oft (sn' i) (sl' i) (t % 10) := by rw [v]; exact lcg (by omega) (by omega)
        unfold mx2 at q
        rw [n1s i] at q
        by_cases hc : mxs (fun st => g st * oft (sn st) (sl st) (t / 10) * oft (sn' st) (sl' st) (t % 10)) i < g i * oft (sn i) (sl i) (t / 10) * oft (sn' i) (sl' i) (t % 10)
        · refine xbr_t (cmp.mpr hc) ?_
          rw [if_pos hc, ← v] at q
          exact q
        · refine xbr_f (fun z => hc (cmp.mp z)) ?_
          rw [if_neg hc, ← v] at q
          exact q
  have outer : ∀ m t, t + m = 100 → ∀ (o6 o8 o9 o10 : Option Value), X (d + 2) mX11_sureByTwo Q (L0 S) 5 [some (.ref 79), some (.int (nI j)), some (.int (nI j2)), some (.long (lN (sm (fun t => mxs (fun st => g st * oft (sn st) (sl st) (t / 10) * oft (sn' st) (sl' st) (t % 10)) (8 * cc f)) t))), none, some (.int (nI t)), o6, none, o8, o9, o10, none] [] s := by
    intro m
    induction m with
    | zero =>
      intro t ht o6 o8 o9 o10
      have ht : t = 100 := ht
      subst ht
      refine rn I [] 99 ?_
      refine xbr_f (znl (Nat.le_refl _) (by decide)) ?_
      exact h
    | succ m ih =>
      intro t ht o6 o8 o9 o10
      refine rn I [18] 99 ?_
      refine xbr_t (zlt (by omega) (by decide)) ?_
      exact inner t (by omega) (fun o9 o10 => ih (t + 1) (by omega) _ _ o9 o10) (8 * cc f) 0 (by omega) o9 o10
  refine inX11_sureByTwo I (L0ok hS) ?_
  refine rn I [5] 99 ?_
  exact outer 100 0 (by omega) none none none none
end MSURE2
