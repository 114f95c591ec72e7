/-! the reference's views and sums -/
def LV (s : xS) (n j : Nat) (sn sl : Nat → Nat) : Prop := ∀ st, st < n → s.1 89 (128 * j + st) = nI (sn st) ∧ s.1 90 (128 * j + st) = nI (sl st)
def fY (j : Nat) (s s' : xS) : Prop := (∀ q, q ≠ 85 → q ≠ 87 → q ≠ 89 → q ≠ 90 → s'.1 q = s.1 q) ∧ (∀ q, q ≠ 86 → s'.2 q = s.2 q) ∧ (∀ i, i < 128 * j ∨ 128 * j + 128 ≤ i → s'.1 89 i = s.1 89 i ∧ s'.1 90 i = s.1 90 i)
theorem fY.tr {j : Nat} {a b c : xS} (h : fY j a b) (k : fY j b c) : fY j a c := ⟨fun q h1 h2 h3 h4 => (k.1 q h1 h2 h3 h4).trans (h.1 q h1 h2 h3 h4), fun q h1 => (k.2.1 q h1).trans (h.2.1 q h1), fun i hi => ⟨(k.2.2 i hi).1.trans (h.2.2 i hi).1, (k.2.2 i hi).2.trans (h.2.2 i hi).2⟩⟩
theorem fW.y {a b : xS} (h : fW a b) (j : Nat) : fY j a b := ⟨fun q h1 h2 _ _ => h.1 q h1 h2, h.2, fun i _ => ⟨by rw [h.1 89 (by decide) (by decide)], by rw [h.1 90 (by decide) (by decide)]⟩⟩
theorem fY.FA {j : Nat} {a b : xS} {f : Nm} {ru : Int32} (h : fY j a b) (hA : FA (a.1 80) f ru) : FA (b.1 80) f ru := by rw [h.1 80 (by decide) (by decide) (by decide) (by decide)]; exact hA
theorem fY.MW {j : Nat} {a b : xS} {f : Nm} (h : fY j a b) (hA : MW a f) : MW b f := ⟨by rw [h.1 79 (by decide) (by decide) (by decide) (by decide)]; exact hA.1, by rw [h.1 79 (by decide) (by decide) (by decide) (by decide)]; exact hA.2⟩
theorem fY.TX {j : Nat} {a b : xS} {n : Nat} {dn : Nat → Nat → Option Dn} (h : fY j a b) (hX : TXM a n dn) : TXM b n dn := hX.same (h.1 82 (by decide) (by decide) (by decide) (by decide))
section MSURE
variable {X : xXT} {P : xPT} {d S : Nat} {s : xS} {Q : xQ} {f : Nm} {ru : Int32} {e : Nat → Nat} {dn : Nat → Nat → Option Dn} {dr : Nat → Option Dn} {g : Nat → Nat}
theorem q_lay (I : xRl X P) (hS : S ≤ 128) (hA : FA (s.1 80) f ru) (hW : MW s f) (hB : FB f) (hX : TXM s (f 0 15) dn) (hd : ∀ t, t < f 0 15 → ∀ c, c < 4 → TDs c (dn t c)) (hr : rdn ru (f 0 15) dn dr) (hN : NMd s e) (he : EB e) {x2 : Int32} {j c h : Nat} (hj : j < 16) (hc : c < cc f) (hh : h < 24) (e2 : x2 = nI c) (k : ∀ s' : xS, (∃ e', NMd s' e' ∧ EB e') → fY j s s' → LV s' (8 * cc f) j (fun st => sv f dr st (j / 2) c (j % 2) h) (fun st => lv f dr st (j / 2) c (j % 2) h) → Q none s') : P (d + 7) (L0 S) 199 [.ref 79, .int (nI j), .int x2, .int (nI h)] s Q := by
  subst e2
  have hcc := hB.cc16
  have nz2 : ¬ nI 2 = nI 0 := by decide +kernel
  have j2 : nI j / nI 2 = nI (j / 2) := pk_div (by omega) (by decide) (by decide)
  have jm : nI j - nI j / nI 2 * nI 2 = nI (j % 2) := pk_rem (by omega) (by decide) (by decide)
  have loop : ∀ m i, i + m = 8 * cc f → ∀ s' : xS, (∃ e', NMd s' e' ∧ EB e') → fY j s s' → LV s' i j (fun st => sv f dr st (j / 2) c (j % 2) h) (fun st => lv f dr st (j / 2) c (j % 2) h) → X (d + 6) mX11_lay Q (L0 S) 3 [some (.ref 79), some (.int (nI j)), some (.int (nI c)), some (.int (nI h)), some (.int (nI i))] [] s' := by
    intro m
    induction m with
    | zero =>
      intro i hi s' N' f' v'
      have hi : i = 8 * cc f := hi
      subst hi
      refine rn I [] 99 ?_
      refine q_states I hS (f'.MW hW) ?_
      refine xbr_f (znl (Nat.le_refl _) (by omega)) ?_
      exact k s' N' f' v'
    | succ m ih =>
      intro i hi s' ⟨e', N', E'⟩ f' v'
      have z01 := fce01 (f := f) (st := i) (e := e') hB (by omega)
      have E2 : EB (aie f (j / 2) c (j % 2) h (fce f i e')) := aie_b (by omega) (by omega) (by omega) (by omega) z01.1 z01.2 (fce_b hB (by omega) E')
      have ix : nI 128 * nI j + nI i = nI (128 * j + i) := by rw [nml, nad]
      refine rn I [3] 99 ?_
      refine q_states I hS (f'.MW hW) ?_
      refine xbr_t (zlt (by omega) (by omega)) ?_
      refine And.intro nz2 (And.intro nz2 ?_)
      rw [j2]
      have jm' : nI j - nI (j / 2) * nI 2 = nI (j % 2) := by rw [← j2]; exact jm
      rw [jm']
      refine q_nameBy I hS (f'.FA hA) (f'.MW hW) hB N' (st := i) (by omega) hc (fun s1 N1 f1 => ?_)
      have f1' := f'.tr (f1.y j)
      refine q_seen I hS (f1'.FA hA) hB (f1'.TX hX) hd hr (by omega) N1 E2 (fun s2 f2 => ?_)
      refine ⟨128 * j + i, ⟨by omega, ix⟩, ?_⟩
      have f2' := f1'.tr (f2.w.y j)
      have f3' : fY j s (xW s2 89 (128 * j + i) (nI (sv f dr i (j / 2) c (j % 2) h))) := f2'.tr ⟨fun q h1 h2 h3 h4 => xW_n h3, fun _ _ => rfl, fun t ht => ⟨by rw [xW_s, ud_n (by omega)], by rw [xW_n (by decide)]⟩⟩
      have N3 : NMd (xW s2 89 (128 * j + i) (nI (sv f dr i (j / 2) c (j % 2) h))) (aie f (j / 2) c (j % 2) h (fce f i e')) := fun q hq => by rw [xW_n (by decide)]; exact (N1.same f2) q hq
      refine q_slip I hS (f3'.FA hA) hB (f3'.TX hX) hd hr N3 E2 (fun s4 f4 => ?_)
      refine ⟨128 * j + i, ⟨by omega, ix⟩, ?_⟩
      have q := ih (i + 1) (by omega) (xW s4 90 (128 * j + i) (nI (lv f dr i (j / 2) c (j % 2) h))) ⟨_, fun q hq => by rw [xW_n (by decide)]; exact (N3.same f4) q hq, E2⟩ ((f3'.tr (f4.w.y j)).tr ⟨fun q h1 h2 h3 h4 => xW_n h4, fun _ _ => rfl, fun t ht => ⟨by rw [xW_n (by decide)], by rw [xW_s, ud_n (by omega)]⟩⟩) (fun st hst => by
        rw [xW_n (by decide), f4.1 89 (by decide), xW_s, xW_s]
        by_cases es : st = i
        · subst es
          exact ⟨ud_s, ud_s⟩
        · rw [ud_n (by omega), ud_n (by omega), f4.1 90 (by decide), xW_n (by decide), f2.1 89 (by decide), f2.1 90 (by decide), f1.1 89 (by decide) (by decide), f1.1 90 (by decide) (by decide)]
          exact v' st (by omega))
      rw [n1s i] at q
      exact q
  refine inX11_lay I (L0ok hS) ?_
  refine rn I [3] 99 ?_
  exact loop (8 * cc f) 0 (by omega) s ⟨e, hN, he⟩ ⟨fun _ _ _ _ _ => rfl, fun _ _ => rfl, fun _ _ => ⟨rfl, rfl⟩⟩ (fun st hst => absurd hst (Nat.not_lt_zero _))
theorem q_oftenBy (I : xRl X P) (hS : S ≤ 128) {n j st t : Nat} {sn sl : Nat → Nat} (hn : n ≤ 128) (hV : LV s n j sn sl) (hj : j < 16) (hst : st < n) (hs : ∀ i, sn i ≤ 9) (hl : ∀ i, sl i ≤ 9) {x : Int32} (ex : x = nI t) (ht : t < 1000) (h : Q (some (.int (nI (oft (sn st) (sl st) t)))) s) : P (d + 2) (L0 S) 200 [.ref 79, .int (nI j), .int (nI st), .int x] s Q := by
  subst ex
  have ix : nI 128 * nI j + nI st = nI (128 * j + st) := by rw [nml, nad]
  have hs := hs st
  refine inX11_oftenBy I (L0ok hS) ?_
  refine rn I [] 99 ?_
  refine ⟨128 * j + st, ⟨by omega, ix⟩, ?_⟩
  refine ⟨128 * j + st, ⟨by omega, ix⟩, ?_⟩
  rw [(hV st hst).1, (hV st hst).2]
  exact q_often I hS (by omega) (hl st) ht h
theorem q_sureBy (I : xRl X P) (hS : S ≤ 128) (hW : MW s f) (hB : FB f) {x1 : Int32} {j : Nat} (ej : x1 = nI j) {sn sl : Nat → Nat} (hj : j < 16) (hG : WM2 s (8 * cc f) g) (hg : ∀ i, g i ≤ 990000000000) (hV : LV s (8 * cc f) j sn sl) (hs : ∀ i, sn i ≤ 9) (hl : ∀ i, sl i ≤ 9) (h : Q (some (.long (lN (sr1 g sn sl (8 * cc f))))) s) : P (d + 3) (L0 S) 201 [.ref 79, .int x1] s Q := by
  subst ej
  have hcc := hB.cc16
  have hb : ∀ t i, g i * oft (sn i) (sl i) t ≤ 990000000000 * 10 := fun t i => Nat.mul_le_mul (hg i) (oft_le (hl i))
  have inner : ∀ t, t < 10 → (∀ o8 : Option Value, X (d + 2) mX11_sureBy Q (L0 S) 5 [some (.ref 79), some (.int (nI j)), some (.long (lN (sm (fun t => mxs (fun st => g st * oft (sn st) (sl st) t) (8 * cc f)) (t + 1)))), none, some (.int (nI (t + 1))), some (.long (lN (mxs (fun st => g st * oft (sn st) (sl st) t) (8 * cc f)))), none, some (.int (nI (8 * cc f))), o8, none] [] s) →
      ∀ m i, i + m = 8 * cc f → ∀ o8 : Option Value, X (d + 2) mX11_sureBy Q (L0 S) 18 [some (.ref 79), some (.int (nI j)), some (.long (lN (sm (fun t => mxs (fun st => g st * oft (sn st) (sl st) t) (8 * cc f)) t))), none, some (.int (nI t)), some (.long (lN (mxs (fun st => g st * oft (sn st) (sl st) t) i))), none, some (.int (nI i)), o8, none] [] s := by
    intro t ht K m
    induction m with
    | zero =>
      intro i hi o8
      have hi : i = 8 * cc f := hi
      subst hi
      refine rn I [5] 99 ?_
      refine q_states I hS hW ?_
      refine xbr_f (znl (Nat.le_refl _) (by omega)) ?_
      have q := K o8
      rw [show sm (fun t => mxs (fun st => g st * oft (sn st) (sl st) t) (8 * cc f)) (t + 1) = sm (fun t => mxs (fun st => g st * oft (sn st) (sl st) t) (8 * cc f)) t + mxs (fun st => g st * oft (sn st) (sl st) t) (8 * cc f) from rfl, ← lad, n1s t] at q
      exact q
    | succ m ih =>
      intro i hi o8
      refine rn I [18] 99 ?_
      refine q_states I hS hW ?_
      refine xbr_t (zlt (by omega) (by omega)) ?_
      refine ⟨i, ⟨by omega, rfl⟩, ?_⟩
      rw [hG i (by omega)]
      refine q_oftenBy I hS (by omega) hV hj (st := i) (by omega) hs hl rfl (by omega) ?_
      have ob : oft (sn i) (sl i) t ≤ 10 := oft_le (hl i)
      have v : lN (g i) * (nI (oft (sn i) (sl i) t)).toInt64 = lN (g i * oft (sn i) (sl i) t) := by rw [nil (by omega), lml]
      have b1 := hb t i
      have b2 := mxs_le (hb t) i
      have q := ih (i + 1) (by omega) (some (.long (lN (g i * oft (sn i) (sl i) t))))
      rw [n1s i, ← v] at q
      have q : X (d + 2) mX11_sureBy Q (L0 S) 18 [some (.ref 79), some (.int (nI j)), some (.long (lN (sm (fun t => mxs (fun st => g st * oft (sn st) (sl st) t) (8 * cc f)) t))), none, some (.int (nI t)), some (.long (lN (mx2 (mxs (fun st => g st * oft (sn st) (sl st) t) i) (g i * oft (sn i) (sl i) t)))), none, some (.int (nI i + nI 1)), some (.long (lN (g i) * (nI (oft (sn i) (sl i) t)).toInt64)), none] [] s := q
      have cmp : nI 0 < lg_cmp (lN (g i) * (nI (oft (sn i) (sl i) t)).toInt64) (lN (mxs (fun st => g st * oft (sn st) (sl st) t) i)) ↔ mxs (fun st => g st * oft (sn st) (sl st) t) i < g i * oft (sn i) (sl i) t := by rw [v]; exact lcg (by omega) (by omega)
      unfold mx2 at q
      by_cases hc : mxs (fun st => g st * oft (sn st) (sl st) t) i < g i * oft (sn i) (sl i) t
      · refine xbr_t (cmp.mpr hc) ?_
        rw [if_pos hc, ← v] at q
        exact q
      · refine xbr_f (fun z => hc (cmp.mp z)) ?_
        rw [if_neg hc] at q
        exact q
  have outer : ∀ m t, t + m = 10 → ∀ (o5 o7 o8 : Option Value), X (d + 2) mX11_sureBy Q (L0 S) 5 [some (.ref 79), some (.int (nI j)), some (.long (lN (sm (fun t => mxs (fun st => g st * oft (sn st) (sl st) t) (8 * cc f)) t))), none, some (.int (nI t)), o5, none, o7, o8, none] [] s := by
    intro m
    induction m with
    | zero =>
      intro t ht o5 o7 o8
      have ht : t = 10 := ht
      subst ht
      refine rn I [] 99 ?_
      refine xbr_f (znl (Nat.le_refl _) (by decide)) ?_
      exact h
    | succ m ih =>
      intro t ht o5 o7 o8
      refine rn I [18] 99 ?_
      refine xbr_t (zlt (by omega) (by decide)) ?_
      exact inner t (by omega) (fun o8 => ih (t + 1) (by omega) _ _ o8) (8 * cc f) 0 (by omega) o8
  refine inX11_sureBy I (L0ok hS) ?_
  refine rn I [5] 99 ?_
  exact outer 10 0 (by omega) none none none
end MSURE
