/-! the cheapest act -/
def cst (f : Nm) (dr : Nat → Option Dn) (g : Nat → Nat) (n a : Nat) : Nat := sm (fun st => g st * cv f dr st a) n
def che (c : Nat → Nat) : Nat → Nat
  | 0 => 0
  | n + 1 => if c n < c (che c n) then n else che c n
theorem che_lt (c : Nat → Nat) : ∀ n, che c n < n ∨ che c n = 0
  | 0 => Or.inr rfl
  | n + 1 => by
    show (if c n < c (che c n) then n else che c n) < n + 1 ∨ _
    split
    · exact Or.inl (by omega)
    · rcases che_lt c n with h | h
      · exact Or.inl (by omega)
      · exact Or.inl (by omega)
theorem cst_b {f : Nm} {dr : Nat → Option Dn} {k n a : Nat} (hn : n ≤ 128) (hk : k ≤ 10) : cst f dr (wk f dr k) n a < 2 ^ 57 := by
  have h1 := sm_le (g := fun st => wk f dr k st * cv f dr st a) (b := 990000000000 * 999) (fun i => Nat.mul_le_mul (wk_b hk i) cv_le) n
  have h2 : n * (990000000000 * 999) ≤ 128 * (990000000000 * 999) := Nat.mul_le_mul_right _ hn
  unfold cst
  omega
section DOES
variable {X : xXT} {P : xPT} {d S : Nat} {s : xS} {Q : xQ} {f : Nm} {ru : Int32} {e : Nat → Nat} {dn : Nat → Nat → Option Dn} {dr : Nat → Option Dn} {g : Nat → Nat}
theorem m_costOf (I : xRl X P) (hS : S ≤ 128) (hF : FC s.1 1 f ru) (hB : FB f) (hX : TXC s (f 0 15) dn) (hr : rdn ru (f 0 15) dn dr) (hT : TR dr) (hN : NC s e) (he : EB e) (hSS : S = 8 * cc f) (e59 : s.1 59 2 = nI S) (hW : WC s (8 * cc f) g) (hg : ∀ i, g i < 2 ^ 62) {a : Nat} (ha : a ≤ 100) (h : ∀ s' : xS, (∃ e', NC s' e' ∧ EB e') → fO s s' → Q (some (.long (lN (cst f dr g (8 * cc f) a)))) s') : P (d + 8) (L0 S) 67 [.ref 59, .int (nI a)] s Q := by
  have hcc := hB.cc16
  have loop : ∀ m i, i + m = 8 * cc f → ∀ s' : xS, (∃ e', NC s' e' ∧ EB e' ∧ e' 9 = a) → fO s s' → X (d + 7) mX6_costOf Q (L0 S) 13 [some (.ref 59), some (.int (nI a)), some (.long (lN (cst f dr g i a))), none, some (.int (nI i))] [] s' := by
    intro m
    induction m with
    | zero =>
      intro i hi s' ⟨e', N', E', _⟩ f'
      have hi : i = 8 * cc f := hi
      subst hi
      have es : s'.1 59 2 = nI (8 * cc f) := by rw [f'.1 59 (by decide) (by decide) (by decide), e59, hSS]
      refine rn I [] 99 ?_
      refine xbr_f (by rw [es]; exact znl (Nat.le_refl _) (by omega)) ?_
      exact h s' ⟨e', N', E'⟩ f'
    | succ m ih =>
      intro i hi s' ⟨e', N', E', h9⟩ f'
      have es : s'.1 59 2 = nI (8 * cc f) := by rw [f'.1 59 (by decide) (by decide) (by decide), e59, hSS]
      have ew : s'.2 61 i = lN (g i) := by rw [f'.2]; exact hW i (by omega)
      have cs : cst f dr g (i + 1) a = cst f dr g i a + g i * cv f dr i a := rfl
      refine rn I [13] 99 ?_
      refine xbr_t (by rw [es]; exact zlt (by omega) (by omega)) ?_
      refine ⟨i, ⟨by omega, rfl⟩, ?_⟩
      by_cases hz : g i = 0
      · refine xbr_t (by rw [ew]; exact (lze (hg i)).mpr hz) ?_
        have k := ih (i + 1) (by omega) s' ⟨e', N', E', h9⟩ f'
        rw [cs, hz, Nat.zero_mul, Nat.add_zero, n1s i] at k
        exact k
      · refine xbr_f (by rw [ew]; exact fun q => hz ((lze (hg i)).mp q)) ?_
        refine m_face I hS (f'.FC (k := 1) (by decide) hF) hB N' (by omega) (fun s1 N1 f1 => ?_)
        have f2 := f'.tr f1
        refine ⟨i, ⟨by omega, rfl⟩, ?_⟩
        have ew2 : s1.2 61 i = lN (g i) := by rw [f2.2]; exact hW i (by omega)
        rw [ew2]
        refine m_tell I hS (f2.FC (k := 1) (by decide) hF) hB (f2.TXC hB.1.2.2.2 hX) hr N1 (fce_b hB (by omega) E') (by decide) (fun s3 f3 => ?_)
        rw [cv_e' hT e' h9]
        have cb : cv f dr i a ≤ 999 := cv_le
        have k := ih (i + 1) (by omega) s3 ⟨_, N1.same f3, fce_b hB (by omega) E', h9⟩ (f2.tr f3.o)
        rw [cs, n1s i, ← lad, ← lml, ← nil (n := cv f dr i a) (by omega)] at k
        exact k
  refine inX6_costOf I (L0ok hS) ?_
  refine rn I [13] 99 ?_
  refine m_choose I hS hN (fun s1 N1 f1 => ?_)
  exact loop (8 * cc f) 0 (by omega) s1 ⟨_, N1, cho_b ha he, rfl⟩ f1
theorem fO.wc {a b : xS} {n : Nat} {g : Nat → Nat} (h : fO a b) (w : WC a n g) : WC b n g := fun i hi => by rw [h.2]; exact w i hi
theorem m_cheapest (I : xRl X P) (hS : S ≤ 128) (hF : FC s.1 1 f ru) (hB : FB f) (hX : TXC s (f 0 15) dn) (hr : rdn ru (f 0 15) dn dr) (hT : TR dr) (hN : NC s e) (he : EB e) (hSS : S = 8 * cc f) (e59 : s.1 59 2 = nI S) {k : Nat} (hk : k ≤ 10) (hW : WC s (8 * cc f) (wk f dr k)) {n : Nat} (hn : 1 ≤ n) (hn5 : n ≤ 5) (h : ∀ s' : xS, (∃ e', NC s' e' ∧ EB e') → fO s s' → Q (some (.int (nI (che (cst f dr (wk f dr k) (8 * cc f)) n)))) s') : P (d + 9) (L0 S) 66 [.ref 59, .int (nI n)] s Q := by
  have hcc := hB.cc16
  have cb : ∀ a, cst f dr (wk f dr k) (8 * cc f) a < 2 ^ 57 := fun a => cst_b (by omega) hk
  have loop : ∀ m i, i + m = n → 1 ≤ i → ∀ (s' : xS) (o6 : Option Value), (∃ e', NC s' e' ∧ EB e') → fO s s' → X (d + 8) mX6_cheapest Q (L0 S) 11 [some (.ref 59), some (.int (nI n)), some (.int (nI (che (cst f dr (wk f dr k) (8 * cc f)) i))), some (.long (lN (cst f dr (wk f dr k) (8 * cc f) (che (cst f dr (wk f dr k) (8 * cc f)) i)))), none, some (.int (nI i)), o6, none] [] s' := by
    intro m
    induction m with
    | zero =>
      intro i hi h1 s' o6 N' f'
      have hi : i = n := hi
      subst hi
      refine rn I [] 99 ?_
      refine xbr_f (znl (Nat.le_refl _) (by omega)) ?_
      exact h s' N' f'
    | succ m ih =>
      intro i hi h1 s' o6 ⟨e', N', E'⟩ f'
      refine rn I [11] 99 ?_
      refine xbr_t (zlt (by omega) (by omega)) ?_
      refine m_costOf I hS (f'.FC (k := 1) (by decide) hF) hB (f'.TXC hB.1.2.2.2 hX) hr hT N' E' hSS (by rw [f'.1 59 (by decide) (by decide) (by decide)]; exact e59) (f'.wc hW) (wk62 hk) (a := i) (by omega) (fun s1 N1 f1 => ?_)
      have q := ih (i + 1) (by omega) (by omega) s1 (some (.long (lN (cst f dr (wk f dr k) (8 * cc f) i)))) N1 (f'.tr f1)
      have b1 := cb i
      have b2 := cb (che (cst f dr (wk f dr k) (8 * cc f)) i)
      have cmp := lcl (a := cst f dr (wk f dr k) (8 * cc f) i) (b := cst f dr (wk f dr k) (8 * cc f) (che (cst f dr (wk f dr k) (8 * cc f)) i)) (by omega) (by omega)
      by_cases hc : cst f dr (wk f dr k) (8 * cc f) i < cst f dr (wk f dr k) (8 * cc f) (che (cst f dr (wk f dr k) (8 * cc f)) i)
      · refine xbr_t (cmp.mpr hc) ?_
        rw [show che (cst f dr (wk f dr k) (8 * cc f)) (i + 1) = i from if_pos hc, n1s i] at q
        exact q
      · refine xbr_f (fun z => hc (cmp.mp z)) ?_
        rw [show che (cst f dr (wk f dr k) (8 * cc f)) (i + 1) = che (cst f dr (wk f dr k) (8 * cc f)) i from if_neg hc, n1s i] at q
        exact q
  refine inX6_cheapest I (L0ok hS) ?_
  refine rn I [11] 99 ?_
  refine m_costOf I hS hF hB hX hr hT hN he hSS e59 hW (wk62 hk) (a := 0) (by decide) (fun s1 N1 f1 => ?_)
  have q := loop (n - 1) 1 (by omega) (by decide) s1 none N1 f1
  rw [show che (cst f dr (wk f dr k) (8 * cc f)) 1 = 0 by show (if _ then 0 else 0) = 0; split <;> rfl] at q
  exact q
/-- what does comes to -/
def dov (f : Nm) (dr : Nat → Option Dn) (n w : Nat) : Int64 := if sm (wk f dr (f 0 13)) (8 * cc f) = 0 then -(lN 1) else if w = 0 then lN (che (cst f dr (wk f dr (f 0 13)) (8 * cc f)) n) else
  lN ((if w = 1 then cst f dr (wk f dr (f 0 13)) (8 * cc f) (che (cst f dr (wk f dr (f 0 13)) (8 * cc f)) n) else sm (wk f dr (f 0 13)) (8 * cc f)) / Nat.gcd (cst f dr (wk f dr (f 0 13)) (8 * cc f) (che (cst f dr (wk f dr (f 0 13)) (8 * cc f)) n)) (sm (wk f dr (f 0 13)) (8 * cc f)))
theorem rng {c : Int32} {a n : Nat} (hn : n < 2 ^ 30) (han : a ≤ n) (h1 : ¬ c < nI a) (h2 : ¬ nI n < c) : ∃ j, a ≤ j ∧ j ≤ n ∧ c = nI j := by
  obtain ⟨m, hm, rfl⟩ := nI_of (x := c) (fun z => h1 (Int32.lt_of_lt_of_le z (by rw [← nI_0]; exact Int32.not_lt.mp (zn0 (by omega)))))
  exact ⟨m, zge hm (by omega) h1, zge (by omega) hm h2, rfl⟩
theorem m_weighX (I : xRl X P) (hS : S ≤ 128) (hF : FC s.1 1 f ru) (hB : FB f) (hX : TXC s (f 0 15) dn) (hr : rdn ru (f 0 15) dn dr) (hT : TR dr) (hN : NC s e) (he : EB e) (hSS : S = 8 * cc f) (e59 : s.1 59 2 = nI S) {x : Int32} {k : Nat} (hx : x = nI k) (hk : k ≤ 10) (h : ∀ s' : xS, (∃ e', NC s' e' ∧ EB e') → fS s s' → WC s' (8 * cc f) (wk f dr k) → Q (some (.long (lN (sm (wk f dr k) (8 * cc f))))) s') : P (d + 9) (L0 S) 63 [.ref 59, .int x] s Q := by
  subst hx
  exact m_weigh I hS hF hB hX hr hT hN he hSS e59 hk h
theorem q_findX (I : xRl X P) (hS : S ≤ 128) (hA : FA (s.1 80) f ru) (hW : MW s f) (hB : FB f) (hX : TXM s (f 0 15) dn) (hd : ∀ t, t < f 0 15 → ∀ c, c < 4 → TDs c (dn t c)) (hr : rdn ru (f 0 15) dn dr) (hN : NMd s e) (he : EB e) {x : Int32} {k : Nat} (hx : x = nI k) (hk : k ≤ 10) (h : ∀ s' : xS, (∃ e', NMd s' e' ∧ EB e') → fX s s' → WM2 s' (8 * cc f) (wk f dr k) → s'.2 79 28 = lN (sm (wk f dr k) (8 * cc f)) → Q none s') : P (d + 9) (L0 S) 195 [.ref 79, .int x] s Q := by
  subst hx
  exact q_findWeights I hS hA hW hB hX hd hr hN he hk h
theorem m_Does (I : xRl X P) (hS : S ≤ 128) (hF : FC s.1 1 f ru) (hB : FB f) (hX : TXC s (f 0 15) dn) (hr : rdn ru (f 0 15) dn dr) (hT : TR dr) (hN : NC s e) (he : EB e) (hSS : S = 8 * cc f) (e59 : s.1 59 2 = nI S) {c1 c2 : Int32} (h1 : ∀ n w, 1 ≤ n → n ≤ 5 → c1 = nI n → w ≤ 2 → c2 = nI w → ∀ s' : xS, (∃ e', NC s' e' ∧ EB e') → fS s s' → Q (some (.long (dov f dr n w))) s') (h0 : (¬ ∃ n w, 1 ≤ n ∧ n ≤ 5 ∧ c1 = nI n ∧ w ≤ 2 ∧ c2 = nI w) → Q (some (.long (-(lN 1)))) s) : P (d + 10) (L0 S) 116 [.ref 0, .int c1, .int c2] s Q := by
  have hcc := hB.cc16
  have hn13 := hB.1.2.1
  have F : (¬ ∃ n w, 1 ≤ n ∧ n ≤ 5 ∧ c1 = nI n ∧ w ≤ 2 ∧ c2 = nI w) → X (d + 9) mX10_does Q (L0 S) 19 [some (.ref 0), some (.int c1), some (.int c2), none, none, none, none, none] [] s := by
    intro hn
    refine rn I [] 99 ?_
    exact h0 hn
  refine inX10_does I (L0ok hS) ?_
  refine rn I [19] 99 ?_
  refine xbr_c (fun q => F (fun ⟨n, w, a, b, c, d, e⟩ => by rw [c] at q; exact znl a (by omega) q)) (fun q1 => ?_)
  refine xbr_c (fun q => F (fun ⟨n, w, a, b, c, d, e⟩ => by rw [c] at q; exact znl b (by omega) q)) (fun q2 => ?_)
  refine xbr_c (fun q => F (fun ⟨n, w, a, b, c, d, e⟩ => by rw [e] at q; exact zn0 (by omega) q)) (fun q3 => ?_)
  refine xbr_c (fun q => F (fun ⟨n, w, a, b, c, d, e⟩ => by rw [e] at q; exact znl d (by omega) q)) (fun q4 => ?_)
  obtain ⟨n, n1, n5, rfl⟩ := rng (n := 5) (by decide) (by decide) q1 q2
  obtain ⟨w, _, w2, rfl⟩ := rng (n := 2) (by decide) (by decide) q3 q4
  clear F h0
  have er : s.1 1 13 = nI (f 0 13) := hF.2.1 13 (by omega)
  have ab := all_b (dr := dr) hB (show f 0 13 ≤ 10 by omega)
  refine m_weighX I hS hF hB hX hr hT hN he hSS e59 (k := f 0 13) er (by omega) (fun s1 ⟨e1, N1, E1⟩ f1 w1 => ?_)
  have k2 := h1 n w n1 n5 rfl w2 rfl
  unfold dov at k2
  by_cases hz : sm (wk f dr (f 0 13)) (8 * cc f) = 0
  · rw [if_pos hz] at k2
    exact xbr_t ((lze (by omega)).mpr hz) (k2 s1 ⟨e1, N1, E1⟩ f1)
  · rw [if_neg hz] at k2
    refine xbr_f (fun q => hz ((lze (by omega)).mp q)) ?_
    have e59' : s1.1 59 2 = nI S := by rw [f1.1 59 (by decide) (by decide) (by decide)]; exact e59
    refine m_cheapest I hS (f1.FC (k := 1) (by decide) hF) hB (f1.TXC hB.1.2.2.2 hX) hr hT N1 E1 hSS e59' (show f 0 13 ≤ 10 by omega) w1 n1 n5 (fun s2 ⟨e2, N2, E2⟩ f2 => ?_)
    have cl := che_lt (cst f dr (wk f dr (f 0 13)) (8 * cc f)) n
    have f12 := f1.tr f2.s
    rcases (show w = 0 ∨ w = 1 ∨ w = 2 by omega) with rfl | rfl | rfl
    · refine xbr_t rfl ?_
      have k3 := k2 s2 ⟨e2, N2, E2⟩ f12
      rw [if_pos rfl, ← nil (by omega)] at k3
      exact k3
    all_goals
      rw [if_neg (by decide)] at k2
      refine xbr_f (zne (by decide) (by decide) (by decide)) ?_
      refine m_costOf I hS (f12.FC (k := 1) (by decide) hF) hB (f12.TXC hB.1.2.2.2 hX) hr hT N2 E2 hSS (by rw [f12.1 59 (by decide) (by decide) (by decide)]; exact e59) (f2.wc w1) (wk62 (by omega)) (by omega) (fun s3 N3 f3 => ?_)
      have k3 := k2 s3 N3 (f12.tr f3.s)
      have cb : cst f dr (wk f dr (f 0 13)) (8 * cc f) (che (cst f dr (wk f dr (f 0 13)) (8 * cc f)) n) < 2 ^ 57 := cst_b (by omega) (by omega)
    · refine xbr_t rfl ?_
      rw [if_pos rfl] at k3
      exact m_low I hS (by omega) (by omega) ab (by omega) k3
    · refine xbr_f (by decide +kernel) ?_
      rw [if_neg (by decide)] at k3
      exact m_low I hS (by omega) (by omega) ab (by omega) k3
theorem q_does (I : xRl X P) (hS : S ≤ 128) (hA : FA (s.1 80) f ru) (hW : MW s f) (hB : FB f) (hX : TXM s (f 0 15) dn) (hd : ∀ t, t < f 0 15 → ∀ c, c < 4 → TDs c (dn t c)) (hr : rdn ru (f 0 15) dn dr) (hN : NMd s e) (he : EB e) (hSS : S = 8 * cc f) {c1 c2 : Int32} (h1 : ∀ n w, 1 ≤ n → n ≤ 5 → c1 = nI n → w ≤ 2 → c2 = nI w → ∀ s' : xS, (∃ e', NMd s' e' ∧ EB e') → fX s s' → Q (some (.long (dov f dr n w))) s') (h0 : (¬ ∃ n w, 1 ≤ n ∧ n ≤ 5 ∧ c1 = nI n ∧ w ≤ 2 ∧ c2 = nI w) → Q (some (.long (-(lN 1)))) s) : P (d + 10) (L0 S) 210 [.ref 79, .int c1, .int c2] s Q := by
  have hcc := hB.cc16
  have hn13 := hB.1.2.1
  have e3 : s.1 80 3 = nI (f 0 13) := hA.2.2.2.2.2.1
  have hT : TR dr := rdn_td hr hd
  refine inX11_does I (L0ok hS) ?_
  refine rn I [53] 99 ?_
  refine q_isIn I hS (fun b1 b2 => ?_) (fun b => ?_)
  · obtain ⟨n, n1, n5, rfl⟩ := rng (n := 5) (by decide) (by decide) b1 b2
    refine xbr_f n10 ?_
    refine q_isIn I hS (fun b1 b2 => ?_) (fun b => ?_)
    · obtain ⟨w, _, w2, rfl⟩ := rng (n := 2) (by decide) (by decide) b1 b2
      refine xbr_f n10 ?_
      clear h0
      refine ⟨3, ⟨by decide, rfl⟩, ?_⟩
      have ab := all_b (dr := dr) hB (show f 0 13 ≤ 10 by omega)
      refine q_findX I hS hA hW hB hX hd hr hN he (k := f 0 13) e3 (by omega) (fun s1 N1 f1 w1 a1 => ?_)
      have k2 := h1 n w n1 n5 rfl w2 rfl
      unfold dov at k2
      by_cases hz : sm (wk f dr (f 0 13)) (8 * cc f) = 0
      · rw [if_pos hz] at k2
        exact xbr_t (by rw [a1]; exact (lze (by omega)).mpr hz) (k2 s1 N1 f1)
      · rw [if_neg hz] at k2
        refine xbr_f (by rw [a1]; exact fun q => hz ((lze (by omega)).mp q)) ?_
        have cb : ∀ a, cst f dr (wk f dr (f 0 13)) (8 * cc f) a < 2 ^ 57 := fun a => cst_b (by omega) (by omega)
        have inner : ∀ (a : Nat), a < 5 → ∀ (bi : Int32) (li : Int64), (∀ s3 : xS, (∃ e', NMd s3 e' ∧ EB e') → fX s s3 → WM2 s3 (8 * cc f) (wk f dr (f 0 13)) → s3.2 79 28 = lN (sm (wk f dr (f 0 13)) (8 * cc f)) → X (d + 9) mX11_does Q (L0 S) 118 [some (.ref 79), some (.int (nI n)), some (.int (nI w)), some (.int bi), some (.long li), none, some (.int (nI a)), some (.long (lN (cst f dr (wk f dr (f 0 13)) (8 * cc f) a))), none, some (.int (nI (8 * cc f)))] [] s3) →
            ∀ m i, i + m = 8 * cc f → ∀ s3 : xS, (∃ e', NMd s3 e' ∧ EB e') → fX s s3 → WM2 s3 (8 * cc f) (wk f dr (f 0 13)) → s3.2 79 28 = lN (sm (wk f dr (f 0 13)) (8 * cc f)) → X (d + 9) mX11_does Q (L0 S) 65 [some (.ref 79), some (.int (nI n)), some (.int (nI w)), some (.int bi), some (.long li), none, some (.int (nI a)), some (.long (lN (cst f dr (wk f dr (f 0 13)) i a))), none, some (.int (nI i))] [] s3 := by
          intro a ha bi li K m
          induction m with
          | zero =>
            intro i hi s3 N3 f3 w3 a3
            have hi : i = 8 * cc f := hi
            subst hi
            refine rn I [118] 99 ?_
            refine q_states I hS (f3.MW hW) ?_
            refine xbr_f (znl (Nat.le_refl _) (by omega)) ?_
            exact K s3 N3 f3 w3 a3
          | succ m ih =>
            intro i hi s3 ⟨e', N', E'⟩ f3 w3 a3
            have cs : cst f dr (wk f dr (f 0 13)) (i + 1) a = cst f dr (wk f dr (f 0 13)) i a + wk f dr (f 0 13) i * cv f dr i a := rfl
            refine rn I [65] 99 ?_
            refine q_states I hS (f3.MW hW) ?_
            refine xbr_t (zlt (by omega) (by omega)) ?_
            refine q_name I hS (f3.FA hA) (f3.MW hW) hB N' (st := i) (by omega) (fun s4 N4 f4 => ?_)
            refine ⟨9, ⟨by decide, rfl⟩, ?_⟩
            refine ⟨i, ⟨by omega, rfl⟩, ?_⟩
            have N5 : NMd (xW s4 85 9 (nI a)) (cho a (fce f i e')) := fun k hk => by
              rw [xW_s]
              rcases k10 hk with rfl | rfl | rfl | rfl | rfl | rfl | rfl | rfl | rfl | rfl
              case inr.inr.inr.inr.inr.inr.inr.inr.inr => rw [ud_s]; rfl
              all_goals (rw [ud_n (by decide)]; exact N4 _ hk)
            have f5 : fX s (xW s4 85 9 (nI a)) := (f3.tr f4.x).tr ⟨fun q h1 h2 => xW_n h1, fun _ _ _ _ => rfl, fun _ _ => rfl⟩
            have E5 : EB (cho a (fce f i e')) := cho_b (by omega) (fce_b hB (by omega) E')
            have ov : odv (dr 3) 999 0 (cho a (fce f i e')) = cv f dr i a := by
              rw [← cv_e hT e']
              cases dr 3 <;> rfl
            have w5 : (xW s4 85 9 (nI a)).2 88 i = lN (wk f dr (f 0 13) i) := by
              show s4.2 88 i = _
              rw [f4.2 88 (by decide)]
              exact w3 i (by omega)
            rw [w5]
            refine q_sumOf (f := f) (ru := ru) (dn := dn) (dr := dr) I hS (f5.FA hA) hB (f5.TX hX) hd hr N5 E5 (c := 3) (m := 999) (v := 0) (by decide) (by decide) (fun s6 f6 => ?_)
            rw [ov]
            have cvb : cv f dr i a ≤ 999 := cv_le
            have k := ih (i + 1) (by omega) s6 ⟨_, N5.same f6, E5⟩ (f5.tr f6.w.x) (fun j hj => by rw [f6.2 88 (by decide)]; show s4.2 88 j = _; rw [f4.2 88 (by decide)]; exact w3 j hj) (by rw [f6.2 79 (by decide)]; show s4.2 79 28 = _; rw [f4.2 79 (by decide)]; exact a3)
            rw [cs, n1s i, ← lad, ← lml, ← nil (n := cv f dr i a) (by omega)] at k
            exact k
        have outer : ∀ m a, a + m = n → ∀ (bi : Int32) (li : Int64) (o7 o9 : Option Value), ((a = 0 ∧ bi = -(nI 1)) ∨ (1 ≤ a ∧ bi = nI (che (cst f dr (wk f dr (f 0 13)) (8 * cc f)) a) ∧ li = lN (cst f dr (wk f dr (f 0 13)) (8 * cc f) (che (cst f dr (wk f dr (f 0 13)) (8 * cc f)) a)))) → ∀ s3 : xS, (∃ e', NMd s3 e' ∧ EB e') → fX s s3 → WM2 s3 (8 * cc f) (wk f dr (f 0 13)) → s3.2 79 28 = lN (sm (wk f dr (f 0 13)) (8 * cc f)) → X (d + 9) mX11_does Q (L0 S) 53 [some (.ref 79), some (.int (nI n)), some (.int (nI w)), some (.int bi), some (.long li), none, some (.int (nI a)), o7, none, o9] [] s3 := by
          intro m
          induction m with
          | zero =>
            intro a ha bi li o7 o9 hb s3 N3 f3 w3 a3
            have ha : a = n := ha
            subst ha
            rcases hb with ⟨z, _⟩ | ⟨_, rfl, rfl⟩
            · omega
            · have k3 := k2 s3 N3 f3
              have cl := che_lt (cst f dr (wk f dr (f 0 13)) (8 * cc f)) a
              have c1 := cb (che (cst f dr (wk f dr (f 0 13)) (8 * cc f)) a)
              have gb : Nat.gcd (cst f dr (wk f dr (f 0 13)) (8 * cc f) (che (cst f dr (wk f dr (f 0 13)) (8 * cc f)) a)) (sm (wk f dr (f 0 13)) (8 * cc f)) < 2 ^ 62 := Nat.lt_of_le_of_lt (Nat.gcd_le_right _ (by omega)) (by omega)
              have gp : 0 < Nat.gcd (cst f dr (wk f dr (f 0 13)) (8 * cc f) (che (cst f dr (wk f dr (f 0 13)) (8 * cc f)) a)) (sm (wk f dr (f 0 13)) (8 * cc f)) := Nat.gcd_pos_of_pos_right _ (by omega)
              refine rn I [] 99 ?_
              refine xbr_f (znl (Nat.le_refl _) (by omega)) ?_
              rcases (show w = 0 ∨ w = 1 ∨ w = 2 by omega) with rfl | rfl | rfl
              · refine xbr_t rfl ?_
                rw [if_pos rfl, ← nil (by omega)] at k3
                exact k3
              · rw [if_neg (by decide), if_pos rfl, ← ldv (by omega) gb] at k3
                refine xbr_f n10 (xbr_t rfl ?_)
                refine q_common' I hS rfl a3 (by omega) (by omega) ?_
                exact ⟨lne gb (by omega), k3⟩
              · rw [if_neg (by decide), if_neg (by decide), ← ldv (by omega) gb, ← a3] at k3
                refine xbr_f (by decide +kernel) (xbr_f (by decide +kernel) ?_)
                refine q_common' I hS rfl a3 (by omega) (by omega) ?_
                exact ⟨lne gb (by omega), k3⟩
          | succ m ih =>
            intro a ha bi li o7 o9 hb s3 N3 f3 w3 a3
            refine rn I [65] 99 ?_
            refine xbr_t (zlt (by omega) (by omega)) ?_
            refine inner a (by omega) bi li (fun s4 N4 f4 w4 a4 => ?_) (8 * cc f) 0 (by omega) s3 N3 f3 w3 a3
            have c1 := cb a
            have c2 := cb (che (cst f dr (wk f dr (f 0 13)) (8 * cc f)) a)
            refine rn I [53] 99 ?_
            have up := fun (b' : Int32) (l' : Int64) hb' => ih (a + 1) (by omega) b' l' (some (.long (lN (cst f dr (wk f dr (f 0 13)) (8 * cc f) a)))) (some (.int (nI (8 * cc f)))) (Or.inr ⟨by omega, hb'⟩) s4 N4 f4 w4 a4
            rw [n1s a] at up
            rcases hb with ⟨z, rfl⟩ | ⟨h1a, rfl, rfl⟩
            · subst z
              refine xbr_t zm1 ?_
              have ch : che (cst f dr (wk f dr (f 0 13)) (8 * cc f)) (0 + 1) = 0 := by show (if _ then 0 else 0) = 0; split <;> rfl
              exact up _ _ ⟨by rw [ch], by rw [ch]⟩
            · have cl := che_lt (cst f dr (wk f dr (f 0 13)) (8 * cc f)) a
              refine xbr_f (zn0 (by omega)) ?_
              have cmp := lcl (a := cst f dr (wk f dr (f 0 13)) (8 * cc f) a) (b := cst f dr (wk f dr (f 0 13)) (8 * cc f) (che (cst f dr (wk f dr (f 0 13)) (8 * cc f)) a)) (by omega) (by omega)
              by_cases hc : cst f dr (wk f dr (f 0 13)) (8 * cc f) a < cst f dr (wk f dr (f 0 13)) (8 * cc f) (che (cst f dr (wk f dr (f 0 13)) (8 * cc f)) a)
              · refine xbr_t (cmp.mpr hc) ?_
                have ch : che (cst f dr (wk f dr (f 0 13)) (8 * cc f)) (a + 1) = a := if_pos hc
                exact up _ _ ⟨by rw [ch], by rw [ch]⟩
              · refine xbr_f (fun z => hc (cmp.mp z)) ?_
                have ch : che (cst f dr (wk f dr (f 0 13)) (8 * cc f)) (a + 1) = che (cst f dr (wk f dr (f 0 13)) (8 * cc f)) a := if_neg hc
                exact up _ _ ⟨by rw [ch], by rw [ch]⟩
        exact outer n 0 (by omega) (-(nI 1)) (lN 0) none none (Or.inl ⟨rfl, rfl⟩) s1 N1 f1 w1 a1
    · refine xbr_t rfl ?_
      refine h0 (fun ⟨n', w, _, _, _, y, z⟩ => ?_)
      rw [z] at b
      exact b.elim (zn0 (by omega)) (znl y (by omega))
  · refine xbr_t rfl ?_
    refine h0 (fun ⟨n', w, x, y, z, _, _⟩ => ?_)
    rw [z] at b
    exact b.elim (znl x (by omega)) (znl y (by omega))
end DOES
