/-! the reference's odds; likely on both sides -/
def bst (g : Nat → Nat) : Nat → Nat
  | 0 => 0
  | n + 1 => if g (bst g n) < g n then n else bst g n
theorem bst_lt (g : Nat → Nat) : ∀ n, bst g n < n ∨ bst g n = 0
  | 0 => Or.inr rfl
  | n + 1 => by
    show (if g (bst g n) < g n then n else bst g n) < n + 1 ∨ _
    split
    · exact Or.inl (by omega)
    · rcases bst_lt g n with h | h
      · exact Or.inl (by omega)
      · exact Or.inl (by omega)
theorem sm_z {g : Nat → Nat} : ∀ {n : Nat}, sm g n = 0 → ∀ i, i < n → g i = 0
  | 0, _, i, hi => absurd hi (Nat.not_lt_zero _)
  | n + 1, h, i, hi => by
    have h : sm g n + g n = 0 := h
    by_cases e : i = n
    · subst e; omega
    · exact sm_z (n := n) (by omega) i (by omega)
theorem one64 : ¬ lN 1 = 0 := lne (by decide) (by decide)
section MODDS
variable {X : xXT} {P : xPT} {d S : Nat} {s : xS} {Q : xQ} {f : Nm} {ru : Int32} {e : Nat → Nat} {dn : Nat → Nat → Option Dn} {dr : Nat → Option Dn} {g : Nat → Nat}
theorem neg_lt {n : Nat} {c : Int32} (h : c = -(nI 1) ∨ ∃ j, j < n ∧ c = nI j) (hn : n < 2 ^ 30) : (c < nI 0 ↔ c = -(nI 1)) := by
  rcases h with rfl | ⟨j, hj, rfl⟩
  · exact ⟨fun _ => rfl, fun _ => zm1⟩
  · exact ⟨fun z => absurd z (zn0 (by omega)), fun z => absurd z (zm1n (by omega))⟩
theorem q_common' (I : xRl X P) (hS : S ≤ 128) {x y : Int64} {a b : Nat} (hx : x = lN a) (hy : y = lN b) (ha : a < 2 ^ 62) (hb : b < 2 ^ 62) (h : Q (some (.long (lN (Nat.gcd a b)))) s) : P (d + 1) (L0 S) 196 [.long x, .long y] s Q := by
  subst hx
  subst hy
  exact q_common I hS ha hb h
theorem q_odds (I : xRl X P) (hS : S ≤ 128) (hA : FA (s.1 80) f ru) (hW : MW s f) (hB : FB f) (hX : TXM s (f 0 15) dn) (hd : ∀ t, t < f 0 15 → ∀ c, c < 4 → TDs c (dn t c)) (hr : rdn ru (f 0 15) dn dr) (hN : NMd s e) (he : EB e) (hSS : S = 8 * cc f) {c1 c2 c3 c4 c5 : Int32} (h1 : ∀ k, k ≤ f 0 13 → c1 = nI k → okO f c1 c2 c3 c4 c5 → ∀ s' : xS, (∃ e', NMd s' e' ∧ EB e') → fX s s' → Q (some (.long (odd f dr k c2 c3 c4 c5))) s') (h0 : ¬ okO f c1 c2 c3 c4 c5 → Q (some (.long (-(lN 1)))) s) : P (d + 10) (L0 S) 197 [.ref 79, .int c1, .int c2, .int c3, .int c4, .int c5] s Q := by
  have hcc := hB.cc16
  have hn13 := hB.1.2.1
  have e3 : s.1 80 3 = nI (f 0 13) := hA.2.2.2.2.2.1
  have es : nI (f 0 13) = nI (f 0 13 + 1) - nI 1 := by rw [nsb (by omega)]; rfl
  have nz8 : ¬ nI 8 = nI 0 := by decide +kernel
  have nz2 : ¬ nI 2 = nI 0 := by decide +kernel
  have F61 : ¬ okO f c1 c2 c3 c4 c5 → X (d + 9) mX11_odds Q (L0 S) 61 [some (.ref 79), some (.int c1), some (.int c2), some (.int c3), some (.int c4), some (.int c5), none, none, none] [] s := by
    intro hn
    refine rn I [] 99 ?_
    exact h0 hn
  have T65 : okO f c1 c2 c3 c4 c5 → X (d + 9) mX11_odds Q (L0 S) 65 [some (.ref 79), some (.int c1), some (.int c2), some (.int c3), some (.int c4), some (.int c5), none, none, none] [] s := by
    intro hy
    obtain ⟨⟨k, hk, rfl⟩, o2, o3, o4, h5⟩ := id hy
    have k1 := h1 k hk rfl hy
    have ab := all_b (dr := dr) hB (show k ≤ 10 by omega)
    have sb := smf_b (dr := dr) (c1 := c2) (c2 := c3) (c3 := c4) hB (show k ≤ 10 by omega)
    have n2 := neg_lt o2 (by omega)
    have n3 : c3 < nI 0 ↔ c3 = -(nI 1) := neg_lt (n := 5) (o3.imp id (fun ⟨j, a, b, c⟩ => ⟨j, by omega, c⟩)) (by decide)
    have n4 : c4 < nI 0 ↔ c4 = -(nI 1) := neg_lt (n := 2) (o4.imp id (fun z => z.elim (fun z => ⟨0, by decide, z⟩) (fun z => ⟨1, by decide, z⟩))) (by decide)
    refine rn I [89] 99 ?_
    refine q_findWeights I hS hA hW hB hX hd hr hN he (k := k) (by omega) (fun s1 N1 f1 w1 a1 => ?_)
    have k2 := k1 s1 N1 f1
    unfold odd at k2
    by_cases hz : sm (wk f dr k) (8 * cc f) = 0
    · rw [if_pos hz] at k2
      refine xbr_t (by rw [a1]; exact (lze (by omega)).mpr hz) ?_
      exact k2
    · rw [if_neg hz] at k2
      refine xbr_f (by rw [a1]; exact fun q => hz ((lze (by omega)).mp q)) ?_
      have loop : ∀ m i, i + m = 8 * cc f → X (d + 9) mX11_odds Q (L0 S) 89 [some (.ref 79), some (.int (nI k)), some (.int c2), some (.int c3), some (.int c4), some (.int c5), some (.long (lN (smf c2 c3 c4 (wk f dr k) i))), none, some (.int (nI i))] [] s1 := by
        intro m
        induction m with
        | zero =>
          intro i hi
          have hi : i = 8 * cc f := hi
          subst hi
          have gb : Nat.gcd (smf c2 c3 c4 (wk f dr k) (8 * cc f)) (sm (wk f dr k) (8 * cc f)) < 2 ^ 62 := Nat.lt_of_le_of_lt (Nat.gcd_le_right _ (by omega)) (by omega)
          have gp : 0 < Nat.gcd (smf c2 c3 c4 (wk f dr k) (8 * cc f)) (sm (wk f dr k) (8 * cc f)) := Nat.gcd_pos_of_pos_right _ (by omega)
          refine rn I [] 99 ?_
          refine q_states I hS (f1.MW hW) ?_
          refine xbr_f (znl (Nat.le_refl _) (by omega)) ?_
          rcases h5 with rfl | rfl
          · refine xbr_t rfl ?_
            refine q_common' I hS rfl a1 (by omega) (by omega) ?_
            refine And.intro (lne gb (by omega)) ?_
            rw [if_pos rfl, ← ldv (by omega) gb] at k2
            exact k2
          · refine xbr_f n10 ?_
            refine q_common' I hS rfl a1 (by omega) (by omega) ?_
            refine And.intro (lne gb (by omega)) ?_
            rw [if_neg n10, ← ldv (by omega) gb, ← a1] at k2
            exact k2
        | succ m ih =>
          intro i hi
          have d8 : nI i / nI 8 = nI (i / 8) := pk_div (by omega) (by decide) (by decide)
          have r2 : nI i - nI i / nI 2 * nI 2 = nI (i % 2) := pk_rem (by omega) (by decide) (by decide)
          have F : ¬ flt c2 c3 c4 i → X (d + 9) mX11_odds Q (L0 S) 150 [some (.ref 79), some (.int (nI k)), some (.int c2), some (.int c3), some (.int c4), some (.int c5), some (.long (lN (smf c2 c3 c4 (wk f dr k) i))), none, some (.int (nI i))] [] s1 := by
            intro hn
            refine rn I [89] 99 ?_
            have q := ih (i + 1) (by omega)
            rw [smf_n hn, n1s i] at q
            exact q
          have T : flt c2 c3 c4 i → X (d + 9) mX11_odds Q (L0 S) 138 [some (.ref 79), some (.int (nI k)), some (.int c2), some (.int c3), some (.int c4), some (.int c5), some (.long (lN (smf c2 c3 c4 (wk f dr k) i))), none, some (.int (nI i))] [] s1 := by
            intro hn
            refine rn I [89] 99 ?_
            refine ⟨i, ⟨by omega, rfl⟩, ?_⟩
            have q := ih (i + 1) (by omega)
            rw [smf_s hn, n1s i, ← lad, ← w1 i (by omega)] at q
            exact q
          have A124 : (c2 = -(nI 1) ∨ c2 = nI (i / 8)) → (c3 = -(nI 1) ∨ c3 = nI (i % 8 / 2 + 1)) → X (d + 9) mX11_odds Q (L0 S) 124 [some (.ref 79), some (.int (nI k)), some (.int c2), some (.int c3), some (.int c4), some (.int c5), some (.long (lN (smf c2 c3 c4 (wk f dr k) i))), none, some (.int (nI i))] [] s1 := by
            intro b1 b2
            refine rn I [138, 150] 99 ?_
            refine xbr_c (fun q => T ⟨b1, b2, Or.inl (n4.mp q)⟩) (fun q => ?_)
            refine And.intro nz2 ?_
            refine xbr_c (fun q2 => T ⟨b1, b2, Or.inr (by rw [← r2]; exact q2.symm)⟩) (fun q2 => F (fun z => z.2.2.elim (fun z => q (n4.mpr z)) (fun z => q2 (by rw [r2]; exact z.symm))))
          have A111 : (c2 = -(nI 1) ∨ c2 = nI (i / 8)) → X (d + 9) mX11_odds Q (L0 S) 111 [some (.ref 79), some (.int (nI k)), some (.int c2), some (.int c3), some (.int c4), some (.int c5), some (.long (lN (smf c2 c3 c4 (wk f dr k) i))), none, some (.int (nI i))] [] s1 := by
            intro b1
            refine rn I [124, 150] 99 ?_
            refine xbr_c (fun q => A124 b1 (Or.inl (n3.mp q))) (fun q => ?_)
            refine q_sizeOf I hS (by omega) ?_
            refine xbr_c (fun q2 => A124 b1 (Or.inr q2.symm)) (fun q2 => F (fun z => z.2.1.elim (fun z => q (n3.mpr z)) (fun z => q2 z.symm)))
          refine rn I [111, 150] 99 ?_
          refine q_states I hS (f1.MW hW) ?_
          refine xbr_t (zlt (by omega) (by omega)) ?_
          refine xbr_c (fun q => A111 (Or.inl (n2.mp q))) (fun q => ?_)
          refine And.intro nz8 ?_
          refine xbr_c (fun q2 => A111 (Or.inr (by rw [← d8]; exact q2.symm))) (fun q2 => F (fun z => z.1.elim (fun z => q (n2.mpr z)) (fun z => q2 (by rw [d8]; exact z.symm))))
      exact loop (8 * cc f) 0 (by omega)
  have A41 : (∃ k, k ≤ f 0 13 ∧ c1 = nI k) → (c2 = -(nI 1) ∨ ∃ j, j < cc f ∧ c2 = nI j) → (c3 = -(nI 1) ∨ ∃ j, 1 ≤ j ∧ j ≤ 4 ∧ c3 = nI j) → X (d + 9) mX11_odds Q (L0 S) 41 [some (.ref 79), some (.int c1), some (.int c2), some (.int c3), some (.int c4), some (.int c5), none, none, none] [] s := by
    intro a1 a2 a3
    refine rn I [61, 65] 99 ?_
    refine q_isIn I hS (fun b1 b2 => ?_) (fun b => ?_)
    · refine xbr_f n10 ?_
      have o4 : c4 = -(nI 1) ∨ c4 = nI 0 ∨ c4 = nI 1 := by
        rcases rmb1 (n := 2) (by decide) b1 (by rw [nsb (by decide)]; exact b2) with z | ⟨j, hj, z⟩
        · exact Or.inl z
        · rcases (show j = 0 ∨ j = 1 by omega) with rfl | rfl
          · exact Or.inr (Or.inl z)
          · exact Or.inr (Or.inr z)
      refine q_isIn I hS (fun b1 b2 => ?_) (fun b => ?_)
      · refine xbr_f n10 ?_
        obtain ⟨j, hj, z⟩ := rm1 (n := 2) (by decide) b1 (by rw [nsb (by decide)]; exact b2)
        refine T65 ⟨a1, a2, a3, o4, ?_⟩
        rcases (show j = 0 ∨ j = 1 by omega) with rfl | rfl
        · exact Or.inl z
        · exact Or.inr z
      · refine xbr_t rfl ?_
        have g := rm2 (n := 2) (c := c5) (by decide) (by rw [nsb (by decide)]; exact b)
        exact F61 (fun z => z.2.2.2.2.elim (g 0 (by decide)) (g 1 (by decide)))
    · refine xbr_t rfl ?_
      have g := rmb2 (n := 2) (c := c4) (by decide) (by rw [nsb (by decide)]; exact b)
      exact F61 (fun z => z.2.2.2.1.elim g.1 (fun z => z.elim (g.2 0 (by decide)) (g.2 1 (by decide))))
  have A27 : (∃ k, k ≤ f 0 13 ∧ c1 = nI k) → (c2 = -(nI 1) ∨ ∃ j, j < cc f ∧ c2 = nI j) → X (d + 9) mX11_odds Q (L0 S) 27 [some (.ref 79), some (.int c1), some (.int c2), some (.int c3), some (.int c4), some (.int c5), none, none, none] [] s := by
    intro a1 a2
    refine rn I [41, 61] 99 ?_
    refine xbr_c (fun q => A41 a1 a2 (Or.inl q)) (fun q => ?_)
    refine q_isIn I hS (fun b1 b2 => ?_) (fun b => ?_)
    · refine xbr_f n10 ?_
      refine A41 a1 a2 (Or.inr ?_)
      obtain ⟨m, hm, rfl⟩ := nI_of (x := c3) (fun z => b1 (Int32.lt_trans z (by decide)))
      exact ⟨m, zge hm (by decide) b1, zge (by decide) hm b2, rfl⟩
    · refine xbr_t rfl ?_
      refine F61 (fun z => z.2.2.1.elim q (fun ⟨j, h1, h2, h3⟩ => ?_))
      rw [h3] at b
      exact b.elim (znl h1 (by omega)) (znl h2 (by omega))
  refine inX11_odds I (L0ok hS) ?_
  refine rn I [27, 61] 99 ?_
  refine ⟨3, ⟨by decide, rfl⟩, ?_⟩
  refine q_isIn I hS (fun b1 b2 => ?_) (fun b => ?_)
  · rw [e3, es] at b2
    obtain ⟨k, hk, ek⟩ := rm1 (by omega) b1 b2
    refine xbr_f n10 ?_
    refine xbr_c (fun q => A27 ⟨k, by omega, ek⟩ (Or.inl q)) (fun q => ?_)
    refine q_isCell I hS hW hB (fun j hj ej => ?_) (fun hc => ?_)
    · refine xbr_f n10 ?_
      exact A27 ⟨k, by omega, ek⟩ (Or.inr ⟨j, hj, ej⟩)
    · refine xbr_t rfl ?_
      exact F61 (fun z => z.2.1.elim q (fun ⟨j, h1, h2⟩ => hc j h1 h2))
  · rw [e3, es] at b
    refine xbr_t rfl ?_
    exact F61 (fun z => z.1.elim (fun k ⟨h1, h2⟩ => rm2 (by omega) b k (by omega) h2))
theorem m_heaviest (I : xRl X P) (hS : S ≤ 128) {n : Nat} (hSS : S = n) (hn : 1 ≤ n) (e59 : s.1 59 2 = nI S) (hW : WC s n g) (hg : ∀ i, g i < 2 ^ 62) (h : Q (some (.int (nI (bst g n)))) s) : P (d + 1) (L0 S) 65 [.ref 59] s Q := by
  subst hSS
  have loop : ∀ m i, i + m = S → 1 ≤ i → X d mX6_heaviest Q (L0 S) 4 [some (.ref 59), some (.int (nI (bst g i))), some (.int (nI i))] [] s := by
    intro m
    induction m with
    | zero =>
      intro i hi h1
      have hi : i = S := hi
      subst hi
      refine rn I [] 99 ?_
      refine xbr_f (by rw [e59]; exact znl (Nat.le_refl _) (by omega)) ?_
      exact h
    | succ m ih =>
      intro i hi h1
      have bl : bst g i < i := by rcases bst_lt g i with z | z <;> omega
      refine rn I [4] 99 ?_
      refine xbr_t (by rw [e59]; exact zlt (by omega) (by omega)) ?_
      refine ⟨i, ⟨by omega, rfl⟩, ?_⟩
      refine ⟨bst g i, ⟨by omega, rfl⟩, ?_⟩
      have k := ih (i + 1) (by omega) (by omega)
      have cmp : nI 0 < lg_cmp (s.2 61 i) (s.2 61 (bst g i)) ↔ g (bst g i) < g i := by rw [hW i (by omega), hW (bst g i) (by omega)]; exact lcg (hg _) (hg _)
      by_cases hc : g (bst g i) < g i
      · refine xbr_t (cmp.mpr hc) ?_
        rw [show bst g (i + 1) = i from if_pos hc, n1s i] at k
        exact k
      · refine xbr_f (fun q => hc (cmp.mp q)) ?_
        rw [show bst g (i + 1) = bst g i from if_neg hc, n1s i] at k
        exact k
  refine inX6_heaviest I (L0ok hS) ?_
  refine rn I [4] 99 ?_
  have k := loop (S - 1) 1 (by omega) (by decide)
  rw [show bst g 1 = 0 by show (if g 0 < g 0 then 0 else 0) = 0; split <;> rfl] at k
  exact k
def lik (f : Nm) (dr : Nat → Option Dn) (k : Nat) : Int32 := if sm (wk f dr k) (8 * cc f) = 0 then -(nI 1) else nI (bst (wk f dr k) (8 * cc f))
theorem wk62 {k : Nat} (hk : k ≤ 10) (i : Nat) : wk f dr k i < 2 ^ 62 := Nat.lt_of_le_of_lt (wk_b hk i) (by decide)
theorem m_Likely (I : xRl X P) (hS : S ≤ 128) (hF : FC s.1 1 f ru) (hB : FB f) (hX : TXC s (f 0 15) dn) (hr : rdn ru (f 0 15) dn dr) (hT : TR dr) (hN : NC s e) (he : EB e) (hSS : S = 8 * cc f) (e59 : s.1 59 2 = nI S) {c1 : Int32} (h1 : ∀ k, k ≤ f 0 13 → c1 = nI k → ∀ s' : xS, (∃ e', NC s' e' ∧ EB e') → fS s s' → Q (some (.int (lik f dr k))) s') (h0 : (∀ k, k ≤ f 0 13 → c1 ≠ nI k) → Q (some (.int (-(nI 1)))) s) : P (d + 10) (L0 S) 112 [.ref 0, .int c1] s Q := by
  have hcc := hB.cc16
  have hn13 := hB.1.2.1
  refine inX10_likely I (L0ok hS) ?_
  refine rn I [] 99 ?_
  refine m_hasReports I hS hF hB (fun k hk ek => ?_) (fun hc => ?_)
  · subst ek
    have ab := all_b (dr := dr) hB (show k ≤ 10 by omega)
    refine xbr_f n10 ?_
    refine m_weigh I hS hF hB hX hr hT hN he hSS e59 (by omega) (fun s1 N1 f1 w1 => ?_)
    have k2 := h1 k hk rfl s1 N1 f1
    unfold lik at k2
    by_cases hz : sm (wk f dr k) (8 * cc f) = 0
    · rw [if_pos hz] at k2
      exact xbr_t ((lze (by omega)).mpr hz) k2
    · rw [if_neg hz] at k2
      refine xbr_f (fun q => hz ((lze (by omega)).mp q)) ?_
      exact m_heaviest I hS hSS (by omega) (by rw [f1.1 59 (by decide) (by decide) (by decide)]; exact e59) w1 (wk62 (by omega)) k2
  · refine xbr_t rfl ?_
    exact h0 hc
theorem q_likely (I : xRl X P) (hS : S ≤ 128) (hA : FA (s.1 80) f ru) (hW : MW s f) (hB : FB f) (hX : TXM s (f 0 15) dn) (hd : ∀ t, t < f 0 15 → ∀ c, c < 4 → TDs c (dn t c)) (hr : rdn ru (f 0 15) dn dr) (hN : NMd s e) (he : EB e) (hSS : S = 8 * cc f) {c1 : Int32} (h1 : ∀ k, k ≤ f 0 13 → c1 = nI k → ∀ s' : xS, (∃ e', NMd s' e' ∧ EB e') → fX s s' → Q (some (.int (lik f dr k))) s') (h0 : (∀ k, k ≤ f 0 13 → c1 ≠ nI k) → Q (some (.int (-(nI 1)))) s) : P (d + 10) (L0 S) 198 [.ref 79, .int c1] s Q := by
  have hcc := hB.cc16
  have hn13 := hB.1.2.1
  have e3 : s.1 80 3 = nI (f 0 13) := hA.2.2.2.2.2.1
  have es : nI (f 0 13) = nI (f 0 13 + 1) - nI 1 := by rw [nsb (by omega)]; rfl
  refine inX11_likely I (L0ok hS) ?_
  refine rn I [25] 99 ?_
  refine ⟨3, ⟨by decide, rfl⟩, ?_⟩
  refine q_isIn I hS (fun b1 b2 => ?_) (fun b => ?_)
  · rw [e3, es] at b2
    obtain ⟨k, hk, rfl⟩ := rm1 (by omega) b1 b2
    refine xbr_f n10 ?_
    refine q_findWeights I hS hA hW hB hX hd hr hN he (k := k) (by omega) (fun s1 N1 f1 w1 a1 => ?_)
    have k2 := h1 k (by omega) rfl s1 N1 f1
    have g62 := wk62 (f := f) (dr := dr) (show k ≤ 10 by omega)
    have loop : ∀ m i, i + m = 8 * cc f → X (d + 9) mX11_likely Q (L0 S) 25 [some (.ref 79), some (.int (nI k)), some (.int (if sm (wk f dr k) i = 0 then -(nI 1) else nI (bst (wk f dr k) i))), some (.int (nI i))] [] s1 := by
      intro m
      induction m with
      | zero =>
        intro i hi
        have hi : i = 8 * cc f := hi
        subst hi
        refine rn I [] 99 ?_
        refine q_states I hS (f1.MW hW) ?_
        refine xbr_f (znl (Nat.le_refl _) (by omega)) ?_
        exact k2
      | succ m ih =>
        intro i hi
        have q := ih (i + 1) (by omega)
        have bl := bst_lt (wk f dr k) i
        have ss : sm (wk f dr k) (i + 1) = sm (wk f dr k) i + wk f dr k i := rfl
        have c0 : nI 0 < lg_cmp (s1.2 88 i) (lN 0) ↔ 0 < wk f dr k i := by rw [w1 i (by omega)]; exact lcg (g62 i) (by decide)
        refine rn I [25] 99 ?_
        refine q_states I hS (f1.MW hW) ?_
        refine xbr_t (zlt (by omega) (by omega)) ?_
        refine ⟨i, ⟨by omega, rfl⟩, ?_⟩
        by_cases hp : 0 < wk f dr k i
        · refine xbr_t (c0.mpr hp) ?_
          by_cases hz : sm (wk f dr k) i = 0
          · rw [if_pos hz]
            refine xbr_t zm1 ?_
            have bb : bst (wk f dr k) (i + 1) = i := by
              show (if wk f dr k (bst (wk f dr k) i) < wk f dr k i then i else bst (wk f dr k) i) = i
              rcases bl with z | z
              · rw [sm_z hz _ z, if_pos hp]
              · by_cases i0 : i = 0
                · subst i0
                  rw [z]
                  split <;> rfl
                · rw [sm_z hz _ (by omega), if_pos hp]
            rw [if_neg (by omega), bb, n1s i] at q
            exact q
          · rw [if_neg hz]
            have bl2 : bst (wk f dr k) i < i := by
              rcases bl with z | z
              · exact z
              · by_cases i0 : i = 0
                · subst i0
                  exact absurd rfl hz
                · omega
            refine xbr_f (zn0 (by omega)) ?_
            refine ⟨i, ⟨by omega, rfl⟩, ?_⟩
            refine ⟨bst (wk f dr k) i, ⟨by omega, rfl⟩, ?_⟩
            have cmp : nI 0 < lg_cmp (s1.2 88 i) (s1.2 88 (bst (wk f dr k) i)) ↔ wk f dr k (bst (wk f dr k) i) < wk f dr k i := by rw [w1 i (by omega), w1 (bst (wk f dr k) i) (by omega)]; exact lcg (g62 _) (g62 _)
            rw [if_neg (by omega), n1s i] at q
            by_cases hc : wk f dr k (bst (wk f dr k) i) < wk f dr k i
            · refine xbr_t (cmp.mpr hc) ?_
              rw [show bst (wk f dr k) (i + 1) = i from if_pos hc] at q
              exact q
            · refine xbr_f (fun z => hc (cmp.mp z)) ?_
              rw [show bst (wk f dr k) (i + 1) = bst (wk f dr k) i from if_neg hc] at q
              exact q
        · refine xbr_f (fun z => hp (c0.mp z)) ?_
          rw [show bst (wk f dr k) (i + 1) = bst (wk f dr k) i from if_neg (by omega), show sm (wk f dr k) (i + 1) = sm (wk f dr k) i by omega, n1s i] at q
          exact q
    exact loop (8 * cc f) 0 (by omega)
  · rw [e3, es] at b
    refine xbr_t rfl ?_
    exact h0 (fun k hk => rm2 (by omega) b k (by omega))
end MODDS
