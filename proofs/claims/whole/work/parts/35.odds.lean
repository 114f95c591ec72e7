/-! odds and likely -/
abbrev flt (c1 c2 c3 : Int32) (st : Nat) : Prop := (c1 = -(nI 1) ∨ c1 = nI (st / 8)) ∧ (c2 = -(nI 1) ∨ c2 = nI (st % 8 / 2 + 1)) ∧ (c3 = -(nI 1) ∨ c3 = nI (st % 2))
def smf (c1 c2 c3 : Int32) (g : Nat → Nat) : Nat → Nat := sm (fun st => if flt c1 c2 c3 st then g st else 0)
theorem smf_s {c1 c2 c3 : Int32} {g : Nat → Nat} {i : Nat} (h : flt c1 c2 c3 i) : smf c1 c2 c3 g (i + 1) = smf c1 c2 c3 g i + g i := by
  show sm _ i + (if flt c1 c2 c3 i then g i else 0) = _
  rw [if_pos h]
  rfl
theorem smf_n {c1 c2 c3 : Int32} {g : Nat → Nat} {i : Nat} (h : ¬ flt c1 c2 c3 i) : smf c1 c2 c3 g (i + 1) = smf c1 c2 c3 g i := by
  show sm _ i + (if flt c1 c2 c3 i then g i else 0) = _
  rw [if_neg h]
  rfl
theorem smf_le {c1 c2 c3 : Int32} {g : Nat → Nat} {b : Nat} (h : ∀ i, g i ≤ b) (n : Nat) : smf c1 c2 c3 g n ≤ n * b := sm_le (fun i => by split; exact h i; exact Nat.zero_le _) n
section ODDS
variable {X : xXT} {P : xPT} {d S : Nat} {s : xS} {Q : xQ} {f : Nm} {ru : Int32} {e : Nat → Nat} {dn : Nat → Nat → Option Dn} {dr : Nat → Option Dn} {g : Nat → Nat}
theorem m_weightOf (I : xRl X P) (hS : S ≤ 128) {n : Nat} (hSS : S = n) (e59 : s.1 59 2 = nI S) (hW : WC s n g) {c1 c2 c3 : Int32} (h : Q (some (.long (lN (smf c1 c2 c3 g n)))) s) : P (d + 1) (L0 S) 64 [.ref 59, .int c1, .int c2, .int c3] s Q := by
  subst hSS
  have nz8 : ¬ nI 8 = nI 0 := by decide +kernel
  have nz2 : ¬ nI 2 = nI 0 := by decide +kernel
  have loop : ∀ m i, i + m = S → ∀ o7 : Option Value, X d mX6_weightOf Q (L0 S) 6 [some (.ref 59), some (.int c1), some (.int c2), some (.int c3), some (.long (lN (smf c1 c2 c3 g i))), none, some (.int (nI i)), o7] [] s := by
    intro m
    induction m with
    | zero =>
      intro i hi o7
      have hi : i = S := hi
      subst hi
      refine rn I [] 99 ?_
      refine xbr_f (by rw [e59]; exact znl (Nat.le_refl _) (by omega)) ?_
      exact h
    | succ m ih =>
      intro i hi o7
      have d8 : nI i / nI 8 = nI (i / 8) := pk_div (by omega) (by decide) (by decide)
      have r8 : nI i - nI i / nI 8 * nI 8 = nI (i % 8) := pk_rem (by omega) (by decide) (by decide)
      have sz : (nI i - nI i / nI 8 * nI 8) / nI 2 + nI 1 = nI (i % 8 / 2 + 1) := by rw [r8, pk_div (by omega) (by decide) (by decide), nad]
      have r2 : nI i - nI i / nI 2 * nI 2 = nI (i % 2) := pk_rem (by omega) (by decide) (by decide)
      have F : ¬ flt c1 c2 c3 i → ∀ o, X d mX6_weightOf Q (L0 S) 64 [some (.ref 59), some (.int c1), some (.int c2), some (.int c3), some (.long (lN (smf c1 c2 c3 g i))), none, some (.int (nI i)), o] [] s := by
        intro hn o
        refine rn I [6] 99 ?_
        refine xbr_t rfl ?_
        have k := ih (i + 1) (by omega) (some (.int (nI 0)))
        rw [smf_n hn, n1s i] at k
        exact k
      have T : flt c1 c2 c3 i → ∀ o, X d mX6_weightOf Q (L0 S) 60 [some (.ref 59), some (.int c1), some (.int c2), some (.int c3), some (.long (lN (smf c1 c2 c3 g i))), none, some (.int (nI i)), o] [] s := by
        intro hn o
        refine rn I [6] 99 ?_
        refine xbr_f n10 ?_
        refine ⟨i, ⟨by omega, rfl⟩, ?_⟩
        have k := ih (i + 1) (by omega) (some (.int (nI 1)))
        rw [smf_s hn, n1s i, ← lad, ← hW i (by omega)] at k
        exact k
      have A47 : (c1 = -(nI 1) ∨ c1 = nI (i / 8)) → (c2 = -(nI 1) ∨ c2 = nI (i % 8 / 2 + 1)) → X d mX6_weightOf Q (L0 S) 47 [some (.ref 59), some (.int c1), some (.int c2), some (.int c3), some (.long (lN (smf c1 c2 c3 g i))), none, some (.int (nI i)), o7] [] s := by
        intro a1 a2
        refine rn I [60, 64] 99 ?_
        refine xbr_c (fun q => T ⟨a1, a2, Or.inl q⟩ _) (fun q => ?_)
        refine And.intro nz2 ?_
        refine xbr_c (fun q2 => T ⟨a1, a2, Or.inr (by rw [← r2]; exact q2)⟩ _) (fun q2 => F (fun z => z.2.2.elim q (fun z => q2 (by rw [r2]; exact z))) _)
      have A29 : (c1 = -(nI 1) ∨ c1 = nI (i / 8)) → X d mX6_weightOf Q (L0 S) 29 [some (.ref 59), some (.int c1), some (.int c2), some (.int c3), some (.long (lN (smf c1 c2 c3 g i))), none, some (.int (nI i)), o7] [] s := by
        intro a1
        refine rn I [47, 64] 99 ?_
        refine xbr_c (fun q => A47 a1 (Or.inl q)) (fun q => ?_)
        refine And.intro nz8 (And.intro nz2 ?_)
        refine xbr_c (fun q2 => A47 a1 (Or.inr (by rw [← sz]; exact q2))) (fun q2 => F (fun z => z.2.1.elim q (fun z => q2 (by rw [sz]; exact z))) _)
      refine rn I [29, 64] 99 ?_
      refine xbr_t (by rw [e59]; exact zlt (by omega) (by omega)) ?_
      refine xbr_c (fun q => A29 (Or.inl q)) (fun q => ?_)
      refine And.intro nz8 ?_
      refine xbr_c (fun q2 => A29 (Or.inr (by rw [← d8]; exact q2))) (fun q2 => F (fun z => z.1.elim q (fun z => q2 (by rw [d8]; exact z))) _)
  refine inX6_weightOf I (L0ok hS) ?_
  refine rn I [6] 99 ?_
  exact loop S 0 (by omega) none
def okO (f : Nm) (c1 c2 c3 c4 c5 : Int32) : Prop := (∃ k, k ≤ f 0 13 ∧ c1 = nI k) ∧ (c2 = -(nI 1) ∨ ∃ j, j < cc f ∧ c2 = nI j) ∧ (c3 = -(nI 1) ∨ ∃ j, 1 ≤ j ∧ j ≤ 4 ∧ c3 = nI j) ∧ (c4 = -(nI 1) ∨ c4 = nI 0 ∨ c4 = nI 1) ∧ (c5 = nI 0 ∨ c5 = nI 1)
/-- what odds come to -/
def odd (f : Nm) (dr : Nat → Option Dn) (k : Nat) (c2 c3 c4 c5 : Int32) : Int64 := if sm (wk f dr k) (8 * cc f) = 0 then -(lN 1) else lN ((if c5 = nI 0 then smf c2 c3 c4 (wk f dr k) (8 * cc f) else sm (wk f dr k) (8 * cc f)) / Nat.gcd (smf c2 c3 c4 (wk f dr k) (8 * cc f)) (sm (wk f dr k) (8 * cc f)))
theorem all_b {f : Nm} {dr : Nat → Option Dn} {k : Nat} (hB : FB f) (hk : k ≤ 10) : sm (wk f dr k) (8 * cc f) < 2 ^ 47 := by
  have hcc := hB.cc16
  have h1 := sm_le (wk_b (f := f) (dr := dr) hk) (8 * cc f)
  have h2 : 8 * cc f * 990000000000 ≤ 128 * 990000000000 := Nat.mul_le_mul_right _ (by omega)
  omega
theorem smf_b {f : Nm} {dr : Nat → Option Dn} {k : Nat} {c1 c2 c3 : Int32} (hB : FB f) (hk : k ≤ 10) : smf c1 c2 c3 (wk f dr k) (8 * cc f) < 2 ^ 47 := by
  have hcc := hB.cc16
  have h1 := smf_le (c1 := c1) (c2 := c2) (c3 := c3) (wk_b (f := f) (dr := dr) hk) (8 * cc f)
  have h2 : 8 * cc f * 990000000000 ≤ 128 * 990000000000 := Nat.mul_le_mul_right _ (by omega)
  omega
theorem m_Odds (I : xRl X P) (hS : S ≤ 128) (hF : FC s.1 1 f ru) (hB : FB f) (hX : TXC s (f 0 15) dn) (hr : rdn ru (f 0 15) dn dr) (hT : TR dr) (hN : NC s e) (he : EB e) (hSS : S = 8 * cc f) (e59 : s.1 59 2 = nI S) {c1 c2 c3 c4 c5 : Int32} (h1 : ∀ k, k ≤ f 0 13 → c1 = nI k → okO f c1 c2 c3 c4 c5 → ∀ s' : xS, (∃ e', NC s' e' ∧ EB e') → fS s s' → Q (some (.long (odd f dr k c2 c3 c4 c5))) s') (h0 : ¬ okO f c1 c2 c3 c4 c5 → Q (some (.long (-(lN 1)))) s) : P (d + 10) (L0 S) 111 [.ref 0, .int c1, .int c2, .int c3, .int c4, .int c5] s Q := by
  have hcc := hB.cc16
  have hn13 := hB.1.2.1
  have F74 : ¬ okO f c1 c2 c3 c4 c5 → X (d + 9) mX10_odds Q (L0 S) 74 [some (.ref 0), some (.int c1), some (.int c2), some (.int c3), some (.int c4), some (.int c5), none, none, none, none, none] [] s := by
    intro hn
    refine rn I [] 99 ?_
    refine xbr_t rfl ?_
    exact h0 hn
  have T70 : okO f c1 c2 c3 c4 c5 → X (d + 9) mX10_odds Q (L0 S) 70 [some (.ref 0), some (.int c1), some (.int c2), some (.int c3), some (.int c4), some (.int c5), none, none, none, none, none] [] s := by
    intro hy
    obtain ⟨⟨k, hk, rfl⟩, -, -, -, h5⟩ := id hy
    have k1 := h1 k hk rfl hy
    have ab := all_b (dr := dr) hB (show k ≤ 10 by omega)
    have sb := smf_b (dr := dr) (c1 := c2) (c2 := c3) (c3 := c4) hB (show k ≤ 10 by omega)
    refine rn I [] 99 ?_
    refine xbr_f n10 ?_
    refine m_weigh I hS hF hB hX hr hT hN he hSS e59 (by omega) (fun s1 N1 f1 w1 => ?_)
    have k2 := k1 s1 N1 f1
    unfold odd at k2
    by_cases hz : sm (wk f dr k) (8 * cc f) = 0
    · rw [if_pos hz] at k2
      refine xbr_t ((lze (by omega)).mpr hz) ?_
      exact k2
    · rw [if_neg hz] at k2
      refine xbr_f (fun q => hz ((lze (by omega)).mp q)) ?_
      refine m_weightOf I hS hSS (by rw [f1.1 59 (by decide) (by decide) (by decide)]; exact e59) w1 ?_
      rcases h5 with rfl | rfl
      · refine xbr_t rfl ?_
        rw [if_pos rfl] at k2
        exact m_low I hS (by omega) (by omega) ab (by omega) k2
      · refine xbr_f n10 ?_
        rw [if_neg n10] at k2
        exact m_low I hS (by omega) (by omega) ab (by omega) k2
  have A59 : (∃ k, k ≤ f 0 13 ∧ c1 = nI k) → (c2 = -(nI 1) ∨ ∃ j, j < cc f ∧ c2 = nI j) → (c3 = -(nI 1) ∨ ∃ j, 1 ≤ j ∧ j ≤ 4 ∧ c3 = nI j) → (c4 = -(nI 1) ∨ c4 = nI 0 ∨ c4 = nI 1) → X (d + 9) mX10_odds Q (L0 S) 59 [some (.ref 0), some (.int c1), some (.int c2), some (.int c3), some (.int c4), some (.int c5), none, none, none, none, none] [] s := by
    intro a1 a2 a3 a4
    refine rn I [70, 74] 99 ?_
    refine xbr_c (fun q => T70 ⟨a1, a2, a3, a4, Or.inl q⟩) (fun q => ?_)
    refine xbr_c (fun q2 => T70 ⟨a1, a2, a3, a4, Or.inr q2⟩) (fun q2 => F74 (fun z => z.2.2.2.2.elim q q2))
  have A42 : (∃ k, k ≤ f 0 13 ∧ c1 = nI k) → (c2 = -(nI 1) ∨ ∃ j, j < cc f ∧ c2 = nI j) → (c3 = -(nI 1) ∨ ∃ j, 1 ≤ j ∧ j ≤ 4 ∧ c3 = nI j) → X (d + 9) mX10_odds Q (L0 S) 42 [some (.ref 0), some (.int c1), some (.int c2), some (.int c3), some (.int c4), some (.int c5), none, none, none, none, none] [] s := by
    intro a1 a2 a3
    refine rn I [59, 74] 99 ?_
    refine xbr_c (fun q => A59 a1 a2 a3 (Or.inl q)) (fun q => ?_)
    refine xbr_c (fun q2 => A59 a1 a2 a3 (Or.inr (Or.inl q2))) (fun q2 => ?_)
    refine xbr_c (fun q3 => A59 a1 a2 a3 (Or.inr (Or.inr q3))) (fun q3 => F74 (fun z => z.2.2.2.1.elim q (fun z => z.elim q2 q3)))
  have A27 : (∃ k, k ≤ f 0 13 ∧ c1 = nI k) → (c2 = -(nI 1) ∨ ∃ j, j < cc f ∧ c2 = nI j) → X (d + 9) mX10_odds Q (L0 S) 27 [some (.ref 0), some (.int c1), some (.int c2), some (.int c3), some (.int c4), some (.int c5), none, none, none, none, none] [] s := by
    intro a1 a2
    refine rn I [42, 74] 99 ?_
    refine xbr_c (fun q => A42 a1 a2 (Or.inl q)) (fun q => ?_)
    refine xbr_c (fun q2 => F74 (fun z => z.2.2.1.elim q (fun ⟨j, h1, h2, h3⟩ => ?_))) (fun q2 => ?_)
    · rw [h3] at q2
      exact znl h1 (by omega) q2
    · refine xbr_c (fun q3 => F74 (fun z => z.2.2.1.elim q (fun ⟨j, h1, h2, h3⟩ => ?_))) (fun q3 => A42 a1 a2 (Or.inr ?_))
      · rw [h3] at q3
        exact znl h2 (by omega) q3
      · obtain ⟨m, hm, rfl⟩ := nI_of (x := c3) (fun z => q2 (Int32.lt_trans z (by decide)))
        exact ⟨m, zge hm (by decide) q2, zge (by decide) hm q3, rfl⟩
  refine inX10_odds I (L0ok hS) ?_
  refine rn I [27, 74] 99 ?_
  refine m_hasReports I hS hF hB (fun k hk ek => ?_) (fun hc => ?_)
  · refine xbr_f n10 ?_
    refine xbr_c (fun q => A27 ⟨k, hk, ek⟩ (Or.inl q)) (fun q => ?_)
    refine m_hasCell I hS hF hB (fun j hj ej => ?_) (fun hc => ?_)
    · refine xbr_f n10 ?_
      exact A27 ⟨k, hk, ek⟩ (Or.inr ⟨j, hj, ej⟩)
    · refine xbr_t rfl ?_
      exact F74 (fun z => z.2.1.elim q (fun ⟨j, h1, h2⟩ => hc j h1 h2))
  · refine xbr_t rfl ?_
    exact F74 (fun z => z.1.elim (fun k ⟨h1, h2⟩ => hc k h1 h2))
end ODDS
