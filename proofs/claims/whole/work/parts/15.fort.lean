/-! the class's fort: its methods -/
section FORT
variable {X : xXT} {P : xPT} (I : xRl X P) {d S : Nat} (hS : S ≤ 128) {s : xS} {Q : xQ} {f : Nm} {ru : Int32}
theorem m_countCells (I : xRl X P) (hS : S ≤ 128) (hF : FC s.1 1 f ru) (h : Q (some (.int (nI (cc f)))) s) : P (d + 1) (L0 S) 7 [.ref 1] s Q := by
  refine inX0_countCells I (L0ok hS) ?_
  refine rn I [] 99 ?_
  have e0 := hF.2.1 0 (by omega)
  have e1 := hF.2.1 1 (by omega)
  unfold cc at h
  rw [← pk_mul, ← e0, ← e1] at h
  exact h
theorem m_hasCell (I : xRl X P) (hS : S ≤ 128) (hF : FC s.1 1 f ru) (hB : FB f) {c : Int32} (h1 : ∀ j, j < cc f → c = nI j → Q (some (.int (nI 1))) s) (h0 : (∀ j, j < cc f → c ≠ nI j) → Q (some (.int (nI 0))) s) : P (d + 2) (L0 S) 1 [.ref 1, .int c] s Q := by
  have hc := hB.cc16
  refine inX0_hasCell I (L0ok hS) ?_
  refine rn I [] 99 ?_
  rcases rg c (n := cc f) (by omega) with ⟨j, hj, rfl, g1, g2⟩ | ⟨g1, g2⟩
  · refine xbr_f g1 ?_
    refine m_countCells I hS hF ?_
    refine xbr_t g2 ?_
    exact ⟨bo, h1 j hj rfl⟩
  · refine xbr_c (fun _ => ?_) (fun hc => ?_)
    · exact ⟨bz, h0 g1⟩
    · refine m_countCells I hS hF ?_
      refine xbr_f (g2 hc) ?_
      exact ⟨bz, h0 g1⟩
theorem m_hasScope (I : xRl X P) (hS : S ≤ 128) (hF : FC s.1 1 f ru) (hB : FB f) {c : Int32} (h1 : ∀ j, j < f 0 12 → c = nI j → Q (some (.int (nI 1))) s) (h0 : (∀ j, j < f 0 12 → c ≠ nI j) → Q (some (.int (nI 0))) s) : P (d + 1) (L0 S) 2 [.ref 1, .int c] s Q := by
  have hn := hB.1.1
  have e := hF.2.1 12 (by omega)
  refine inX0_hasScope I (L0ok hS) ?_
  refine rn I [] 99 ?_
  rcases rg c (n := f 0 12) (by omega) with ⟨j, hj, rfl, g1, g2⟩ | ⟨g1, g2⟩
  · refine xbr_f g1 ?_
    refine xbr_t (by rw [e]; exact g2) ?_
    exact ⟨bo, h1 j hj rfl⟩
  · refine xbr_c (fun _ => ?_) (fun hc => ?_)
    · exact ⟨bz, h0 g1⟩
    · refine xbr_f (by rw [e]; exact g2 hc) ?_
      exact ⟨bz, h0 g1⟩
theorem m_isFree (I : xRl X P) (hS : S ≤ 128) (hF : FC s.1 1 f ru) (hB : FB f) {c : Int32} (h1 : ∀ j, j < f 0 12 → f 4 j = 0 → c = nI j → Q (some (.int (nI 1))) s) (h0 : (∀ j, j < f 0 12 → f 4 j = 0 → c ≠ nI j) → Q (some (.int (nI 0))) s) : P (d + 2) (L0 S) 3 [.ref 1, .int c] s Q := by
  have hn := hB.1.1
  refine inX0_isFree I (L0ok hS) ?_
  refine rn I [] 99 ?_
  refine m_hasScope I hS hF hB (fun j hj e => ?_) (fun hc => ?_)
  · subst e
    refine xbr_f n10 ?_
    refine ⟨j, ⟨by omega, rfl⟩, ?_⟩
    have e4 := hF.1 4 j (by show j < 8; omega)
    have hb : f 4 j < 2 := hB.2.1 4 j (by show j < 8; omega)
    refine xbr_c (fun hz => ?_) (fun hz => ?_)
    · refine ⟨bo, h1 j hj ?_ rfl⟩
      have hz2 : nI (f 4 j) = nI 0 := by rw [← e4]; exact hz
      exact zeq (by omega) (by decide) hz2
    · refine ⟨bz, h0 (fun j' hj' hf e => hz ?_)⟩
      have := zeq (by omega) (by omega) e
      subst this
      show s.1 (1 + 4) j = nI 0
      rw [e4, hf]
  · refine xbr_t rfl ?_
    exact ⟨bz, h0 (fun j hj _ => hc j hj)⟩
theorem m_countStates (I : xRl X P) (hS : S ≤ 128) (hF : FC s.1 1 f ru) (h : Q (some (.int (nI (8 * cc f)))) s) : P (d + 2) (L0 S) 8 [.ref 1] s Q := by
  refine inX0_countStates I (L0ok hS) ?_
  refine rn I [] 99 ?_
  refine m_countCells I hS hF ?_
  rw [← pk_mul] at h
  exact h
theorem m_hasState (I : xRl X P) (hS : S ≤ 128) (hF : FC s.1 1 f ru) (hB : FB f) {c : Int32} (h1 : ∀ j, j < 8 * cc f → c = nI j → Q (some (.int (nI 1))) s) (h0 : (∀ j, j < 8 * cc f → c ≠ nI j) → Q (some (.int (nI 0))) s) : P (d + 3) (L0 S) 4 [.ref 1, .int c] s Q := by
  have hc := hB.cc16
  refine inX0_hasState I (L0ok hS) ?_
  refine rn I [] 99 ?_
  rcases rg c (n := 8 * cc f) (by omega) with ⟨j, hj, rfl, g1, g2⟩ | ⟨g1, g2⟩
  · refine xbr_f g1 ?_
    refine m_countStates I hS hF ?_
    refine xbr_t g2 ?_
    exact ⟨bo, h1 j hj rfl⟩
  · refine xbr_c (fun _ => ?_) (fun hc => ?_)
    · exact ⟨bz, h0 g1⟩
    · refine m_countStates I hS hF ?_
      refine xbr_f (g2 hc) ?_
      exact ⟨bz, h0 g1⟩
theorem rg1 (c : Int32) {n : Nat} (hn : n + 1 < 2 ^ 31) : (∃ j, j ≤ n ∧ c = nI j ∧ ¬ c < nI 0 ∧ ¬ nI n < c) ∨ ((∀ j, j ≤ n → c ≠ nI j) ∧ (¬ c < nI 0 → nI n < c)) := by
  rcases rg c hn with ⟨j, hj, rfl, g1, g2⟩ | ⟨g1, g2⟩
  · exact Or.inl ⟨j, by omega, rfl, g1, znl (by omega) (by omega)⟩
  · refine Or.inr ⟨fun j hj => g1 j (by omega), fun h => ?_⟩
    have h3 := Int32.not_lt.mp (g2 h)
    exact Int32.lt_of_lt_of_le (nI_lt (Nat.lt_succ_self n) hn) h3
theorem m_hasReports (I : xRl X P) (hS : S ≤ 128) (hF : FC s.1 1 f ru) (hB : FB f) {c : Int32} (h1 : ∀ j, j ≤ f 0 13 → c = nI j → Q (some (.int (nI 1))) s) (h0 : (∀ j, j ≤ f 0 13 → c ≠ nI j) → Q (some (.int (nI 0))) s) : P (d + 1) (L0 S) 5 [.ref 1, .int c] s Q := by
  have hn := hB.1.2.1
  have e := hF.2.1 13 (by omega)
  refine inX0_hasReports I (L0ok hS) ?_
  refine rn I [] 99 ?_
  rcases rg1 c (n := f 0 13) (by omega) with ⟨j, hj, rfl, g1, g2⟩ | ⟨g1, g2⟩
  · refine xbr_f g1 ?_
    refine xbr_f (by rw [e]; exact g2) ?_
    exact ⟨bo, h1 j hj rfl⟩
  · refine xbr_c (fun _ => ?_) (fun hc => ?_)
    · exact ⟨bz, h0 g1⟩
    · refine xbr_t (by rw [e]; exact g2 hc) ?_
      exact ⟨bz, h0 g1⟩
theorem m_hasText (I : xRl X P) (hS : S ≤ 128) (hF : FC s.1 1 f ru) (hB : FB f) {c : Int32} (h1 : ∀ j, j < f 0 15 → c = nI j → Q (some (.int (nI 1))) s) (h0 : (∀ j, j < f 0 15 → c ≠ nI j) → Q (some (.int (nI 0))) s) : P (d + 1) (L0 S) 6 [.ref 1, .int c] s Q := by
  have hn := hB.1.2.2.2
  have e := hF.2.1 15 (by omega)
  refine inX0_hasText I (L0ok hS) ?_
  refine rn I [] 99 ?_
  rcases rg c (n := f 0 15) (by omega) with ⟨j, hj, rfl, g1, g2⟩ | ⟨g1, g2⟩
  · refine xbr_f g1 ?_
    refine xbr_t (by rw [e]; exact g2) ?_
    exact ⟨bo, h1 j hj rfl⟩
  · refine xbr_c (fun _ => ?_) (fun hc => ?_)
    · exact ⟨bz, h0 g1⟩
    · refine xbr_f (by rw [e]; exact g2 hc) ?_
      exact ⟨bz, h0 g1⟩
theorem m_isHour (I : xRl X P) (hS : S ≤ 128) {c : Int32} (h1 : ∀ j, j < 24 → c = nI j → Q (some (.int (nI 1))) s) (h0 : (∀ j, j < 24 → c ≠ nI j) → Q (some (.int (nI 0))) s) : P (d + 1) (L0 S) 122 [.int c] s Q := by
  refine inX10_isHour I (L0ok hS) ?_
  refine rn I [] 99 ?_
  rcases rg c (n := 24) (by omega) with ⟨j, hj, rfl, g1, g2⟩ | ⟨g1, g2⟩
  · refine xbr_f g1 ?_
    refine xbr_t g2 ?_
    exact ⟨bo, h1 j hj rfl⟩
  · refine xbr_c (fun _ => ?_) (fun hc => ?_)
    · exact ⟨bz, h0 g1⟩
    · refine xbr_f (g2 hc) ?_
      exact ⟨bz, h0 g1⟩
theorem m_isDigit (I : xRl X P) (hS : S ≤ 128) {c : Int32} (h1 : ∀ j, j < 10 → c = nI j → Q (some (.int (nI 1))) s) (h0 : (∀ j, j < 10 → c ≠ nI j) → Q (some (.int (nI 0))) s) : P (d + 1) (L0 S) 123 [.int c] s Q := by
  refine inX10_isDigit I (L0ok hS) ?_
  refine rn I [] 99 ?_
  rcases rg c (n := 10) (by omega) with ⟨j, hj, rfl, g1, g2⟩ | ⟨g1, g2⟩
  · refine xbr_f g1 ?_
    refine xbr_t g2 ?_
    exact ⟨bo, h1 j hj rfl⟩
  · refine xbr_c (fun _ => ?_) (fun hc => ?_)
    · exact ⟨bz, h0 g1⟩
    · refine xbr_f (g2 hc) ?_
      exact ⟨bz, h0 g1⟩
/-- how many of the n first telescopes are not lent -/
def cfr (f : Nm) : Nat → Nat
  | 0 => 0
  | n + 1 => cfr f n + (if f 4 n = 0 then 1 else 0)
theorem cfr_s (f : Nm) (n : Nat) : cfr f (n + 1) = cfr f n + (if f 4 n = 0 then 1 else 0) := rfl
theorem cfr_le (f : Nm) (n : Nat) : cfr f n ≤ n := by
  induction n with
  | zero => exact Nat.le_refl 0
  | succ n ih =>
    unfold cfr
    split <;> omega
theorem m_countFree (I : xRl X P) (hS : S ≤ 128) (hF : FC s.1 1 f ru) (hB : FB f) (h : Q (some (.int (nI (cfr f (f 0 12))))) s) : P (d + 1) (L0 S) 9 [.ref 1] s Q := by
  have hn := hB.1.1
  have e := hF.2.1 12 (by omega)
  have loop : ∀ k i, i + k = f 0 12 → X d mX0_countFree Q (L0 S) 4 [some (.ref 1), some (.int (nI (cfr f i))), some (.int (nI i))] [] s := by
    intro k
    induction k with
    | zero =>
      intro i hi
      refine rn I [] 99 ?_
      refine xbr_f (by rw [e]; exact znl (by omega) (by omega)) ?_
      rw [show i = f 0 12 by omega]
      exact h
    | succ k ih =>
      intro i hi
      refine rn I [4] 99 ?_
      refine xbr_t (by rw [e]; exact zlt (by omega) (by omega)) ?_
      refine ⟨i, ⟨by omega, rfl⟩, ?_⟩
      have e4 := hF.1 4 i (by show i < 8; omega)
      have hb : f 4 i < 2 := hB.2.1 4 i (by show i < 8; omega)
      have ihn := ih (i + 1) (by omega)
      rw [n1s] at ihn
      refine xbr_c (fun hz => ?_) (fun hz => ?_)
      · have hz2 : nI (f 4 i) = nI 0 := by rw [← e4]; exact hz
        have hz3 := zeq (by omega) (by decide) hz2
        rw [cfr_s, if_pos hz3, n1s] at ihn
        exact ihn
      · have hz3 : f 4 i ≠ 0 := fun q => hz (by show s.1 (1 + 4) i = nI 0; rw [e4, q])
        rw [cfr_s, if_neg hz3, Nat.add_zero] at ihn
        exact ihn
  refine inX0_countFree I (L0ok hS) ?_
  refine rn I [4] 99 ?_
  exact loop (f 0 12) 0 (by omega)
end FORT
