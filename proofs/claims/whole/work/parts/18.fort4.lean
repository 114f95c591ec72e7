/-! the class's fort: copies of one into the other -/
section FORT4
variable {X : xXT} {P : xPT} {d S : Nat} {s : xS} {Q : xQ} {f g : Nm} {ru rk : Int32}
theorem m_copyRow_15_4 (I : xRl X P) (hS : S ≤ 128) (hz : ∀ i, i < 8 → s.1 15 i = nI 0 ∨ s.1 15 i = nI 1) (h : ∀ s' : xS, (∀ q, q ≠ 4 → s'.1 q = s.1 q) → (∀ j, j < 8 → s'.1 4 j = s.1 15 j) → s'.2 = s.2 → Q none s') : P (d + 1) (L0 S) 19 [.ref 15, .ref 4] s Q := by
  have loop : ∀ k i, i + k = 8 → ∀ s' : xS, (∀ q, q ≠ 4 → s'.1 q = s.1 q) → (∀ j, j < i → s'.1 4 j = s.1 15 j) → s'.2 = s.2 → X d mX0_copyRow Q (L0 S) 2 [some (.ref 15), some (.ref 4), some (.int (nI i))] [] s' := by
    intro k
    induction k with
    | zero =>
      intro i hi s' h1 h2 h3
      refine rn I [] 99 ?_
      refine xbr_f (znl (by omega) (by omega)) ?_
      exact h s' h1 (fun j hj => h2 j (by omega)) h3
    | succ k ih =>
      intro i hi s' h1 h2 h3
      refine rn I [2] 99 ?_
      refine xbr_t (zlt (by omega) (by omega)) ?_
      refine xbr_t (zlt (by omega) (by omega)) ?_
      refine ⟨i, ⟨by omega, rfl⟩, ?_⟩
      have e : s'.1 15 i = s.1 15 i := by rw [h1 15 (by decide)]
      refine ⟨i, ⟨by omega, rfl, ?_⟩, ?_⟩
      · show s'.1 15 i = _ ∨ s'.1 15 i = _
        rw [e]
        exact hz i (by omega)
      · have := ih (i + 1) (by omega) (xW s' 4 i (s'.1 15 i)) (fun q hq => (up_n hq).trans (h1 q hq)) (fun j hj => by
          rw [xW_s]
          by_cases ej : j = i
          · subst ej
            rw [ud_s, e]
          · rw [ud_n ej]
            exact h2 j (by omega)) h3
        rw [n1s i] at this
        exact this
  refine inX0_copyRow I (L0ok hS) ?_
  refine rn I [2] 99 ?_
  exact loop 8 0 (by omega) s (fun _ _ => rfl) (fun j hj => absurd hj (Nat.not_lt_zero _)) rfl
theorem m_copyRow_16_5 (I : xRl X P) (hS : S ≤ 128) (hz : ∀ i, i < 8 → s.1 16 i = nI 0 ∨ s.1 16 i = nI 1) (h : ∀ s' : xS, (∀ q, q ≠ 5 → s'.1 q = s.1 q) → (∀ j, j < 8 → s'.1 5 j = s.1 16 j) → s'.2 = s.2 → Q none s') : P (d + 1) (L0 S) 19 [.ref 16, .ref 5] s Q := by
  have loop : ∀ k i, i + k = 8 → ∀ s' : xS, (∀ q, q ≠ 5 → s'.1 q = s.1 q) → (∀ j, j < i → s'.1 5 j = s.1 16 j) → s'.2 = s.2 → X d mX0_copyRow Q (L0 S) 2 [some (.ref 16), some (.ref 5), some (.int (nI i))] [] s' := by
    intro k
    induction k with
    | zero =>
      intro i hi s' h1 h2 h3
      refine rn I [] 99 ?_
      refine xbr_f (znl (by omega) (by omega)) ?_
      exact h s' h1 (fun j hj => h2 j (by omega)) h3
    | succ k ih =>
      intro i hi s' h1 h2 h3
      refine rn I [2] 99 ?_
      refine xbr_t (zlt (by omega) (by omega)) ?_
      refine xbr_t (zlt (by omega) (by omega)) ?_
      refine ⟨i, ⟨by omega, rfl⟩, ?_⟩
      have e : s'.1 16 i = s.1 16 i := by rw [h1 16 (by decide)]
      refine ⟨i, ⟨by omega, rfl, ?_⟩, ?_⟩
      · show s'.1 16 i = _ ∨ s'.1 16 i = _
        rw [e]
        exact hz i (by omega)
      · have := ih (i + 1) (by omega) (xW s' 5 i (s'.1 16 i)) (fun q hq => (up_n hq).trans (h1 q hq)) (fun j hj => by
          rw [xW_s]
          by_cases ej : j = i
          · subst ej
            rw [ud_s, e]
          · rw [ud_n ej]
            exact h2 j (by omega)) h3
        rw [n1s i] at this
        exact this
  refine inX0_copyRow I (L0ok hS) ?_
  refine rn I [2] 99 ?_
  exact loop 8 0 (by omega) s (fun _ _ => rfl) (fun j hj => absurd hj (Nat.not_lt_zero _)) rfl
theorem m_copyRow_18_7 (I : xRl X P) (hS : S ≤ 128) (hz : ∀ i, i < 10 → s.1 18 i = nI 0 ∨ s.1 18 i = nI 1) (h : ∀ s' : xS, (∀ q, q ≠ 7 → s'.1 q = s.1 q) → (∀ j, j < 10 → s'.1 7 j = s.1 18 j) → s'.2 = s.2 → Q none s') : P (d + 1) (L0 S) 19 [.ref 18, .ref 7] s Q := by
  have loop : ∀ k i, i + k = 10 → ∀ s' : xS, (∀ q, q ≠ 7 → s'.1 q = s.1 q) → (∀ j, j < i → s'.1 7 j = s.1 18 j) → s'.2 = s.2 → X d mX0_copyRow Q (L0 S) 2 [some (.ref 18), some (.ref 7), some (.int (nI i))] [] s' := by
    intro k
    induction k with
    | zero =>
      intro i hi s' h1 h2 h3
      refine rn I [] 99 ?_
      refine xbr_f (znl (by omega) (by omega)) ?_
      exact h s' h1 (fun j hj => h2 j (by omega)) h3
    | succ k ih =>
      intro i hi s' h1 h2 h3
      refine rn I [2] 99 ?_
      refine xbr_t (zlt (by omega) (by omega)) ?_
      refine xbr_t (zlt (by omega) (by omega)) ?_
      refine ⟨i, ⟨by omega, rfl⟩, ?_⟩
      have e : s'.1 18 i = s.1 18 i := by rw [h1 18 (by decide)]
      refine ⟨i, ⟨by omega, rfl, ?_⟩, ?_⟩
      · show s'.1 18 i = _ ∨ s'.1 18 i = _
        rw [e]
        exact hz i (by omega)
      · have := ih (i + 1) (by omega) (xW s' 7 i (s'.1 18 i)) (fun q hq => (up_n hq).trans (h1 q hq)) (fun j hj => by
          rw [xW_s]
          by_cases ej : j = i
          · subst ej
            rw [ud_s, e]
          · rw [ud_n ej]
            exact h2 j (by omega)) h3
        rw [n1s i] at this
        exact this
  refine inX0_copyRow I (L0ok hS) ?_
  refine rn I [2] 99 ?_
  exact loop 10 0 (by omega) s (fun _ _ => rfl) (fun j hj => absurd hj (Nat.not_lt_zero _)) rfl
theorem m_copyRow_22_11 (I : xRl X P) (hS : S ≤ 128) (hz : ∀ i, i < 20 → s.1 22 i = nI 0 ∨ s.1 22 i = nI 1) (h : ∀ s' : xS, (∀ q, q ≠ 11 → s'.1 q = s.1 q) → (∀ j, j < 20 → s'.1 11 j = s.1 22 j) → s'.2 = s.2 → Q none s') : P (d + 1) (L0 S) 19 [.ref 22, .ref 11] s Q := by
  have loop : ∀ k i, i + k = 20 → ∀ s' : xS, (∀ q, q ≠ 11 → s'.1 q = s.1 q) → (∀ j, j < i → s'.1 11 j = s.1 22 j) → s'.2 = s.2 → X d mX0_copyRow Q (L0 S) 2 [some (.ref 22), some (.ref 11), some (.int (nI i))] [] s' := by
    intro k
    induction k with
    | zero =>
      intro i hi s' h1 h2 h3
      refine rn I [] 99 ?_
      refine xbr_f (znl (by omega) (by omega)) ?_
      exact h s' h1 (fun j hj => h2 j (by omega)) h3
    | succ k ih =>
      intro i hi s' h1 h2 h3
      refine rn I [2] 99 ?_
      refine xbr_t (zlt (by omega) (by omega)) ?_
      refine xbr_t (zlt (by omega) (by omega)) ?_
      refine ⟨i, ⟨by omega, rfl⟩, ?_⟩
      have e : s'.1 22 i = s.1 22 i := by rw [h1 22 (by decide)]
      refine ⟨i, ⟨by omega, rfl, ?_⟩, ?_⟩
      · show s'.1 22 i = _ ∨ s'.1 22 i = _
        rw [e]
        exact hz i (by omega)
      · have := ih (i + 1) (by omega) (xW s' 11 i (s'.1 22 i)) (fun q hq => (up_n hq).trans (h1 q hq)) (fun j hj => by
          rw [xW_s]
          by_cases ej : j = i
          · subst ej
            rw [ud_s, e]
          · rw [ud_n ej]
            exact h2 j (by omega)) h3
        rw [n1s i] at this
        exact this
  refine inX0_copyRow I (L0ok hS) ?_
  refine rn I [2] 99 ?_
  exact loop 20 0 (by omega) s (fun _ _ => rfl) (fun j hj => absurd hj (Nat.not_lt_zero _)) rfl
theorem m_copyRow_4_15 (I : xRl X P) (hS : S ≤ 128) (hz : ∀ i, i < 8 → s.1 4 i = nI 0 ∨ s.1 4 i = nI 1) (h : ∀ s' : xS, (∀ q, q ≠ 15 → s'.1 q = s.1 q) → (∀ j, j < 8 → s'.1 15 j = s.1 4 j) → s'.2 = s.2 → Q none s') : P (d + 1) (L0 S) 19 [.ref 4, .ref 15] s Q := by
  have loop : ∀ k i, i + k = 8 → ∀ s' : xS, (∀ q, q ≠ 15 → s'.1 q = s.1 q) → (∀ j, j < i → s'.1 15 j = s.1 4 j) → s'.2 = s.2 → X d mX0_copyRow Q (L0 S) 2 [some (.ref 4), some (.ref 15), some (.int (nI i))] [] s' := by
    intro k
    induction k with
    | zero =>
      intro i hi s' h1 h2 h3
      refine rn I [] 99 ?_
      refine xbr_f (znl (by omega) (by omega)) ?_
      exact h s' h1 (fun j hj => h2 j (by omega)) h3
    | succ k ih =>
      intro i hi s' h1 h2 h3
      refine rn I [2] 99 ?_
      refine xbr_t (zlt (by omega) (by omega)) ?_
      refine xbr_t (zlt (by omega) (by omega)) ?_
      refine ⟨i, ⟨by omega, rfl⟩, ?_⟩
      have e : s'.1 4 i = s.1 4 i := by rw [h1 4 (by decide)]
      refine ⟨i, ⟨by omega, rfl, ?_⟩, ?_⟩
      · show s'.1 4 i = _ ∨ s'.1 4 i = _
        rw [e]
        exact hz i (by omega)
      · have := ih (i + 1) (by omega) (xW s' 15 i (s'.1 4 i)) (fun q hq => (up_n hq).trans (h1 q hq)) (fun j hj => by
          rw [xW_s]
          by_cases ej : j = i
          · subst ej
            rw [ud_s, e]
          · rw [ud_n ej]
            exact h2 j (by omega)) h3
        rw [n1s i] at this
        exact this
  refine inX0_copyRow I (L0ok hS) ?_
  refine rn I [2] 99 ?_
  exact loop 8 0 (by omega) s (fun _ _ => rfl) (fun j hj => absurd hj (Nat.not_lt_zero _)) rfl
theorem m_copyRow_5_16 (I : xRl X P) (hS : S ≤ 128) (hz : ∀ i, i < 8 → s.1 5 i = nI 0 ∨ s.1 5 i = nI 1) (h : ∀ s' : xS, (∀ q, q ≠ 16 → s'.1 q = s.1 q) → (∀ j, j < 8 → s'.1 16 j = s.1 5 j) → s'.2 = s.2 → Q none s') : P (d + 1) (L0 S) 19 [.ref 5, .ref 16] s Q := by
  have loop : ∀ k i, i + k = 8 → ∀ s' : xS, (∀ q, q ≠ 16 → s'.1 q = s.1 q) → (∀ j, j < i → s'.1 16 j = s.1 5 j) → s'.2 = s.2 → X d mX0_copyRow Q (L0 S) 2 [some (.ref 5), some (.ref 16), some (.int (nI i))] [] s' := by
    intro k
    induction k with
    | zero =>
      intro i hi s' h1 h2 h3
      refine rn I [] 99 ?_
      refine xbr_f (znl (by omega) (by omega)) ?_
      exact h s' h1 (fun j hj => h2 j (by omega)) h3
    | succ k ih =>
      intro i hi s' h1 h2 h3
      refine rn I [2] 99 ?_
      refine xbr_t (zlt (by omega) (by omega)) ?_
      refine xbr_t (zlt (by omega) (by omega)) ?_
      refine ⟨i, ⟨by omega, rfl⟩, ?_⟩
      have e : s'.1 5 i = s.1 5 i := by rw [h1 5 (by decide)]
      refine ⟨i, ⟨by omega, rfl, ?_⟩, ?_⟩
      · show s'.1 5 i = _ ∨ s'.1 5 i = _
        rw [e]
        exact hz i (by omega)
      · have := ih (i + 1) (by omega) (xW s' 16 i (s'.1 5 i)) (fun q hq => (up_n hq).trans (h1 q hq)) (fun j hj => by
          rw [xW_s]
          by_cases ej : j = i
          · subst ej
            rw [ud_s, e]
          · rw [ud_n ej]
            exact h2 j (by omega)) h3
        rw [n1s i] at this
        exact this
  refine inX0_copyRow I (L0ok hS) ?_
  refine rn I [2] 99 ?_
  exact loop 8 0 (by omega) s (fun _ _ => rfl) (fun j hj => absurd hj (Nat.not_lt_zero _)) rfl
theorem m_copyRow_7_18 (I : xRl X P) (hS : S ≤ 128) (hz : ∀ i, i < 10 → s.1 7 i = nI 0 ∨ s.1 7 i = nI 1) (h : ∀ s' : xS, (∀ q, q ≠ 18 → s'.1 q = s.1 q) → (∀ j, j < 10 → s'.1 18 j = s.1 7 j) → s'.2 = s.2 → Q none s') : P (d + 1) (L0 S) 19 [.ref 7, .ref 18] s Q := by
  have loop : ∀ k i, i + k = 10 → ∀ s' : xS, (∀ q, q ≠ 18 → s'.1 q = s.1 q) → (∀ j, j < i → s'.1 18 j = s.1 7 j) → s'.2 = s.2 → X d mX0_copyRow Q (L0 S) 2 [some (.ref 7), some (.ref 18), some (.int (nI i))] [] s' := by
    intro k
    induction k with
    | zero =>
      intro i hi s' h1 h2 h3
      refine rn I [] 99 ?_
      refine xbr_f (znl (by omega) (by omega)) ?_
      exact h s' h1 (fun j hj => h2 j (by omega)) h3
    | succ k ih =>
      intro i hi s' h1 h2 h3
      refine rn I [2] 99 ?_
      refine xbr_t (zlt (by omega) (by omega)) ?_
      refine xbr_t (zlt (by omega) (by omega)) ?_
      refine ⟨i, ⟨by omega, rfl⟩, ?_⟩
      have e : s'.1 7 i = s.1 7 i := by rw [h1 7 (by decide)]
      refine ⟨i, ⟨by omega, rfl, ?_⟩, ?_⟩
      · show s'.1 7 i = _ ∨ s'.1 7 i = _
        rw [e]
        exact hz i (by omega)
      · have := ih (i + 1) (by omega) (xW s' 18 i (s'.1 7 i)) (fun q hq => (up_n hq).trans (h1 q hq)) (fun j hj => by
          rw [xW_s]
          by_cases ej : j = i
          · subst ej
            rw [ud_s, e]
          · rw [ud_n ej]
            exact h2 j (by omega)) h3
        rw [n1s i] at this
        exact this
  refine inX0_copyRow I (L0ok hS) ?_
  refine rn I [2] 99 ?_
  exact loop 10 0 (by omega) s (fun _ _ => rfl) (fun j hj => absurd hj (Nat.not_lt_zero _)) rfl
theorem m_copyRow_11_22 (I : xRl X P) (hS : S ≤ 128) (hz : ∀ i, i < 20 → s.1 11 i = nI 0 ∨ s.1 11 i = nI 1) (h : ∀ s' : xS, (∀ q, q ≠ 22 → s'.1 q = s.1 q) → (∀ j, j < 20 → s'.1 22 j = s.1 11 j) → s'.2 = s.2 → Q none s') : P (d + 1) (L0 S) 19 [.ref 11, .ref 22] s Q := by
  have loop : ∀ k i, i + k = 20 → ∀ s' : xS, (∀ q, q ≠ 22 → s'.1 q = s.1 q) → (∀ j, j < i → s'.1 22 j = s.1 11 j) → s'.2 = s.2 → X d mX0_copyRow Q (L0 S) 2 [some (.ref 11), some (.ref 22), some (.int (nI i))] [] s' := by
    intro k
    induction k with
    | zero =>
      intro i hi s' h1 h2 h3
      refine rn I [] 99 ?_
      refine xbr_f (znl (by omega) (by omega)) ?_
      exact h s' h1 (fun j hj => h2 j (by omega)) h3
    | succ k ih =>
      intro i hi s' h1 h2 h3
      refine rn I [2] 99 ?_
      refine xbr_t (zlt (by omega) (by omega)) ?_
      refine xbr_t (zlt (by omega) (by omega)) ?_
      refine ⟨i, ⟨by omega, rfl⟩, ?_⟩
      have e : s'.1 11 i = s.1 11 i := by rw [h1 11 (by decide)]
      refine ⟨i, ⟨by omega, rfl, ?_⟩, ?_⟩
      · show s'.1 11 i = _ ∨ s'.1 11 i = _
        rw [e]
        exact hz i (by omega)
      · have := ih (i + 1) (by omega) (xW s' 22 i (s'.1 11 i)) (fun q hq => (up_n hq).trans (h1 q hq)) (fun j hj => by
          rw [xW_s]
          by_cases ej : j = i
          · subst ej
            rw [ud_s, e]
          · rw [ud_n ej]
            exact h2 j (by omega)) h3
        rw [n1s i] at this
        exact this
  refine inX0_copyRow I (L0ok hS) ?_
  refine rn I [2] 99 ?_
  exact loop 20 0 (by omega) s (fun _ _ => rfl) (fun j hj => absurd hj (Nat.not_lt_zero _)) rfl
/-- copying, m rows done -/
def CPm (s : xS) (s' : xS) (b1 b2 : Nat) (g : Nm) (rk : Int32) (m : Nat) : Prop := FC s'.1 b2 g rk ∧ (∀ j i, j ≤ m → i < xln j → s'.1 (b1 + j) i = nI (g j i)) ∧ (∀ q, (q < b1 ∨ b1 + 10 < q) → s'.1 q = s.1 q) ∧ s'.1 b1 = s.1 b1 ∧ s'.2 = s.2
theorem CPm.go {r r' : xS} {b1 b2 m : Nat} (hb : b1 + 10 < b2 ∨ b2 + 10 < b1) (hm : m < 10) (h : CPm s r b1 b2 g rk m) (h1 : ∀ q, q ≠ b1 + (m + 1) → r'.1 q = r.1 q) (h2 : ∀ i, i < xln (m + 1) → r'.1 (b1 + (m + 1)) i = r.1 (b2 + (m + 1)) i) (h3 : r'.2 = r.2) : CPm s r' b1 b2 g rk (m + 1) := by
  obtain ⟨a1, a2, a3, a4, a5⟩ := h
  refine ⟨a1.same (fun k hk1 hk2 => h1 k (by omega)), fun j i hj hi => ?_, fun q hq => ?_, ?_, h3.trans a5⟩
  · by_cases e : j = m + 1
    · subst e
      rw [h2 i hi]
      exact a1.1 _ i hi
    · rw [h1 _ (by omega)]
      exact a2 j i (by omega) hi
  · rw [h1 q (by omega)]
    exact a3 q hq
  · rw [h1 b1 (by omega)]
    exact a4
theorem CPm.zero {b1 b2 : Nat} (hG : FC s.1 b2 g rk) : CPm s s b1 b2 g rk 0 := ⟨hG, fun j i hj hi => absurd hi (by rw [show j = 0 by omega]; exact Nat.not_lt_zero _), fun _ _ => rfl, rfl, rfl⟩
theorem CPm.cpy {r : xS} {b1 b2 m n : Nat} (h : CPm s r b1 b2 g rk m) (hb : b1 + 10 < b2 ∨ b2 + 10 < b1) (hm : m < 10) (hn : xln (m + 1) = n) : CPm s (xWc r (b1 + (m + 1)) (b2 + (m + 1)) 0 0 n) b1 b2 g rk (m + 1) := CPm.go hb hm h (fun q hq => up_n hq) (fun i hi => by show va_up r.1 _ _ _ i = _; rw [up_s]; rw [hn] at hi; exact sb_cpy0 hi) rfl
theorem m_copyBack (I : xRl X P) (hS : S ≤ 128) (hG : FC s.1 12 g rk) (hB : FB g) (hF : FC s.1 1 f ru) (hw : f 0 0 = g 0 0 ∧ f 0 1 = g 0 1) (h : ∀ s' : xS, (∀ q, (q < 1 ∨ 11 < q) → s'.1 q = s.1 q) → FC s'.1 1 g rk → s'.2 = s.2 → Q none s') : P (d + 2) (L0 S) 18 [.ref 1, .ref 12] s Q := by
  have hb : 1 + 10 < 12 ∨ 12 + 10 < 1 := by decide
  have c0 : CPm s s 1 12 g rk 0 := CPm.zero hG
  refine inX0_copy I (L0ok hS) ?_
  refine rn I [] 299 ?_
  refine ⟨0, 0, 16, ⟨rfl, rfl, rfl, Nat.le_refl _, Nat.le_refl _⟩, ?_⟩
  have c1 := c0.cpy hb (by decide) (n := 16) rfl
  refine ⟨0, 0, 8, ⟨rfl, rfl, rfl, Nat.le_refl _, Nat.le_refl _⟩, ?_⟩
  have c2 := c1.cpy hb (by decide) (n := 8) rfl
  refine m_copyRow_15_4 I hS (fun i hi => ?_) (fun r3 g1 g2 g3 => ?_)
  · have e := c2.1.1 3 i hi
    have b : g 3 i < 2 := hB.2.1 3 i hi
    rw [show (12 + 3 : Nat) = 15 from rfl] at e
    have z := b01 b
    rw [← e] at z
    exact z
  have c3 := c2.go (r' := r3) hb (by decide) g1 g2 g3
  refine m_copyRow_16_5 I hS (fun i hi => ?_) (fun r4 g1 g2 g3 => ?_)
  · have e := c3.1.1 4 i hi
    have b : g 4 i < 2 := hB.2.1 4 i hi
    rw [show (12 + 4 : Nat) = 16 from rfl] at e
    have z := b01 b
    rw [← e] at z
    exact z
  have c4 := c3.go (r' := r4) hb (by decide) g1 g2 g3
  refine ⟨0, 0, 10, ⟨rfl, rfl, rfl, Nat.le_refl _, Nat.le_refl _⟩, ?_⟩
  have c5 := c4.cpy hb (by decide) (n := 10) rfl
  refine m_copyRow_18_7 I hS (fun i hi => ?_) (fun r6 g1 g2 g3 => ?_)
  · have e := c5.1.1 6 i hi
    have b : g 6 i < 2 := hB.2.1 6 i hi
    rw [show (12 + 6 : Nat) = 18 from rfl] at e
    have z := b01 b
    rw [← e] at z
    exact z
  have c6 := c5.go (r' := r6) hb (by decide) g1 g2 g3
  refine ⟨0, 0, 10, ⟨rfl, rfl, rfl, Nat.le_refl _, Nat.le_refl _⟩, ?_⟩
  have c7 := c6.cpy hb (by decide) (n := 10) rfl
  refine ⟨0, 0, 10, ⟨rfl, rfl, rfl, Nat.le_refl _, Nat.le_refl _⟩, ?_⟩
  have c8 := c7.cpy hb (by decide) (n := 10) rfl
  refine ⟨0, 0, 20, ⟨rfl, rfl, rfl, Nat.le_refl _, Nat.le_refl _⟩, ?_⟩
  have c9 := c8.cpy hb (by decide) (n := 20) rfl
  refine m_copyRow_22_11 I hS (fun i hi => ?_) (fun r10 g1 g2 g3 => ?_)
  · have e := c9.1.1 10 i hi
    have b : g 10 i < 2 := hB.2.1 10 i hi
    rw [show (12 + 10 : Nat) = 22 from rfl] at e
    have z := b01 b
    rw [← e] at z
    exact z
  have c10 := c9.go (r' := r10) hb (by decide) g1 g2 g3
  obtain ⟨a1, a2, a3, a4, a5⟩ := c10
  have a12 := a1.2.1
  refine h (xW (xW (xW (xW (xW r10 1 12 (r10.1 12 12)) 1 13 (r10.1 12 13)) 1 14 (r10.1 12 14)) 1 15 (r10.1 12 15)) 1 16 (r10.1 12 16)) (fun q hq => ?_) ?_ a5
  · show va_up (va_up (va_up (va_up (va_up r10.1 _ _) _ _) _ _) _ _) _ _ q = _
    rw [up_n (by omega), up_n (by omega), up_n (by omega), up_n (by omega), up_n (by omega)]
    exact a3 q hq
  · refine ⟨fun j i hi => ?_, fun i hi => ?_, ?_⟩
    · have h0 : 1 ≤ j ∧ j ≤ 10 := by rcases xln_c hi with e | e | e | e | e | e | e | e | e | e <;> omega
      show va_up (va_up (va_up (va_up (va_up r10.1 _ _) _ _) _ _) _ _) _ _ (1 + j) i = _
      rw [up_n (by omega), up_n (by omega), up_n (by omega), up_n (by omega), up_n (by omega)]
      exact a2 j i h0.2 hi
    · show upd (upd (upd (upd (upd (r10.1 1) 12 (r10.1 12 12)) 13 (r10.1 12 13)) 14 (r10.1 12 14)) 15 (r10.1 12 15)) 16 (r10.1 12 16) i = _
      rw [a4, a12 12 (by omega), a12 13 (by omega), a12 14 (by omega), a12 15 (by omega), ud_n (by omega)]
      rcases (show i = 0 ∨ i = 1 ∨ i = 12 ∨ i = 13 ∨ i = 14 ∨ i = 15 by omega) with rfl | rfl | rfl | rfl | rfl | rfl
      · rw [ud_n (by decide), ud_n (by decide), ud_n (by decide), ud_n (by decide), hF.2.1 0 (by omega), hw.1]
      · rw [ud_n (by decide), ud_n (by decide), ud_n (by decide), ud_n (by decide), hF.2.1 1 (by omega), hw.2]
      · rw [ud_n (by decide), ud_n (by decide), ud_n (by decide), ud_s]
      · rw [ud_n (by decide), ud_n (by decide), ud_s]
      · rw [ud_n (by decide), ud_s]
      · rw [ud_s]
    · rw [xW_s, ud_s]
      exact a1.2.2
theorem m_copyImage (I : xRl X P) (hS : S ≤ 128) (hG : FC s.1 1 g rk) (hB : FB g) (hF : FC s.1 12 f ru) (hw : f 0 0 = g 0 0 ∧ f 0 1 = g 0 1) (h : ∀ s' : xS, (∀ q, (q < 12 ∨ 22 < q) → s'.1 q = s.1 q) → FC s'.1 12 g rk → s'.2 = s.2 → Q none s') : P (d + 2) (L0 S) 18 [.ref 12, .ref 1] s Q := by
  have hb : 12 + 10 < 1 ∨ 1 + 10 < 12 := by decide
  have c0 : CPm s s 12 1 g rk 0 := CPm.zero hG
  refine inX0_copy I (L0ok hS) ?_
  refine rn I [] 299 ?_
  refine ⟨0, 0, 16, ⟨rfl, rfl, rfl, Nat.le_refl _, Nat.le_refl _⟩, ?_⟩
  have c1 := c0.cpy hb (by decide) (n := 16) rfl
  refine ⟨0, 0, 8, ⟨rfl, rfl, rfl, Nat.le_refl _, Nat.le_refl _⟩, ?_⟩
  have c2 := c1.cpy hb (by decide) (n := 8) rfl
  refine m_copyRow_4_15 I hS (fun i hi => ?_) (fun r3 g1 g2 g3 => ?_)
  · have e := c2.1.1 3 i hi
    have b : g 3 i < 2 := hB.2.1 3 i hi
    rw [show (1 + 3 : Nat) = 4 from rfl] at e
    have z := b01 b
    rw [← e] at z
    exact z
  have c3 := c2.go (r' := r3) hb (by decide) g1 g2 g3
  refine m_copyRow_5_16 I hS (fun i hi => ?_) (fun r4 g1 g2 g3 => ?_)
  · have e := c3.1.1 4 i hi
    have b : g 4 i < 2 := hB.2.1 4 i hi
    rw [show (1 + 4 : Nat) = 5 from rfl] at e
    have z := b01 b
    rw [← e] at z
    exact z
  have c4 := c3.go (r' := r4) hb (by decide) g1 g2 g3
  refine ⟨0, 0, 10, ⟨rfl, rfl, rfl, Nat.le_refl _, Nat.le_refl _⟩, ?_⟩
  have c5 := c4.cpy hb (by decide) (n := 10) rfl
  refine m_copyRow_7_18 I hS (fun i hi => ?_) (fun r6 g1 g2 g3 => ?_)
  · have e := c5.1.1 6 i hi
    have b : g 6 i < 2 := hB.2.1 6 i hi
    rw [show (1 + 6 : Nat) = 7 from rfl] at e
    have z := b01 b
    rw [← e] at z
    exact z
  have c6 := c5.go (r' := r6) hb (by decide) g1 g2 g3
  refine ⟨0, 0, 10, ⟨rfl, rfl, rfl, Nat.le_refl _, Nat.le_refl _⟩, ?_⟩
  have c7 := c6.cpy hb (by decide) (n := 10) rfl
  refine ⟨0, 0, 10, ⟨rfl, rfl, rfl, Nat.le_refl _, Nat.le_refl _⟩, ?_⟩
  have c8 := c7.cpy hb (by decide) (n := 10) rfl
  refine ⟨0, 0, 20, ⟨rfl, rfl, rfl, Nat.le_refl _, Nat.le_refl _⟩, ?_⟩
  have c9 := c8.cpy hb (by decide) (n := 20) rfl
  refine m_copyRow_11_22 I hS (fun i hi => ?_) (fun r10 g1 g2 g3 => ?_)
  · have e := c9.1.1 10 i hi
    have b : g 10 i < 2 := hB.2.1 10 i hi
    rw [show (1 + 10 : Nat) = 11 from rfl] at e
    have z := b01 b
    rw [← e] at z
    exact z
  have c10 := c9.go (r' := r10) hb (by decide) g1 g2 g3
  obtain ⟨a1, a2, a3, a4, a5⟩ := c10
  have a12 := a1.2.1
  refine h (xW (xW (xW (xW (xW r10 12 12 (r10.1 1 12)) 12 13 (r10.1 1 13)) 12 14 (r10.1 1 14)) 12 15 (r10.1 1 15)) 12 16 (r10.1 1 16)) (fun q hq => ?_) ?_ a5
  · show va_up (va_up (va_up (va_up (va_up r10.1 _ _) _ _) _ _) _ _) _ _ q = _
    rw [up_n (by omega), up_n (by omega), up_n (by omega), up_n (by omega), up_n (by omega)]
    exact a3 q hq
  · refine ⟨fun j i hi => ?_, fun i hi => ?_, ?_⟩
    · have h0 : 1 ≤ j ∧ j ≤ 10 := by rcases xln_c hi with e | e | e | e | e | e | e | e | e | e <;> omega
      show va_up (va_up (va_up (va_up (va_up r10.1 _ _) _ _) _ _) _ _) _ _ (12 + j) i = _
      rw [up_n (by omega), up_n (by omega), up_n (by omega), up_n (by omega), up_n (by omega)]
      exact a2 j i h0.2 hi
    · show upd (upd (upd (upd (upd (r10.1 12) 12 (r10.1 1 12)) 13 (r10.1 1 13)) 14 (r10.1 1 14)) 15 (r10.1 1 15)) 16 (r10.1 1 16) i = _
      rw [a4, a12 12 (by omega), a12 13 (by omega), a12 14 (by omega), a12 15 (by omega), ud_n (by omega)]
      rcases (show i = 0 ∨ i = 1 ∨ i = 12 ∨ i = 13 ∨ i = 14 ∨ i = 15 by omega) with rfl | rfl | rfl | rfl | rfl | rfl
      · rw [ud_n (by decide), ud_n (by decide), ud_n (by decide), ud_n (by decide), hF.2.1 0 (by omega), hw.1]
      · rw [ud_n (by decide), ud_n (by decide), ud_n (by decide), ud_n (by decide), hF.2.1 1 (by omega), hw.2]
      · rw [ud_n (by decide), ud_n (by decide), ud_n (by decide), ud_s]
      · rw [ud_n (by decide), ud_n (by decide), ud_s]
      · rw [ud_n (by decide), ud_s]
      · rw [ud_s]
    · rw [xW_s, ud_s]
      exact a1.2.2
end FORT4
