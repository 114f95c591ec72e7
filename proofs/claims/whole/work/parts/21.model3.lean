/-! the reference: undo, reports, the text that rules, image and back, about -/
theorem FA.congr {a a' : Nat → Int32} {f : Nm} {ru : Int32} (h : FA a f ru) (e : ∀ i, i < 145 → a' i = a i) : FA a' f ru := by
  obtain ⟨h1, h2, h3, h4, h5, h6, h7⟩ := h
  refine ⟨fun j i hj hi => ?_, fun i hi hi2 => ?_, ?_, ?_, ?_, ?_, ?_⟩
  · rw [e _ (pos_ge hi).2]; exact h1 j i hj hi
  · rw [e _ (by show 101 + 2 * i < 145; omega)]; exact h2 i hi hi2
  · rw [e 0 (by decide)]; exact h3
  · rw [e 1 (by decide)]; exact h4
  · rw [e 2 (by decide)]; exact h5
  · rw [e 3 (by decide)]; exact h6
  · rw [e 4 (by decide)]; exact h7
theorem rmb1 {c : Int32} {n : Nat} (hn : n < 2 ^ 30) (a1 : ¬ c < -(nI 1)) (a2 : ¬ nI n - nI 1 < c) : c = -(nI 1) ∨ ∃ j, j < n ∧ c = nI j := by
  by_cases h0 : c < nI 0
  · left
    have e1 : (-(nI 1) : Int32).toInt = -1 := by decide +kernel
    have e0 : (nI 0 : Int32).toInt = 0 := by decide +kernel
    apply Int32.toInt_inj.mp
    rw [Int32.lt_iff_toInt_lt] at a1 h0
    omega
  · exact Or.inr (rm1 hn h0 a2)
theorem rmb2 {c : Int32} {n : Nat} (hn : n < 2 ^ 30) (a : c < -(nI 1) ∨ nI n - nI 1 < c) : c ≠ -(nI 1) ∧ ∀ j, j < n → c ≠ nI j := by
  refine ⟨fun e => ?_, ?_⟩
  · subst e
    rcases a with a | a
    · exact Int32.lt_irrefl a
    · by_cases h0 : n = 0
      · subst h0
        exact absurd a (by decide +kernel)
      · rw [nsb (by omega)] at a
        exact zn0 (by omega) (Int32.lt_trans a zm1)
  · rcases a with a | a
    · exact rm2 hn (Or.inl (Int32.lt_trans a zm1))
    · exact rm2 hn (Or.inr a)
section MODEL3
variable {X : xXT} {P : xPT} {d S : Nat} {s : xS} {Q : xQ} {f g : Nm} {ru rk : Int32}
theorem q_undo (I : xRl X P) (hS : S ≤ 128) (hA : FA (s.1 80) f ru) (hB : FB f) (h1 : 0 < f 0 14 → AQ s (undo1 f) ru (some (.int (nI (f 9 (f 0 14 - 1))))) Q) (h0 : f 0 14 = 0 → Q (some (.int (-(nI 1)))) s) : P (d + 2) (L0 S) 141 [.ref 79] s Q := by
  have hn := hB.1.2.2.1
  have e14 : s.1 80 4 = nI (f 0 14) := hA.2.2.2.2.2.2
  refine inX11_undo I (L0ok hS) ?_
  refine rn I [] 199 ?_
  refine ⟨4, ⟨by decide, rfl⟩, ?_⟩
  by_cases hz : f 0 14 = 0
  · refine xbr_t (by rw [e14, hz]) ?_
    exact h0 hz
  · refine xbr_f (by rw [e14]; exact zne hz (by omega) (by decide)) ?_
    have h1 := h1 (by omega)
    unfold undo1 at h1
    have hm : f 0 14 - 1 < 20 := by omega
    have A1 := hA.less (n := f 0 14 - 1) (by omega)
    have em : s.1 80 4 - nI 1 = nI (f 0 14 - 1) := by rw [e14]; exact nsb (by omega)
    have e9 : s.1 80 (100 + 2 * (f 0 14 - 1)) = nI (f 9 (f 0 14 - 1)) := hA.1 9 _ (by decide) hm
    have e10 : s.1 80 (101 + 2 * (f 0 14 - 1)) = nI (1 + f 10 (f 0 14 - 1)) := hA.2.1 _ (by omega) hm
    have b9 : f 9 (f 0 14 - 1) < 8 := hB.2.1 9 _ hm
    have b10 : f 10 (f 0 14 - 1) < 2 := hB.2.1 10 _ hm
    generalize f 9 (f 0 14 - 1) = j at *
    generalize f 10 (f 0 14 - 1) = l at *
    generalize f 0 14 - 1 = m at *
    have hj3 : j < xln (3 + l) := by rcases (show l = 0 ∨ l = 1 by omega) with rfl | rfl <;> exact b9
    have hp : pos (3 + l) j = 30 + 3 * j + (1 + l) := by
      rcases (show l = 0 ∨ l = 1 by omega) with rfl | rfl
      · show 31 + 3 * j = 30 + 3 * j + (1 + 0); omega
      · show 32 + 3 * j = 30 + 3 * j + (1 + 1); omega
    have hbd : f (3 + l) j < 2 := by
      rcases (show l = 0 ∨ l = 1 by omega) with rfl | rfl
      · exact hB.2.1 3 j b9
      · exact hB.2.1 4 j b9
    refine ⟨4, ⟨by decide, rfl⟩, ?_⟩
    refine ⟨4, ⟨by decide, rfl⟩, ?_⟩
    refine ⟨4, ⟨by decide, rfl⟩, ?_⟩
    refine ⟨100 + 2 * m, ⟨by omega, ?_⟩, ?_⟩
    · show nI 100 + nI 2 * (s.1 80 4 - nI 1) = _
      rw [em, nml, nad]
    have g9 : upd (s.1 80) 4 (s.1 80 4 - nI 1) (100 + 2 * m) = nI j := by rw [ud_n (by omega)]; exact e9
    refine q_scopeAt I hS (j := j) g9 ?_
    refine ⟨4, ⟨by decide, rfl⟩, ?_⟩
    refine ⟨101 + 2 * m, ⟨by omega, ?_⟩, ?_⟩
    · show nI 100 + nI 2 * (s.1 80 4 - nI 1) + nI 1 = _
      rw [em, nml, nad, nad, show 100 + 2 * m + 1 = 101 + 2 * m by omega]
    have g10 : upd (s.1 80) 4 (s.1 80 4 - nI 1) (101 + 2 * m) = nI (1 + l) := by rw [ud_n (by omega)]; exact e10
    have ix : nI (30 + 3 * j) + upd (s.1 80) 4 (s.1 80 4 - nI 1) (101 + 2 * m) = nI (30 + 3 * j + (1 + l)) := by rw [g10, nad]
    refine ⟨30 + 3 * j + (1 + l), ⟨by omega, ix⟩, ?_⟩
    refine ⟨30 + 3 * j + (1 + l), ⟨by omega, ix⟩, ?_⟩
    have g3 : upd (s.1 80) 4 (s.1 80 4 - nI 1) (30 + 3 * j + (1 + l)) = nI (f (3 + l) j) := by
      rw [ud_n (by omega), ← hp]
      exact hA.1 (3 + l) j (by omega) hj3
    show Q (some (.int (upd (s.1 80) 4 (s.1 80 4 - nI 1) (100 + 2 * m)))) (xW (xW s 80 4 (s.1 80 4 - nI 1)) 80 (30 + 3 * j + (1 + l)) (nI 1 - upd (s.1 80) 4 (s.1 80 4 - nI 1) (30 + 3 * j + (1 + l))))
    rw [g9, g3, em, nsb (by omega)]
    have A2 := A1.put (j := 3 + l) (x := j) (v := 1 - f (3 + l) j) (by omega) hj3
    rw [hp] at A2
    exact h1 _ A2 (fun k hk => (xW_n hk).trans (xW_n hk)) rfl
theorem q_report (I : xRl X P) (hS : S ≤ 128) (hA : FA (s.1 80) f ru) (hB : FB f) {c hr te : Int32} (h1 : ∀ j h t, j < f 0 12 → f 4 j = 0 → c = nI j → h < 24 → hr = nI h → t < 10 → te = nI t → f 0 13 < 10 → AQ s (wrt f j h t) ru (some (.int (nI (f 0 13 + 1)))) Q) (h0 : ¬ okw f c hr te → Q (some (.int (-(nI 1)))) s) : P (d + 3) (L0 S) 190 [.ref 79, .int c, .int hr, .int te] s Q := by
  have hn := hB.1.1
  have hn2 := hB.1.2.1
  have e : s.1 80 3 = nI (f 0 13) := hA.2.2.2.2.2.1
  refine inX11_report I (L0ok hS) ?_
  refine rn I [] 199 ?_
  refine q_isScope I hS hA hB (fun j hj ej => ?_) (fun hc => ?_)
  · subst ej
    refine xbr_f n10 ?_
    have hj8 : j < 8 := by omega
    have e4 : s.1 80 (32 + 3 * j) = nI (f 4 j) := hA.1 4 j (by decide) hj8
    have e3 : s.1 80 (31 + 3 * j) = nI (f 3 j) := hA.1 3 j (by decide) hj8
    have b4 : f 4 j < 2 := hB.2.1 4 j hj8
    refine q_scopeAt I hS (j := j) rfl ?_
    refine ⟨32 + 3 * j, ⟨by omega, by rw [nad, show 30 + 3 * j + 2 = 32 + 3 * j by omega]⟩, ?_⟩
    by_cases h4 : f 4 j = 0
    · refine xbr_f (by rw [e4, h4]; exact n01) ?_
      refine q_isHour I hS (fun h hh eh => ?_) (fun hc => ?_)
      · subst eh
        refine xbr_f n10 ?_
        refine q_isIn I hS (fun a1 a2 => ?_) (fun a => ?_)
        · obtain ⟨t, ht, rfl⟩ := rm1 (n := 10) (by decide) a1 (by rw [nsb (by decide)]; exact a2)
          refine xbr_f n10 ?_
          refine ⟨3, ⟨by decide, rfl⟩, ?_⟩
          by_cases h10 : f 0 13 = 10
          · refine xbr_t (by rw [e, h10]) ?_
            exact h0 (fun ⟨_, _, _, _, _, _, _, _, _, _, q⟩ => by omega)
          · refine xbr_f (by rw [e]; exact zne h10 (by omega) (by decide)) ?_
            have hl : f 0 13 < 10 := by omega
            refine ⟨3, ⟨by decide, rfl⟩, ?_⟩
            have ix : nI 60 + nI 4 * s.1 80 3 = nI (60 + 4 * f 0 13) := by rw [e, nml, nad]
            have A1 := hA.put (j := 5) (x := f 0 13) (v := j) (by decide) hl
            refine ⟨60 + 4 * f 0 13, ⟨by omega, ix⟩, ?_⟩
            refine q_scopeAt I hS (j := j) rfl ?_
            refine ⟨31 + 3 * j, ⟨by omega, by rw [nad, show 30 + 3 * j + 1 = 31 + 3 * j by omega]⟩, ?_⟩
            have g3 : upd (s.1 80) (60 + 4 * f 0 13) (nI j) (31 + 3 * j) = nI (f 3 j) := by rw [ud_n (by omega)]; exact e3
            have A2 := A1.put (j := 6) (x := f 0 13) (v := f 3 j) (by decide) hl
            refine ⟨61 + 4 * f 0 13, ⟨by omega, by rw [ix, nad, show 60 + 4 * f 0 13 + 1 = 61 + 4 * f 0 13 by omega]⟩, ?_⟩
            have A3 := A2.put (j := 7) (x := f 0 13) (v := h) (by decide) hl
            refine ⟨62 + 4 * f 0 13, ⟨by omega, by rw [ix, nad, show 60 + 4 * f 0 13 + 2 = 62 + 4 * f 0 13 by omega]⟩, ?_⟩
            have A4 := A3.put (j := 8) (x := f 0 13) (v := t) (by decide) hl
            refine ⟨63 + 4 * f 0 13, ⟨by omega, by rw [ix, nad, show 60 + 4 * f 0 13 + 3 = 63 + 4 * f 0 13 by omega]⟩, ?_⟩
            refine ⟨3, ⟨by decide, rfl⟩, ?_⟩
            refine ⟨3, ⟨by decide, rfl⟩, ?_⟩
            refine ⟨3, ⟨by decide, rfl⟩, ?_⟩
            have A5 := A4.cnt (x := 13) (p := 3) (v := f 0 13 + 1) (Or.inr (Or.inr ⟨rfl, rfl⟩))
            have e3' : (xW (xW (xW (xW s 80 (60 + 4 * f 0 13) (nI j)) 80 (61 + 4 * f 0 13) (upd (s.1 80) (60 + 4 * f 0 13) (nI j) (31 + 3 * j))) 80 (62 + 4 * f 0 13) (nI h)) 80 (63 + 4 * f 0 13) (nI t)).1 80 3 = nI (f 0 13) := by
              show upd (upd (upd (upd (s.1 80) (60 + 4 * f 0 13) _) (61 + 4 * f 0 13) _) (62 + 4 * f 0 13) _) (63 + 4 * f 0 13) _ 3 = _
              rw [ud_n (by omega), ud_n (by omega), ud_n (by omega), ud_n (by omega)]
              exact e
            show Q (some (.int ((xW (xW (xW (xW s 80 (60 + 4 * f 0 13) (nI j)) 80 (61 + 4 * f 0 13) (upd (s.1 80) (60 + 4 * f 0 13) (nI j) (31 + 3 * j))) 80 (62 + 4 * f 0 13) (nI h)) 80 (63 + 4 * f 0 13) (nI t)).1 80 3 + nI 1))) (xW (xW (xW (xW (xW s 80 (60 + 4 * f 0 13) (nI j)) 80 (61 + 4 * f 0 13) (upd (s.1 80) (60 + 4 * f 0 13) (nI j) (31 + 3 * j))) 80 (62 + 4 * f 0 13) (nI h)) 80 (63 + 4 * f 0 13) (nI t)) 80 3 ((xW (xW (xW (xW s 80 (60 + 4 * f 0 13) (nI j)) 80 (61 + 4 * f 0 13) (upd (s.1 80) (60 + 4 * f 0 13) (nI j) (31 + 3 * j))) 80 (62 + 4 * f 0 13) (nI h)) 80 (63 + 4 * f 0 13) (nI t)).1 80 3 + nI 1))
            rw [e3', nad, g3]
            exact h1 j h t hj h4 rfl hh rfl ht rfl hl _ A5 (fun k hk => (((xW_n hk).trans (xW_n hk)).trans ((xW_n hk).trans (xW_n hk))).trans (xW_n hk)) rfl
        · refine xbr_t rfl ?_
          exact h0 (fun ⟨_, _, t, _, _, _, _, _, q1, q2, _⟩ => rm2 (n := 10) (by decide) (by rw [nsb (by decide)]; exact a) t q1 q2)
      · refine xbr_t rfl ?_
        exact h0 (fun ⟨_, h, _, _, _, _, q1, q2, _, _, _⟩ => hc h q1 q2)
    · refine xbr_t (by rw [e4, show f 4 j = 1 by omega]) ?_
      exact h0 (fun ⟨j', _, _, q1, q2, q3, _, _, _, _, _⟩ => h4 (by rw [zeq (by omega) (by omega) q3]; exact q2))
  · refine xbr_t rfl ?_
    exact h0 (fun ⟨j, _, _, q1, _, q3, _, _, _, _, _⟩ => hc j q1 q3)
theorem q_forget (I : xRl X P) (hS : S ≤ 128) (hA : FA (s.1 80) f ru) (h : AQ s (nu f 0 13 0) ru (some (.int (nI (f 0 13)))) Q) : P (d + 1) (L0 S) 191 [.ref 79] s Q := by
  have e : s.1 80 3 = nI (f 0 13) := hA.2.2.2.2.2.1
  refine inX11_forget I (L0ok hS) ?_
  refine rn I [] 99 ?_
  refine ⟨3, ⟨by decide, rfl⟩, ?_⟩
  refine ⟨3, ⟨by decide, rfl⟩, ?_⟩
  show Q (some (.int (s.1 80 3))) (xW s 80 3 (nI 0))
  rw [e]
  exact h _ (hA.cnt (x := 13) (p := 3) (v := 0) (Or.inr (Or.inr ⟨rfl, rfl⟩))) (fun k hk => xW_n hk) rfl
theorem q_by (I : xRl X P) (hS : S ≤ 128) (hA : FA (s.1 80) f ru) (hB : FB f) {c : Int32} (h1 : (c = -(nI 1) ∨ ∃ j, j < f 0 15 ∧ c = nI j) → AQ s f c (some (.int (nI 1))) Q) (h0 : ¬ (c = -(nI 1) ∨ ∃ j, j < f 0 15 ∧ c = nI j) → Q (some (.int (nI 0))) s) : P (d + 2) (L0 S) 176 [.ref 79, .int c] s Q := by
  have hn := hB.1.2.2.2
  have e : s.1 80 1 = nI (f 0 15) := hA.2.2.2.1
  refine inX11_by I (L0ok hS) ?_
  refine rn I [] 99 ?_
  refine ⟨1, ⟨by decide, rfl⟩, ?_⟩
  refine q_isIn I hS (fun a1 a2 => ?_) (fun a => ?_)
  · rw [e] at a2
    refine xbr_f n10 ?_
    refine ⟨2, ⟨by decide, rfl⟩, ?_⟩
    exact ⟨bo, h1 (rmb1 (by omega) a1 a2) _ (hA.rul c) (fun k hk => xW_n hk) rfl⟩
  · rw [e] at a
    refine xbr_t rfl ?_
    obtain ⟨g1, g2⟩ := rmb2 (by omega) a
    exact ⟨bz, h0 (fun q => q.elim g1 (fun ⟨j, q1, q2⟩ => g2 j q1 q2))⟩
theorem q_copy_80_81 (I : xRl X P) (hS : S ≤ 128) (h : ∀ s' : xS, (∀ q, q ≠ 81 → s'.1 q = s.1 q) → (∀ j, j < 145 → s'.1 81 j = s.1 80 j) → s'.2 = s.2 → Q none s') : P (d + 1) (L0 S) 127 [.ref 80, .ref 81] s Q := by
  have loop : ∀ k i, i + k = 145 → ∀ s' : xS, (∀ q, q ≠ 81 → s'.1 q = s.1 q) → (∀ j, j < i → s'.1 81 j = s.1 80 j) → s'.2 = s.2 → X d mX11_copy Q (L0 S) 2 [some (.ref 80), some (.ref 81), some (.int (nI i))] [] s' := by
    intro k
    induction k with
    | zero =>
      intro i hi s' h1 h2 h3
      refine rn I [] 99 ?_
      refine xbr_f (znl (by omega) (by omega)) ?_
      exact h s' h1 (fun j hj => h2 j (by omega)) h3
    | succ k ih =>
      intro i hi s' h1 h2 h3
      refine rn I [2] 99 ?_
      refine xbr_t (zlt (by omega) (by omega)) ?_
      refine ⟨i, ⟨by omega, rfl⟩, ?_⟩
      refine ⟨i, ⟨by omega, rfl⟩, ?_⟩
      have := ih (i + 1) (by omega) (xW s' 81 i (s'.1 80 i)) (fun q hq => (xW_n hq).trans (h1 q hq)) (fun j hj => by
          rw [xW_s]
          by_cases ej : j = i
          · subst ej
            rw [ud_s, h1 80 (by decide)]
          · rw [ud_n ej]
            exact h2 j (by omega)) h3
      rw [n1s i] at this
      exact this
  refine inX11_copy I (L0ok hS) ?_
  refine rn I [2] 99 ?_
  exact loop 145 0 (by omega) s (fun _ _ => rfl) (fun j hj => absurd hj (Nat.not_lt_zero _)) rfl
theorem q_copy_81_80 (I : xRl X P) (hS : S ≤ 128) (h : ∀ s' : xS, (∀ q, q ≠ 80 → s'.1 q = s.1 q) → (∀ j, j < 145 → s'.1 80 j = s.1 81 j) → s'.2 = s.2 → Q none s') : P (d + 1) (L0 S) 127 [.ref 81, .ref 80] s Q := by
  have loop : ∀ k i, i + k = 145 → ∀ s' : xS, (∀ q, q ≠ 80 → s'.1 q = s.1 q) → (∀ j, j < i → s'.1 80 j = s.1 81 j) → s'.2 = s.2 → X d mX11_copy Q (L0 S) 2 [some (.ref 81), some (.ref 80), some (.int (nI i))] [] s' := by
    intro k
    induction k with
    | zero =>
      intro i hi s' h1 h2 h3
      refine rn I [] 99 ?_
      refine xbr_f (znl (by omega) (by omega)) ?_
      exact h s' h1 (fun j hj => h2 j (by omega)) h3
    | succ k ih =>
      intro i hi s' h1 h2 h3
      refine rn I [2] 99 ?_
      refine xbr_t (zlt (by omega) (by omega)) ?_
      refine ⟨i, ⟨by omega, rfl⟩, ?_⟩
      refine ⟨i, ⟨by omega, rfl⟩, ?_⟩
      have := ih (i + 1) (by omega) (xW s' 80 i (s'.1 81 i)) (fun q hq => (xW_n hq).trans (h1 q hq)) (fun j hj => by
          rw [xW_s]
          by_cases ej : j = i
          · subst ej
            rw [ud_s, h1 81 (by decide)]
          · rw [ud_n ej]
            exact h2 j (by omega)) h3
      rw [n1s i] at this
      exact this
  refine inX11_copy I (L0ok hS) ?_
  refine rn I [2] 99 ?_
  exact loop 145 0 (by omega) s (fun _ _ => rfl) (fun j hj => absurd hj (Nat.not_lt_zero _)) rfl
theorem q_image (I : xRl X P) (hS : S ≤ 128) (hA : FA (s.1 80) f ru) (h : ∀ s' : xS, FA (s'.1 81) f ru → (∀ q, q ≠ 81 → s'.1 q = s.1 q) → s'.2 = s.2 → Q (some (.int (nI (f 0 13)))) s') : P (d + 2) (L0 S) 212 [.ref 79] s Q := by
  have e : s.1 80 3 = nI (f 0 13) := hA.2.2.2.2.2.1
  refine inX11_image I (L0ok hS) ?_
  refine rn I [] 99 ?_
  refine q_copy_80_81 I hS (fun s' g1 g2 g3 => ?_)
  refine ⟨3, ⟨by decide, rfl⟩, ?_⟩
  have := h s' (hA.congr g2) g1 g3
  rw [← e, ← g1 80 (by decide)] at this
  exact this
theorem q_back (I : xRl X P) (hS : S ≤ 128) (hA : FA (s.1 81) g rk) (h : AQ s g rk (some (.int (nI (g 0 13)))) Q) : P (d + 2) (L0 S) 213 [.ref 79] s Q := by
  refine inX11_back I (L0ok hS) ?_
  refine rn I [] 99 ?_
  refine q_copy_81_80 I hS (fun s' g1 g2 g3 => ?_)
  refine ⟨3, ⟨by decide, rfl⟩, ?_⟩
  have A := hA.congr g2
  have := h s' A g1 g3
  rw [← A.2.2.2.2.2.1] at this
  exact this
end MODEL3
