/-! the reference: steps, reports, copies -/
theorem nu_comm {f : Nm} {a x v b y w : Nat} (h : a ≠ b) : nu (nu f a x v) b y w = nu (nu f b y w) a x v := by
  funext p q
  by_cases e1 : p = b ∧ q = y
  · obtain ⟨rfl, rfl⟩ := e1
    rw [nu_s, nu_n (Or.inl (fun z => h z.symm)), nu_s]
  · rw [nu_n (by omega)]
    by_cases e2 : p = a ∧ q = x
    · obtain ⟨rfl, rfl⟩ := e2
      rw [nu_s, nu_s]
    · rw [nu_n (by omega), nu_n (by omega), nu_n (by omega)]
theorem part_nu {f : Nm} {k a x v : Nat} (h9 : a ≠ 9) (h10 : a ≠ 10) : part k (nu f a x v) = nu (part k f) a x v := by
  funext p q
  unfold part
  by_cases e : (p = 9 ∨ p = 10) ∧ q < k
  · rw [if_pos e, nu_n (by omega), nu_n (by omega), if_pos e]
  · rw [if_neg e]
    by_cases e2 : p = a ∧ q = x
    · obtain ⟨rfl, rfl⟩ := e2
      rw [nu_s, nu_s]
    · rw [nu_n (by omega), nu_n (by omega), if_neg e]
theorem drp_nu {f : Nm} {a x v : Nat} (h0 : a ≠ 0) (h9 : a ≠ 9) (h10 : a ≠ 10) : drp (nu f a x v) = nu (drp f) a x v := by
  unfold drp
  rw [part_nu h9 h10, nu_comm h0]
theorem ad1_nu {f : Nm} {a x v j l : Nat} (h0 : a ≠ 0) (h9 : a ≠ 9) (h10 : a ≠ 10) : ad1 (nu f a x v) j l = nu (ad1 f j l) a x v := by
  unfold ad1
  rw [nu_n (by omega), nu_comm h9, nu_comm h10, nu_comm h0]
theorem adst_nu {f : Nm} {a x v j l : Nat} (h0 : a ≠ 0) (h9 : a ≠ 9) (h10 : a ≠ 10) : adst (nu f a x v) j l = nu (adst f j l) a x v := by
  unfold adst
  rw [nu_n (by omega)]
  by_cases e : f 0 14 = 20
  · rw [if_pos e, if_pos e, drp_nu h0 h9 h10, ad1_nu h0 h9 h10]
  · rw [if_neg e, if_neg e, ad1_nu h0 h9 h10]
/-- the array with its steps one place ahead -/
theorem FA.drop {a a' : Nat → Int32} {f : Nm} {ru : Int32} (h : FA a f ru) (h20 : f 0 14 = 20) (hs : ∀ i, a' i = if 100 ≤ i ∧ i < 138 then a (i + 2) else a i) : FA (upd a' 4 (nI 19)) (drp f) ru := by
  obtain ⟨h1, h2, h3, h4, h5, h6, h7⟩ := h
  unfold drp
  refine ⟨fun j i hj hi => ?_, fun i hi hi2 => ?_, ?_, ?_, ?_, ?_, ?_⟩
  · have h0 : 1 ≤ j := by rcases xln_c hi with e | e | e | e | e | e | e | e | e | e <;> omega
    have := pos_ge hi
    rw [ud_n (by omega), nu_n (Or.inl (by omega)), hs]
    unfold part
    by_cases e9 : j = 9
    · subst e9
      have hi20 : i < 20 := hi
      have e1 : pos 9 i = 100 + 2 * i := rfl
      by_cases e : i < 19
      · rw [if_pos ⟨by omega, by omega⟩, if_pos ⟨Or.inl rfl, e⟩, show pos 9 i + 2 = pos 9 (i + 1) by show 100 + 2 * i + 2 = 100 + 2 * (i + 1); omega]
        exact h1 9 (i + 1) (by decide) (by show i + 1 < 20; omega)
      · rw [if_neg (by omega), if_neg (by omega)]
        exact h1 9 i (by decide) hi
    · have hp : ¬ (100 ≤ pos j i ∧ pos j i < 138) := by
        rcases xln_c hi with rfl | rfl | rfl | rfl | rfl | rfl | rfl | rfl | rfl | rfl <;> (simp only [xln] at hi; simp only [pos]; omega)
      rw [if_neg hp, if_neg (by omega)]
      exact h1 j i hj hi
  · rw [nu_s] at hi
    have e1 : pos 10 i = 101 + 2 * i := rfl
    rw [ud_n (by omega), nu_n (Or.inl (by decide)), hs]
    unfold part
    rw [if_pos ⟨by omega, by omega⟩, if_pos ⟨Or.inr rfl, by omega⟩, show pos 10 i + 2 = pos 10 (i + 1) by show 101 + 2 * i + 2 = 101 + 2 * (i + 1); omega]
    exact h2 (i + 1) (by omega) (by omega)
  · rw [ud_n (by decide), nu_n (Or.inr (by decide)), hs, if_neg (by decide)]; exact h3
  · rw [ud_n (by decide), nu_n (Or.inr (by decide)), hs, if_neg (by decide)]; exact h4
  · rw [ud_n (by decide), hs, if_neg (by decide)]; exact h5
  · rw [ud_n (by decide), nu_n (Or.inr (by decide)), hs, if_neg (by decide)]; exact h6
  · rw [ud_s, nu_s]
section MODEL2
variable {X : xXT} {P : xPT} {d S : Nat} {s : xS} {Q : xQ} {f g : Nm} {ru rk : Int32}
theorem q_make (I : xRl X P) (hS : S ≤ 128) (hA : FA (s.1 80) f ru) (hB : FB f) {l v : Nat} (hl : l < 2) (hv : v < 2) {c : Int32} (h1 : ∀ j, j < f 0 12 → c = nI j → f (3 + l) j = v → Q (some (.int (nI 1))) s) (h2 : ∀ j, j < f 0 12 → c = nI j → f (3 + l) j ≠ v → AQ s (adst (nu f (3 + l) j v) j l) ru (some (.int (nI 1))) Q) (h0 : (∀ j, j < f 0 12 → c ≠ nI j) → Q (some (.int (nI 0))) s) : P (d + 3) (L0 S) 138 [.ref 79, .int c, .int (nI (1 + l)), .int (nI v)] s Q := by
  have hn := hB.1.1
  have hn14 := hB.1.2.2.1
  refine inX11_make I (L0ok hS) ?_
  refine rn I [39, 98] 199 ?_
  refine q_isScope I hS hA hB (fun j hj ej => ?_) (fun hc => ?_)
  · subst ej
    refine xbr_f n10 ?_
    have hj8 : j < 8 := by omega
    have hj3 : j < xln (3 + l) := by rcases (show l = 0 ∨ l = 1 by omega) with rfl | rfl <;> exact hj8
    have hp : pos (3 + l) j = 30 + 3 * j + (1 + l) := by
      rcases (show l = 0 ∨ l = 1 by omega) with rfl | rfl
      · show 31 + 3 * j = 30 + 3 * j + (1 + 0); omega
      · show 32 + 3 * j = 30 + 3 * j + (1 + 1); omega
    have hbd : f (3 + l) j < 2 := by
      rcases (show l = 0 ∨ l = 1 by omega) with rfl | rfl
      · exact hB.2.1 3 j hj8
      · exact hB.2.1 4 j hj8
    have e3 : s.1 80 (30 + 3 * j + (1 + l)) = nI (f (3 + l) j) := by rw [← hp]; exact hA.1 (3 + l) j (by omega) hj3
    have e14 : s.1 80 4 = nI (f 0 14) := hA.2.2.2.2.2.2
    -- behind the branch on the steps: a step more, and the telescope is turned or lent
    have tail : ∀ (s' : xS) (f1 : Nm), FA (s'.1 80) f1 ru → (∀ k, k ≠ 80 → s'.1 k = s.1 k) → s'.2 = s.2 → f1 0 14 < 20 → f (3 + l) j ≠ v → f1 (3 + l) j = f (3 + l) j → adst f j l = ad1 f1 j l → ∀ w5 : Option Value, X (d + 2) mX11_make Q (L0 S) 98 [some (.ref 79), some (.int (nI j)), some (.int (nI (1 + l))), some (.int (nI v)), some (.int (nI (30 + 3 * j) + nI (1 + l))), w5] [] s' := by
      intro s' f1 hA1 ho h3 h20 hne hf1 had w5
      have e1 : s'.1 80 4 = nI (f1 0 14) := hA1.2.2.2.2.2.2
      refine rn I [] 199 ?_
      refine ⟨4, ⟨by decide, rfl⟩, ?_⟩
      refine ⟨100 + 2 * f1 0 14, ⟨by omega, by rw [e1, nml, nad]⟩, ?_⟩
      refine ⟨4, ⟨by decide, rfl⟩, ?_⟩
      have e2 : upd (s'.1 80) (100 + 2 * f1 0 14) (nI j) 4 = nI (f1 0 14) := by rw [ud_n (by omega)]; exact e1
      refine ⟨101 + 2 * f1 0 14, ⟨by omega, ?_⟩, ?_⟩
      · show nI 100 + nI 2 * upd (s'.1 80) (100 + 2 * f1 0 14) (nI j) 4 + nI 1 = _
        rw [e2, nml, nad, nad, show 100 + 2 * f1 0 14 + 1 = 101 + 2 * f1 0 14 by omega]
      refine ⟨4, ⟨by decide, rfl⟩, ?_⟩
      refine ⟨4, ⟨by decide, rfl⟩, ?_⟩
      have e4 : upd (upd (s'.1 80) (100 + 2 * f1 0 14) (nI j)) (101 + 2 * f1 0 14) (nI (1 + l)) 4 = nI (f1 0 14) := by rw [ud_n (by omega)]; exact e2
      have A1 := hA1.more (n := f1 0 14) (sc := j) (l := l) rfl h20
      refine ⟨30 + 3 * j + (1 + l), ⟨by omega, nad _ _⟩, ?_⟩
      refine ⟨30 + 3 * j + (1 + l), ⟨by omega, nad _ _⟩, ?_⟩
      have e5 : upd (upd (upd (s'.1 80) (100 + 2 * f1 0 14) (nI j)) (101 + 2 * f1 0 14) (nI (1 + l))) 4 (nI (f1 0 14 + 1)) (30 + 3 * j + (1 + l)) = nI (f (3 + l) j) := by
        have := A1.1 (3 + l) j (by omega) hj3
        rw [hp] at this
        rw [this, nu_n (by omega), nu_n (by omega), nu_n (by omega), hf1]
      refine ⟨bo, ?_⟩
      show Q (some (.int (nI 1))) (xW (xW (xW (xW s' 80 (100 + 2 * f1 0 14) (nI j)) 80 (101 + 2 * f1 0 14) (nI (1 + l))) 80 4 (upd (upd (s'.1 80) (100 + 2 * f1 0 14) (nI j)) (101 + 2 * f1 0 14) (nI (1 + l)) 4 + nI 1)) 80 (30 + 3 * j + (1 + l)) (nI 1 - upd (upd (upd (s'.1 80) (100 + 2 * f1 0 14) (nI j)) (101 + 2 * f1 0 14) (nI (1 + l))) 4 (upd (upd (s'.1 80) (100 + 2 * f1 0 14) (nI j)) (101 + 2 * f1 0 14) (nI (1 + l)) 4 + nI 1) (30 + 3 * j + (1 + l))))
      rw [e4, nad, e5, nsb (by omega)]
      refine h2 j hj rfl hne _ ?_ (fun k hk => (((xW_n hk).trans (xW_n hk)).trans ((xW_n hk).trans (xW_n hk))).trans (ho k hk)) h3
      have A2 := A1.put (j := 3 + l) (x := j) (v := 1 - f (3 + l) j) (by omega) hj3
      rw [hp] at A2
      rw [adst_nu (by omega) (by omega) (by omega), had, show v = 1 - f (3 + l) j by omega]
      exact A2
    refine q_scopeAt I hS (j := j) rfl ?_
    refine ⟨30 + 3 * j + (1 + l), ⟨by omega, nad _ _⟩, ?_⟩
    have step : f (3 + l) j ≠ v → X (d + 2) mX11_make Q (L0 S) 39 [some (.ref 79), some (.int (nI j)), some (.int (nI (1 + l))), some (.int (nI v)), some (.int (nI (30 + 3 * j) + nI (1 + l))), none] [] s := by
      intro hne
      refine rn I [53, 98] 199 ?_
      refine ⟨4, ⟨by decide, rfl⟩, ?_⟩
      by_cases h20 : f 0 14 = 20
      · refine xbr_t (by rw [e14, h20]) ?_
        have loop : ∀ k i, i + k = 38 → ∀ s' : xS, (∀ p, s'.1 80 p = if 100 ≤ p ∧ p < 100 + i then s.1 80 (p + 2) else s.1 80 p) → (∀ k, k ≠ 80 → s'.1 k = s.1 k) → s'.2 = s.2 → X (d + 2) mX11_make Q (L0 S) 53 [some (.ref 79), some (.int (nI j)), some (.int (nI (1 + l))), some (.int (nI v)), some (.int (nI (30 + 3 * j) + nI (1 + l))), some (.int (nI i))] [] s' := by
          intro k
          induction k with
          | zero =>
            intro i hi s' g1 g2 g3
            obtain rfl : i = 38 := by omega
            refine rn I [98] 99 ?_
            refine xbr_f (znl (by decide) (by decide)) ?_
            refine ⟨4, ⟨by decide, rfl⟩, ?_⟩
            refine ⟨4, ⟨by decide, rfl⟩, ?_⟩
            have e5 : s'.1 80 4 - nI 1 = nI 19 := by rw [g1 4, if_neg (by omega), e14, h20, nsb (by decide)]
            have A := hA.drop h20 g1
            rw [← e5] at A
            exact tail (xW s' 80 4 (s'.1 80 4 - nI 1)) (drp f) A (fun k hk => (xW_n hk).trans (g2 k hk)) g3 (by rw [drp_14]; decide) hne (drp_n (by omega) (by omega) (Or.inl (by omega))) (by unfold adst; rw [if_pos h20]) _
          | succ k ih =>
            intro i hi s' g1 g2 g3
            refine rn I [53] 99 ?_
            refine xbr_t (zlt (by omega) (by omega)) ?_
            refine ⟨100 + i + 2, ⟨by omega, by rw [nad, nad]⟩, ?_⟩
            refine ⟨100 + i, ⟨by omega, nad _ _⟩, ?_⟩
            have := ih (i + 1) (by omega) (xW s' 80 (100 + i) (s'.1 80 (100 + i + 2))) (fun p => by
              rw [xW_s]
              by_cases ep : p = 100 + i
              · subst ep
                rw [ud_s, if_pos ⟨by omega, by omega⟩, g1, if_neg (by omega)]
              · rw [ud_n ep, g1]
                by_cases e : 100 ≤ p ∧ p < 100 + i
                · rw [if_pos e, if_pos ⟨by omega, by omega⟩]
                · rw [if_neg e, if_neg (by omega)]) (fun k hk => (xW_n hk).trans (g2 k hk)) g3
            rw [n1s i] at this
            exact this
        exact loop 38 0 (by omega) s (fun p => by rw [if_neg (by omega)]) (fun _ _ => rfl) rfl
      · refine xbr_f (by rw [e14]; exact zne h20 (by omega) (by decide)) ?_
        exact tail s f hA (fun _ _ => rfl) rfl (by omega) hne rfl (by unfold adst; rw [if_neg h20]) _
    rcases (show v = 0 ∨ v = 1 by omega) with rfl | rfl
    · refine xbr_t rfl ?_
      refine xbr_c (fun he => ?_) (fun he => ?_)
      · refine ⟨bo, h1 j hj rfl ?_⟩
        rw [e3] at he
        exact zeq (by omega) (by decide) he
      · exact step (fun q => he (by rw [e3, q]))
    · refine xbr_f n10 ?_
      refine xbr_c (fun he => ?_) (fun he => ?_)
      · refine ⟨bo, h1 j hj rfl ?_⟩
        rw [e3] at he
        exact zeq (by omega) (by decide) he
      · exact step (fun q => he (by rw [e3, q]))
  · refine xbr_t rfl ?_
    exact ⟨bz, h0 hc⟩
end MODEL2
