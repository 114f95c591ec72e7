/-! the class's fort: what changes it -/
section FORT2
variable {X : xXT} {P : xPT} {d S : Nat} {s : xS} {Q : xQ} {f g : Nm} {ru rk : Int32}
theorem m_freeScope (I : xRl X P) (hS : S ≤ 128) (hF : FC s.1 1 f ru) (hB : FB f) {b : Nat} (hb31 : b < 2 ^ 31) (h1 : ∀ j, j < f 0 12 → f 4 j = 0 → cfr f j = b → Q (some (.int (nI j))) s) (h0 : (∀ j, j < f 0 12 → f 4 j = 0 → cfr f j ≠ b) → Q (some (.int (-(nI 1)))) s) : P (d + 1) (L0 S) 10 [.ref 1, .int (nI b)] s Q := by
  have hn := hB.1.1
  have e := hF.2.1 12 (by omega)
  have loop : ∀ k i, i + k = f 0 12 → (∀ j, j < i → f 4 j = 0 → cfr f j ≠ b) → X d mX0_freeScope Q (L0 S) 4 [some (.ref 1), some (.int (nI b)), some (.int (nI (cfr f i))), some (.int (nI i))] [] s := by
    intro k
    induction k with
    | zero =>
      intro i hi hno
      refine rn I [] 99 ?_
      refine xbr_f (by rw [e]; exact znl (by omega) (by omega)) ?_
      exact h0 (fun j hj => hno j (by omega))
    | succ k ih =>
      intro i hi hno
      refine rn I [4] 99 ?_
      refine xbr_t (by rw [e]; exact zlt (by omega) (by omega)) ?_
      refine ⟨i, ⟨by omega, rfl⟩, ?_⟩
      have e4 := hF.1 4 i (by show i < 8; omega)
      have hb : f 4 i < 2 := hB.2.1 4 i (by show i < 8; omega)
      have hc := cfr_le f i
      refine xbr_c (fun hz => ?_) (fun hz => ?_)
      · have hz2 : nI (f 4 i) = nI 0 := by rw [← e4]; exact hz
        have hz3 := zeq (by omega) (by decide) hz2
        refine xbr_c (fun he => ?_) (fun he => ?_)
        · exact h1 i (by omega) hz3 (zeq (by omega) (by omega) he)
        · have ihn := ih (i + 1) (by omega) (fun j hj hj4 => by
            by_cases ej : j = i
            · subst ej
              exact fun q => he (by rw [q])
            · exact hno j (by omega) hj4)
          rw [cfr_s, if_pos hz3, n1s (cfr f i), n1s i] at ihn
          exact ihn
      · have hz3 : f 4 i ≠ 0 := fun q => hz (by show s.1 (1 + 4) i = nI 0; rw [e4, q])
        have ihn := ih (i + 1) (by omega) (fun j hj hj4 => by
            by_cases ej : j = i
            · subst ej
              exact absurd hj4 hz3
            · exact hno j (by omega) hj4)
        rw [cfr_s, if_neg hz3, Nat.add_zero, n1s] at ihn
        exact ihn
  refine inX0_freeScope I (L0ok hS) ?_
  refine rn I [4] 99 ?_
  exact loop (f 0 12) 0 (by omega) (fun j hj => absurd hj (Nat.not_lt_zero _))
def plc (f : Nm) (j : Nat) : Nm := nu (nu (nu (nu f 2 (f 0 12) j) 3 (f 0 12) 0) 4 (f 0 12) 0) 0 12 (f 0 12 + 1)
theorem m_place (I : xRl X P) (hS : S ≤ 128) (hF : FC s.1 1 f ru) (hB : FB f) {c : Int32} (h1 : ∀ j, j < cc f → c = nI j → f 0 12 < 8 → FQ s (plc f j) ru (some (.int (nI (f 0 12)))) Q) (h0 : ((∀ j, j < cc f → c ≠ nI j) ∨ f 0 12 = 8) → Q (some (.int (-(nI 1)))) s) : P (d + 3) (L0 S) 11 [.ref 1, .int c] s Q := by
  have hn := hB.1.1
  have e := hF.2.1 12 (by omega)
  refine inX0_place I (L0ok hS) ?_
  refine rn I [] 199 ?_
  refine m_hasCell I hS hF hB (fun j hj ej => ?_) (fun hc => ?_)
  · subst ej
    refine xbr_f n10 ?_
    by_cases h8 : f 0 12 < 8
    · refine xbr_t (by rw [e]; exact zlt h8 (by omega)) ?_
      refine ⟨f 0 12, ⟨h8, e⟩, ?_⟩
      refine ⟨f 0 12, ⟨h8, e, bz⟩, ?_⟩
      refine ⟨f 0 12, ⟨h8, e, bz⟩, ?_⟩
      show Q (some (.int (s.1 1 12 + nI 1 - nI 1))) (xW (xW (xW (xW s 3 (f 0 12) (nI j)) 4 _ _) 5 _ _) 1 12 (s.1 1 12 + nI 1))
      rw [e, nad, nsb (by omega)]
      exact h1 j hj rfl h8 _ ((((hF.put (j := 2) (x := f 0 12) (v := j) h8).put (j := 3) (x := f 0 12) (v := 0) h8).put (j := 4) (x := f 0 12) (v := 0) h8).fld (x := 12) (v := f 0 12 + 1) (by decide) (by decide)) ((((oth.rf.up _ (by omega)).up _ (by omega)).up _ (by omega)).up _ (by omega)) rfl
    · refine xbr_f (by rw [e]; exact znl (by omega) (by omega)) ?_
      exact h0 (Or.inr (by omega))
  · refine xbr_t rfl ?_
    exact h0 (Or.inl hc)
/-- the oldest step is gone -/
def part (k : Nat) (f : Nm) : Nm := fun a i => if (a = 9 ∨ a = 10) ∧ i < k then f a (i + 1) else f a i
def drp (f : Nm) : Nm := nu (part 19 f) 0 14 19
theorem part_0 (f : Nm) : part 0 f = f := by
  funext a i
  unfold part
  rw [if_neg (by omega)]
theorem part_s (f : Nm) (k : Nat) : nu (nu (part k f) 9 k (f 9 (k + 1))) 10 k (f 10 (k + 1)) = part (k + 1) f := by
  funext a i
  by_cases h10 : a = 10 ∧ i = k
  · obtain ⟨rfl, rfl⟩ := h10
    rw [nu_s]
    unfold part
    rw [if_pos ⟨Or.inr rfl, by omega⟩]
  · rw [nu_n (by omega)]
    by_cases h9 : a = 9 ∧ i = k
    · obtain ⟨rfl, rfl⟩ := h9
      rw [nu_s]
      unfold part
      rw [if_pos ⟨Or.inl rfl, by omega⟩]
    · rw [nu_n (by omega)]
      unfold part
      by_cases h : (a = 9 ∨ a = 10) ∧ i < k
      · rw [if_pos h, if_pos ⟨h.1, by omega⟩]
      · rw [if_neg h, if_neg (by omega)]
theorem m_drop (I : xRl X P) (hS : S ≤ 128) (hF : FC s.1 1 f ru) (hB : FB f) (h : FQ s (drp f) ru none Q) : P (d + 1) (L0 S) 14 [.ref 1] s Q := by
  have loop : ∀ k i, i + k = 19 → ∀ s' : xS, FC s'.1 1 (part i f) ru → oth s.1 s'.1 → s'.2 = s.2 → X d mX0_dropOldestStep Q (L0 S) 2 [some (.ref 1), some (.int (nI (i + 1)))] [] s' := by
    intro k
    induction k with
    | zero =>
      intro i hi s' hr ho h2
      refine rn I [] 99 ?_
      refine xbr_f (znl (by omega) (by omega)) ?_
      obtain rfl : i = 19 := by omega
      exact h _ (hr.fld (x := 14) (v := 19) (by decide) (by decide)) (ho.up _ (by omega)) h2
    | succ k ih =>
      intro i hi s' hr ho h2
      refine rn I [2] 99 ?_
      refine xbr_t (zlt (by omega) (by omega)) ?_
      have e9 : s'.1 10 (i + 1) = nI (f 9 (i + 1)) := by
        have := hr.1 9 (i + 1) (by show i + 1 < 20; omega)
        unfold part at this
        rw [if_neg (by omega)] at this
        exact this
      have e10 : s'.1 11 (i + 1) = nI (f 10 (i + 1)) := by
        have := hr.1 10 (i + 1) (by show i + 1 < 20; omega)
        unfold part at this
        rw [if_neg (by omega)] at this
        exact this
      have hb : f 10 (i + 1) < 2 := hB.2.1 10 (i + 1) (by show i + 1 < 20; omega)
      refine ⟨i + 1, ⟨by omega, rfl⟩, ?_⟩
      refine ⟨i, ⟨by omega, by rw [nsb (by omega)]; rfl⟩, ?_⟩
      refine ⟨i + 1, ⟨by omega, rfl⟩, ?_⟩
      refine ⟨i, ⟨by omega, by rw [nsb (by omega)]; rfl, ?_⟩, ?_⟩
      · show s'.1 11 (i + 1) = _ ∨ s'.1 11 (i + 1) = _
        rw [e10]
        exact b01 hb
      · have hr2 := (hr.put (j := 9) (x := i) (v := f 9 (i + 1)) (by show i < 20; omega)).put (j := 10) (x := i) (v := f 10 (i + 1)) (by show i < 20; omega)
        rw [part_s] at hr2
        have := ih (i + 1) (by omega) (xW (xW s' 10 i (nI (f 9 (i + 1)))) 11 i (nI (f 10 (i + 1)))) hr2 ((ho.up _ (by omega)).up _ (by omega)) h2
        rw [n1s (i + 1)] at this
        rw [← e9, ← e10] at this
        exact this
  refine inX0_dropOldestStep I (L0ok hS) ?_
  refine rn I [2] 99 ?_
  have hF0 := hF
  rw [← part_0 f] at hF0
  exact loop 19 0 (by omega) s hF0 oth.rf rfl
theorem drp_n {f : Nm} {a i : Nat} (h : a ≠ 9) (h2 : a ≠ 10) (h3 : a ≠ 0 ∨ i ≠ 14) : drp f a i = f a i := by
  unfold drp
  rw [nu_n h3]
  unfold part
  rw [if_neg (by omega)]
theorem drp_14 (f : Nm) : drp f 0 14 = 19 := by
  unfold drp
  rw [nu_s]
theorem FB.dropd {f : Nm} (h : FB f) : FB (drp f) := by
  have hc : cc (drp f) = cc f := by
    unfold cc
    rw [drp_n (by decide) (by decide) (Or.inr (by decide)), drp_n (by decide) (by decide) (Or.inr (by decide))]
  refine ⟨?_, fun j i hi => ?_, ?_⟩
  · rw [drp_n (by decide) (by decide) (Or.inr (by decide)), drp_n (by decide) (by decide) (Or.inr (by decide)), drp_14, drp_n (by decide) (by decide) (Or.inr (by decide))]
    exact ⟨h.1.1, h.1.2.1, by decide, h.1.2.2.2⟩
  · rw [hc]
    have h0 : j ≠ 0 := by rcases xln_c hi with e | e | e | e | e | e | e | e | e | e <;> omega
    unfold drp
    rw [nu_n (Or.inl h0)]
    unfold part
    by_cases e : (j = 9 ∨ j = 10) ∧ i < 19
    · rw [if_pos e]
      refine h.2.1 j (i + 1) ?_
      rcases e with ⟨rfl | rfl, e2⟩
      · show i + 1 < 20; omega
      · show i + 1 < 20; omega
    · rw [if_neg e]
      exact h.2.1 j i hi
  · rw [drp_n (by decide) (by decide) (Or.inr (by decide)), drp_n (by decide) (by decide) (Or.inr (by decide))]
    exact h.2.2
/-- one step more: telescope j, its turning (l = 0) or lending (l = 1) -/
def ad1 (f : Nm) (j l : Nat) : Nm := nu (nu (nu f 9 (f 0 14) j) 10 (f 0 14) l) 0 14 (f 0 14 + 1)
def adst (f : Nm) (j l : Nat) : Nm := if f 0 14 = 20 then ad1 (drp f) j l else ad1 f j l
theorem m_addStep (I : xRl X P) (hS : S ≤ 128) (hF : FC s.1 1 f ru) (hB : FB f) {j l : Nat} (hl : l < 2) (h : FQ s (adst f j l) ru none Q) : P (d + 2) (L0 S) 13 [.ref 1, .int (nI j), .int (nI l)] s Q := by
  have hn := hB.1.2.2.1
  have e := hF.2.1 14 (by omega)
  have tail : ∀ (s' : xS) (f1 : Nm), FC s'.1 1 f1 ru → oth s.1 s'.1 → s'.2 = s.2 → f1 0 14 < 20 → adst f j l = ad1 f1 j l → X (d + 1) mX0_addStep Q (L0 S) 13 [some (.ref 1), some (.int (nI j)), some (.int (nI l))] [] s' := by
    intro s' f1 hr ho h2 h20 ha
    have e1 : s'.1 1 14 = nI (f1 0 14) := hr.2.1 14 (by omega)
    rw [ha] at h
    refine rn I [] 99 ?_
    refine ⟨f1 0 14, ⟨h20, e1⟩, ?_⟩
    refine ⟨f1 0 14, ⟨h20, e1, b01 hl⟩, ?_⟩
    show Q none (xW (xW (xW s' 10 (f1 0 14) (nI j)) 11 _ _) 1 14 (s'.1 1 14 + nI 1))
    rw [e1, nad]
    exact h _ (((hr.put (j := 9) (x := f1 0 14) (v := j) h20).put (j := 10) (x := f1 0 14) (v := l) h20).fld (x := 14) (v := f1 0 14 + 1) (by decide) (by decide)) (((ho.up _ (by omega)).up _ (by omega)).up _ (by omega)) h2
  refine inX0_addStep I (L0ok hS) ?_
  refine rn I [13] 99 ?_
  by_cases h20 : f 0 14 < 20
  · refine xbr_t (by rw [e]; exact zlt h20 (by omega)) ?_
    exact tail s f hF oth.rf rfl h20 (by unfold adst; rw [if_neg (by omega)])
  · refine xbr_f (by rw [e]; exact znl (by omega) (by omega)) ?_
    refine m_drop I hS hF hB (fun s' hr ho h2 => ?_)
    exact tail s' (drp f) hr ho h2 (by rw [drp_14]; decide) (by unfold adst; rw [if_pos (by omega)])
theorem m_change (I : xRl X P) (hS : S ≤ 128) (hF : FC s.1 1 f ru) (hB : FB f) {l v : Nat} (hl : l < 2) (hv : v < 2) {c : Int32} (h1 : ∀ j, j < f 0 12 → c = nI j → f (3 + l) j = v → Q (some (.int (nI 1))) s) (h2 : ∀ j, j < f 0 12 → c = nI j → f (3 + l) j ≠ v → FQ s (adst (nu f (3 + l) j v) j l) ru (some (.int (nI 1))) Q) (h0 : (∀ j, j < f 0 12 → c ≠ nI j) → Q (some (.int (nI 0))) s) : P (d + 3) (L0 S) 12 [.ref 1, .int c, .int (nI l), .int (nI v)] s Q := by
  have hn := hB.1.1
  refine inX0_change I (L0ok hS) ?_
  refine rn I [] 99 ?_
  refine m_hasScope I hS hF hB (fun j hj ej => ?_) (fun hc => ?_)
  · subst ej
    refine xbr_f n10 ?_
    have hj8 : j < 8 := by omega
    rcases (show l = 0 ∨ l = 1 by omega) with rfl | rfl
    · refine xbr_t rfl ?_
      refine ⟨j, ⟨hj8, rfl⟩, ?_⟩
      have e3 : s.1 4 j = nI (f 3 j) := hF.1 3 j hj8
      have hb : f 3 j < 2 := hB.2.1 3 j hj8
      refine xbr_c (fun hz => ?_) (fun hz => ?_)
      · refine ⟨bo, h1 j hj rfl ?_⟩
        exact zeq (by show f 3 j < _; omega) (by omega) (by rw [← e3]; exact hz)
      · refine ⟨j, ⟨hj8, rfl, b01 hv⟩, ?_⟩
        refine m_addStep I hS (s := xW s 4 j (nI v)) (f := nu f 3 j v) (hF.put (j := 3) (x := j) (v := v) hj8) (hB.put (by decide) hv) (by decide) (fun s' hr ho h3 => ?_)
        exact ⟨bo, h2 j hj rfl (fun q => hz (by show s.1 4 j = _; rw [e3]; exact congrArg nI q)) s' hr (fun k hk => (ho k hk).trans (up_n (by omega))) h3⟩
    · refine xbr_f n10 ?_
      refine ⟨j, ⟨hj8, rfl⟩, ?_⟩
      have e3 : s.1 5 j = nI (f 4 j) := hF.1 4 j hj8
      have hb : f 4 j < 2 := hB.2.1 4 j hj8
      refine xbr_c (fun hz => ?_) (fun hz => ?_)
      · refine ⟨bo, h1 j hj rfl ?_⟩
        exact zeq (by show f 4 j < _; omega) (by omega) (by rw [← e3]; exact hz)
      · refine ⟨j, ⟨hj8, rfl, b01 hv⟩, ?_⟩
        refine m_addStep I hS (s := xW s 5 j (nI v)) (f := nu f 4 j v) (hF.put (j := 4) (x := j) (v := v) hj8) (hB.put (by decide) hv) (by decide) (fun s' hr ho h3 => ?_)
        exact ⟨bo, h2 j hj rfl (fun q => hz (by show s.1 5 j = _; rw [e3]; exact congrArg nI q)) s' hr (fun k hk => (ho k hk).trans (up_n (by omega))) h3⟩
  · refine xbr_t rfl ?_
    exact ⟨bz, h0 hc⟩
end FORT2
