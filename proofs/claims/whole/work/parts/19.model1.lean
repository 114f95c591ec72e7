/-! the reference: its array's methods -/
theorem rm1 {c : Int32} {n : Nat} (hn : n < 2 ^ 30) (a1 : ¬ c < nI 0) (a2 : ¬ nI n - nI 1 < c) : ∃ j, j < n ∧ c = nI j := by
  obtain ⟨m, hm, rfl⟩ := nI_of (x := c) (by rw [← nI_0]; exact a1)
  by_cases h0 : n = 0
  · subst h0
    exfalso
    apply a2
    have e : nI 0 - nI 1 = -(nI 1) := by decide +kernel
    rw [e]
    exact Int32.lt_of_lt_of_le zm1 (Int32.not_lt.mp a1)
  · rw [nsb (by omega)] at a2
    exact ⟨m, by have := zge (by omega) (by omega) a2; omega, rfl⟩
theorem rm2 {c : Int32} {n : Nat} (hn : n < 2 ^ 30) (a : c < nI 0 ∨ nI n - nI 1 < c) : ∀ j, j < n → c ≠ nI j := by
  intro j hj e
  subst e
  rcases a with a | a
  · exact zn0 (by omega) a
  · rw [nsb (by omega)] at a
    have := zlt' (by omega) (by omega) a
    omega
def MW (s : xS) (f : Nm) : Prop := s.1 79 2 = nI (f 0 0) ∧ s.1 79 3 = nI (f 0 1)
/-- what a change of the reference's array leaves -/
def AQ (s : xS) (f : Nm) (ru : Int32) (v : Option Value) (Q : xQ) : Prop := ∀ s' : xS, FA (s'.1 80) f ru → (∀ k, k ≠ 80 → s'.1 k = s.1 k) → s'.2 = s.2 → Q v s'
section MODEL1
variable {X : xXT} {P : xPT} {d S : Nat} {s : xS} {Q : xQ} {f g : Nm} {ru rk : Int32}
theorem q_isIn (I : xRl X P) (hS : S ≤ 128) {v lo hi : Int32} (h1 : ¬ v < lo → ¬ hi < v → Q (some (.int (nI 1))) s) (h0 : (v < lo ∨ hi < v) → Q (some (.int (nI 0))) s) : P (d + 1) (L0 S) 128 [.int v, .int lo, .int hi] s Q := by
  refine inX11_isIn I (L0ok hS) ?_
  refine rn I [] 99 ?_
  refine xbr_c (fun a => ?_) (fun a => ?_)
  · exact ⟨bz, h0 (Or.inl a)⟩
  · refine xbr_c (fun b => ?_) (fun b => ?_)
    · exact ⟨bz, h0 (Or.inr b)⟩
    · exact ⟨bo, h1 a b⟩
theorem q_isHour (I : xRl X P) (hS : S ≤ 128) {c : Int32} (h1 : ∀ j, j < 24 → c = nI j → Q (some (.int (nI 1))) s) (h0 : (∀ j, j < 24 → c ≠ nI j) → Q (some (.int (nI 0))) s) : P (d + 2) (L0 S) 135 [.int c] s Q := by
  refine inX11_isHour I (L0ok hS) ?_
  refine rn I [] 99 ?_
  refine q_isIn I hS (fun a1 a2 => ?_) (fun a => ?_)
  · obtain ⟨j, hj, rfl⟩ := rm1 (n := 24) (by decide) a1 (by rw [nsb (by decide)]; exact a2)
    exact ⟨bo, h1 j hj rfl⟩
  · exact ⟨bz, h0 (rm2 (n := 24) (by decide) (by rw [nsb (by decide)]; exact a))⟩
theorem q_isCell (I : xRl X P) (hS : S ≤ 128) (hW : MW s f) (hB : FB f) {c : Int32} (h1 : ∀ j, j < cc f → c = nI j → Q (some (.int (nI 1))) s) (h0 : (∀ j, j < cc f → c ≠ nI j) → Q (some (.int (nI 0))) s) : P (d + 2) (L0 S) 131 [.ref 79, .int c] s Q := by
  have hc := hB.cc16
  have e : s.1 79 2 * s.1 79 3 - nI 1 = nI (cc f) - nI 1 := by rw [hW.1, hW.2, nml]; rfl
  refine inX11_isCell I (L0ok hS) ?_
  refine rn I [] 99 ?_
  refine q_isIn I hS (fun a1 a2 => ?_) (fun a => ?_)
  · rw [e] at a2
    obtain ⟨j, hj, rfl⟩ := rm1 (by omega) a1 a2
    exact ⟨bo, h1 j hj rfl⟩
  · rw [e] at a
    exact ⟨bz, h0 (rm2 (by omega) a)⟩
theorem q_states (I : xRl X P) (hS : S ≤ 128) (hW : MW s f) (h : Q (some (.int (nI (8 * cc f)))) s) : P (d + 1) (L0 S) 130 [.ref 79] s Q := by
  have e : nI 8 * s.1 79 2 * s.1 79 3 = nI (8 * cc f) := by rw [hW.1, hW.2, nml, nml, Nat.mul_assoc]; rfl
  refine inX11_states I (L0ok hS) ?_
  refine rn I [] 99 ?_
  rw [← e] at h
  exact h
theorem q_isState (I : xRl X P) (hS : S ≤ 128) (hW : MW s f) (hB : FB f) {c : Int32} (h1 : ∀ j, j < 8 * cc f → c = nI j → Q (some (.int (nI 1))) s) (h0 : (∀ j, j < 8 * cc f → c ≠ nI j) → Q (some (.int (nI 0))) s) : P (d + 2) (L0 S) 132 [.ref 79, .int c] s Q := by
  have hc := hB.cc16
  refine inX11_isState I (L0ok hS) ?_
  refine rn I [] 99 ?_
  refine q_states I hS hW ?_
  refine q_isIn I hS (fun a1 a2 => ?_) (fun a => ?_)
  · obtain ⟨j, hj, rfl⟩ := rm1 (n := 8 * cc f) (by omega) a1 a2
    exact ⟨bo, h1 j hj rfl⟩
  · exact ⟨bz, h0 (rm2 (by omega) a)⟩
theorem q_isScope (I : xRl X P) (hS : S ≤ 128) (hA : FA (s.1 80) f ru) (hB : FB f) {c : Int32} (h1 : ∀ j, j < f 0 12 → c = nI j → Q (some (.int (nI 1))) s) (h0 : (∀ j, j < f 0 12 → c ≠ nI j) → Q (some (.int (nI 0))) s) : P (d + 2) (L0 S) 133 [.ref 79, .int c] s Q := by
  have hn := hB.1.1
  have e : s.1 80 0 = nI (f 0 12) := hA.2.2.1
  refine inX11_isScope I (L0ok hS) ?_
  refine rn I [] 99 ?_
  refine ⟨0, ⟨by decide, rfl⟩, ?_⟩
  refine q_isIn I hS (fun a1 a2 => ?_) (fun a => ?_)
  · rw [e] at a2
    obtain ⟨j, hj, rfl⟩ := rm1 (by omega) a1 a2
    exact ⟨bo, h1 j hj rfl⟩
  · rw [e] at a
    exact ⟨bz, h0 (rm2 (by omega) a)⟩
theorem q_scopeAt (I : xRl X P) (hS : S ≤ 128) {x : Int32} {j : Nat} (hx : x = nI j) (h : Q (some (.int (nI (30 + 3 * j)))) s) : P (d + 1) (L0 S) 134 [.int x] s Q := by
  subst hx
  refine inX11_scopeAt I (L0ok hS) ?_
  refine rn I [] 99 ?_
  rw [← nad, ← nml] at h
  exact h
theorem q_hill (I : xRl X P) (hS : S ≤ 128) (hW : MW s f) (hA : FA (s.1 80) f ru) (hB : FB f) {c t : Int32} (h1 : ∀ j v, j < cc f → c = nI j → v < 10 → t = nI v → AQ s (nu f 1 j v) ru (some (.int (nI 1))) Q) (h0 : (¬ ∃ j v, j < cc f ∧ c = nI j ∧ v < 10 ∧ t = nI v) → Q (some (.int (nI 0))) s) : P (d + 3) (L0 S) 136 [.ref 79, .int c, .int t] s Q := by
  have hc := hB.cc16
  refine inX11_hill I (L0ok hS) ?_
  refine rn I [] 99 ?_
  refine q_isCell I hS hW hB (fun j hj ej => ?_) (fun hn => ?_)
  · subst ej
    refine xbr_f n10 ?_
    refine q_isIn I hS (fun a1 a2 => ?_) (fun a => ?_)
    · refine xbr_f n10 ?_
      obtain ⟨v, hv, rfl⟩ := rm1 (n := 10) (by decide) a1 (by rw [nsb (by decide)]; exact a2)
      refine ⟨10 + j, ⟨by omega, nad 10 j⟩, ?_⟩
      exact ⟨bo, h1 j v hj rfl hv rfl _ (hA.put (j := 1) (x := j) (v := v) (by decide) (by show j < 16; omega)) (fun k hk => up_n hk) rfl⟩
    · refine xbr_t rfl ?_
      exact ⟨bz, h0 (fun ⟨_, v, _, _, q1, q2⟩ => rm2 (n := 10) (by decide) (by rw [nsb (by decide)]; exact a) v q1 q2)⟩
  · refine xbr_t rfl ?_
    exact ⟨bz, h0 (fun ⟨j, _, q1, q2, _, _⟩ => hn j q1 q2)⟩
theorem q_scope (I : xRl X P) (hS : S ≤ 128) (hW : MW s f) (hA : FA (s.1 80) f ru) (hB : FB f) {c : Int32} (h1 : ∀ j, j < cc f → c = nI j → f 0 12 < 8 → AQ s (plc f j) ru (some (.int (nI (f 0 12)))) Q) (h0 : ((∀ j, j < cc f → c ≠ nI j) ∨ f 0 12 = 8) → Q (some (.int (-(nI 1)))) s) : P (d + 3) (L0 S) 137 [.ref 79, .int c] s Q := by
  have hn := hB.1.1
  have e : s.1 80 0 = nI (f 0 12) := hA.2.2.1
  refine inX11_scope I (L0ok hS) ?_
  refine rn I [] 199 ?_
  refine q_isCell I hS hW hB (fun j hj ej => ?_) (fun hc => ?_)
  · subst ej
    refine xbr_f n10 ?_
    refine ⟨0, ⟨by decide, rfl⟩, ?_⟩
    by_cases h8 : f 0 12 = 8
    · refine xbr_t (by rw [e, h8]) ?_
      exact h0 (Or.inr h8)
    · refine xbr_f (by rw [e]; exact zne h8 (by omega) (by decide)) ?_
      have hl : f 0 12 < 8 := by omega
      refine ⟨0, ⟨by decide, rfl⟩, ?_⟩
      refine q_scopeAt I hS e ?_
      refine ⟨30 + 3 * f 0 12, ⟨by omega, rfl⟩, ?_⟩
      have A1 := hA.put (j := 2) (x := f 0 12) (v := j) (by decide) hl
      refine ⟨0, ⟨by decide, rfl⟩, ?_⟩
      refine q_scopeAt I hS (j := f 0 12) (by show upd (s.1 80) (30 + 3 * f 0 12) _ 0 = _; rw [ud_n (by omega)]; exact e) ?_
      refine ⟨31 + 3 * f 0 12, ⟨by omega, by rw [nad, show 30 + 3 * f 0 12 + 1 = 31 + 3 * f 0 12 by omega]⟩, ?_⟩
      have A2 := A1.put (j := 3) (x := f 0 12) (v := 0) (by decide) hl
      refine ⟨0, ⟨by decide, rfl⟩, ?_⟩
      refine q_scopeAt I hS (j := f 0 12) (by show upd (upd (s.1 80) (30 + 3 * f 0 12) _) (31 + 3 * f 0 12) _ 0 = _; rw [ud_n (by omega), ud_n (by omega)]; exact e) ?_
      refine ⟨32 + 3 * f 0 12, ⟨by omega, by rw [nad, show 30 + 3 * f 0 12 + 2 = 32 + 3 * f 0 12 by omega]⟩, ?_⟩
      have A3 := A2.put (j := 4) (x := f 0 12) (v := 0) (by decide) hl
      refine ⟨0, ⟨by decide, rfl⟩, ?_⟩
      refine ⟨0, ⟨by decide, rfl⟩, ?_⟩
      refine ⟨0, ⟨by decide, rfl⟩, ?_⟩
      have e3 : upd (upd (upd (s.1 80) (30 + 3 * f 0 12) (nI j)) (31 + 3 * f 0 12) (nI 0)) (32 + 3 * f 0 12) (nI 0) 0 = nI (f 0 12) := by rw [ud_n (by omega), ud_n (by omega), ud_n (by omega)]; exact e
      show Q (some (.int (upd (upd (upd (s.1 80) (30 + 3 * f 0 12) (nI j)) (31 + 3 * f 0 12) (nI 0)) (32 + 3 * f 0 12) (nI 0) 0 + nI 1 - nI 1))) (xW (xW (xW (xW s 80 (30 + 3 * f 0 12) (nI j)) 80 (31 + 3 * f 0 12) (nI 0)) 80 (32 + 3 * f 0 12) (nI 0)) 80 0 (upd (upd (upd (s.1 80) (30 + 3 * f 0 12) (nI j)) (31 + 3 * f 0 12) (nI 0)) (32 + 3 * f 0 12) (nI 0) 0 + nI 1))
      rw [e3, nad, nsb (by omega)]
      refine h1 j hj rfl hl _ ?_ (fun k hk => ((up_n hk).trans (up_n hk)).trans ((up_n hk).trans (up_n hk))) rfl
      exact A3.cnt (x := 12) (p := 0) (v := f 0 12 + 1) (Or.inl ⟨rfl, rfl⟩)
  · refine xbr_t rfl ?_
    exact h0 (Or.inl hc)
end MODEL1
