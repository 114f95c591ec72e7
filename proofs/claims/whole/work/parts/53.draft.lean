/-! the draft: orders are added, a leap lands -/
def fD (s s' : xS) : Prop := (∀ q, q ≠ 26 → q ≠ 29 → s'.1 q = s.1 q) ∧ s'.2 = s.2
theorem fD.tr {a b c : xS} (h : fD a b) (k : fD b c) : fD a c := ⟨fun q h1 h2 => (k.1 q h1 h2).trans (h.1 q h1 h2), k.2.trans h.2⟩
theorem fD.rf {a : xS} : fD a a := ⟨fun _ _ _ => rfl, rfl⟩
def on (o : Nat → Nat) (i v : Nat) : Nat → Nat := fun j => if j = i then v else o j
theorem on_s {o : Nat → Nat} {i v : Nat} : on o i v i = v := if_pos rfl
theorem on_n {o : Nat → Nat} {i v j : Nat} (h : j ≠ i) : on o i v j = o j := if_neg h
section DRAFT
variable {X : xXT} {P : xPT} {d S : Nat} {s : xS} {Q : xQ} {o : Nat → Nat} {z : Nat}
theorem m_add (I : xRl X P) (hS : S ≤ 128) (hp : PG s 26 o z) (hz : z < 300) {x y : Int32} {k v : Nat} (ex : x = nI k) (ey : y = nI v) (hk : k < 32) (hv : v ≤ 10000) (h : ∀ s' : xS, PG s' 26 (on o z (k + 32 * v)) (z + 1) → fD s s' → Q (some (.int (nI z))) s') : P (d + 1) (L0 S) 38 [.ref 26, .int x, .int y] s Q := by
  subst ex
  subst ey
  refine inX4_add I (L0ok hS) ?_
  refine rn I [] 99 ?_
  refine xbr_t (by rw [hp.1]; exact zlt hz (by omega)) ?_
  refine ⟨z, ⟨hz, hp.1⟩, ?_⟩
  have ev : nI k + nI 32 * nI v = nI (k + 32 * v) := by rw [nml, nad]
  have e1 : (xW s 29 z (nI k + nI 32 * nI v)).1 26 3 = nI z := by rw [xW_n (by decide)]; exact hp.1
  have e2 : (xW (xW s 29 z (nI k + nI 32 * nI v)) 26 3 ((xW s 29 z (nI k + nI 32 * nI v)).1 26 3 + nI 1)).1 26 3 = nI (z + 1) := by rw [xW_s, ud_s, e1, nad]
  have e3 : nI (z + 1) - nI 1 = nI z := by rw [nsb (by omega)]; rfl
  have q := h (xW (xW s 29 z (nI k + nI 32 * nI v)) 26 3 ((xW s 29 z (nI k + nI 32 * nI v)).1 26 3 + nI 1)) ⟨e2, by omega, fun i hi => by
    rw [xW_n (by decide), show (26 : Nat) + 3 = 29 from rfl, xW_s]
    by_cases e : i = z
    · subst e
      rw [ud_s, on_s]
      exact ⟨ev, by omega⟩
    · rw [ud_n e, on_n e]
      exact hp.2.2 i (by omega)⟩ ⟨fun q h1 h2 => by rw [xW_n h1, xW_n h2], rfl⟩
  rw [← e3, ← e2] at q
  exact q
theorem m_landHere (I : xRl X P) (hS : S ≤ 128) (hp : PG s 26 o z) {x : Int32} {i : Nat} (ex : x = nI i) (hi : i < z) (h : ∀ s' : xS, PG s' 26 (on o i (o i % 32 + 32 * z)) z → fD s s' → Q none s') : P (d + 1) (L0 S) 39 [.ref 26, .int x] s Q := by
  subst ex
  have hz := hp.2.1
  have ho := hp.2.2 i hi
  have e29 : s.1 29 i = nI (o i) := ho.1
  refine inX4_landHere I (L0ok hS) ?_
  refine rn I [] 99 ?_
  refine xbr_f (zn0 (by omega)) ?_
  refine xbr_t (by rw [hp.1]; exact zlt hi (by omega)) ?_
  refine ⟨i, ⟨by omega, rfl⟩, ?_⟩
  refine And.intro (by decide +kernel) ?_
  refine ⟨i, ⟨by omega, rfl⟩, ?_⟩
  have ev : s.1 29 i - s.1 29 i / nI 32 * nI 32 + nI 32 * s.1 26 3 = nI (o i % 32 + 32 * z) := by rw [e29, pk_rem (by omega) (by decide) (by decide), hp.1, nml, nad]
  refine h _ ⟨by rw [xW_n (by decide)]; exact hp.1, hz, fun j hj => ?_⟩ ⟨fun q h1 h2 => xW_n h2, rfl⟩
  rw [show (26 : Nat) + 3 = 29 from rfl, xW_s]
  by_cases e : j = i
  · subst e
    rw [ud_s, on_s]
    exact ⟨ev, by omega⟩
  · rw [ud_n e, on_n e]
    exact hp.2.2 j hj
end DRAFT
