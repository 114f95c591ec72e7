/-! the draft: clear, open, close -/
def fE (s s' : xS) : Prop := (∀ q, (q < 26 ∨ 29 < q) → s'.1 q = s.1 q) ∧ s'.2 = s.2
theorem fE.tr {a b c : xS} (h : fE a b) (k : fE b c) : fE a c := ⟨fun q h1 => (k.1 q h1).trans (h.1 q h1), k.2.trans h.2⟩
theorem fD.e {a b : xS} (h : fD a b) : fE a b := ⟨fun q h1 => h.1 q (by omega) (by omega), h.2⟩
section DRAFT2
variable {X : xXT} {P : xPT} {d S : Nat} {s : xS} {Q : xQ} {o : Nat → Nat} {z : Nat}
theorem m_clearD (I : xRl X P) (hS : S ≤ 128) (h : ∀ s' : xS, PG s' 26 (fun _ => 0) 0 → (∀ c, c < 4 → s'.1 27 c = -(nI 1)) → fE s s' → Q none s') : P (d + 1) (L0 S) 34 [.ref 26] s Q := by
  have loop : ∀ m i, i + m = 4 → ∀ s' : xS, s'.1 26 3 = nI 0 → (∀ c, c < i → s'.1 27 c = -(nI 1)) → fE s s' → X d mX4_clear Q (L0 S) 7 [some (.ref 26), some (.int (nI i))] [] s' := by
    intro m
    induction m with
    | zero =>
      intro i hi s' a b c
      have hi : i = 4 := hi
      subst hi
      refine rn I [] 99 ?_
      refine xbr_f (znl (Nat.le_refl _) (by decide)) ?_
      exact h s' ⟨a, by decide, fun i hi => absurd hi (Nat.not_lt_zero _)⟩ b c
    | succ m ih =>
      intro i hi s' a b c
      refine rn I [7] 99 ?_
      refine xbr_t (zlt (by omega) (by decide)) ?_
      refine ⟨i, ⟨by omega, rfl⟩, ?_⟩
      have q := ih (i + 1) (by omega) (xW s' 27 i (-(nI 1))) (by rw [xW_n (by decide)]; exact a) (fun j hj => by
        rw [xW_s]
        by_cases e : j = i
        · subst e
          rw [ud_s]
        · rw [ud_n e]
          exact b j (by omega)) (c.tr ⟨fun q hq => xW_n (by omega), rfl⟩)
      rw [n1s i] at q
      exact q
  refine inX4_clear I (L0ok hS) ?_
  refine rn I [7] 99 ?_
  exact loop 4 0 (by omega) (xW s 26 3 (nI 0)) (by rw [xW_s, ud_s]) (fun c hc => absurd hc (Nat.not_lt_zero _)) ⟨fun q hq => xW_n (by omega), rfl⟩
theorem m_openD (I : xRl X P) (hS : S ≤ 128) (hp : PG s 26 o z) {x : Int32} {c : Nat} (ex : x = nI c) (hc : c < 4) (h : Q none (xW (xW s 27 c (nI z)) 28 c (nI z))) : P (d + 1) (L0 S) 36 [.ref 26, .int x] s Q := by
  subst ex
  refine inX4_open I (L0ok hS) ?_
  refine rn I [] 99 ?_
  refine xbr_f (zn0 (by omega)) ?_
  refine xbr_t (zlt hc (by decide)) ?_
  refine ⟨c, ⟨hc, rfl⟩, ?_⟩
  refine ⟨c, ⟨hc, rfl⟩, ?_⟩
  have e1 : (xW s 27 c (s.1 26 3)).1 26 3 = nI z := by rw [xW_n (by decide)]; exact hp.1
  show Q none (xW (xW s 27 c (s.1 26 3)) 28 c ((xW s 27 c (s.1 26 3)).1 26 3))
  rw [e1, hp.1]
  exact h
theorem m_has_26 (I : xRl X P) (hS : S ≤ 128) {x : Int32} {c : Nat} (ex : x = nI c) (hc : c < 4) {v : Int32} (hv : s.1 27 c = v) (h1 : v ≠ -(nI 1) → Q (some (.int (nI 1))) s) (h0 : v = -(nI 1) → Q (some (.int (nI 0))) s) : P (d + 1) (L0 S) 35 [.ref 26, .int x] s Q := by
  subst ex
  refine inX4_has I (L0ok hS) ?_
  refine rn I [] 99 ?_
  refine xbr_f (zn0 (by omega)) ?_
  refine xbr_t (zlt hc (by decide)) ?_
  refine ⟨c, ⟨hc, rfl⟩, ?_⟩
  refine xbr_c (fun e => ?_) (fun e => ?_)
  · exact ⟨bz, h0 (hv.symm.trans e)⟩
  · exact ⟨bo, h1 (fun z => e (hv.trans z))⟩
theorem m_closeD (I : xRl X P) (hS : S ≤ 128) (hp : PG s 26 o z) {x : Int32} {c : Nat} (ex : x = nI c) (hc : c < 4) (hh : s.1 27 c ≠ -(nI 1)) (h : Q none (xW s 28 c (nI z))) : P (d + 2) (L0 S) 37 [.ref 26, .int x] s Q := by
  subst ex
  refine inX4_close I (L0ok hS) ?_
  refine rn I [] 99 ?_
  refine m_has_26 I hS rfl hc rfl (fun _ => ?_) (fun e => absurd e hh)
  refine xbr_f n10 ?_
  refine ⟨c, ⟨hc, rfl⟩, ?_⟩
  show Q none (xW s 28 c (s.1 26 3))
  rw [hp.1]
  exact h
end DRAFT2
