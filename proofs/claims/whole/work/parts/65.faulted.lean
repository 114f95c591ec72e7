/-! the reader behind a fault: nothing is taken any more -/
def DZ (s : xS) : Prop := ∃ z, z ≤ 300 ∧ s.1 26 3 = nI z
def fJ (s s' : xS) : Prop := (∀ q, q ≠ 25 → q ≠ 26 → q ≠ 29 → s'.1 q = s.1 q) ∧ s'.2 = s.2
theorem fJ.tr {a b c : xS} (h : fJ a b) (k : fJ b c) : fJ a c := ⟨fun q h1 h2 h3 => (k.1 q h1 h2 h3).trans (h.1 q h1 h2 h3), k.2.trans h.2⟩
theorem fJ.rf {a : xS} : fJ a a := ⟨fun _ _ _ _ => rfl, rfl⟩
theorem f25.j {a b : xS} (h : f25 a b) : fJ a b := ⟨fun q h1 _ _ => h.1 q h1, h.2⟩
theorem fD.j {a b : xS} (h : fD a b) : fJ a b := ⟨fun q _ h1 h2 => h.1 q h1 h2, h.2⟩
theorem RF.D {s s' : xS} {k p : Nat} (h : RF s k p) (f : fD s s') : RF s' k p := by
  unfold RF
  rw [f.1 25 (by decide) (by decide)]
  exact h
theorem DZ.r {s s' : xS} (h : DZ s) (f : f25 s s') : DZ s' := by
  obtain ⟨z, a, b⟩ := h
  exact ⟨z, a, by rw [f.1 26 (by decide)]; exact b⟩
theorem PG.dz {s : xS} {o : Nat → Nat} {z : Nat} (h : PG s 26 o z) : DZ s := ⟨z, h.2.1, h.1⟩
theorem PG.r {s s' : xS} {o : Nat → Nat} {z : Nat} (h : PG s 26 o z) (f : f25 s s') : PG s' 26 o z := ⟨by rw [f.1 26 (by decide)]; exact h.1, h.2.1, fun i hi => by rw [f.1 (26 + 3) (by decide)]; exact h.2.2 i hi⟩
theorem TKs.j {s s' : xS} {cnt : Nat} {kd vl pl : Nat → Nat} (h : TKs s cnt kd vl pl) (f : fJ s s') : TKs s' cnt kd vl pl := h.same (fun q h1 h2 => f.1 q (by omega) (by omega) (by omega))
theorem TC.j {s s' : xS} {n : Nat} {t : Nat → Nat} (h : TC s n t) (f : fJ s s') : TC s' n t := ⟨by rw [f.1 23 (by decide) (by decide) (by decide)]; exact h.1, fun i hi => by rw [f.1 24 (by decide) (by decide) (by decide)]; exact h.2 i hi⟩
theorem RS.D {s s' : xS} {cnt i c : Nat} {kd vl : Nat → Nat} (h : RS s cnt kd vl i c) (f : fD s s') : RS s' cnt kd vl i c := by
  unfold RS
  rw [f.1 25 (by decide) (by decide)]
  exact h
section FAULTED
variable {X : xXT} {P : xPT} {d S : Nat} {s : xS} {Q : xQ} {k p : Nat}
theorem m_addF (I : xRl X P) (hS : S ≤ 128) (hR : RF s k p) (hz : DZ s) {x y : Int32} (h : ∀ (s' : xS) (v : Int32), RF s' k p → DZ s' → fJ s s' → Q (some (.int v)) s') : P (d + 1) (L0 S) 38 [.ref 26, .int x, .int y] s Q := by
  obtain ⟨z, z3, ez⟩ := hz
  refine inX4_add I (L0ok hS) ?_
  refine rn I [] 99 ?_
  by_cases hl : z < 300
  · refine xbr_t (by rw [ez]; exact zlt hl (by decide)) ?_
    refine ⟨z, ⟨hl, ez⟩, ?_⟩
    have f : fD s (xW (xW s 29 z (x + nI 32 * y)) 26 3 ((xW s 29 z (x + nI 32 * y)).1 26 3 + nI 1)) := ⟨fun q h1 h2 => by rw [xW_n h1, xW_n h2], rfl⟩
    exact h _ _ (hR.D f) ⟨z + 1, hl, by rw [xW_s, ud_s, xW_n (by decide), ez, nad]⟩ f.j
  · refine xbr_f (by rw [ez]; exact znl (by omega) (by omega)) ?_
    exact h s _ hR ⟨z, z3, ez⟩ fJ.rf
theorem m_landF (I : xRl X P) (hS : S ≤ 128) (hR : RF s k p) (hz : DZ s) {x : Int32} (h : ∀ s' : xS, RF s' k p → DZ s' → fJ s s' → Q none s') : P (d + 1) (L0 S) 39 [.ref 26, .int x] s Q := by
  obtain ⟨z, z3, ez⟩ := hz
  refine inX4_landHere I (L0ok hS) ?_
  refine rn I [] 99 ?_
  have K := h s hR ⟨z, z3, ez⟩ fJ.rf
  rcases rg x (n := z) (by omega) with ⟨j, hj, rfl, h1, h2⟩ | ⟨h1, h2⟩
  · refine xbr_f h1 ?_
    refine xbr_t (by rw [ez]; exact h2) ?_
    refine ⟨j, ⟨by omega, rfl⟩, ?_⟩
    refine And.intro (by decide +kernel) ?_
    refine ⟨j, ⟨by omega, rfl⟩, ?_⟩
    have f : ∀ v, fD s (xW s 29 j v) := fun v => ⟨fun q h1 h2 => xW_n h2, rfl⟩
    exact h _ (hR.D (f _)) ⟨z, z3, by rw [xW_n (by decide)]; exact ez⟩ (f _).j
  · refine xbr_c (fun _ => K) (fun c1 => ?_)
    exact xbr_f (by rw [ez]; exact h2 c1) K
theorem m_oneF (I : xRl X P) (hS : S ≤ 128) (hR : RF s k p) (hz : DZ s) {x : Int32} (h : ∀ s' : xS, RF s' k p → DZ s' → fJ s s' → Q none s') : P (d + 2) (L0 S) 49 [.ref 25, .int x] s Q := by
  have e5 := hR.2.2.2.2
  refine inX5_readOne I (L0ok hS) ?_
  refine rn I [] 199 ?_
  refine xbr_f (by rw [e5]; exact zne (by decide) (by decide) (by decide)) ?_
  refine xbr_f (by rw [e5]; exact zne (by decide) (by decide) (by decide)) ?_
  refine xbr_f (by rw [e5]; exact zne (by decide) (by decide) (by decide)) ?_
  refine xbr_f (by rw [e5]; exact zne (by decide) (by decide) (by decide)) ?_
  refine xbr_f (by rw [e5]; exact zne (by decide) (by decide) (by decide)) ?_
  exact m_refuseF I hS hR (fun s' a b => h s' a (hz.r b) b.j)
theorem lf_product (I : xRl X P) (hR : RF s k p) {x y : Int32} {o3 : Option Value} (h : Q none s) : X d mX5_readProduct Q (L0 S) 7 [some (.ref 25), some (.int x), some (.int y), o3] [] s := by
  have e5 := hR.2.2.2.2
  refine rn I [] 99 ?_
  refine xbr_c (fun _ => ?_) (fun _ => h)
  refine xbr_f (by rw [e5]; exact zne (by decide) (by decide) (by decide)) ?_
  exact xbr_f (by rw [e5]; exact zne (by decide) (by decide) (by decide)) h
theorem lf_sum (I : xRl X P) (hR : RF s k p) {x y : Int32} {o3 : Option Value} (h : Q none s) : X d mX5_readSum Q (L0 S) 7 [some (.ref 25), some (.int x), some (.int y), o3] [] s := by
  have e5 := hR.2.2.2.2
  refine rn I [] 99 ?_
  refine xbr_c (fun _ => ?_) (fun _ => h)
  refine xbr_f (by rw [e5]; exact zne (by decide) (by decide) (by decide)) ?_
  exact xbr_f (by rw [e5]; exact zne (by decide) (by decide) (by decide)) h
theorem lf_both (I : xRl X P) (hR : RF s k p) {x y : Int32} (h : Q none s) : X d mX5_readBoth Q (L0 S) 7 [some (.ref 25), some (.int x), some (.int y)] [] s := by
  have e5 := hR.2.2.2.2
  refine rn I [] 99 ?_
  refine xbr_c (fun _ => ?_) (fun _ => h)
  exact xbr_f (by rw [e5]; exact zne (by decide) (by decide) (by decide)) h
theorem lf_either (I : xRl X P) (hR : RF s k p) {x y : Int32} (h : Q none s) : X d mX5_readEither Q (L0 S) 7 [some (.ref 25), some (.int x), some (.int y)] [] s := by
  have e5 := hR.2.2.2.2
  refine rn I [] 99 ?_
  refine xbr_c (fun _ => ?_) (fun _ => h)
  exact xbr_f (by rw [e5]; exact zne (by decide) (by decide) (by decide)) h
theorem m_productF (I : xRl X P) (hS : S ≤ 128) (hR : RF s k p) (hz : DZ s) {x : Int32} (h : ∀ s' : xS, RF s' k p → DZ s' → fJ s s' → Q none s') : P (d + 3) (L0 S) 48 [.ref 25, .int x] s Q := by
  refine inX5_readProduct I (L0ok hS) ?_
  refine rn I [7] 99 ?_
  refine m_oneF I hS hR hz (fun s' a b c => ?_)
  exact lf_product I a (h s' a b c)
theorem m_sumF (I : xRl X P) (hS : S ≤ 128) (hR : RF s k p) (hz : DZ s) {x : Int32} (h : ∀ s' : xS, RF s' k p → DZ s' → fJ s s' → Q none s') : P (d + 4) (L0 S) 47 [.ref 25, .int x] s Q := by
  refine inX5_readSum I (L0ok hS) ?_
  refine rn I [7] 99 ?_
  refine m_productF I hS hR hz (fun s' a b c => ?_)
  exact lf_sum I a (h s' a b c)
end FAULTED
