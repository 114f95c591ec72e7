/-! the reader: expect and enters -/
section READER2
variable {X : xXT} {P : xPT} {d S : Nat} {s : xS} {Q : xQ} {cnt n : Nat} {kd vl pl t : Nat → Nat}
theorem RS.adv {i c : Nat} (hR : RS s cnt kd vl i c) : s.1 25 4 + nI 1 = nI (i + 1) := by rw [hR.2.2.1, nad]
theorem m_expect (I : xRl X P) (hS : S ≤ 128) (hT : TKs s cnt kd vl pl) (hC : TC s n t) {i c w : Nat} (hi : i + 1 < 2 ^ 30) (hR : RS s cnt kd vl i c) (hk : ∀ i, kd i < 32) (hw : w < 32) (h1 : tk3 cnt kd 0 i = w → ∀ s' : xS, RS s' cnt kd vl (i + 1) c → f25 s s' → Q none s') (h0 : tk3 cnt kd 0 i ≠ w → ∀ s' : xS, RF s' 1 (tk3 cnt pl n i) → s'.1 25 7 = nI c → f25 s s' → Q none s') : P (d + 3) (L0 S) 57 [.ref 25, .int (nI w)] s Q := by
  have kb : tk3 cnt kd 0 i < 32 := by unfold tk3; split; exact hk i; decide
  refine inX5_expect I (L0ok hS) ?_
  refine rn I [] 99 ?_
  by_cases he : tk3 cnt kd 0 i = w
  · refine xbr_t (by rw [hR.2.2.2.1, he]) ?_
    exact m_advance I hS hT hi hR.1 hR.2.1 hR.adv hR.2.2.2.2.2 (h1 he)
  · refine xbr_f (by rw [hR.2.2.2.1]; exact zne he (by omega) (by omega)) ?_
    exact m_refuse I hS hT hC (by omega) hR (by decide) (by decide) (h0 he)
theorem m_expectF (I : xRl X P) (hS : S ≤ 128) {k p w : Nat} (hR : RF s k p) (hw : w < 32) (hw1 : w ≠ 1) (h : ∀ s' : xS, RF s' k p → f25 s s' → Q none s') : P (d + 2) (L0 S) 57 [.ref 25, .int (nI w)] s Q := by
  refine inX5_expect I (L0ok hS) ?_
  refine rn I [] 99 ?_
  refine xbr_f (by rw [hR.2.2.2.2]; exact zne (fun z => hw1 z.symm) (by decide) (by omega)) ?_
  exact m_refuseF I hS hR h
theorem m_enters (I : xRl X P) (hS : S ≤ 128) (hT : TKs s cnt kd vl pl) (hC : TC s n t) {i c u : Nat} (hi : i + 1 < 2 ^ 30) (hR : RS s cnt kd vl i c) (hu : u ≤ 8) (h1 : u < 8 → ∀ s' : xS, RS s' cnt kd vl (i + 1) c → f25 s s' → Q (some (.int (nI 1))) s') (h0 : u = 8 → ∀ s' : xS, RF s' 3 (tk3 cnt pl n i) → s'.1 25 7 = nI c → f25 s s' → Q (some (.int (nI 0))) s') : P (d + 3) (L0 S) 52 [.ref 25, .int (nI u)] s Q := by
  refine inX5_enters I (L0ok hS) ?_
  refine rn I [] 99 ?_
  by_cases h8 : u < 8
  · refine xbr_t (zlt h8 (by decide)) ?_
    exact m_advance I hS hT hi hR.1 hR.2.1 hR.adv hR.2.2.2.2.2 (fun s' a b => ⟨bo, h1 h8 s' a b⟩)
  · refine xbr_f (znl (by omega) (by omega)) ?_
    exact m_refuse I hS hT hC (by omega) hR (by decide) (by decide) (fun s' a b c => ⟨bz, h0 (by omega) s' a b c⟩)
end READER2
