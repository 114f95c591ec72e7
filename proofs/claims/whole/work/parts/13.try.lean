section TRY
variable {X : xXT} {P : xPT}
theorem m_countCells (I : xRl X P) {d S : Nat} (hS : S ≤ 128) {s : xS} {Q : xQ} (h : Q (some (.int (s.1 1 0 * s.1 1 1))) s) : P (d + 1) (L0 S) 7 [.ref 1] s Q := by
  refine inX0_countCells I (L0ok hS) ?_
  refine I.1 _ _ _ _ _ _ _ _ [] 20 ?_
  exact h
theorem m_hasCell (I : xRl X P) {d S : Nat} (hS : S ≤ 128) {s : xS} {Q : xQ} {c : Int32} (h1 : ¬ c < nI 0 → c < s.1 1 0 * s.1 1 1 → Q (some (.int (nI 1))) s) (h0 : (c < nI 0 ∨ ¬ c < s.1 1 0 * s.1 1 1) → Q (some (.int (nI 0))) s) : P (d + 2) (L0 S) 1 [.ref 1, .int c] s Q := by
  refine inX0_hasCell I (L0ok hS) ?_
  refine I.1 _ _ _ _ _ _ _ _ [] 20 ?_
  refine xbr_c (fun hc => ?_) (fun hc => ?_)
  · exact ⟨Or.inl rfl, h0 (Or.inl hc)⟩
  · refine m_countCells I hS ?_
    refine xbr_c (fun hd => ?_) (fun hd => ?_)
    · exact ⟨Or.inr rfl, h1 hc hd⟩
    · exact ⟨Or.inl rfl, h0 (Or.inr hd)⟩
end TRY
