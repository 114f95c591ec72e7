/-! which names a clause may have: both sides -/
section ISOF
variable {X : xXT} {P : xPT} {d S : Nat} {s : xS} {Q : xQ}
theorem m_isOf (I : xRl X P) (hS : S ≤ 128) {x y : Int32} {k c : Nat} (ex : x = nI k) (ey : y = nI c) (hk : k < 10) (hc : c < 4) (h1 : al k c → Q (some (.int (nI 1))) s) (h0 : ¬ al k c → Q (some (.int (nI 0))) s) : P (d + 1) (L0 S) 215 [.int x, .int y] s Q := by
  subst ex
  subst ey
  unfold al at h1 h0
  refine inX2_isOf I (L0ok hS) ?_
  refine rn I [] 99 ?_
  by_cases h4 : 4 < k
  · refine xbr_t (zlt h4 (by omega)) ?_
    by_cases h9 : k = 9
    · refine xbr_t (by rw [h9]) ?_
      by_cases h3 : c = 3
      · exact xbr_t (by rw [h3]) ⟨bo, h1 (by omega)⟩
      · exact xbr_f (zne h3 (by omega) (by decide)) ⟨bz, h0 (by omega)⟩
    · refine xbr_f (zne h9 (by omega) (by decide)) ?_
      by_cases c1 : c = 1
      · exact xbr_t (by rw [c1]) ⟨bo, h1 (by omega)⟩
      · refine xbr_f (zne c1 (by omega) (by decide)) ?_
        by_cases c2 : c = 2
        · exact xbr_t (by rw [c2]) ⟨bo, h1 (by omega)⟩
        · exact xbr_f (zne c2 (by omega) (by decide)) ⟨bz, h0 (by omega)⟩
  · exact xbr_f (znl (by omega) (by omega)) ⟨bo, h1 (by omega)⟩
theorem q_isOf (I : xRl X P) (hS : S ≤ 128) {x : Int32} {k c : Nat} (ex : x = nI k) (ey : s.1 79 22 = nI c) (hk : k < 10) (hc : c < 4) (h1 : al k c → Q (some (.int (nI 1))) s) (h0 : ¬ al k c → Q (some (.int (nI 0))) s) : P (d + 1) (L0 S) 170 [.ref 79, .int x] s Q := by
  subst ex
  unfold al at h1 h0
  refine inX11_isOf I (L0ok hS) ?_
  refine rn I [] 99 ?_
  by_cases h4 : k < 5
  · exact xbr_t (zlt h4 (by decide)) ⟨bo, h1 (by omega)⟩
  · refine xbr_f (znl (by omega) (by omega)) ?_
    by_cases h9 : k = 9
    · refine xbr_t (by rw [h9]) ?_
      by_cases h3 : c = 3
      · exact xbr_t (by rw [ey, h3]) ⟨bo, h1 (by omega)⟩
      · exact xbr_f (by rw [ey]; exact zne h3 (by omega) (by decide)) ⟨bz, h0 (by omega)⟩
    · refine xbr_f (zne h9 (by omega) (by decide)) ?_
      by_cases c1 : c = 1
      · exact xbr_t (by rw [ey, c1]) ⟨bo, h1 (by omega)⟩
      · refine xbr_f (by rw [ey]; exact zne c1 (by omega) (by decide)) ?_
        by_cases c2 : c = 2
        · exact xbr_t (by rw [ey, c2]) ⟨bo, h1 (by omega)⟩
        · exact xbr_f (by rw [ey]; exact zne c2 (by omega) (by decide)) ⟨bz, h0 (by omega)⟩
end ISOF
