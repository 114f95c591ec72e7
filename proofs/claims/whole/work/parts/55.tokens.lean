/-! the class's tokens as they stand in their rows: kindAt, valueAt, placeAt; the reader's advance and refuse -/
def tk3 (cnt : Nat) (a : Nat → Nat) (b i : Nat) : Nat := if i < cnt then a i else b
def TKs (s : xS) (cnt : Nat) (kd vl pl : Nat → Nat) : Prop := s.1 30 4 = nI cnt ∧ cnt ≤ 300 ∧ ∀ i, i < cnt → s.1 31 i = nI (kd i) ∧ s.1 32 i = nI (vl i) ∧ s.1 33 i = nI (pl i)
theorem TKs.same {a b : xS} {cnt : Nat} {kd vl pl : Nat → Nat} (h : TKs a cnt kd vl pl) (e : ∀ q, 30 ≤ q → q ≤ 33 → b.1 q = a.1 q) : TKs b cnt kd vl pl := ⟨by rw [e 30 (by decide) (by decide)]; exact h.1, h.2.1, fun i hi => by rw [e 31 (by decide) (by decide), e 32 (by decide) (by decide), e 33 (by decide) (by decide)]; exact h.2.2 i hi⟩
section TOKENS
variable {X : xXT} {P : xPT} {d S : Nat} {s : xS} {Q : xQ} {cnt n : Nat} {kd vl pl t : Nat → Nat}
theorem m_kindAt (I : xRl X P) (hS : S ≤ 128) (hT : TKs s cnt kd vl pl) {x : Int32} {i : Nat} (ex : x = nI i) (hi : i < 2 ^ 30) (h : Q (some (.int (nI (tk3 cnt kd 0 i)))) s) : P (d + 1) (L0 S) 83 [.ref 30, .int x] s Q := by
  subst ex
  have hc := hT.2.1
  unfold tk3 at h
  refine inX9_kindAt I (L0ok hS) ?_
  refine rn I [] 99 ?_
  refine xbr_f (zn0 (by omega)) ?_
  by_cases hl : i < cnt
  · rw [if_pos hl, ← (hT.2.2 i hl).1] at h
    exact xbr_t (by rw [hT.1]; exact zlt hl (by omega)) ⟨i, ⟨by omega, rfl⟩, h⟩
  · rw [if_neg hl] at h
    exact xbr_f (by rw [hT.1]; exact znl (by omega) (by omega)) h
theorem m_valueAt (I : xRl X P) (hS : S ≤ 128) (hT : TKs s cnt kd vl pl) {x : Int32} {i : Nat} (ex : x = nI i) (hi : i < 2 ^ 30) (h : Q (some (.int (nI (tk3 cnt vl 0 i)))) s) : P (d + 1) (L0 S) 84 [.ref 30, .int x] s Q := by
  subst ex
  have hc := hT.2.1
  unfold tk3 at h
  refine inX9_valueAt I (L0ok hS) ?_
  refine rn I [] 99 ?_
  refine xbr_f (zn0 (by omega)) ?_
  by_cases hl : i < cnt
  · rw [if_pos hl, ← (hT.2.2 i hl).2.1] at h
    exact xbr_t (by rw [hT.1]; exact zlt hl (by omega)) ⟨i, ⟨by omega, rfl⟩, h⟩
  · rw [if_neg hl] at h
    exact xbr_f (by rw [hT.1]; exact znl (by omega) (by omega)) h
theorem m_placeAt (I : xRl X P) (hS : S ≤ 128) (hT : TKs s cnt kd vl pl) (hC : TC s n t) {x : Int32} {i : Nat} (ex : x = nI i) (hi : i < 2 ^ 30) (h : Q (some (.int (nI (tk3 cnt pl n i)))) s) : P (d + 1) (L0 S) 85 [.ref 30, .int x] s Q := by
  subst ex
  have hc := hT.2.1
  unfold tk3 at h
  refine inX9_placeAt I (L0ok hS) ?_
  refine rn I [] 99 ?_
  refine xbr_f (zn0 (by omega)) ?_
  by_cases hl : i < cnt
  · rw [if_pos hl, ← (hT.2.2 i hl).2.2] at h
    exact xbr_t (by rw [hT.1]; exact zlt hl (by omega)) ⟨i, ⟨by omega, rfl⟩, h⟩
  · rw [if_neg hl, ← hC.1] at h
    exact xbr_f (by rw [hT.1]; exact znl (by omega) (by omega)) h
end TOKENS
