/-! the reader: where it stands; advance and refuse -/
def RS (s : xS) (cnt : Nat) (kd vl : Nat → Nat) (i c : Nat) : Prop := s.1 25 1 = nI 0 ∧ s.1 25 2 = -(nI 1) ∧ s.1 25 4 = nI i ∧ s.1 25 5 = nI (tk3 cnt kd 0 i) ∧ s.1 25 6 = nI (tk3 cnt vl 0 i) ∧ s.1 25 7 = nI c
def RF (s : xS) (k p : Nat) : Prop := 1 ≤ k ∧ k ≤ 5 ∧ s.1 25 1 = nI k ∧ s.1 25 2 = nI p ∧ s.1 25 5 = nI 1
def f25 (s s' : xS) : Prop := (∀ q, q ≠ 25 → s'.1 q = s.1 q) ∧ s'.2 = s.2
theorem f25.tr {a b c : xS} (h : f25 a b) (k : f25 b c) : f25 a c := ⟨fun q h1 => (k.1 q h1).trans (h.1 q h1), k.2.trans h.2⟩
theorem f25w (s : xS) (z : Nat) (x : Int32) : f25 s (xW s 25 z x) := ⟨fun _ h => xW_n h, rfl⟩
section READER
variable {X : xXT} {P : xPT} {d S : Nat} {s : xS} {Q : xQ} {cnt n : Nat} {kd vl pl t : Nat → Nat}
theorem m_advance (I : xRl X P) (hS : S ≤ 128) (hT : TKs s cnt kd vl pl) {i c : Nat} (hi : i < 2 ^ 30) (e1 : s.1 25 1 = nI 0) (e2 : s.1 25 2 = -(nI 1)) (e4 : s.1 25 4 + nI 1 = nI i) (e7 : s.1 25 7 = nI c) (h : ∀ s' : xS, RS s' cnt kd vl i c → f25 s s' → Q none s') : P (d + 2) (L0 S) 59 [.ref 25] s Q := by
  have a1 : (xW s 25 4 (s.1 25 4 + nI 1)).1 25 4 = nI i := by rw [xW_s, ud_s, e4]
  have T1 : TKs (xW s 25 4 (s.1 25 4 + nI 1)) cnt kd vl pl := hT.same (fun q h1 h2 => xW_n (by omega))
  refine inX5_advance I (L0ok hS) ?_
  refine rn I [] 99 ?_
  refine m_kindAt I hS T1 a1 hi ?_
  have T2 : TKs (xW (xW s 25 4 (s.1 25 4 + nI 1)) 25 5 (nI (tk3 cnt kd 0 i))) cnt kd vl pl := T1.same (fun q h1 h2 => xW_n (by omega))
  have a2 : (xW (xW s 25 4 (s.1 25 4 + nI 1)) 25 5 (nI (tk3 cnt kd 0 i))).1 25 4 = nI i := by rw [xW_s, ud_n (by decide)]; exact a1
  refine m_valueAt I hS T2 a2 hi ?_
  refine h _ ⟨?_, ?_, ?_, ?_, ?_, ?_⟩ (((f25w s _ _).tr (f25w _ _ _)).tr (f25w _ _ _))
  · rw [xW_s, ud_n (by decide), xW_s, ud_n (by decide), xW_s, ud_n (by decide)]; exact e1
  · rw [xW_s, ud_n (by decide), xW_s, ud_n (by decide), xW_s, ud_n (by decide)]; exact e2
  · rw [xW_s, ud_n (by decide)]; exact a2
  · rw [xW_s, ud_n (by decide), xW_s, ud_s]
  · rw [xW_s, ud_s]
  · rw [xW_s, ud_n (by decide), xW_s, ud_n (by decide), xW_s, ud_n (by decide)]; exact e7
theorem m_refuse (I : xRl X P) (hS : S ≤ 128) (hT : TKs s cnt kd vl pl) (hC : TC s n t) {i c k : Nat} (hi : i < 2 ^ 30) (hR : RS s cnt kd vl i c) (hk : 1 ≤ k) (hk5 : k ≤ 5) (h : ∀ s' : xS, RF s' k (tk3 cnt pl n i) → s'.1 25 7 = nI c → f25 s s' → Q none s') : P (d + 2) (L0 S) 58 [.ref 25, .int (nI k)] s Q := by
  obtain ⟨e1, e2, e4, e5, e6, e7⟩ := hR
  refine inX5_refuse I (L0ok hS) ?_
  refine rn I [] 99 ?_
  refine xbr_t e1 ?_
  refine m_placeAt (n := n) (t := t) I hS (hT.same (fun q h1 h2 => xW_n (by omega))) ⟨by rw [xW_n (by decide)]; exact hC.1, fun j hj => by rw [xW_n (by decide)]; exact hC.2 j hj⟩ (i := i) (by rw [xW_s, ud_n (by decide)]; exact e4) hi ?_
  refine h _ ⟨hk, hk5, ?_, ?_, ?_⟩ ?_ (((f25w s _ _).tr (f25w _ _ _)).tr (f25w _ _ _))
  · rw [xW_s, ud_n (by decide), xW_s, ud_n (by decide), xW_s, ud_s]
  · rw [xW_s, ud_n (by decide), xW_s, ud_s]
  · rw [xW_s, ud_s]
  · rw [xW_s, ud_n (by decide), xW_s, ud_n (by decide), xW_s, ud_n (by decide)]; exact e7
theorem m_refuseF (I : xRl X P) (hS : S ≤ 128) {k p : Nat} (hR : RF s k p) {x : Int32} (h : ∀ s' : xS, RF s' k p → f25 s s' → Q none s') : P (d + 1) (L0 S) 58 [.ref 25, .int x] s Q := by
  obtain ⟨k1, k5, e1, e2, e5⟩ := hR
  refine inX5_refuse I (L0ok hS) ?_
  refine rn I [] 99 ?_
  refine xbr_f (by rw [e1]; exact zne (by omega) (by omega) (by decide)) ?_
  refine h _ ⟨k1, k5, ?_, ?_, ?_⟩ (f25w s _ _)
  · rw [xW_s, ud_n (by decide)]; exact e1
  · rw [xW_s, ud_n (by decide)]; exact e2
  · rw [xW_s, ud_s]
end READER
