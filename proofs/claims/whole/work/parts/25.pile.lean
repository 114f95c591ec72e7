/-! the class's machine: its pile; what an order does to it -/
def PR (r : Nat → Int32) : List Int → Prop
  | [] => True
  | v :: q => r q.length = jI v ∧ PR r q
theorem PR.up {r : Nat → Int32} {x : Int32} {k : Nat} : ∀ {p : List Int}, p.length ≤ k → PR r p → PR (upd r k x) p
  | [], _, _ => trivial
  | v :: q, h, hp => ⟨by
      have : q.length < k := h
      rw [ud_n (by omega)]
      exact hp.1, PR.up (Nat.le_of_lt h) hp.2⟩
def PLs (s : xS) (p : List Int) : Prop := s.1 56 2 = nI p.length ∧ PR (s.1 58) p ∧ p.length ≤ 64
def fM (s s' : xS) : Prop := (∀ q, q ≠ 56 → q ≠ 58 → s'.1 q = s.1 q) ∧ s'.2 = s.2
theorem fM.tr {a b c : xS} (h : fM a b) (k : fM b c) : fM a c := ⟨fun q h1 h2 => (k.1 q h1 h2).trans (h.1 q h1 h2), k.2.trans h.2⟩
theorem fM.rf {a : xS} : fM a a := ⟨fun _ _ _ => rfl, rfl⟩
/-- what the orders 7 and above that join two numbers come to -/
def jz (k : Nat) (x y : Int) : Int := if 16 ≤ k then op2 (k - 16) x y else if k = 7 then orz x y else if k = 8 then anz x y else cmz k x y
theorem jz_in {k : Nat} {x y : Int} (hx : In x) : In (jz k x y) := by
  unfold jz
  split
  · exact op2_in hx
  · split
    · exact (orz_b x y).inn
    · split
      · exact (anz_b x y).inn
      · exact (cmz_b k x y).inn
section PILE
variable {X : xXT} {P : xPT} {d S : Nat} {s : xS} {Q : xQ} {p : List Int}
theorem m_push (I : xRl X P) (hS : S ≤ 128) (hp : PLs s p) (hl : p.length < 64) {v : Int} (h : ∀ s' : xS, PLs s' (v :: p) → fM s s' → Q none s') : P (d + 1) (L0 S) 22 [.ref 56, .int (jI v)] s Q := by
  refine inX1_push I (L0ok hS) ?_
  refine rn I [] 99 ?_
  refine xbr_t (by rw [hp.1]; exact zlt hl (by decide)) ?_
  refine ⟨p.length, ⟨hl, hp.1⟩, ?_⟩
  have e : (xW s 58 p.length (jI v)).1 56 2 = nI p.length := by rw [xW_n (by decide)]; exact hp.1
  refine h _ ⟨?_, ⟨?_, ?_⟩, hl⟩ ⟨fun q h1 h2 => by rw [xW_n h1, xW_n h2], rfl⟩
  · rw [xW_s, ud_s, e, nad]
    rfl
  · rw [xW_n (by decide), xW_s, ud_s]
  · rw [xW_n (by decide)]
    show PR (va_up s.1 58 (upd (s.1 58) p.length (jI v)) 58) p
    rw [up_s]
    exact hp.2.1.up (Nat.le_refl _)
theorem m_pop (I : xRl X P) (hS : S ≤ 128) {v : Int} (hp : PLs s (v :: p)) (h : ∀ s' : xS, PLs s' p → fM s s' → Q (some (.int (jI v))) s') : P (d + 1) (L0 S) 23 [.ref 56] s Q := by
  have hl : p.length < 64 := hp.2.2
  have e : s.1 56 2 = nI (p.length + 1) := hp.1
  have e2 : nI (p.length + 1) - nI 1 = nI p.length := by rw [nsb (by omega)]; rfl
  refine inX1_pop I (L0ok hS) ?_
  refine rn I [] 99 ?_
  refine xbr_t (by rw [e]; exact zlt (by omega) (by omega)) ?_
  refine ⟨p.length, ⟨hl, by show (xW s 56 2 (s.1 56 2 - nI 1)).1 56 2 = _; rw [xW_s, ud_s, e, e2]⟩, ?_⟩
  have k := h (xW s 56 2 (s.1 56 2 - nI 1)) ⟨by rw [xW_s, ud_s, e, e2], by rw [xW_n (by decide)]; exact hp.2.1.2, by omega⟩ ⟨fun q h1 h2 => by rw [xW_n h1], rfl⟩
  rw [← hp.2.1.1] at k
  exact k
theorem if01 {c : Prop} [Decidable c] {z : Int} (h : c ∧ z = 1 ∨ ¬ c ∧ z = 0) : z = if c then 1 else 0 := by
  rcases h with ⟨h1, h2⟩ | ⟨h1, h2⟩
  · rw [if_pos h1, h2]
  · rw [if_neg h1, h2]
theorem m_holds (I : xRl X P) (hS : S ≤ 128) {k : Nat} (hk : k = 7 ∨ k = 8 ∨ (10 ≤ k ∧ k < 16)) {x y : Int} (hx : In x) (hy : In y) (h1 : jz k x y = 1 → Q (some (.int (nI 1))) s) (h0 : jz k x y = 0 → Q (some (.int (nI 0))) s) : P (d + 1) (L0 S) 26 [.int (nI k), .int (jI x), .int (jI y)] s Q := by
  have sx := hx.sm
  have sy := hy.sm
  have sxy : Sm (x + y) := by have := hx.1; have := hx.2; have := hy.1; have := hy.2; unfold Sm; omega
  have lt := ji_lt sx sy
  have gt := ji_lt sy sx
  have eq := ji_eq sx sy
  refine inX1_holds I (L0ok hS) ?_
  refine rn I [] 99 ?_
  rcases hk with rfl | rfl | ⟨ha, hb⟩
  · refine xbr_t rfl ?_
    have e : nI 0 < jI x + jI y ↔ 0 < x + y := by rw [ji_add, jn]; exact ji_lt (by unfold Sm; omega) sxy
    by_cases hc : 0 < x + y
    · exact xbr_t (e.mpr hc) ⟨bo, h1 (by show orz x y = 1; unfold orz; rw [if_pos hc])⟩
    · exact xbr_f (fun z => hc (e.mp z)) ⟨bz, h0 (by show orz x y = 0; unfold orz; rw [if_neg hc])⟩
  · refine xbr_f (by decide +kernel) (xbr_f (by decide +kernel) (xbr_f (by decide +kernel) (xbr_f (by decide +kernel) (xbr_f (by decide +kernel) (xbr_f (by decide +kernel) (xbr_f (by decide +kernel) ?_))))))
    have e : nI 1 < jI x + jI y ↔ 1 < x + y := by rw [ji_add, jn]; exact ji_lt (by unfold Sm; omega) sxy
    by_cases hc : 1 < x + y
    · exact xbr_t (e.mpr hc) ⟨bo, h1 (by show anz x y = 1; unfold anz; rw [if_pos hc])⟩
    · exact xbr_f (fun z => hc (e.mp z)) ⟨bz, h0 (by show anz x y = 0; unfold anz; rw [if_neg hc])⟩
  · rcases (show k = 10 ∨ k = 11 ∨ k = 12 ∨ k = 13 ∨ k = 14 ∨ k = 15 by omega) with rfl | rfl | rfl | rfl | rfl | rfl
    · refine xbr_f (by decide +kernel) (xbr_t rfl ?_)
      by_cases hc : y < x
      · exact xbr_t (gt.mpr hc) ⟨bz, h0 (by show (if x ≤ y then 1 else 0 : Int) = 0; rw [if_neg (by omega)])⟩
      · exact xbr_f (fun z => hc (gt.mp z)) ⟨bo, h1 (by show (if x ≤ y then 1 else 0 : Int) = 1; rw [if_pos (by omega)])⟩
    · refine xbr_f (by decide +kernel) (xbr_f (by decide +kernel) (xbr_t rfl ?_))
      by_cases hc : x < y
      · exact xbr_t (lt.mpr hc) ⟨bz, h0 (by show (if y ≤ x then 1 else 0 : Int) = 0; rw [if_neg (by omega)])⟩
      · exact xbr_f (fun z => hc (lt.mp z)) ⟨bo, h1 (by show (if y ≤ x then 1 else 0 : Int) = 1; rw [if_pos (by omega)])⟩
    · refine xbr_f (by decide +kernel) (xbr_f (by decide +kernel) (xbr_f (by decide +kernel) (xbr_t rfl ?_)))
      by_cases hc : x < y
      · exact xbr_t (lt.mpr hc) ⟨bo, h1 (by show (if x < y then 1 else 0 : Int) = 1; rw [if_pos hc])⟩
      · exact xbr_f (fun z => hc (lt.mp z)) ⟨bz, h0 (by show (if x < y then 1 else 0 : Int) = 0; rw [if_neg hc])⟩
    · refine xbr_f (by decide +kernel) (xbr_f (by decide +kernel) (xbr_f (by decide +kernel) (xbr_f (by decide +kernel) (xbr_t rfl ?_))))
      by_cases hc : y < x
      · exact xbr_t (gt.mpr hc) ⟨bo, h1 (by show (if y < x then 1 else 0 : Int) = 1; rw [if_pos hc])⟩
      · exact xbr_f (fun z => hc (gt.mp z)) ⟨bz, h0 (by show (if y < x then 1 else 0 : Int) = 0; rw [if_neg hc])⟩
    · refine xbr_f (by decide +kernel) (xbr_f (by decide +kernel) (xbr_f (by decide +kernel) (xbr_f (by decide +kernel) (xbr_f (by decide +kernel) (xbr_t rfl ?_)))))
      by_cases hc : x = y
      · exact xbr_t (eq.mpr hc) ⟨bo, h1 (by show (if x = y then 1 else 0 : Int) = 1; rw [if_pos hc])⟩
      · exact xbr_f (fun z => hc (eq.mp z)) ⟨bz, h0 (by show (if x = y then 1 else 0 : Int) = 0; rw [if_neg hc])⟩
    · refine xbr_f (by decide +kernel) (xbr_f (by decide +kernel) (xbr_f (by decide +kernel) (xbr_f (by decide +kernel) (xbr_f (by decide +kernel) (xbr_f (by decide +kernel) (xbr_t rfl ?_))))))
      by_cases hc : x = y
      · exact xbr_t (eq.mpr hc) ⟨bz, h0 (by show (if x = y then 0 else 1 : Int) = 0; rw [if_pos hc])⟩
      · exact xbr_f (fun z => hc (eq.mp z)) ⟨bo, h1 (by show (if x = y then 0 else 1 : Int) = 1; rw [if_neg hc])⟩
theorem m_reckonedK (I : xRl X P) (hS : S ≤ 128) {k : Nat} (h16 : 16 ≤ k) (h20 : k < 20) {x y : Int} (hx : In x) (hy : In y) (h : Q (some (.int (jI (op2 (k - 16) x y)))) s) : P (d + 2) (L0 S) 25 [.int (nI k), .int (jI x), .int (jI y)] s Q := by
  have z := m_reckoned (X := X) (P := P) (d := d) (s := s) (Q := Q) I hS (k := k - 16) (by omega) hx hy h
  rw [show 16 + (k - 16) = k by omega] at z
  exact z
theorem m_join (I : xRl X P) (hS : S ≤ 128) {k : Nat} (hk : k = 7 ∨ k = 8 ∨ (10 ≤ k ∧ k < 20)) {x y : Int} (hx : In x) (hy : In y) (hp : PLs s (y :: x :: p)) (h : ∀ s' : xS, PLs s' (jz k x y :: p) → fM s s' → Q none s') : P (d + 3) (L0 S) 24 [.ref 56, .int (nI k)] s Q := by
  have hl : p.length < 64 := by have : p.length + 1 + 1 ≤ 64 := hp.2.2; omega
  refine inX1_join I (L0ok hS) ?_
  refine rn I [] 99 ?_
  refine m_pop I hS hp (fun s1 p1 f1 => ?_)
  refine m_pop I hS p1 (fun s2 p2 f2 => ?_)
  by_cases h16 : 16 ≤ k
  · refine xbr_f (znl h16 (by omega)) ?_
    have e2 : jz k x y = op2 (k - 16) x y := if_pos h16
    refine m_reckonedK I hS h16 (by omega) hx hy ?_
    rw [← e2]
    exact m_push I hS p2 hl (fun s3 p3 f3 => h s3 p3 ((f1.tr f2).tr f3))
  · refine xbr_t (zlt (by omega) (by omega)) ?_
    refine m_holds I hS (by omega) hx hy (fun e => ?_) (fun e => ?_)
    · refine xbr_f n10 ?_
      rw [jn]
      rw [e] at h
      exact m_push I hS p2 hl (v := 1) (fun s3 p3 f3 => h s3 p3 ((f1.tr f2).tr f3))
    · refine xbr_t rfl ?_
      rw [jn]
      rw [e] at h
      exact m_push I hS p2 hl (v := 0) (fun s3 p3 f3 => h s3 p3 ((f1.tr f2).tr f3))
end PILE
