/-! the class's machine: its pile; what an order does to it -/
def PR (r : Nat → Int32) : List Int → Prop
  | [] => True
  | v :: q => r q.length = jI v ∧ PR r q
theorem PR.up {r : Nat → Int32} {x : Int32} {k : Nat} : ∀ {p : List Int}, p.length ≤ k → PR r p → PR (upd r k x) p
  | [], _, _ => trivial
  | v :: q, h, hp => ⟨by
      have : q.length < k := h
      rw [ud_n (by omega)]
      exact hp.1, PR.up (Nat.le_of_lt h) hp.2⟩
def PLs (s : xS) (p : List Int) : Prop := s.1 56 2 = nI p.length ∧ PR (s.1 58) p ∧ p.length ≤ 64
def fM (s s' : xS) : Prop := (∀ q, q ≠ 56 → q ≠ 58 → s'.1 q = s.1 q) ∧ s'.2 = s.2
theorem fM.tr {a b c : xS} (h : fM a b) (k : fM b c) : fM a c := ⟨fun q h1 h2 => (k.1 q h1 h2).trans (h.1 q h1 h2), k.2.trans h.2⟩
theorem fM.rf {a : xS} : fM a a := ⟨fun _ _ _ => rfl, rfl⟩
/-- what the orders 7 and above that join two numbers come to -/
def jz (k : Nat) (x y : Int) : Int := if 16 ≤ k then op2 (k - 16) x y else if k = 7 then orz x y else if k = 8 then anz x y else cmz k x y
theorem jz_in {k : Nat} {x y : Int} (hx : In x) : In (jz k x y) := by
  unfold jz
  split
  · exact op2_in hx
  · split
    · exact (orz_b x y).inn
    · split
      · exact (anz_b x y).inn
      · exact (cmz_b k x y).inn
section PILE
variable {X : xXT} {P : xPT} {d S : Nat} {s : xS} {Q : xQ} {p : List Int}
theorem m_push (I : xRl X P) (hS : S ≤ 128) (hp : PLs s p) (hl : p.length < 64) {v : Int} (h : ∀ s' : xS, PLs s' (v :: p) → fM s s' → Q none s') : P (d + 1) (L0 S) 22 [.ref 56, .int (jI v)] s Q := by
  refine inX1_push I (L0ok hS) ?_
  refine rn I [] 99 ?_
  refine xbr_t (by rw [hp.1]; exact zlt hl (by decide)) ?_
  refine ⟨p.length, ⟨hl, hp.1⟩, ?_⟩
  have e : (xW s 58 p.length (jI v)).1 56 2 = nI p.length := by rw [xW_n (by decide)]; exact hp.1
  refine h _ ⟨?_, ⟨?_, ?_⟩, hl⟩ ⟨fun q h1 h2 => by rw [xW_n h1, xW_n h2], rfl⟩
  · rw [xW_s, ud_s, e, nad]
    rfl
  · rw [xW_n (by decide), xW_s, ud_s]
  · rw [xW_n (by decide)]
    show PR (va_up s.1 58 (upd (s.1 58) p.length (jI v)) 58) p
    rw [up_s]
    exact hp.2.1.up (Nat.le_refl _)
theorem m_pop (I : xRl X P) (hS : S ≤ 128) {v : Int} (hp : PLs s (v :: p)) (h : ∀ s' : xS, PLs s' p → fM s s' → Q (some (.int (jI v))) s') : P (d + 1) (L0 S) 23 [.ref 56] s Q := by
  have hl : p.length < 64 := hp.2.2
  have e : s.1 56 2 = nI (p.length + 1) := hp.1
  have e2 : nI (p.length + 1) - nI 1 = nI p.length := by rw [nsb (by omega)]; rfl
  refine inX1_pop I (L0ok hS) ?_
  refine rn I [] 99 ?_
  refine xbr_t (by rw [e]; exact zlt (by omega) (by omega)) ?_
  refine ⟨p.length, ⟨hl, by show (xW s 56 2 (s.1 56 2 - nI 1)).1 56 2 = _; rw [xW_s, ud_s, e, e2]⟩, ?_⟩
  have k := h (xW s 56 2 (s.1 56 2 - nI 1)) ⟨by rw [xW_s, ud_s, e, e2], by rw [xW_n (by decide)]; exact hp.2.1.2, by omega⟩ ⟨fun q h1 h2 => by rw [xW_n h1], rfl⟩
  rw [← hp.2.1.1] at k
  exact k
theorem if01 {c : Prop} [Decidable c] {z : Int} (h : c ∧ z = 1 ∨ ¬ c ∧ z = 0) : z = if c then 1 else 0 := by
  rcases h with ⟨h1, h2⟩ | ⟨h1, h2⟩
  · rw [if_pos h1, h2]
  · rw [if_neg h1, h2]
theorem m_joined (I : xRl X P) (hS : S ≤ 128) {k : Nat} (hk : k = 7 ∨ k = 8 ∨ (10 ≤ k ∧ k < 20)) {x y : Int} (hx : In x) (hy : In y) (h : ∀ z : Int, Lg z → clz z = jz k x y → Q (some (.long (jL z))) s) : P (d + 1) (L0 S) 24 [.int (nI k), .int (jI x), .int (jI y)] s Q := by
  have sx := hx.sm
  have sy := hy.sm
  have sxy : Sm (x + y) := by have := hx.1; have := hx.2; have := hy.1; have := hy.2; unfold Sm; omega
  have lt := ji_lt sx sy
  have gt := ji_lt sy sx
  have eq := ji_eq sx sy
  have lx := ji_l hx.sm
  have ly := ji_l hy.sm
  have h1 : jz k x y = 1 → Q (some (.long (lN 1))) s := fun e => by
    rw [jln]
    exact h 1 (by unfold Lg; omega) ((clz_id (by unfold In; omega)).trans e.symm)
  have h0 : jz k x y = 0 → Q (some (.long (lN 0))) s := fun e => by
    rw [jln]
    exact h 0 (by unfold Lg; omega) ((clz_id (by unfold In; omega)).trans e.symm)
  refine inX1_joined I (L0ok hS) ?_
  refine rn I [] 99 ?_
  rcases hk with rfl | rfl | ⟨ha, hb⟩
  · refine xbr_t rfl ?_
    have e : nI 0 < jI x + jI y ↔ 0 < x + y := by rw [ji_add, jn]; exact ji_lt (by unfold Sm; omega) sxy
    by_cases hc : 0 < x + y
    · exact xbr_t (e.mpr hc) (h1 (by show orz x y = 1; unfold orz; rw [if_pos hc]))
    · exact xbr_f (fun z => hc (e.mp z)) (h0 (by show orz x y = 0; unfold orz; rw [if_neg hc]))
  · refine xbr_f (by decide +kernel) (xbr_f (by decide +kernel) (xbr_f (by decide +kernel) (xbr_f (by decide +kernel) (xbr_f (by decide +kernel) (xbr_f (by decide +kernel) (xbr_f (by decide +kernel) (xbr_f (by decide +kernel) (xbr_f (by decide +kernel) (xbr_f (by decide +kernel) (xbr_f (by decide +kernel) (?_)))))))))))
    have e : nI 1 < jI x + jI y ↔ 1 < x + y := by rw [ji_add, jn]; exact ji_lt (by unfold Sm; omega) sxy
    by_cases hc : 1 < x + y
    · exact xbr_t (e.mpr hc) (h1 (by show anz x y = 1; unfold anz; rw [if_pos hc]))
    · exact xbr_f (fun z => hc (e.mp z)) (h0 (by show anz x y = 0; unfold anz; rw [if_neg hc]))
  · rcases (show k = 10 ∨ k = 11 ∨ k = 12 ∨ k = 13 ∨ k = 14 ∨ k = 15 ∨ k = 16 ∨ k = 17 ∨ k = 18 ∨ k = 19 by omega) with rfl | rfl | rfl | rfl | rfl | rfl | rfl | rfl | rfl | rfl
    · refine xbr_f (by decide +kernel) (xbr_t rfl ?_)
      by_cases hc : y < x
      · exact xbr_t (gt.mpr hc) (h0 (by show (if x ≤ y then 1 else 0 : Int) = 0; rw [if_neg (by omega)]))
      · exact xbr_f (fun z => hc (gt.mp z)) (h1 (by show (if x ≤ y then 1 else 0 : Int) = 1; rw [if_pos (by omega)]))
    · refine xbr_f (by decide +kernel) (xbr_f (by decide +kernel) (xbr_t rfl ?_))
      by_cases hc : x < y
      · exact xbr_t (lt.mpr hc) (h0 (by show (if y ≤ x then 1 else 0 : Int) = 0; rw [if_neg (by omega)]))
      · exact xbr_f (fun z => hc (lt.mp z)) (h1 (by show (if y ≤ x then 1 else 0 : Int) = 1; rw [if_pos (by omega)]))
    · refine xbr_f (by decide +kernel) (xbr_f (by decide +kernel) (xbr_f (by decide +kernel) (xbr_t rfl ?_)))
      by_cases hc : x < y
      · exact xbr_t (lt.mpr hc) (h1 (by show (if x < y then 1 else 0 : Int) = 1; rw [if_pos hc]))
      · exact xbr_f (fun z => hc (lt.mp z)) (h0 (by show (if x < y then 1 else 0 : Int) = 0; rw [if_neg hc]))
    · refine xbr_f (by decide +kernel) (xbr_f (by decide +kernel) (xbr_f (by decide +kernel) (xbr_f (by decide +kernel) (xbr_t rfl ?_))))
      by_cases hc : y < x
      · exact xbr_t (gt.mpr hc) (h1 (by show (if y < x then 1 else 0 : Int) = 1; rw [if_pos hc]))
      · exact xbr_f (fun z => hc (gt.mp z)) (h0 (by show (if y < x then 1 else 0 : Int) = 0; rw [if_neg hc]))
    · refine xbr_f (by decide +kernel) (xbr_f (by decide +kernel) (xbr_f (by decide +kernel) (xbr_f (by decide +kernel) (xbr_f (by decide +kernel) (xbr_t rfl ?_)))))
      by_cases hc : x = y
      · exact xbr_t (eq.mpr hc) (h1 (by show (if x = y then 1 else 0 : Int) = 1; rw [if_pos hc]))
      · exact xbr_f (fun z => hc (eq.mp z)) (h0 (by show (if x = y then 1 else 0 : Int) = 0; rw [if_neg hc]))
    · refine xbr_f (by decide +kernel) (xbr_f (by decide +kernel) (xbr_f (by decide +kernel) (xbr_f (by decide +kernel) (xbr_f (by decide +kernel) (xbr_f (by decide +kernel) (xbr_t rfl ?_))))))
      by_cases hc : x = y
      · exact xbr_t (eq.mpr hc) (h0 (by show (if x = y then 0 else 1 : Int) = 0; rw [if_pos hc]))
      · exact xbr_f (fun z => hc (eq.mp z)) (h1 (by show (if x = y then 0 else 1 : Int) = 1; rw [if_neg hc]))
    · refine xbr_f (by decide +kernel) (xbr_f (by decide +kernel) (xbr_f (by decide +kernel) (xbr_f (by decide +kernel) (xbr_f (by decide +kernel) (xbr_f (by decide +kernel) (xbr_f (by decide +kernel) (xbr_t rfl ?_)))))))
      have z := h (x + y) (by have := hx.1; have := hx.2; have := hy.1; have := hy.2; unfold Lg; omega) rfl
      rw [← jl_add, ← lx, ← ly] at z
      exact z
    · refine xbr_f (by decide +kernel) (xbr_f (by decide +kernel) (xbr_f (by decide +kernel) (xbr_f (by decide +kernel) (xbr_f (by decide +kernel) (xbr_f (by decide +kernel) (xbr_f (by decide +kernel) (xbr_f (by decide +kernel) (xbr_t rfl ?_))))))))
      have z := h (x - y) (by have := hx.1; have := hx.2; have := hy.1; have := hy.2; unfold Lg; omega) rfl
      rw [← jl_sub, ← lx, ← ly] at z
      exact z
    · refine xbr_f (by decide +kernel) (xbr_f (by decide +kernel) (xbr_f (by decide +kernel) (xbr_f (by decide +kernel) (xbr_f (by decide +kernel) (xbr_f (by decide +kernel) (xbr_f (by decide +kernel) (xbr_f (by decide +kernel) (xbr_f (by decide +kernel) (xbr_t rfl ?_)))))))))
      have z := h (x * y) (mul_in hx hy) rfl
      rw [← jl_mul, ← lx, ← ly] at z
      exact z
    · refine xbr_f (by decide +kernel) (xbr_f (by decide +kernel) (xbr_f (by decide +kernel) (xbr_f (by decide +kernel) (xbr_f (by decide +kernel) (xbr_f (by decide +kernel) (xbr_f (by decide +kernel) (xbr_f (by decide +kernel) (xbr_f (by decide +kernel) (xbr_f (by decide +kernel) (xbr_t rfl ?_))))))))))
      have e0 : jI y = nI 0 ↔ y = 0 := by rw [jn]; exact ji_eq hy.sm (by unfold Sm; omega)
      by_cases hz : y = 0
      · exact xbr_t (e0.mpr hz) (h0 (by show (if y = 0 then 0 else x.tdiv y : Int) = 0; rw [if_pos hz]))
      · refine xbr_f (fun z => hz (e0.mp z)) ?_
        refine And.intro (fun z => hz (e0.mp z)) ?_
        have z := h (x.tdiv y) (div_in hx).lg (by show _ = (if y = 0 then 0 else x.tdiv y); rw [if_neg hz, clz_id (div_in hx)])
        rw [← ji_l (div_in hx).sm, ← ji_div hx.sm hy.sm] at z
        exact z
end PILE
