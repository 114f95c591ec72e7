/-! the reference: what its token is; words, names, sorts, comparisons -/
def tknL : List Nat := [0, 99, 1, 99, 99, 99, 99, 99, 99, 99, 4, 5, 60, 62, 61, 35, 43, 45, 42, 47, 40, 41, 59, 63, 58]
def tkn (k : Nat) : Nat := tknL.getD k 99
abbrev tkS (k : Nat) : Prop := k = 0 ∨ k = 2 ∨ (10 ≤ k ∧ k < 25)
theorem tkn_f1 : ∀ k, k < 25 → tkS k → tkn k < 100 ∧ tkn k ≠ 2 ∧ tkn k ≠ 3 ∧ tkn k ≠ 44 := by decide +kernel
theorem tkn_f2 : ∀ k, k < 25 → tkS k → (tkn k = 0 → k = 0) ∧ (tkn k = 1 → k = 2) := by decide +kernel
theorem tkn_f3 : ∀ k, k < 25 → tkS k → (tkn k = 4 → k = 10) ∧ (tkn k = 5 → k = 11) := by decide +kernel
theorem tkn_f (k : Nat) (h : k < 25) (h2 : tkS k) : tkn k < 100 ∧ tkn k ≠ 2 ∧ tkn k ≠ 3 ∧ tkn k ≠ 44 ∧ (tkn k = 0 → k = 0) ∧ (tkn k = 1 → k = 2) ∧ (tkn k = 4 → k = 10) ∧ (tkn k = 5 → k = 11) := by
  obtain ⟨a, b, c, d⟩ := tkn_f1 k h h2
  exact ⟨a, b, c, d, (tkn_f2 k h h2).1, (tkn_f2 k h h2).2, (tkn_f3 k h h2).1, (tkn_f3 k h h2).2⟩
theorem tkn_j : ∀ j, j < 13 → ∀ k, k < 25 → tkS k → ((xtxt 13).getD j 0 = tkn k ↔ 12 + j = k) := by decide +kernel
theorem wcl_k {l : List Nat} {k v : Nat} (h : wcl l k v) : k = 1 ∨ (3 ≤ k ∧ k < 10) := by
  rcases h with ⟨w, h1, h2, h3⟩ | h3 <;> omega
theorem TRel.tok {k v : Nat} {tok num : Int32} {wd : Int64} (h : TRel k v tok num wd) {k' : Nat} (hk : tkS k') : tok = nI (tkn k') ↔ k = k' := by
  obtain ⟨f1, f2, f3, f4, f5, f6, f7, f8⟩ := tkn_f k' (by omega) hk
  have E : ∀ a, a < 100 → (nI a = nI (tkn k') ↔ a = tkn k') := fun a ha => ⟨fun z => zeq (by omega) (by omega) z, fun z => by rw [z]⟩
  rcases h with ⟨h1, h2⟩ | ⟨h1, h2, -⟩ | ⟨h1, l, -, -, h2⟩ | ⟨h1, h2⟩ | ⟨h1, h2⟩ | ⟨h1, h2⟩ | ⟨j, h1, h2, h3⟩
  · rw [h2, E 0 (by decide), h1]
    exact ⟨fun z => (f5 z.symm).symm, fun z => by rw [← z]; rfl⟩
  · rw [h2, E 1 (by decide), h1]
    exact ⟨fun z => (f6 z.symm).symm, fun z => by rw [← z]; rfl⟩
  · rw [h1, E 2 (by decide)]
    have := wcl_k h2
    exact ⟨fun z => absurd z.symm f2, fun z => by omega⟩
  · refine ⟨fun z => ?_, fun z => by omega⟩
    rcases h2 with h2 | h2
    · rw [h2, E 3 (by decide)] at z
      exact absurd z.symm f3
    · rw [h2, E 44 (by decide)] at z
      exact absurd z.symm f4
  · rw [h2, E 4 (by decide), h1]
    exact ⟨fun z => (f7 z.symm).symm, fun z => by rw [← z]; rfl⟩
  · rw [h2, E 5 (by decide), h1]
    exact ⟨fun z => (f8 z.symm).symm, fun z => by rw [← z]; rfl⟩
  · rw [h3, E _ (by have := (m13 j h1).2.2.2; omega), h2]
    exact tkn_j j h1 k' (by omega) hk
def isw (k v w : Nat) : Prop := (w < 4 ∧ k = 4 ∧ v = w) ∨ (4 ≤ w ∧ w < 9 ∧ k = w + 1) ∨ (9 ≤ w ∧ k = 3 ∧ v = w - 9)
theorem lN_inj {a b : Nat} (ha : a < 2 ^ 62) (hb : b < 2 ^ 62) (h : lN a = lN b) : a = b := by
  rw [jln, jln] at h
  have := (jl_eq (a := (a : Int)) (b := (b : Int)) (by unfold Lg; omega) (by unfold Lg; omega)).mp h
  omega
theorem wds_lt : ∀ w, w < 19 → pkl (wds w) < 2 ^ 56 := by decide +kernel
theorem TRel.t2 {k v : Nat} {tok num : Int32} {wd : Int64} (h : TRel k v tok num wd) (ht : tok = nI 2) : ∃ l : List Nat, (∀ x, x ∈ l → 1 ≤ x ∧ x < 256) ∧ wd = lN (pkw l) ∧ wcl l k v := by
  have E : ∀ a, a < 100 → a ≠ 2 → ¬ (nI a = nI 2) := fun a ha h2 => zne h2 (by omega) (by decide)
  rcases h with ⟨h1, h2⟩ | ⟨h1, h2, -⟩ | ⟨h1, h2⟩ | ⟨h1, h2⟩ | ⟨h1, h2⟩ | ⟨h1, h2⟩ | ⟨j, h1, h2, h3⟩
  · exact absurd (h2.symm.trans ht) (E 0 (by decide) (by decide))
  · exact absurd (h2.symm.trans ht) (E 1 (by decide) (by decide))
  · exact h2
  · rcases h2 with h2 | h2
    · exact absurd (h2.symm.trans ht) (E 3 (by decide) (by decide))
    · exact absurd (h2.symm.trans ht) (E 44 (by decide) (by decide))
  · exact absurd (h2.symm.trans ht) (E 4 (by decide) (by decide))
  · exact absurd (h2.symm.trans ht) (E 5 (by decide) (by decide))
  · have m := m13 j h1
    have m2 := m13o j h1
    exact absurd (h3.symm.trans ht) (E _ (by omega) (fun z => by rw [z] at m2; revert m2; decide))
theorem TRel.word {k v : Nat} {tok num : Int32} {wd : Int64} (h : TRel k v tok num wd) {w : Nat} (hw : w < 19) : (tok = nI 2 ∧ wd = lN (pkl (wds w))) ↔ isw k v w := by
  constructor
  · intro ⟨h1, h2⟩
    obtain ⟨l, a1, a2, a3⟩ := h.t2 h1
    have e := lN_inj (by have := pkw_lt a1; omega) (by have := wds_lt w hw; omega) (a2.symm.trans h2)
    have el := (pkw_w hw a1).mp e
    rcases a3 with ⟨w', b1, b2, b3⟩ | ⟨b1, -⟩
    · have : w' = w := wds_inj w' b1 w hw (b2.symm.trans el)
      subst this
      unfold isw
      omega
    · exact absurd el (b1 w hw)
  · intro hi
    have hk : 3 ≤ k ∧ k < 10 := by unfold isw at hi; omega
    rcases h with ⟨h1, h2⟩ | ⟨h1, h2, -⟩ | ⟨h1, l, a1, a2, a3⟩ | ⟨h1, h2⟩ | ⟨h1, h2⟩ | ⟨h1, h2⟩ | ⟨j, h1, h2, h3⟩
    · omega
    · omega
    · refine ⟨h1, ?_⟩
      rcases a3 with ⟨w', b1, b2, b3⟩ | ⟨-, b1, -⟩
      · have : w' = w := by unfold isw at hi; omega
        subst this
        rw [a2, (pkw_w hw a1).mpr b2]
      · omega
    · omega
    · omega
    · omega
    · omega
section RTOK
variable {X : xXT} {P : xPT} {d S : Nat} {s : xS} {Q : xQ}
theorem i2l8 {b : Nat} (hb : b < 256) : (nI b).toInt64 = lN b := by
  rw [jn, jln]
  exact ji_l (In.nt (by omega)).sm
theorem q_w3 (I : xRl X P) (hS : S ≤ 128) {a b c : Nat} (ha : a < 256) (hb : b < 256) (hc : c < 256) (h : Q (some (.long (lN (256 * (256 * a + b) + c)))) s) : P (d + 1) (L0 S) 149 [.int (nI a), .int (nI b), .int (nI c)] s Q := by
  refine inX11_w3 I (L0ok hS) ?_
  refine rn I [] 99 ?_
  rw [← shl8 (by omega) hc, ← shl8 (by omega) hb, ← i2l8 ha] at h
  exact h
theorem q_w4 (I : xRl X P) (hS : S ≤ 128) {a b c e : Nat} (ha : a < 256) (hb : b < 256) (hc : c < 256) (he : e < 256) (h : Q (some (.long (lN (256 * (256 * (256 * a + b) + c) + e)))) s) : P (d + 2) (L0 S) 151 [.int (nI a), .int (nI b), .int (nI c), .int (nI e)] s Q := by
  refine inX11_w4 I (L0ok hS) ?_
  refine rn I [] 99 ?_
  refine q_w3 I hS ha hb hc ?_
  rw [← shl8 (by omega) he] at h
  exact h
theorem q_w5 (I : xRl X P) (hS : S ≤ 128) {a b c e g : Nat} (ha : a < 256) (hb : b < 256) (hc : c < 256) (he : e < 256) (hg : g < 256) (h : Q (some (.long (lN (256 * (256 * (256 * (256 * a + b) + c) + e) + g)))) s) : P (d + 2) (L0 S) 150 [.int (nI a), .int (nI b), .int (nI c), .int (nI e), .int (nI g)] s Q := by
  refine inX11_w5 I (L0ok hS) ?_
  refine rn I [] 99 ?_
  refine q_w3 I hS ha hb hc ?_
  rw [← shl8 (by omega) hg, ← shl8 (by omega) he] at h
  exact h
theorem q_w6 (I : xRl X P) (hS : S ≤ 128) {a b c e g k : Nat} (ha : a < 256) (hb : b < 256) (hc : c < 256) (he : e < 256) (hg : g < 256) (hk : k < 256) (h : Q (some (.long (lN (256 * (256 * (256 * (256 * (256 * a + b) + c) + e) + g) + k)))) s) : P (d + 3) (L0 S) 152 [.int (nI a), .int (nI b), .int (nI c), .int (nI e), .int (nI g), .int (nI k)] s Q := by
  refine inX11_w6 I (L0ok hS) ?_
  refine rn I [] 99 ?_
  refine q_w5 I hS ha hb hc he hg ?_
  rw [← shl8 (by omega) hk] at h
  exact h
theorem q_isWord (I : xRl X P) (hS : S ≤ 128) {k v : Nat} (hT : TRel k v (s.1 79 11) (s.1 79 12) (s.2 79 13)) {w m : Nat} (hw : w < 19) (em : pkl (wds w) = m) (h1 : isw k v w → Q (some (.int (nI 1))) s) (h0 : ¬ isw k v w → Q (some (.int (nI 0))) s) : P (d + 1) (L0 S) 153 [.ref 79, .long (lN m)] s Q := by
  subst em
  refine inX11_isWord I (L0ok hS) ?_
  refine rn I [] 99 ?_
  refine xbr_c (fun z => ?_) (fun z => ⟨bz, h0 (fun y => z ((hT.word hw).mpr y).1)⟩)
  refine xbr_c (fun z2 => ⟨bo, h1 ((hT.word hw).mp ⟨z, lc_eq.mp z2⟩)⟩) (fun z2 => ⟨bz, h0 (fun y => z2 (lc_eq.mpr ((hT.word hw).mpr y).2))⟩)
set_option maxRecDepth 8000 in
theorem q_nameOf (I : xRl X P) (hS : S ≤ 128) {k v : Nat} (hT : TRel k v (s.1 79 11) (s.1 79 12) (s.2 79 13)) (hv : k = 3 → v < 10) (h : Q (some (.int (o32 (if k = 3 then some v else none)))) s) : P (d + 4) (L0 S) 169 [.ref 79] s Q := by
  have Y : ∀ w, w < 10 → s.1 79 11 = nI 2 → s.2 79 13 = lN (pkl (wds (9 + w))) → Q (some (.int (nI w))) s := by
    intro w hw h1 h2
    have z := (hT.word (w := 9 + w) (by omega)).mp ⟨h1, h2⟩
    have z : k = 3 ∧ v = w := by unfold isw at z; omega
    rw [if_pos z.1, z.2] at h
    exact h
  have N : (s.1 79 11 = nI 2 → ∀ w, w < 10 → ¬ s.2 79 13 = lN (pkl (wds (9 + w)))) → Q (some (.int (-(nI 1)))) s := by
    intro hn
    by_cases k3 : k = 3
    · have z := (hT.word (w := 9 + v) (by have := hv k3; omega)).mpr (by unfold isw; have := hv k3; omega)
      exact absurd z.2 (hn z.1 v (hv k3))
    · rw [if_neg k3] at h
      exact h
  refine inX11_nameOf I (L0ok hS) ?_
  refine rn I [] 199 ?_
  refine xbr_c (fun t2 => ?_) (fun t2 => N (fun z => absurd z t2))
  have e0 : pkl (wds (9 + 0)) = 120 := by decide +kernel
  have e1 : pkl (wds (9 + 1)) = 121 := by decide +kernel
  have e2 : pkl (wds (9 + 2)) = 256 * (256 * (256 * 115 + 105) + 122) + 101 := by decide +kernel
  have e3 : pkl (wds (9 + 3)) = 256 * (256 * (256 * (256 * (256 * 112 + 97) + 105) + 110) + 116) + 115 := by decide +kernel
  have e4 : pkl (wds (9 + 4)) = 256 * (256 * (256 * 104 + 105) + 108) + 108 := by decide +kernel
  have e5 : pkl (wds (9 + 5)) = 256 * (256 * (256 * 104 + 111) + 117) + 114 := by decide +kernel
  have e6 : pkl (wds (9 + 6)) = 256 * (256 * (256 * (256 * 115 + 99) + 111) + 112) + 101 := by decide +kernel
  have e7 : pkl (wds (9 + 7)) = 256 * (256 * (256 * (256 * (256 * 116 + 117) + 114) + 110) + 101) + 100 := by decide +kernel
  have e8 : pkl (wds (9 + 8)) = 256 * (256 * 102 + 97) + 114 := by decide +kernel
  have e9 : pkl (wds (9 + 9)) = 256 * (256 * 97 + 99) + 116 := by decide +kernel
  refine xbr_c (fun z => Y 0 (by decide) t2 (by rw [e0]; exact lc_eq.mp z)) (fun z0 => ?_)
  refine xbr_c (fun z => Y 1 (by decide) t2 (by rw [e1]; exact lc_eq.mp z)) (fun z1 => ?_)
  refine q_w4 I hS (by decide) (by decide) (by decide) (by decide) ?_
  refine xbr_c (fun z => Y 2 (by decide) t2 (by rw [e2]; exact lc_eq.mp z)) (fun z2 => ?_)
  refine q_w6 I hS (by decide) (by decide) (by decide) (by decide) (by decide) (by decide) ?_
  refine xbr_c (fun z => Y 3 (by decide) t2 (by rw [e3]; exact lc_eq.mp z)) (fun z3 => ?_)
  refine q_w4 I hS (by decide) (by decide) (by decide) (by decide) ?_
  refine xbr_c (fun z => Y 4 (by decide) t2 (by rw [e4]; exact lc_eq.mp z)) (fun z4 => ?_)
  refine q_w4 I hS (by decide) (by decide) (by decide) (by decide) ?_
  refine xbr_c (fun z => Y 5 (by decide) t2 (by rw [e5]; exact lc_eq.mp z)) (fun z5 => ?_)
  refine q_w5 I hS (by decide) (by decide) (by decide) (by decide) (by decide) ?_
  refine xbr_c (fun z => Y 6 (by decide) t2 (by rw [e6]; exact lc_eq.mp z)) (fun z6 => ?_)
  refine q_w6 I hS (by decide) (by decide) (by decide) (by decide) (by decide) (by decide) ?_
  refine xbr_c (fun z => Y 7 (by decide) t2 (by rw [e7]; exact lc_eq.mp z)) (fun z7 => ?_)
  refine q_w3 I hS (by decide) (by decide) (by decide) ?_
  refine xbr_c (fun z => Y 8 (by decide) t2 (by rw [e8]; exact lc_eq.mp z)) (fun z8 => ?_)
  refine q_w3 I hS (by decide) (by decide) (by decide) ?_
  refine xbr_c (fun z => Y 9 (by decide) t2 (by rw [e9]; exact lc_eq.mp z)) (fun z9 => ?_)
  refine N (fun _ w hw => ?_)
  rcases (show w = 0 ∨ w = 1 ∨ w = 2 ∨ w = 3 ∨ w = 4 ∨ w = 5 ∨ w = 6 ∨ w = 7 ∨ w = 8 ∨ w = 9 by omega) with rfl | rfl | rfl | rfl | rfl | rfl | rfl | rfl | rfl | rfl
  · exact fun y => z0 (lc_eq.mpr (by rw [← e0]; exact y))
  · exact fun y => z1 (lc_eq.mpr (by rw [← e1]; exact y))
  · exact fun y => z2 (lc_eq.mpr (by rw [← e2]; exact y))
  · exact fun y => z3 (lc_eq.mpr (by rw [← e3]; exact y))
  · exact fun y => z4 (lc_eq.mpr (by rw [← e4]; exact y))
  · exact fun y => z5 (lc_eq.mpr (by rw [← e5]; exact y))
  · exact fun y => z6 (lc_eq.mpr (by rw [← e6]; exact y))
  · exact fun y => z7 (lc_eq.mpr (by rw [← e7]; exact y))
  · exact fun y => z8 (lc_eq.mpr (by rw [← e8]; exact y))
  · exact fun y => z9 (lc_eq.mpr (by rw [← e9]; exact y))
theorem q_sortOf (I : xRl X P) (hS : S ≤ 128) {k v : Nat} (hT : TRel k v (s.1 79 11) (s.1 79 12) (s.2 79 13)) (hv : k = 4 → v < 4) (h : Q (some (.int (o32 (if k = 4 then some v else none)))) s) : P (d + 3) (L0 S) 171 [.ref 79] s Q := by
  have Y : ∀ w, w < 4 → isw k v w → Q (some (.int (nI w))) s := by
    intro w hw z
    have z : k = 4 ∧ v = w := by unfold isw at z; omega
    rw [if_pos z.1, z.2] at h
    exact h
  refine inX11_sortOf I (L0ok hS) ?_
  refine rn I [] 199 ?_
  refine q_w5 I hS (by decide) (by decide) (by decide) (by decide) (by decide) ?_
  refine q_isWord I hS hT (w := 0) (by decide) (by decide +kernel) (fun z => xbr_f n10 (Y 0 (by decide) z)) (fun z0 => xbr_t rfl ?_)
  refine q_w4 I hS (by decide) (by decide) (by decide) (by decide) ?_
  refine q_isWord I hS hT (w := 1) (by decide) (by decide +kernel) (fun z => xbr_f n10 (Y 1 (by decide) z)) (fun z1 => xbr_t rfl ?_)
  refine q_w4 I hS (by decide) (by decide) (by decide) (by decide) ?_
  refine q_isWord I hS hT (w := 2) (by decide) (by decide +kernel) (fun z => xbr_f n10 (Y 2 (by decide) z)) (fun z2 => xbr_t rfl ?_)
  refine q_w4 I hS (by decide) (by decide) (by decide) (by decide) ?_
  refine q_isWord I hS hT (w := 3) (by decide) (by decide +kernel) (fun z => xbr_f n10 (Y 3 (by decide) z)) (fun z3 => xbr_t rfl ?_)
  unfold isw at z0 z1 z2 z3
  rw [if_neg (by omega)] at h
  exact h
theorem q_compareOf (I : xRl X P) (hS : S ≤ 128) {k v : Nat} (hT : TRel k v (s.1 79 11) (s.1 79 12) (s.2 79 13)) (h : Q (some (.int (o32 (if 10 ≤ k ∧ k < 16 then some (mc k) else none)))) s) : P (d + 1) (L0 S) 165 [.ref 79] s Q := by
  have T : ∀ {k'}, tkS k' → (s.1 79 11 = nI (tkn k') ↔ k = k') := fun hk => hT.tok hk
  refine inX11_compareOf I (L0ok hS) ?_
  refine rn I [] 99 ?_
  refine xbr_c (fun z => ?_) (fun z12 => ?_)
  · have z := (T (k' := 12) (by decide)).mp z
    subst z
    exact h
  refine xbr_c (fun z => ?_) (fun z10 => ?_)
  · have z := (T (k' := 10) (by decide)).mp z
    subst z
    exact h
  refine xbr_c (fun z => ?_) (fun z13 => ?_)
  · have z := (T (k' := 13) (by decide)).mp z
    subst z
    exact h
  refine xbr_c (fun z => ?_) (fun z11 => ?_)
  · have z := (T (k' := 11) (by decide)).mp z
    subst z
    exact h
  refine xbr_c (fun z => ?_) (fun z14 => ?_)
  · have z := (T (k' := 14) (by decide)).mp z
    subst z
    exact h
  refine xbr_c (fun z => ?_) (fun z15 => ?_)
  · have z := (T (k' := 15) (by decide)).mp z
    subst z
    exact h
  have n12 : ¬ k = 12 := fun y => z12 ((T (k' := 12) (by decide)).mpr y)
  have n10 : ¬ k = 10 := fun y => z10 ((T (k' := 10) (by decide)).mpr y)
  have n13 : ¬ k = 13 := fun y => z13 ((T (k' := 13) (by decide)).mpr y)
  have n11 : ¬ k = 11 := fun y => z11 ((T (k' := 11) (by decide)).mpr y)
  have n14 : ¬ k = 14 := fun y => z14 ((T (k' := 14) (by decide)).mpr y)
  have n15 : ¬ k = 15 := fun y => z15 ((T (k' := 15) (by decide)).mpr y)
  rw [if_neg (by omega)] at h
  exact h
end RTOK
