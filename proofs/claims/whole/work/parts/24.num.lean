/-! whole numbers in the machine's words; Math's methods; what two numbers come to -/
def jI (z : Int) : Int32 := Int32.ofInt z
def jL (z : Int) : Int64 := Int64.ofInt z
def Sm (z : Int) : Prop := -1073741824 ≤ z ∧ z ≤ 1073741823
def Lg (z : Int) : Prop := -4611686018427387904 ≤ z ∧ z ≤ 4611686018427387903
def In (z : Int) : Prop := -1000000 ≤ z ∧ z ≤ 1000000
theorem In.sm {z : Int} (h : In z) : Sm z := ⟨by have := h.1; omega, by have := h.2; omega⟩
theorem In.lg {z : Int} (h : In z) : Lg z := ⟨by have := h.1; omega, by have := h.2; omega⟩
theorem In.nt {n : Nat} (h : n ≤ 1000000) : In (n : Int) := ⟨by omega, by omega⟩
theorem jn (n : Nat) : nI n = jI (n : Int) := Int32.ofInt_eq_ofNat.symm
theorem jln (n : Nat) : lN n = jL (n : Int) := Int64.ofInt_eq_ofNat.symm
theorem jng (n : Nat) : -(nI n) = jI (-(n : Int)) := by rw [jn]; exact (Int32.ofInt_neg _).symm
theorem jlng (n : Nat) : -(lN n) = jL (-(n : Int)) := by rw [jln]; exact (Int64.ofInt_neg _).symm
theorem mn32 : Int32.minValue.toInt = -2147483648 := by decide +kernel
theorem mx32 : Int32.maxValue.toInt = 2147483647 := by decide +kernel
theorem mn64 : Int64.minValue.toInt = -9223372036854775808 := by decide +kernel
theorem mx64 : Int64.maxValue.toInt = 9223372036854775807 := by decide +kernel
theorem ji_lt {a b : Int} (ha : Sm a) (hb : Sm b) : jI a < jI b ↔ a < b := by
  have := ha.1; have := ha.2; have := hb.1; have := hb.2
  exact Int32.ofInt_lt_iff_lt (by rw [mn32]; omega) (by rw [mx32]; omega) (by rw [mn32]; omega) (by rw [mx32]; omega)
theorem jl_lt {a b : Int} (ha : Lg a) (hb : Lg b) : jL a < jL b ↔ a < b := by
  have := ha.1; have := ha.2; have := hb.1; have := hb.2
  exact Int64.ofInt_lt_iff_lt (by rw [mn64]; omega) (by rw [mx64]; omega) (by rw [mn64]; omega) (by rw [mx64]; omega)
theorem ji_to {a : Int} (ha : Sm a) : (jI a).toInt = a := Int32.toInt_ofInt_of_le (by have := ha.1; omega) (by have := ha.2; omega)
theorem jl_to {a : Int} (ha : Lg a) : (jL a).toInt = a := Int64.toInt_ofInt_of_le (by have := ha.1; omega) (by have := ha.2; omega)
theorem ji_eq {a b : Int} (ha : Sm a) (hb : Sm b) : jI a = jI b ↔ a = b := ⟨fun h => by rw [← ji_to ha, h, ji_to hb], fun h => by rw [h]⟩
theorem jl_eq {a b : Int} (ha : Lg a) (hb : Lg b) : jL a = jL b ↔ a = b := ⟨fun h => by rw [← jl_to ha, h, jl_to hb], fun h => by rw [h]⟩
theorem ji_add (a b : Int) : jI a + jI b = jI (a + b) := (Int32.ofInt_add a b).symm
theorem ji_sub (a b : Int) : jI a - jI b = jI (a - b) := (Int32.ofInt_sub a b).symm
theorem ji_neg (a : Int) : -(jI a) = jI (-a) := (Int32.ofInt_neg a).symm
theorem jl_add (a b : Int) : jL a + jL b = jL (a + b) := (Int64.ofInt_add a b).symm
theorem jl_sub (a b : Int) : jL a - jL b = jL (a - b) := (Int64.ofInt_sub a b).symm
theorem jl_mul (a b : Int) : jL a * jL b = jL (a * b) := (Int64.ofInt_mul a b).symm
theorem jl_neg (a : Int) : -(jL a) = jL (-a) := (Int64.ofInt_neg a).symm
theorem ji_l {a : Int} (ha : Sm a) : (jI a).toInt64 = jL a := Int32.toInt64_ofInt (by rw [mn32]; have := ha.1; omega) (by rw [mx32]; have := ha.2; omega)
theorem jl_i (a : Int) : (jL a).toInt32 = jI a := Int64.toInt32_ofInt
theorem ji_div {a b : Int} (ha : Sm a) (hb : Sm b) : jI a / jI b = jI (a.tdiv b) := by
  have := ha.1; have := ha.2; have := hb.1; have := hb.2
  exact (Int32.ofInt_tdiv (by rw [mn32]; omega) (by rw [mx32]; omega) (by rw [mn32]; omega) (by rw [mx32]; omega)).symm
theorem jl_div {a b : Int} (ha : Lg a) (hb : Lg b) : jL a / jL b = jL (a.tdiv b) := by
  have := ha.1; have := ha.2; have := hb.1; have := hb.2
  exact (Int64.ofInt_tdiv (by rw [mn64]; omega) (by rw [mx64]; omega) (by rw [mn64]; omega) (by rw [mx64]; omega)).symm
theorem lc_lt {x y : Int64} : lg_cmp x y < nI 0 ↔ x < y := by
  unfold lg_cmp
  by_cases h : x > y
  · rw [if_pos h]
    exact ⟨fun z => absurd z (by decide +kernel), fun z => absurd (Int64.lt_trans z h) (Int64.lt_irrefl)⟩
  · rw [if_neg h]
    by_cases e : x = y
    · rw [if_pos e]
      exact ⟨fun z => absurd z (by decide +kernel), fun z => absurd (e ▸ z) (Int64.lt_irrefl)⟩
    · rw [if_neg e]
      refine ⟨fun _ => ?_, fun _ => by decide +kernel⟩
      exact Int64.lt_of_le_of_ne (Int64.not_lt.mp h) e
theorem lc_gt {x y : Int64} : nI 0 < lg_cmp x y ↔ y < x := by
  unfold lg_cmp
  by_cases h : x > y
  · rw [if_pos h]
    exact ⟨fun _ => h, fun _ => by decide +kernel⟩
  · rw [if_neg h]
    by_cases e : x = y
    · rw [if_pos e]
      exact ⟨fun z => absurd z (by decide +kernel), fun z => absurd z h⟩
    · rw [if_neg e]
      exact ⟨fun z => absurd z (by decide +kernel), fun z => absurd z h⟩
theorem lc_eq {x y : Int64} : lg_cmp x y = nI 0 ↔ x = y := by
  unfold lg_cmp
  by_cases h : x > y
  · rw [if_pos h]
    exact ⟨fun z => absurd z (by decide +kernel), fun z => absurd (z ▸ h) (Int64.lt_irrefl)⟩
  · rw [if_neg h]
    by_cases e : x = y
    · rw [if_pos e]
      exact ⟨fun _ => e, fun _ => by decide +kernel⟩
    · rw [if_neg e]
      exact ⟨fun z => absurd z (by decide +kernel), fun z => absurd z e⟩
def clz (z : Int) : Int := if 1000000 < z then 1000000 else if z < -1000000 then -1000000 else z
theorem clz_in (z : Int) : In (clz z) := by
  unfold clz In
  split
  · omega
  · split <;> omega
theorem clz_id {z : Int} (h : In z) : clz z = z := by
  have h1 := h.1
  have h2 := h.2
  unfold clz
  rw [if_neg (by omega), if_neg (by omega)]
theorem mul_in {x y : Int} (hx : In x) (hy : In y) : Lg (x * y) := by
  have h1 : x.natAbs ≤ 1000000 := by have := hx.1; have := hx.2; omega
  have h2 : y.natAbs ≤ 1000000 := by have := hy.1; have := hy.2; omega
  have h3 : (x * y).natAbs ≤ 1000000 * 1000000 := by rw [Int.natAbs_mul]; exact Nat.mul_le_mul h1 h2
  unfold Lg
  omega
theorem div_in {x y : Int} (hx : In x) : In (x.tdiv y) := by
  have h1 : x.natAbs ≤ 1000000 := by have := hx.1; have := hx.2; omega
  have h3 := Int.natAbs_tdiv_le_natAbs x y
  unfold In
  omega
/-- sum, difference, product, quotient (0 to 3) -/
def op2 (k : Nat) (x y : Int) : Int := match k with
  | 0 => clz (x + y)
  | 1 => clz (x - y)
  | 2 => clz (x * y)
  | _ => if y = 0 then 0 else x.tdiv y
theorem op2_in {k : Nat} {x y : Int} (hx : In x) : In (op2 k x y) := by
  unfold op2
  split
  · exact clz_in _
  · exact clz_in _
  · exact clz_in _
  · split
    · exact In.nt (n := 0) (by decide)
    · exact div_in hx
/-- a comparison, by the class's kind of it -/
def cmz (k : Nat) (x y : Int) : Int := match k with
  | 10 => if x ≤ y then 1 else 0
  | 11 => if y ≤ x then 1 else 0
  | 12 => if x < y then 1 else 0
  | 13 => if y < x then 1 else 0
  | 14 => if x = y then 1 else 0
  | _ => if x = y then 0 else 1
def orz (x y : Int) : Int := if 0 < x + y then 1 else 0
def anz (x y : Int) : Int := if 1 < x + y then 1 else 0
def B1 (z : Int) : Prop := z = 0 ∨ z = 1
theorem B1.inn {z : Int} (h : B1 z) : In z := by rcases h with rfl | rfl <;> (unfold In; omega)
theorem b1if {c : Prop} [Decidable c] : B1 (if c then 1 else 0) := by
  split
  · exact Or.inr rfl
  · exact Or.inl rfl
theorem cmz_b (k : Nat) (x y : Int) : B1 (cmz k x y) := by
  unfold cmz
  split
  · exact b1if
  · exact b1if
  · exact b1if
  · exact b1if
  · exact b1if
  · split
    · exact Or.inl rfl
    · exact Or.inr rfl
theorem orz_b (x y : Int) : B1 (orz x y) := b1if
theorem anz_b (x y : Int) : B1 (anz x y) := b1if
section NUM
variable {X : xXT} {P : xPT} {d S : Nat} {s : xS} {Q : xQ}
theorem m_maxL (I : xRl X P) (hS : S ≤ 128) {a b : Int} (ha : Lg a) (hb : Lg b) (h : Q (some (.long (jL (if a < b then b else a)))) s) : P (d + 1) (L0 S) 219 [.long (jL a), .long (jL b)] s Q := by
  refine inJ9_max_f86c9 I (L0ok hS) ?_
  refine rn I [] 99 ?_
  by_cases hc : a < b
  · rw [if_pos hc] at h
    exact xbr_t (lc_lt.mpr ((jl_lt ha hb).mpr hc)) h
  · rw [if_neg hc] at h
    exact xbr_f (fun z => hc ((jl_lt ha hb).mp (lc_lt.mp z))) h
theorem m_minL (I : xRl X P) (hS : S ≤ 128) {a b : Int} (ha : Lg a) (hb : Lg b) (h : Q (some (.long (jL (if b < a then b else a)))) s) : P (d + 1) (L0 S) 221 [.long (jL a), .long (jL b)] s Q := by
  refine inJ9_min_f86c9 I (L0ok hS) ?_
  refine rn I [] 99 ?_
  by_cases hc : b < a
  · rw [if_pos hc] at h
    exact xbr_t (lc_gt.mpr ((jl_lt hb ha).mpr hc)) h
  · rw [if_neg hc] at h
    exact xbr_f (fun z => hc ((jl_lt hb ha).mp (lc_gt.mp z))) h
theorem m_max (I : xRl X P) (hS : S ≤ 128) {a b : Int} (ha : Sm a) (hb : Sm b) (h : Q (some (.int (jI (if a < b then b else a)))) s) : P (d + 1) (L0 S) 218 [.int (jI a), .int (jI b)] s Q := by
  refine inJ9_max_7cf53 I (L0ok hS) ?_
  refine rn I [] 99 ?_
  by_cases hc : a < b
  · rw [if_pos hc] at h
    exact xbr_t ((ji_lt ha hb).mpr hc) h
  · rw [if_neg hc] at h
    exact xbr_f (fun z => hc ((ji_lt ha hb).mp z)) h
theorem m_min (I : xRl X P) (hS : S ≤ 128) {a b : Int} (ha : Sm a) (hb : Sm b) (h : Q (some (.int (jI (if b < a then b else a)))) s) : P (d + 1) (L0 S) 220 [.int (jI a), .int (jI b)] s Q := by
  refine inJ9_min_7cf53 I (L0ok hS) ?_
  refine rn I [] 99 ?_
  by_cases hc : b < a
  · rw [if_pos hc] at h
    exact xbr_t ((ji_lt hb ha).mpr hc) h
  · rw [if_neg hc] at h
    exact xbr_f (fun z => hc ((ji_lt hb ha).mp z)) h
theorem m_abs (I : xRl X P) (hS : S ≤ 128) {a : Int} (ha : Sm a) (h : Q (some (.int (jI (if a < 0 then -a else a)))) s) : P (d + 1) (L0 S) 217 [.int (jI a)] s Q := by
  refine inJ9_abs_0f7a4 I (L0ok hS) ?_
  refine rn I [] 99 ?_
  have e : jI a < nI 0 ↔ a < 0 := by rw [jn]; exact ji_lt ha (by unfold Sm; omega)
  by_cases hc : a < 0
  · rw [if_pos hc, ← ji_neg] at h
    exact xbr_t (e.mpr hc) h
  · rw [if_neg hc] at h
    exact xbr_f (fun z => hc (e.mp z)) h
/-- the class's clamp -/
theorem lgM : Lg 1000000 := by unfold Lg; omega
theorem lgN : Lg (-1000000) := by unfold Lg; omega
theorem m_bounded (I : xRl X P) (hS : S ≤ 128) {z : Int} (hz : Lg z) (h : Q (some (.int (jI (clz z)))) s) : P (d + 2) (L0 S) 25 [.long (jL z)] s Q := by
  refine inX1_bounded I (L0ok hS) ?_
  refine rn I [] 99 ?_
  show P _ _ _ [.long (lN 1000000), .long (jL z)] _ _
  rw [jln]
  refine m_minL I hS (a := 1000000) lgM hz ?_
  show P _ _ _ [.long (-(lN 1000000)), .long (jL (if z < 1000000 then z else 1000000))] _ _
  rw [jlng]
  refine m_maxL I hS (a := -1000000) lgN (by split; exact hz; exact lgM) ?_
  show Q (some (.int (jL _).toInt32)) s
  rw [jl_i]
  have e2 : (if (-1000000 : Int) < (if z < 1000000 then z else 1000000) then (if z < 1000000 then z else 1000000) else -1000000) = clz z := by
    unfold clz
    by_cases h1 : z < 1000000
    · rw [if_pos h1, if_neg (by omega : ¬ 1000000 < z)]
      by_cases h2 : z < -1000000
      · rw [if_neg (by omega), if_pos h2]
      · rw [if_neg h2]
        split <;> omega
    · rw [if_neg h1, if_pos (by decide)]
      split
      · rfl
      · rw [if_neg (by omega)]
        omega
  rw [e2]
  exact h
theorem q_clip (I : xRl X P) (hS : S ≤ 128) {z : Int} (hz : Lg z) (h : Q (some (.long (jL (clz z)))) s) : P (d + 1) (L0 S) 177 [.long (jL z)] s Q := by
  refine inX11_clip I (L0ok hS) ?_
  refine rn I [] 99 ?_
  show xbr (nI 0 < lg_cmp (jL z) (lN 1000000)) _ _
  rw [jln]
  unfold clz at h
  by_cases h1 : 1000000 < z
  · rw [if_pos h1] at h
    exact xbr_t (lc_gt.mpr ((jl_lt lgM hz).mpr h1)) h
  · rw [if_neg h1] at h
    refine xbr_f (fun q => h1 ((jl_lt lgM hz).mp (lc_gt.mp q))) ?_
    show xbr (lg_cmp (jL z) (-(lN 1000000)) < nI 0) _ _
    rw [jlng]
    by_cases h2 : z < -1000000
    · rw [if_pos h2] at h
      exact xbr_t (lc_lt.mpr ((jl_lt hz lgN).mpr h2)) h
    · rw [if_neg h2] at h
      exact xbr_f (fun q => h2 ((jl_lt hz lgN).mp (lc_lt.mp q))) h
theorem q_two (I : xRl X P) (hS : S ≤ 128) {k : Nat} (hk : k < 4) {x y : Int} (hx : In x) (hy : In y) (h : Q (some (.long (jL (op2 k x y)))) s) : P (d + 2) (L0 S) 178 [.int (nI (3 + k)), .long (jL x), .long (jL y)] s Q := by
  refine inX11_two I (L0ok hS) ?_
  refine rn I [] 99 ?_
  match k, hk with
  | 0, _ =>
    refine xbr_t rfl ?_
    show P _ _ _ [.long (jL x + jL y)] _ _
    rw [jl_add]
    exact q_clip I hS (by have := hx.1; have := hx.2; have := hy.1; have := hy.2; unfold Lg; omega) h
  | 1, _ =>
    refine xbr_f (by decide +kernel) (xbr_t rfl ?_)
    show P _ _ _ [.long (jL x - jL y)] _ _
    rw [jl_sub]
    exact q_clip I hS (by have := hx.1; have := hx.2; have := hy.1; have := hy.2; unfold Lg; omega) h
  | 2, _ =>
    refine xbr_f (by decide +kernel) (xbr_f (by decide +kernel) (xbr_t rfl ?_))
    show P _ _ _ [.long (jL x * jL y)] _ _
    rw [jl_mul]
    exact q_clip I hS (mul_in hx hy) h
  | 3, _ =>
    refine xbr_f (by decide +kernel) (xbr_f (by decide +kernel) (xbr_f (by decide +kernel) ?_))
    have e0 : lg_cmp (jL y) (lN 0) = nI 0 ↔ y = 0 := by rw [jln]; exact lc_eq.trans (jl_eq hy.lg (by unfold Lg; omega))
    by_cases hz : y = 0
    · refine xbr_t (e0.mpr hz) ?_
      unfold op2 at h
      rw [if_pos hz] at h
      exact h
    · refine xbr_f (fun z => hz (e0.mp z)) ?_
      refine And.intro (fun z => hz ((jl_eq hy.lg (by unfold Lg; omega)).mp z)) ?_
      show P _ _ _ [.long (jL x / jL y)] _ _
      rw [jl_div hx.lg hy.lg]
      refine q_clip I hS (div_in hx).lg ?_
      rw [clz_id (div_in hx)]
      unfold op2 at h
      rw [if_neg hz] at h
      exact h
end NUM
