/-! lowest terms -/
theorem lI {a : Nat} (h : a < 2 ^ 62) : Lg (a : Int) := by unfold Lg; omega
theorem ldv {a b : Nat} (ha : a < 2 ^ 62) (hb : b < 2 ^ 62) : lN a / lN b = lN (a / b) := by
  rw [jln, jln, jl_div (lI ha) (lI hb), jln]
  rfl
theorem lsb {a b : Nat} (h : b ≤ a) : lN a - lN b = lN (a - b) := by rw [jln, jln, jl_sub, jln, Int.ofNat_sub h]
theorem lrm {a b : Nat} (ha : a < 2 ^ 62) (hb : b < 2 ^ 62) : lN a - lN a / lN b * lN b = lN (a % b) := by
  rw [ldv ha hb, lml, lsb (Nat.div_mul_le_self a b)]
  congr 1
  have := Nat.div_add_mod a b
  rw [Nat.mul_comm] at this
  omega
theorem lne {b : Nat} (hb : b < 2 ^ 62) (h : b ≠ 0) : ¬ lN b = 0 := fun z => h (by
  have e : lN b = lN 0 := z
  rw [jln, jln] at e
  have := (jl_eq (lI hb) (lI (by decide))).mp e
  omega)
theorem llt {a b : Nat} (ha : a < 2 ^ 62) (hb : b < 2 ^ 62) : lN a < lN b ↔ a < b := by
  rw [jln, jln]
  exact (jl_lt (lI ha) (lI hb)).trans (by omega)
theorem lcl {a b : Nat} (ha : a < 2 ^ 62) (hb : b < 2 ^ 62) : lg_cmp (lN a) (lN b) < nI 0 ↔ a < b := lc_lt.trans (llt ha hb)
theorem lcg {a b : Nat} (ha : a < 2 ^ 62) (hb : b < 2 ^ 62) : nI 0 < lg_cmp (lN a) (lN b) ↔ b < a := lc_gt.trans (llt hb ha)
theorem half {b r : Nat} (h0 : 0 < r) (h : r < b) : 2 * (b % r) < b := by
  have h1 : b % r < r := Nat.mod_lt _ h0
  have h2 := Nat.div_add_mod b r
  have h3 : 1 ≤ b / r := Nat.div_pos (Nat.le_of_lt h) h0
  have h4 : r * 1 ≤ r * (b / r) := Nat.mul_le_mul_left r h3
  omega
theorem gst (a b : Nat) : Nat.gcd b (a % b) = Nat.gcd a b := by rw [Nat.gcd_comm b, ← Nat.gcd_rec, Nat.gcd_comm]
section GCD
variable {X : xXT} {P : xPT} {d S : Nat} {s : xS} {Q : xQ}
theorem m_low (I : xRl X P) (hS : S ≤ 128) {v a b : Nat} (hv : v < 2 ^ 62) (ha : a < 2 ^ 62) (hb : b < 2 ^ 47) (hb0 : 0 < b) (h : Q (some (.long (lN (v / Nat.gcd a b)))) s) : P (d + 1) (L0 S) 125 [.long (lN v), .long (lN a), .long (lN b)] s Q := by
  have out : ∀ (c : Nat) (o1 : Option Value) (y : Value) (z : Option Value), c < 2 ^ 62 → c = Nat.gcd a b → X d mX10_inLowestTerms Q (L0 S) 45 [some (.long (lN v)), none, some (.long (lN a)), none, some (.long (lN b)), none, some (.long (lN c)), none, some y, none, o1, z, none] [] s := by
    intro c o1 y z hc e
    have hp : 0 < c := by rw [e]; exact Nat.gcd_pos_of_pos_right _ hb0
    refine rn I [] 99 ?_
    refine xbr_t ((lcg hc (by decide)).mpr hp) ?_
    refine And.intro (lne hc (by omega)) ?_
    rw [← e, ← ldv hv hc] at h
    exact h
  have stp : ∀ (x y i : Nat) (z : Option Value), x < 2 ^ 62 → y < 2 ^ 62 → y ≠ 0 → i < 100 → X d mX10_inLowestTerms Q (L0 S) 10 [some (.long (lN v)), none, some (.long (lN a)), none, some (.long (lN b)), none, some (.long (lN y)), none, some (.long (lN (x % y))), none, some (.int (nI (i + 1))), some (.long (lN (x % y))), none] [] s → X d mX10_inLowestTerms Q (L0 S) 10 [some (.long (lN v)), none, some (.long (lN a)), none, some (.long (lN b)), none, some (.long (lN x)), none, some (.long (lN y)), none, some (.int (nI i)), z, none] [] s := by
    intro x y i z hx hy hy0 hi k
    refine rn I [10] 99 ?_
    refine xbr_t (zlt hi (by decide)) ?_
    refine xbr_f (fun q => hy0 ((lze hy).mp q)) ?_
    refine And.intro (lne hy hy0) ?_
    rw [n1s i, ← lrm hx hy] at k
    exact k
  have fin : ∀ (x i : Nat) (z : Option Value), x < 2 ^ 62 → i ≤ 100 → x = Nat.gcd a b → X d mX10_inLowestTerms Q (L0 S) 10 [some (.long (lN v)), none, some (.long (lN a)), none, some (.long (lN b)), none, some (.long (lN x)), none, some (.long (lN 0)), none, some (.int (nI i)), z, none] [] s := by
    intro x i z hx hi e
    refine rn I [45] 99 ?_
    refine xbr_c (fun _ => ?_) (fun _ => out x _ _ _ hx e)
    exact xbr_t ((lze (by decide)).mpr rfl) (out x _ _ _ hx e)
  have loop : ∀ n x y i, y < 2 ^ n → n ≤ 47 → i + 2 * n ≤ 100 → x < 2 ^ 62 → Nat.gcd x y = Nat.gcd a b → ∀ z : Option Value, X d mX10_inLowestTerms Q (L0 S) 10 [some (.long (lN v)), none, some (.long (lN a)), none, some (.long (lN b)), none, some (.long (lN x)), none, some (.long (lN y)), none, some (.int (nI i)), z, none] [] s := by
    intro n
    induction n with
    | zero =>
      intro x y i hy _ hi hx e z
      have hy : y = 0 := by rw [Nat.pow_zero] at hy; omega
      subst hy
      exact fin x i z hx (by omega) (by rw [← e, Nat.gcd_zero_right])
    | succ n ih =>
      intro x y i hy hn hi hx e z
      have p47 : 2 ^ (n + 1) ≤ 2 ^ 47 := Nat.pow_le_pow_right (by decide) hn
      by_cases hy0 : y = 0
      · subst hy0
        exact fin x i z hx (by omega) (by rw [← e, Nat.gcd_zero_right])
      · refine stp x y i z hx (by omega) hy0 (by omega) ?_
        have hr : x % y < y := Nat.mod_lt _ (by omega)
        by_cases hr0 : x % y = 0
        · have k := fin y (i + 1) (some (.long (lN (x % y)))) (by omega) (by omega) (by rw [← e, ← gst, hr0, Nat.gcd_zero_right])
          rw [← hr0] at k
          rw [hr0] at k ⊢
          exact k
        · refine stp y (x % y) (i + 1) _ (by omega) (by omega) hr0 (by omega) ?_
          have hh := half (by omega) hr
          exact ih (x % y) (y % (x % y)) (i + 1 + 1) (by rw [Nat.pow_succ] at hy; omega) (by omega) (by omega) (by omega) (by rw [gst, gst, e]) _
  refine inX10_inLowestTerms I (L0ok hS) ?_
  refine rn I [10] 99 ?_
  exact loop 47 a b 0 hb (by decide) (by decide) ha rfl none
theorem q_common (I : xRl X P) (hS : S ≤ 128) {a b : Nat} (ha : a < 2 ^ 62) (hb : b < 2 ^ 62) (h : Q (some (.long (lN (Nat.gcd a b)))) s) : P (d + 1) (L0 S) 196 [.long (lN a), .long (lN b)] s Q := by
  have loop : ∀ n x y, y ≤ n → y < 2 ^ 62 → x < 2 ^ 62 → Nat.gcd x y = Nat.gcd a b → ∀ z : Option Value, X d mX11_common Q (L0 S) 6 [some (.long (lN a)), none, some (.long (lN b)), none, some (.long (lN x)), none, some (.long (lN y)), none, z, none] [] s := by
    intro n
    induction n with
    | zero =>
      intro x y hy _ hx e z
      have hy : y = 0 := Nat.le_zero.mp hy
      subst hy
      refine rn I [] 99 ?_
      refine xbr_t ((lze (by decide)).mpr rfl) ?_
      rw [← e, Nat.gcd_zero_right] at h
      exact h
    | succ n ih =>
      intro x y hy hy2 hx e z
      by_cases hy0 : y = 0
      · subst hy0
        refine rn I [] 99 ?_
        refine xbr_t ((lze (by decide)).mpr rfl) ?_
        rw [← e, Nat.gcd_zero_right] at h
        exact h
      · have hr : x % y < y := Nat.mod_lt _ (by omega)
        refine rn I [6] 99 ?_
        refine xbr_f (fun q => hy0 ((lze hy2).mp q)) ?_
        refine And.intro (lne hy2 hy0) ?_
        have k := ih y (x % y) (by omega) (by omega) hy2 (by rw [gst, e]) (some (.long (lN (x % y))))
        rw [← lrm hx hy2] at k
        exact k
  refine inX11_common I (L0ok hS) ?_
  refine rn I [6] 99 ?_
  exact loop b a b (Nat.le_refl _) hb ha rfl none
end GCD
