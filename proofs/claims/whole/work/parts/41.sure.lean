/-! the greatest weights and their sum: the class's sureByOne and sureByTwo -/
def mx2 (a b : Nat) : Nat := if a < b then b else a
def mxs (h : Nat → Nat) : Nat → Nat
  | 0 => 0
  | n + 1 => mx2 (mxs h n) (h n)
theorem mx2_0 (a : Nat) : mx2 a 0 = a := if_neg (Nat.not_lt_zero _)
theorem mx2_le {a b c : Nat} (h1 : a ≤ c) (h2 : b ≤ c) : mx2 a b ≤ c := by unfold mx2; split <;> assumption
theorem mxs_le {h : Nat → Nat} {b : Nat} (hb : ∀ i, h i ≤ b) : ∀ n, mxs h n ≤ b
  | 0 => Nat.zero_le _
  | n + 1 => mx2_le (mxs_le hb n) (hb n)
theorem mxs_cg {h h' : Nat → Nat} : ∀ {n : Nat}, (∀ i, i < n → h i = h' i) → mxs h n = mxs h' n
  | 0, _ => rfl
  | n + 1, e => by
    show mx2 (mxs h n) (h n) = mx2 (mxs h' n) (h' n)
    rw [mxs_cg (fun i hi => e i (by omega)), e n (by omega)]
def GR (s : xS) (n : Nat) (r : Nat → Nat) : Prop := ∀ t, t < n → s.2 60 t = lN (r t)
def fG (s s' : xS) : Prop := s'.1 = s.1 ∧ ∀ q, q ≠ 60 → s'.2 q = s.2 q
theorem fG.tr {a b c : xS} (h : fG a b) (k : fG b c) : fG a c := ⟨k.1.trans h.1, fun q hq => (k.2 q hq).trans (h.2 q hq)⟩
theorem fG.rf {a : xS} : fG a a := ⟨rfl, fun _ _ => rfl⟩
/-- what raising does: a view may be told in two ways -/
def rai (r : Nat → Nat) (t0 sn sl w : Nat) : Nat → Nat := fun t => if t = t0 + sn then mx2 (r t) (w * (10 - sl)) else if t = t0 + (sn + 1) % 10 then mx2 (r t) (w * sl) else r t
theorem rai_e {r : Nat → Nat} {t0 sn sl w u : Nat} (hs : sn ≤ 9) (hu : u < 10) : rai r t0 sn sl w (t0 + u) = mx2 (r (t0 + u)) (w * oft sn sl u) := by
  unfold rai oft
  by_cases h1 : u = sn
  · rw [if_pos (by omega), if_pos h1]
  · rw [if_neg (by omega), if_neg h1]
    by_cases h2 : u = (sn + 1) % 10
    · rw [if_pos (by omega), if_pos h2]
    · rw [if_neg (by omega), if_neg h2, Nat.mul_zero, mx2_0]
theorem rai_o {r : Nat → Nat} {t0 sn sl w t : Nat} (hs : sn ≤ 9) (h : t < t0 ∨ t0 + 10 ≤ t) : rai r t0 sn sl w t = r t := by
  unfold rai
  rw [if_neg (by omega), if_neg (by omega)]
section SURE
variable {X : xXT} {P : xPT} {d S : Nat} {s : xS} {Q : xQ} {g : Nat → Nat}
theorem m_maxN (I : xRl X P) (hS : S ≤ 128) {x y : Int64} {a b : Nat} (hx : x = lN a) (hy : y = lN b) (ha : a < 2 ^ 62) (hb : b < 2 ^ 62) (h : Q (some (.long (lN (mx2 a b)))) s) : P (d + 1) (L0 S) 219 [.long x, .long y] s Q := by
  subst hx
  subst hy
  refine inJ9_max_f86c9 I (L0ok hS) ?_
  refine rn I [] 99 ?_
  unfold mx2 at h
  by_cases hc : a < b
  · rw [if_pos hc] at h
    exact xbr_t ((lcl ha hb).mpr hc) h
  · rw [if_neg hc] at h
    exact xbr_f (fun z => hc ((lcl ha hb).mp z)) h
theorem m_raise (I : xRl X P) (hS : S ≤ 128) {n t0 sn sl w : Nat} {r : Nat → Nat} (hG : GR s n r) (hn : n ≤ 100) (ht : t0 + 10 ≤ n) (hs : sn ≤ 9) (hl : sl ≤ 9) (hw : w ≤ 99000000000000) (hr : ∀ t, r t < 2 ^ 62) {x1 x2 : Int32} {x3 : Int64} (e1 : x1 = nI t0) (e2 : x2 = nI (10 * sn + sl)) (e3 : x3 = lN w) (h : ∀ s' : xS, GR s' n (rai r t0 sn sl w) → fG s s' → Q none s') : P (d + 2) (L0 S) 72 [.ref 59, .int x1, .int x2, .long x3] s Q := by
  subst e1
  subst e2
  subst e3
  have nz : ¬ nI 10 = nI 0 := by decide +kernel
  have dv : nI (10 * sn + sl) / nI 10 = nI sn := by rw [pk_div (by omega) (by decide) (by decide)]; congr 1; omega
  have rm : nI (10 * sn + sl) - nI (10 * sn + sl) / nI 10 * nI 10 = nI sl := by rw [pk_rem (by omega) (by decide) (by decide)]; congr 1; omega
  have m10 : (sn + 1) % 10 < 10 := Nat.mod_lt _ (by decide)
  have w1 : w * (10 - sl) ≤ 99000000000000 * 10 := Nat.mul_le_mul hw (by omega)
  have w2 : w * sl ≤ 99000000000000 * 10 := Nat.mul_le_mul hw (by omega)
  refine inX6_raise I (L0ok hS) ?_
  refine rn I [] 99 ?_
  refine And.intro nz ?_
  refine And.intro nz ?_
  rw [dv]
  refine m_oneMore I hS (by omega) ?_
  refine And.intro nz ?_
  have i1 : nI t0 + nI sn = nI (t0 + sn) := nad _ _
  have i2 : nI t0 + nI ((sn + 1) % 10) = nI (t0 + (sn + 1) % 10) := nad _ _
  have v1 : lN w * (nI 10 - (nI (10 * sn + sl) - nI (10 * sn + sl) / nI 10 * nI 10)).toInt64 = lN (w * (10 - sl)) := by rw [rm, nsb (by omega), nil (by omega), lml]
  have v2 : lN w * (nI (10 * sn + sl) - nI (10 * sn + sl) / nI 10 * nI 10).toInt64 = lN (w * sl) := by rw [rm, nil (by omega), lml]
  refine ⟨t0 + sn, ⟨by omega, i1⟩, ?_⟩
  refine m_maxN I hS (hG (t0 + sn) (by omega)) v1 (hr _) (by omega) ?_
  refine ⟨t0 + sn, ⟨by omega, i1⟩, ?_⟩
  refine ⟨t0 + (sn + 1) % 10, ⟨by omega, i2⟩, ?_⟩
  have g2 : (xWl s 60 (t0 + sn) (lN (mx2 (r (t0 + sn)) (w * (10 - sl))))).2 60 (t0 + (sn + 1) % 10) = lN (r (t0 + (sn + 1) % 10)) := by rw [xWl_s, pk_uLn (by omega)]; exact hG _ (by omega)
  refine m_maxN I hS g2 v2 (hr _) (by omega) ?_
  refine ⟨t0 + (sn + 1) % 10, ⟨by omega, i2⟩, ?_⟩
  refine h _ (fun t ht => ?_) ⟨rfl, fun q hq => by rw [xWl_n hq, xWl_n hq]⟩
  rw [xWl_s]
  unfold rai
  by_cases h1 : t = t0 + sn
  · rw [if_pos h1, pk_uLn (by omega), xWl_s, h1, pk_uLs]
  · rw [if_neg h1]
    by_cases h2 : t = t0 + (sn + 1) % 10
    · rw [if_pos h2, h2, pk_uLs]
    · rw [if_neg h2, pk_uLn h2, xWl_s, pk_uLn h1]
      exact hG t ht
theorem m_clear (I : xRl X P) (hS : S ≤ 128) {n : Nat} (hn : n ≤ 100) (h : ∀ s' : xS, GR s' n (fun _ => 0) → fG s s' → Q none s') : P (d + 1) (L0 S) 73 [.ref 59, .int (nI n)] s Q := by
  have loop : ∀ m i, i + m = n → ∀ s' : xS, GR s' i (fun _ => 0) → fG s s' → X d mX6_clearGreatest Q (L0 S) 2 [some (.ref 59), some (.int (nI n)), some (.int (nI i))] [] s' := by
    intro m
    induction m with
    | zero =>
      intro i hi s' G' f'
      have hi : i = n := hi
      subst hi
      refine rn I [] 99 ?_
      refine xbr_f (znl (Nat.le_refl _) (by omega)) ?_
      exact h s' G' f'
    | succ m ih =>
      intro i hi s' G' f'
      refine rn I [2] 99 ?_
      refine xbr_t (zlt (by omega) (by omega)) ?_
      refine ⟨i, ⟨by omega, rfl⟩, ?_⟩
      have q := ih (i + 1) (by omega) (xWl s' 60 i (lN 0)) (fun t ht => by
        rw [xWl_s]
        by_cases e : t = i
        · subst e
          rw [pk_uLs]
        · rw [pk_uLn e]
          exact G' t (by omega)) (f'.tr ⟨rfl, fun q hq => xWl_n hq⟩)
      rw [n1s i] at q
      exact q
  refine inX6_clearGreatest I (L0ok hS) ?_
  refine rn I [2] 99 ?_
  exact loop n 0 (by omega) s (fun t ht => absurd ht (Nat.not_lt_zero _)) fG.rf
theorem m_sumG (I : xRl X P) (hS : S ≤ 128) {n : Nat} {r : Nat → Nat} (hn : n ≤ 100) (hG : GR s n r) (h : Q (some (.long (lN (sm r n)))) s) : P (d + 1) (L0 S) 74 [.ref 59, .int (nI n)] s Q := by
  have loop : ∀ m i, i + m = n → X d mX6_sumGreatest Q (L0 S) 5 [some (.ref 59), some (.int (nI n)), some (.long (lN (sm r i))), none, some (.int (nI i))] [] s := by
    intro m
    induction m with
    | zero =>
      intro i hi
      have hi : i = n := hi
      subst hi
      refine rn I [] 99 ?_
      refine xbr_f (znl (Nat.le_refl _) (by omega)) ?_
      exact h
    | succ m ih =>
      intro i hi
      refine rn I [5] 99 ?_
      refine xbr_t (zlt (by omega) (by omega)) ?_
      refine ⟨i, ⟨by omega, rfl⟩, ?_⟩
      have q := ih (i + 1) (by omega)
      rw [n1s i, show sm r (i + 1) = sm r i + r i from rfl, ← lad, ← hG i (by omega)] at q
      exact q
  refine inX6_sumGreatest I (L0ok hS) ?_
  refine rn I [5] 99 ?_
  exact loop n 0 (by omega)
/-- what a hold's row of views holds, where there is weight -/
def VV (s : xS) (n j : Nat) (g sn sl : Nat → Nat) : Prop := ∀ st, st < n → g st ≠ 0 → s.1 (63 + j) st = nI (10 * sn st + sl st)
def sr1 (g sn sl : Nat → Nat) (n : Nat) : Nat := sm (fun t => mxs (fun st => g st * oft (sn st) (sl st) t) n) 10
def sr2 (g sn sl sn' sl' : Nat → Nat) (n : Nat) : Nat := sm (fun t => mxs (fun st => g st * oft (sn st) (sl st) (t / 10) * oft (sn' st) (sl' st) (t % 10)) n) 100
theorem m_view (I : xRl X P) (hS : S ≤ 128) {j st : Nat} (hj : j < 16) (hst : st < S) (k : X (d + 3) mX6_sureByOne Q (L0 S) 37 [some (.ref 59), some (.int (nI j)), some (.int (nI st))] [.int (s.1 (63 + j) st), .int (nI 0), .ref 59] s) : X (d + 3) mX6_sureByOne Q (L0 S) 27 [some (.ref 59), some (.int (nI j)), some (.int (nI st))] [] s := by
  rcases h16 hj with rfl | rfl | rfl | rfl | rfl | rfl | rfl | rfl | rfl | rfl | rfl | rfl | rfl | rfl | rfl | rfl
  all_goals
    refine rn I [37] 99 ?_
    refine ⟨_, ⟨hj, rfl⟩, ?_⟩
    exact ⟨st, ⟨hst, rfl⟩, k⟩
theorem m_sureByOne (I : xRl X P) (hS : S ≤ 128) {n : Nat} (hSS : S = n) (e59 : s.1 59 2 = nI S) {sn sl : Nat → Nat} {j : Nat} (hj : j < 16) (hW : WC s n g) (hg : ∀ i, g i ≤ 990000000000) (hV : VV s n j g sn sl) (hs : ∀ i, sn i ≤ 9) (hl : ∀ i, sl i ≤ 9) (h : ∀ s' : xS, fG s s' → Q (some (.long (lN (sr1 g sn sl n)))) s') : P (d + 4) (L0 S) 70 [.ref 59, .int (nI j)] s Q := by
  subst hSS
  have hb : ∀ t i, g i * oft (sn i) (sl i) t ≤ 990000000000 * 10 := fun t i => Nat.mul_le_mul (hg i) (oft_le (hl i))
  have loop : ∀ m i, i + m = S → ∀ s' : xS, GR s' 10 (fun t => mxs (fun st => g st * oft (sn st) (sl st) t) i) → fG s s' → X (d + 3) mX6_sureByOne Q (L0 S) 8 [some (.ref 59), some (.int (nI j)), some (.int (nI i))] [] s' := by
    intro m
    induction m with
    | zero =>
      intro i hi s' G' f'
      have hi : i = S := hi
      subst hi
      have es : s'.1 59 2 = nI i := by rw [f'.1]; exact e59
      refine rn I [] 99 ?_
      refine xbr_f (by rw [es]; exact znl (Nat.le_refl _) (by omega)) ?_
      exact m_sumG I hS (by decide) G' (h s' f')
    | succ m ih =>
      intro i hi s' G' f'
      have es : s'.1 59 2 = nI S := by rw [f'.1]; exact e59
      have ew : s'.2 61 i = lN (g i) := by rw [f'.2 61 (by decide)]; exact hW i (by omega)
      have g62 : g i < 2 ^ 62 := Nat.lt_of_le_of_lt (hg i) (by decide)
      refine rn I [8, 27] 99 ?_
      refine xbr_t (by rw [es]; exact zlt (by omega) (by omega)) ?_
      refine ⟨i, ⟨by omega, rfl⟩, ?_⟩
      by_cases hz : g i = 0
      · refine xbr_t (by rw [ew]; exact (lze g62).mpr hz) ?_
        have q := ih (i + 1) (by omega) s' (fun t ht => by
          rw [G' t ht]
          show _ = lN (mx2 _ (g i * _))
          rw [hz, Nat.zero_mul, mx2_0]) f'
        rw [n1s i] at q
        exact q
      · refine xbr_f (by rw [ew]; exact fun q => hz ((lze g62).mp q)) ?_
        refine m_view I hS hj (by omega) ?_
        refine rn I [8] 99 ?_
        refine ⟨i, ⟨by omega, rfl⟩, ?_⟩
        have ev : s'.1 (63 + j) i = nI (10 * sn i + sl i) := by rw [f'.1]; exact hV i (by omega) hz
        refine m_raise I hS (t0 := 0) (sn := sn i) (sl := sl i) (w := g i) G' (by decide) (by decide) (hs i) (hl i) (Nat.le_trans (hg i) (by decide)) (fun t => Nat.lt_of_le_of_lt (mxs_le (hb t) i) (by decide)) rfl ev ew (fun s1 G1 f1 => ?_)
        have q := ih (i + 1) (by omega) s1 (fun t ht => by
          rw [G1 t ht]
          have := rai_e (r := fun t => mxs (fun st => g st * oft (sn st) (sl st) t) i) (t0 := 0) (sn := sn i) (sl := sl i) (w := g i) (u := t) (hs i) ht
          rw [Nat.zero_add] at this
          rw [this]
          rfl) (f'.tr f1)
        rw [n1s i] at q
        exact q
  refine inX6_sureByOne I (L0ok hS) ?_
  refine rn I [8] 99 ?_
  refine m_clear I hS (by decide) (fun s1 G1 f1 => ?_)
  exact loop S 0 (by omega) s1 G1 f1
end SURE
