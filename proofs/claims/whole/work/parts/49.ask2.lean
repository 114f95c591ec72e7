/-! ask for two: the fold over pairs of holds; the class's bestOfTwo -/
def st2 (f : Nm) (g : Nat → Nat → Nat) (o : Option (Nat × Nat)) (a b : Nat) : Option (Nat × Nat) := if (a / 2 < f 0 12 ∧ f 4 (a / 2) = 0) ∧ (b / 2 < f 0 12 ∧ f 4 (b / 2) = 0) then (match o with
  | none => some (a, b)
  | some q => if g q.1 q.2 < g a b then some (a, b) else some q) else o
def ib (f : Nm) (g : Nat → Nat → Nat) (o : Option (Nat × Nat)) (a : Nat) : Nat → Option (Nat × Nat)
  | 0 => o
  | m + 1 => st2 f g (ib f g o a m) a (a / 2 * 2 + 2 + m)
def ob (f : Nm) (g : Nat → Nat → Nat) (N : Nat) : Nat → Option (Nat × Nat)
  | 0 => none
  | a + 1 => ib f g (ob f g N a) a (N - (a / 2 * 2 + 2))
theorem st2_n {f : Nm} {g : Nat → Nat → Nat} {o : Option (Nat × Nat)} {a b : Nat} (h : ¬ (okH f a ∧ okH f b)) : st2 f g o a b = o := if_neg h
theorem st2_up {f : Nm} {g : Nat → Nat → Nat} {o : Option (Nat × Nat)} {a b : Nat} (h : okH f a ∧ okH f b) (hc : ∀ q, o = some q → g q.1 q.2 < g a b) : st2 f g o a b = some (a, b) := by
  unfold st2
  rw [if_pos (show (a / 2 < f 0 12 ∧ f 4 (a / 2) = 0) ∧ (b / 2 < f 0 12 ∧ f 4 (b / 2) = 0) from h)]
  cases o with
  | none => rfl
  | some q => show (if g q.1 q.2 < g a b then some (a, b) else some q) = _; rw [if_pos (hc q rfl)]
theorem st2_no {f : Nm} {g : Nat → Nat → Nat} {q : Nat × Nat} {a b : Nat} (hc : ¬ g q.1 q.2 < g a b) : st2 f g (some q) a b = some q := by
  unfold st2
  split
  · show (if g q.1 q.2 < g a b then some (a, b) else some q) = _; rw [if_neg hc]
  · rfl
theorem ib_ext {f : Nm} {g : Nat → Nat → Nat} {o : Option (Nat × Nat)} {a K : Nat} (h : 2 * f 0 12 ≤ a / 2 * 2 + 2 + K) : ∀ m, ib f g o a (K + m) = ib f g o a K
  | 0 => rfl
  | m + 1 => by
    rw [← ib_ext h m]
    exact st2_n (fun z => by have : (a / 2 * 2 + 2 + (K + m)) / 2 < f 0 12 := z.2.1; omega)
theorem ib_na {f : Nm} {g : Nat → Nat → Nat} {o : Option (Nat × Nat)} {a : Nat} (h : ¬ okH f a) : ∀ m, ib f g o a m = o
  | 0 => rfl
  | m + 1 => by
    show st2 f g (ib f g o a m) a _ = o
    rw [st2_n (fun z => h z.1), ib_na h m]
theorem ob_eq {f : Nm} {g : Nat → Nat → Nat} (hn : f 0 12 ≤ 8) : ∀ a, ob f g 16 a = ob f g (2 * f 0 12) a
  | 0 => rfl
  | a + 1 => by
    show ib f g (ob f g 16 a) a (16 - (a / 2 * 2 + 2)) = ib f g (ob f g (2 * f 0 12) a) a (2 * f 0 12 - (a / 2 * 2 + 2))
    rw [ob_eq hn a, ← ib_ext (f := f) (g := g) (o := ob f g (2 * f 0 12) a) (a := a) (K := 2 * f 0 12 - (a / 2 * 2 + 2)) (by omega) (16 - (a / 2 * 2 + 2) - (2 * f 0 12 - (a / 2 * 2 + 2)))]
    congr 1
    omega
theorem ob_ext {f : Nm} {g : Nat → Nat → Nat} {N : Nat} : ∀ m, ob f g N (2 * f 0 12 + m) = ob f g N (2 * f 0 12)
  | 0 => rfl
  | m + 1 => by
    rw [← ob_ext m]
    exact ib_na (a := 2 * f 0 12 + m) (fun z => by have : (2 * f 0 12 + m) / 2 < f 0 12 := z.1; omega) _
theorem st2_b {f : Nm} {g : Nat → Nat → Nat} {o : Option (Nat × Nat)} {a b : Nat} (hB : FB f) (h : ∀ q, o = some q → q.1 < 16 ∧ q.2 < 16) : ∀ q, st2 f g o a b = some q → q.1 < 16 ∧ q.2 < 16 := by
  intro q hq
  by_cases hk : okH f a ∧ okH f b
  · by_cases hc : ∀ q, o = some q → g q.1 q.2 < g a b
    · rw [st2_up hk hc] at hq
      cases hq
      exact ⟨okH16 hB hk.1, okH16 hB hk.2⟩
    · cases o with
      | none => exact absurd (fun q z => (by cases z)) hc
      | some p =>
        rw [st2_no (fun z => hc (fun q hq => by cases hq; exact z))] at hq
        exact h q hq
  · rw [st2_n hk] at hq
    exact h q hq
theorem ib_b {f : Nm} {g : Nat → Nat → Nat} {o : Option (Nat × Nat)} {a : Nat} (hB : FB f) (h : ∀ q, o = some q → q.1 < 16 ∧ q.2 < 16) : ∀ m, ∀ q, ib f g o a m = some q → q.1 < 16 ∧ q.2 < 16
  | 0 => h
  | m + 1 => st2_b hB (ib_b hB h m)
theorem ob_b {f : Nm} {g : Nat → Nat → Nat} {N : Nat} (hB : FB f) : ∀ a, ∀ q, ob f g N a = some q → q.1 < 16 ∧ q.2 < 16
  | 0 => fun q hq => (by cases hq)
  | a + 1 => ib_b hB (ob_b hB a) _
def q1 (o : Option (Nat × Nat)) : Int32 := match o with
  | none => -(nI 1)
  | some q => nI q.1
def q2 (o : Option (Nat × Nat)) : Int32 := match o with
  | none => -(nI 1)
  | some q => nI q.2
def qc (o : Option (Nat × Nat)) : Int32 := match o with
  | none => -(nI 1)
  | some q => nI (100 * q.1 + q.2)
def q64 (g : Nat → Nat → Nat) (o : Option (Nat × Nat)) : Int64 := match o with
  | none => -(lN 1)
  | some q => lN (g q.1 q.2)
theorem cmpQ {g : Nat → Nat → Nat} {o : Option (Nat × Nat)} {v : Nat} (hv : v < 2 ^ 62) (hg : ∀ i j, g i j < 2 ^ 62) : nI 0 < lg_cmp (lN v) (q64 g o) ↔ ∀ b, o = some b → g b.1 b.2 < v := by
  cases o with
  | none =>
    refine ⟨fun _ b z => (by cases z), fun _ => lc_gt.mpr ?_⟩
    show -(lN 1) < lN v
    rw [jlng, jln]
    exact (jl_lt (by unfold Lg; omega) (lI hv)).mpr (by omega)
  | some b => exact (lcg hv (hg b.1 b.2)).trans ⟨fun z c hc => by cases hc; exact z, fun z => z b rfl⟩
section ASK2
variable {X : xXT} {P : xPT} {d S : Nat} {s : xS} {Q : xQ} {f : Nm} {ru : Int32} {e : Nat → Nat} {dn : Nat → Nat → Option Dn} {dr : Nat → Option Dn}
theorem su2_b {h j j2 : Nat} (hB : FB f) : su2 f dr h j j2 < 2 ^ 62 := sr2_b (wkb (by have := hB.1.2.1; omega)) slv_le slv_le
theorem m_bestOfTwo (I : xRl X P) (hS : S ≤ 128) (hF : FC s.1 1 f ru) (hB : FB f) (hSS : S = 8 * cc f) (e59 : s.1 59 2 = nI S) (hW : WC s (8 * cc f) (wk f dr (f 0 13))) {h : Nat} (hV : ∀ j, okH f j → VV s (8 * cc f) j (wk f dr (f 0 13)) (snv f dr (f 2 (j / 2)) h j) (slv f dr (f 2 (j / 2)) h j)) {w : Nat} (hw : w < 2) (k : ∀ s' : xS, fG s s' → Q (some (.int (if w = 0 then q1 (ob f (su2 f dr h) (2 * f 0 12) (2 * f 0 12)) else q2 (ob f (su2 f dr h) (2 * f 0 12) (2 * f 0 12))))) s') : P (d + 5) (L0 S) 76 [.ref 59, .int (nI w)] s Q := by
  have hn8 := hB.1.1
  have hn13 := hB.1.2.1
  have g62 : ∀ i j, su2 f dr h i j < 2 ^ 62 := fun i j => su2_b hB
  have inner : ∀ a, a < 16 → ∀ o, (∀ (s' : xS) (o8 : Option Value), fG s s' → X (d + 4) mX6_bestOfTwo Q (L0 S) 98 [some (.ref 59), some (.int (nI w)), some (.int (q1 (ib f (su2 f dr h) o a (16 - (a / 2 * 2 + 2))))), some (.int (q2 (ib f (su2 f dr h) o a (16 - (a / 2 * 2 + 2))))), some (.long (q64 (su2 f dr h) (ib f (su2 f dr h) o a (16 - (a / 2 * 2 + 2))))), none, some (.int (nI a)), some (.int (nI 16)), o8, none] [] s') →
      ∀ m i, a / 2 * 2 + 2 + i + m = 16 → ∀ (s' : xS) (o8 : Option Value), fG s s' → X (d + 4) mX6_bestOfTwo Q (L0 S) 29 [some (.ref 59), some (.int (nI w)), some (.int (q1 (ib f (su2 f dr h) o a i))), some (.int (q2 (ib f (su2 f dr h) o a i))), some (.long (q64 (su2 f dr h) (ib f (su2 f dr h) o a i))), none, some (.int (nI a)), some (.int (nI (a / 2 * 2 + 2 + i))), o8, none] [] s' := by
    intro a ha o K m
    induction m with
    | zero =>
      intro i hi s' o8 f'
      refine rn I [98] 99 ?_
      refine xbr_f (znl (by omega) (by omega)) ?_
      have q := K s' o8 f'
      rw [show 16 - (a / 2 * 2 + 2) = i by omega, show nI 16 = nI (a / 2 * 2 + 2 + i) by rw [show a / 2 * 2 + 2 + i = 16 by omega]] at q
      exact q
    | succ m ih =>
      intro i hi s' o8 f'
      have F' : FC s'.1 1 f ru := by rw [f'.1]; exact hF
      have nx : ib f (su2 f dr h) o a (i + 1) = st2 f (su2 f dr h) (ib f (su2 f dr h) o a i) a (a / 2 * 2 + 2 + i) := rfl
      have skip : ¬ (okH f a ∧ okH f (a / 2 * 2 + 2 + i)) → X (d + 4) mX6_bestOfTwo Q (L0 S) 92 [some (.ref 59), some (.int (nI w)), some (.int (q1 (ib f (su2 f dr h) o a i))), some (.int (q2 (ib f (su2 f dr h) o a i))), some (.long (q64 (su2 f dr h) (ib f (su2 f dr h) o a i))), none, some (.int (nI a)), some (.int (nI (a / 2 * 2 + 2 + i))), o8, none] [] s' := by
        intro hn
        refine rn I [29] 99 ?_
        have q := ih (i + 1) (by omega) s' o8 f'
        rw [nx, st2_n hn, ← Nat.add_assoc, n1s (a / 2 * 2 + 2 + i)] at q
        exact q
      refine rn I [29, 92] 99 ?_
      refine xbr_t (zlt (by omega) (by decide)) ?_
      refine And.intro (by decide +kernel) ?_
      rw [dv2 (by omega)]
      refine m_isFree I hS F' hB (fun j hj fj ej => ?_) (fun hc => xbr_t rfl (skip (fun z => hc (a / 2) z.1.1 z.1.2 rfl)))
      have ej := zeq (by omega) (by omega) ej
      have ho : okH f a := ⟨by omega, by rw [ej]; exact fj⟩
      refine xbr_f n10 ?_
      refine And.intro (by decide +kernel) ?_
      rw [dv2 (by omega)]
      refine m_isFree I hS F' hB (fun j2 hj2 fj2 ej2 => ?_) (fun hc => xbr_t rfl (skip (fun z => hc _ z.2.1 z.2.2 rfl)))
      have ej2 := zeq (by omega) (by omega) ej2
      have ho2 : okH f (a / 2 * 2 + 2 + i) := ⟨by omega, by rw [ej2]; exact fj2⟩
      refine xbr_f n10 ?_
      refine m_sureByTwo I hS hSS (by rw [f'.1]; exact e59) (by omega) (by omega) (fun j hj => by rw [f'.2 61 (by decide)]; exact hW j hj) (wkb (by omega)) (fun st x y => by rw [f'.1]; exact hV a ho st x y) (fun st x y => by rw [f'.1]; exact hV _ ho2 st x y) snv_le slv_le snv_le slv_le (fun s1 f1 => ?_)
      have q := ih (i + 1) (by omega) s1 (some (.long (lN (su2 f dr h a (a / 2 * 2 + 2 + i))))) (f'.tr f1)
      rw [← Nat.add_assoc, n1s (a / 2 * 2 + 2 + i)] at q
      have cmp := cmpQ (g := su2 f dr h) (o := ib f (su2 f dr h) o a i) (g62 a (a / 2 * 2 + 2 + i)) g62
      by_cases hc : ∀ b, ib f (su2 f dr h) o a i = some b → su2 f dr h b.1 b.2 < su2 f dr h a (a / 2 * 2 + 2 + i)
      · rw [nx, st2_up ⟨ho, ho2⟩ hc] at q
        refine xbr_t (cmp.mpr hc) ?_
        refine rn I [29] 99 ?_
        exact q
      · refine xbr_f (fun z => hc (cmp.mp z)) ?_
        cases eo : ib f (su2 f dr h) o a i with
        | none => exact absurd (fun b z => (by rw [eo] at z; cases z)) hc
        | some b =>
          rw [nx, eo, st2_no (fun z => hc (fun b' hb' => (by rw [eo] at hb'; cases hb'; exact z)))] at q
          refine rn I [29] 99 ?_
          exact q
  have outer : ∀ m a, a + m = 16 → ∀ (s' : xS) (o7 o8 : Option Value), fG s s' → X (d + 4) mX6_bestOfTwo Q (L0 S) 12 [some (.ref 59), some (.int (nI w)), some (.int (q1 (ob f (su2 f dr h) 16 a))), some (.int (q2 (ob f (su2 f dr h) 16 a))), some (.long (q64 (su2 f dr h) (ob f (su2 f dr h) 16 a))), none, some (.int (nI a)), o7, o8, none] [] s' := by
    intro m
    induction m with
    | zero =>
      intro a ha s' o7 o8 f'
      have ha : a = 16 := ha
      subst ha
      have q := k s' f'
      rw [← ob_eq hn8, ← ob_ext (16 - 2 * f 0 12), show 2 * f 0 12 + (16 - 2 * f 0 12) = 16 by omega] at q
      refine rn I [] 99 ?_
      refine xbr_f (znl (Nat.le_refl _) (by decide)) ?_
      rcases (show w = 0 ∨ w = 1 by omega) with rfl | rfl
      · rw [if_pos rfl] at q
        exact xbr_t rfl q
      · rw [if_neg (by decide)] at q
        exact xbr_f n10 q
    | succ m ih =>
      intro a ha s' o7 o8 f'
      have ed : nI a / nI 2 * nI 2 + nI 2 = nI (a / 2 * 2 + 2 + 0) := by rw [dv2 (by omega), nml, nad]
      refine rn I [29] 99 ?_
      refine xbr_t (zlt (by omega) (by decide)) ?_
      refine And.intro (by decide +kernel) ?_
      have q := inner a (by omega) (ob f (su2 f dr h) 16 a) (fun s1 o8 f1 => by
        refine rn I [12] 99 ?_
        have q := ih (a + 1) (by omega) s1 (some (.int (nI 16))) o8 f1
        rw [n1s a] at q
        exact q) (16 - (a / 2 * 2 + 2)) 0 (by omega) s' o8 f'
      rw [← ed] at q
      exact q
  refine inX6_bestOfTwo I (L0ok hS) ?_
  refine rn I [12] 99 ?_
  exact outer 16 0 (by omega) s none none fG.rf
end ASK2
