/-! all weights; sums of them -/
def sm (g : Nat → Nat) : Nat → Nat
  | 0 => 0
  | n + 1 => sm g n + g n
theorem sm_le {g : Nat → Nat} {b : Nat} (h : ∀ i, g i ≤ b) : ∀ n, sm g n ≤ n * b
  | 0 => Nat.zero_le _
  | n + 1 => by
    show sm g n + g n ≤ (n + 1) * b
    rw [Nat.succ_mul]
    exact Nat.add_le_add (sm_le h n) (h n)
theorem sm_cg {g g' : Nat → Nat} : ∀ {n : Nat}, (∀ i, i < n → g i = g' i) → sm g n = sm g' n
  | 0, _ => rfl
  | n + 1, h => by
    show sm g n + g n = sm g' n + g' n
    rw [sm_cg (fun i hi => h i (by omega)), h n (by omega)]
def wk (f : Nm) (dr : Nat → Option Dn) (k : Nat) : Nat → Nat := fun st => wt f dr st k
theorem wk_b {f : Nm} {dr : Nat → Option Dn} {k : Nat} (hk : k ≤ 10) (i : Nat) : wk f dr k i ≤ 990000000000 := wt_b hk
def WC (s : xS) (n : Nat) (g : Nat → Nat) : Prop := ∀ i, i < n → s.2 61 i = lN (g i)
def WM2 (s : xS) (n : Nat) (g : Nat → Nat) : Prop := ∀ i, i < n → s.2 88 i = lN (g i)
def fS (s s' : xS) : Prop := (∀ q, q ≠ 56 → q ≠ 57 → q ≠ 58 → s'.1 q = s.1 q) ∧ (∀ q, q ≠ 61 → s'.2 q = s.2 q)
theorem fS.tr {a b c : xS} (h : fS a b) (k : fS b c) : fS a c := ⟨fun q h1 h2 h3 => (k.1 q h1 h2 h3).trans (h.1 q h1 h2 h3), fun q h1 => (k.2 q h1).trans (h.2 q h1)⟩
theorem fS.rf {a : xS} : fS a a := ⟨fun _ _ _ _ => rfl, fun _ _ => rfl⟩
theorem fO.s {a b : xS} (h : fO a b) : fS a b := ⟨h.1, fun q _ => by rw [h.2]⟩
theorem fS.FC {a b : xS} {f : Nm} {ru : Int32} {k : Nat} (h : fS a b) (hk : k + 10 < 56) (hF : FC a.1 k f ru) : FC b.1 k f ru := hF.same (fun q h1 h2 => h.1 q (by omega) (by omega) (by omega))
theorem fS.o {a b : xS} (h : fS a b) : fO a (b.1, a.2) := ⟨h.1, rfl⟩
theorem TXC.r {a b : xS} {n : Nat} {dn : Nat → Nat → Option Dn} (h : a.1 = b.1) (hT : TXC a n dn) : TXC b n dn := by
  unfold TXC PG XC at hT ⊢
  rw [← h]
  exact hT
theorem fS.TXC {a b : xS} {n : Nat} {dn : Nat → Nat → Option Dn} (h : fS a b) (hn : n ≤ 4) (hT : TXC a n dn) : TXC b n dn := TXC.r (a := (b.1, a.2)) rfl (h.o.TXC hn hT)
def fX (s s' : xS) : Prop := (∀ q, q ≠ 85 → q ≠ 87 → s'.1 q = s.1 q) ∧ (∀ q, q ≠ 86 → q ≠ 88 → q ≠ 79 → s'.2 q = s.2 q) ∧ (∀ i, i ≠ 28 → s'.2 79 i = s.2 79 i)
theorem fX.tr {a b c : xS} (h : fX a b) (k : fX b c) : fX a c := ⟨fun q h1 h2 => (k.1 q h1 h2).trans (h.1 q h1 h2), fun q h1 h2 h3 => (k.2.1 q h1 h2 h3).trans (h.2.1 q h1 h2 h3), fun i hi => (k.2.2 i hi).trans (h.2.2 i hi)⟩
theorem fX.rf {a : xS} : fX a a := ⟨fun _ _ _ => rfl, fun _ _ _ _ => rfl, fun _ _ => rfl⟩
theorem fW.x {a b : xS} (h : fW a b) : fX a b := ⟨h.1, fun q h1 _ _ => h.2 q h1, fun i _ => by rw [h.2 79 (by decide)]⟩
theorem fX.FA {a b : xS} {f : Nm} {ru : Int32} (h : fX a b) (hA : FA (a.1 80) f ru) : FA (b.1 80) f ru := by rw [h.1 80 (by decide) (by decide)]; exact hA
theorem fX.MW {a b : xS} {f : Nm} (h : fX a b) (hA : MW a f) : MW b f := ⟨by rw [h.1 79 (by decide) (by decide)]; exact hA.1, by rw [h.1 79 (by decide) (by decide)]; exact hA.2⟩
theorem fX.TX {a b : xS} {n : Nat} {dn : Nat → Nat → Option Dn} (h : fX a b) (hX : TXM a n dn) : TXM b n dn := hX.same (h.1 82 (by decide) (by decide))
section ALLW
variable {X : xXT} {P : xPT} {d S : Nat} {s : xS} {Q : xQ} {f : Nm} {ru : Int32} {e : Nat → Nat} {dn : Nat → Nat → Option Dn} {dr : Nat → Option Dn}
theorem m_weigh (I : xRl X P) (hS : S ≤ 128) (hF : FC s.1 1 f ru) (hB : FB f) (hX : TXC s (f 0 15) dn) (hr : rdn ru (f 0 15) dn dr) (hT : TR dr) (hN : NC s e) (he : EB e) (hSS : S = 8 * cc f) (e59 : s.1 59 2 = nI S) {k : Nat} (hk : k ≤ 10) (h : ∀ s' : xS, (∃ e', NC s' e' ∧ EB e') → fS s s' → WC s' (8 * cc f) (wk f dr k) → Q (some (.long (lN (sm (wk f dr k) (8 * cc f))))) s') : P (d + 9) (L0 S) 63 [.ref 59, .int (nI k)] s Q := by
  have hcc := hB.cc16
  have loop : ∀ m i, i + m = 8 * cc f → ∀ s' : xS, (∃ e', NC s' e' ∧ EB e') → fS s s' → WC s' i (wk f dr k) → X (d + 8) mX6_weigh Q (L0 S) 5 [some (.ref 59), some (.int (nI k)), some (.long (lN (sm (wk f dr k) i))), none, some (.int (nI i))] [] s' := by
    intro m
    induction m with
    | zero =>
      intro i hi s' N' f' w'
      have hi : i = 8 * cc f := hi
      subst hi
      have e' : s'.1 59 2 = nI (8 * cc f) := by rw [f'.1 59 (by decide) (by decide) (by decide), e59, hSS]
      refine rn I [] 99 ?_
      refine xbr_f (by rw [e']; exact znl (Nat.le_refl _) (by omega)) ?_
      exact h s' N' f' w'
    | succ m ih =>
      intro i hi s' ⟨e', N', E'⟩ f' w'
      have es : s'.1 59 2 = nI (8 * cc f) := by rw [f'.1 59 (by decide) (by decide) (by decide), e59, hSS]
      refine rn I [5] 99 ?_
      refine xbr_t (by rw [es]; exact zlt (by omega) (by omega)) ?_
      refine m_weightAsOf I hS (f'.FC (k := 1) (by decide) hF) hB (f'.TXC hB.1.2.2.2 hX) hr hT N' E' (st := i) (by omega) hk (fun s1 ⟨e1, N1, E1⟩ f1 => ?_)
      refine ⟨i, ⟨by omega, rfl⟩, ?_⟩
      refine ⟨i, ⟨by omega, rfl⟩, ?_⟩
      have z := ih (i + 1) (by omega) (xWl s1 61 i (lN (wt f dr i k))) ⟨e1, N1, E1⟩ ((f'.tr f1.s).tr ⟨fun _ _ _ _ => rfl, fun q hq => xWl_n hq⟩) (fun j hj => by
        rw [xWl_s]
        by_cases ej : j = i
        · subst ej
          rw [pk_uLs]
          rfl
        · rw [pk_uLn ej]
          have := w' j (by omega)
          rw [f1.2]
          exact this)
      have v : (xWl s1 61 i (lN (wt f dr i k))).2 61 i = lN (wk f dr k i) := by rw [xWl_s, pk_uLs]; rfl
      rw [n1s i, show sm (wk f dr k) (i + 1) = sm (wk f dr k) i + wk f dr k i from rfl, ← lad, ← v] at z
      exact z
  refine inX6_weigh I (L0ok hS) ?_
  refine rn I [5] 99 ?_
  exact loop (8 * cc f) 0 (by omega) s ⟨e, hN, he⟩ fS.rf (fun i hi => absurd hi (Nat.not_lt_zero _))
theorem q_findWeights (I : xRl X P) (hS : S ≤ 128) (hA : FA (s.1 80) f ru) (hW : MW s f) (hB : FB f) (hX : TXM s (f 0 15) dn) (hd : ∀ t, t < f 0 15 → ∀ c, c < 4 → TDs c (dn t c)) (hr : rdn ru (f 0 15) dn dr) (hN : NMd s e) (he : EB e) {k : Nat} (hk : k ≤ 10) (h : ∀ s' : xS, (∃ e', NMd s' e' ∧ EB e') → fX s s' → WM2 s' (8 * cc f) (wk f dr k) → s'.2 79 28 = lN (sm (wk f dr k) (8 * cc f)) → Q none s') : P (d + 9) (L0 S) 195 [.ref 79, .int (nI k)] s Q := by
  have hcc := hB.cc16
  have loop : ∀ m i, i + m = 8 * cc f → ∀ s' : xS, (∃ e', NMd s' e' ∧ EB e') → fX s s' → WM2 s' i (wk f dr k) → s'.2 79 28 = lN (sm (wk f dr k) i) → X (d + 8) mX11_findWeights Q (L0 S) 7 [some (.ref 79), some (.int (nI k)), some (.int (nI i))] [] s' := by
    intro m
    induction m with
    | zero =>
      intro i hi s' N' f' w' a'
      have hi : i = 8 * cc f := hi
      subst hi
      refine rn I [] 99 ?_
      refine q_states I hS (f'.MW hW) ?_
      refine xbr_f (znl (Nat.le_refl _) (by omega)) ?_
      exact h s' N' f' w' a'
    | succ m ih =>
      intro i hi s' ⟨e', N', E'⟩ f' w' a'
      refine rn I [7] 99 ?_
      refine q_states I hS (f'.MW hW) ?_
      refine xbr_t (zlt (by omega) (by omega)) ?_
      refine q_weightOf I hS (f'.FA hA) (f'.MW hW) hB (f'.TX hX) hd hr N' E' (st := i) (by omega) hk (fun s1 ⟨e1, N1, E1⟩ f1 => ?_)
      refine ⟨i, ⟨by omega, rfl⟩, ?_⟩
      refine ⟨i, ⟨by omega, rfl⟩, ?_⟩
      have v : (xWl s1 88 i (lN (wt f dr i k))).2 88 i = lN (wk f dr k i) := by rw [xWl_s, pk_uLs]; rfl
      have a1 : (xWl s1 88 i (lN (wt f dr i k))).2 79 28 = lN (sm (wk f dr k) i) := by rw [xWl_n (by decide), f1.2 79 (by decide)]; exact a'
      have z := ih (i + 1) (by omega) (xWl (xWl s1 88 i (lN (wt f dr i k))) 79 28 (lN (sm (wk f dr k) i) + lN (wk f dr k i))) ⟨e1, N1, E1⟩ ((f'.tr f1.x).tr ⟨fun _ _ _ => rfl, fun q h1 h2 h3 => by rw [xWl_n h3, xWl_n h2], fun j hj => by rw [xWl_s, pk_uLn hj, xWl_n (by decide)]⟩) (fun j hj => by
        rw [xWl_n (by decide), xWl_s]
        by_cases ej : j = i
        · subst ej
          rw [pk_uLs]
          rfl
        · rw [pk_uLn ej]
          have := w' j (by omega)
          rw [f1.2 88 (by decide)]
          exact this) (by rw [xWl_s, pk_uLs, lad]; rfl)
      rw [← v, ← a1, n1s i] at z
      exact z
  refine inX11_findWeights I (L0ok hS) ?_
  refine rn I [7] 99 ?_
  exact loop (8 * cc f) 0 (by omega) (xWl s 79 28 (lN 0)) ⟨e, hN, he⟩ ⟨fun _ _ _ => rfl, fun q h1 h2 h3 => xWl_n h3, fun j hj => by rw [xWl_s, pk_uLn hj]⟩ (fun i hi => absurd hi (Nat.not_lt_zero _)) (by rw [xWl_s, pk_uLs]; rfl)
end ALLW
