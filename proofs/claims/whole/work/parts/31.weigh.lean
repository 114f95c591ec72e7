/-! priors, sights, weights: both sides to one number -/
def z0 : Nat → Nat := fun _ => 0
def pv (f : Nm) (dr : Nat → Option Dn) (st : Nat) : Nat := tlv 0 (dr 0) (fce f st z0)
def sv (f : Nm) (dr : Nat → Option Dn) (st n cell tu hr : Nat) : Nat := tlv 1 (dr 1) (aie f n cell tu hr (fce f st z0))
def lv (f : Nm) (dr : Nat → Option Dn) (st n cell tu hr : Nat) : Nat := tlv 2 (dr 2) (aie f n cell tu hr (fce f st z0))
def cv (f : Nm) (dr : Nat → Option Dn) (st a : Nat) : Nat := tlv 3 (dr 3) (cho a (fce f st z0))
def TR (dr : Nat → Option Dn) : Prop := ∀ c, c < 4 → TDs c (dr c)
theorem rdn_td {ru : Int32} {n : Nat} {dn : Nat → Nat → Option Dn} {dr : Nat → Option Dn} (h : rdn ru n dn dr) (hd : ∀ t, t < n → ∀ c, c < 4 → TDs c (dn t c)) : TR dr := by
  intro c hc
  rcases h with ⟨_, h2⟩ | ⟨t, ht, _, rfl⟩
  · intro D hD
    rw [h2 c] at hD
    cases hD
  · exact hd t ht c hc
theorem hld_le (m : Nat) (z : Int) : hld m z ≤ m := by
  unfold hld
  split
  · omega
  · split <;> omega
theorem tlv_le {c : Nat} {od : Option Dn} {e : Nat → Nat} (h2 : e 2 ≤ 4) : tlv c od e ≤ mst c := by
  cases od with
  | some D => exact hld_le _ _
  | none =>
    show dfl c e ≤ mst c
    match c with
    | 0 => exact (by decide : (1 : Nat) ≤ 99)
    | 1 =>
      show (if e 7 = 1 then 0 else e 2) ≤ 9
      split <;> omega
    | 2 => exact Nat.zero_le _
    | _ + 3 => exact Nat.zero_le _
theorem fce2 {f : Nm} {st : Nat} {e : Nat → Nat} : fce f st e 2 ≤ 4 := by show st % 8 / 2 + 1 ≤ 4; omega
theorem pv_le {f : Nm} {dr : Nat → Option Dn} {st : Nat} : pv f dr st ≤ 99 := tlv_le (c := 0) fce2
theorem sv_le {f : Nm} {dr : Nat → Option Dn} {st n cell tu hr : Nat} : sv f dr st n cell tu hr ≤ 9 := tlv_le (c := 1) (fce2 (f := f) (st := st) (e := z0))
theorem lv_le {f : Nm} {dr : Nat → Option Dn} {st n cell tu hr : Nat} : lv f dr st n cell tu hr ≤ 9 := tlv_le (c := 2) (fce2 (f := f) (st := st) (e := z0))
theorem cv_le {f : Nm} {dr : Nat → Option Dn} {st a : Nat} : cv f dr st a ≤ 999 := tlv_le (c := 3) (fce2 (f := f) (st := st) (e := z0))
theorem pv_e {f : Nm} {dr : Nat → Option Dn} {st : Nat} (hT : TR dr) (e : Nat → Nat) : tlv 0 (dr 0) (fce f st e) = pv f dr st := tlv_cg (fun D hD => (hT 0 (by decide) D hD).2) (fun k hk ha => by
  have : k ≤ 4 := by unfold al at ha; omega
  rcases (show k = 0 ∨ k = 1 ∨ k = 2 ∨ k = 3 ∨ k = 4 by omega) with rfl | rfl | rfl | rfl | rfl <;> rfl)
theorem aie_e {f : Nm} {st n cell tu hr k : Nat} {e : Nat → Nat} (hk : k < 9) : aie f n cell tu hr (fce f st e) k = aie f n cell tu hr (fce f st z0) k := by
  rcases k10 (show k < 10 by omega) with rfl | rfl | rfl | rfl | rfl | rfl | rfl | rfl | rfl | rfl
  all_goals first | rfl | omega
theorem sv_e {f : Nm} {dr : Nat → Option Dn} {st n cell tu hr : Nat} (hT : TR dr) (e : Nat → Nat) : tlv 1 (dr 1) (aie f n cell tu hr (fce f st e)) = sv f dr st n cell tu hr := tlv_cg (fun D hD => (hT 1 (by decide) D hD).2) (fun k hk ha => aie_e (by unfold al at ha; omega))
theorem lv_e {f : Nm} {dr : Nat → Option Dn} {st n cell tu hr : Nat} (hT : TR dr) (e : Nat → Nat) : tlv 2 (dr 2) (aie f n cell tu hr (fce f st e)) = lv f dr st n cell tu hr := tlv_cg (fun D hD => (hT 2 (by decide) D hD).2) (fun k hk ha => aie_e (by unfold al at ha; omega))
theorem cv_e {f : Nm} {dr : Nat → Option Dn} {st a : Nat} (hT : TR dr) (e : Nat → Nat) : tlv 3 (dr 3) (cho a (fce f st e)) = cv f dr st a := tlv_cg (fun D hD => (hT 3 (by decide) D hD).2) (fun k hk ha => by
  have : k ≤ 4 ∨ k = 9 := by unfold al at ha; omega
  rcases (show k = 0 ∨ k = 1 ∨ k = 2 ∨ k = 3 ∨ k = 4 ∨ k = 9 by omega) with rfl | rfl | rfl | rfl | rfl | rfl <;> rfl)
theorem cv_e' {f : Nm} {dr : Nat → Option Dn} {st a : Nat} (hT : TR dr) (e : Nat → Nat) (h9 : e 9 = a) : tlv 3 (dr 3) (fce f st e) = cv f dr st a := tlv_cg (fun D hD => (hT 3 (by decide) D hD).2) (fun k hk ha => by
  have : k ≤ 4 ∨ k = 9 := by unfold al at ha; omega
  rcases (show k = 0 ∨ k = 1 ∨ k = 2 ∨ k = 3 ∨ k = 4 ∨ k = 9 by omega) with rfl | rfl | rfl | rfl | rfl | rfl
  all_goals first | rfl | exact h9)
theorem fce01 {f : Nm} {st : Nat} {e : Nat → Nat} (hB : FB f) (hst : st < 8 * cc f) : fce f st e 0 ≤ 100 ∧ fce f st e 1 ≤ 100 := by
  have hc := hB.cc16
  have h2 : st / 8 % f 0 0 ≤ st / 8 := Nat.mod_le _ _
  have h3 : st / 8 / f 0 0 ≤ st / 8 := Nat.div_le_self _ _
  exact ⟨by show st / 8 % f 0 0 ≤ 100; omega, by show st / 8 / f 0 0 ≤ 100; omega⟩
/-- how many of ten: what is told, what is seen, the slip -/
def oft (seen slip told : Nat) : Nat := if told = seen then 10 - slip else if told = (seen + 1) % 10 then slip else 0
theorem oft_le {a b c : Nat} (h : b ≤ 9) : oft a b c ≤ 10 := by
  unfold oft
  split
  · omega
  · split <;> omega
def shr (f : Nm) (dr : Nat → Option Dn) (st i : Nat) : Nat := oft (sv f dr st (f 5 i) (f 2 (f 5 i)) (f 6 i) (f 7 i)) (lv f dr st (f 5 i) (f 2 (f 5 i)) (f 6 i) (f 7 i)) (f 8 i)
def wt (f : Nm) (dr : Nat → Option Dn) (st : Nat) : Nat → Nat
  | 0 => pv f dr st
  | k + 1 => wt f dr st k * shr f dr st k
theorem wt_le {f : Nm} {dr : Nat → Option Dn} {st : Nat} : ∀ k, wt f dr st k ≤ 99 * 10 ^ k
  | 0 => pv_le
  | k + 1 => by
    show wt f dr st k * shr f dr st k ≤ 99 * 10 ^ (k + 1)
    rw [Nat.pow_succ, ← Nat.mul_assoc]
    exact Nat.mul_le_mul (wt_le k) (oft_le lv_le)
theorem wt_b {f : Nm} {dr : Nat → Option Dn} {st k : Nat} (hk : k ≤ 10) : wt f dr st k ≤ 990000000000 := Nat.le_trans (wt_le k) (by
  have : 10 ^ k ≤ 10 ^ 10 := Nat.pow_le_pow_right (by decide) hk
  omega)
theorem wt_z {f : Nm} {dr : Nat → Option Dn} {st : Nat} {k : Nat} (h : wt f dr st k = 0) : ∀ m, wt f dr st (k + m) = 0
  | 0 => h
  | m + 1 => by
    show wt f dr st (k + m) * _ = 0
    rw [wt_z h m, Nat.zero_mul]
theorem nil {n : Nat} (h : n < 2 ^ 30) : (nI n).toInt64 = lN n := by rw [jn, ji_l (by unfold Sm; omega), ← jln]
theorem lml (a b : Nat) : lN a * lN b = lN (a * b) := by rw [jln, jln, jl_mul, jln, Int.natCast_mul]
theorem lad (a b : Nat) : lN a + lN b = lN (a + b) := by rw [jln, jln, jl_add, jln, Int.natCast_add]
theorem lze {a : Nat} (h : a < 2 ^ 62) : lg_cmp (lN a) (lN 0) = nI 0 ↔ a = 0 := by
  rw [jln, jln]
  refine lc_eq.trans ((jl_eq (by unfold Lg; omega) (by unfold Lg; omega)).trans (by omega))
section WEIGH
variable {X : xXT} {P : xPT} {d S : Nat} {s : xS} {Q : xQ} {f : Nm} {ru : Int32} {e : Nat → Nat} {dn : Nat → Nat → Option Dn} {dr : Nat → Option Dn}
theorem m_oneMore (I : xRl X P) (hS : S ≤ 128) {n : Nat} (hn : n < 1000) (h : Q (some (.int (nI ((n + 1) % 10)))) s) : P (d + 1) (L0 S) 124 [.int (nI n)] s Q := by
  have r : nI n + nI 1 - (nI n + nI 1) / nI 10 * nI 10 = nI ((n + 1) % 10) := by rw [nad]; exact pk_rem (by omega) (by decide) (by decide)
  refine inX10_oneMore I (L0ok hS) ?_
  refine rn I [] 99 ?_
  refine And.intro (by decide +kernel) ?_
  rw [← r] at h
  exact h
theorem q_often (I : xRl X P) (hS : S ≤ 128) {a b c : Nat} (ha : a < 1000) (hb : b ≤ 9) (hc : c < 1000) (h : Q (some (.int (nI (oft a b c)))) s) : P (d + 1) (L0 S) 192 [.int (nI a), .int (nI b), .int (nI c)] s Q := by
  have r : nI a + nI 1 - (nI a + nI 1) / nI 10 * nI 10 = nI ((a + 1) % 10) := by rw [nad]; exact pk_rem (by omega) (by decide) (by decide)
  refine inX11_often I (L0ok hS) ?_
  refine rn I [] 99 ?_
  unfold oft at h
  by_cases h1 : c = a
  · rw [if_pos h1, ← nsb (by omega)] at h
    exact xbr_t (by rw [h1]) h
  · rw [if_neg h1] at h
    refine xbr_f (zne h1 (by omega) (by omega)) ?_
    refine And.intro (by decide +kernel) ?_
    by_cases h2 : c = (a + 1) % 10
    · rw [if_pos h2] at h
      exact xbr_t (by rw [r, h2]) h
    · rw [if_neg h2] at h
      exact xbr_f (by rw [r]; exact zne h2 (by omega) (by omega)) h
theorem m_share (I : xRl X P) (hS : S ≤ 128) (hF : FC s.1 1 f ru) (hB : FB f) (hX : TXC s (f 0 15) dn) (hr : rdn ru (f 0 15) dn dr) (hT : TR dr) {st i : Nat} (hN : NC s (fce f st e)) (he : EB e) (hst : st < 8 * cc f) (hi : i < 10) (h : ∀ s' : xS, (∃ e', NC s' (fce f st e') ∧ EB e') → fO s s' → Q (some (.int (nI (shr f dr st i)))) s') : P (d + 7) (L0 S) 62 [.ref 59, .int (nI i)] s Q := by
  have g5 : s.1 6 i = nI (f 5 i) := hF.1 5 i hi
  have b5 : f 5 i < 8 := hB.2.1 5 i hi
  have g2 : s.1 3 (f 5 i) = nI (f 2 (f 5 i)) := hF.1 2 (f 5 i) b5
  have b2 : f 2 (f 5 i) < cc f := hB.2.1 2 (f 5 i) b5
  have g6 : s.1 7 i = nI (f 6 i) := hF.1 6 i hi
  have b6 : f 6 i < 2 := hB.2.1 6 i hi
  have g7 : s.1 8 i = nI (f 7 i) := hF.1 7 i hi
  have b7 : f 7 i < 24 := hB.2.1 7 i hi
  have g8 : s.1 9 i = nI (f 8 i) := hF.1 8 i hi
  have b8 : f 8 i < 10 := hB.2.1 8 i hi
  have hcc := hB.cc16
  have e1 := fce_b hB hst he
  have z01 := fce01 (f := f) (st := st) (e := e) hB hst
  have e2 : EB (aie f (f 5 i) (f 2 (f 5 i)) (f 6 i) (f 7 i) (fce f st e)) := aie_b (by omega) (by omega) (by omega) (by omega) z01.1 z01.2 e1
  have back : fce f st (aie f (f 5 i) (f 2 (f 5 i)) (f 6 i) (f 7 i) (fce f st e)) = aie f (f 5 i) (f 2 (f 5 i)) (f 6 i) (f 7 i) (fce f st e) := by
    funext k
    match k with
    | 0 => rfl
    | 1 => rfl
    | 2 => rfl
    | 3 => rfl
    | 4 => rfl
    | _ + 5 => rfl
  refine inX6_share I (L0ok hS) ?_
  refine rn I [] 99 ?_
  refine ⟨i, ⟨hi, rfl⟩, ?_⟩
  refine ⟨f 5 i, ⟨b5, g5⟩, ?_⟩
  refine ⟨i, ⟨hi, rfl⟩, ?_⟩
  refine ⟨i, ⟨hi, rfl⟩, ?_⟩
  rw [g5, g2, g6, g7]
  refine m_aim I hS hF hB hN e1 b2 b6 (fun s1 N1 f1 => ?_)
  have F1 := f1.FC (k := 1) (by decide) hF
  have X1 := f1.TXC hB.1.2.2.2 hX
  refine m_tell I hS F1 hB X1 hr N1 e2 (by decide) (fun s2 f2 => ?_)
  rw [sv_e hT]
  have f12 := f1.tr f2.o
  have F2 := f12.FC (k := 1) (by decide) hF
  have X2 := f12.TXC hB.1.2.2.2 hX
  have N2 := N1.same f2
  refine ⟨i, ⟨hi, rfl⟩, ?_⟩
  have g8' : s2.1 9 i = nI (f 8 i) := F2.1 8 i hi
  rw [g8']
  have sl : sv f dr st (f 5 i) (f 2 (f 5 i)) (f 6 i) (f 7 i) ≤ 9 := sv_le
  have ll : lv f dr st (f 5 i) (f 2 (f 5 i)) (f 6 i) (f 7 i) ≤ 9 := lv_le
  have fin : ∀ s3 : xS, fM s2 s3 → Q (some (.int (nI (shr f dr st i)))) s3 := fun s3 f3 => h s3 ⟨_, by rw [back]; exact N2.same f3, e2⟩ (f12.tr f3.o)
  unfold shr oft at fin
  by_cases h1 : f 8 i = sv f dr st (f 5 i) (f 2 (f 5 i)) (f 6 i) (f 7 i)
  · refine xbr_t (by rw [h1]) ?_
    refine m_tell I hS F2 hB X2 hr N2 e2 (by decide) (fun s3 f3 => ?_)
    rw [lv_e hT]
    have k := fin s3 f3
    rw [if_pos h1, ← nsb (by omega)] at k
    exact k
  · refine xbr_f (zne h1 (by omega) (by omega)) ?_
    refine m_oneMore I hS (by omega) ?_
    by_cases h2 : f 8 i = (sv f dr st (f 5 i) (f 2 (f 5 i)) (f 6 i) (f 7 i) + 1) % 10
    · refine xbr_t (by rw [h2]) ?_
      refine m_tell I hS F2 hB X2 hr N2 e2 (by decide) (fun s3 f3 => ?_)
      rw [lv_e hT]
      have k := fin s3 f3
      rw [if_neg h1, if_pos h2] at k
      exact k
    · refine xbr_f (zne h2 (by omega) (by omega)) ?_
      have k := fin s2 fM.rf
      rw [if_neg h1, if_neg h2] at k
      exact k
theorem m_weightAsOf (I : xRl X P) (hS : S ≤ 128) (hF : FC s.1 1 f ru) (hB : FB f) (hX : TXC s (f 0 15) dn) (hr : rdn ru (f 0 15) dn dr) (hT : TR dr) {st k : Nat} (hN : NC s e) (he : EB e) (hst : st < 8 * cc f) (hk : k ≤ 10) (h : ∀ s' : xS, (∃ e', NC s' e' ∧ EB e') → fO s s' → Q (some (.long (lN (wt f dr st k)))) s') : P (d + 8) (L0 S) 61 [.ref 59, .int (nI st), .int (nI k)] s Q := by
  have loop : ∀ m i, i + m = k → ∀ s' : xS, (∃ e', NC s' (fce f st e') ∧ EB e') → fO s s' → X (d + 7) mX6_weightAsOf Q (L0 S) 21 [some (.ref 59), some (.int (nI st)), some (.int (nI k)), some (.long (lN (wt f dr st i))), none, some (.int (nI i))] [] s' := by
    intro m
    induction m with
    | zero =>
      intro i hi s' ⟨e', N', E'⟩ f'
      have hi : i = k := hi
      subst hi
      refine rn I [] 99 ?_
      refine xbr_f (znl (Nat.le_refl _) (by omega)) ?_
      exact h s' ⟨_, N', fce_b hB hst E'⟩ f'
    | succ m ih =>
      intro i hi s' ⟨e', N', E'⟩ f'
      have wb : wt f dr st i ≤ 990000000000 := wt_b (by omega)
      refine rn I [21] 99 ?_
      refine xbr_t (zlt (by omega) (by omega)) ?_
      refine xbr_t (zlt (by omega) (by omega)) ?_
      by_cases hz : wt f dr st i = 0
      · refine xbr_t ((lze (by omega)).mpr hz) ?_
        have z := h s' ⟨_, N', fce_b hB hst E'⟩ f'
        rw [show k = i + (m + 1) by omega, wt_z hz, ← hz] at z
        exact z
      · refine xbr_f (fun q => hz ((lze (by omega)).mp q)) ?_
        refine m_share I hS (f'.FC (k := 1) (by decide) hF) hB (f'.TXC hB.1.2.2.2 hX) hr hT N' E' hst (by omega) (fun s1 N1 f1 => ?_)
        have z := ih (i + 1) (by omega) s1 N1 (f'.tr f1)
        have sb : shr f dr st i ≤ 10 := oft_le lv_le
        rw [n1s i, show wt f dr st (i + 1) = wt f dr st i * shr f dr st i from rfl, ← lml, ← nil (n := shr f dr st i) (by omega)] at z
        exact z
  refine inX6_weightAsOf I (L0ok hS) ?_
  refine rn I [21] 99 ?_
  refine m_face I hS hF hB hN hst (fun s1 N1 f1 => ?_)
  refine m_tell I hS (f1.FC (k := 1) (by decide) hF) hB (f1.TXC hB.1.2.2.2 hX) hr N1 (fce_b hB hst he) (by decide) (fun s2 f2 => ?_)
  rw [pv_e hT]
  have pb : pv f dr st ≤ 99 := pv_le
  have z := loop k 0 (by omega) s2 ⟨e, N1.same f2, he⟩ (f1.tr f2.o)
  rw [show wt f dr st 0 = pv f dr st from rfl, ← nil (by omega)] at z
  exact z
theorem m_Prior (I : xRl X P) (hS : S ≤ 128) (hF : FC s.1 1 f ru) (hB : FB f) (hX : TXC s (f 0 15) dn) (hr : rdn ru (f 0 15) dn dr) (hT : TR dr) (hN : NC s e) (he : EB e) {c : Int32} (h1 : ∀ st, st < 8 * cc f → c = nI st → ∀ s' : xS, (∃ e', NC s' e' ∧ EB e') → fO s s' → Q (some (.int (nI (pv f dr st)))) s') (h0 : (∀ st, st < 8 * cc f → c ≠ nI st) → Q (some (.int (-(nI 1)))) s) : P (d + 7) (L0 S) 106 [.ref 0, .int c] s Q := by
  refine inX10_prior I (L0ok hS) ?_
  refine rn I [] 99 ?_
  refine m_hasState I hS hF hB (fun st hst est => ?_) (fun hc => ?_)
  · subst est
    refine xbr_f n10 ?_
    refine m_face I hS hF hB hN hst (fun s1 N1 f1 => ?_)
    refine m_tell I hS (f1.FC (k := 1) (by decide) hF) hB (f1.TXC hB.1.2.2.2 hX) hr N1 (fce_b hB hst he) (by decide) (fun s2 f2 => ?_)
    rw [pv_e hT]
    exact h1 st hst rfl s2 ⟨_, N1.same f2, fce_b hB hst he⟩ (f1.tr f2.o)
  · refine xbr_t rfl ?_
    exact h0 hc
theorem m_Sees (I : xRl X P) (hS : S ≤ 128) (hF : FC s.1 1 f ru) (hB : FB f) (hX : TXC s (f 0 15) dn) (hr : rdn ru (f 0 15) dn dr) (hT : TR dr) (hN : NC s e) (he : EB e) {c1 c2 c3 : Int32} {tu sl : Nat} (htu : tu < 2) (hsl : sl < 2) (h1 : ∀ n st hh, n < f 0 12 → c1 = nI n → st < 8 * cc f → c2 = nI st → hh < 24 → c3 = nI hh → ∀ s' : xS, (∃ e', NC s' e' ∧ EB e') → fO s s' → Q (some (.int (nI (if sl = 1 then lv f dr st n (f 2 n) tu hh else sv f dr st n (f 2 n) tu hh)))) s') (h0 : (¬ ∃ n st hh, n < f 0 12 ∧ c1 = nI n ∧ st < 8 * cc f ∧ c2 = nI st ∧ hh < 24 ∧ c3 = nI hh) → Q (some (.int (-(nI 1)))) s) : P (d + 7) (L0 S) 107 [.ref 0, .int c1, .int (nI tu), .int c2, .int c3, .int (nI sl)] s Q := by
  have hn8 := hB.1.1
  have hcc := hB.cc16
  refine inX10_sees I (L0ok hS) ?_
  refine rn I [] 99 ?_
  refine m_hasScope I hS hF hB (fun n hn en => ?_) (fun hc => ?_)
  · subst en
    refine xbr_f n10 ?_
    refine m_hasState I hS hF hB (fun st hst est => ?_) (fun hc => ?_)
    · subst est
      refine xbr_f n10 ?_
      refine m_isHour I hS (fun hh hhh eh => ?_) (fun hc => ?_)
      · subst eh
        refine xbr_f n10 ?_
        have g2 : s.1 3 n = nI (f 2 n) := hF.1 2 n (by show n < 8; omega)
        have b2 : f 2 n < cc f := hB.2.1 2 n (by show n < 8; omega)
        have z01 := fce01 (f := f) (st := st) (e := e) hB hst
        refine m_face I hS hF hB hN hst (fun s1 N1 f1 => ?_)
        have F1 := f1.FC (k := 1) (by decide) hF
        refine ⟨n, ⟨by omega, rfl⟩, ?_⟩
        have g2' : s1.1 3 n = nI (f 2 n) := F1.1 2 n (by show n < 8; omega)
        rw [g2']
        refine m_aim I hS F1 hB N1 (fce_b hB hst he) b2 htu (fun s2 N2 f2 => ?_)
        have f12 := f1.tr f2
        have F2 := f12.FC (k := 1) (by decide) hF
        have X2 := f12.TXC hB.1.2.2.2 hX
        have E2 : EB (aie f n (f 2 n) tu hh (fce f st e)) := aie_b (by omega) (by omega) (by omega) (by omega) z01.1 z01.2 (fce_b hB hst he)
        rcases (show sl = 0 ∨ sl = 1 by omega) with rfl | rfl
        · refine xbr_t rfl ?_
          refine m_tell I hS F2 hB X2 hr N2 E2 (by decide) (fun s3 f3 => ?_)
          rw [sv_e hT]
          have k := h1 n st hh hn rfl hst rfl hhh rfl s3 ⟨_, N2.same f3, E2⟩ (f12.tr f3.o)
          rw [if_neg (by decide)] at k
          exact k
        · refine xbr_f n10 ?_
          refine m_tell I hS F2 hB X2 hr N2 E2 (by decide) (fun s3 f3 => ?_)
          rw [lv_e hT]
          have k := h1 n st hh hn rfl hst rfl hhh rfl s3 ⟨_, N2.same f3, E2⟩ (f12.tr f3.o)
          rw [if_pos rfl] at k
          exact k
      · refine xbr_t rfl ?_
        exact h0 (fun ⟨_, _, x, _, _, _, _, q1, q2⟩ => hc x q1 q2)
    · refine xbr_t rfl ?_
      exact h0 (fun ⟨_, x, _, _, _, q1, q2, _, _⟩ => hc x q1 q2)
  · refine xbr_t rfl ?_
    exact h0 (fun ⟨x, _, _, q1, q2, _, _, _, _⟩ => hc x q1 q2)
theorem m_Weight (I : xRl X P) (hS : S ≤ 128) (hF : FC s.1 1 f ru) (hB : FB f) (hX : TXC s (f 0 15) dn) (hr : rdn ru (f 0 15) dn dr) (hT : TR dr) (hN : NC s e) (he : EB e) {c1 c2 : Int32} (h1 : ∀ st k, st < 8 * cc f → c1 = nI st → k ≤ f 0 13 → c2 = nI k → ∀ s' : xS, (∃ e', NC s' e' ∧ EB e') → fO s s' → Q (some (.long (lN (wt f dr st k)))) s') (h0 : (¬ ∃ st k, st < 8 * cc f ∧ c1 = nI st ∧ k ≤ f 0 13 ∧ c2 = nI k) → Q (some (.long (-(lN 1)))) s) : P (d + 9) (L0 S) 110 [.ref 0, .int c1, .int c2] s Q := by
  have hn := hB.1.2.1
  refine inX10_weight I (L0ok hS) ?_
  refine rn I [] 99 ?_
  refine m_hasState I hS hF hB (fun st hst est => ?_) (fun hc => ?_)
  · subst est
    refine xbr_f n10 ?_
    refine m_hasReports I hS hF hB (fun k hk ek => ?_) (fun hc => ?_)
    · subst ek
      refine xbr_f n10 ?_
      exact m_weightAsOf I hS hF hB hX hr hT hN he hst (by omega) (h1 st k hst rfl hk rfl)
    · refine xbr_t rfl ?_
      exact h0 (fun ⟨_, x, _, _, q1, q2⟩ => hc x q1 q2)
  · refine xbr_t rfl ?_
    exact h0 (fun ⟨x, _, q1, q2, _, _⟩ => hc x q1 q2)
end WEIGH
