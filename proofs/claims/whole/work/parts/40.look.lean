/-! what a hold would see: the class's views -/
theorem h16 {j : Nat} (h : j < 16) : j = 0 ∨ j = 1 ∨ j = 2 ∨ j = 3 ∨ j = 4 ∨ j = 5 ∨ j = 6 ∨ j = 7 ∨ j = 8 ∨ j = 9 ∨ j = 10 ∨ j = 11 ∨ j = 12 ∨ j = 13 ∨ j = 14 ∨ j = 15 := by omega
def vw (f : Nm) (dr : Nat → Option Dn) (j c h st : Nat) : Nat := 10 * sv f dr st (j / 2) c (j % 2) h + lv f dr st (j / 2) c (j % 2) h
def fL (j : Nat) (s s' : xS) : Prop := (∀ q, q ≠ 56 → q ≠ 57 → q ≠ 58 → q ≠ 63 + j → s'.1 q = s.1 q) ∧ s'.2 = s.2
theorem fL.tr {j : Nat} {a b c : xS} (h : fL j a b) (k : fL j b c) : fL j a c := ⟨fun q h1 h2 h3 h4 => (k.1 q h1 h2 h3 h4).trans (h.1 q h1 h2 h3 h4), k.2.trans h.2⟩
theorem fO.l {a b : xS} (h : fO a b) (j : Nat) : fL j a b := ⟨fun q h1 h2 h3 _ => h.1 q h1 h2 h3, h.2⟩
theorem fL.FC {a b : xS} {f : Nm} {ru : Int32} {j : Nat} (h : fL j a b) (hF : FC a.1 1 f ru) : FC b.1 1 f ru := hF.same (fun q h1 h2 => h.1 q (by omega) (by omega) (by omega) (by omega))
theorem fL.TXC {j : Nat} {a b : xS} {n : Nat} {dn : Nat → Nat → Option Dn} (h : fL j a b) (hn : n ≤ 4) (hT : TXC a n dn) : TXC b n dn := by
  refine ⟨fun c hc => by rw [h.1 53 (by decide) (by decide) (by decide) (by omega)]; exact hT.1 c hc, fun t ht => ?_⟩
  obtain ⟨o, z, hp, hx⟩ := hT.2 t ht
  refine ⟨o, z, ⟨by rw [h.1 (35 + 4 * t) (by omega) (by omega) (by omega) (by omega)]; exact hp.1, hp.2.1, fun i hi => by rw [h.1 (35 + 4 * t + 3) (by omega) (by omega) (by omega) (by omega)]; exact hp.2.2 i hi⟩, fun c hc => ⟨?_, (hx c hc).2⟩⟩
  have g := (hx c hc).1
  unfold XC at g ⊢
  rw [h.1 (35 + 4 * t + 1) (by omega) (by omega) (by omega) (by omega), h.1 (35 + 4 * t + 2) (by omega) (by omega) (by omega) (by omega)]
  exact g
section LOOK
variable {X : xXT} {P : xPT} {d S : Nat} {s : xS} {Q : xQ} {f : Nm} {ru : Int32} {e : Nat → Nat} {dn : Nat → Nat → Option Dn} {dr : Nat → Option Dn} {g : Nat → Nat}
set_option maxHeartbeats 2000000 in
theorem m_look1 (I : xRl X P) (hS : S ≤ 128) (hF : FC s.1 1 f ru) (hB : FB f) (hX : TXC s (f 0 15) dn) (hr : rdn ru (f 0 15) dn dr) (hT : TR dr) {j c h st : Nat} (hj : j < 16) (hst : st < S) (hN : NC s (aie f (j / 2) c (j % 2) h (fce f st e))) (he : EB (aie f (j / 2) c (j % 2) h (fce f st e))) (kk : ∀ s' : xS, NC s' (aie f (j / 2) c (j % 2) h (fce f st e)) → fL j s s' → s'.1 (63 + j) = upd (s.1 (63 + j)) st (nI (vw f dr j c h st)) → X (d + 7) mX6_look Q (L0 S) 86 [some (.ref 59), some (.int (nI j)), some (.int (nI c)), some (.int (nI h)), some (.int (nI st))] [] s') : X (d + 7) mX6_look Q (L0 S) 57 [some (.ref 59), some (.int (nI j)), some (.int (nI c)), some (.int (nI h)), some (.int (nI st))] [] s := by
  have fin : ∀ s2 : xS, fM s s2 → NC s2 (aie f (j / 2) c (j % 2) h (fce f st e)) → X (d + 7) mX6_look Q (L0 S) 86 [some (.ref 59), some (.int (nI j)), some (.int (nI c)), some (.int (nI h)), some (.int (nI st))] [] (xW s2 (63 + j) st (nI 10 * nI (sv f dr st (j / 2) c (j % 2) h) + nI (lv f dr st (j / 2) c (j % 2) h))) := by
    intro s2 f2 N2
    rw [nml, nad]
    refine kk _ (fun k hk => by rw [xW_n (by omega)]; exact N2 k hk) ⟨fun q h1 h2 h3 h4 => by rw [xW_n h4]; exact f2.1 q h1 h3, f2.2⟩ ?_
    show va_up s2.1 (63 + j) _ (63 + j) = _
    rw [up_s, f2.1 (63 + j) (by omega) (by omega)]
    rfl
  have step : ∀ (R : xQ), (∀ s1 : xS, fM s s1 → R (some (.int (nI (sv f dr st (j / 2) c (j % 2) h)))) s1) → P (d + 7) (L0 S) 31 [.ref 51, .int (nI 1)] s R := by
    intro R hR
    refine m_tell I hS hF hB hX hr hN he (by decide) (fun s1 f1 => ?_)
    rw [sv_e hT]
    exact hR s1 f1
  have step2 : ∀ (s1 : xS) (R : xQ), fM s s1 → (∀ s2 : xS, fM s s2 → NC s2 (aie f (j / 2) c (j % 2) h (fce f st e)) → R (some (.int (nI (lv f dr st (j / 2) c (j % 2) h)))) s2) → P (d + 7) (L0 S) 31 [.ref 51, .int (nI 2)] s1 R := by
    intro s1 R f1 hR
    refine m_tell I hS (f1.o.FC (k := 1) (by decide) hF) hB (f1.o.TXC hB.1.2.2.2 hX) hr (hN.same f1) he (by decide) (fun s2 f2 => ?_)
    rw [lv_e hT]
    exact hR s2 (f1.tr f2) ((hN.same f1).same f2)
  rcases h16 hj with rfl | rfl | rfl | rfl | rfl | rfl | rfl | rfl | rfl | rfl | rfl | rfl | rfl | rfl | rfl | rfl
  all_goals
    refine rn I [86] 99 ?_
    refine ⟨_, ⟨hj, rfl⟩, ?_⟩
    refine step _ (fun s1 f1 => ?_)
    refine step2 s1 _ f1 (fun s2 f2 N2 => ?_)
    exact ⟨st, ⟨hst, rfl⟩, fin s2 f2 N2⟩
theorem m_look (I : xRl X P) (hS : S ≤ 128) (hF : FC s.1 1 f ru) (hB : FB f) (hX : TXC s (f 0 15) dn) (hr : rdn ru (f 0 15) dn dr) (hT : TR dr) (hN : NC s e) (he : EB e) (hSS : S = 8 * cc f) (e59 : s.1 59 2 = nI S) (hW : WC s (8 * cc f) g) (hg : ∀ i, g i < 2 ^ 62) {j c h : Nat} (hj : j < 16) (hc : c < cc f) (hh : h < 24) (k : ∀ s' : xS, (∃ e', NC s' e' ∧ EB e') → fL j s s' → (∀ st, st < 8 * cc f → g st ≠ 0 → s'.1 (63 + j) st = nI (vw f dr j c h st)) → Q none s') : P (d + 8) (L0 S) 69 [.ref 59, .int (nI j), .int (nI c), .int (nI h)] s Q := by
  have hcc := hB.cc16
  have loop : ∀ m i, i + m = 8 * cc f → ∀ s' : xS, (∃ e', NC s' e' ∧ EB e') → fL j s s' → (∀ st, st < i → g st ≠ 0 → s'.1 (63 + j) st = nI (vw f dr j c h st)) → X (d + 7) mX6_look Q (L0 S) 3 [some (.ref 59), some (.int (nI j)), some (.int (nI c)), some (.int (nI h)), some (.int (nI i))] [] s' := by
    intro m
    induction m with
    | zero =>
      intro i hi s' N' f' v'
      have hi : i = 8 * cc f := hi
      subst hi
      have es : s'.1 59 2 = nI (8 * cc f) := by rw [f'.1 59 (by decide) (by decide) (by decide) (by omega), e59, hSS]
      refine rn I [] 99 ?_
      refine xbr_f (by rw [es]; exact znl (Nat.le_refl _) (by omega)) ?_
      exact k s' N' f' v'
    | succ m ih =>
      intro i hi s' ⟨e', N', E'⟩ f' v'
      have es : s'.1 59 2 = nI (8 * cc f) := by rw [f'.1 59 (by decide) (by decide) (by decide) (by omega), e59, hSS]
      have ew : s'.2 61 i = lN (g i) := by rw [f'.2]; exact hW i (by omega)
      have nz2 : ¬ nI 2 = nI 0 := by decide +kernel
      refine rn I [3, 53, 86] 99 ?_
      refine xbr_t (by rw [es]; exact zlt (by omega) (by omega)) ?_
      refine ⟨i, ⟨by omega, rfl⟩, ?_⟩
      by_cases hz : g i = 0
      · refine xbr_t (by rw [ew]; exact (lze (hg i)).mpr hz) ?_
        refine rn I [3] 99 ?_
        have q := ih (i + 1) (by omega) s' ⟨e', N', E'⟩ f' (fun st h1 h2 => by
          by_cases es : st = i
          · subst es; exact absurd hz h2
          · exact v' st (by omega) h2)
        rw [n1s i] at q
        exact q
      · refine xbr_f (by rw [ew]; exact fun q => hz ((lze (hg i)).mp q)) ?_
        have F' := f'.FC hF
        refine m_face I hS F' hB N' (by omega) (fun s1 N1 f1 => ?_)
        have f1' := f'.tr (f1.l j)
        have F1 := f1'.FC hF
        have j2 : nI j / nI 2 = nI (j / 2) := pk_div (by omega) (by decide) (by decide)
        have jm : nI j - nI j / nI 2 * nI 2 = nI (j % 2) := pk_rem (by omega) (by decide) (by decide)
        have z01 := fce01 (f := f) (st := i) (e := e') hB (by omega)
        have E2 : EB (aie f (j / 2) c (j % 2) h (fce f i e')) := aie_b (by omega) (by omega) (by omega) (by omega) z01.1 z01.2 (fce_b hB (by omega) E')
        have T : X (d + 7) mX6_look Q (L0 S) 53 [some (.ref 59), some (.int (nI j)), some (.int (nI c)), some (.int (nI h)), some (.int (nI i))] [.int (nI (j % 2)), .int (nI c), .int (nI j / nI 2), .ref 51] s1 := by
          rw [j2]
          refine rn I [57] 99 ?_
          refine m_aim I hS F1 hB N1 (fce_b hB (by omega) E') hc (by omega) (fun s2 N2 f2 => ?_)
          have f2' := f1'.tr (f2.l j)
          refine m_look1 I hS (f2'.FC hF) hB (f2'.TXC hB.1.2.2.2 hX) hr hT hj (by omega) N2 E2 (fun s3 N3 f3 v3 => ?_)
          refine rn I [3] 99 ?_
          have q := ih (i + 1) (by omega) s3 ⟨_, N3, E2⟩ (f2'.tr f3) (fun st h1 h2 => by
            rw [v3]
            by_cases es : st = i
            · subst es
              rw [ud_s]
            · rw [ud_n es, f2.1 (63 + j) (by omega) (by omega) (by omega), f1.1 (63 + j) (by omega) (by omega) (by omega)]
              exact v' st (by omega) h2)
          rw [n1s i] at q
          exact q
        refine And.intro nz2 ?_
        refine And.intro nz2 ?_
        rcases (show j % 2 = 0 ∨ j % 2 = 1 by omega) with z | z
        · rw [z] at T
          exact xbr_f (by rw [jm, z]; exact n01) T
        · rw [z] at T
          exact xbr_t (by rw [jm, z]) T
  refine inX6_look I (L0ok hS) ?_
  refine rn I [3] 99 ?_
  exact loop (8 * cc f) 0 (by omega) s ⟨e, hN, he⟩ ⟨fun _ _ _ _ _ => rfl, rfl⟩ (fun st hst => absurd hst (Nat.not_lt_zero _))
end LOOK
