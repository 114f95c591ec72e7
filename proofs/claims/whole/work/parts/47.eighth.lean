/-! eighth on both sides -/
def BI (g : Nat → Nat) (i : Nat) (b : Int32) (l : Int64) : Prop := (i = 0 ∧ b = -(nI 1) ∧ l = -(lN 1)) ∨ (1 ≤ i ∧ b = nI (bst g i) ∧ l = lN (g (bst g i)))
theorem BI.cmp {g : Nat → Nat} {i : Nat} {b : Int32} {l : Int64} (h : BI g i b l) (hg : ∀ i, g i < 2 ^ 62) : nI 0 < lg_cmp (lN (g i)) l ↔ (i = 0 ∨ g (bst g i) < g i) := by
  have gi := hg i
  rcases h with ⟨h1, _, rfl⟩ | ⟨h1, _, rfl⟩
  · refine ⟨fun _ => Or.inl h1, fun _ => lc_gt.mpr ?_⟩
    rw [jlng, jln]
    exact (jl_lt (by unfold Lg; omega) (lI gi)).mpr (by omega)
  · refine (lcg gi (hg _)).trans ⟨Or.inr, fun z => z.elim (fun z => by omega) id⟩
theorem BI.up {g : Nat → Nat} {i : Nat} (h : i = 0 ∨ g (bst g i) < g i) : BI g (i + 1) (nI i) (lN (g i)) := by
  have : bst g (i + 1) = i := by
    show (if g (bst g i) < g i then i else bst g i) = i
    rcases h with rfl | h
    · split <;> rfl
    · rw [if_pos h]
  exact Or.inr ⟨by omega, by rw [this], by rw [this]⟩
theorem BI.no {g : Nat → Nat} {i : Nat} {b : Int32} {l : Int64} (h : BI g i b l) (hn : ¬ (i = 0 ∨ g (bst g i) < g i)) : BI g (i + 1) b l := by
  have : bst g (i + 1) = bst g i := if_neg (fun z => hn (Or.inr z))
  rcases h with ⟨h1, _⟩ | ⟨h1, h2, h3⟩
  · exact absurd (Or.inl h1) hn
  · exact Or.inr ⟨by omega, by rw [this]; exact h2, by rw [this]; exact h3⟩
theorem sr1_b {g sn sl : Nat → Nat} {n : Nat} (hg : ∀ i, g i ≤ 990000000000) (hl : ∀ i, sl i ≤ 9) : sr1 g sn sl n < 2 ^ 62 := by
  have := sm_le (g := fun t => mxs (fun st => g st * oft (sn st) (sl st) t) n) (b := 990000000000 * 10) (fun t => mxs_le (fun i => Nat.mul_le_mul (hg i) (oft_le (hl i))) n) 10
  unfold sr1
  omega
theorem sr2_b {g sn sl sn' sl' : Nat → Nat} {n : Nat} (hg : ∀ i, g i ≤ 990000000000) (hl : ∀ i, sl i ≤ 9) (hl2 : ∀ i, sl' i ≤ 9) : sr2 g sn sl sn' sl' n < 2 ^ 62 := by
  have := sm_le (g := fun t => mxs (fun st => g st * oft (sn st) (sl st) (t / 10) * oft (sn' st) (sl' st) (t % 10)) n) (b := 990000000000 * 10 * 10) (fun t => mxs_le (fun i => Nat.mul_le_mul (Nat.mul_le_mul (hg i) (oft_le (hl i))) (oft_le (hl2 i))) n) 100
  unfold sr2
  omega
section EIGHTH
variable {X : xXT} {P : xPT} {d S : Nat} {s : xS} {Q : xQ} {f : Nm} {ru : Int32} {e : Nat → Nat} {dn : Nat → Nat → Option Dn} {dr : Nat → Option Dn}
theorem su1_b {c h j : Nat} (hB : FB f) : su1 f dr c h j < 2 ^ 62 := sr1_b (wkb (by have := hB.1.2.1; omega)) slv_le
theorem m_bestNewCell (I : xRl X P) (hS : S ≤ 128) (hF : FC s.1 1 f ru) (hB : FB f) (hX : TXC s (f 0 15) dn) (hr : rdn ru (f 0 15) dn dr) (hT : TR dr) (hN : ∃ e, NC s e ∧ EB e) (hSS : S = 8 * cc f) (e59 : s.1 59 2 = nI S) (hW : WC s (8 * cc f) (wk f dr (f 0 13))) {x : Int32} {h : Nat} (ex : x = nI h) (hh : h < 24) (h8 : f 0 12 < 8) (k : ∀ s' : xS, (∃ e', NC s' e' ∧ EB e') → fZ s s' → Q (some (.int (nI (bst (fun c => su1 f dr c h (2 * f 0 12)) (cc f))))) s') : P (d + 9) (L0 S) 77 [.ref 59, .int x] s Q := by
  subst ex
  have hcc := hB.cc16
  have hn13 := hB.1.2.1
  have e12 : s.1 1 12 = nI (f 0 12) := hF.2.1 12 (by omega)
  have eh : nI 2 * s.1 1 12 = nI (2 * f 0 12) := by rw [e12, nml]
  have g62 : ∀ c, (fun c => su1 f dr c h (2 * f 0 12)) c < 2 ^ 62 := fun c => su1_b hB
  have loop : ∀ m i, i + m = cc f → ∀ (s' : xS) (b : Int32) (l : Int64) (o7 : Option Value), BI (fun c => su1 f dr c h (2 * f 0 12)) i b l → (∃ e', NC s' e' ∧ EB e') → fZ s s' → WC s' (8 * cc f) (wk f dr (f 0 13)) → FC s'.1 1 f ru → TXC s' (f 0 15) dn → X (d + 8) mX6_bestNewCell Q (L0 S) 20 [some (.ref 59), some (.int (nI h)), some (.int (nI (2 * f 0 12))), some (.int b), some (.long l), none, some (.int (nI i)), o7, none] [] s' := by
    intro m
    induction m with
    | zero =>
      intro i hi s' b l o7 hb N' z' w' F' X'
      have hi : i = cc f := hi
      subst hi
      refine rn I [] 99 ?_
      refine m_countCells I hS F' ?_
      refine xbr_f (znl (Nat.le_refl _) (by omega)) ?_
      rcases hb with ⟨h1, _⟩ | ⟨_, rfl, _⟩
      · omega
      · exact k s' N' z'
    | succ m ih =>
      intro i hi s' b l o7 hb N' z' w' F' X'
      have e59' : s'.1 59 2 = nI S := by rw [z'.1 59 (by omega)]; exact e59
      refine rn I [20] 99 ?_
      refine m_countCells I hS F' ?_
      refine xbr_t (zlt (by omega) (by omega)) ?_
      refine m_lookX I hS F' hB X' hr hT N' hSS e59' w' (wk62 (by omega)) rfl rfl (by omega) (show i < cc f by omega) hh (fun s1 N1 f1 v1 => ?_)
      have z1 := z'.tr (f1.z (by omega))
      refine m_sureByOne I hS hSS (by rw [z1.1 59 (by omega)]; exact e59) (by omega) (f1.wc w') (wkb (by omega)) v1 snv_le slv_le (fun s2 f2 => ?_)
      have z2 := z1.tr f2.z
      have F2 : FC s2.1 1 f ru := by rw [f2.1]; exact f1.FC F'
      have X2 : TXC s2 (f 0 15) dn := TXC.r f2.1.symm (f1.TXC hB.1.2.2.2 X')
      have w2 : WC s2 (8 * cc f) (wk f dr (f 0 13)) := fun j hj => by rw [f2.2 61 (by decide)]; exact f1.wc w' j hj
      have q := fun b' l' hb' => ih (i + 1) (by omega) s2 b' l' (some (.long (lN (su1 f dr i h (2 * f 0 12))))) hb' (f2.nc N1) z2 w2 F2 X2
      rw [n1s i] at q
      by_cases hc : i = 0 ∨ (fun c => su1 f dr c h (2 * f 0 12)) (bst (fun c => su1 f dr c h (2 * f 0 12)) i) < (fun c => su1 f dr c h (2 * f 0 12)) i
      · exact xbr_t ((hb.cmp g62).mpr hc) (q _ _ (BI.up hc))
      · exact xbr_f (fun z => hc ((hb.cmp g62).mp z)) (q _ _ (hb.no hc))
  refine inX6_bestNewCell I (L0ok hS) ?_
  refine rn I [20] 99 ?_
  have q := loop (cc f) 0 (by omega) s (-(nI 1)) (-(lN 1)) none (Or.inl ⟨rfl, rfl, rfl⟩) hN ⟨fun _ _ => rfl, fun _ _ _ => rfl⟩ hW hF hX
  rw [← eh] at q
  exact q
theorem m_Eighth (I : xRl X P) (hS : S ≤ 128) (hF : FC s.1 1 f ru) (hB : FB f) (hX : TXC s (f 0 15) dn) (hr : rdn ru (f 0 15) dn dr) (hT : TR dr) (hN : NC s e) (he : EB e) (hSS : S = 8 * cc f) (e59 : s.1 59 2 = nI S) {c1 : Int32} (h1 : ∀ h, h < 24 → c1 = nI h → f 0 12 < 8 → ∀ s' : xS, (∃ e', NC s' e' ∧ EB e') → fZ s s' → Q (some (.int (nI (bst (fun c => su1 f dr c h (2 * f 0 12)) (cc f))))) s') (h0 : ((∀ h, h < 24 → c1 ≠ nI h) ∨ f 0 12 = 8) → Q (some (.int (-(nI 1)))) s) : P (d + 10) (L0 S) 115 [.ref 0, .int c1] s Q := by
  have hn8 := hB.1.1
  have hn13 := hB.1.2.1
  have er : s.1 1 13 = nI (f 0 13) := hF.2.1 13 (by omega)
  have e12 : s.1 1 12 = nI (f 0 12) := hF.2.1 12 (by omega)
  refine inX10_eighth I (L0ok hS) ?_
  refine rn I [] 99 ?_
  refine m_isHour I hS (fun h hh eh => ?_) (fun hc => ?_)
  · refine xbr_f n10 ?_
    by_cases h8 : f 0 12 < 8
    · refine xbr_t (by rw [e12]; exact zlt h8 (by decide)) ?_
      refine m_weighX I hS hF hB hX hr hT hN he hSS e59 (k := f 0 13) er (by omega) (fun s1 N1 f1 w1 => ?_)
      exact m_bestNewCell I hS (f1.FC (k := 1) (by decide) hF) hB (f1.TXC hB.1.2.2.2 hX) hr hT N1 hSS (by rw [f1.1 59 (by decide) (by decide) (by decide)]; exact e59) w1 eh hh h8 (fun s2 N2 z2 => h1 h hh eh h8 s2 N2 (f1.z.tr z2))
    · exact xbr_f (by rw [e12]; exact znl (by omega) (by omega)) (h0 (Or.inr (by omega)))
  · exact xbr_t rfl (h0 (Or.inl hc))
theorem q_layX (I : xRl X P) (hS : S ≤ 128) (hA : FA (s.1 80) f ru) (hW : MW s f) (hB : FB f) (hX : TXM s (f 0 15) dn) (hd : ∀ t, t < f 0 15 → ∀ c, c < 4 → TDs c (dn t c)) (hr : rdn ru (f 0 15) dn dr) (hN : NMd s e) (he : EB e) {x1 x2 x3 : Int32} {j c h : Nat} (e1 : x1 = nI j) (e3 : x3 = nI h) (hj : j < 16) (hc : c < cc f) (hh : h < 24) (e2 : x2 = nI c) (k : ∀ s' : xS, (∃ e', NMd s' e' ∧ EB e') → fY j s s' → LV s' (8 * cc f) j (snv f dr c h j) (slv f dr c h j) → Q none s') : P (d + 7) (L0 S) 199 [.ref 79, .int x1, .int x2, .int x3] s Q := by
  subst e1
  subst e3
  exact q_lay I hS hA hW hB hX hd hr hN he hj hc hh e2 k
theorem q_eighth (I : xRl X P) (hS : S ≤ 128) (hA : FA (s.1 80) f ru) (hW : MW s f) (hB : FB f) (hX : TXM s (f 0 15) dn) (hd : ∀ t, t < f 0 15 → ∀ c, c < 4 → TDs c (dn t c)) (hr : rdn ru (f 0 15) dn dr) (hN : NMd s e) (he : EB e) {c1 : Int32} (h1 : ∀ h, h < 24 → c1 = nI h → f 0 12 < 8 → ∀ s' : xS, (∃ e', NMd s' e' ∧ EB e') → fR s s' → Q (some (.int (nI (bst (fun c => su1 f dr c h (2 * f 0 12)) (cc f))))) s') (h0 : ((∀ h, h < 24 → c1 ≠ nI h) ∨ f 0 12 = 8) → Q (some (.int (-(nI 1)))) s) : P (d + 10) (L0 S) 209 [.ref 79, .int c1] s Q := by
  have hcc := hB.cc16
  have hn8 := hB.1.1
  have hn13 := hB.1.2.1
  have e3 : s.1 80 3 = nI (f 0 13) := hA.2.2.2.2.2.1
  have e0 : s.1 80 0 = nI (f 0 12) := hA.2.2.1
  refine inX11_eighth I (L0ok hS) ?_
  refine rn I [39] 99 ?_
  refine q_isHour I hS (fun h hh eh => ?_) (fun hc => ?_)
  · refine xbr_f n10 ?_
    refine ⟨0, ⟨by decide, rfl⟩, ?_⟩
    by_cases h8 : f 0 12 = 8
    · exact xbr_t (by rw [e0, h8]) (h0 (Or.inr h8))
    · refine xbr_f (by rw [e0]; exact zne h8 (by omega) (by decide)) ?_
      refine ⟨3, ⟨by decide, rfl⟩, ?_⟩
      refine q_findX I hS hA hW hB hX hd hr hN he (k := f 0 13) e3 (by omega) (fun s1 N1 f1 w1 a1 => ?_)
      have g62 : ∀ c, (fun c => su1 f dr c h (2 * f 0 12)) c < 2 ^ 62 := fun c => su1_b hB
      have loop : ∀ m i, i + m = cc f → ∀ (s' : xS) (b : Int32) (l : Int64) (o6 : Option Value), BI (fun c => su1 f dr c h (2 * f 0 12)) i b l → (∃ e', NMd s' e' ∧ EB e') → fR s s' → WM2 s' (8 * cc f) (wk f dr (f 0 13)) → X (d + 9) mX11_eighth Q (L0 S) 39 [some (.ref 79), some (.int c1), some (.int b), some (.long l), none, some (.int (nI i)), o6, none] [] s' := by
        intro m
        induction m with
        | zero =>
          intro i hi s' b l o6 hb N' z' w'
          have hi : i = cc f := hi
          subst hi
          have ec : s'.1 79 2 * s'.1 79 3 = nI (cc f) := by rw [(z'.MW hW).1, (z'.MW hW).2, nml]; rfl
          refine rn I [] 99 ?_
          refine xbr_f (by rw [ec]; exact znl (Nat.le_refl _) (by omega)) ?_
          rcases hb with ⟨q1, _⟩ | ⟨_, rfl, _⟩
          · omega
          · exact h1 h hh eh (by omega) s' N' z'
        | succ m ih =>
          intro i hi s' b l o6 hb ⟨e', N', E'⟩ z' w'
          have ec : s'.1 79 2 * s'.1 79 3 = nI (cc f) := by rw [(z'.MW hW).1, (z'.MW hW).2, nml]; rfl
          have A' := z'.FA hA
          have e0' : nI 2 * s'.1 80 0 = nI (2 * f 0 12) := by rw [A'.2.2.1, nml]
          refine rn I [39] 99 ?_
          refine xbr_t (by rw [ec]; exact zlt (by omega) (by omega)) ?_
          refine ⟨0, ⟨by decide, rfl⟩, ?_⟩
          refine q_layX I hS A' (z'.MW hW) hB (z'.TX hX) hd hr N' E' (j := 2 * f 0 12) e0' eh (by omega) (show i < cc f by omega) hh rfl (fun s2 N2 f2 v2 => ?_)
          have z2 := z'.tr f2.r
          refine ⟨0, ⟨by decide, rfl⟩, ?_⟩
          have e02 : nI 2 * s2.1 80 0 = nI (2 * f 0 12) := by rw [(z2.FA hA).2.2.1, nml]
          refine q_sureBy I hS (z2.MW hW) hB e02 (by omega) (f2.wm w') (wkb (by omega)) v2 snv_le slv_le ?_
          have q := fun b' l' hb' => ih (i + 1) (by omega) s2 b' l' (some (.long (lN (su1 f dr i h (2 * f 0 12))))) hb' N2 z2 (f2.wm w')
          rw [n1s i] at q
          by_cases hc : i = 0 ∨ (fun c => su1 f dr c h (2 * f 0 12)) (bst (fun c => su1 f dr c h (2 * f 0 12)) i) < (fun c => su1 f dr c h (2 * f 0 12)) i
          · exact xbr_t ((hb.cmp g62).mpr hc) (q _ _ (BI.up hc))
          · exact xbr_f (fun z => hc ((hb.cmp g62).mp z)) (q _ _ (hb.no hc))
      exact loop (cc f) 0 (by omega) s1 (-(nI 1)) (-(lN 1)) none (Or.inl ⟨rfl, rfl, rfl⟩) N1 f1.r w1
  · exact xbr_t rfl (h0 (Or.inl hc))
end EIGHTH
