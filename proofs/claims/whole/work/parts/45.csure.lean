/-! sure: the class -/
def okH (f : Nm) (j : Nat) : Prop := j / 2 < f 0 12 ∧ f 4 (j / 2) = 0
def snv (f : Nm) (dr : Nat → Option Dn) (c h j : Nat) : Nat → Nat := fun st => sv f dr st (j / 2) c (j % 2) h
def slv (f : Nm) (dr : Nat → Option Dn) (c h j : Nat) : Nat → Nat := fun st => lv f dr st (j / 2) c (j % 2) h
def su1 (f : Nm) (dr : Nat → Option Dn) (c h j : Nat) : Nat := sr1 (wk f dr (f 0 13)) (snv f dr c h j) (slv f dr c h j) (8 * cc f)
def su2 (f : Nm) (dr : Nat → Option Dn) (h j j2 : Nat) : Nat := sr2 (wk f dr (f 0 13)) (snv f dr (f 2 (j / 2)) h j) (slv f dr (f 2 (j / 2)) h j) (snv f dr (f 2 (j2 / 2)) h j2) (slv f dr (f 2 (j2 / 2)) h j2) (8 * cc f)
def SU (f : Nm) (dr : Nat → Option Dn) (c1 c2 c3 : Int32) (v : Nat) : Prop := ∃ j h, okH f j ∧ c1 = nI j ∧ h < 24 ∧ c3 = nI h ∧ ((c2 = -(nI 1) ∧ v = su1 f dr (f 2 (j / 2)) h j) ∨ ∃ j2, okH f j2 ∧ c2 = nI j2 ∧ j / 2 ≠ j2 / 2 ∧ v = su2 f dr h j j2)
theorem okH16 {f : Nm} {j : Nat} (hB : FB f) (h : okH f j) : j < 16 := by have := hB.1.1; have := h.1; omega
theorem SU.eq {f : Nm} {dr : Nat → Option Dn} {c1 c2 c3 : Int32} {v w : Nat} (hB : FB f) (h : SU f dr c1 c2 c3 v) (k : SU f dr c1 c2 c3 w) : v = w := by
  obtain ⟨j, hh, a1, a2, a3, a4, a5⟩ := h
  obtain ⟨i, kk, b1, b2, b3, b4, b5⟩ := k
  have := okH16 hB a1
  have := okH16 hB b1
  have e1 := zeq (by omega) (by omega) (a2.symm.trans b2)
  have e2 := zeq (by omega) (by omega) (a4.symm.trans b4)
  subst e1
  subst e2
  rcases a5 with ⟨x1, x2⟩ | ⟨j2, x1, x2, x3, x4⟩ <;> rcases b5 with ⟨y1, y2⟩ | ⟨i2, y1, y2, y3, y4⟩
  · rw [x2, y2]
  · have := okH16 hB y1
    exact absurd (x1.symm.trans y2) (zm1n' (by omega))
  · have := okH16 hB x1
    exact absurd (y1.symm.trans x2) (zm1n' (by omega))
  · have := okH16 hB x1
    have := okH16 hB y1
    have e3 := zeq (by omega) (by omega) (x2.symm.trans y2)
    subst e3
    rw [x4, y4]
def fZ (s s' : xS) : Prop := (∀ q, (q < 56 ∨ 78 < q ∨ (59 ≤ q ∧ q ≤ 62)) → s'.1 q = s.1 q) ∧ (∀ q, q ≠ 60 → q ≠ 61 → s'.2 q = s.2 q)
theorem fZ.tr {a b c : xS} (h : fZ a b) (k : fZ b c) : fZ a c := ⟨fun q h1 => (k.1 q h1).trans (h.1 q h1), fun q h1 h2 => (k.2 q h1 h2).trans (h.2 q h1 h2)⟩
theorem fS.z {a b : xS} (h : fS a b) : fZ a b := ⟨fun q hq => h.1 q (by omega) (by omega) (by omega), fun q _ h2 => h.2 q h2⟩
theorem fL.z {j : Nat} {a b : xS} (h : fL j a b) (hj : j < 16) : fZ a b := ⟨fun q hq => h.1 q (by omega) (by omega) (by omega) (by omega), fun q _ _ => by rw [h.2]⟩
theorem fG.z {a b : xS} (h : fG a b) : fZ a b := ⟨fun q _ => by rw [h.1], fun q h1 _ => h.2 q h1⟩
theorem fL.wc {j : Nat} {a b : xS} {n : Nat} {g : Nat → Nat} (h : fL j a b) (w : WC a n g) : WC b n g := fun i hi => by rw [h.2]; exact w i hi
theorem fG.nc {a b : xS} (h : fG a b) (k : ∃ e', NC a e' ∧ EB e') : ∃ e', NC b e' ∧ EB e' := by
  obtain ⟨e', N, E⟩ := k
  exact ⟨e', fun q hq => by rw [h.1]; exact N q hq, E⟩
section CSURE
variable {X : xXT} {P : xPT} {d S : Nat} {s : xS} {Q : xQ} {f : Nm} {ru : Int32} {e : Nat → Nat} {dn : Nat → Nat → Option Dn} {dr : Nat → Option Dn}
theorem dv2 {j : Nat} (h : j < 2 ^ 31) : nI j / nI 2 = nI (j / 2) := pk_div h (by decide) (by decide)
theorem m_isFreeHold (I : xRl X P) (hS : S ≤ 128) (hF : FC s.1 1 f ru) (hB : FB f) {c : Int32} (h1 : ∀ j, okH f j → c = nI j → Q (some (.int (nI 1))) s) (h0 : (∀ j, okH f j → c ≠ nI j) → Q (some (.int (nI 0))) s) : P (d + 3) (L0 S) 121 [.ref 0, .int c] s Q := by
  have hn8 := hB.1.1
  refine inX10_isFreeHold I (L0ok hS) ?_
  refine rn I [] 99 ?_
  refine xbr_c (fun q => ⟨bz, h0 (fun j hj ej => ?_)⟩) (fun q => ?_)
  · rw [ej] at q
    have := okH16 hB hj
    exact zn0 (by omega) q
  · obtain ⟨m, hm, rfl⟩ := nI_of (x := c) (by rw [← nI_0]; exact q)
    refine And.intro (by decide +kernel) ?_
    rw [dv2 hm]
    refine m_isFree I hS hF hB (fun j hj fj ej => ?_) (fun hc => ?_)
    · have := zeq (by omega) (by omega) ej
      exact xbr_f n10 ⟨bo, h1 m ⟨by omega, by rw [this]; exact fj⟩ rfl⟩
    · refine xbr_t rfl ⟨bz, h0 (fun j hj ej => ?_)⟩
      have := okH16 hB hj
      have := zeq hm (by omega) ej
      subst this
      exact hc (m / 2) hj.1 hj.2 rfl
theorem m_lookX (I : xRl X P) (hS : S ≤ 128) (hF : FC s.1 1 f ru) (hB : FB f) (hX : TXC s (f 0 15) dn) (hr : rdn ru (f 0 15) dn dr) (hT : TR dr) (hN : ∃ e, NC s e ∧ EB e) (hSS : S = 8 * cc f) (e59 : s.1 59 2 = nI S) {g : Nat → Nat} (hW : WC s (8 * cc f) g) (hg : ∀ i, g i < 2 ^ 62) {x1 x2 : Int32} {j c h : Nat} (e1 : x1 = nI j) (e2 : x2 = nI c) (hj : j < 16) (hc : c < cc f) (hh : h < 24) (k : ∀ s' : xS, (∃ e', NC s' e' ∧ EB e') → fL j s s' → VV s' (8 * cc f) j g (snv f dr c h j) (slv f dr c h j) → Q none s') : P (d + 8) (L0 S) 69 [.ref 59, .int x1, .int x2, .int (nI h)] s Q := by
  obtain ⟨e, N, E⟩ := hN
  subst e1
  subst e2
  exact m_look I hS hF hB hX hr hT N E hSS e59 hW hg hj hc hh k
theorem wkb {k : Nat} (hk : k ≤ 10) : ∀ i, wk f dr k i ≤ 990000000000 := fun i => wk_b hk i
theorem snv_le {c h j : Nat} (i : Nat) : snv f dr c h j i ≤ 9 := sv_le
theorem slv_le {c h j : Nat} (i : Nat) : slv f dr c h j i ≤ 9 := lv_le
theorem m_Sure (I : xRl X P) (hS : S ≤ 128) (hF : FC s.1 1 f ru) (hB : FB f) (hX : TXC s (f 0 15) dn) (hr : rdn ru (f 0 15) dn dr) (hT : TR dr) (hN : NC s e) (he : EB e) (hSS : S = 8 * cc f) (e59 : s.1 59 2 = nI S) {c1 c2 c3 : Int32} (h1 : ∀ v, SU f dr c1 c2 c3 v → ∀ s' : xS, (∃ e', NC s' e' ∧ EB e') → fZ s s' → Q (some (.long (lN v))) s') (h0 : (∀ v, ¬ SU f dr c1 c2 c3 v) → Q (some (.long (-(lN 1)))) s) : P (d + 10) (L0 S) 113 [.ref 0, .int c1, .int c2, .int c3] s Q := by
  have hcc := hB.cc16
  have hn8 := hB.1.1
  have hn13 := hB.1.2.1
  have er : s.1 1 13 = nI (f 0 13) := hF.2.1 13 (by omega)
  have nz2 : ¬ nI 2 = nI 0 := by decide +kernel
  have T57 : ∀ (j h al : Nat), al < 2 → okH f j → c1 = nI j → h < 24 → c3 = nI h → ((al = 1 ∧ c2 = -(nI 1)) ∨ (al = 0 ∧ ∃ j2, okH f j2 ∧ c2 = nI j2 ∧ j / 2 ≠ j2 / 2)) → X (d + 9) mX10_sure Q (L0 S) 57 [some (.ref 0), some (.int c1), some (.int c2), some (.int c3), some (.int (nI al))] [] s := by
    intro j h al _ ho ec1 hh ec3 hal
    have hj := okH16 hB ho
    have b2 : f 2 (j / 2) < cc f := hB.2.1 2 (j / 2) (by show j / 2 < 8; omega)
    refine rn I [] 199 ?_
    refine m_weighX I hS hF hB hX hr hT hN he hSS e59 (k := f 0 13) er (by omega) (fun s1 N1 f1 w1 => ?_)
    have F1 := f1.FC (k := 1) (by decide) hF
    refine And.intro nz2 ?_
    have g2 : s1.1 3 (j / 2) = nI (f 2 (j / 2)) := F1.1 2 (j / 2) (by show j / 2 < 8; omega)
    refine ⟨j / 2, ⟨by omega, by rw [ec1]; exact dv2 (by omega)⟩, ?_⟩
    rw [ec3]
    refine m_lookX I hS F1 hB (f1.TXC hB.1.2.2.2 hX) hr hT N1 hSS (by rw [f1.1 59 (by decide) (by decide) (by decide)]; exact e59) w1 (wk62 (by omega)) ec1 g2 hj b2 hh (fun s2 N2 f2 v2 => ?_)
    have z2 := f1.z.tr (f2.z hj)
    have e59' : s2.1 59 2 = nI S := by rw [z2.1 59 (by omega)]; exact e59
    have w2 := f2.wc w1
    rcases hal with ⟨rfl, e2⟩ | ⟨rfl, j2, ho2, ec2, hne⟩
    · refine xbr_f n10 ?_
      have k := h1 _ ⟨j, h, ho, ec1, hh, ec3, Or.inl ⟨e2, rfl⟩⟩
      show P _ _ _ [.ref 59, .int c1] _ _
      rw [ec1]
      exact m_sureByOne I hS hSS e59' hj w2 (wkb (by omega)) v2 snv_le slv_le (fun s3 f3 => k s3 (f3.nc N2) (z2.tr f3.z))
    · refine xbr_t rfl ?_
      have hj2 := okH16 hB ho2
      have b22 : f 2 (j2 / 2) < cc f := hB.2.1 2 (j2 / 2) (by show j2 / 2 < 8; omega)
      have F2 := f2.FC F1
      have g22 : s2.1 3 (j2 / 2) = nI (f 2 (j2 / 2)) := F2.1 2 (j2 / 2) (by show j2 / 2 < 8; omega)
      refine And.intro nz2 ?_
      refine ⟨j2 / 2, ⟨by have := ho2.1; omega, by rw [ec2]; exact dv2 (by omega)⟩, ?_⟩
      refine m_lookX I hS F2 hB (f2.TXC hB.1.2.2.2 (f1.TXC hB.1.2.2.2 hX)) hr hT N2 hSS e59' w2 (wk62 (by omega)) ec2 g22 hj2 b22 hh (fun s3 N3 f3 v3 => ?_)
      have z3 := z2.tr (f3.z hj2)
      have k := h1 _ ⟨j, h, ho, ec1, hh, ec3, Or.inr ⟨j2, ho2, ec2, hne, rfl⟩⟩
      have v2' : VV s3 (8 * cc f) j (wk f dr (f 0 13)) (snv f dr (f 2 (j / 2)) h j) (slv f dr (f 2 (j / 2)) h j) := fun st a b => by rw [f3.1 (63 + j) (by omega) (by omega) (by omega) (by omega)]; exact v2 st a b
      show P _ _ _ [.ref 59, .int c1, .int c2] _ _
      rw [ec1, ec2]
      exact m_sureByTwo I hS hSS (by rw [z3.1 59 (by omega)]; exact e59) hj hj2 (f3.wc w2) (wkb (by omega)) v2' v3 snv_le slv_le snv_le slv_le (fun s4 f4 => k s4 (f4.nc N3) (z3.tr f4.z))
  have main : ∀ al : Nat, al < 2 → (al = 1 ↔ c2 = -(nI 1)) → X (d + 9) mX10_sure Q (L0 S) 12 [some (.ref 0), some (.int c1), some (.int c2), some (.int c3), some (.int (nI al))] [] s := by
    intro al hal hiff
    refine rn I [57] 99 ?_
    refine m_isHour I hS (fun h hh eh => ?_) (fun hc => ?_)
    · refine xbr_f n10 ?_
      refine m_isFreeHold I hS hF hB (fun j ho ej => ?_) (fun hc => ?_)
      · refine xbr_f n10 ?_
        rcases (show al = 0 ∨ al = 1 by omega) with rfl | rfl
        · refine xbr_t rfl ?_
          refine m_isFreeHold I hS hF hB (fun j2 ho2 ej2 => ?_) (fun hc => ?_)
          · refine xbr_f n10 ?_
            refine And.intro nz2 (And.intro nz2 ?_)
            have hj := okH16 hB ho
            have hj2 := okH16 hB ho2
            have d1 : c1 / nI 2 = nI (j / 2) := by rw [ej]; exact dv2 (by omega)
            have d2 : c2 / nI 2 = nI (j2 / 2) := by rw [ej2]; exact dv2 (by omega)
            by_cases hne : j / 2 = j2 / 2
            · refine xbr_t (by rw [d1, d2, hne]) ?_
              refine h0 (fun v ⟨i, _, a1, a2, _, _, a5⟩ => ?_)
              have := okH16 hB a1
              have e1 := zeq (by omega) (by omega) (ej.symm.trans a2)
              rcases a5 with ⟨x1, _⟩ | ⟨i2, x1, x2, x3, _⟩
              · exact absurd (x1.symm.trans ej2) (zm1n' (by omega))
              · have := okH16 hB x1
                have e2 := zeq (by omega) (by omega) (ej2.symm.trans x2)
                subst e1
                subst e2
                exact x3 hne
            · refine xbr_f (by rw [d1, d2]; exact zne hne (by omega) (by omega)) ?_
              exact T57 j h 0 (by decide) ho ej hh eh (Or.inr ⟨rfl, j2, ho2, ej2, hne⟩)
          · refine xbr_t rfl ?_
            refine h0 (fun v ⟨_, _, _, _, _, _, a5⟩ => ?_)
            rcases a5 with ⟨x1, _⟩ | ⟨i2, x1, x2, _, _⟩
            · exact absurd (hiff.mpr x1) (by decide)
            · exact hc i2 x1 x2
        · refine xbr_f n10 ?_
          exact T57 j h 1 (by decide) ho ej hh eh (Or.inl ⟨rfl, hiff.mp rfl⟩)
      · refine xbr_t rfl ?_
        exact h0 (fun v ⟨i, _, a1, a2, _⟩ => hc i a1 a2)
    · refine xbr_t rfl ?_
      exact h0 (fun v ⟨_, x, _, _, a3, a4, _⟩ => hc x a3 a4)
  refine inX10_sure I (L0ok hS) ?_
  refine rn I [12] 99 ?_
  refine xbr_c (fun q => main 1 (by decide) ⟨fun _ => q, fun _ => rfl⟩) (fun q => main 0 (by decide) ⟨fun z => absurd z (by decide), fun z => absurd z q⟩)
end CSURE
