/-! sure: the reference -/
def fR (s s' : xS) : Prop := (∀ q, q ≠ 85 → q ≠ 87 → q ≠ 89 → q ≠ 90 → s'.1 q = s.1 q) ∧ (∀ q, q ≠ 86 → q ≠ 88 → q ≠ 79 → s'.2 q = s.2 q) ∧ (∀ i, i ≠ 28 → s'.2 79 i = s.2 79 i)
theorem fR.tr {a b c : xS} (h : fR a b) (k : fR b c) : fR a c := ⟨fun q h1 h2 h3 h4 => (k.1 q h1 h2 h3 h4).trans (h.1 q h1 h2 h3 h4), fun q h1 h2 h3 => (k.2.1 q h1 h2 h3).trans (h.2.1 q h1 h2 h3), fun i hi => (k.2.2 i hi).trans (h.2.2 i hi)⟩
theorem fX.r {a b : xS} (h : fX a b) : fR a b := ⟨fun q h1 h2 _ _ => h.1 q h1 h2, h.2.1, h.2.2⟩
theorem fY.r {j : Nat} {a b : xS} (h : fY j a b) : fR a b := ⟨h.1, fun q h1 _ _ => h.2.1 q h1, fun i _ => by rw [h.2.1 79 (by decide)]⟩
theorem fR.FA {a b : xS} {f : Nm} {ru : Int32} (h : fR a b) (hA : FA (a.1 80) f ru) : FA (b.1 80) f ru := by rw [h.1 80 (by decide) (by decide) (by decide) (by decide)]; exact hA
theorem fR.MW {a b : xS} {f : Nm} (h : fR a b) (hA : MW a f) : MW b f := ⟨by rw [h.1 79 (by decide) (by decide) (by decide) (by decide)]; exact hA.1, by rw [h.1 79 (by decide) (by decide) (by decide) (by decide)]; exact hA.2⟩
theorem fR.TX {a b : xS} {n : Nat} {dn : Nat → Nat → Option Dn} (h : fR a b) (hX : TXM a n dn) : TXM b n dn := hX.same (h.1 82 (by decide) (by decide) (by decide) (by decide))
theorem fY.wm {j : Nat} {a b : xS} {n : Nat} {g : Nat → Nat} (h : fY j a b) (w : WM2 a n g) : WM2 b n g := fun i hi => by rw [h.2.1 88 (by decide)]; exact w i hi
theorem fY.lv {j i : Nat} {a b : xS} {n : Nat} {sn sl : Nat → Nat} (h : fY j a b) (hn : n ≤ 128) (hij : i ≠ j) (w : LV a n i sn sl) : LV b n i sn sl := fun st hst => by
  have := h.2.2 (128 * i + st) (by omega)
  rw [this.1, this.2]
  exact w st hst
section RSURE
variable {X : xXT} {P : xPT} {d S : Nat} {s : xS} {Q : xQ} {f : Nm} {ru : Int32} {e : Nat → Nat} {dn : Nat → Nat → Option Dn} {dr : Nat → Option Dn}
theorem q_canAsk (I : xRl X P) (hS : S ≤ 128) (hA : FA (s.1 80) f ru) (hB : FB f) {c : Int32} (h1 : ∀ j, okH f j → c = nI j → Q (some (.int (nI 1))) s) (h0 : (∀ j, okH f j → c ≠ nI j) → Q (some (.int (nI 0))) s) : P (d + 2) (L0 S) 203 [.ref 79, .int c] s Q := by
  have hn8 := hB.1.1
  have e0 : nI 2 * s.1 80 0 = nI (2 * f 0 12) := by rw [hA.2.2.1, nml]
  refine inX11_canAsk I (L0ok hS) ?_
  refine rn I [] 99 ?_
  refine ⟨0, ⟨by decide, rfl⟩, ?_⟩
  refine q_isIn I hS (fun a1 a2 => ?_) (fun a => ?_)
  · rw [e0] at a2
    obtain ⟨j, hj, rfl⟩ := rm1 (by omega) a1 a2
    have j8 : j / 2 < 8 := by omega
    have g4 : s.1 80 (32 + 3 * (j / 2)) = nI (f 4 (j / 2)) := hA.1 4 (j / 2) (by decide) j8
    have b4 : f 4 (j / 2) < 2 := hB.2.1 4 (j / 2) j8
    refine xbr_f n10 ?_
    refine And.intro (by decide +kernel) ?_
    refine q_scopeAt I hS (j := j / 2) (dv2 (by omega)) ?_
    refine ⟨32 + 3 * (j / 2), ⟨by omega, by rw [nad]; congr 1; omega⟩, ?_⟩
    by_cases h4 : f 4 (j / 2) = 0
    · exact xbr_t (by rw [g4, h4]) ⟨bo, h1 j ⟨by omega, h4⟩ rfl⟩
    · refine xbr_f (by rw [g4]; exact zne h4 (by omega) (by decide)) ⟨bz, h0 (fun i hi ei => ?_)⟩
      have := okH16 hB hi
      have := zeq (by omega) (by omega) ei
      subst this
      exact h4 hi.2
  · rw [e0] at a
    refine xbr_t rfl ⟨bz, h0 (fun i hi ei => ?_)⟩
    exact rm2 (by omega) a i (by have := hi.1; omega) ei
theorem q_layAll (I : xRl X P) (hS : S ≤ 128) (hA : FA (s.1 80) f ru) (hW : MW s f) (hB : FB f) (hX : TXM s (f 0 15) dn) (hd : ∀ t, t < f 0 15 → ∀ c, c < 4 → TDs c (dn t c)) (hr : rdn ru (f 0 15) dn dr) (hN : NMd s e) (he : EB e) {x : Int32} {h : Nat} (ex : x = nI h) (hh : h < 24) (k : ∀ s' : xS, (∃ e', NMd s' e' ∧ EB e') → fR s s' → WM2 s' (8 * cc f) (wk f dr (f 0 13)) → (∀ j, j < 2 * f 0 12 → LV s' (8 * cc f) j (snv f dr (f 2 (j / 2)) h j) (slv f dr (f 2 (j / 2)) h j)) → Q none s') : P (d + 10) (L0 S) 204 [.ref 79, .int x] s Q := by
  subst ex
  have hcc := hB.cc16
  have hn8 := hB.1.1
  have hn13 := hB.1.2.1
  have e3 : s.1 80 3 = nI (f 0 13) := hA.2.2.2.2.2.1
  have loop : ∀ m i, i + m = 2 * f 0 12 → ∀ s' : xS, (∃ e', NMd s' e' ∧ EB e') → fR s s' → WM2 s' (8 * cc f) (wk f dr (f 0 13)) → (∀ j, j < i → LV s' (8 * cc f) j (snv f dr (f 2 (j / 2)) h j) (slv f dr (f 2 (j / 2)) h j)) → X (d + 9) mX11_layAll Q (L0 S) 12 [some (.ref 79), some (.int (nI h)), some (.int (nI i))] [] s' := by
    intro m
    induction m with
    | zero =>
      intro i hi s' N' f' w' v'
      have hi : i = 2 * f 0 12 := hi
      subst hi
      have e0 : nI 2 * s'.1 80 0 = nI (2 * f 0 12) := by rw [(f'.FA hA).2.2.1, nml]
      refine rn I [] 99 ?_
      refine ⟨0, ⟨by decide, rfl⟩, ?_⟩
      refine xbr_f (by rw [e0]; exact znl (Nat.le_refl _) (by omega)) ?_
      exact k s' N' f' w' v'
    | succ m ih =>
      intro i hi s' ⟨e', N', E'⟩ f' w' v'
      have A' := f'.FA hA
      have e0 : nI 2 * s'.1 80 0 = nI (2 * f 0 12) := by rw [A'.2.2.1, nml]
      have i8 : i / 2 < 8 := by omega
      have g2 : s'.1 80 (30 + 3 * (i / 2)) = nI (f 2 (i / 2)) := A'.1 2 (i / 2) (by decide) i8
      have b2 : f 2 (i / 2) < cc f := hB.2.1 2 (i / 2) i8
      refine rn I [12] 99 ?_
      refine ⟨0, ⟨by decide, rfl⟩, ?_⟩
      refine xbr_t (by rw [e0]; exact zlt (by omega) (by omega)) ?_
      refine And.intro (by decide +kernel) ?_
      refine q_scopeAt I hS (j := i / 2) (dv2 (by omega)) ?_
      refine ⟨30 + 3 * (i / 2), ⟨by omega, rfl⟩, ?_⟩
      refine q_lay I hS A' (f'.MW hW) hB (f'.TX hX) hd hr N' E' (j := i) (by omega) b2 hh g2 (fun s1 N1 f1 v1 => ?_)
      have q := ih (i + 1) (by omega) s1 N1 (f'.tr f1.r) (f1.wm w') (fun j hj => by
        by_cases ej : j = i
        · subst ej
          exact v1
        · exact f1.lv (by omega) ej (v' j (by omega)))
      rw [n1s i] at q
      exact q
  refine inX11_layAll I (L0ok hS) ?_
  refine rn I [12] 99 ?_
  refine ⟨3, ⟨by decide, rfl⟩, ?_⟩
  refine q_findX I hS hA hW hB hX hd hr hN he (k := f 0 13) e3 (by omega) (fun s1 N1 f1 w1 a1 => ?_)
  exact loop (2 * f 0 12) 0 (by omega) s1 N1 f1.r w1 (fun j hj => absurd hj (Nat.not_lt_zero _))
theorem q_sure (I : xRl X P) (hS : S ≤ 128) (hA : FA (s.1 80) f ru) (hW : MW s f) (hB : FB f) (hX : TXM s (f 0 15) dn) (hd : ∀ t, t < f 0 15 → ∀ c, c < 4 → TDs c (dn t c)) (hr : rdn ru (f 0 15) dn dr) (hN : NMd s e) (he : EB e) {c1 c2 c3 : Int32} (h1 : ∀ v, SU f dr c1 c2 c3 v → ∀ s' : xS, (∃ e', NMd s' e' ∧ EB e') → fR s s' → Q (some (.long (lN v))) s') (h0 : (∀ v, ¬ SU f dr c1 c2 c3 v) → Q (some (.long (-(lN 1)))) s) : P (d + 11) (L0 S) 205 [.ref 79, .int c1, .int c2, .int c3] s Q := by
  have hcc := hB.cc16
  have hn8 := hB.1.1
  have hn13 := hB.1.2.1
  have nz2 : ¬ nI 2 = nI 0 := by decide +kernel
  have F37 : (∀ v, ¬ SU f dr c1 c2 c3 v) → X (d + 10) mX11_sure Q (L0 S) 37 [some (.ref 79), some (.int c1), some (.int c2), some (.int c3)] [] s := by
    intro hn
    refine rn I [] 99 ?_
    exact h0 hn
  have T41 : ∀ (j h : Nat), okH f j → c1 = nI j → h < 24 → c3 = nI h → (c2 = -(nI 1) ∨ ∃ j2, okH f j2 ∧ c2 = nI j2 ∧ j / 2 ≠ j2 / 2) → X (d + 10) mX11_sure Q (L0 S) 41 [some (.ref 79), some (.int c1), some (.int c2), some (.int c3)] [] s := by
    intro j h ho ec1 hh ec3 hal
    have hj := okH16 hB ho
    have hj2' : j < 2 * f 0 12 := by have := ho.1; omega
    refine rn I [] 99 ?_
    refine q_layAll I hS hA hW hB hX hd hr hN he ec3 hh (fun s1 N1 f1 w1 v1 => ?_)
    rcases hal with e2 | ⟨j2, ho2, ec2, hne⟩
    · refine xbr_t e2 ?_
      exact q_sureBy I hS (f1.MW hW) hB ec1 hj w1 (wkb (by omega)) (v1 j hj2') snv_le slv_le (h1 _ ⟨j, h, ho, ec1, hh, ec3, Or.inl ⟨e2, rfl⟩⟩ s1 N1 f1)
    · have h2 := okH16 hB ho2
      refine xbr_f (by rw [ec2]; exact zm1n (by omega)) ?_
      have k := h1 _ ⟨j, h, ho, ec1, hh, ec3, Or.inr ⟨j2, ho2, ec2, hne, rfl⟩⟩ s1 N1 f1
      show P _ _ _ [.ref 79, .int c1, .int c2] _ _
      rw [ec1, ec2]
      exact q_sureByTwo I hS (f1.MW hW) hB hj h2 w1 (wkb (by omega)) (v1 j hj2') (v1 j2 (by have := ho2.1; omega)) snv_le slv_le snv_le slv_le k
  refine inX11_sure I (L0ok hS) ?_
  refine rn I [37, 41] 99 ?_
  refine q_canAsk I hS hA hB (fun j ho ej => ?_) (fun hc => ?_)
  · refine xbr_f n10 ?_
    refine q_isHour I hS (fun h hh eh => ?_) (fun hc => ?_)
    · refine xbr_f n10 ?_
      refine xbr_c (fun q => T41 j h ho ej hh eh (Or.inl q)) (fun q => ?_)
      refine q_canAsk I hS hA hB (fun j2 ho2 ej2 => ?_) (fun hc => ?_)
      · refine xbr_f n10 ?_
        refine And.intro nz2 (And.intro nz2 ?_)
        have hj := okH16 hB ho
        have hj2 := okH16 hB ho2
        have d1 : c1 / nI 2 = nI (j / 2) := by rw [ej]; exact dv2 (by omega)
        have d2 : c2 / nI 2 = nI (j2 / 2) := by rw [ej2]; exact dv2 (by omega)
        by_cases hne : j / 2 = j2 / 2
        · refine xbr_t (by rw [d1, d2, hne]) (F37 (fun v ⟨i, _, a1, a2, _, _, a5⟩ => ?_))
          have := okH16 hB a1
          have e1 := zeq (by omega) (by omega) (ej.symm.trans a2)
          rcases a5 with ⟨x1, _⟩ | ⟨i2, x1, x2, x3, _⟩
          · exact q x1
          · have := okH16 hB x1
            have e2 := zeq (by omega) (by omega) (ej2.symm.trans x2)
            subst e1
            subst e2
            exact x3 hne
        · refine xbr_f (by rw [d1, d2]; exact zne (fun z => hne z.symm) (by omega) (by omega)) ?_
          exact T41 j h ho ej hh eh (Or.inr ⟨j2, ho2, ej2, hne⟩)
      · refine xbr_t rfl (F37 (fun v ⟨_, _, _, _, _, _, a5⟩ => ?_))
        rcases a5 with ⟨x1, _⟩ | ⟨i2, x1, x2, _, _⟩
        · exact q x1
        · exact hc i2 x1 x2
    · refine xbr_t rfl (F37 (fun v ⟨_, x, _, _, a3, a4, _⟩ => hc x a3 a4))
  · refine xbr_t rfl (F37 (fun v ⟨i, _, a1, a2, _⟩ => hc i a1 a2))
end RSURE
