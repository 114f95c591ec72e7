/-! spied -/
def drw (d0 : Nat) : Nat → Nat
  | 0 => d0
  | j + 1 => (drw d0 j * 179 + 83) % 30071
theorem drw_b {d0 : Nat} (h : d0 < 30071) : ∀ j, drw d0 j < 30071
  | 0 => h
  | j + 1 => Nat.mod_lt _ (by decide)
theorem cfq_s {f : Nm} {i : Nat} (h : f 4 i = 0) : cfr f (i + 1) = cfr f i + 1 := by
  show cfr f i + (if f 4 i = 0 then 1 else 0) = _
  rw [if_pos h]
theorem cfr_n {f : Nm} {i : Nat} (h : f 4 i ≠ 0) : cfr f (i + 1) = cfr f i := by
  show cfr f i + (if f 4 i = 0 then 1 else 0) = _
  rw [if_neg h]
  rfl
theorem cfr_mono {f : Nm} {i : Nat} : ∀ m, cfr f i ≤ cfr f (i + m)
  | 0 => Nat.le_refl _
  | m + 1 => by
    have := cfr_mono (f := f) (i := i) m
    show cfr f i ≤ cfr f (i + m) + (if f 4 (i + m) = 0 then 1 else 0)
    omega
theorem cfr_lt {f : Nm} {i j : Nat} (h : f 4 i = 0) (hij : i < j) : cfr f i < cfr f j := by
  have := cfr_mono (f := f) (i := i + 1) (j - (i + 1))
  rw [cfq_s h, show i + 1 + (j - (i + 1)) = j by omega] at this
  omega
theorem cfr_inj {f : Nm} {i j : Nat} (hi : f 4 i = 0) (hj : f 4 j = 0) (h : cfr f i = cfr f j) : i = j := by
  rcases Nat.lt_trichotomy i j with z | z | z
  · have := cfr_lt hi z; omega
  · exact z
  · have := cfr_lt hj z; omega
def spo (seen slip d : Nat) : Nat := if d % 10 < slip then (seen + 1) % 10 else seen
def spv (f : Nm) (dr : Nat → Option Dn) (sd st hr k j : Nat) : Nat := spo (sv f dr st j (f 2 j) (f 3 j) ((hr + k / cfr f (f 0 12)) % 24)) (lv f dr st j (f 2 j) (f 3 j) ((hr + k / cfr f (f 0 12)) % 24)) (drw (sd * 3 + 1) k)
def okS (f : Nm) (c1 c2 c3 c4 c5 : Int32) (sd st hr n k : Nat) : Prop := sd ≤ 9999 ∧ c1 = nI sd ∧ st < 8 * cc f ∧ c2 = nI st ∧ hr < 24 ∧ c3 = nI hr ∧ 1 ≤ n ∧ n ≤ 10 ∧ c4 = nI n ∧ k < n * cfr f (f 0 12) ∧ c5 = nI k
section SPIED
variable {X : xXT} {P : xPT} {d S : Nat} {s : xS} {Q : xQ} {f : Nm} {ru : Int32} {e : Nat → Nat} {dn : Nat → Nat → Option Dn} {dr : Nat → Option Dn}
theorem stp30 {a : Nat} (h : a < 30071) : nI a * nI 179 + nI 83 - (nI a * nI 179 + nI 83) / nI 30071 * nI 30071 = nI ((a * 179 + 83) % 30071) := by
  rw [nml, nad]
  exact pk_rem (by omega) (by decide) (by decide)
theorem m_Spied (I : xRl X P) (hS : S ≤ 128) (hF : FC s.1 1 f ru) (hB : FB f) (hX : TXC s (f 0 15) dn) (hr : rdn ru (f 0 15) dn dr) (hT : TR dr) (hN : NC s e) (he : EB e) {c1 c2 c3 c4 c5 : Int32} (h1 : ∀ sd st hh n k j, okS f c1 c2 c3 c4 c5 sd st hh n k → j < f 0 12 → f 4 j = 0 → cfr f j = k % cfr f (f 0 12) → ∀ s' : xS, (∃ e', NC s' e' ∧ EB e') → fO s s' → Q (some (.int (nI (spv f dr sd st hh k j)))) s') (h0 : (∀ sd st hh n k, ¬ okS f c1 c2 c3 c4 c5 sd st hh n k) → Q (some (.int (-(nI 1)))) s) : P (d + 7) (L0 S) 117 [.ref 0, .int c1, .int c2, .int c3, .int c4, .int c5] s Q := by
  have hn8 := hB.1.1
  have hcc := hB.cc16
  have fl := cfr_le f (f 0 12)
  have F29 : (∀ sd st hh n k, ¬ okS f c1 c2 c3 c4 c5 sd st hh n k) → X (d + 6) mX10_spied Q (L0 S) 29 [some (.ref 0), some (.int c1), some (.int c2), some (.int c3), some (.int c4), some (.int c5), none, none, none, none] [] s := by
    intro hn
    refine rn I [] 99 ?_
    exact h0 hn
  have F68 : (∀ sd st hh n k, ¬ okS f c1 c2 c3 c4 c5 sd st hh n k) → X (d + 6) mX10_spied Q (L0 S) 68 [some (.ref 0), some (.int c1), some (.int c2), some (.int c3), some (.int c4), some (.int c5), some (.int (nI (cfr f (f 0 12)))), none, none, none] [] s := by
    intro hn
    refine rn I [] 99 ?_
    exact h0 hn
  refine inX10_spied I (L0ok hS) ?_
  refine rn I [29, 68, 80] 99 ?_
  refine xbr_c (fun q => F29 (fun sd st hh n k ⟨a, b, _⟩ => by rw [b] at q; exact zn0 (by omega) q)) (fun q1 => ?_)
  refine xbr_c (fun q => F29 (fun sd st hh n k ⟨a, b, _⟩ => by rw [b] at q; exact znl a (by omega) q)) (fun q2 => ?_)
  obtain ⟨sd, _, sd9, rfl⟩ := rng (n := 9999) (by decide) (by decide) q1 q2
  refine m_hasState I hS hF hB (fun st hst est => ?_) (fun hc => ?_)
  · subst est
    refine xbr_f n10 ?_
    refine m_isHour I hS (fun hh hhh eh => ?_) (fun hc => ?_)
    · subst eh
      refine xbr_f n10 ?_
      refine m_countFree I hS hF hB ?_
      refine xbr_c (fun q => F68 (fun _ _ _ n k ⟨_, _, _, _, _, _, a, b, c, _⟩ => by rw [c] at q; exact znl a (by omega) q)) (fun q3 => ?_)
      refine xbr_c (fun q => F68 (fun _ _ _ n k ⟨_, _, _, _, _, _, a, b, c, _⟩ => by rw [c] at q; exact znl b (by omega) q)) (fun q4 => ?_)
      obtain ⟨n, n1, n10', rfl⟩ := rng (n := 10) (by decide) (by decide) q3 q4
      have nf : n * cfr f (f 0 12) ≤ 10 * 8 := Nat.mul_le_mul n10' (by omega)
      refine xbr_c (fun q => F68 (fun _ _ _ n' k ⟨_, _, _, _, _, _, a, b, c, g, h⟩ => by
        have : n' * cfr f (f 0 12) ≤ 10 * 8 := Nat.mul_le_mul b (by omega)
        rw [h] at q
        exact zn0 (by omega) q)) (fun q5 => ?_)
      by_cases hk : ∃ k, k < n * cfr f (f 0 12) ∧ c5 = nI k
      · obtain ⟨k, hk, rfl⟩ := hk
        refine xbr_t (by rw [nml]; exact zlt hk (by omega)) ?_
        have hcf : 0 < cfr f (f 0 12) := Nat.pos_of_ne_zero (fun z => by rw [z, Nat.mul_zero] at hk; exact Nat.not_lt_zero _ hk)
        have nzf : ¬ nI (cfr f (f 0 12)) = nI 0 := zne (by omega) (by omega) (by decide)
        have hok : ∀ j, j < f 0 12 → f 4 j = 0 → cfr f j = k % cfr f (f 0 12) → ∀ s' : xS, (∃ e', NC s' e' ∧ EB e') → fO s s' → Q (some (.int (nI (spv f dr sd st hh k j)))) s' := fun j a b c => h1 sd st hh n k j ⟨sd9, rfl, hst, rfl, hhh, rfl, n1, n10', rfl, hk, rfl⟩ a b c
        clear h0 F29 F68 h1
        have d0 : nI sd * nI 3 + nI 1 = nI (sd * 3 + 1) := by rw [nml, nad]
        have db := drw_b (d0 := sd * 3 + 1) (by omega)
        have kf : k % cfr f (f 0 12) < cfr f (f 0 12) := Nat.mod_lt _ hcf
        have kd : k / cfr f (f 0 12) ≤ k := Nat.div_le_self _ _
        have kk : nI k - nI k / nI (cfr f (f 0 12)) * nI (cfr f (f 0 12)) = nI (k % cfr f (f 0 12)) := pk_rem (by omega) hcf (by omega)
        have kv : nI k / nI (cfr f (f 0 12)) = nI (k / cfr f (f 0 12)) := pk_div (by omega) hcf (by omega)
        have loop : ∀ m i, i + m = k → X (d + 6) mX10_spied Q (L0 S) 80 [some (.ref 0), some (.int (nI sd)), some (.int (nI st)), some (.int (nI hh)), some (.int (nI n)), some (.int (nI k)), some (.int (nI (cfr f (f 0 12)))), some (.int (nI (drw (sd * 3 + 1) i))), some (.int (nI i)), none] [] s := by
          intro m
          induction m with
          | zero =>
            intro i hi
            have hi : i = k := hi
            subst hi
            refine rn I [] 99 ?_
            refine xbr_f (znl (Nat.le_refl _) (by omega)) ?_
            refine And.intro nzf ?_
            rw [kk]
            refine m_freeScope I hS hF hB (by omega) (fun j hj fj cj => ?_) (fun hn => ?_)
            · refine xbr_f (zm1n (by omega)) ?_
              have hj8 : j < 8 := by omega
              have b2 : f 2 j < cc f := hB.2.1 2 j hj8
              have b3 : f 3 j < 2 := hB.2.1 3 j hj8
              have z01 := fce01 (f := f) (st := st) (e := e) hB hst
              refine m_face I hS hF hB hN hst (fun s1 N1 f1 => ?_)
              have F1 := f1.FC (k := 1) (by decide) hF
              have g2 : s1.1 3 j = nI (f 2 j) := F1.1 2 j hj8
              have g3 : s1.1 4 j = nI (f 3 j) := F1.1 3 j hj8
              refine ⟨j, ⟨hj8, rfl⟩, ?_⟩
              refine ⟨j, ⟨hj8, rfl⟩, ?_⟩
              refine And.intro nzf ?_
              refine And.intro (by decide +kernel) ?_
              have hm : nI hh + nI i / nI (cfr f (f 0 12)) - (nI hh + nI i / nI (cfr f (f 0 12))) / nI 24 * nI 24 = nI ((hh + i / cfr f (f 0 12)) % 24) := by rw [kv, nad]; exact pk_rem (by omega) (by decide) (by decide)
              rw [g2, g3, hm]
              have h24 : (hh + i / cfr f (f 0 12)) % 24 < 24 := Nat.mod_lt _ (by decide)
              refine m_aim I hS F1 hB N1 (fce_b hB hst he) b2 b3 (fun s2 N2 f2 => ?_)
              have f12 := f1.tr f2
              have F2 := f12.FC (k := 1) (by decide) hF
              have X2 := f12.TXC hB.1.2.2.2 hX
              have E2 : EB (aie f j (f 2 j) (f 3 j) ((hh + i / cfr f (f 0 12)) % 24) (fce f st e)) := aie_b (by omega) (by omega) (by omega) (by omega) z01.1 z01.2 (fce_b hB hst he)
              refine m_tell I hS F2 hB X2 hr N2 E2 (by decide) (fun s3 f3 => ?_)
              rw [sv_e hT]
              refine And.intro (by decide +kernel) ?_
              have f13 := f12.tr f3.o
              refine m_tell I hS (f13.FC (k := 1) (by decide) hF) hB (f13.TXC hB.1.2.2.2 hX) hr (N2.same f3) E2 (by decide) (fun s4 f4 => ?_)
              rw [lv_e hT]
              have k4 := hok j hj fj cj s4 ⟨_, (N2.same f3).same f4, E2⟩ (f13.tr f4.o)
              have r10 : nI (drw (sd * 3 + 1) i) - nI (drw (sd * 3 + 1) i) / nI 10 * nI 10 = nI (drw (sd * 3 + 1) i % 10) := pk_rem (by have := db i; omega) (by decide) (by decide)
              have lb : lv f dr st j (f 2 j) (f 3 j) ((hh + i / cfr f (f 0 12)) % 24) ≤ 9 := lv_le
              have sb : sv f dr st j (f 2 j) (f 3 j) ((hh + i / cfr f (f 0 12)) % 24) ≤ 9 := sv_le
              unfold spv spo at k4
              by_cases hc : drw (sd * 3 + 1) i % 10 < lv f dr st j (f 2 j) (f 3 j) ((hh + i / cfr f (f 0 12)) % 24)
              · refine xbr_t (by rw [r10]; exact zlt hc (by omega)) ?_
                rw [if_pos hc] at k4
                exact m_oneMore I hS (by omega) k4
              · refine xbr_f (by rw [r10]; exact znl (by omega) (by omega)) ?_
                rw [if_neg hc] at k4
                exact k4
            · exfalso
              have ex : ∀ m, m ≤ f 0 12 → i % cfr f (f 0 12) < cfr f m → ∃ j, j < m ∧ f 4 j = 0 ∧ cfr f j = i % cfr f (f 0 12) := by
                intro m
                induction m with
                | zero => intro _ z; exact absurd z (Nat.not_lt_zero _)
                | succ m ihm =>
                  intro hm z
                  by_cases fm : f 4 m = 0
                  · rw [cfq_s fm] at z
                    by_cases zz : i % cfr f (f 0 12) < cfr f m
                    · obtain ⟨j, a, b⟩ := ihm (by omega) zz
                      exact ⟨j, by omega, b⟩
                    · exact ⟨m, by omega, fm, by omega⟩
                  · rw [cfr_n fm] at z
                    obtain ⟨j, a, b⟩ := ihm (by omega) z
                    exact ⟨j, by omega, b⟩
              obtain ⟨j, a, b, c⟩ := ex (f 0 12) (Nat.le_refl _) kf
              exact hn j a b c
          | succ m ih =>
            intro i hi
            have q := ih (i + 1) (by omega)
            refine rn I [80] 99 ?_
            refine xbr_t (zlt (by omega) (by omega)) ?_
            refine And.intro (by decide +kernel) ?_
            rw [show drw (sd * 3 + 1) (i + 1) = (drw (sd * 3 + 1) i * 179 + 83) % 30071 from rfl, ← stp30 (db i), n1s i] at q
            exact q
        have q := loop k 0 (by omega)
        rw [show drw (sd * 3 + 1) 0 = sd * 3 + 1 from rfl, ← d0] at q
        exact q
      · refine xbr_f (fun z => ?_) (F68 (fun _ _ _ n' k ⟨_, _, _, _, _, _, a, b, c, g, h⟩ => hk ⟨k, by rw [zeq (by omega) (by omega) c]; exact g, h⟩))
        obtain ⟨m, hm, rfl⟩ := nI_of (x := c5) (by rw [← nI_0]; exact q5)
        rw [nml] at z
        exact hk ⟨m, zlt' hm (by omega) z, rfl⟩
    · refine xbr_t rfl ?_
      exact F29 (fun _ _ x _ _ ⟨_, _, _, _, a, b, _⟩ => hc x a b)
  · refine xbr_t rfl ?_
    exact F29 (fun _ x _ _ _ ⟨_, _, a, b, _⟩ => hc x a b)
end SPIED
