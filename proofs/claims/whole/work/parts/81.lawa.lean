/-! the law's calls: the fort (by program mk81.py) -/
section LAWA
variable {X : xXT} {P : xPT} {d S : Nat} {Q : xQ}
set_option maxRecDepth 20000 in
theorem law_0 (I : xRk X P) (hS : S ≤ 128) {N i : Nat} {sc : Nat → Int32} {s : xS} (hs : LI S N sc s) (hi : i + 6 ≤ N) (hN : N ≤ 3074) (h : ∀ s' : xS, LI S N sc s' → X (d + 99) mL_law Q (L0 S) 1047 [some (.ref 900), some (.ref 0), some (.ref 79), some (.int (nI i))] [] s') : X (d + 99) mL_law Q (L0 S) 168 [some (.ref 900), some (.ref 0), some (.ref 79), some (.int (nI i))] [] s := by
  have hs0 := hs
  obtain ⟨e900, e901, f, ru, g, rk, n, t, dn, hL⟩ := hs
  have hL0 := hL
  obtain ⟨⟨F1, F12, A80, A81⟩, ⟨B, Bg, wg, t15, rv, rvk⟩, ⟨tc, tm, n3, tb⟩, ⟨ft1, ft2⟩, ⟨e59, eS, mw⟩, ⟨xc, xm⟩, nc, nmd⟩ := hL
  have SR : ∀ (q : xS) (k : Nat), q.1 901 = s.1 901 → k ≤ 5 → nI (i + k) < q.1 901 0 ∧ i + k < 2 ^ 31 ∧ nI i + nI k = nI (i + k) := fun q k e hk => ⟨by rw [e, e901]; exact zlt (by omega) (by omega), by omega, nad i k⟩
  have c16 := B.cc16
  have b8 := B.1.1
  refine rn I.1 [1047] 99 ?_
  refine ⟨i + 1, SR s 1 rfl (by decide), ?_⟩
  refine ⟨i + 2, SR s 2 rfl (by decide), ?_⟩
  refine m_Hill I.1 hS F1 B (fun j v hj ej hv ev s1 F' o1 _ => ?_) (fun no => ?_)
  · have E : s1.1 900 = s.1 900 := o1 900 (Or.inr (by decide))
    obtain ⟨a80, a81, mw1, xm1, tm1, nmd1⟩ := hL0.r (s1 := s1) (fun q hq => o1 q (Or.inr (by omega)))
    refine ⟨i + 1, SR s1 1 (o1 901 (Or.inr (by decide))) (by decide), ?_⟩
    refine ⟨i + 2, SR s1 2 (o1 901 (Or.inr (by decide))) (by decide), ?_⟩
    refine q_hill I.1 hS mw1 a80 B (fun j' v' hj' ej' hv' ev' s2 A' o2 _ => ?_) (fun no => absurd ⟨j, v, hj, by rw [E]; exact ej, hv, by rw [E]; exact ev⟩ no)
    rw [E] at ej' ev'
    have e1 : j' = j := zeq (by omega) (by omega) (ej'.symm.trans ej)
    have e2 : v' = v := zeq (by omega) (by omega) (ev'.symm.trans ev)
    subst e1
    subst e2
    exact xbr_t rfl (h s2 (LI_A e900 e901 hL0 F' o1 A' o2 (B.put (by decide) hv) (nu_n (by omega)) (nu_n (by omega)) (nu_n (by omega)) rv))
  · refine ⟨i + 1, SR s 1 rfl (by decide), ?_⟩
    refine ⟨i + 2, SR s 2 rfl (by decide), ?_⟩
    exact q_hill I.1 hS mw A80 B (fun j v hj ej hv ev => absurd ⟨j, v, hj, ej, hv, ev⟩ no) (fun _ => xbr_t rfl (h s hs0))
set_option maxRecDepth 20000 in
theorem law_1 (I : xRk X P) (hS : S ≤ 128) {N i : Nat} {sc : Nat → Int32} {s : xS} (hs : LI S N sc s) (hi : i + 6 ≤ N) (hN : N ≤ 3074) (h : ∀ s' : xS, LI S N sc s' → X (d + 99) mL_law Q (L0 S) 1047 [some (.ref 900), some (.ref 0), some (.ref 79), some (.int (nI i))] [] s') : X (d + 99) mL_law Q (L0 S) 201 [some (.ref 900), some (.ref 0), some (.ref 79), some (.int (nI i))] [] s := by
  have hs0 := hs
  obtain ⟨e900, e901, f, ru, g, rk, n, t, dn, hL⟩ := hs
  have hL0 := hL
  obtain ⟨⟨F1, F12, A80, A81⟩, ⟨B, Bg, wg, t15, rv, rvk⟩, ⟨tc, tm, n3, tb⟩, ⟨ft1, ft2⟩, ⟨e59, eS, mw⟩, ⟨xc, xm⟩, nc, nmd⟩ := hL
  have SR : ∀ (q : xS) (k : Nat), q.1 901 = s.1 901 → k ≤ 5 → nI (i + k) < q.1 901 0 ∧ i + k < 2 ^ 31 ∧ nI i + nI k = nI (i + k) := fun q k e hk => ⟨by rw [e, e901]; exact zlt (by omega) (by omega), by omega, nad i k⟩
  have c16 := B.cc16
  have b8 := B.1.1
  refine rn I.1 [1047] 99 ?_
  refine ⟨i + 1, SR s 1 rfl (by decide), ?_⟩
  refine m_Scope I.1 hS F1 B (fun j hj ej h8 s1 F' o1 _ => ?_) (fun no => ?_)
  · have E : s1.1 900 = s.1 900 := o1 900 (Or.inr (by decide))
    obtain ⟨a80, a81, mw1, xm1, tm1, nmd1⟩ := hL0.r (s1 := s1) (fun q hq => o1 q (Or.inr (by omega)))
    refine ⟨i + 1, SR s1 1 (o1 901 (Or.inr (by decide))) (by decide), ?_⟩
    refine q_scope I.1 hS mw1 a80 B (fun j' hj' ej' h8' s2 A' o2 _ => ?_) (fun no => no.elim (fun z => absurd (by rw [E]; exact ej) (z j hj)) (fun z => by omega))
    rw [E] at ej'
    have e1 : j' = j := zeq (by omega) (by omega) (ej'.symm.trans ej)
    subst e1
    obtain ⟨B', sm⟩ := FB_plc B hj h8
    exact xbr_t rfl (h s2 (LI_A e900 e901 hL0 F' o1 A' o2 B' sm.1 sm.2.1 sm.2.2 rv))
  · refine ⟨i + 1, SR s 1 rfl (by decide), ?_⟩
    exact q_scope I.1 hS mw A80 B (fun j hj ej h8 => no.elim (fun z => absurd ej (z j hj)) (fun z => by omega)) (fun _ => xbr_t rfl (h s hs0))
set_option maxRecDepth 20000 in
theorem law_2 (I : xRk X P) (hS : S ≤ 128) {N i : Nat} {sc : Nat → Int32} {s : xS} (hs : LI S N sc s) (hi : i + 6 ≤ N) (hN : N ≤ 3074) (h : ∀ s' : xS, LI S N sc s' → X (d + 99) mL_law Q (L0 S) 1047 [some (.ref 900), some (.ref 0), some (.ref 79), some (.int (nI i))] [] s') : X (d + 99) mL_law Q (L0 S) 224 [some (.ref 900), some (.ref 0), some (.ref 79), some (.int (nI i))] [] s := by
  have hs0 := hs
  obtain ⟨e900, e901, f, ru, g, rk, n, t, dn, hL⟩ := hs
  have hL0 := hL
  obtain ⟨⟨F1, F12, A80, A81⟩, ⟨B, Bg, wg, t15, rv, rvk⟩, ⟨tc, tm, n3, tb⟩, ⟨ft1, ft2⟩, ⟨e59, eS, mw⟩, ⟨xc, xm⟩, nc, nmd⟩ := hL
  have SR : ∀ (q : xS) (k : Nat), q.1 901 = s.1 901 → k ≤ 5 → nI (i + k) < q.1 901 0 ∧ i + k < 2 ^ 31 ∧ nI i + nI k = nI (i + k) := fun q k e hk => ⟨by rw [e, e901]; exact zlt (by omega) (by omega), by omega, nad i k⟩
  have c16 := B.cc16
  have b8 := B.1.1
  refine rn I.1 [1047] 99 ?_
  refine ⟨i + 1, SR s 1 rfl (by decide), ?_⟩
  refine ⟨i + 2, SR s 2 rfl (by decide), ?_⟩
  by_cases z : s.1 900 (i + 2) = nI 0
  · refine xbr_t (z) ?_
    refine m_Turn I.1 hS F1 B (v := 0) (by decide) (fun j hj ej hz => ?_) (fun j hj ej hz s1 F' o1 _ => ?_) (fun no => ?_)
    · refine ⟨i + 1, SR s 1 rfl (by decide), ?_⟩
      refine ⟨i + 2, SR s 2 rfl (by decide), ?_⟩
      refine xbr_t (z) ?_
      exact q_turn I.1 hS A80 B (v := 0) (by decide) (fun j' hj' ej' _ => xbr_t rfl (h s hs0)) (fun j' hj' ej' z => absurd (by rw [zeq (by omega) (by omega) (ej'.symm.trans ej)]; exact hz) z) (fun no => absurd ej (no j hj))
    · have E : s1.1 900 = s.1 900 := o1 900 (Or.inr (by decide))
      obtain ⟨a80, a81, mw1, xm1, tm1, nmd1⟩ := hL0.r (s1 := s1) (fun q hq => o1 q (Or.inr (by omega)))
      refine ⟨i + 1, SR s1 1 (o1 901 (Or.inr (by decide))) (by decide), ?_⟩
      refine ⟨i + 2, SR s1 2 (o1 901 (Or.inr (by decide))) (by decide), ?_⟩
      refine xbr_t ((by rw [E]; exact z)) ?_
      refine q_turn I.1 hS a80 B (v := 0) (by decide) (fun j' hj' ej' z => ?_) (fun j' hj' ej' _ s2 A' o2 _ => ?_) (fun no => absurd (by rw [E]; exact ej) (no j hj))
      · rw [E] at ej'
        exact absurd (by rw [← zeq (by omega) (by omega) (ej'.symm.trans ej)]; exact z) hz
      · rw [E] at ej'
        have e1 : j' = j := zeq (by omega) (by omega) (ej'.symm.trans ej)
        subst e1
        obtain ⟨B', sm⟩ := FB_adst (j := j') (l := 0) (B.put (j := 3) (x := j') (v := 0) (by decide) (by show 0 < 2; decide)) (by omega) (by decide)
        have sm := (SM3.nu (f := f) (j := 3) (x := j') (v := 0) (Or.inl (by decide))).tr sm
        exact xbr_t rfl (h s2 (LI_A e900 e901 hL0 F' o1 A' o2 B' sm.1 sm.2.1 sm.2.2 rv))
    · refine ⟨i + 1, SR s 1 rfl (by decide), ?_⟩
      refine ⟨i + 2, SR s 2 rfl (by decide), ?_⟩
      refine xbr_t (z) ?_
      exact q_turn I.1 hS A80 B (v := 0) (by decide) (fun j hj ej _ => absurd ej (no j hj)) (fun j hj ej _ => absurd ej (no j hj)) (fun _ => xbr_t rfl (h s hs0))
  · refine xbr_f (z) ?_
    refine m_Turn I.1 hS F1 B (v := 1) (by decide) (fun j hj ej hz => ?_) (fun j hj ej hz s1 F' o1 _ => ?_) (fun no => ?_)
    · refine ⟨i + 1, SR s 1 rfl (by decide), ?_⟩
      refine ⟨i + 2, SR s 2 rfl (by decide), ?_⟩
      refine xbr_f (z) ?_
      exact q_turn I.1 hS A80 B (v := 1) (by decide) (fun j' hj' ej' _ => xbr_t rfl (h s hs0)) (fun j' hj' ej' z => absurd (by rw [zeq (by omega) (by omega) (ej'.symm.trans ej)]; exact hz) z) (fun no => absurd ej (no j hj))
    · have E : s1.1 900 = s.1 900 := o1 900 (Or.inr (by decide))
      obtain ⟨a80, a81, mw1, xm1, tm1, nmd1⟩ := hL0.r (s1 := s1) (fun q hq => o1 q (Or.inr (by omega)))
      refine ⟨i + 1, SR s1 1 (o1 901 (Or.inr (by decide))) (by decide), ?_⟩
      refine ⟨i + 2, SR s1 2 (o1 901 (Or.inr (by decide))) (by decide), ?_⟩
      refine xbr_f ((by rw [E]; exact z)) ?_
      refine q_turn I.1 hS a80 B (v := 1) (by decide) (fun j' hj' ej' z => ?_) (fun j' hj' ej' _ s2 A' o2 _ => ?_) (fun no => absurd (by rw [E]; exact ej) (no j hj))
      · rw [E] at ej'
        exact absurd (by rw [← zeq (by omega) (by omega) (ej'.symm.trans ej)]; exact z) hz
      · rw [E] at ej'
        have e1 : j' = j := zeq (by omega) (by omega) (ej'.symm.trans ej)
        subst e1
        obtain ⟨B', sm⟩ := FB_adst (j := j') (l := 0) (B.put (j := 3) (x := j') (v := 1) (by decide) (by show 1 < 2; decide)) (by omega) (by decide)
        have sm := (SM3.nu (f := f) (j := 3) (x := j') (v := 1) (Or.inl (by decide))).tr sm
        exact xbr_t rfl (h s2 (LI_A e900 e901 hL0 F' o1 A' o2 B' sm.1 sm.2.1 sm.2.2 rv))
    · refine ⟨i + 1, SR s 1 rfl (by decide), ?_⟩
      refine ⟨i + 2, SR s 2 rfl (by decide), ?_⟩
      refine xbr_f (z) ?_
      exact q_turn I.1 hS A80 B (v := 1) (by decide) (fun j hj ej _ => absurd ej (no j hj)) (fun j hj ej _ => absurd ej (no j hj)) (fun _ => xbr_t rfl (h s hs0))
set_option maxRecDepth 20000 in
theorem law_3 (I : xRk X P) (hS : S ≤ 128) {N i : Nat} {sc : Nat → Int32} {s : xS} (hs : LI S N sc s) (hi : i + 6 ≤ N) (hN : N ≤ 3074) (h : ∀ s' : xS, LI S N sc s' → X (d + 99) mL_law Q (L0 S) 1047 [some (.ref 900), some (.ref 0), some (.ref 79), some (.int (nI i))] [] s') : X (d + 99) mL_law Q (L0 S) 273 [some (.ref 900), some (.ref 0), some (.ref 79), some (.int (nI i))] [] s := by
  have hs0 := hs
  obtain ⟨e900, e901, f, ru, g, rk, n, t, dn, hL⟩ := hs
  have hL0 := hL
  obtain ⟨⟨F1, F12, A80, A81⟩, ⟨B, Bg, wg, t15, rv, rvk⟩, ⟨tc, tm, n3, tb⟩, ⟨ft1, ft2⟩, ⟨e59, eS, mw⟩, ⟨xc, xm⟩, nc, nmd⟩ := hL
  have SR : ∀ (q : xS) (k : Nat), q.1 901 = s.1 901 → k ≤ 5 → nI (i + k) < q.1 901 0 ∧ i + k < 2 ^ 31 ∧ nI i + nI k = nI (i + k) := fun q k e hk => ⟨by rw [e, e901]; exact zlt (by omega) (by omega), by omega, nad i k⟩
  have c16 := B.cc16
  have b8 := B.1.1
  refine rn I.1 [1047] 99 ?_
  refine ⟨i + 1, SR s 1 rfl (by decide), ?_⟩
  refine ⟨i + 2, SR s 2 rfl (by decide), ?_⟩
  by_cases z : s.1 900 (i + 2) = nI 0
  · refine xbr_t (z) ?_
    refine m_Lend I.1 hS F1 B (v := 0) (by decide) (fun j hj ej hz => ?_) (fun j hj ej hz s1 F' o1 _ => ?_) (fun no => ?_)
    · refine ⟨i + 1, SR s 1 rfl (by decide), ?_⟩
      refine ⟨i + 2, SR s 2 rfl (by decide), ?_⟩
      refine xbr_t (z) ?_
      exact q_lend I.1 hS A80 B (v := 0) (by decide) (fun j' hj' ej' _ => xbr_t rfl (h s hs0)) (fun j' hj' ej' z => absurd (by rw [zeq (by omega) (by omega) (ej'.symm.trans ej)]; exact hz) z) (fun no => absurd ej (no j hj))
    · have E : s1.1 900 = s.1 900 := o1 900 (Or.inr (by decide))
      obtain ⟨a80, a81, mw1, xm1, tm1, nmd1⟩ := hL0.r (s1 := s1) (fun q hq => o1 q (Or.inr (by omega)))
      refine ⟨i + 1, SR s1 1 (o1 901 (Or.inr (by decide))) (by decide), ?_⟩
      refine ⟨i + 2, SR s1 2 (o1 901 (Or.inr (by decide))) (by decide), ?_⟩
      refine xbr_t ((by rw [E]; exact z)) ?_
      refine q_lend I.1 hS a80 B (v := 0) (by decide) (fun j' hj' ej' z => ?_) (fun j' hj' ej' _ s2 A' o2 _ => ?_) (fun no => absurd (by rw [E]; exact ej) (no j hj))
      · rw [E] at ej'
        exact absurd (by rw [← zeq (by omega) (by omega) (ej'.symm.trans ej)]; exact z) hz
      · rw [E] at ej'
        have e1 : j' = j := zeq (by omega) (by omega) (ej'.symm.trans ej)
        subst e1
        obtain ⟨B', sm⟩ := FB_adst (j := j') (l := 1) (B.put (j := 4) (x := j') (v := 0) (by decide) (by show 0 < 2; decide)) (by omega) (by decide)
        have sm := (SM3.nu (f := f) (j := 4) (x := j') (v := 0) (Or.inl (by decide))).tr sm
        exact xbr_t rfl (h s2 (LI_A e900 e901 hL0 F' o1 A' o2 B' sm.1 sm.2.1 sm.2.2 rv))
    · refine ⟨i + 1, SR s 1 rfl (by decide), ?_⟩
      refine ⟨i + 2, SR s 2 rfl (by decide), ?_⟩
      refine xbr_t (z) ?_
      exact q_lend I.1 hS A80 B (v := 0) (by decide) (fun j hj ej _ => absurd ej (no j hj)) (fun j hj ej _ => absurd ej (no j hj)) (fun _ => xbr_t rfl (h s hs0))
  · refine xbr_f (z) ?_
    refine m_Lend I.1 hS F1 B (v := 1) (by decide) (fun j hj ej hz => ?_) (fun j hj ej hz s1 F' o1 _ => ?_) (fun no => ?_)
    · refine ⟨i + 1, SR s 1 rfl (by decide), ?_⟩
      refine ⟨i + 2, SR s 2 rfl (by decide), ?_⟩
      refine xbr_f (z) ?_
      exact q_lend I.1 hS A80 B (v := 1) (by decide) (fun j' hj' ej' _ => xbr_t rfl (h s hs0)) (fun j' hj' ej' z => absurd (by rw [zeq (by omega) (by omega) (ej'.symm.trans ej)]; exact hz) z) (fun no => absurd ej (no j hj))
    · have E : s1.1 900 = s.1 900 := o1 900 (Or.inr (by decide))
      obtain ⟨a80, a81, mw1, xm1, tm1, nmd1⟩ := hL0.r (s1 := s1) (fun q hq => o1 q (Or.inr (by omega)))
      refine ⟨i + 1, SR s1 1 (o1 901 (Or.inr (by decide))) (by decide), ?_⟩
      refine ⟨i + 2, SR s1 2 (o1 901 (Or.inr (by decide))) (by decide), ?_⟩
      refine xbr_f ((by rw [E]; exact z)) ?_
      refine q_lend I.1 hS a80 B (v := 1) (by decide) (fun j' hj' ej' z => ?_) (fun j' hj' ej' _ s2 A' o2 _ => ?_) (fun no => absurd (by rw [E]; exact ej) (no j hj))
      · rw [E] at ej'
        exact absurd (by rw [← zeq (by omega) (by omega) (ej'.symm.trans ej)]; exact z) hz
      · rw [E] at ej'
        have e1 : j' = j := zeq (by omega) (by omega) (ej'.symm.trans ej)
        subst e1
        obtain ⟨B', sm⟩ := FB_adst (j := j') (l := 1) (B.put (j := 4) (x := j') (v := 1) (by decide) (by show 1 < 2; decide)) (by omega) (by decide)
        have sm := (SM3.nu (f := f) (j := 4) (x := j') (v := 1) (Or.inl (by decide))).tr sm
        exact xbr_t rfl (h s2 (LI_A e900 e901 hL0 F' o1 A' o2 B' sm.1 sm.2.1 sm.2.2 rv))
    · refine ⟨i + 1, SR s 1 rfl (by decide), ?_⟩
      refine ⟨i + 2, SR s 2 rfl (by decide), ?_⟩
      refine xbr_f (z) ?_
      exact q_lend I.1 hS A80 B (v := 1) (by decide) (fun j hj ej _ => absurd ej (no j hj)) (fun j hj ej _ => absurd ej (no j hj)) (fun _ => xbr_t rfl (h s hs0))
set_option maxRecDepth 20000 in
theorem law_4 (I : xRk X P) (hS : S ≤ 128) {N i : Nat} {sc : Nat → Int32} {s : xS} (hs : LI S N sc s) (hi : i + 6 ≤ N) (hN : N ≤ 3074) (h : ∀ s' : xS, LI S N sc s' → X (d + 99) mL_law Q (L0 S) 1047 [some (.ref 900), some (.ref 0), some (.ref 79), some (.int (nI i))] [] s') : X (d + 99) mL_law Q (L0 S) 322 [some (.ref 900), some (.ref 0), some (.ref 79), some (.int (nI i))] [] s := by
  have hs0 := hs
  obtain ⟨e900, e901, f, ru, g, rk, n, t, dn, hL⟩ := hs
  have hL0 := hL
  obtain ⟨⟨F1, F12, A80, A81⟩, ⟨B, Bg, wg, t15, rv, rvk⟩, ⟨tc, tm, n3, tb⟩, ⟨ft1, ft2⟩, ⟨e59, eS, mw⟩, ⟨xc, xm⟩, nc, nmd⟩ := hL
  have SR : ∀ (q : xS) (k : Nat), q.1 901 = s.1 901 → k ≤ 5 → nI (i + k) < q.1 901 0 ∧ i + k < 2 ^ 31 ∧ nI i + nI k = nI (i + k) := fun q k e hk => ⟨by rw [e, e901]; exact zlt (by omega) (by omega), by omega, nad i k⟩
  have c16 := B.cc16
  have b8 := B.1.1
  refine rn I.1 [1047] 99 ?_
  refine m_Undo I.1 hS F1 B (fun h0 s1 F' o1 _ => ?_) (fun h0 => ?_)
  · have E : s1.1 900 = s.1 900 := o1 900 (Or.inr (by decide))
    obtain ⟨a80, a81, mw1, xm1, tm1, nmd1⟩ := hL0.r (s1 := s1) (fun q hq => o1 q (Or.inr (by omega)))
    refine q_undo I.1 hS a80 B (fun _ s2 A' o2 _ => ?_) (fun z => by omega)
    obtain ⟨B', sm⟩ := FB_undo B h0
    exact xbr_t rfl (h s2 (LI_A e900 e901 hL0 F' o1 A' o2 B' sm.1 sm.2.1 sm.2.2 rv))
  · exact q_undo I.1 hS A80 B (fun z => by omega) (fun _ => xbr_t rfl (h s hs0))
set_option maxRecDepth 20000 in
theorem law_9 (I : xRk X P) (hS : S ≤ 128) {N i : Nat} {sc : Nat → Int32} {s : xS} (hs : LI S N sc s) (hi : i + 6 ≤ N) (hN : N ≤ 3074) (h : ∀ s' : xS, LI S N sc s' → X (d + 99) mL_law Q (L0 S) 1047 [some (.ref 900), some (.ref 0), some (.ref 79), some (.int (nI i))] [] s') : X (d + 99) mL_law Q (L0 S) 457 [some (.ref 900), some (.ref 0), some (.ref 79), some (.int (nI i))] [] s := by
  have hs0 := hs
  obtain ⟨e900, e901, f, ru, g, rk, n, t, dn, hL⟩ := hs
  have hL0 := hL
  obtain ⟨⟨F1, F12, A80, A81⟩, ⟨B, Bg, wg, t15, rv, rvk⟩, ⟨tc, tm, n3, tb⟩, ⟨ft1, ft2⟩, ⟨e59, eS, mw⟩, ⟨xc, xm⟩, nc, nmd⟩ := hL
  have SR : ∀ (q : xS) (k : Nat), q.1 901 = s.1 901 → k ≤ 5 → nI (i + k) < q.1 901 0 ∧ i + k < 2 ^ 31 ∧ nI i + nI k = nI (i + k) := fun q k e hk => ⟨by rw [e, e901]; exact zlt (by omega) (by omega), by omega, nad i k⟩
  have c16 := B.cc16
  have b8 := B.1.1
  refine rn I.1 [1047] 99 ?_
  refine ⟨i + 1, SR s 1 rfl (by decide), ?_⟩
  refine m_By I.1 hS F1 B (fun hv s1 F' o1 _ => ?_) (fun no => ?_)
  · have E : s1.1 900 = s.1 900 := o1 900 (Or.inr (by decide))
    obtain ⟨a80, a81, mw1, xm1, tm1, nmd1⟩ := hL0.r (s1 := s1) (fun q hq => o1 q (Or.inr (by omega)))
    refine ⟨i + 1, SR s1 1 (o1 901 (Or.inr (by decide))) (by decide), ?_⟩
    rw [E]
    refine q_by I.1 hS a80 B (fun _ s2 A' o2 _ => ?_) (fun no => absurd hv no)
    exact xbr_t rfl (h s2 (LI_A e900 e901 hL0 F' o1 A' o2 B rfl rfl rfl hv))
  · refine ⟨i + 1, SR s 1 rfl (by decide), ?_⟩
    exact q_by I.1 hS A80 B (fun hv => absurd hv no) (fun _ => xbr_t rfl (h s hs0))
set_option maxRecDepth 20000 in
theorem law_12 (I : xRk X P) (hS : S ≤ 128) {N i : Nat} {sc : Nat → Int32} {s : xS} (hs : LI S N sc s) (hi : i + 6 ≤ N) (hN : N ≤ 3074) (h : ∀ s' : xS, LI S N sc s' → X (d + 99) mL_law Q (L0 S) 1047 [some (.ref 900), some (.ref 0), some (.ref 79), some (.int (nI i))] [] s') : X (d + 99) mL_law Q (L0 S) 598 [some (.ref 900), some (.ref 0), some (.ref 79), some (.int (nI i))] [] s := by
  have hs0 := hs
  obtain ⟨e900, e901, f, ru, g, rk, n, t, dn, hL⟩ := hs
  have hL0 := hL
  obtain ⟨⟨F1, F12, A80, A81⟩, ⟨B, Bg, wg, t15, rv, rvk⟩, ⟨tc, tm, n3, tb⟩, ⟨ft1, ft2⟩, ⟨e59, eS, mw⟩, ⟨xc, xm⟩, nc, nmd⟩ := hL
  have SR : ∀ (q : xS) (k : Nat), q.1 901 = s.1 901 → k ≤ 5 → nI (i + k) < q.1 901 0 ∧ i + k < 2 ^ 31 ∧ nI i + nI k = nI (i + k) := fun q k e hk => ⟨by rw [e, e901]; exact zlt (by omega) (by omega), by omega, nad i k⟩
  have c16 := B.cc16
  have b8 := B.1.1
  refine rn I.1 [1047] 99 ?_
  refine ⟨i + 1, SR s 1 rfl (by decide), ?_⟩
  refine ⟨i + 2, SR s 2 rfl (by decide), ?_⟩
  refine ⟨i + 3, SR s 3 rfl (by decide), ?_⟩
  refine m_Report I.1 hS F1 B (fun j hh te hj h4 ej hh24 eh ht et h10 s1 F' o1 _ => ?_) (fun no => ?_)
  · have E : s1.1 900 = s.1 900 := o1 900 (Or.inr (by decide))
    obtain ⟨a80, a81, mw1, xm1, tm1, nmd1⟩ := hL0.r (s1 := s1) (fun q hq => o1 q (Or.inr (by omega)))
    refine ⟨i + 1, SR s1 1 (o1 901 (Or.inr (by decide))) (by decide), ?_⟩
    refine ⟨i + 2, SR s1 2 (o1 901 (Or.inr (by decide))) (by decide), ?_⟩
    refine ⟨i + 3, SR s1 3 (o1 901 (Or.inr (by decide))) (by decide), ?_⟩
    refine q_report I.1 hS a80 B (fun j' hh' te' hj' h4' ej' hh24' eh' ht' et' h10' s2 A' o2 _ => ?_) (fun no => absurd ⟨j, hh, te, hj, h4, by rw [E]; exact ej, hh24, by rw [E]; exact eh, ht, by rw [E]; exact et, h10⟩ no)
    rw [E] at ej' eh' et'
    have e1 : j' = j := zeq (by omega) (by omega) (ej'.symm.trans ej)
    have e2 : hh' = hh := zeq (by omega) (by omega) (eh'.symm.trans eh)
    have e3 : te' = te := zeq (by omega) (by omega) (et'.symm.trans et)
    subst e1
    subst e2
    subst e3
    obtain ⟨B', sm⟩ := FB_wrt B hj hh24 ht h10
    exact xbr_t rfl (h s2 (LI_A e900 e901 hL0 F' o1 A' o2 B' sm.1 sm.2.1 sm.2.2 rv))
  · refine ⟨i + 1, SR s 1 rfl (by decide), ?_⟩
    refine ⟨i + 2, SR s 2 rfl (by decide), ?_⟩
    refine ⟨i + 3, SR s 3 rfl (by decide), ?_⟩
    exact q_report I.1 hS A80 B (fun j hh te hj h4 ej hh24 eh ht et h10 => absurd ⟨j, hh, te, hj, h4, ej, hh24, eh, ht, et, h10⟩ no) (fun _ => xbr_t rfl (h s hs0))
set_option maxRecDepth 20000 in
theorem law_13 (I : xRk X P) (hS : S ≤ 128) {N i : Nat} {sc : Nat → Int32} {s : xS} (hs : LI S N sc s) (hi : i + 6 ≤ N) (hN : N ≤ 3074) (h : ∀ s' : xS, LI S N sc s' → X (d + 99) mL_law Q (L0 S) 1047 [some (.ref 900), some (.ref 0), some (.ref 79), some (.int (nI i))] [] s') : X (d + 99) mL_law Q (L0 S) 641 [some (.ref 900), some (.ref 0), some (.ref 79), some (.int (nI i))] [] s := by
  have hs0 := hs
  obtain ⟨e900, e901, f, ru, g, rk, n, t, dn, hL⟩ := hs
  have hL0 := hL
  obtain ⟨⟨F1, F12, A80, A81⟩, ⟨B, Bg, wg, t15, rv, rvk⟩, ⟨tc, tm, n3, tb⟩, ⟨ft1, ft2⟩, ⟨e59, eS, mw⟩, ⟨xc, xm⟩, nc, nmd⟩ := hL
  have SR : ∀ (q : xS) (k : Nat), q.1 901 = s.1 901 → k ≤ 5 → nI (i + k) < q.1 901 0 ∧ i + k < 2 ^ 31 ∧ nI i + nI k = nI (i + k) := fun q k e hk => ⟨by rw [e, e901]; exact zlt (by omega) (by omega), by omega, nad i k⟩
  have c16 := B.cc16
  have b8 := B.1.1
  refine rn I.1 [1047] 99 ?_
  refine m_Forget I.1 hS F1 (fun s1 F' o1 _ => ?_)
  have E : s1.1 900 = s.1 900 := o1 900 (Or.inr (by decide))
  obtain ⟨a80, a81, mw1, xm1, tm1, nmd1⟩ := hL0.r (s1 := s1) (fun q hq => o1 q (Or.inr (by omega)))
  refine q_forget I.1 hS a80 (fun s2 A' o2 _ => ?_)
  exact xbr_t rfl (h s2 (LI_A e900 e901 hL0 F' o1 A' o2 (B.cnt (Or.inr (Or.inl ⟨rfl, by decide⟩))) (nu_n (by omega)) (nu_n (by omega)) (nu_n (by omega)) rv))
end LAWA
