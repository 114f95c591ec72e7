/-! the law's calls: what is asked (by program mk82.py) -/
section LAWB
variable {X : xXT} {P : xPT} {d S : Nat} {Q : xQ}
set_option maxRecDepth 20000 in
theorem law_10 (I : xRk X P) (hS : S ≤ 128) {N i : Nat} {sc : Nat → Int32} {s : xS} (hs : LI S N sc s) (hi : i + 6 ≤ N) (hN : N ≤ 3074) (h : ∀ s' : xS, LI S N sc s' → X (d + 99) mL_law Q (L0 S) 1047 [some (.ref 900), some (.ref 0), some (.ref 79), some (.int (nI i))] [] s') : X (d + 99) mL_law Q (L0 S) 480 [some (.ref 900), some (.ref 0), some (.ref 79), some (.int (nI i))] [] s := by
  have hs0 := hs
  obtain ⟨e900, e901, f, ru, g, rk, n, t, dn, hL⟩ := hs
  have hL0 := hL
  obtain ⟨⟨F1, F12, A80, A81⟩, ⟨B, Bg, wg, t15, rv, rvk⟩, ⟨tc, tm, n3, tb⟩, ⟨ft1, ft2⟩, ⟨e59, eS, mw⟩, ⟨xc, xm⟩, nc, nmd⟩ := hL
  have SR : ∀ (q : xS) (k : Nat), q.1 901 = s.1 901 → k ≤ 5 → nI (i + k) < q.1 901 0 ∧ i + k < 2 ^ 31 ∧ nI i + nI k = nI (i + k) := fun q k e hk => ⟨by rw [e, e901]; exact zlt (by omega) (by omega), by omega, nad i k⟩
  have c16 := B.cc16
  have b8 := B.1.1
  obtain ⟨dr, hdr⟩ := rv.dr dn
  have td := xc.td
  have hTR : TR dr := rdn_td hdr td
  obtain ⟨ec, nc1, nc2⟩ := nc
  obtain ⟨em, nm1, nm2⟩ := nmd
  have n0 : ∃ e, NC s e ∧ EB e := ⟨ec, nc1, nc2⟩
  refine rn I.1 [1047] 199 ?_
  refine ⟨i + 1, SR s 1 rfl (by decide), ?_⟩
  refine m_Prior I.1 hS F1 B xc hdr hTR nc1 nc2  (fun st hst est s1 n1 f1 => ?_) (fun no => ?_)
  · have c1 : ∀ q, (q < 56 ∨ 78 < q ∨ (59 ≤ q ∧ q ≤ 62)) → s1.1 q = s.1 q := fun q hq => f1.1 q (by omega) (by omega) (by omega)
    have E : s1.1 900 = s.1 900 := c1 900 (by omega)
    obtain ⟨a80, a81, mw1, xm1, tm1, em1, nm1', nm2'⟩ := hL0.r (s1 := s1) (fun q hq => c1 q (by omega))
    refine ⟨i + 1, SR s1 1 (c1 901 (by omega)) (by decide), ?_⟩
    rw [E]
    refine q_prior I.1 hS a80 mw1 B xm1 td hdr nm1' nm2'  (fun st' hst' est' s2 n2 f2 => ?_) (fun no => absurd est (no st hst))
    have e1 : st' = st := zeq (by omega) (by omega) (est'.symm.trans est)
    subst e1
    exact xbr_t (rfl) (h s2 (LI_B e900 e901 hL0 c1 n1 (fun q h1 h2 _ _ => f2.1 q h1 h2) n2))
  · refine ⟨i + 1, SR s 1 rfl (by decide), ?_⟩
    exact q_prior I.1 hS A80 mw B xm td hdr nm1 nm2  (fun st hst est => absurd est (no st hst)) (fun _ => xbr_t rfl (h s hs0))
set_option maxRecDepth 20000 in
theorem law_14 (I : xRk X P) (hS : S ≤ 128) {N i : Nat} {sc : Nat → Int32} {s : xS} (hs : LI S N sc s) (hi : i + 6 ≤ N) (hN : N ≤ 3074) (h : ∀ s' : xS, LI S N sc s' → X (d + 99) mL_law Q (L0 S) 1047 [some (.ref 900), some (.ref 0), some (.ref 79), some (.int (nI i))] [] s') : X (d + 99) mL_law Q (L0 S) 654 [some (.ref 900), some (.ref 0), some (.ref 79), some (.int (nI i))] [] s := by
  have hs0 := hs
  obtain ⟨e900, e901, f, ru, g, rk, n, t, dn, hL⟩ := hs
  have hL0 := hL
  obtain ⟨⟨F1, F12, A80, A81⟩, ⟨B, Bg, wg, t15, rv, rvk⟩, ⟨tc, tm, n3, tb⟩, ⟨ft1, ft2⟩, ⟨e59, eS, mw⟩, ⟨xc, xm⟩, nc, nmd⟩ := hL
  have SR : ∀ (q : xS) (k : Nat), q.1 901 = s.1 901 → k ≤ 5 → nI (i + k) < q.1 901 0 ∧ i + k < 2 ^ 31 ∧ nI i + nI k = nI (i + k) := fun q k e hk => ⟨by rw [e, e901]; exact zlt (by omega) (by omega), by omega, nad i k⟩
  have c16 := B.cc16
  have b8 := B.1.1
  obtain ⟨dr, hdr⟩ := rv.dr dn
  have td := xc.td
  have hTR : TR dr := rdn_td hdr td
  obtain ⟨ec, nc1, nc2⟩ := nc
  obtain ⟨em, nm1, nm2⟩ := nmd
  have n0 : ∃ e, NC s e ∧ EB e := ⟨ec, nc1, nc2⟩
  refine rn I.1 [1047] 199 ?_
  refine ⟨i + 1, SR s 1 rfl (by decide), ?_⟩
  refine ⟨i + 2, SR s 2 rfl (by decide), ?_⟩
  refine m_Weight I.1 hS F1 B xc hdr hTR nc1 nc2  (fun st k hst est hk ek s1 n1 f1 => ?_) (fun no => ?_)
  · have c1 : ∀ q, (q < 56 ∨ 78 < q ∨ (59 ≤ q ∧ q ≤ 62)) → s1.1 q = s.1 q := fun q hq => f1.1 q (by omega) (by omega) (by omega)
    have E : s1.1 900 = s.1 900 := c1 900 (by omega)
    obtain ⟨a80, a81, mw1, xm1, tm1, em1, nm1', nm2'⟩ := hL0.r (s1 := s1) (fun q hq => c1 q (by omega))
    refine ⟨i + 1, SR s1 1 (c1 901 (by omega)) (by decide), ?_⟩
    refine ⟨i + 2, SR s1 2 (c1 901 (by omega)) (by decide), ?_⟩
    rw [E]
    refine q_weight I.1 hS a80 mw1 B xm1 td hdr nm1' nm2'  (fun st' k' hst' est' hk' ek' s2 n2 f2 => ?_) (fun no => absurd ⟨st, k, hst, est, hk, ek⟩ no)
    have b10 := B.1.2.1
    have e1 : st' = st := zeq (by omega) (by omega) (est'.symm.trans est)
    have e2 : k' = k := zeq (by omega) (by omega) (ek'.symm.trans ek)
    subst e1
    subst e2
    exact xbr_t (lc_eq.mpr rfl) (h s2 (LI_B e900 e901 hL0 c1 n1 (fun q h1 h2 _ _ => f2.1 q h1 h2) n2))
  · refine ⟨i + 1, SR s 1 rfl (by decide), ?_⟩
    refine ⟨i + 2, SR s 2 rfl (by decide), ?_⟩
    exact q_weight I.1 hS A80 mw B xm td hdr nm1 nm2  (fun st k hst est hk ek => absurd ⟨st, k, hst, est, hk, ek⟩ no) (fun _ => xbr_t (lc_eq.mpr rfl) (h s hs0))
set_option maxRecDepth 20000 in
theorem law_15 (I : xRk X P) (hS : S ≤ 128) {N i : Nat} {sc : Nat → Int32} {s : xS} (hs : LI S N sc s) (hi : i + 6 ≤ N) (hN : N ≤ 3074) (h : ∀ s' : xS, LI S N sc s' → X (d + 99) mL_law Q (L0 S) 1047 [some (.ref 900), some (.ref 0), some (.ref 79), some (.int (nI i))] [] s') : X (d + 99) mL_law Q (L0 S) 688 [some (.ref 900), some (.ref 0), some (.ref 79), some (.int (nI i))] [] s := by
  have hs0 := hs
  obtain ⟨e900, e901, f, ru, g, rk, n, t, dn, hL⟩ := hs
  have hL0 := hL
  obtain ⟨⟨F1, F12, A80, A81⟩, ⟨B, Bg, wg, t15, rv, rvk⟩, ⟨tc, tm, n3, tb⟩, ⟨ft1, ft2⟩, ⟨e59, eS, mw⟩, ⟨xc, xm⟩, nc, nmd⟩ := hL
  have SR : ∀ (q : xS) (k : Nat), q.1 901 = s.1 901 → k ≤ 5 → nI (i + k) < q.1 901 0 ∧ i + k < 2 ^ 31 ∧ nI i + nI k = nI (i + k) := fun q k e hk => ⟨by rw [e, e901]; exact zlt (by omega) (by omega), by omega, nad i k⟩
  have c16 := B.cc16
  have b8 := B.1.1
  obtain ⟨dr, hdr⟩ := rv.dr dn
  have td := xc.td
  have hTR : TR dr := rdn_td hdr td
  obtain ⟨ec, nc1, nc2⟩ := nc
  obtain ⟨em, nm1, nm2⟩ := nmd
  have n0 : ∃ e, NC s e ∧ EB e := ⟨ec, nc1, nc2⟩
  refine rn I.1 [1047] 199 ?_
  refine ⟨i + 1, SR s 1 rfl (by decide), ?_⟩
  refine ⟨i + 2, SR s 2 rfl (by decide), ?_⟩
  refine ⟨i + 3, SR s 3 rfl (by decide), ?_⟩
  refine ⟨i + 4, SR s 4 rfl (by decide), ?_⟩
  refine ⟨i + 5, SR s 5 rfl (by decide), ?_⟩
  refine m_Odds I.1 hS F1 B xc hdr hTR nc1 nc2 eS e59 (fun k hk ek ok s1 n1 f1 => ?_) (fun no => ?_)
  · have c1 : ∀ q, (q < 56 ∨ 78 < q ∨ (59 ≤ q ∧ q ≤ 62)) → s1.1 q = s.1 q := fun q hq => f1.1 q (by omega) (by omega) (by omega)
    have E : s1.1 900 = s.1 900 := c1 900 (by omega)
    obtain ⟨a80, a81, mw1, xm1, tm1, em1, nm1', nm2'⟩ := hL0.r (s1 := s1) (fun q hq => c1 q (by omega))
    refine ⟨i + 1, SR s1 1 (c1 901 (by omega)) (by decide), ?_⟩
    refine ⟨i + 2, SR s1 2 (c1 901 (by omega)) (by decide), ?_⟩
    refine ⟨i + 3, SR s1 3 (c1 901 (by omega)) (by decide), ?_⟩
    refine ⟨i + 4, SR s1 4 (c1 901 (by omega)) (by decide), ?_⟩
    refine ⟨i + 5, SR s1 5 (c1 901 (by omega)) (by decide), ?_⟩
    rw [E]
    refine q_odds I.1 hS a80 mw1 B xm1 td hdr nm1' nm2' eS (fun k' hk' ek' _ s2 n2 f2 => ?_) (fun no => absurd ok no)
    have b10 := B.1.2.1
    have e2 : k' = k := zeq (by omega) (by omega) (ek'.symm.trans ek)
    subst e2
    exact xbr_t (lc_eq.mpr rfl) (h s2 (LI_B e900 e901 hL0 c1 n1 (fun q h1 h2 _ _ => f2.1 q h1 h2) n2))
  · refine ⟨i + 1, SR s 1 rfl (by decide), ?_⟩
    refine ⟨i + 2, SR s 2 rfl (by decide), ?_⟩
    refine ⟨i + 3, SR s 3 rfl (by decide), ?_⟩
    refine ⟨i + 4, SR s 4 rfl (by decide), ?_⟩
    refine ⟨i + 5, SR s 5 rfl (by decide), ?_⟩
    exact q_odds I.1 hS A80 mw B xm td hdr nm1 nm2 eS (fun k hk ek ok => absurd ok no) (fun _ => xbr_t (lc_eq.mpr rfl) (h s hs0))
set_option maxRecDepth 20000 in
theorem law_16 (I : xRk X P) (hS : S ≤ 128) {N i : Nat} {sc : Nat → Int32} {s : xS} (hs : LI S N sc s) (hi : i + 6 ≤ N) (hN : N ≤ 3074) (h : ∀ s' : xS, LI S N sc s' → X (d + 99) mL_law Q (L0 S) 1047 [some (.ref 900), some (.ref 0), some (.ref 79), some (.int (nI i))] [] s') : X (d + 99) mL_law Q (L0 S) 752 [some (.ref 900), some (.ref 0), some (.ref 79), some (.int (nI i))] [] s := by
  have hs0 := hs
  obtain ⟨e900, e901, f, ru, g, rk, n, t, dn, hL⟩ := hs
  have hL0 := hL
  obtain ⟨⟨F1, F12, A80, A81⟩, ⟨B, Bg, wg, t15, rv, rvk⟩, ⟨tc, tm, n3, tb⟩, ⟨ft1, ft2⟩, ⟨e59, eS, mw⟩, ⟨xc, xm⟩, nc, nmd⟩ := hL
  have SR : ∀ (q : xS) (k : Nat), q.1 901 = s.1 901 → k ≤ 5 → nI (i + k) < q.1 901 0 ∧ i + k < 2 ^ 31 ∧ nI i + nI k = nI (i + k) := fun q k e hk => ⟨by rw [e, e901]; exact zlt (by omega) (by omega), by omega, nad i k⟩
  have c16 := B.cc16
  have b8 := B.1.1
  obtain ⟨dr, hdr⟩ := rv.dr dn
  have td := xc.td
  have hTR : TR dr := rdn_td hdr td
  obtain ⟨ec, nc1, nc2⟩ := nc
  obtain ⟨em, nm1, nm2⟩ := nmd
  have n0 : ∃ e, NC s e ∧ EB e := ⟨ec, nc1, nc2⟩
  refine rn I.1 [1047] 199 ?_
  refine ⟨i + 1, SR s 1 rfl (by decide), ?_⟩
  refine m_Likely I.1 hS F1 B xc hdr hTR nc1 nc2 eS e59 (fun k hk ek s1 n1 f1 => ?_) (fun no => ?_)
  · have c1 : ∀ q, (q < 56 ∨ 78 < q ∨ (59 ≤ q ∧ q ≤ 62)) → s1.1 q = s.1 q := fun q hq => f1.1 q (by omega) (by omega) (by omega)
    have E : s1.1 900 = s.1 900 := c1 900 (by omega)
    obtain ⟨a80, a81, mw1, xm1, tm1, em1, nm1', nm2'⟩ := hL0.r (s1 := s1) (fun q hq => c1 q (by omega))
    refine ⟨i + 1, SR s1 1 (c1 901 (by omega)) (by decide), ?_⟩
    rw [E]
    refine q_likely I.1 hS a80 mw1 B xm1 td hdr nm1' nm2' eS (fun k' hk' ek' s2 n2 f2 => ?_) (fun no => absurd ek (no k hk))
    have b10 := B.1.2.1
    have e2 : k' = k := zeq (by omega) (by omega) (ek'.symm.trans ek)
    subst e2
    exact xbr_t (rfl) (h s2 (LI_B e900 e901 hL0 c1 n1 (fun q h1 h2 _ _ => f2.1 q h1 h2) n2))
  · refine ⟨i + 1, SR s 1 rfl (by decide), ?_⟩
    exact q_likely I.1 hS A80 mw B xm td hdr nm1 nm2 eS (fun k hk ek => absurd ek (no k hk)) (fun _ => xbr_t rfl (h s hs0))
set_option maxRecDepth 20000 in
theorem law_17 (I : xRk X P) (hS : S ≤ 128) {N i : Nat} {sc : Nat → Int32} {s : xS} (hs : LI S N sc s) (hi : i + 6 ≤ N) (hN : N ≤ 3074) (h : ∀ s' : xS, LI S N sc s' → X (d + 99) mL_law Q (L0 S) 1047 [some (.ref 900), some (.ref 0), some (.ref 79), some (.int (nI i))] [] s') : X (d + 99) mL_law Q (L0 S) 775 [some (.ref 900), some (.ref 0), some (.ref 79), some (.int (nI i))] [] s := by
  have hs0 := hs
  obtain ⟨e900, e901, f, ru, g, rk, n, t, dn, hL⟩ := hs
  have hL0 := hL
  obtain ⟨⟨F1, F12, A80, A81⟩, ⟨B, Bg, wg, t15, rv, rvk⟩, ⟨tc, tm, n3, tb⟩, ⟨ft1, ft2⟩, ⟨e59, eS, mw⟩, ⟨xc, xm⟩, nc, nmd⟩ := hL
  have SR : ∀ (q : xS) (k : Nat), q.1 901 = s.1 901 → k ≤ 5 → nI (i + k) < q.1 901 0 ∧ i + k < 2 ^ 31 ∧ nI i + nI k = nI (i + k) := fun q k e hk => ⟨by rw [e, e901]; exact zlt (by omega) (by omega), by omega, nad i k⟩
  have c16 := B.cc16
  have b8 := B.1.1
  obtain ⟨dr, hdr⟩ := rv.dr dn
  have td := xc.td
  have hTR : TR dr := rdn_td hdr td
  obtain ⟨ec, nc1, nc2⟩ := nc
  obtain ⟨em, nm1, nm2⟩ := nmd
  have n0 : ∃ e, NC s e ∧ EB e := ⟨ec, nc1, nc2⟩
  refine rn I.1 [1047] 199 ?_
  refine ⟨i + 1, SR s 1 rfl (by decide), ?_⟩
  refine ⟨i + 2, SR s 2 rfl (by decide), ?_⟩
  refine ⟨i + 3, SR s 3 rfl (by decide), ?_⟩
  refine m_Sure I.1 hS F1 B xc hdr hTR nc1 nc2 eS e59 (fun v hv s1 n1 f1 => ?_) (fun no => ?_)
  · have c1 : ∀ q, (q < 56 ∨ 78 < q ∨ (59 ≤ q ∧ q ≤ 62)) → s1.1 q = s.1 q := f1.1
    have E : s1.1 900 = s.1 900 := c1 900 (by omega)
    obtain ⟨a80, a81, mw1, xm1, tm1, em1, nm1', nm2'⟩ := hL0.r (s1 := s1) (fun q hq => c1 q (by omega))
    refine ⟨i + 1, SR s1 1 (c1 901 (by omega)) (by decide), ?_⟩
    refine ⟨i + 2, SR s1 2 (c1 901 (by omega)) (by decide), ?_⟩
    refine ⟨i + 3, SR s1 3 (c1 901 (by omega)) (by decide), ?_⟩
    rw [E]
    refine q_sure I.1 hS a80 mw1 B xm1 td hdr nm1' nm2'  (fun v' hv' s2 n2 f2 => ?_) (fun no => absurd hv (no v))
    have e2 : v' = v := hv'.eq B hv
    subst e2
    exact xbr_t (lc_eq.mpr rfl) (h s2 (LI_B e900 e901 hL0 c1 n1 f2.1 n2))
  · refine ⟨i + 1, SR s 1 rfl (by decide), ?_⟩
    refine ⟨i + 2, SR s 2 rfl (by decide), ?_⟩
    refine ⟨i + 3, SR s 3 rfl (by decide), ?_⟩
    exact q_sure I.1 hS A80 mw B xm td hdr nm1 nm2  (fun v hv => absurd hv (no v)) (fun _ => xbr_t (lc_eq.mpr rfl) (h s hs0))
set_option maxRecDepth 20000 in
theorem law_19 (I : xRk X P) (hS : S ≤ 128) {N i : Nat} {sc : Nat → Int32} {s : xS} (hs : LI S N sc s) (hi : i + 6 ≤ N) (hN : N ≤ 3074) (h : ∀ s' : xS, LI S N sc s' → X (d + 99) mL_law Q (L0 S) 1047 [some (.ref 900), some (.ref 0), some (.ref 79), some (.int (nI i))] [] s') : X (d + 99) mL_law Q (L0 S) 878 [some (.ref 900), some (.ref 0), some (.ref 79), some (.int (nI i))] [] s := by
  have hs0 := hs
  obtain ⟨e900, e901, f, ru, g, rk, n, t, dn, hL⟩ := hs
  have hL0 := hL
  obtain ⟨⟨F1, F12, A80, A81⟩, ⟨B, Bg, wg, t15, rv, rvk⟩, ⟨tc, tm, n3, tb⟩, ⟨ft1, ft2⟩, ⟨e59, eS, mw⟩, ⟨xc, xm⟩, nc, nmd⟩ := hL
  have SR : ∀ (q : xS) (k : Nat), q.1 901 = s.1 901 → k ≤ 5 → nI (i + k) < q.1 901 0 ∧ i + k < 2 ^ 31 ∧ nI i + nI k = nI (i + k) := fun q k e hk => ⟨by rw [e, e901]; exact zlt (by omega) (by omega), by omega, nad i k⟩
  have c16 := B.cc16
  have b8 := B.1.1
  obtain ⟨dr, hdr⟩ := rv.dr dn
  have td := xc.td
  have hTR : TR dr := rdn_td hdr td
  obtain ⟨ec, nc1, nc2⟩ := nc
  obtain ⟨em, nm1, nm2⟩ := nmd
  have n0 : ∃ e, NC s e ∧ EB e := ⟨ec, nc1, nc2⟩
  refine rn I.1 [1047] 199 ?_
  refine ⟨i + 1, SR s 1 rfl (by decide), ?_⟩
  refine m_Eighth I.1 hS F1 B xc hdr hTR nc1 nc2 eS e59 (fun hh h24 eh h8 s1 n1 f1 => ?_) (fun no => ?_)
  · have c1 : ∀ q, (q < 56 ∨ 78 < q ∨ (59 ≤ q ∧ q ≤ 62)) → s1.1 q = s.1 q := f1.1
    have E : s1.1 900 = s.1 900 := c1 900 (by omega)
    obtain ⟨a80, a81, mw1, xm1, tm1, em1, nm1', nm2'⟩ := hL0.r (s1 := s1) (fun q hq => c1 q (by omega))
    refine ⟨i + 1, SR s1 1 (c1 901 (by omega)) (by decide), ?_⟩
    rw [E]
    refine q_eighth I.1 hS a80 mw1 B xm1 td hdr nm1' nm2'  (fun hh' h24' eh' h8' s2 n2 f2 => ?_) (fun no => no.elim (fun z => absurd eh (z hh h24)) (fun z => by omega))
    have e2 : hh' = hh := zeq (by omega) (by omega) (eh'.symm.trans eh)
    subst e2
    exact xbr_t (rfl) (h s2 (LI_B e900 e901 hL0 c1 n1 f2.1 n2))
  · refine ⟨i + 1, SR s 1 rfl (by decide), ?_⟩
    exact q_eighth I.1 hS A80 mw B xm td hdr nm1 nm2  (fun hh h24 eh h8 => no.elim (fun z => absurd eh (z hh h24)) (fun z => by omega)) (fun _ => xbr_t rfl (h s hs0))
set_option maxRecDepth 20000 in
theorem law_20 (I : xRk X P) (hS : S ≤ 128) {N i : Nat} {sc : Nat → Int32} {s : xS} (hs : LI S N sc s) (hi : i + 6 ≤ N) (hN : N ≤ 3074) (h : ∀ s' : xS, LI S N sc s' → X (d + 99) mL_law Q (L0 S) 1047 [some (.ref 900), some (.ref 0), some (.ref 79), some (.int (nI i))] [] s') : X (d + 99) mL_law Q (L0 S) 901 [some (.ref 900), some (.ref 0), some (.ref 79), some (.int (nI i))] [] s := by
  have hs0 := hs
  obtain ⟨e900, e901, f, ru, g, rk, n, t, dn, hL⟩ := hs
  have hL0 := hL
  obtain ⟨⟨F1, F12, A80, A81⟩, ⟨B, Bg, wg, t15, rv, rvk⟩, ⟨tc, tm, n3, tb⟩, ⟨ft1, ft2⟩, ⟨e59, eS, mw⟩, ⟨xc, xm⟩, nc, nmd⟩ := hL
  have SR : ∀ (q : xS) (k : Nat), q.1 901 = s.1 901 → k ≤ 5 → nI (i + k) < q.1 901 0 ∧ i + k < 2 ^ 31 ∧ nI i + nI k = nI (i + k) := fun q k e hk => ⟨by rw [e, e901]; exact zlt (by omega) (by omega), by omega, nad i k⟩
  have c16 := B.cc16
  have b8 := B.1.1
  obtain ⟨dr, hdr⟩ := rv.dr dn
  have td := xc.td
  have hTR : TR dr := rdn_td hdr td
  obtain ⟨ec, nc1, nc2⟩ := nc
  obtain ⟨em, nm1, nm2⟩ := nmd
  have n0 : ∃ e, NC s e ∧ EB e := ⟨ec, nc1, nc2⟩
  refine rn I.1 [1047] 199 ?_
  refine ⟨i + 1, SR s 1 rfl (by decide), ?_⟩
  refine ⟨i + 2, SR s 2 rfl (by decide), ?_⟩
  refine m_Does I.1 hS F1 B xc hdr hTR nc1 nc2 eS e59 (fun k w k1 k5 ek hw ew s1 n1 f1 => ?_) (fun no => ?_)
  · have c1 : ∀ q, (q < 56 ∨ 78 < q ∨ (59 ≤ q ∧ q ≤ 62)) → s1.1 q = s.1 q := fun q hq => f1.1 q (by omega) (by omega) (by omega)
    have E : s1.1 900 = s.1 900 := c1 900 (by omega)
    obtain ⟨a80, a81, mw1, xm1, tm1, em1, nm1', nm2'⟩ := hL0.r (s1 := s1) (fun q hq => c1 q (by omega))
    refine ⟨i + 1, SR s1 1 (c1 901 (by omega)) (by decide), ?_⟩
    refine ⟨i + 2, SR s1 2 (c1 901 (by omega)) (by decide), ?_⟩
    rw [E]
    refine q_does I.1 hS a80 mw1 B xm1 td hdr nm1' nm2' eS (fun k' w' k1' k5' ek' hw' ew' s2 n2 f2 => ?_) (fun no => absurd ⟨k, w, k1, k5, ek, hw, ew⟩ no)
    have e1 : k' = k := zeq (by omega) (by omega) (ek'.symm.trans ek)
    have e2 : w' = w := zeq (by omega) (by omega) (ew'.symm.trans ew)
    subst e1
    subst e2
    exact xbr_t (lc_eq.mpr rfl) (h s2 (LI_B e900 e901 hL0 c1 n1 (fun q h1 h2 _ _ => f2.1 q h1 h2) n2))
  · refine ⟨i + 1, SR s 1 rfl (by decide), ?_⟩
    refine ⟨i + 2, SR s 2 rfl (by decide), ?_⟩
    exact q_does I.1 hS A80 mw B xm td hdr nm1 nm2 eS (fun k w k1 k5 ek hw ew => absurd ⟨k, w, k1, k5, ek, hw, ew⟩ no) (fun _ => xbr_t (lc_eq.mpr rfl) (h s hs0))
set_option maxRecDepth 20000 in
theorem law_21 (I : xRk X P) (hS : S ≤ 128) {N i : Nat} {sc : Nat → Int32} {s : xS} (hs : LI S N sc s) (hi : i + 6 ≤ N) (hN : N ≤ 3074) (h : ∀ s' : xS, LI S N sc s' → X (d + 99) mL_law Q (L0 S) 1047 [some (.ref 900), some (.ref 0), some (.ref 79), some (.int (nI i))] [] s') : X (d + 99) mL_law Q (L0 S) 935 [some (.ref 900), some (.ref 0), some (.ref 79), some (.int (nI i))] [] s := by
  have hs0 := hs
  obtain ⟨e900, e901, f, ru, g, rk, n, t, dn, hL⟩ := hs
  have hL0 := hL
  obtain ⟨⟨F1, F12, A80, A81⟩, ⟨B, Bg, wg, t15, rv, rvk⟩, ⟨tc, tm, n3, tb⟩, ⟨ft1, ft2⟩, ⟨e59, eS, mw⟩, ⟨xc, xm⟩, nc, nmd⟩ := hL
  have SR : ∀ (q : xS) (k : Nat), q.1 901 = s.1 901 → k ≤ 5 → nI (i + k) < q.1 901 0 ∧ i + k < 2 ^ 31 ∧ nI i + nI k = nI (i + k) := fun q k e hk => ⟨by rw [e, e901]; exact zlt (by omega) (by omega), by omega, nad i k⟩
  have c16 := B.cc16
  have b8 := B.1.1
  obtain ⟨dr, hdr⟩ := rv.dr dn
  have td := xc.td
  have hTR : TR dr := rdn_td hdr td
  obtain ⟨ec, nc1, nc2⟩ := nc
  obtain ⟨em, nm1, nm2⟩ := nmd
  have n0 : ∃ e, NC s e ∧ EB e := ⟨ec, nc1, nc2⟩
  refine rn I.1 [1047] 199 ?_
  refine ⟨i + 1, SR s 1 rfl (by decide), ?_⟩
  refine ⟨i + 2, SR s 2 rfl (by decide), ?_⟩
  refine ⟨i + 3, SR s 3 rfl (by decide), ?_⟩
  refine ⟨i + 4, SR s 4 rfl (by decide), ?_⟩
  refine ⟨i + 5, SR s 5 rfl (by decide), ?_⟩
  refine m_Spied I.1 hS F1 B xc hdr hTR nc1 nc2 (fun sd st hh m k j ok hj h4 hc s1 n1 f1 => ?_) (fun no => ?_)
  · have c1 : ∀ q, (q < 56 ∨ 78 < q ∨ (59 ≤ q ∧ q ≤ 62)) → s1.1 q = s.1 q := fun q hq => f1.1 q (by omega) (by omega) (by omega)
    have E : s1.1 900 = s.1 900 := c1 900 (by omega)
    obtain ⟨a80, a81, mw1, xm1, tm1, em1, nm1', nm2'⟩ := hL0.r (s1 := s1) (fun q hq => c1 q (by omega))
    refine ⟨i + 1, SR s1 1 (c1 901 (by omega)) (by decide), ?_⟩
    refine ⟨i + 2, SR s1 2 (c1 901 (by omega)) (by decide), ?_⟩
    refine ⟨i + 3, SR s1 3 (c1 901 (by omega)) (by decide), ?_⟩
    refine ⟨i + 4, SR s1 4 (c1 901 (by omega)) (by decide), ?_⟩
    refine ⟨i + 5, SR s1 5 (c1 901 (by omega)) (by decide), ?_⟩
    rw [E]
    refine q_spied I.1 hS a80 mw1 B xm1 td hdr nm1' nm2' (fun sd' st' hh' m' k' j' ok' hj' h4' hc' s2 n2 f2 => ?_) (fun no => absurd ok (no sd st hh m k))
    have ok0 := ok
    have ok0' := ok'
    obtain ⟨a1, a2, a3, a4, a5, a6, a7, a8, a9, a10, a11⟩ := ok
    obtain ⟨b1, b2, b3, b4, b5, b6, b7, b8', b9, b10, b11⟩ := ok'
    have kb : k < 2 ^ 31 ∧ k' < 2 ^ 31 := by
      have q1 := Nat.mul_le_mul a8 (cfr_le f (f 0 12))
      have q2 := Nat.mul_le_mul b8' (cfr_le f (f 0 12))
      omega
    have e1 : sd' = sd := zeq (by omega) (by omega) (b2.symm.trans a2)
    have e2 : st' = st := zeq (by omega) (by omega) (b4.symm.trans a4)
    have e3 : hh' = hh := zeq (by omega) (by omega) (b6.symm.trans a6)
    have e4 : k' = k := zeq kb.2 kb.1 (b11.symm.trans a11)
    subst e1
    subst e2
    subst e3
    subst e4
    have e5 : j' = j := cfr_inj h4' h4 (hc'.trans hc.symm)
    subst e5
    exact xbr_t rfl (h s2 (LI_B e900 e901 hL0 c1 n1 (fun q h1 h2 _ _ => f2.1 q h1 h2) n2))
  · refine ⟨i + 1, SR s 1 rfl (by decide), ?_⟩
    refine ⟨i + 2, SR s 2 rfl (by decide), ?_⟩
    refine ⟨i + 3, SR s 3 rfl (by decide), ?_⟩
    refine ⟨i + 4, SR s 4 rfl (by decide), ?_⟩
    refine ⟨i + 5, SR s 5 rfl (by decide), ?_⟩
    exact q_spied I.1 hS A80 mw B xm td hdr nm1 nm2 (fun sd st hh m k j ok _ _ _ => absurd ok (no sd st hh m k)) (fun _ s2 n2 f2 => xbr_t rfl (h s2 (LI_B e900 e901 hL0 (s1 := s) (fun _ _ => rfl) n0 (fun q h1 h2 _ _ => f2.1 q h1 h2) n2)))
set_option maxRecDepth 20000 in
theorem law_11 (I : xRk X P) (hS : S ≤ 128) {N i : Nat} {sc : Nat → Int32} {s : xS} (hs : LI S N sc s) (hi : i + 6 ≤ N) (hN : N ≤ 3074) (h : ∀ s' : xS, LI S N sc s' → X (d + 99) mL_law Q (L0 S) 1047 [some (.ref 900), some (.ref 0), some (.ref 79), some (.int (nI i))] [] s') : X (d + 99) mL_law Q (L0 S) 503 [some (.ref 900), some (.ref 0), some (.ref 79), some (.int (nI i))] [] s := by
  have hs0 := hs
  obtain ⟨e900, e901, f, ru, g, rk, n, t, dn, hL⟩ := hs
  have hL0 := hL
  obtain ⟨⟨F1, F12, A80, A81⟩, ⟨B, Bg, wg, t15, rv, rvk⟩, ⟨tc, tm, n3, tb⟩, ⟨ft1, ft2⟩, ⟨e59, eS, mw⟩, ⟨xc, xm⟩, nc, nmd⟩ := hL
  have SR : ∀ (q : xS) (k : Nat), q.1 901 = s.1 901 → k ≤ 5 → nI (i + k) < q.1 901 0 ∧ i + k < 2 ^ 31 ∧ nI i + nI k = nI (i + k) := fun q k e hk => ⟨by rw [e, e901]; exact zlt (by omega) (by omega), by omega, nad i k⟩
  have c16 := B.cc16
  have b8 := B.1.1
  obtain ⟨dr, hdr⟩ := rv.dr dn
  have td := xc.td
  have hTR : TR dr := rdn_td hdr td
  obtain ⟨ec, nc1, nc2⟩ := nc
  obtain ⟨em, nm1, nm2⟩ := nmd
  have n0 : ∃ e, NC s e ∧ EB e := ⟨ec, nc1, nc2⟩
  refine rn I.1 [1047] 199 ?_
  refine ⟨i + 1, SR s 1 rfl (by decide), ?_⟩
  refine ⟨i + 2, SR s 2 rfl (by decide), ?_⟩
  by_cases z1 : s.1 900 (i + 2) = nI 0
  · by_cases z2 : s.1 900 (i + 5) = nI 0
    · refine xbr_t (z1) ?_
      refine ⟨i + 3, SR s 3 rfl (by decide), ?_⟩
      refine ⟨i + 4, SR s 4 rfl (by decide), ?_⟩
      refine ⟨i + 5, SR s 5 rfl (by decide), ?_⟩
      refine xbr_t (z2) ?_
      refine m_Sees I.1 hS F1 B xc hdr hTR nc1 nc2 (tu := 0) (sl := 0) (by decide) (by decide) (fun k st hh hk ek hst est h24 eh s1 n1 f1 => ?_) (fun no => ?_)
      · have c1 : ∀ q, (q < 56 ∨ 78 < q ∨ (59 ≤ q ∧ q ≤ 62)) → s1.1 q = s.1 q := fun q hq => f1.1 q (by omega) (by omega) (by omega)
        have E : s1.1 900 = s.1 900 := c1 900 (by omega)
        obtain ⟨a80, a81, mw1, xm1, tm1, em1, nm1', nm2'⟩ := hL0.r (s1 := s1) (fun q hq => c1 q (by omega))
        refine ⟨i + 1, SR s1 1 (c1 901 (by omega)) (by decide), ?_⟩
        refine ⟨i + 2, SR s1 2 (c1 901 (by omega)) (by decide), ?_⟩
        refine xbr_t (by rw [E]; exact z1) ?_
        refine ⟨i + 3, SR s1 3 (c1 901 (by omega)) (by decide), ?_⟩
        refine ⟨i + 4, SR s1 4 (c1 901 (by omega)) (by decide), ?_⟩
        refine ⟨i + 5, SR s1 5 (c1 901 (by omega)) (by decide), ?_⟩
        refine xbr_t (by rw [E]; exact z2) ?_
        rw [E]
        refine q_sees I.1 hS a80 mw1 B xm1 td hdr nm1' nm2' (tu := 0) (sl := 0) (by decide) (by decide) (fun k' st' hh' hk' ek' hst' est' h24' eh' s2 n2 f2 => ?_) (fun no => absurd ⟨k, st, hh, hk, ek, hst, est, h24, eh⟩ no)
        have e1 : k' = k := zeq (by omega) (by omega) (ek'.symm.trans ek)
        have e2 : st' = st := zeq (by omega) (by omega) (est'.symm.trans est)
        have e3 : hh' = hh := zeq (by omega) (by omega) (eh'.symm.trans eh)
        subst e1
        subst e2
        subst e3
        exact xbr_t rfl (h s2 (LI_B e900 e901 hL0 c1 n1 (fun q h1 h2 _ _ => f2.1 q h1 h2) n2))
      · refine ⟨i + 1, SR s 1 rfl (by decide), ?_⟩
        refine ⟨i + 2, SR s 2 rfl (by decide), ?_⟩
        refine xbr_t (z1) ?_
        refine ⟨i + 3, SR s 3 rfl (by decide), ?_⟩
        refine ⟨i + 4, SR s 4 rfl (by decide), ?_⟩
        refine ⟨i + 5, SR s 5 rfl (by decide), ?_⟩
        refine xbr_t (z2) ?_
        exact q_sees I.1 hS A80 mw B xm td hdr nm1 nm2 (tu := 0) (sl := 0) (by decide) (by decide) (fun k st hh hk ek hst est h24 eh => absurd ⟨k, st, hh, hk, ek, hst, est, h24, eh⟩ no) (fun _ => xbr_t rfl (h s hs0))
    · refine xbr_t (z1) ?_
      refine ⟨i + 3, SR s 3 rfl (by decide), ?_⟩
      refine ⟨i + 4, SR s 4 rfl (by decide), ?_⟩
      refine ⟨i + 5, SR s 5 rfl (by decide), ?_⟩
      refine xbr_f (z2) ?_
      refine m_Sees I.1 hS F1 B xc hdr hTR nc1 nc2 (tu := 0) (sl := 1) (by decide) (by decide) (fun k st hh hk ek hst est h24 eh s1 n1 f1 => ?_) (fun no => ?_)
      · have c1 : ∀ q, (q < 56 ∨ 78 < q ∨ (59 ≤ q ∧ q ≤ 62)) → s1.1 q = s.1 q := fun q hq => f1.1 q (by omega) (by omega) (by omega)
        have E : s1.1 900 = s.1 900 := c1 900 (by omega)
        obtain ⟨a80, a81, mw1, xm1, tm1, em1, nm1', nm2'⟩ := hL0.r (s1 := s1) (fun q hq => c1 q (by omega))
        refine ⟨i + 1, SR s1 1 (c1 901 (by omega)) (by decide), ?_⟩
        refine ⟨i + 2, SR s1 2 (c1 901 (by omega)) (by decide), ?_⟩
        refine xbr_t (by rw [E]; exact z1) ?_
        refine ⟨i + 3, SR s1 3 (c1 901 (by omega)) (by decide), ?_⟩
        refine ⟨i + 4, SR s1 4 (c1 901 (by omega)) (by decide), ?_⟩
        refine ⟨i + 5, SR s1 5 (c1 901 (by omega)) (by decide), ?_⟩
        refine xbr_f (by rw [E]; exact z2) ?_
        rw [E]
        refine q_sees I.1 hS a80 mw1 B xm1 td hdr nm1' nm2' (tu := 0) (sl := 1) (by decide) (by decide) (fun k' st' hh' hk' ek' hst' est' h24' eh' s2 n2 f2 => ?_) (fun no => absurd ⟨k, st, hh, hk, ek, hst, est, h24, eh⟩ no)
        have e1 : k' = k := zeq (by omega) (by omega) (ek'.symm.trans ek)
        have e2 : st' = st := zeq (by omega) (by omega) (est'.symm.trans est)
        have e3 : hh' = hh := zeq (by omega) (by omega) (eh'.symm.trans eh)
        subst e1
        subst e2
        subst e3
        exact xbr_t rfl (h s2 (LI_B e900 e901 hL0 c1 n1 (fun q h1 h2 _ _ => f2.1 q h1 h2) n2))
      · refine ⟨i + 1, SR s 1 rfl (by decide), ?_⟩
        refine ⟨i + 2, SR s 2 rfl (by decide), ?_⟩
        refine xbr_t (z1) ?_
        refine ⟨i + 3, SR s 3 rfl (by decide), ?_⟩
        refine ⟨i + 4, SR s 4 rfl (by decide), ?_⟩
        refine ⟨i + 5, SR s 5 rfl (by decide), ?_⟩
        refine xbr_f (z2) ?_
        exact q_sees I.1 hS A80 mw B xm td hdr nm1 nm2 (tu := 0) (sl := 1) (by decide) (by decide) (fun k st hh hk ek hst est h24 eh => absurd ⟨k, st, hh, hk, ek, hst, est, h24, eh⟩ no) (fun _ => xbr_t rfl (h s hs0))
  · by_cases z2 : s.1 900 (i + 5) = nI 0
    · refine xbr_f (z1) ?_
      refine ⟨i + 3, SR s 3 rfl (by decide), ?_⟩
      refine ⟨i + 4, SR s 4 rfl (by decide), ?_⟩
      refine ⟨i + 5, SR s 5 rfl (by decide), ?_⟩
      refine xbr_t (z2) ?_
      refine m_Sees I.1 hS F1 B xc hdr hTR nc1 nc2 (tu := 1) (sl := 0) (by decide) (by decide) (fun k st hh hk ek hst est h24 eh s1 n1 f1 => ?_) (fun no => ?_)
      · have c1 : ∀ q, (q < 56 ∨ 78 < q ∨ (59 ≤ q ∧ q ≤ 62)) → s1.1 q = s.1 q := fun q hq => f1.1 q (by omega) (by omega) (by omega)
        have E : s1.1 900 = s.1 900 := c1 900 (by omega)
        obtain ⟨a80, a81, mw1, xm1, tm1, em1, nm1', nm2'⟩ := hL0.r (s1 := s1) (fun q hq => c1 q (by omega))
        refine ⟨i + 1, SR s1 1 (c1 901 (by omega)) (by decide), ?_⟩
        refine ⟨i + 2, SR s1 2 (c1 901 (by omega)) (by decide), ?_⟩
        refine xbr_f (by rw [E]; exact z1) ?_
        refine ⟨i + 3, SR s1 3 (c1 901 (by omega)) (by decide), ?_⟩
        refine ⟨i + 4, SR s1 4 (c1 901 (by omega)) (by decide), ?_⟩
        refine ⟨i + 5, SR s1 5 (c1 901 (by omega)) (by decide), ?_⟩
        refine xbr_t (by rw [E]; exact z2) ?_
        rw [E]
        refine q_sees I.1 hS a80 mw1 B xm1 td hdr nm1' nm2' (tu := 1) (sl := 0) (by decide) (by decide) (fun k' st' hh' hk' ek' hst' est' h24' eh' s2 n2 f2 => ?_) (fun no => absurd ⟨k, st, hh, hk, ek, hst, est, h24, eh⟩ no)
        have e1 : k' = k := zeq (by omega) (by omega) (ek'.symm.trans ek)
        have e2 : st' = st := zeq (by omega) (by omega) (est'.symm.trans est)
        have e3 : hh' = hh := zeq (by omega) (by omega) (eh'.symm.trans eh)
        subst e1
        subst e2
        subst e3
        exact xbr_t rfl (h s2 (LI_B e900 e901 hL0 c1 n1 (fun q h1 h2 _ _ => f2.1 q h1 h2) n2))
      · refine ⟨i + 1, SR s 1 rfl (by decide), ?_⟩
        refine ⟨i + 2, SR s 2 rfl (by decide), ?_⟩
        refine xbr_f (z1) ?_
        refine ⟨i + 3, SR s 3 rfl (by decide), ?_⟩
        refine ⟨i + 4, SR s 4 rfl (by decide), ?_⟩
        refine ⟨i + 5, SR s 5 rfl (by decide), ?_⟩
        refine xbr_t (z2) ?_
        exact q_sees I.1 hS A80 mw B xm td hdr nm1 nm2 (tu := 1) (sl := 0) (by decide) (by decide) (fun k st hh hk ek hst est h24 eh => absurd ⟨k, st, hh, hk, ek, hst, est, h24, eh⟩ no) (fun _ => xbr_t rfl (h s hs0))
    · refine xbr_f (z1) ?_
      refine ⟨i + 3, SR s 3 rfl (by decide), ?_⟩
      refine ⟨i + 4, SR s 4 rfl (by decide), ?_⟩
      refine ⟨i + 5, SR s 5 rfl (by decide), ?_⟩
      refine xbr_f (z2) ?_
      refine m_Sees I.1 hS F1 B xc hdr hTR nc1 nc2 (tu := 1) (sl := 1) (by decide) (by decide) (fun k st hh hk ek hst est h24 eh s1 n1 f1 => ?_) (fun no => ?_)
      · have c1 : ∀ q, (q < 56 ∨ 78 < q ∨ (59 ≤ q ∧ q ≤ 62)) → s1.1 q = s.1 q := fun q hq => f1.1 q (by omega) (by omega) (by omega)
        have E : s1.1 900 = s.1 900 := c1 900 (by omega)
        obtain ⟨a80, a81, mw1, xm1, tm1, em1, nm1', nm2'⟩ := hL0.r (s1 := s1) (fun q hq => c1 q (by omega))
        refine ⟨i + 1, SR s1 1 (c1 901 (by omega)) (by decide), ?_⟩
        refine ⟨i + 2, SR s1 2 (c1 901 (by omega)) (by decide), ?_⟩
        refine xbr_f (by rw [E]; exact z1) ?_
        refine ⟨i + 3, SR s1 3 (c1 901 (by omega)) (by decide), ?_⟩
        refine ⟨i + 4, SR s1 4 (c1 901 (by omega)) (by decide), ?_⟩
        refine ⟨i + 5, SR s1 5 (c1 901 (by omega)) (by decide), ?_⟩
        refine xbr_f (by rw [E]; exact z2) ?_
        rw [E]
        refine q_sees I.1 hS a80 mw1 B xm1 td hdr nm1' nm2' (tu := 1) (sl := 1) (by decide) (by decide) (fun k' st' hh' hk' ek' hst' est' h24' eh' s2 n2 f2 => ?_) (fun no => absurd ⟨k, st, hh, hk, ek, hst, est, h24, eh⟩ no)
        have e1 : k' = k := zeq (by omega) (by omega) (ek'.symm.trans ek)
        have e2 : st' = st := zeq (by omega) (by omega) (est'.symm.trans est)
        have e3 : hh' = hh := zeq (by omega) (by omega) (eh'.symm.trans eh)
        subst e1
        subst e2
        subst e3
        exact xbr_t rfl (h s2 (LI_B e900 e901 hL0 c1 n1 (fun q h1 h2 _ _ => f2.1 q h1 h2) n2))
      · refine ⟨i + 1, SR s 1 rfl (by decide), ?_⟩
        refine ⟨i + 2, SR s 2 rfl (by decide), ?_⟩
        refine xbr_f (z1) ?_
        refine ⟨i + 3, SR s 3 rfl (by decide), ?_⟩
        refine ⟨i + 4, SR s 4 rfl (by decide), ?_⟩
        refine ⟨i + 5, SR s 5 rfl (by decide), ?_⟩
        refine xbr_f (z2) ?_
        exact q_sees I.1 hS A80 mw B xm td hdr nm1 nm2 (tu := 1) (sl := 1) (by decide) (by decide) (fun k st hh hk ek hst est h24 eh => absurd ⟨k, st, hh, hk, ek, hst, est, h24, eh⟩ no) (fun _ => xbr_t rfl (h s hs0))
set_option maxRecDepth 20000 in
theorem law_18 (I : xRk X P) (hS : S ≤ 128) {N i : Nat} {sc : Nat → Int32} {s : xS} (hs : LI S N sc s) (hi : i + 6 ≤ N) (hN : N ≤ 3074) (h : ∀ s' : xS, LI S N sc s' → X (d + 99) mL_law Q (L0 S) 1047 [some (.ref 900), some (.ref 0), some (.ref 79), some (.int (nI i))] [] s') : X (d + 99) mL_law Q (L0 S) 819 [some (.ref 900), some (.ref 0), some (.ref 79), some (.int (nI i))] [] s := by
  have hs0 := hs
  obtain ⟨e900, e901, f, ru, g, rk, n, t, dn, hL⟩ := hs
  have hL0 := hL
  obtain ⟨⟨F1, F12, A80, A81⟩, ⟨B, Bg, wg, t15, rv, rvk⟩, ⟨tc, tm, n3, tb⟩, ⟨ft1, ft2⟩, ⟨e59, eS, mw⟩, ⟨xc, xm⟩, nc, nmd⟩ := hL
  have SR : ∀ (q : xS) (k : Nat), q.1 901 = s.1 901 → k ≤ 5 → nI (i + k) < q.1 901 0 ∧ i + k < 2 ^ 31 ∧ nI i + nI k = nI (i + k) := fun q k e hk => ⟨by rw [e, e901]; exact zlt (by omega) (by omega), by omega, nad i k⟩
  have c16 := B.cc16
  have b8 := B.1.1
  obtain ⟨dr, hdr⟩ := rv.dr dn
  have td := xc.td
  have hTR : TR dr := rdn_td hdr td
  obtain ⟨ec, nc1, nc2⟩ := nc
  obtain ⟨em, nm1, nm2⟩ := nmd
  have n0 : ∃ e, NC s e ∧ EB e := ⟨ec, nc1, nc2⟩
  refine rn I.1 [1047] 199 ?_
  refine ⟨i + 1, SR s 1 rfl (by decide), ?_⟩
  refine ⟨i + 2, SR s 2 rfl (by decide), ?_⟩
  by_cases z : s.1 900 (i + 2) = nI 0
  · refine xbr_t (z) ?_
    refine ⟨i + 3, SR s 3 rfl (by decide), ?_⟩
    refine m_Ask I.1 hS F1 B xc hdr hTR nc1 nc2 eS e59 (bt := 0) (by decide) (fun hh w h24 eh hw ew s1 n1 f1 => ?_) (fun no => ?_)
    · have c1 : ∀ q, (q < 56 ∨ 78 < q ∨ (59 ≤ q ∧ q ≤ 62)) → s1.1 q = s.1 q := f1.1
      have E : s1.1 900 = s.1 900 := c1 900 (by omega)
      obtain ⟨a80, a81, mw1, xm1, tm1, em1, nm1', nm2'⟩ := hL0.r (s1 := s1) (fun q hq => c1 q (by omega))
      refine ⟨i + 1, SR s1 1 (c1 901 (by omega)) (by decide), ?_⟩
      refine ⟨i + 2, SR s1 2 (c1 901 (by omega)) (by decide), ?_⟩
      refine xbr_t (by rw [E]; exact z) ?_
      refine ⟨i + 3, SR s1 3 (c1 901 (by omega)) (by decide), ?_⟩
      rw [E]
      refine q_ask I.1 hS a80 mw1 B xm1 td hdr nm1' nm2' (bt := 0) (by decide) (fun hh' w' h24' eh' hw' ew' s2 n2 f2 => ?_) (fun no => absurd ⟨hh, w, h24, eh, hw, ew⟩ no)
      have e1 : hh' = hh := zeq (by omega) (by omega) (eh'.symm.trans eh)
      have e2 : w' = w := zeq (by omega) (by omega) (ew'.symm.trans ew)
      subst e1
      subst e2
      exact xbr_t rfl (h s2 (LI_B e900 e901 hL0 c1 n1 f2.1 n2))
    · refine ⟨i + 1, SR s 1 rfl (by decide), ?_⟩
      refine ⟨i + 2, SR s 2 rfl (by decide), ?_⟩
      refine xbr_t (z) ?_
      refine ⟨i + 3, SR s 3 rfl (by decide), ?_⟩
      exact q_ask I.1 hS A80 mw B xm td hdr nm1 nm2 (bt := 0) (by decide) (fun hh w h24 eh hw ew => absurd ⟨hh, w, h24, eh, hw, ew⟩ no) (fun _ => xbr_t rfl (h s hs0))
  · refine xbr_f (z) ?_
    refine ⟨i + 3, SR s 3 rfl (by decide), ?_⟩
    refine m_Ask I.1 hS F1 B xc hdr hTR nc1 nc2 eS e59 (bt := 1) (by decide) (fun hh w h24 eh hw ew s1 n1 f1 => ?_) (fun no => ?_)
    · have c1 : ∀ q, (q < 56 ∨ 78 < q ∨ (59 ≤ q ∧ q ≤ 62)) → s1.1 q = s.1 q := f1.1
      have E : s1.1 900 = s.1 900 := c1 900 (by omega)
      obtain ⟨a80, a81, mw1, xm1, tm1, em1, nm1', nm2'⟩ := hL0.r (s1 := s1) (fun q hq => c1 q (by omega))
      refine ⟨i + 1, SR s1 1 (c1 901 (by omega)) (by decide), ?_⟩
      refine ⟨i + 2, SR s1 2 (c1 901 (by omega)) (by decide), ?_⟩
      refine xbr_f (by rw [E]; exact z) ?_
      refine ⟨i + 3, SR s1 3 (c1 901 (by omega)) (by decide), ?_⟩
      rw [E]
      refine q_ask I.1 hS a80 mw1 B xm1 td hdr nm1' nm2' (bt := 1) (by decide) (fun hh' w' h24' eh' hw' ew' s2 n2 f2 => ?_) (fun no => absurd ⟨hh, w, h24, eh, hw, ew⟩ no)
      have e1 : hh' = hh := zeq (by omega) (by omega) (eh'.symm.trans eh)
      have e2 : w' = w := zeq (by omega) (by omega) (ew'.symm.trans ew)
      subst e1
      subst e2
      exact xbr_t rfl (h s2 (LI_B e900 e901 hL0 c1 n1 f2.1 n2))
    · refine ⟨i + 1, SR s 1 rfl (by decide), ?_⟩
      refine ⟨i + 2, SR s 2 rfl (by decide), ?_⟩
      refine xbr_f (z) ?_
      refine ⟨i + 3, SR s 3 rfl (by decide), ?_⟩
      exact q_ask I.1 hS A80 mw B xm td hdr nm1 nm2 (bt := 1) (by decide) (fun hh w h24 eh hw ew => absurd ⟨hh, w, h24, eh, hw, ew⟩ no) (fun _ => xbr_t rfl (h s hs0))
end LAWB
