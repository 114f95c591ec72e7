/-! what holds between two calls of the law -/
def RV (ru : Int32) (n : Nat) : Prop := ru = -(nI 1) ∨ ∃ j, j < n ∧ ru = nI j
theorem RV.dr {ru : Int32} {n : Nat} (h : RV ru n) (dn : Nat → Nat → Option Dn) : ∃ dr, rdn ru n dn dr := by
  rcases h with h | ⟨j, h1, h2⟩
  · exact ⟨fun _ => none, Or.inl ⟨h, fun _ => rfl⟩⟩
  · exact ⟨dn j, Or.inr ⟨j, h1, h2, rfl⟩⟩
def LC (S : Nat) (s : xS) (f : Nm) (ru : Int32) (g : Nm) (rk : Int32) (n : Nat) (t : Nat → Nat) (dn : Nat → Nat → Option Dn) : Prop :=
  (FC s.1 1 f ru ∧ FC s.1 12 g rk ∧ FA (s.1 80) f ru ∧ FA (s.1 81) g rk) ∧ (FB f ∧ FB g ∧ (g 0 0 = f 0 0 ∧ g 0 1 = f 0 1) ∧ g 0 15 ≤ f 0 15 ∧ RV ru (f 0 15) ∧ RV rk (g 0 15)) ∧ (TC s n t ∧ TM s n t ∧ n ≤ 300 ∧ ∀ i, i < n → t i < 256) ∧ (s.1 25 1 = s.1 79 7 ∧ s.1 25 2 = s.1 79 8) ∧ (s.1 59 2 = nI S ∧ S = 8 * cc f ∧ MW s f) ∧ (TXC s (f 0 15) dn ∧ TXM s (f 0 15) dn) ∧ (∃ e, NC s e ∧ EB e) ∧ (∃ e, NMd s e ∧ EB e)
def LI (S N : Nat) (sc : Nat → Int32) (s : xS) : Prop := s.1 900 = sc ∧ s.1 901 0 = nI N ∧ ∃ f ru g rk n t dn, LC S s f ru g rk n t dn
theorem TC.q {s s' : xS} {n : Nat} {t : Nat → Nat} (h : TC s n t) (e1 : s'.1 23 = s.1 23) (e2 : s'.1 24 = s.1 24) : TC s' n t := ⟨by rw [e1]; exact h.1, fun i hi => by rw [e2]; exact h.2 i hi⟩
theorem TM.q {s s' : xS} {n : Nat} {t : Nat → Nat} (h : TM s n t) (e1 : s'.1 79 6 = s.1 79 6) (e2 : s'.1 83 = s.1 83) : TM s' n t := ⟨by rw [e1]; exact h.1, fun i hi => by rw [e2]; exact h.2 i hi⟩
theorem NC.q {s s' : xS} (h : ∃ e, NC s e ∧ EB e) (e : s'.1 57 = s.1 57) : ∃ e, NC s' e ∧ EB e := by
  obtain ⟨e0, h1, h2⟩ := h
  exact ⟨e0, fun k hk => by rw [e]; exact h1 k hk, h2⟩
theorem NMd.q {s s' : xS} (h : ∃ e, NMd s e ∧ EB e) (e : s'.1 85 = s.1 85) : ∃ e, NMd s' e ∧ EB e := by
  obtain ⟨e0, h1, h2⟩ := h
  exact ⟨e0, fun k hk => by rw [e]; exact h1 k hk, h2⟩
theorem FC.q {s s' : xS} {b : Nat} {f : Nm} {ru : Int32} (h : FC s.1 b f ru) (e : ∀ k, b ≤ k → k ≤ b + 10 → s'.1 k = s.1 k) : FC s'.1 b f ru := h.same e
theorem FA.q {s s' : xS} {k : Nat} {f : Nm} {ru : Int32} (h : FA (s.1 k) f ru) (e : s'.1 k = s.1 k) : FA (s'.1 k) f ru := by rw [e]; exact h
theorem MW.q {s s' : xS} {f : Nm} (h : MW s f) (e2 : s'.1 79 2 = s.1 79 2) (e3 : s'.1 79 3 = s.1 79 3) : MW s' f := ⟨by rw [e2]; exact h.1, by rw [e3]; exact h.2⟩
theorem TXC.q {s s' : xS} {n : Nat} {dn : Nat → Nat → Option Dn} (h : TXC s n dn) (hn : n ≤ 4) (e : ∀ q, 35 ≤ q → q ≤ 53 → s'.1 q = s.1 q) : TXC s' n dn := h.cg (Nat.le_refl _) (e 53 (by decide) (by decide)) (fun q h1 h2 => e q h1 (by omega)) (fun _ _ => rfl)
theorem TXM.q {s s' : xS} {n : Nat} {dn : Nat → Nat → Option Dn} (h : TXM s n dn) (e : s'.1 82 = s.1 82) : TXM s' n dn := h.cg (Nat.le_refl _) (fun i _ => by rw [e]) (fun _ _ => rfl)
theorem TXC.td {s : xS} {n : Nat} {dn : Nat → Nat → Option Dn} (h : TXC s n dn) : ∀ t, t < n → ∀ c, c < 4 → TDs c (dn t c) := fun t ht c hc => by
  obtain ⟨o, z, -, h2⟩ := h.2 t ht
  exact (h2 c hc).2
section LINV
variable {S n : Nat} {s s1 s2 : xS} {f f' g : Nm} {ru ru' rk : Int32} {t : Nat → Nat} {dn : Nat → Nat → Option Dn}
/-- the reference's part, where the class alone has been at work -/
theorem LC.r (h : LC S s f ru g rk n t dn) (e : ∀ q, 79 ≤ q → s1.1 q = s.1 q) : FA (s1.1 80) f ru ∧ FA (s1.1 81) g rk ∧ MW s1 f ∧ TXM s1 (f 0 15) dn ∧ TM s1 n t ∧ (∃ e, NMd s1 e ∧ EB e) := by
  obtain ⟨⟨F1, F12, A80, A81⟩, -, ⟨tc, tm, n3, tb⟩, -, ⟨e59, eS, mw⟩, ⟨xc, xm⟩, nc, nmd⟩ := h
  have e79 := e 79 (by decide)
  exact ⟨A80.q (e 80 (by decide)), A81.q (e 81 (by decide)), mw.q (by rw [e79]) (by rw [e79]), xm.q (e 82 (by decide)), tm.q (by rw [e79]) (e 83 (by decide)), NMd.q nmd (e 85 (by decide))⟩
theorem LI_A {N : Nat} {sc : Nat → Int32} (e900 : s.1 900 = sc) (e901 : s.1 901 0 = nI N) (h : LC S s f ru g rk n t dn) (hF : FC s1.1 1 f' ru') (o1 : oth s.1 s1.1) (hA : FA (s2.1 80) f' ru') (o2 : ∀ k, k ≠ 80 → s2.1 k = s1.1 k) (hB : FB f') (e0 : f' 0 0 = f 0 0) (e1 : f' 0 1 = f 0 1) (e15 : f' 0 15 = f 0 15) (hr : RV ru' (f 0 15)) : LI S N sc s2 := by
  have E : ∀ q, 11 < q → q ≠ 80 → s2.1 q = s.1 q := fun q h1 h2 => (o2 q h2).trans (o1 q (Or.inr h1))
  obtain ⟨⟨F1, F12, A80, A81⟩, ⟨B, Bg, wg, t15, rv, rvk⟩, ⟨tc, tm, n3, tb⟩, ⟨ft1, ft2⟩, ⟨e59, eS, mw⟩, ⟨xc, xm⟩, nc, nmd⟩ := h
  have e79 := E 79 (by decide) (by decide)
  have e25 := E 25 (by decide) (by decide)
  have b4 := B.1.2.2.2
  refine ⟨by rw [E 900 (by decide) (by decide)]; exact e900, by rw [E 901 (by decide) (by decide)]; exact e901, f', ru', g, rk, n, t, dn, ⟨hF.q (fun k h1 h2 => o2 k (by omega)), F12.q (fun k h1 h2 => E k (by omega) (by omega)), hA, A81.q (E 81 (by decide) (by decide))⟩, ⟨hB, Bg, ⟨by rw [e0]; exact wg.1, by rw [e1]; exact wg.2⟩, by rw [e15]; exact t15, by rw [e15]; exact hr, rvk⟩, ⟨tc.q (E 23 (by decide) (by decide)) (E 24 (by decide) (by decide)), tm.q (by rw [e79]) (E 83 (by decide) (by decide)), n3, tb⟩, ⟨by rw [e25, e79]; exact ft1, by rw [e25, e79]; exact ft2⟩, ⟨by rw [E 59 (by decide) (by decide)]; exact e59, ?_, ?_⟩, ⟨?_, ?_⟩, NC.q nc (E 57 (by decide) (by decide)), NMd.q nmd (E 85 (by decide) (by decide))⟩
  · unfold cc; rw [e0, e1]; exact eS
  · exact ⟨by rw [e79, e0]; exact mw.1, by rw [e79, e1]; exact mw.2⟩
  · rw [e15]; exact xc.q b4 (fun q h1 h2 => E q (by omega) (by omega))
  · rw [e15]; exact xm.q (E 82 (by decide) (by decide))
theorem LI_B {N : Nat} {sc : Nat → Int32} (e900 : s.1 900 = sc) (e901 : s.1 901 0 = nI N) (h : LC S s f ru g rk n t dn) (c1 : ∀ q, (q < 56 ∨ 78 < q ∨ (59 ≤ q ∧ q ≤ 62)) → s1.1 q = s.1 q) (n1 : ∃ e, NC s1 e ∧ EB e) (c2 : ∀ q, q ≠ 85 → q ≠ 87 → q ≠ 89 → q ≠ 90 → s2.1 q = s1.1 q) (n2 : ∃ e, NMd s2 e ∧ EB e) : LI S N sc s2 := by
  have E : ∀ q, (q < 56 ∨ 78 < q ∨ (59 ≤ q ∧ q ≤ 62)) → q ≠ 85 → q ≠ 87 → q ≠ 89 → q ≠ 90 → s2.1 q = s.1 q := fun q h1 h2 h3 h4 h5 => (c2 q h2 h3 h4 h5).trans (c1 q h1)
  obtain ⟨⟨F1, F12, A80, A81⟩, ⟨B, Bg, wg, t15, rv, rvk⟩, ⟨tc, tm, n3, tb⟩, ⟨ft1, ft2⟩, ⟨e59, eS, mw⟩, ⟨xc, xm⟩, nc, nmd⟩ := h
  have G : ∀ q, (q < 56 ∨ q = 59 ∨ (79 ≤ q ∧ q ≤ 84) ∨ 900 ≤ q) → s2.1 q = s.1 q := fun q hq => E q (by omega) (by omega) (by omega) (by omega) (by omega)
  have e79 := G 79 (by omega)
  have e25 := G 25 (by omega)
  have b4 := B.1.2.2.2
  exact ⟨by rw [G 900 (by omega)]; exact e900, by rw [G 901 (by omega)]; exact e901, f, ru, g, rk, n, t, dn, ⟨F1.q (fun k h1 h2 => G k (by omega)), F12.q (fun k h1 h2 => G k (by omega)), A80.q (G 80 (by omega)), A81.q (G 81 (by omega))⟩, ⟨B, Bg, wg, t15, rv, rvk⟩, ⟨tc.q (G 23 (by omega)) (G 24 (by omega)), tm.q (by rw [e79]) (G 83 (by omega)), n3, tb⟩, ⟨by rw [e25, e79]; exact ft1, by rw [e25, e79]; exact ft2⟩, ⟨by rw [G 59 (by omega)]; exact e59, eS, mw.q (by rw [e79]) (by rw [e79])⟩, ⟨xc.q b4 (fun q h1 h2 => G q (by omega)), xm.q (G 82 (by omega))⟩, NC.q n1 (c2 57 (by decide) (by decide) (by decide) (by decide)), n2⟩
theorem LI_C {N m : Nat} {t' : Nat → Nat} {sc : Nat → Int32} (e900 : s.1 900 = sc) (e901 : s.1 901 0 = nI N) (h : LC S s f ru g rk n t dn) (hT : TC s1 m t') (f1 : fTC s s1) (hM : TM s2 m t') (f2 : fTM s1 s2) (hm : m ≤ 300) (hb : ∀ i, i < m → t' i < 256) : LI S N sc s2 := by
  obtain ⟨⟨F1, F12, A80, A81⟩, ⟨B, Bg, wg, t15, rv, rvk⟩, ⟨tc, tm, n3, tb⟩, ⟨ft1, ft2⟩, ⟨e59, eS, mw⟩, ⟨xc, xm⟩, nc, nmd⟩ := h
  have G : ∀ q, q ≠ 23 → q ≠ 24 → q ≠ 79 → q ≠ 83 → s2.1 q = s.1 q := fun q h1 h2 h3 h4 => (f2.1 q h3 h4).trans (f1.1 q h1 h2)
  have e79 : ∀ i, i ≠ 6 → s2.1 79 i = s.1 79 i := fun i hi => (f2.2.1 i hi).trans (by rw [f1.1 79 (by decide) (by decide)])
  have e25 := G 25 (by decide) (by decide) (by decide) (by decide)
  have b4 := B.1.2.2.2
  exact ⟨by rw [G 900 (by decide) (by decide) (by decide) (by decide)]; exact e900, by rw [G 901 (by decide) (by decide) (by decide) (by decide)]; exact e901, f, ru, g, rk, m, t', dn, ⟨F1.q (fun k h1 h2 => G k (by omega) (by omega) (by omega) (by omega)), F12.q (fun k h1 h2 => G k (by omega) (by omega) (by omega) (by omega)), A80.q (G 80 (by decide) (by decide) (by decide) (by decide)), A81.q (G 81 (by decide) (by decide) (by decide) (by decide))⟩, ⟨B, Bg, wg, t15, rv, rvk⟩, ⟨hT.q (f2.1 23 (by decide) (by decide)) (f2.1 24 (by decide) (by decide)), hM, hm, hb⟩, ⟨by rw [e25, e79 7 (by decide)]; exact ft1, by rw [e25, e79 8 (by decide)]; exact ft2⟩, ⟨by rw [G 59 (by decide) (by decide) (by decide) (by decide)]; exact e59, eS, mw.q (e79 2 (by decide)) (e79 3 (by decide))⟩, ⟨xc.q b4 (fun q h1 h2 => G q (by omega) (by omega) (by omega) (by omega)), xm.q (G 82 (by decide) (by decide) (by decide) (by decide))⟩, NC.q nc (G 57 (by decide) (by decide) (by decide) (by decide)), NMd.q nmd (G 85 (by decide) (by decide) (by decide) (by decide))⟩
end LINV
theorem ap_lt {t : Nat → Nat} {n m v i : Nat} (h : ∀ i, i < n → t i < 256) (hm : n ≤ m) (hv : v < 256) (hn : m = n) (hi : i < m + 1) : ap t m v i < 256 := by
  subst hn
  by_cases e : i = m
  · rw [e, ap_s]; exact hv
  · rw [ap_n e]; exact h i (by omega)
theorem ap4_lt {t : Nat → Nat} {n : Nat} {x : Int32} (h : ∀ i, i < n → t i < 256) : ∀ i, i < n + 4 → ap4 t n x i < 256 := by
  intro i hi
  unfold ap4
  refine ap_lt (n := n + 3) (fun i hi => ?_) (Nat.le_refl _) (by_lt x 0) rfl hi
  refine ap_lt (n := n + 2) (fun i hi => ?_) (Nat.le_refl _) (by_lt x 8) rfl hi
  refine ap_lt (n := n + 1) (fun i hi => ?_) (Nat.le_refl _) (by_lt x 16) rfl hi
  exact ap_lt (n := n) h (Nat.le_refl _) (by_lt x 24) rfl hi
theorem ap20_lt {t : Nat → Nat} {n : Nat} {a b c e g : Int32} (h : ∀ i, i < n → t i < 256) : ∀ i, i < n + 20 → ap20 t n a b c e g i < 256 := by
  unfold ap20
  exact ap4_lt (n := n + 16) (ap4_lt (n := n + 12) (ap4_lt (n := n + 8) (ap4_lt (n := n + 4) (ap4_lt h))))
