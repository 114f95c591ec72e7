/-! the class's reader: ONE, a choice, ASK -/
theorem pB_r {x : Nat × Dn × Cd} {k : Nat → Dn → Cd → pR} : pB (.inr x) k = k x.1 x.2.1 x.2.2 := rfl
theorem CM.at {P : xPT} {S cnt n : Nat} {kd vl pl t : Nat → Nat} {c f m id : Nat} (h : CM P S cnt n kd vl pl t c f m id) (d op i : Nat) (s : xS) {Q : xQ} (o : Nat → Nat) (z : Nat) (D : Dn) (C : Cd) {x : Int32} (ex : x = nI op) (h1 : 8 * (9 - op) + m + 6 ≤ d) (h2 : op ≤ 8) (h3 : i ≤ cnt) (h4 : z < i) (h5 : 16 * (cnt + 1 - i) + m < f) (h6 : RS s cnt kd vl i c) (h7 : PG s 26 o z) (h8 : TKs s cnt kd vl pl) (h9 : TC s n t) (hh : CO Q s cnt n kd vl pl c z i o z (nd m op) (pE (tk3 cnt kd 0) (tk3 cnt vl 0) c f m op i D C)) : P d (L0 S) id [.ref 25, .int x] s Q := by
  subst ex
  exact h d op i s Q o z D C h1 h2 h3 h4 h5 h6 h7 h8 h9 hh
section ONE
variable {X : xXT} {P : xPT} {S cnt n c f : Nat} {kd vl pl t : Nat → Nat}
theorem m_takeNumber (I : xRl X P) (hS : S ≤ 128) (hK : TKK cnt n c kd vl) {d i z N : Nat} {s : xS} {Q : xQ} {o : Nat → Nat} (ic : i < cnt) (hz : z < i) (hN : 1 ≤ N) (hR : RS s cnt kd vl i c) (hp : PG s 26 o z) (hT : TKs s cnt kd vl pl) (hC : TC s n t) (h : CO Q s cnt n kd vl pl c z i o z N (if 9999 < tk3 cnt vl 0 i then .inl (2, i) else .inr (i + 1, fun _ => (tk3 cnt vl 0 i : Int), [(0, tk3 cnt vl 0 i)]))) : P (d + 3) (L0 S) 50 [.ref 25] s Q := by
  have c3 := hK.1
  have vb := hK.2.2.2.2.2.1 i
  have e6 := hR.2.2.2.2.1
  refine inX5_takeNumber I (L0ok hS) ?_
  refine rn I [] 99 ?_
  by_cases hv : 9999 < tk3 cnt vl 0 i
  · rw [if_pos hv] at h
    refine xbr_t (by rw [e6]; exact zlt hv (by omega)) ?_
    exact m_refuse I hS hT hC (by omega) hR (by decide) (by decide) (fun s' a b g => h s' a (hp.dz.r g) g.j)
  · rw [if_neg hv] at h
    refine xbr_f (by rw [e6]; exact znl (by omega) (by omega)) ?_
    refine m_add I hS hp (by omega) (k := 2) (v := tk3 cnt vl 0 i) rfl e6 (by decide) vb (fun s1 p1 f1 => ?_)
    have R1 := hR.D f1
    refine m_advance I hS (hT.j f1.j) (i := i + 1) (c := c) (by omega) R1.1 R1.2.1 R1.adv R1.2.2.2.2.2 (fun s2 R2 f2 => ?_)
    refine h s2 _ (z + 1) R2 (p1.r f2) (by show z + 1 + i ≤ z + (i + 1); omega) (fun q hq => on_n (by omega)) (SG.num (by rw [on_s]) hN) (f1.j.tr f2.j)
theorem m_takeName (I : xRl X P) (hS : S ≤ 128) (hK : TKK cnt n c kd vl) {d i z N : Nat} {s : xS} {Q : xQ} {o : Nat → Nat} (ic : i < cnt) (k3 : tk3 cnt kd 0 i = 3) (hz : z < i) (hN : 1 ≤ N) (hR : RS s cnt kd vl i c) (hp : PG s 26 o z) (hT : TKs s cnt kd vl pl) (hC : TC s n t) (h : CO Q s cnt n kd vl pl c z i o z N (if tk3 cnt vl 0 i ≤ 4 ∨ (tk3 cnt vl 0 i = 9 ∧ c = 3) ∨ (tk3 cnt vl 0 i ≠ 9 ∧ (c = 1 ∨ c = 2)) then .inr (i + 1, fun e => (e (tk3 cnt vl 0 i) : Int), [(1, tk3 cnt vl 0 i)]) else .inl (5, i))) : P (d + 3) (L0 S) 51 [.ref 25] s Q := by
  have c3 := hK.1
  have vb := hK.2.2.2.2.1 i k3
  have e6 := hR.2.2.2.2.1
  refine inX5_takeName I (L0ok hS) ?_
  refine rn I [] 99 ?_
  refine m_isOf I hS e6 hR.2.2.2.2.2 vb hK.2.1 (fun ha => ?_) (fun ha => ?_)
  · unfold al at ha
    rw [if_pos ha] at h
    refine xbr_f n10 ?_
    refine m_add I hS hp (by omega) (k := 3) (v := tk3 cnt vl 0 i) rfl e6 (by decide) (by omega) (fun s1 p1 f1 => ?_)
    have R1 := hR.D f1
    refine m_advance I hS (hT.j f1.j) (i := i + 1) (c := c) (by omega) R1.1 R1.2.1 R1.adv R1.2.2.2.2.2 (fun s2 R2 f2 => ?_)
    refine h s2 _ (z + 1) R2 (p1.r f2) (by show z + 1 + i ≤ z + (i + 1); omega) (fun q hq => on_n (by omega)) (SG.nam (by rw [on_s]) vb hN) (f1.j.tr f2.j)
  · unfold al at ha
    rw [if_neg ha] at h
    refine xbr_t rfl ?_
    exact m_refuse I hS hT hC (by omega) hR (by decide) (by decide) (fun s' a b g => h s' a (hp.dz.r g) g.j)
theorem C_choice (I : xRl X P) (hS : S ≤ 128) (hK : TKK cnt n c kd vl) (ih5 : CM P S cnt n kd vl pl t c f 5 54) (ih2 : CM P S cnt n kd vl pl t c f 2 47) {d op i z N : Nat} {s : xS} {Q : xQ} {o : Nat → Nat} {D : Dn} {C : Cd} {xo : Int32} (ex : xo = nI op) (hd : 8 * (9 - op) + 12 ≤ d) (hop : op ≤ 8) (hi : i ≤ cnt) (hz : z < i) (hN : 5 * (8 - op) + 6 ≤ N) (hf : 16 * (cnt + 1 - i) + 5 < f) (hR : RS s cnt kd vl i c) (hp : PG s 26 o z) (hT : TKs s cnt kd vl pl) (hC : TC s n t) (h : CO Q s cnt n kd vl pl c z i o z N (pB (pE (tk3 cnt kd 0) (tk3 cnt vl 0) c f 5 op i D C) (fun j D0 C0 => if tk3 cnt kd 0 j = 23 then pB (pE (tk3 cnt kd 0) (tk3 cnt vl 0) c f 2 op (j + 1) D C) (fun k D1 C1 => if tk3 cnt kd 0 k = 24 then pB (pE (tk3 cnt kd 0) (tk3 cnt vl 0) c f 2 op (k + 1) D C) (fun w D2 C2 => if tk3 cnt kd 0 w = 6 then .inr (w + 1, fun e => if D0 e = 0 then D2 e else D1 e, C0 ++ C1 ++ C2 ++ [(23, 0)]) else .inl (1, w)) else .inl (1, k)) else .inl (1, j)))) : P d (L0 S) 53 [.ref 25, .int xo] s Q := by
  subst ex
  have c3 := hK.1
  have h31 := (pE_p (c := c) hK.2.2.2.1 hK.2.2.2.2.1 f).1
  obtain ⟨d, rfl⟩ : ∃ d', d = d' + 20 := ⟨d - 20, by omega⟩
  -- behind a fault
  have F63 : ∀ {k p : Nat} {s' : xS} (v2 v3 : Int32), RF s' k p → DZ s' → (∀ s'' : xS, RF s'' k p → DZ s'' → fJ s' s'' → Q none s'') → X (d + 19) mX5_readChoice Q (L0 S) 63 [some (.ref 25), some (.int (nI op)), some (.int v2), some (.int v3)] [] s' := by
    intro k p s' v2 v3 a b g
    refine rn I [] 99 ?_
    exact m_landF I hS a b g
  have F57 : ∀ {k p : Nat} {s' : xS} (v2 v3 : Int32), RF s' k p → DZ s' → (∀ s'' : xS, RF s'' k p → DZ s'' → fJ s' s'' → Q none s'') → X (d + 19) mX5_readChoice Q (L0 S) 57 [some (.ref 25), some (.int (nI op)), some (.int v2), some (.int v3)] [] s' := by
    intro k p s' v2 v3 a b g
    refine rn I [63] 99 ?_
    exact m_expectF I hS a (by decide) (by decide) (fun s1 a1 f1 => F63 v2 v3 a1 (b.r f1) (fun s2 a2 b2 f2 => g s2 a2 b2 (f1.j.tr f2)))
  have F33 : ∀ {k p : Nat} {s' : xS} (v2 : Int32), RF s' k p → DZ s' → (∀ s'' : xS, RF s'' k p → DZ s'' → fJ s' s'' → Q none s'') → X (d + 19) mX5_readChoice Q (L0 S) 33 [some (.ref 25), some (.int (nI op)), some (.int v2), none] [] s' := by
    intro k p s' v2 a b g
    refine rn I [57] 99 ?_
    refine m_addF I hS a b (fun s1 v3 a1 b1 f1 => ?_)
    refine m_landF I hS a1 b1 (fun s2 a2 b2 f2 => ?_)
    refine m_sumF I hS a2 b2 (fun s3 a3 b3 f3 => ?_)
    exact F57 v2 v3 a3 b3 (fun s4 a4 b4 f4 => g s4 a4 b4 (((f1.tr f2).tr f3).tr f4))
  have F27 : ∀ {k p : Nat} {s' : xS} (v2 : Int32), RF s' k p → DZ s' → (∀ s'' : xS, RF s'' k p → DZ s'' → fJ s' s'' → Q none s'') → X (d + 19) mX5_readChoice Q (L0 S) 27 [some (.ref 25), some (.int (nI op)), some (.int v2), none] [] s' := by
    intro k p s' v2 a b g
    refine rn I [33] 99 ?_
    exact m_expectF I hS a (by decide) (by decide) (fun s1 a1 f1 => F33 v2 a1 (b.r f1) (fun s2 a2 b2 f2 => g s2 a2 b2 (f1.j.tr f2)))
  have F11 : ∀ {k p : Nat} {s' : xS}, RF s' k p → DZ s' → (∀ s'' : xS, RF s'' k p → DZ s'' → fJ s' s'' → Q none s'') → X (d + 19) mX5_readChoice Q (L0 S) 11 [some (.ref 25), some (.int (nI op)), none, none] [] s' := by
    intro k p s' a b g
    refine rn I [27] 99 ?_
    refine m_addF I hS a b (fun s1 v2 a1 b1 f1 => ?_)
    refine m_sumF I hS a1 b1 (fun s2 a2 b2 f2 => ?_)
    exact F27 v2 a2 b2 (fun s3 a3 b3 f3 => g s3 a3 b3 ((f1.tr f2).tr f3))
  refine inX5_readChoice I (L0ok hS) ?_
  refine rn I [5] 99 ?_
  refine ih5.at (d + 19) op i s o z D C rfl (by omega) hop hi hz hf hR hp hT hC ?_
  cases hr : pE (tk3 cnt kd 0) (tk3 cnt vl 0) c f 5 op i D C with
  | inl e =>
    rw [hr] at h
    intro s2 F2 Z2 j2
    refine rn I [11] 99 ?_
    exact m_expectF I hS F2 (by decide) (by decide) (fun s3 a3 f3 => F11 a3 (Z2.r f3) (fun s4 a4 b4 f4 => h s4 a4 b4 ((j2.tr f3.j).tr f4)))
  | inr x0 =>
    rw [hr, pB_r] at h
    obtain ⟨a1, a2, a3, a4, a5, a6⟩ := h31 5 op i D C x0.1 x0.2.1 x0.2.2 (by decide) hr
    have a2 := a2 hi
    intro s1 o1 z1 R1 p1 b1 b2 b3 j1
    have zz1 := b3.1
    have T1 := hT.j j1
    have C1 := hC.j j1
    refine rn I [11] 99 ?_
    refine m_expect I hS T1 C1 (by omega) R1 hK.2.2.1 (by decide) (fun kj s2 R2 f2 => ?_) (fun kj s2 F2 _ f2 => ?_)
    · rw [if_pos kj] at h
      have jc := hK.2.2.2.1 x0.1 (by omega)
      have T2 := T1.j f2.j
      have C2 := C1.j f2.j
      refine rn I [27] 99 ?_
      refine m_add I hS (p1.r f2) (by omega) (k := 26) (v := 0) rfl rfl (by decide) (by decide) (fun s3 p3 f3 => ?_)
      refine ih2.at (d + 19) op (x0.1 + 1) s3 _ (z1 + 1) D C rfl (by omega) hop (by omega) (by omega) (by omega) (R2.D f3) p3 (T2.j f3.j) (C2.j f3.j) ?_
      have JJ3 := (j1.tr f2.j).tr f3.j
      have T3 := T2.j f3.j
      have C3 := C2.j f3.j
      cases hr1 : pE (tk3 cnt kd 0) (tk3 cnt vl 0) c f 2 op (x0.1 + 1) D C with
      | inl e =>
        rw [hr1] at h
        intro s4 F4 Z4 j4
        exact F27 (nI z1) F4 Z4 (fun s5 a5 b5 f5 => h s5 a5 b5 ((JJ3.tr j4).tr f5))
      | inr x1 =>
        rw [hr1, pB_r] at h
        obtain ⟨e1, e2, e3, e4, e5, e6⟩ := h31 2 op (x0.1 + 1) D C x1.1 x1.2.1 x1.2.2 (by decide) hr1
        have e2 := e2 (by omega)
        intro s4 o2 z2 R4 p4 g1 g2 g3 j4
        have zz2 := g3.1
        have T4 := T3.j j4
        have C4 := C3.j j4
        refine rn I [33] 99 ?_
        refine m_expect I hS T4 C4 (by omega) R4 hK.2.2.1 (by decide) (fun kk s5 R5 f5 => ?_) (fun kk s5 F5 _ f5 => ?_)
        · rw [if_pos kk] at h
          have kc := hK.2.2.2.1 x1.1 (by omega)
          have T5 := T4.j f5.j
          have C5 := C4.j f5.j
          refine rn I [57] 99 ?_
          refine m_add I hS (p4.r f5) (by omega) (k := 27) (v := 0) rfl rfl (by decide) (by decide) (fun s6 p6 f6 => ?_)
          refine m_landHere I hS p6 (i := z1) rfl (by omega) (fun s7 p7 f7 => ?_)
          refine ih2.at (d + 19) op (x1.1 + 1) s7 _ (z2 + 1) D C rfl (by omega) hop (by omega) (by omega) (by omega) ((R5.D f6).D f7) p7 ((T5.j f6.j).j f7.j) ((C5.j f6.j).j f7.j) ?_
          have JJ7 := (((JJ3.tr j4).tr f5.j).tr f6.j).tr f7.j
          have T7 := (T5.j f6.j).j f7.j
          have C7 := (C5.j f6.j).j f7.j
          cases hr2 : pE (tk3 cnt kd 0) (tk3 cnt vl 0) c f 2 op (x1.1 + 1) D C with
          | inl e =>
            rw [hr2] at h
            intro s8 F8 Z8 j8
            exact F57 (nI z1) (nI z2) F8 Z8 (fun s9 a9 b9 f9 => h s9 a9 b9 ((JJ7.tr j8).tr f9))
          | inr x2 =>
            rw [hr2, pB_r] at h
            obtain ⟨l1, l2, l3, l4, l5, l6⟩ := h31 2 op (x1.1 + 1) D C x2.1 x2.2.1 x2.2.2 (by decide) hr2
            have l2 := l2 (by omega)
            intro s8 o5 z3 R8 p8 m1 m2 m3 j8
            have zz3 := m3.1
            have T8 := T7.j j8
            have C8 := C7.j j8
            refine rn I [63] 99 ?_
            refine m_expect I hS T8 C8 (by omega) R8 hK.2.2.1 (by decide) (fun kw s9 R9 f9 => ?_) (fun kw s9 F9 _ f9 => ?_)
            · rw [if_pos kw] at h
              refine rn I [] 99 ?_
              refine m_landHere I hS (p8.r f9) (i := z2) rfl (by omega) (fun s10 p10 f10 => ?_)
              have q1 : ∀ q, q < z1 + 1 → o2 q = on o1 z1 (26 + 32 * 0) q := g2
              have q3 : ∀ q, q ≠ z2 → on o2 z2 (27 + 32 * 0) q = o2 q := fun q hq => on_n hq
              have v3 : on o2 z2 (27 + 32 * 0) z1 = 26 := by rw [q3 z1 (by omega), q1 z1 (by omega), on_s]
              have q4 : ∀ q, q ≠ z1 → on (on o2 z2 (27 + 32 * 0)) z1 (on o2 z2 (27 + 32 * 0) z1 % 32 + 32 * (z2 + 1)) q = on o2 z2 (27 + 32 * 0) q := fun q hq => on_n hq
              have v4 : on (on o2 z2 (27 + 32 * 0)) z1 (on o2 z2 (27 + 32 * 0) z1 % 32 + 32 * (z2 + 1)) z1 = 26 + 32 * (z2 + 1) := by rw [on_s, v3]
              have v5 : o5 z2 = 27 := by rw [m2 z2 (by omega), q4 z2 (by omega), on_s]
              have q6 : ∀ q, q ≠ z2 → on o5 z2 (o5 z2 % 32 + 32 * z3) q = o5 q := fun q hq => on_n hq
              have A : ∀ q, q < z1 → on o5 z2 (o5 z2 % 32 + 32 * z3) q = o1 q := fun q hq => by
                rw [q6 q (by omega), m2 q (by omega), q4 q (by omega), q3 q (by omega), q1 q (by omega), on_n (by omega)]
              have B : ∀ q, z1 + 1 ≤ q → q < z2 → on o5 z2 (o5 z2 % 32 + 32 * z3) q = o2 q := fun q h1 h2 => by
                rw [q6 q (by omega), m2 q (by omega), q4 q (by omega), q3 q (by omega)]
              refine h s10 _ z3 (R9.D f10) p10 (by show z3 + i ≤ z + (x2.1 + 1); omega) (fun q hq => (A q (by omega)).trans (b2 q hq)) ?_ (((JJ7.tr j8).tr f9.j).tr f10.j)
              refine SG.ite (b := z1) (c := z2) ((b3.cg (fun q h1 h2 => A q h2)).up (by unfold nd; omega)) ?_ ((g3.cg B).up (by unfold nd; omega)) ?_ ((m3.cg (fun q h1 h2 => q6 q (by omega))).up (by unfold nd; omega)) a5.di
              · rw [q6 z1 (by omega), m2 z1 (by omega)]; exact v4
              · rw [on_s, v5]
            · rw [if_neg kw] at h
              exact F63 (nI z1) (nI z2) F9 (p8.dz.r f9) (fun s10 a10 b10 f10 => h s10 a10 b10 (((JJ7.tr j8).tr f9.j).tr f10))
        · rw [if_neg kk] at h
          exact F33 (nI z1) F5 (p4.dz.r f5) (fun s6 a6 b6 f6 => h s6 a6 b6 (((JJ3.tr j4).tr f5.j).tr f6))
    · rw [if_neg kj] at h
      exact F11 F2 (p1.dz.r f2) (fun s3 a3 b3 f3 => h s3 a3 b3 ((j1.tr f2.j).tr f3))
theorem C_one (I : xRl X P) (hS : S ≤ 128) (hK : TKK cnt n c kd vl) (ih0 : CM P S cnt n kd vl pl t c f 0 49) (ih2 : CM P S cnt n kd vl pl t c f 2 47) (ih5 : CM P S cnt n kd vl pl t c f 5 54) : CM P S cnt n kd vl pl t c (f + 1) 0 49 := by
  intro d op i s Q o z D C hd hop hi hz hf hR hp hT hC h
  rw [pE_0] at h
  have c3 := hK.1
  have kb := hK.k i
  have e5 := hR.2.2.2.1
  have h31 := (pE_p (c := c) hK.2.2.2.1 hK.2.2.2.2.1 f).1
  obtain ⟨d, rfl⟩ : ∃ d', d = d' + 14 := ⟨d - 14, by omega⟩
  have NE : ∀ q, q < 32 → tk3 cnt kd 0 i ≠ q → ¬ s.1 25 5 = nI q := fun q hq hk => by rw [e5]; exact zne hk (by omega) (by omega)
  refine inX5_readOne I (L0ok hS) ?_
  refine rn I [] 199 ?_
  by_cases k2 : tk3 cnt kd 0 i = 2
  · rw [if_pos k2] at h
    refine xbr_t (by rw [e5, k2]) ?_
    exact m_takeNumber I hS hK (hK.2.2.2.1 i (by omega)) hz (by unfold nd; omega) hR hp hT hC h
  rw [if_neg k2] at h
  refine xbr_f (NE 2 (by decide) k2) ?_
  by_cases k3 : tk3 cnt kd 0 i = 3
  · rw [if_pos k3] at h
    refine xbr_t (by rw [e5, k3]) ?_
    exact m_takeName I hS hK (hK.2.2.2.1 i (by omega)) k3 hz (by unfold nd; omega) hR hp hT hC h
  rw [if_neg k3] at h
  refine xbr_f (NE 3 (by decide) k3) ?_
  by_cases k5 : tk3 cnt kd 0 i = 5
  · have ic := hK.2.2.2.1 i (by omega)
    rw [if_neg (by omega), if_neg (by omega), if_pos k5] at h
    refine xbr_t (by rw [e5, k5]) ?_
    refine m_enters I hS hT hC (by omega) hR hop (fun o8 s1 R1 f1 => ?_) (fun o8 s1 F1 _ f1 => ?_)
    · rw [if_pos o8] at h
      refine xbr_f n10 ?_
      exact C_choice I hS hK ih5 ih2 (op := op + 1) (i := i + 1) (N := nd 0 op) (n1s op).symm (by omega) (by omega) (by omega) (by omega) (by unfold nd; omega) (by omega) R1 (hp.r f1) (hT.j f1.j) (hC.j f1.j) (CO.step h f1.j (fun _ _ => rfl) (by omega))
    · rw [if_neg (by omega)] at h
      refine xbr_t rfl ?_
      exact h s1 F1 (hp.dz.r f1) f1.j
  rw [if_neg k5] at h
  refine xbr_f (NE 5 (by decide) k5) ?_
  by_cases k17 : tk3 cnt kd 0 i = 17
  · have ic := hK.2.2.2.1 i (by omega)
    rw [if_neg (by omega), if_pos k17] at h
    refine xbr_t (by rw [e5, k17]) ?_
    refine m_enters I hS hT hC (by omega) hR hop (fun o8 s1 R1 f1 => ?_) (fun o8 s1 F1 _ f1 => ?_)
    · rw [if_pos o8] at h
      refine xbr_f n10 ?_
      refine ih0.at (d + 13) (op + 1) (i + 1) s1 o z D C (n1s op).symm (by omega) (by omega) (by omega) (by omega) (by omega) R1 (hp.r f1) (hT.j f1.j) (hC.j f1.j) ?_
      cases hr : pE (tk3 cnt kd 0) (tk3 cnt vl 0) c f 0 (op + 1) (i + 1) D C with
      | inl e =>
        rw [hr] at h
        intro s2 F2 Z2 j2
        exact m_addF I hS F2 Z2 (fun s3 v F3 Z3 j3 => h s3 F3 Z3 ((f1.j.tr j2).tr j3))
      | inr x =>
        rw [hr, pB_r] at h
        obtain ⟨a1, a2, a3, a4, a5, a6⟩ := h31 0 (op + 1) (i + 1) D C x.1 x.2.1 x.2.2 (by decide) hr
        have a2 := a2 ic
        intro s2 o2 z2 R2 p2 b1 b2 b3 j2
        have zz := b3.1
        refine m_add I hS p2 (by omega) (k := 25) (v := 0) rfl rfl (by decide) (by decide) (fun s3 p3 f3 => ?_)
        have on2 : ∀ q, q < z2 → on o2 z2 (25 + 32 * 0) q = o2 q := fun q hq => on_n (by omega)
        refine h s3 _ (z2 + 1) (R2.D f3) p3 (by show z2 + 1 + i ≤ z + x.1; omega) (fun q hq => (on2 q (by omega)).trans (b2 q hq)) (SG.neg ((b3.cg (fun q h1 h2 => on2 q h2)).up (by unfold nd; omega)) (by rw [on_s])) ((f1.j.tr j2).tr f3.j)
    · rw [if_neg (by omega)] at h
      refine xbr_t rfl ?_
      exact h s1 F1 (hp.dz.r f1) f1.j
  rw [if_neg k17] at h
  refine xbr_f (NE 17 (by decide) k17) ?_
  by_cases k20 : tk3 cnt kd 0 i = 20
  · have ic := hK.2.2.2.1 i (by omega)
    rw [if_pos k20] at h
    refine xbr_t (by rw [e5, k20]) ?_
    refine m_enters I hS hT hC (by omega) hR hop (fun o8 s1 R1 f1 => ?_) (fun o8 s1 F1 _ f1 => ?_)
    · rw [if_pos o8] at h
      refine xbr_f n10 ?_
      refine ih2.at (d + 13) (op + 1) (i + 1) s1 o z D C (n1s op).symm (by omega) (by omega) (by omega) (by omega) (by omega) R1 (hp.r f1) (hT.j f1.j) (hC.j f1.j) ?_
      cases hr : pE (tk3 cnt kd 0) (tk3 cnt vl 0) c f 2 (op + 1) (i + 1) D C with
      | inl e =>
        rw [hr] at h
        intro s2 F2 Z2 j2
        exact m_expectF I hS F2 (by decide) (by decide) (fun s3 a3 f3 => h s3 a3 (Z2.r f3) ((f1.j.tr j2).tr f3.j))
      | inr x =>
        rw [hr, pB_r] at h
        obtain ⟨a1, a2, a3, a4, a5, a6⟩ := h31 2 (op + 1) (i + 1) D C x.1 x.2.1 x.2.2 (by decide) hr
        have a2 := a2 ic
        intro s2 o2 z2 R2 p2 b1 b2 b3 j2
        have T2 := hT.j (f1.j.tr j2)
        have C2 := hC.j (f1.j.tr j2)
        refine m_expect I hS T2 C2 (by omega) R2 hK.2.2.1 (by decide) (fun kj s3 R3 f3 => ?_) (fun kj s3 F3 _ f3 => ?_)
        · rw [if_pos kj] at h
          exact h s3 o2 z2 R3 (p2.r f3) (by show z2 + i ≤ z + (x.1 + 1); omega) b2 (b3.up (by unfold nd; omega)) ((f1.j.tr j2).tr f3.j)
        · rw [if_neg kj] at h
          exact h s3 F3 (p2.dz.r f3) ((f1.j.tr j2).tr f3.j)
    · rw [if_neg (by omega)] at h
      refine xbr_t rfl ?_
      exact h s1 F1 (hp.dz.r f1) f1.j
  rw [if_neg k20] at h
  refine xbr_f (NE 20 (by decide) k20) ?_
  exact m_refuse I hS hT hC (by omega) hR (by decide) (by decide) (fun s' a b g => h s' a (hp.dz.r g) g.j)
theorem jz_cmz {k : Nat} (h1 : 10 ≤ k) (h2 : k < 16) (D1 D2 : Dn) : (fun e => jz k (D1 e) (D2 e)) = fun e => cmz k (D1 e) (D2 e) := by
  funext e
  unfold jz
  rw [if_neg (by omega), if_neg (by omega), if_neg (by omega)]
theorem C_ask (I : xRl X P) (hS : S ≤ 128) (hK : TKK cnt n c kd vl) (ih3 : CM P S cnt n kd vl pl t c f 3 56) (ih2 : CM P S cnt n kd vl pl t c f 2 47) : CM P S cnt n kd vl pl t c (f + 1) 3 56 := by
  intro d op i s Q o z D C hd hop hi hz hf hR hp hT hC h
  rw [pE_3] at h
  have c3 := hK.1
  have kb := hK.k i
  have e5 := hR.2.2.2.1
  have h31 := (pE_p (c := c) hK.2.2.2.1 hK.2.2.2.2.1 f).1
  obtain ⟨d, rfl⟩ : ∃ d', d = d' + 14 := ⟨d - 14, by omega⟩
  refine inX5_readAsk I (L0ok hS) ?_
  refine rn I [] 99 ?_
  by_cases k9 : tk3 cnt kd 0 i = 9
  · have ic := hK.2.2.2.1 i (by omega)
    rw [if_pos k9] at h
    refine xbr_t (by rw [e5, k9]) ?_
    refine m_enters I hS hT hC (by omega) hR hop (fun o8 s1 R1 f1 => ?_) (fun o8 s1 F1 _ f1 => ?_)
    · rw [if_pos o8] at h
      refine xbr_f n10 ?_
      refine ih3.at (d + 13) (op + 1) (i + 1) s1 o z D C (n1s op).symm (by omega) (by omega) (by omega) (by omega) (by omega) R1 (hp.r f1) (hT.j f1.j) (hC.j f1.j) ?_
      cases hr : pE (tk3 cnt kd 0) (tk3 cnt vl 0) c f 3 (op + 1) (i + 1) D C with
      | inl e =>
        rw [hr] at h
        intro s2 F2 Z2 j2
        exact m_addF I hS F2 Z2 (fun s3 v F3 Z3 j3 => h s3 F3 Z3 ((f1.j.tr j2).tr j3))
      | inr x =>
        rw [hr, pB_r] at h
        obtain ⟨a1, a2, a3, a4, a5, a6⟩ := h31 3 (op + 1) (i + 1) D C x.1 x.2.1 x.2.2 (by decide) hr
        have a2 := a2 ic
        intro s2 o2 z2 R2 p2 b1 b2 b3 j2
        have zz := b3.1
        refine m_add I hS p2 (by omega) (k := 9) (v := 0) rfl rfl (by decide) (by decide) (fun s3 p3 f3 => ?_)
        have on2 : ∀ q, q < z2 → on o2 z2 (9 + 32 * 0) q = o2 q := fun q hq => on_n (by omega)
        refine h s3 _ (z2 + 1) (R2.D f3) p3 (by show z2 + 1 + i ≤ z + x.1; omega) (fun q hq => (on2 q (by omega)).trans (b2 q hq)) (SG.nt ((b3.cg (fun q h1 h2 => on2 q h2)).up (by unfold nd; omega)) (by rw [on_s])) ((f1.j.tr j2).tr f3.j)
    · rw [if_neg (by omega)] at h
      refine xbr_t rfl ?_
      exact h s1 F1 (hp.dz.r f1) f1.j
  · rw [if_neg k9] at h
    refine xbr_f (by rw [e5]; exact zne k9 (by omega) (by decide)) ?_
    refine ih2.at (d + 13) op i s o z D C rfl (by omega) hop hi hz (by omega) hR hp hT hC ?_
    cases hr : pE (tk3 cnt kd 0) (tk3 cnt vl 0) c f 2 op i D C with
    | inl e =>
      rw [hr] at h
      intro s2 F2 Z2 j2
      refine xbr_t (by rw [F2.2.2.2.2]; exact zlt (by decide) (by decide)) ?_
      exact m_refuseF I hS F2 (fun s3 a3 f3 => h s3 a3 (Z2.r f3) (j2.tr f3.j))
    | inr x =>
      rw [hr, pB_r] at h
      obtain ⟨a1, a2, a3, a4, a5, a6⟩ := h31 2 op i D C x.1 x.2.1 x.2.2 (by decide) hr
      have a2 := a2 hi
      intro s2 o2 z2 R2 p2 b1 b2 b3 j2
      have zz := b3.1
      have T2 := hT.j j2
      have C2 := hC.j j2
      have kx := hK.k x.1
      have e5' := R2.2.2.2.1
      have NO : ¬ (10 ≤ tk3 cnt kd 0 x.1 ∧ tk3 cnt kd 0 x.1 < 16) → ∀ s3 : xS, RF s3 1 (tk3 cnt pl n x.1) → s3.1 25 7 = nI c → f25 s2 s3 → Q none s3 := by
        intro hno s3 a3 _ f3
        rw [if_neg hno] at h
        exact h s3 a3 (p2.dz.r f3) (j2.tr f3.j)
      by_cases l10 : tk3 cnt kd 0 x.1 < 10
      · refine xbr_t (by rw [e5']; exact zlt l10 (by decide)) ?_
        exact m_refuse I hS T2 C2 (by omega) R2 (by decide) (by decide) (NO (by omega))
      refine xbr_f (by rw [e5']; exact znl (by omega) (by omega)) ?_
      by_cases l15 : 15 < tk3 cnt kd 0 x.1
      · refine xbr_t (by rw [e5']; exact zlt l15 (by omega)) ?_
        exact m_refuse I hS T2 C2 (by omega) R2 (by decide) (by decide) (NO (by omega))
      refine xbr_f (by rw [e5']; exact znl (by omega) (by omega)) ?_
      rw [if_pos (by omega)] at h
      have jc := hK.2.2.2.1 x.1 (by omega)
      refine m_advance I hS T2 (i := x.1 + 1) (c := c) (by omega) R2.1 R2.2.1 R2.adv R2.2.2.2.2.2 (fun s3 R3 f3 => ?_)
      refine ih2.at (d + 13) op (x.1 + 1) s3 o2 z2 D C rfl (by omega) hop (by omega) (by omega) (by omega) R3 (p2.r f3) (T2.j f3.j) (C2.j f3.j) ?_
      cases hr1 : pE (tk3 cnt kd 0) (tk3 cnt vl 0) c f 2 op (x.1 + 1) D C with
      | inl e =>
        rw [hr1] at h
        intro s4 F4 Z4 j4
        exact m_addF I hS F4 Z4 (fun s5 v F5 Z5 j5 => h s5 F5 Z5 (((j2.tr f3.j).tr j4).tr j5))
      | inr y =>
        rw [hr1, pB_r] at h
        obtain ⟨g1, g2, g3, g4, g5, g6⟩ := h31 2 op (x.1 + 1) D C y.1 y.2.1 y.2.2 (by decide) hr1
        have g2 := g2 (by omega)
        intro s4 o4 z4 R4 p4 m1 m2 m3 j4
        have zz4 := m3.1
        refine m_add I hS p4 (by omega) (k := tk3 cnt kd 0 x.1) (v := 0) e5' rfl (by omega) (by decide) (fun s5 p5 f5 => ?_)
        have on4 : ∀ q, q < z4 → on o4 z4 (tk3 cnt kd 0 x.1 + 32 * 0) q = o4 q := fun q hq => on_n (by omega)
        refine h s5 _ (z4 + 1) (R4.D f5) p5 (by show z4 + 1 + i ≤ z + y.1; omega) (fun q hq => ((on4 q (by omega)).trans (m2 q (by omega))).trans (b2 q hq)) ?_ (((j2.tr f3.j).tr j4).tr f5.j)
        show SG _ _ _ _ (fun e => cmz (tk3 cnt kd 0 x.1) (x.2.1 e) (y.2.1 e))
        rw [← jz_cmz (by omega) (by omega)]
        exact SG.bin (b3.cg (fun q h1 h2 => (on4 q (by omega)).trans (m2 q h2))) (m3.cg (fun q h1 h2 => on4 q h2)) (by rw [on_s]; rfl) (by omega) a5.di g5.di (by unfold nd; omega) (by unfold nd; omega)
theorem C_main (I : xRl X P) (hS : S ≤ 128) (hK : TKK cnt n c kd vl) : ∀ f, CM P S cnt n kd vl pl t c f 0 49 ∧ CM P S cnt n kd vl pl t c f 1 48 ∧ CM P S cnt n kd vl pl t c f 2 47 ∧ CM P S cnt n kd vl pl t c f 3 56 ∧ CM P S cnt n kd vl pl t c f 4 55 ∧ CM P S cnt n kd vl pl t c f 5 54 ∧ CL X S cnt n kd vl pl t c f 1 mX5_readProduct (fun o3 => [o3]) ∧ CL X S cnt n kd vl pl t c f 2 mX5_readSum (fun o3 => [o3]) ∧ CL X S cnt n kd vl pl t c f 4 mX5_readBoth (fun _ => []) ∧ CL X S cnt n kd vl pl t c f 5 mX5_readEither (fun _ => []) := by
  intro f
  induction f with
  | zero =>
    have A : ∀ m id, CM P S cnt n kd vl pl t c 0 m id := fun m id d op i s Q o z D C h1 h2 h3 h4 h5 => absurd h5 (Nat.not_lt_zero _)
    have B : ∀ l M tl, CL X S cnt n kd vl pl t c 0 l M tl := fun l M tl d op i it s Q o z zb D C o3 h1 h2 h3 h4 h5 h6 => absurd h6 (Nat.not_lt_zero _)
    exact ⟨A _ _, A _ _, A _ _, A _ _, A _ _, A _ _, B _ _ _, B _ _ _, B _ _ _, B _ _ _⟩
  | succ f ih =>
    obtain ⟨i0, i1, i2, i3, i4, i5, l1, l2, l4, l5⟩ := ih
    exact ⟨C_one I hS hK i0 i2 i5, C_lev1 I hS hK i0 l1, C_lev2 I hS hK i1 l2, C_ask I hS hK i3 i2, C_lev4 I hS hK i3 l4, C_lev5 I hS hK i4 l5, C_loop1 I hS hK i0 l1, C_loop2 I hS hK i1 l2, C_loop4 I hS hK i3 l4, C_loop5 I hS hK i4 l5⟩
end ONE
