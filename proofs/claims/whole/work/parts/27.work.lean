/-! a clause worked by the class's machine, for each of the four programs -/
def WK (X : xXT) (Q : xQ) (d S c b k : Nat) (s : xS) (pc : Nat) (p : List Int) : Prop := p.length ≤ 64 → ∀ (s' : xS) (o5 o6 o7 : Option Value), PLs s' p → fM s s' → X (d + 3) mX1_work Q (L0 S) 18 [some (.ref 56), some (.ref k), some (.int (nI c)), some (.int (nI b)), some (.int (nI pc)), o5, o6, o7] [] s'
section SEG
variable {X : xXT} {P : xPT} {d S : Nat} {s : xS} {Q : xQ}
theorem m_maxR (I : xRl X P) (hS : S ≤ 128) {x y : Int32} {a b : Nat} (hx : x = nI a) (hy : y = nI b) (hab : a ≤ b) (hb : b < 2 ^ 30) (h : Q (some (.int y)) s) : P (d + 1) (L0 S) 218 [.int x, .int y] s Q := by
  refine inJ9_max_7cf53 I (L0ok hS) ?_
  refine rn I [] 99 ?_
  by_cases hc : a < b
  · exact xbr_t (by rw [hx, hy]; exact zlt hc (by omega)) h
  · have e : x = y := by rw [hx, hy, show a = b by omega]
    rw [← e] at h
    exact xbr_f (by rw [hx, hy]; exact znl (by omega) (by omega)) h
theorem m_has_35 (I : xRl X P) (hS : S ≤ 128) {c : Nat} (hc : c < 4) {v : Int32} (hv : s.1 36 c = v) (h1 : v ≠ -(nI 1) → Q (some (.int (nI 1))) s) (h0 : v = -(nI 1) → Q (some (.int (nI 0))) s) : P (d + 1) (L0 S) 35 [.ref 35, .int (nI c)] s Q := by
  refine inX4_has I (L0ok hS) ?_
  refine rn I [] 99 ?_
  refine xbr_f (zn0 (by omega)) ?_
  refine xbr_t (zlt hc (by decide)) ?_
  refine ⟨c, ⟨hc, rfl⟩, ?_⟩
  refine xbr_c (fun e => ?_) (fun e => ?_)
  · exact ⟨bz, h0 (hv.symm.trans e)⟩
  · exact ⟨bo, h1 (fun z => e (hv.trans z))⟩

theorem m_start_35 (I : xRl X P) (hS : S ≤ 128) {c a : Nat} (hc : c < 4) (ha : a ≤ 300) (hv : s.1 36 c = nI a) (h : Q (some (.int (nI a))) s) : P (d + 2) (L0 S) 40 [.ref 35, .int (nI c)] s Q := by
  refine inX4_start I (L0ok hS) ?_
  refine rn I [] 99 ?_
  refine m_has_35 I hS hc hv (fun _ => ?_) (fun e => absurd e (zm1n (by omega)))
  refine xbr_f n10 ?_
  refine ⟨c, ⟨hc, rfl⟩, ?_⟩
  rw [← hv] at h
  exact h
theorem m_stop_35 (I : xRl X P) (hS : S ≤ 128) {c a : Nat} (hc : c < 4) (ha : a ≤ 300) (hv : s.1 36 c = nI a) (h : Q (some (.int (s.1 37 c))) s) : P (d + 2) (L0 S) 41 [.ref 35, .int (nI c)] s Q := by
  refine inX4_stop I (L0ok hS) ?_
  refine rn I [] 99 ?_
  refine m_has_35 I hS hc hv (fun _ => ?_) (fun e => absurd e (zm1n (by omega)))
  refine xbr_f n10 ?_
  exact ⟨c, ⟨hc, rfl⟩, h⟩
theorem m_orderAt_35 (I : xRl X P) (hS : S ≤ 128) {o : Nat → Nat} {z i : Nat} (hp : PG s 35 o z) (hi : i < z) (h : Q (some (.int (nI (o i)))) s) : P (d + 1) (L0 S) 42 [.ref 35, .int (nI i)] s Q := by
  have hz := hp.2.1
  refine inX4_orderAt I (L0ok hS) ?_
  refine rn I [] 99 ?_
  refine xbr_f (zn0 (by omega)) ?_
  refine xbr_t (by rw [hp.1]; exact zlt hi (by omega)) ?_
  refine xbr_t (zlt (by omega) (by decide)) ?_
  refine ⟨i, ⟨by omega, rfl⟩, ?_⟩
  rw [← (hp.2.2 i hi).1] at h
  exact h
theorem m_work_35 (I : xRl X P) (hS : S ≤ 128) {o e : Nat → Nat} {z c a b n : Nat} {D : Dn} (hc : c < 4) (hp : PG s 35 o z) (hb : b ≤ z) (ea : s.1 36 c = nI a) (eb : s.1 37 c = nI b) (hG : SG o a b n D) (hn : n ≤ 64) (he : EB e) (hN : ∀ k, k < 10 → s.1 57 k = nI (e k)) (h : ∀ s' : xS, fM s s' → Q (some (.int (jI (D e)))) s') : P (d + 4) (L0 S) 21 [.ref 56, .ref 35, .int (nI c)] s Q := by
  have hz := hp.2.1
  have hab := hG.1
  have pg : ∀ s' : xS, fM s s' → PG s' 35 o z := fun s' g => ⟨by rw [g.1 35 (by decide) (by decide)]; exact hp.1, hz, fun i hi => by rw [g.1 (38) (by decide) (by decide)]; exact hp.2.2 i hi⟩
  have main : ∀ p : List Int, p.length + n ≤ 64 → WK X Q d S c b 35 s b (D e :: p) → WK X Q d S c b 35 s a p := by
    refine hG.2 e (WK X Q d S c b 35 s) he (fun pc h1 h2 => ?_)
    have hpc : pc < z := by omega
    have ho := (hp.2.2 pc hpc).2
    have dv : nI (o pc) / nI 32 = nI (o pc / 32) := pk_div (by omega) (by decide) (by decide)
    have rm : nI (o pc) - nI (o pc) / nI 32 * nI 32 = nI (o pc % 32) := pk_rem (by omega) (by decide) (by decide)
    have nz : ¬ nI 32 = nI 0 := by decide +kernel
    have inc : nI pc + nI 1 = nI (pc + 1) := nad pc 1
    refine ⟨fun k p hl kk => ?_, fun k kv p hl kk => ?_, fun k kv p x hx k0 k1 => ?_, fun k kv p kk => ?_, fun k p x kk => ?_, fun k p x kk => ?_, fun k p x y hx hy kk => ?_⟩
    · intro _ s' o5 o6 o7 hP hf
      refine rn I [18] 99 ?_
      refine xbr_t (zlt h2 (by omega)) ?_
      refine m_orderAt_35 I hS (pg s' hf) hpc ?_
      refine ⟨nz, ?_⟩
      refine ⟨nz, ?_⟩
      rw [rm, k]
      refine xbr_t rfl ?_
      rw [dv]
      show P _ _ _ [.ref 56, .int (nI (o pc / 32))] _ _
      rw [jn]
      refine m_push I hS hP hl (fun s1 p1 f1 => ?_)
      have := kk hl s1 (some (.int (nI (o pc)))) (some (.int (nI (o pc / 32)))) o7 p1 (hf.tr f1)
      rw [← inc] at this
      exact this
    · intro _ s' o5 o6 o7 hP hf
      refine rn I [18] 99 ?_
      refine xbr_t (zlt h2 (by omega)) ?_
      refine m_orderAt_35 I hS (pg s' hf) hpc ?_
      refine ⟨nz, ?_⟩
      refine ⟨nz, ?_⟩
      rw [rm, k, dv]
      refine xbr_f (by decide +kernel) (xbr_t rfl ?_)
      refine xbr_f (zn0 (by omega)) ?_
      refine xbr_t (zlt kv (by decide)) ?_
      refine ⟨o pc / 32, ⟨kv, rfl⟩, ?_⟩
      have ev : s'.1 57 (o pc / 32) = jI (e (o pc / 32) : Int) := by rw [hf.1 57 (by decide) (by decide), hN _ kv, jn]
      rw [ev]
      refine m_push I hS hP hl (fun s1 p1 f1 => ?_)
      have := kk hl s1 (some (.int (nI (o pc)))) (some (.int (nI (o pc / 32)))) o7 p1 (hf.tr f1)
      rw [← inc] at this
      exact this
    · intro hl s' o5 o6 o7 hP hf
      refine rn I [18] 99 ?_
      refine xbr_t (zlt h2 (by omega)) ?_
      refine m_orderAt_35 I hS (pg s' hf) hpc ?_
      refine ⟨nz, ?_⟩
      refine ⟨nz, ?_⟩
      rw [rm, k, dv]
      refine xbr_f (by decide +kernel) (xbr_f (by decide +kernel) (xbr_f (by decide +kernel) (xbr_f (by decide +kernel) (xbr_t rfl ?_))))
      refine m_pop I hS hP (fun s1 p1 f1 => ?_)
      have e0 : jI x = nI 0 ↔ x = 0 := by rw [jn]; exact ji_eq hx.sm (by unfold Sm; omega)
      have hl2 : p.length ≤ 64 := Nat.le_of_lt hl
      by_cases hx0 : x = 0
      · refine xbr_t (e0.mpr hx0) ?_
        refine m_maxR I hS (a := pc) (b := o pc / 32 - 1) rfl (nsb (show 1 ≤ o pc / 32 by omega)) (by omega) (by omega) ?_
        obtain ⟨w, hw⟩ : ∃ w, w = nI (o pc / 32) := ⟨_, rfl⟩
        have := k0 hx0 hl2 s1 (some (.int (nI (o pc)))) (some (.int w)) o7 p1 (hf.tr f1)
        rw [← Int32.sub_add_cancel (a := nI (o pc / 32)) (b := nI 1), hw] at this
        exact this
      · refine xbr_f (fun q => hx0 (e0.mp q)) ?_
        have := k1 hx0 hl2 s1 (some (.int (nI (o pc)))) (some (.int (nI (o pc / 32)))) o7 p1 (hf.tr f1)
        rw [← inc] at this
        exact this
    · intro hl s' o5 o6 o7 hP hf
      refine rn I [18] 99 ?_
      refine xbr_t (zlt h2 (by omega)) ?_
      refine m_orderAt_35 I hS (pg s' hf) hpc ?_
      refine ⟨nz, ?_⟩
      refine ⟨nz, ?_⟩
      rw [rm, k, dv]
      refine xbr_f (by decide +kernel) (xbr_f (by decide +kernel) (xbr_f (by decide +kernel) (xbr_f (by decide +kernel) (xbr_f (by decide +kernel) (xbr_t rfl ?_)))))
      refine m_maxR I hS (a := pc) (b := o pc / 32 - 1) rfl (nsb (show 1 ≤ o pc / 32 by omega)) (by omega) (by omega) ?_
      obtain ⟨w, hw⟩ : ∃ w, w = nI (o pc / 32) := ⟨_, rfl⟩
      have := kk hl s' (some (.int (nI (o pc)))) (some (.int w)) o7 hP hf
      rw [← Int32.sub_add_cancel (a := nI (o pc / 32)) (b := nI 1), hw] at this
      exact this
    · intro hl s' o5 o6 o7 hP hf
      refine rn I [18] 99 ?_
      refine xbr_t (zlt h2 (by omega)) ?_
      refine m_orderAt_35 I hS (pg s' hf) hpc ?_
      refine ⟨nz, ?_⟩
      refine ⟨nz, ?_⟩
      rw [rm, k, dv]
      refine xbr_f (by decide +kernel) (xbr_f (by decide +kernel) (xbr_t rfl ?_))
      refine m_pop I hS hP (fun s1 p1 f1 => ?_)
      show P _ _ _ [.ref 56, .int (nI 1 - jI x)] _ _
      rw [jn, ji_sub]
      refine m_push I hS p1 hl (fun s2 p2 f2 => ?_)
      have := kk hl s2 (some (.int (nI (o pc)))) (some (.int (nI (o pc / 32)))) o7 p2 ((hf.tr f1).tr f2)
      rw [← inc] at this
      exact this
    · intro hl s' o5 o6 o7 hP hf
      refine rn I [18] 99 ?_
      refine xbr_t (zlt h2 (by omega)) ?_
      refine m_orderAt_35 I hS (pg s' hf) hpc ?_
      refine ⟨nz, ?_⟩
      refine ⟨nz, ?_⟩
      rw [rm, k, dv]
      refine xbr_f (by decide +kernel) (xbr_f (by decide +kernel) (xbr_f (by decide +kernel) (xbr_t rfl ?_)))
      refine m_pop I hS hP (fun s1 p1 f1 => ?_)
      show P _ _ _ [.ref 56, .int (-(jI x))] _ _
      rw [ji_neg]
      refine m_push I hS p1 hl (fun s2 p2 f2 => ?_)
      have := kk hl s2 (some (.int (nI (o pc)))) (some (.int (nI (o pc / 32)))) o7 p2 ((hf.tr f1).tr f2)
      rw [← inc] at this
      exact this
    · intro hl s' o5 o6 o7 hP hf
      have hl2 : p.length + 1 + 1 ≤ 64 := hl
      refine rn I [18] 99 ?_
      refine xbr_t (zlt h2 (by omega)) ?_
      refine m_orderAt_35 I hS (pg s' hf) hpc ?_
      refine ⟨nz, ?_⟩
      refine ⟨nz, ?_⟩
      rw [rm, dv]
      refine xbr_f (zne (by omega) (by omega) (by decide)) (xbr_f (zne (by omega) (by omega) (by decide)) (xbr_f (zne (by omega) (by omega) (by decide)) (xbr_f (zne (by omega) (by omega) (by decide)) (xbr_f (zne (by omega) (by omega) (by decide)) (xbr_f (zne (by omega) (by omega) (by decide)) ?_)))))
      refine m_pop I hS hP (fun s1 p1 f1 => ?_)
      refine ⟨nz, ?_⟩
      refine m_pop I hS p1 (fun s2 p2 f2 => ?_)
      show P _ _ _ [.int (nI (o pc) - nI (o pc) / nI 32 * nI 32), .int (jI x), .int (jI y)] _ _
      rw [rm]
      refine m_joined I hS k hx hy (fun v hv ev => ?_)
      refine m_bounded I hS hv ?_
      rw [ev]
      refine m_push I hS p2 (by omega) (fun s3 p3 f3 => ?_)
      have := kk (by show p.length + 1 ≤ 64; omega) s3 (some (.int (nI (o pc)))) (some (.int (nI (o pc / 32)))) (some (.int (jI y))) p3 (((hf.tr f1).tr f2).tr f3)
      rw [← inc] at this
      exact this
  refine inX1_work I (L0ok hS) ?_
  refine rn I [18] 99 ?_
  refine m_stop_35 I hS hc (a := a) (by omega) (by rw [xW_n (by decide)]; exact ea) ?_
  refine m_start_35 I hS hc (a := a) (by omega) (by rw [xW_n (by decide)]; exact ea) ?_
  have f0 : fM s (xW s 56 2 (nI 0)) := ⟨fun q h1 h2 => xW_n h1, rfl⟩
  have eb2 : (xW s 56 2 (nI 0)).1 37 c = nI b := by rw [xW_n (by decide)]; exact eb
  have fin := main [] (by show 0 + n ≤ 64; omega) (fun hl s' o5 o6 o7 hP hf => by
    refine rn I [] 99 ?_
    refine xbr_f (znl (Nat.le_refl _) (by omega)) ?_
    exact m_pop I hS hP (fun s1 p1 f1 => h s1 (hf.tr f1))) (by decide) (xW s 56 2 (nI 0)) none none none ⟨by rw [xW_s, ud_s]; rfl, trivial, by decide⟩ f0
  rw [← eb2] at fin
  exact fin
theorem m_has_39 (I : xRl X P) (hS : S ≤ 128) {c : Nat} (hc : c < 4) {v : Int32} (hv : s.1 40 c = v) (h1 : v ≠ -(nI 1) → Q (some (.int (nI 1))) s) (h0 : v = -(nI 1) → Q (some (.int (nI 0))) s) : P (d + 1) (L0 S) 35 [.ref 39, .int (nI c)] s Q := by
  refine inX4_has I (L0ok hS) ?_
  refine rn I [] 99 ?_
  refine xbr_f (zn0 (by omega)) ?_
  refine xbr_t (zlt hc (by decide)) ?_
  refine ⟨c, ⟨hc, rfl⟩, ?_⟩
  refine xbr_c (fun e => ?_) (fun e => ?_)
  · exact ⟨bz, h0 (hv.symm.trans e)⟩
  · exact ⟨bo, h1 (fun z => e (hv.trans z))⟩

theorem m_start_39 (I : xRl X P) (hS : S ≤ 128) {c a : Nat} (hc : c < 4) (ha : a ≤ 300) (hv : s.1 40 c = nI a) (h : Q (some (.int (nI a))) s) : P (d + 2) (L0 S) 40 [.ref 39, .int (nI c)] s Q := by
  refine inX4_start I (L0ok hS) ?_
  refine rn I [] 99 ?_
  refine m_has_39 I hS hc hv (fun _ => ?_) (fun e => absurd e (zm1n (by omega)))
  refine xbr_f n10 ?_
  refine ⟨c, ⟨hc, rfl⟩, ?_⟩
  rw [← hv] at h
  exact h
theorem m_stop_39 (I : xRl X P) (hS : S ≤ 128) {c a : Nat} (hc : c < 4) (ha : a ≤ 300) (hv : s.1 40 c = nI a) (h : Q (some (.int (s.1 41 c))) s) : P (d + 2) (L0 S) 41 [.ref 39, .int (nI c)] s Q := by
  refine inX4_stop I (L0ok hS) ?_
  refine rn I [] 99 ?_
  refine m_has_39 I hS hc hv (fun _ => ?_) (fun e => absurd e (zm1n (by omega)))
  refine xbr_f n10 ?_
  exact ⟨c, ⟨hc, rfl⟩, h⟩
theorem m_orderAt_39 (I : xRl X P) (hS : S ≤ 128) {o : Nat → Nat} {z i : Nat} (hp : PG s 39 o z) (hi : i < z) (h : Q (some (.int (nI (o i)))) s) : P (d + 1) (L0 S) 42 [.ref 39, .int (nI i)] s Q := by
  have hz := hp.2.1
  refine inX4_orderAt I (L0ok hS) ?_
  refine rn I [] 99 ?_
  refine xbr_f (zn0 (by omega)) ?_
  refine xbr_t (by rw [hp.1]; exact zlt hi (by omega)) ?_
  refine xbr_t (zlt (by omega) (by decide)) ?_
  refine ⟨i, ⟨by omega, rfl⟩, ?_⟩
  rw [← (hp.2.2 i hi).1] at h
  exact h
theorem m_work_39 (I : xRl X P) (hS : S ≤ 128) {o e : Nat → Nat} {z c a b n : Nat} {D : Dn} (hc : c < 4) (hp : PG s 39 o z) (hb : b ≤ z) (ea : s.1 40 c = nI a) (eb : s.1 41 c = nI b) (hG : SG o a b n D) (hn : n ≤ 64) (he : EB e) (hN : ∀ k, k < 10 → s.1 57 k = nI (e k)) (h : ∀ s' : xS, fM s s' → Q (some (.int (jI (D e)))) s') : P (d + 4) (L0 S) 21 [.ref 56, .ref 39, .int (nI c)] s Q := by
  have hz := hp.2.1
  have hab := hG.1
  have pg : ∀ s' : xS, fM s s' → PG s' 39 o z := fun s' g => ⟨by rw [g.1 39 (by decide) (by decide)]; exact hp.1, hz, fun i hi => by rw [g.1 (42) (by decide) (by decide)]; exact hp.2.2 i hi⟩
  have main : ∀ p : List Int, p.length + n ≤ 64 → WK X Q d S c b 39 s b (D e :: p) → WK X Q d S c b 39 s a p := by
    refine hG.2 e (WK X Q d S c b 39 s) he (fun pc h1 h2 => ?_)
    have hpc : pc < z := by omega
    have ho := (hp.2.2 pc hpc).2
    have dv : nI (o pc) / nI 32 = nI (o pc / 32) := pk_div (by omega) (by decide) (by decide)
    have rm : nI (o pc) - nI (o pc) / nI 32 * nI 32 = nI (o pc % 32) := pk_rem (by omega) (by decide) (by decide)
    have nz : ¬ nI 32 = nI 0 := by decide +kernel
    have inc : nI pc + nI 1 = nI (pc + 1) := nad pc 1
    refine ⟨fun k p hl kk => ?_, fun k kv p hl kk => ?_, fun k kv p x hx k0 k1 => ?_, fun k kv p kk => ?_, fun k p x kk => ?_, fun k p x kk => ?_, fun k p x y hx hy kk => ?_⟩
    · intro _ s' o5 o6 o7 hP hf
      refine rn I [18] 99 ?_
      refine xbr_t (zlt h2 (by omega)) ?_
      refine m_orderAt_39 I hS (pg s' hf) hpc ?_
      refine ⟨nz, ?_⟩
      refine ⟨nz, ?_⟩
      rw [rm, k]
      refine xbr_t rfl ?_
      rw [dv]
      show P _ _ _ [.ref 56, .int (nI (o pc / 32))] _ _
      rw [jn]
      refine m_push I hS hP hl (fun s1 p1 f1 => ?_)
      have := kk hl s1 (some (.int (nI (o pc)))) (some (.int (nI (o pc / 32)))) o7 p1 (hf.tr f1)
      rw [← inc] at this
      exact this
    · intro _ s' o5 o6 o7 hP hf
      refine rn I [18] 99 ?_
      refine xbr_t (zlt h2 (by omega)) ?_
      refine m_orderAt_39 I hS (pg s' hf) hpc ?_
      refine ⟨nz, ?_⟩
      refine ⟨nz, ?_⟩
      rw [rm, k, dv]
      refine xbr_f (by decide +kernel) (xbr_t rfl ?_)
      refine xbr_f (zn0 (by omega)) ?_
      refine xbr_t (zlt kv (by decide)) ?_
      refine ⟨o pc / 32, ⟨kv, rfl⟩, ?_⟩
      have ev : s'.1 57 (o pc / 32) = jI (e (o pc / 32) : Int) := by rw [hf.1 57 (by decide) (by decide), hN _ kv, jn]
      rw [ev]
      refine m_push I hS hP hl (fun s1 p1 f1 => ?_)
      have := kk hl s1 (some (.int (nI (o pc)))) (some (.int (nI (o pc / 32)))) o7 p1 (hf.tr f1)
      rw [← inc] at this
      exact this
    · intro hl s' o5 o6 o7 hP hf
      refine rn I [18] 99 ?_
      refine xbr_t (zlt h2 (by omega)) ?_
      refine m_orderAt_39 I hS (pg s' hf) hpc ?_
      refine ⟨nz, ?_⟩
      refine ⟨nz, ?_⟩
      rw [rm, k, dv]
      refine xbr_f (by decide +kernel) (xbr_f (by decide +kernel) (xbr_f (by decide +kernel) (xbr_f (by decide +kernel) (xbr_t rfl ?_))))
      refine m_pop I hS hP (fun s1 p1 f1 => ?_)
      have e0 : jI x = nI 0 ↔ x = 0 := by rw [jn]; exact ji_eq hx.sm (by unfold Sm; omega)
      have hl2 : p.length ≤ 64 := Nat.le_of_lt hl
      by_cases hx0 : x = 0
      · refine xbr_t (e0.mpr hx0) ?_
        refine m_maxR I hS (a := pc) (b := o pc / 32 - 1) rfl (nsb (show 1 ≤ o pc / 32 by omega)) (by omega) (by omega) ?_
        obtain ⟨w, hw⟩ : ∃ w, w = nI (o pc / 32) := ⟨_, rfl⟩
        have := k0 hx0 hl2 s1 (some (.int (nI (o pc)))) (some (.int w)) o7 p1 (hf.tr f1)
        rw [← Int32.sub_add_cancel (a := nI (o pc / 32)) (b := nI 1), hw] at this
        exact this
      · refine xbr_f (fun q => hx0 (e0.mp q)) ?_
        have := k1 hx0 hl2 s1 (some (.int (nI (o pc)))) (some (.int (nI (o pc / 32)))) o7 p1 (hf.tr f1)
        rw [← inc] at this
        exact this
    · intro hl s' o5 o6 o7 hP hf
      refine rn I [18] 99 ?_
      refine xbr_t (zlt h2 (by omega)) ?_
      refine m_orderAt_39 I hS (pg s' hf) hpc ?_
      refine ⟨nz, ?_⟩
      refine ⟨nz, ?_⟩
      rw [rm, k, dv]
      refine xbr_f (by decide +kernel) (xbr_f (by decide +kernel) (xbr_f (by decide +kernel) (xbr_f (by decide +kernel) (xbr_f (by decide +kernel) (xbr_t rfl ?_)))))
      refine m_maxR I hS (a := pc) (b := o pc / 32 - 1) rfl (nsb (show 1 ≤ o pc / 32 by omega)) (by omega) (by omega) ?_
      obtain ⟨w, hw⟩ : ∃ w, w = nI (o pc / 32) := ⟨_, rfl⟩
      have := kk hl s' (some (.int (nI (o pc)))) (some (.int w)) o7 hP hf
      rw [← Int32.sub_add_cancel (a := nI (o pc / 32)) (b := nI 1), hw] at this
      exact this
    · intro hl s' o5 o6 o7 hP hf
      refine rn I [18] 99 ?_
      refine xbr_t (zlt h2 (by omega)) ?_
      refine m_orderAt_39 I hS (pg s' hf) hpc ?_
      refine ⟨nz, ?_⟩
      refine ⟨nz, ?_⟩
      rw [rm, k, dv]
      refine xbr_f (by decide +kernel) (xbr_f (by decide +kernel) (xbr_t rfl ?_))
      refine m_pop I hS hP (fun s1 p1 f1 => ?_)
      show P _ _ _ [.ref 56, .int (nI 1 - jI x)] _ _
      rw [jn, ji_sub]
      refine m_push I hS p1 hl (fun s2 p2 f2 => ?_)
      have := kk hl s2 (some (.int (nI (o pc)))) (some (.int (nI (o pc / 32)))) o7 p2 ((hf.tr f1).tr f2)
      rw [← inc] at this
      exact this
    · intro hl s' o5 o6 o7 hP hf
      refine rn I [18] 99 ?_
      refine xbr_t (zlt h2 (by omega)) ?_
      refine m_orderAt_39 I hS (pg s' hf) hpc ?_
      refine ⟨nz, ?_⟩
      refine ⟨nz, ?_⟩
      rw [rm, k, dv]
      refine xbr_f (by decide +kernel) (xbr_f (by decide +kernel) (xbr_f (by decide +kernel) (xbr_t rfl ?_)))
      refine m_pop I hS hP (fun s1 p1 f1 => ?_)
      show P _ _ _ [.ref 56, .int (-(jI x))] _ _
      rw [ji_neg]
      refine m_push I hS p1 hl (fun s2 p2 f2 => ?_)
      have := kk hl s2 (some (.int (nI (o pc)))) (some (.int (nI (o pc / 32)))) o7 p2 ((hf.tr f1).tr f2)
      rw [← inc] at this
      exact this
    · intro hl s' o5 o6 o7 hP hf
      have hl2 : p.length + 1 + 1 ≤ 64 := hl
      refine rn I [18] 99 ?_
      refine xbr_t (zlt h2 (by omega)) ?_
      refine m_orderAt_39 I hS (pg s' hf) hpc ?_
      refine ⟨nz, ?_⟩
      refine ⟨nz, ?_⟩
      rw [rm, dv]
      refine xbr_f (zne (by omega) (by omega) (by decide)) (xbr_f (zne (by omega) (by omega) (by decide)) (xbr_f (zne (by omega) (by omega) (by decide)) (xbr_f (zne (by omega) (by omega) (by decide)) (xbr_f (zne (by omega) (by omega) (by decide)) (xbr_f (zne (by omega) (by omega) (by decide)) ?_)))))
      refine m_pop I hS hP (fun s1 p1 f1 => ?_)
      refine ⟨nz, ?_⟩
      refine m_pop I hS p1 (fun s2 p2 f2 => ?_)
      show P _ _ _ [.int (nI (o pc) - nI (o pc) / nI 32 * nI 32), .int (jI x), .int (jI y)] _ _
      rw [rm]
      refine m_joined I hS k hx hy (fun v hv ev => ?_)
      refine m_bounded I hS hv ?_
      rw [ev]
      refine m_push I hS p2 (by omega) (fun s3 p3 f3 => ?_)
      have := kk (by show p.length + 1 ≤ 64; omega) s3 (some (.int (nI (o pc)))) (some (.int (nI (o pc / 32)))) (some (.int (jI y))) p3 (((hf.tr f1).tr f2).tr f3)
      rw [← inc] at this
      exact this
  refine inX1_work I (L0ok hS) ?_
  refine rn I [18] 99 ?_
  refine m_stop_39 I hS hc (a := a) (by omega) (by rw [xW_n (by decide)]; exact ea) ?_
  refine m_start_39 I hS hc (a := a) (by omega) (by rw [xW_n (by decide)]; exact ea) ?_
  have f0 : fM s (xW s 56 2 (nI 0)) := ⟨fun q h1 h2 => xW_n h1, rfl⟩
  have eb2 : (xW s 56 2 (nI 0)).1 41 c = nI b := by rw [xW_n (by decide)]; exact eb
  have fin := main [] (by show 0 + n ≤ 64; omega) (fun hl s' o5 o6 o7 hP hf => by
    refine rn I [] 99 ?_
    refine xbr_f (znl (Nat.le_refl _) (by omega)) ?_
    exact m_pop I hS hP (fun s1 p1 f1 => h s1 (hf.tr f1))) (by decide) (xW s 56 2 (nI 0)) none none none ⟨by rw [xW_s, ud_s]; rfl, trivial, by decide⟩ f0
  rw [← eb2] at fin
  exact fin
theorem m_has_43 (I : xRl X P) (hS : S ≤ 128) {c : Nat} (hc : c < 4) {v : Int32} (hv : s.1 44 c = v) (h1 : v ≠ -(nI 1) → Q (some (.int (nI 1))) s) (h0 : v = -(nI 1) → Q (some (.int (nI 0))) s) : P (d + 1) (L0 S) 35 [.ref 43, .int (nI c)] s Q := by
  refine inX4_has I (L0ok hS) ?_
  refine rn I [] 99 ?_
  refine xbr_f (zn0 (by omega)) ?_
  refine xbr_t (zlt hc (by decide)) ?_
  refine ⟨c, ⟨hc, rfl⟩, ?_⟩
  refine xbr_c (fun e => ?_) (fun e => ?_)
  · exact ⟨bz, h0 (hv.symm.trans e)⟩
  · exact ⟨bo, h1 (fun z => e (hv.trans z))⟩

theorem m_start_43 (I : xRl X P) (hS : S ≤ 128) {c a : Nat} (hc : c < 4) (ha : a ≤ 300) (hv : s.1 44 c = nI a) (h : Q (some (.int (nI a))) s) : P (d + 2) (L0 S) 40 [.ref 43, .int (nI c)] s Q := by
  refine inX4_start I (L0ok hS) ?_
  refine rn I [] 99 ?_
  refine m_has_43 I hS hc hv (fun _ => ?_) (fun e => absurd e (zm1n (by omega)))
  refine xbr_f n10 ?_
  refine ⟨c, ⟨hc, rfl⟩, ?_⟩
  rw [← hv] at h
  exact h
theorem m_stop_43 (I : xRl X P) (hS : S ≤ 128) {c a : Nat} (hc : c < 4) (ha : a ≤ 300) (hv : s.1 44 c = nI a) (h : Q (some (.int (s.1 45 c))) s) : P (d + 2) (L0 S) 41 [.ref 43, .int (nI c)] s Q := by
  refine inX4_stop I (L0ok hS) ?_
  refine rn I [] 99 ?_
  refine m_has_43 I hS hc hv (fun _ => ?_) (fun e => absurd e (zm1n (by omega)))
  refine xbr_f n10 ?_
  exact ⟨c, ⟨hc, rfl⟩, h⟩
theorem m_orderAt_43 (I : xRl X P) (hS : S ≤ 128) {o : Nat → Nat} {z i : Nat} (hp : PG s 43 o z) (hi : i < z) (h : Q (some (.int (nI (o i)))) s) : P (d + 1) (L0 S) 42 [.ref 43, .int (nI i)] s Q := by
  have hz := hp.2.1
  refine inX4_orderAt I (L0ok hS) ?_
  refine rn I [] 99 ?_
  refine xbr_f (zn0 (by omega)) ?_
  refine xbr_t (by rw [hp.1]; exact zlt hi (by omega)) ?_
  refine xbr_t (zlt (by omega) (by decide)) ?_
  refine ⟨i, ⟨by omega, rfl⟩, ?_⟩
  rw [← (hp.2.2 i hi).1] at h
  exact h
theorem m_work_43 (I : xRl X P) (hS : S ≤ 128) {o e : Nat → Nat} {z c a b n : Nat} {D : Dn} (hc : c < 4) (hp : PG s 43 o z) (hb : b ≤ z) (ea : s.1 44 c = nI a) (eb : s.1 45 c = nI b) (hG : SG o a b n D) (hn : n ≤ 64) (he : EB e) (hN : ∀ k, k < 10 → s.1 57 k = nI (e k)) (h : ∀ s' : xS, fM s s' → Q (some (.int (jI (D e)))) s') : P (d + 4) (L0 S) 21 [.ref 56, .ref 43, .int (nI c)] s Q := by
  have hz := hp.2.1
  have hab := hG.1
  have pg : ∀ s' : xS, fM s s' → PG s' 43 o z := fun s' g => ⟨by rw [g.1 43 (by decide) (by decide)]; exact hp.1, hz, fun i hi => by rw [g.1 (46) (by decide) (by decide)]; exact hp.2.2 i hi⟩
  have main : ∀ p : List Int, p.length + n ≤ 64 → WK X Q d S c b 43 s b (D e :: p) → WK X Q d S c b 43 s a p := by
    refine hG.2 e (WK X Q d S c b 43 s) he (fun pc h1 h2 => ?_)
    have hpc : pc < z := by omega
    have ho := (hp.2.2 pc hpc).2
    have dv : nI (o pc) / nI 32 = nI (o pc / 32) := pk_div (by omega) (by decide) (by decide)
    have rm : nI (o pc) - nI (o pc) / nI 32 * nI 32 = nI (o pc % 32) := pk_rem (by omega) (by decide) (by decide)
    have nz : ¬ nI 32 = nI 0 := by decide +kernel
    have inc : nI pc + nI 1 = nI (pc + 1) := nad pc 1
    refine ⟨fun k p hl kk => ?_, fun k kv p hl kk => ?_, fun k kv p x hx k0 k1 => ?_, fun k kv p kk => ?_, fun k p x kk => ?_, fun k p x kk => ?_, fun k p x y hx hy kk => ?_⟩
    · intro _ s' o5 o6 o7 hP hf
      refine rn I [18] 99 ?_
      refine xbr_t (zlt h2 (by omega)) ?_
      refine m_orderAt_43 I hS (pg s' hf) hpc ?_
      refine ⟨nz, ?_⟩
      refine ⟨nz, ?_⟩
      rw [rm, k]
      refine xbr_t rfl ?_
      rw [dv]
      show P _ _ _ [.ref 56, .int (nI (o pc / 32))] _ _
      rw [jn]
      refine m_push I hS hP hl (fun s1 p1 f1 => ?_)
      have := kk hl s1 (some (.int (nI (o pc)))) (some (.int (nI (o pc / 32)))) o7 p1 (hf.tr f1)
      rw [← inc] at this
      exact this
    · intro _ s' o5 o6 o7 hP hf
      refine rn I [18] 99 ?_
      refine xbr_t (zlt h2 (by omega)) ?_
      refine m_orderAt_43 I hS (pg s' hf) hpc ?_
      refine ⟨nz, ?_⟩
      refine ⟨nz, ?_⟩
      rw [rm, k, dv]
      refine xbr_f (by decide +kernel) (xbr_t rfl ?_)
      refine xbr_f (zn0 (by omega)) ?_
      refine xbr_t (zlt kv (by decide)) ?_
      refine ⟨o pc / 32, ⟨kv, rfl⟩, ?_⟩
      have ev : s'.1 57 (o pc / 32) = jI (e (o pc / 32) : Int) := by rw [hf.1 57 (by decide) (by decide), hN _ kv, jn]
      rw [ev]
      refine m_push I hS hP hl (fun s1 p1 f1 => ?_)
      have := kk hl s1 (some (.int (nI (o pc)))) (some (.int (nI (o pc / 32)))) o7 p1 (hf.tr f1)
      rw [← inc] at this
      exact this
    · intro hl s' o5 o6 o7 hP hf
      refine rn I [18] 99 ?_
      refine xbr_t (zlt h2 (by omega)) ?_
      refine m_orderAt_43 I hS (pg s' hf) hpc ?_
      refine ⟨nz, ?_⟩
      refine ⟨nz, ?_⟩
      rw [rm, k, dv]
      refine xbr_f (by decide +kernel) (xbr_f (by decide +kernel) (xbr_f (by decide +kernel) (xbr_f (by decide +kernel) (xbr_t rfl ?_))))
      refine m_pop I hS hP (fun s1 p1 f1 => ?_)
      have e0 : jI x = nI 0 ↔ x = 0 := by rw [jn]; exact ji_eq hx.sm (by unfold Sm; omega)
      have hl2 : p.length ≤ 64 := Nat.le_of_lt hl
      by_cases hx0 : x = 0
      · refine xbr_t (e0.mpr hx0) ?_
        refine m_maxR I hS (a := pc) (b := o pc / 32 - 1) rfl (nsb (show 1 ≤ o pc / 32 by omega)) (by omega) (by omega) ?_
        obtain ⟨w, hw⟩ : ∃ w, w = nI (o pc / 32) := ⟨_, rfl⟩
        have := k0 hx0 hl2 s1 (some (.int (nI (o pc)))) (some (.int w)) o7 p1 (hf.tr f1)
        rw [← Int32.sub_add_cancel (a := nI (o pc / 32)) (b := nI 1), hw] at this
        exact this
      · refine xbr_f (fun q => hx0 (e0.mp q)) ?_
        have := k1 hx0 hl2 s1 (some (.int (nI (o pc)))) (some (.int (nI (o pc / 32)))) o7 p1 (hf.tr f1)
        rw [← inc] at this
        exact this
    · intro hl s' o5 o6 o7 hP hf
      refine rn I [18] 99 ?_
      refine xbr_t (zlt h2 (by omega)) ?_
      refine m_orderAt_43 I hS (pg s' hf) hpc ?_
      refine ⟨nz, ?_⟩
      refine ⟨nz, ?_⟩
      rw [rm, k, dv]
      refine xbr_f (by decide +kernel) (xbr_f (by decide +kernel) (xbr_f (by decide +kernel) (xbr_f (by decide +kernel) (xbr_f (by decide +kernel) (xbr_t rfl ?_)))))
      refine m_maxR I hS (a := pc) (b := o pc / 32 - 1) rfl (nsb (show 1 ≤ o pc / 32 by omega)) (by omega) (by omega) ?_
      obtain ⟨w, hw⟩ : ∃ w, w = nI (o pc / 32) := ⟨_, rfl⟩
      have := kk hl s' (some (.int (nI (o pc)))) (some (.int w)) o7 hP hf
      rw [← Int32.sub_add_cancel (a := nI (o pc / 32)) (b := nI 1), hw] at this
      exact this
    · intro hl s' o5 o6 o7 hP hf
      refine rn I [18] 99 ?_
      refine xbr_t (zlt h2 (by omega)) ?_
      refine m_orderAt_43 I hS (pg s' hf) hpc ?_
      refine ⟨nz, ?_⟩
      refine ⟨nz, ?_⟩
      rw [rm, k, dv]
      refine xbr_f (by decide +kernel) (xbr_f (by decide +kernel) (xbr_t rfl ?_))
      refine m_pop I hS hP (fun s1 p1 f1 => ?_)
      show P _ _ _ [.ref 56, .int (nI 1 - jI x)] _ _
      rw [jn, ji_sub]
      refine m_push I hS p1 hl (fun s2 p2 f2 => ?_)
      have := kk hl s2 (some (.int (nI (o pc)))) (some (.int (nI (o pc / 32)))) o7 p2 ((hf.tr f1).tr f2)
      rw [← inc] at this
      exact this
    · intro hl s' o5 o6 o7 hP hf
      refine rn I [18] 99 ?_
      refine xbr_t (zlt h2 (by omega)) ?_
      refine m_orderAt_43 I hS (pg s' hf) hpc ?_
      refine ⟨nz, ?_⟩
      refine ⟨nz, ?_⟩
      rw [rm, k, dv]
      refine xbr_f (by decide +kernel) (xbr_f (by decide +kernel) (xbr_f (by decide +kernel) (xbr_t rfl ?_)))
      refine m_pop I hS hP (fun s1 p1 f1 => ?_)
      show P _ _ _ [.ref 56, .int (-(jI x))] _ _
      rw [ji_neg]
      refine m_push I hS p1 hl (fun s2 p2 f2 => ?_)
      have := kk hl s2 (some (.int (nI (o pc)))) (some (.int (nI (o pc / 32)))) o7 p2 ((hf.tr f1).tr f2)
      rw [← inc] at this
      exact this
    · intro hl s' o5 o6 o7 hP hf
      have hl2 : p.length + 1 + 1 ≤ 64 := hl
      refine rn I [18] 99 ?_
      refine xbr_t (zlt h2 (by omega)) ?_
      refine m_orderAt_43 I hS (pg s' hf) hpc ?_
      refine ⟨nz, ?_⟩
      refine ⟨nz, ?_⟩
      rw [rm, dv]
      refine xbr_f (zne (by omega) (by omega) (by decide)) (xbr_f (zne (by omega) (by omega) (by decide)) (xbr_f (zne (by omega) (by omega) (by decide)) (xbr_f (zne (by omega) (by omega) (by decide)) (xbr_f (zne (by omega) (by omega) (by decide)) (xbr_f (zne (by omega) (by omega) (by decide)) ?_)))))
      refine m_pop I hS hP (fun s1 p1 f1 => ?_)
      refine ⟨nz, ?_⟩
      refine m_pop I hS p1 (fun s2 p2 f2 => ?_)
      show P _ _ _ [.int (nI (o pc) - nI (o pc) / nI 32 * nI 32), .int (jI x), .int (jI y)] _ _
      rw [rm]
      refine m_joined I hS k hx hy (fun v hv ev => ?_)
      refine m_bounded I hS hv ?_
      rw [ev]
      refine m_push I hS p2 (by omega) (fun s3 p3 f3 => ?_)
      have := kk (by show p.length + 1 ≤ 64; omega) s3 (some (.int (nI (o pc)))) (some (.int (nI (o pc / 32)))) (some (.int (jI y))) p3 (((hf.tr f1).tr f2).tr f3)
      rw [← inc] at this
      exact this
  refine inX1_work I (L0ok hS) ?_
  refine rn I [18] 99 ?_
  refine m_stop_43 I hS hc (a := a) (by omega) (by rw [xW_n (by decide)]; exact ea) ?_
  refine m_start_43 I hS hc (a := a) (by omega) (by rw [xW_n (by decide)]; exact ea) ?_
  have f0 : fM s (xW s 56 2 (nI 0)) := ⟨fun q h1 h2 => xW_n h1, rfl⟩
  have eb2 : (xW s 56 2 (nI 0)).1 45 c = nI b := by rw [xW_n (by decide)]; exact eb
  have fin := main [] (by show 0 + n ≤ 64; omega) (fun hl s' o5 o6 o7 hP hf => by
    refine rn I [] 99 ?_
    refine xbr_f (znl (Nat.le_refl _) (by omega)) ?_
    exact m_pop I hS hP (fun s1 p1 f1 => h s1 (hf.tr f1))) (by decide) (xW s 56 2 (nI 0)) none none none ⟨by rw [xW_s, ud_s]; rfl, trivial, by decide⟩ f0
  rw [← eb2] at fin
  exact fin
theorem m_has_47 (I : xRl X P) (hS : S ≤ 128) {c : Nat} (hc : c < 4) {v : Int32} (hv : s.1 48 c = v) (h1 : v ≠ -(nI 1) → Q (some (.int (nI 1))) s) (h0 : v = -(nI 1) → Q (some (.int (nI 0))) s) : P (d + 1) (L0 S) 35 [.ref 47, .int (nI c)] s Q := by
  refine inX4_has I (L0ok hS) ?_
  refine rn I [] 99 ?_
  refine xbr_f (zn0 (by omega)) ?_
  refine xbr_t (zlt hc (by decide)) ?_
  refine ⟨c, ⟨hc, rfl⟩, ?_⟩
  refine xbr_c (fun e => ?_) (fun e => ?_)
  · exact ⟨bz, h0 (hv.symm.trans e)⟩
  · exact ⟨bo, h1 (fun z => e (hv.trans z))⟩

theorem m_start_47 (I : xRl X P) (hS : S ≤ 128) {c a : Nat} (hc : c < 4) (ha : a ≤ 300) (hv : s.1 48 c = nI a) (h : Q (some (.int (nI a))) s) : P (d + 2) (L0 S) 40 [.ref 47, .int (nI c)] s Q := by
  refine inX4_start I (L0ok hS) ?_
  refine rn I [] 99 ?_
  refine m_has_47 I hS hc hv (fun _ => ?_) (fun e => absurd e (zm1n (by omega)))
  refine xbr_f n10 ?_
  refine ⟨c, ⟨hc, rfl⟩, ?_⟩
  rw [← hv] at h
  exact h
theorem m_stop_47 (I : xRl X P) (hS : S ≤ 128) {c a : Nat} (hc : c < 4) (ha : a ≤ 300) (hv : s.1 48 c = nI a) (h : Q (some (.int (s.1 49 c))) s) : P (d + 2) (L0 S) 41 [.ref 47, .int (nI c)] s Q := by
  refine inX4_stop I (L0ok hS) ?_
  refine rn I [] 99 ?_
  refine m_has_47 I hS hc hv (fun _ => ?_) (fun e => absurd e (zm1n (by omega)))
  refine xbr_f n10 ?_
  exact ⟨c, ⟨hc, rfl⟩, h⟩
theorem m_orderAt_47 (I : xRl X P) (hS : S ≤ 128) {o : Nat → Nat} {z i : Nat} (hp : PG s 47 o z) (hi : i < z) (h : Q (some (.int (nI (o i)))) s) : P (d + 1) (L0 S) 42 [.ref 47, .int (nI i)] s Q := by
  have hz := hp.2.1
  refine inX4_orderAt I (L0ok hS) ?_
  refine rn I [] 99 ?_
  refine xbr_f (zn0 (by omega)) ?_
  refine xbr_t (by rw [hp.1]; exact zlt hi (by omega)) ?_
  refine xbr_t (zlt (by omega) (by decide)) ?_
  refine ⟨i, ⟨by omega, rfl⟩, ?_⟩
  rw [← (hp.2.2 i hi).1] at h
  exact h
theorem m_work_47 (I : xRl X P) (hS : S ≤ 128) {o e : Nat → Nat} {z c a b n : Nat} {D : Dn} (hc : c < 4) (hp : PG s 47 o z) (hb : b ≤ z) (ea : s.1 48 c = nI a) (eb : s.1 49 c = nI b) (hG : SG o a b n D) (hn : n ≤ 64) (he : EB e) (hN : ∀ k, k < 10 → s.1 57 k = nI (e k)) (h : ∀ s' : xS, fM s s' → Q (some (.int (jI (D e)))) s') : P (d + 4) (L0 S) 21 [.ref 56, .ref 47, .int (nI c)] s Q := by
  have hz := hp.2.1
  have hab := hG.1
  have pg : ∀ s' : xS, fM s s' → PG s' 47 o z := fun s' g => ⟨by rw [g.1 47 (by decide) (by decide)]; exact hp.1, hz, fun i hi => by rw [g.1 (50) (by decide) (by decide)]; exact hp.2.2 i hi⟩
  have main : ∀ p : List Int, p.length + n ≤ 64 → WK X Q d S c b 47 s b (D e :: p) → WK X Q d S c b 47 s a p := by
    refine hG.2 e (WK X Q d S c b 47 s) he (fun pc h1 h2 => ?_)
    have hpc : pc < z := by omega
    have ho := (hp.2.2 pc hpc).2
    have dv : nI (o pc) / nI 32 = nI (o pc / 32) := pk_div (by omega) (by decide) (by decide)
    have rm : nI (o pc) - nI (o pc) / nI 32 * nI 32 = nI (o pc % 32) := pk_rem (by omega) (by decide) (by decide)
    have nz : ¬ nI 32 = nI 0 := by decide +kernel
    have inc : nI pc + nI 1 = nI (pc + 1) := nad pc 1
    refine ⟨fun k p hl kk => ?_, fun k kv p hl kk => ?_, fun k kv p x hx k0 k1 => ?_, fun k kv p kk => ?_, fun k p x kk => ?_, fun k p x kk => ?_, fun k p x y hx hy kk => ?_⟩
    · intro _ s' o5 o6 o7 hP hf
      refine rn I [18] 99 ?_
      refine xbr_t (zlt h2 (by omega)) ?_
      refine m_orderAt_47 I hS (pg s' hf) hpc ?_
      refine ⟨nz, ?_⟩
      refine ⟨nz, ?_⟩
      rw [rm, k]
      refine xbr_t rfl ?_
      rw [dv]
      show P _ _ _ [.ref 56, .int (nI (o pc / 32))] _ _
      rw [jn]
      refine m_push I hS hP hl (fun s1 p1 f1 => ?_)
      have := kk hl s1 (some (.int (nI (o pc)))) (some (.int (nI (o pc / 32)))) o7 p1 (hf.tr f1)
      rw [← inc] at this
      exact this
    · intro _ s' o5 o6 o7 hP hf
      refine rn I [18] 99 ?_
      refine xbr_t (zlt h2 (by omega)) ?_
      refine m_orderAt_47 I hS (pg s' hf) hpc ?_
      refine ⟨nz, ?_⟩
      refine ⟨nz, ?_⟩
      rw [rm, k, dv]
      refine xbr_f (by decide +kernel) (xbr_t rfl ?_)
      refine xbr_f (zn0 (by omega)) ?_
      refine xbr_t (zlt kv (by decide)) ?_
      refine ⟨o pc / 32, ⟨kv, rfl⟩, ?_⟩
      have ev : s'.1 57 (o pc / 32) = jI (e (o pc / 32) : Int) := by rw [hf.1 57 (by decide) (by decide), hN _ kv, jn]
      rw [ev]
      refine m_push I hS hP hl (fun s1 p1 f1 => ?_)
      have := kk hl s1 (some (.int (nI (o pc)))) (some (.int (nI (o pc / 32)))) o7 p1 (hf.tr f1)
      rw [← inc] at this
      exact this
    · intro hl s' o5 o6 o7 hP hf
      refine rn I [18] 99 ?_
      refine xbr_t (zlt h2 (by omega)) ?_
      refine m_orderAt_47 I hS (pg s' hf) hpc ?_
      refine ⟨nz, ?_⟩
      refine ⟨nz, ?_⟩
      rw [rm, k, dv]
      refine xbr_f (by decide +kernel) (xbr_f (by decide +kernel) (xbr_f (by decide +kernel) (xbr_f (by decide +kernel) (xbr_t rfl ?_))))
      refine m_pop I hS hP (fun s1 p1 f1 => ?_)
      have e0 : jI x = nI 0 ↔ x = 0 := by rw [jn]; exact ji_eq hx.sm (by unfold Sm; omega)
      have hl2 : p.length ≤ 64 := Nat.le_of_lt hl
      by_cases hx0 : x = 0
      · refine xbr_t (e0.mpr hx0) ?_
        refine m_maxR I hS (a := pc) (b := o pc / 32 - 1) rfl (nsb (show 1 ≤ o pc / 32 by omega)) (by omega) (by omega) ?_
        obtain ⟨w, hw⟩ : ∃ w, w = nI (o pc / 32) := ⟨_, rfl⟩
        have := k0 hx0 hl2 s1 (some (.int (nI (o pc)))) (some (.int w)) o7 p1 (hf.tr f1)
        rw [← Int32.sub_add_cancel (a := nI (o pc / 32)) (b := nI 1), hw] at this
        exact this
      · refine xbr_f (fun q => hx0 (e0.mp q)) ?_
        have := k1 hx0 hl2 s1 (some (.int (nI (o pc)))) (some (.int (nI (o pc / 32)))) o7 p1 (hf.tr f1)
        rw [← inc] at this
        exact this
    · intro hl s' o5 o6 o7 hP hf
      refine rn I [18] 99 ?_
      refine xbr_t (zlt h2 (by omega)) ?_
      refine m_orderAt_47 I hS (pg s' hf) hpc ?_
      refine ⟨nz, ?_⟩
      refine ⟨nz, ?_⟩
      rw [rm, k, dv]
      refine xbr_f (by decide +kernel) (xbr_f (by decide +kernel) (xbr_f (by decide +kernel) (xbr_f (by decide +kernel) (xbr_f (by decide +kernel) (xbr_t rfl ?_)))))
      refine m_maxR I hS (a := pc) (b := o pc / 32 - 1) rfl (nsb (show 1 ≤ o pc / 32 by omega)) (by omega) (by omega) ?_
      obtain ⟨w, hw⟩ : ∃ w, w = nI (o pc / 32) := ⟨_, rfl⟩
      have := kk hl s' (some (.int (nI (o pc)))) (some (.int w)) o7 hP hf
      rw [← Int32.sub_add_cancel (a := nI (o pc / 32)) (b := nI 1), hw] at this
      exact this
    · intro hl s' o5 o6 o7 hP hf
      refine rn I [18] 99 ?_
      refine xbr_t (zlt h2 (by omega)) ?_
      refine m_orderAt_47 I hS (pg s' hf) hpc ?_
      refine ⟨nz, ?_⟩
      refine ⟨nz, ?_⟩
      rw [rm, k, dv]
      refine xbr_f (by decide +kernel) (xbr_f (by decide +kernel) (xbr_t rfl ?_))
      refine m_pop I hS hP (fun s1 p1 f1 => ?_)
      show P _ _ _ [.ref 56, .int (nI 1 - jI x)] _ _
      rw [jn, ji_sub]
      refine m_push I hS p1 hl (fun s2 p2 f2 => ?_)
      have := kk hl s2 (some (.int (nI (o pc)))) (some (.int (nI (o pc / 32)))) o7 p2 ((hf.tr f1).tr f2)
      rw [← inc] at this
      exact this
    · intro hl s' o5 o6 o7 hP hf
      refine rn I [18] 99 ?_
      refine xbr_t (zlt h2 (by omega)) ?_
      refine m_orderAt_47 I hS (pg s' hf) hpc ?_
      refine ⟨nz, ?_⟩
      refine ⟨nz, ?_⟩
      rw [rm, k, dv]
      refine xbr_f (by decide +kernel) (xbr_f (by decide +kernel) (xbr_f (by decide +kernel) (xbr_t rfl ?_)))
      refine m_pop I hS hP (fun s1 p1 f1 => ?_)
      show P _ _ _ [.ref 56, .int (-(jI x))] _ _
      rw [ji_neg]
      refine m_push I hS p1 hl (fun s2 p2 f2 => ?_)
      have := kk hl s2 (some (.int (nI (o pc)))) (some (.int (nI (o pc / 32)))) o7 p2 ((hf.tr f1).tr f2)
      rw [← inc] at this
      exact this
    · intro hl s' o5 o6 o7 hP hf
      have hl2 : p.length + 1 + 1 ≤ 64 := hl
      refine rn I [18] 99 ?_
      refine xbr_t (zlt h2 (by omega)) ?_
      refine m_orderAt_47 I hS (pg s' hf) hpc ?_
      refine ⟨nz, ?_⟩
      refine ⟨nz, ?_⟩
      rw [rm, dv]
      refine xbr_f (zne (by omega) (by omega) (by decide)) (xbr_f (zne (by omega) (by omega) (by decide)) (xbr_f (zne (by omega) (by omega) (by decide)) (xbr_f (zne (by omega) (by omega) (by decide)) (xbr_f (zne (by omega) (by omega) (by decide)) (xbr_f (zne (by omega) (by omega) (by decide)) ?_)))))
      refine m_pop I hS hP (fun s1 p1 f1 => ?_)
      refine ⟨nz, ?_⟩
      refine m_pop I hS p1 (fun s2 p2 f2 => ?_)
      show P _ _ _ [.int (nI (o pc) - nI (o pc) / nI 32 * nI 32), .int (jI x), .int (jI y)] _ _
      rw [rm]
      refine m_joined I hS k hx hy (fun v hv ev => ?_)
      refine m_bounded I hS hv ?_
      rw [ev]
      refine m_push I hS p2 (by omega) (fun s3 p3 f3 => ?_)
      have := kk (by show p.length + 1 ≤ 64; omega) s3 (some (.int (nI (o pc)))) (some (.int (nI (o pc / 32)))) (some (.int (jI y))) p3 (((hf.tr f1).tr f2).tr f3)
      rw [← inc] at this
      exact this
  refine inX1_work I (L0ok hS) ?_
  refine rn I [18] 99 ?_
  refine m_stop_47 I hS hc (a := a) (by omega) (by rw [xW_n (by decide)]; exact ea) ?_
  refine m_start_47 I hS hc (a := a) (by omega) (by rw [xW_n (by decide)]; exact ea) ?_
  have f0 : fM s (xW s 56 2 (nI 0)) := ⟨fun q h1 h2 => xW_n h1, rfl⟩
  have eb2 : (xW s 56 2 (nI 0)).1 49 c = nI b := by rw [xW_n (by decide)]; exact eb
  have fin := main [] (by show 0 + n ≤ 64; omega) (fun hl s' o5 o6 o7 hP hf => by
    refine rn I [] 99 ?_
    refine xbr_f (znl (Nat.le_refl _) (by omega)) ?_
    exact m_pop I hS hP (fun s1 p1 f1 => h s1 (hf.tr f1))) (by decide) (xW s 56 2 (nI 0)) none none none ⟨by rw [xW_s, ud_s]; rfl, trivial, by decide⟩ f0
  rw [← eb2] at fin
  exact fin
theorem m_has_52 (I : xRl X P) (hS : S ≤ 128) {c : Nat} (hc : c < 4) {v : Int32} (hv : s.1 53 c = v) (h1 : v ≠ -(nI 1) → Q (some (.int (nI 1))) s) (h0 : v = -(nI 1) → Q (some (.int (nI 0))) s) : P (d + 1) (L0 S) 35 [.ref 52, .int (nI c)] s Q := by
  refine inX4_has I (L0ok hS) ?_
  refine rn I [] 99 ?_
  refine xbr_f (zn0 (by omega)) ?_
  refine xbr_t (zlt hc (by decide)) ?_
  refine ⟨c, ⟨hc, rfl⟩, ?_⟩
  refine xbr_c (fun e => ?_) (fun e => ?_)
  · exact ⟨bz, h0 (hv.symm.trans e)⟩
  · exact ⟨bo, h1 (fun z => e (hv.trans z))⟩
end SEG
