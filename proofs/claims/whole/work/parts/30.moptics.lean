/-! what the reference tells of a clause -/
def fW (s s' : xS) : Prop := (∀ q, q ≠ 85 → q ≠ 87 → s'.1 q = s.1 q) ∧ (∀ q, q ≠ 86 → s'.2 q = s.2 q)
theorem fW.tr {a b c : xS} (h : fW a b) (k : fW b c) : fW a c := ⟨fun q h1 h2 => (k.1 q h1 h2).trans (h.1 q h1 h2), fun q h1 => (k.2 q h1).trans (h.2 q h1)⟩
theorem fW.rf {a : xS} : fW a a := ⟨fun _ _ _ => rfl, fun _ _ => rfl⟩
theorem fV.w {a b : xS} (h : fV a b) : fW a b := ⟨fun q _ h2 => h.1 q h2, h.2⟩
theorem TXM.same {a b : xS} {n : Nat} {dn : Nat → Nat → Option Dn} (h : b.1 82 = a.1 82) (hT : TXM a n dn) : TXM b n dn := by
  unfold TXM
  rw [h]
  exact hT
section MOPT
variable {X : xXT} {P : xPT} {d S : Nat} {s : xS} {Q : xQ} {f : Nm} {ru : Int32} {e : Nat → Nat} {dn : Nat → Nat → Option Dn} {dr : Nat → Option Dn}
theorem q_sizeOf (I : xRl X P) (hS : S ≤ 128) {st : Nat} (hst : st < 1000) (h : Q (some (.int (nI (st % 8 / 2 + 1)))) s) : P (d + 1) (L0 S) 182 [.int (nI st)] s Q := by
  have d2 : nI st / nI 2 = nI (st / 2) := pk_div (by omega) (by decide) (by decide)
  have r4 : nI st / nI 2 - nI st / nI 2 / nI 4 * nI 4 = nI (st / 2 % 4) := by rw [d2]; exact pk_rem (by omega) (by decide) (by decide)
  have e : nI st / nI 2 - nI st / nI 2 / nI 4 * nI 4 + nI 1 = nI (st % 8 / 2 + 1) := by rw [r4, nad]; congr 1; omega
  refine inX11_sizeOf I (L0ok hS) ?_
  refine rn I [] 99 ?_
  refine And.intro (by decide +kernel) (And.intro (by decide +kernel) ?_)
  rw [← e] at h
  exact h
theorem q_name (I : xRl X P) (hS : S ≤ 128) (hA : FA (s.1 80) f ru) (hW : MW s f) (hB : FB f) (hN : NMd s e) {st : Nat} (hst : st < 8 * cc f) (h : ∀ s' : xS, NMd s' (fce f st e) → fW s s' → Q none s') : P (d + 2) (L0 S) 183 [.ref 79, .int (nI st)] s Q := by
  have hc := hB.cc16
  have w0 := hB.2.2.1
  have w4 := hB.2.2.2.1
  have e8 : nI st / nI 8 = nI (st / 8) := pk_div (by omega) (by decide) (by decide)
  have r2 : nI st - nI st / nI 2 * nI 2 = nI (st % 2) := pk_rem (by omega) (by decide) (by decide)
  have nz8 : ¬ nI 8 = nI 0 := by decide +kernel
  have nz2 : ¬ nI 2 = nI 0 := by decide +kernel
  have nzw : ¬ s.1 79 2 = nI 0 := by rw [hW.1]; exact zne (by omega) (by omega) (by decide)
  have rw' : nI (st / 8) - nI (st / 8) / s.1 79 2 * s.1 79 2 = nI (st / 8 % f 0 0) := by rw [hW.1]; exact pk_rem (by omega) (by omega) (by omega)
  have dw : nI (st / 8) / s.1 79 2 = nI (st / 8 / f 0 0) := by rw [hW.1]; exact pk_div (by omega) (by omega) (by omega)
  refine inX11_name I (L0ok hS) ?_
  refine rn I [] 99 ?_
  refine And.intro nz8 ?_
  refine And.intro nzw ?_
  refine ⟨0, ⟨by decide, rfl⟩, ?_⟩
  refine And.intro nzw ?_
  refine ⟨1, ⟨by decide, rfl⟩, ?_⟩
  refine q_sizeOf I hS (by omega) ?_
  refine ⟨2, ⟨by decide, rfl⟩, ?_⟩
  refine And.intro nz2 ?_
  refine ⟨3, ⟨by decide, rfl⟩, ?_⟩
  refine ⟨10 + st / 8, ⟨by omega, by rw [e8, nad]⟩, ?_⟩
  refine ⟨4, ⟨by decide, rfl⟩, ?_⟩
  rw [e8]
  have eh : s.1 80 (10 + st / 8) = nI (f 1 (st / 8)) := hA.1 1 (st / 8) (by decide) (by show st / 8 < 16; omega)
  refine h _ (fun k hk => ?_) ⟨fun q h2 h3 => by rw [xW_n h2, xW_n h2, xW_n h2, xW_n h2, xW_n h2], fun _ _ => rfl⟩
  rw [xW_s]
  rcases k10 hk with rfl | rfl | rfl | rfl | rfl | rfl | rfl | rfl | rfl | rfl
  · rw [ud_n (by decide), xW_s, ud_n (by decide), xW_s, ud_n (by decide), xW_s, ud_n (by decide), xW_s, ud_s]
    exact rw'
  · rw [ud_n (by decide), xW_s, ud_n (by decide), xW_s, ud_n (by decide), xW_s, ud_s]
    exact dw
  · rw [ud_n (by decide), xW_s, ud_n (by decide), xW_s, ud_s]
    rfl
  · rw [ud_n (by decide), xW_s, ud_s]
    exact r2
  · rw [ud_s, xW_n (by decide), xW_n (by decide), xW_n (by decide), xW_n (by decide)]
    exact eh
  all_goals (rw [ud_n (by decide), xW_s, ud_n (by decide), xW_s, ud_n (by decide), xW_s, ud_n (by decide), xW_s, ud_n (by decide)]; exact hN _ hk)
theorem q_apart (I : xRl X P) (hS : S ≤ 128) {x y : Int32} {a b : Nat} (hx : x = nI a) (hy : y = nI b) (ha : a ≤ 1000) (hb : b ≤ 1000) (h : Q (some (.int (nI (adf b a)))) s) : P (d + 1) (L0 S) 184 [.int x, .int y] s Q := by
  subst hx
  subst hy
  refine inX11_apart I (L0ok hS) ?_
  refine rn I [] 99 ?_
  unfold adf at h
  by_cases hc : a < b
  · refine xbr_t (zlt hc (by omega)) ?_
    rw [show b - a + (a - b) = b - a by omega, ← nsb (by omega)] at h
    exact h
  · refine xbr_f (znl (by omega) (by omega)) ?_
    rw [show b - a + (a - b) = a - b by omega, ← nsb (by omega)] at h
    exact h
theorem q_nameBy (I : xRl X P) (hS : S ≤ 128) (hA : FA (s.1 80) f ru) (hW : MW s f) (hB : FB f) (hN : NMd s e) {st n cell tu hr : Nat} (hst : st < 8 * cc f) (hc : cell < cc f) (h : ∀ s' : xS, NMd s' (aie f n cell tu hr (fce f st e)) → fW s s' → Q none s') : P (d + 3) (L0 S) 185 [.ref 79, .int (nI st), .int (nI n), .int (nI cell), .int (nI tu), .int (nI hr)] s Q := by
  have hcc := hB.cc16
  have w0 := hB.2.2.1
  have w4 := hB.2.2.2.1
  have l1 : cell % f 0 0 ≤ cell := Nat.mod_le _ _
  have l2 : cell / f 0 0 ≤ cell := Nat.div_le_self _ _
  have l3 : st / 8 % f 0 0 ≤ st / 8 := Nat.mod_le _ _
  have l4 : st / 8 / f 0 0 ≤ st / 8 := Nat.div_le_self _ _
  refine inX11_nameBy I (L0ok hS) ?_
  refine rn I [] 99 ?_
  refine q_name I hS hA hW hB hN hst (fun s1 N1 f1 => ?_)
  have ew : s1.1 79 2 = nI (f 0 0) := by rw [f1.1 79 (by decide) (by decide)]; exact hW.1
  refine ⟨5, ⟨by decide, rfl⟩, ?_⟩
  refine ⟨6, ⟨by decide, rfl⟩, ?_⟩
  refine ⟨7, ⟨by decide, rfl⟩, ?_⟩
  have nzw : ¬ s1.1 79 2 = nI 0 := by rw [ew]; exact zne (by omega) (by omega) (by decide)
  have rm : nI cell - nI cell / s1.1 79 2 * s1.1 79 2 = nI (cell % f 0 0) := by rw [ew]; exact pk_rem (by omega) (by omega) (by omega)
  have dv : nI cell / s1.1 79 2 = nI (cell / f 0 0) := by rw [ew]; exact pk_div (by omega) (by omega) (by omega)
  refine And.intro nzw ?_
  refine ⟨0, ⟨by decide, rfl⟩, ?_⟩
  have v0 : (xW (xW (xW s1 85 5 (nI hr)) 85 6 (nI n)) 85 7 (nI tu)).1 85 0 = nI (st / 8 % f 0 0) := by rw [xW_s, ud_n (by decide), xW_s, ud_n (by decide), xW_s, ud_n (by decide)]; exact N1 0 (by decide)
  have v1 : (xW (xW (xW s1 85 5 (nI hr)) 85 6 (nI n)) 85 7 (nI tu)).1 85 1 = nI (st / 8 / f 0 0) := by rw [xW_s, ud_n (by decide), xW_s, ud_n (by decide), xW_s, ud_n (by decide)]; exact N1 1 (by decide)
  refine q_apart I hS (a := cell % f 0 0) (b := st / 8 % f 0 0) rm v0 (by omega) (by omega) ?_
  refine And.intro nzw ?_
  refine ⟨1, ⟨by decide, rfl⟩, ?_⟩
  refine q_apart I hS (a := cell / f 0 0) (b := st / 8 / f 0 0) dv v1 (by omega) (by omega) ?_
  refine ⟨8, ⟨by decide, rfl⟩, ?_⟩
  refine h _ (fun k hk => ?_) ⟨fun q h2 h3 => by rw [xW_n h2, xW_n h2, xW_n h2, xW_n h2]; exact f1.1 q h2 h3, fun q hq => f1.2 q hq⟩
  rw [xW_s]
  rcases k10 hk with rfl | rfl | rfl | rfl | rfl | rfl | rfl | rfl | rfl | rfl
  case inr.inr.inr.inr.inr.inl => rw [ud_n (by decide), xW_s, ud_n (by decide), xW_s, ud_n (by decide), xW_s, ud_s]; rfl
  case inr.inr.inr.inr.inr.inr.inl => rw [ud_n (by decide), xW_s, ud_n (by decide), xW_s, ud_s]; rfl
  case inr.inr.inr.inr.inr.inr.inr.inl => rw [ud_n (by decide), xW_s, ud_s]; rfl
  case inr.inr.inr.inr.inr.inr.inr.inr.inl => rw [ud_s, nad]; rfl
  all_goals (rw [ud_n (by decide), xW_s, ud_n (by decide), xW_s, ud_n (by decide), xW_s, ud_n (by decide)]; exact N1 _ hk)
theorem q_held (I : xRl X P) (hS : S ≤ 128) {m : Nat} (hm : m ≤ 999) {z : Int} (hz : In z) (h : Q (some (.int (nI (hld m z)))) s) : P (d + 1) (L0 S) 129 [.long (jL z), .int (nI 0), .int (nI m)] s Q := by
  have s0 : (nI 0).toInt64 = jL 0 := by rw [jn]; exact ji_l (by unfold Sm; omega)
  have sm : (nI m).toInt64 = jL (m : Int) := by rw [jn]; exact ji_l (by unfold Sm; omega)
  refine inX11_held I (L0ok hS) ?_
  refine rn I [] 99 ?_
  have c1 : lg_cmp (jL z) (nI 0).toInt64 < nI 0 ↔ z < 0 := by rw [s0]; exact lc_lt.trans (jl_lt hz.lg (by unfold Lg; omega))
  have c2 : nI 0 < lg_cmp (jL z) (nI m).toInt64 ↔ (m : Int) < z := by rw [sm]; exact lc_gt.trans (jl_lt (by unfold Lg; omega) hz.lg)
  unfold hld at h
  by_cases h1 : z < 0
  · rw [if_pos h1] at h
    exact xbr_t (c1.mpr h1) h
  · rw [if_neg h1] at h
    refine xbr_f (fun q => h1 (c1.mp q)) ?_
    by_cases h2 : (m : Int) < z
    · rw [if_pos h2] at h
      exact xbr_t (c2.mpr h2) h
    · rw [if_neg h2] at h
      refine xbr_f (fun q => h2 (c2.mp q)) ?_
      rw [jn, show ((z.toNat : Nat) : Int) = z by omega, ← jl_i] at h
      exact h
def odv (od : Option Dn) (m v : Nat) (e : Nat → Nat) : Nat := match od with
  | none => v
  | some D => hld m (D e)
theorem q_sumOf (I : xRl X P) (hS : S ≤ 128) (hA : FA (s.1 80) f ru) (hB : FB f) (hX : TXM s (f 0 15) dn) (hd : ∀ t, t < f 0 15 → ∀ c, c < 4 → TDs c (dn t c)) (hr : rdn ru (f 0 15) dn dr) (hN : NMd s e) (he : EB e) {c m v : Nat} (hc : c < 4) (hm : m ≤ 999) (h : ∀ s' : xS, fV s s' → Q (some (.int (nI (odv (dr c) m v e)))) s') : P (d + 5) (L0 S) 181 [.ref 79, .int (nI c), .int (nI m), .int (nI v)] s Q := by
  have hn := hB.1.2.2.2
  have er : s.1 80 2 = ru := hA.2.2.2.2.1
  refine inX11_sumOf I (L0ok hS) ?_
  refine rn I [3] 99 ?_
  rcases hr with ⟨e1, e2⟩ | ⟨t, ht, e1, rfl⟩
  · refine rn I [] 99 ?_
    refine ⟨2, ⟨by decide, rfl⟩, ?_⟩
    refine xbr_t (by rw [er, e1]; exact zm1) ?_
    have k := h s fV.rf
    rw [e2 c] at k
    exact k
  · obtain ⟨mm, l, hmm, em, hl, hx⟩ := hX t ht
    have er : s.1 80 2 = nI t := er.trans e1
    have hxc := hx c hc
    have i0 : nI 620 * s.1 80 2 = nI (620 * t) := by rw [er, nml]
    have miss : ∀ j, j < mm → l j ≠ c → X (d + 4) mX11_sumOf Q (L0 S) 3 [some (.ref 79), some (.int (nI c)), some (.int (nI m)), some (.int (nI v)), some (.int (nI (j + 1)))] [] s → X (d + 4) mX11_sumOf Q (L0 S) 3 [some (.ref 79), some (.int (nI c)), some (.int (nI m)), some (.int (nI v)), some (.int (nI j))] [] s := by
      intro j hj hne k1
      obtain ⟨ej, ej4⟩ := hl j hj
      refine rn I [3] 99 ?_
      refine ⟨2, ⟨by decide, rfl⟩, ?_⟩
      refine xbr_f (by rw [er]; exact zn0 (by omega)) ?_
      refine ⟨2, ⟨by decide, rfl⟩, ?_⟩
      refine ⟨620 * t, ⟨by omega, i0⟩, ?_⟩
      refine xbr_t (by rw [em]; exact zlt hj (by omega)) ?_
      refine ⟨2, ⟨by decide, rfl⟩, ?_⟩
      refine ⟨620 * t + 1 + 3 * j, ⟨by omega, by rw [i0, nad, nml, nad]⟩, ?_⟩
      refine xbr_f (by rw [ej]; exact zne hne (by omega) (by omega)) ?_
      rw [n1s j] at k1
      exact k1
    cases ho : dn t c with
    | none =>
      rw [ho] at hxc h
      have loop : ∀ k j, j + k = mm → X (d + 4) mX11_sumOf Q (L0 S) 3 [some (.ref 79), some (.int (nI c)), some (.int (nI m)), some (.int (nI v)), some (.int (nI j))] [] s := by
        intro k
        induction k with
        | zero =>
          intro j hj
          refine rn I [] 99 ?_
          refine ⟨2, ⟨by decide, rfl⟩, ?_⟩
          refine xbr_f (by rw [er]; exact zn0 (by omega)) ?_
          refine ⟨2, ⟨by decide, rfl⟩, ?_⟩
          refine ⟨620 * t, ⟨by omega, i0⟩, ?_⟩
          refine xbr_f (by rw [em]; exact znl (by omega) (by omega)) ?_
          exact h s fV.rf
        | succ k ih =>
          intro j hj
          exact miss j (by omega) (hxc j (by omega)) (ih (j + 1) (by omega))
      exact loop mm 0 (by omega)
    | some D =>
      rw [ho] at hxc h
      obtain ⟨j0, a, w, C, hj0, lj0, lno, ea, ew, hw, hlen, hC, hM⟩ := hxc
      have loop : ∀ k j, j + k = j0 → X (d + 4) mX11_sumOf Q (L0 S) 3 [some (.ref 79), some (.int (nI c)), some (.int (nI m)), some (.int (nI v)), some (.int (nI j))] [] s := by
        intro k
        induction k with
        | zero =>
          intro j hj
          have hj : j = j0 := hj
          subst hj
          obtain ⟨ej, ej4⟩ := hl j hj0
          refine rn I [] 99 ?_
          refine ⟨2, ⟨by decide, rfl⟩, ?_⟩
          refine xbr_f (by rw [er]; exact zn0 (by omega)) ?_
          refine ⟨2, ⟨by decide, rfl⟩, ?_⟩
          refine ⟨620 * t, ⟨by omega, i0⟩, ?_⟩
          refine xbr_t (by rw [em]; exact zlt hj0 (by omega)) ?_
          refine ⟨2, ⟨by decide, rfl⟩, ?_⟩
          refine ⟨620 * t + 1 + 3 * j, ⟨by omega, by rw [i0, nad, nml, nad]⟩, ?_⟩
          refine xbr_t (by rw [ej, lj0]) ?_
          refine q_work I hS (by omega) (by omega) er ea ew hw hlen hC hM he hN (fun s1 f1 v1 => ?_)
          refine ⟨0, ⟨by decide, rfl⟩, ?_⟩
          rw [v1]
          refine q_held I hS hm ((hd t ht c hc D ho).1 e he) ?_
          exact h s1 f1
        | succ k ih =>
          intro j hj
          exact miss j (by omega) (lno j (by omega)) (ih (j + 1) (by omega))
      exact loop j0 0 (by omega)
theorem q_seenBy (I : xRl X P) (hS : S ≤ 128) (hA : FA (s.1 80) f ru) (hB : FB f) (hX : TXM s (f 0 15) dn) (hd : ∀ t, t < f 0 15 → ∀ c, c < 4 → TDs c (dn t c)) (hr : rdn ru (f 0 15) dn dr) (hN : NMd s e) (he : EB e) {st : Nat} (hst : st < 1000) (e2 : e 2 = st % 8 / 2 + 1) (h : ∀ s' : xS, fV s s' → Q (some (.int (nI (tlv 1 (dr 1) e)))) s') : P (d + 6) (L0 S) 186 [.ref 79, .int (nI st)] s Q := by
  have b7 := he 7 (by decide)
  have ov : odv (dr 1) 9 (if e 7 = 1 then 0 else e 2) e = tlv 1 (dr 1) e := by
    cases dr 1 <;> rfl
  rw [← ov] at h
  refine inX11_seenBy I (L0ok hS) ?_
  refine rn I [] 99 ?_
  refine ⟨7, ⟨by decide, rfl⟩, ?_⟩
  by_cases h7 : e 7 = 1
  · refine xbr_t (by rw [hN 7 (by decide), h7]) ?_
    rw [if_pos h7] at h
    exact q_sumOf I hS hA hB hX hd hr hN he (by decide) (by decide) h
  · refine xbr_f (by rw [hN 7 (by decide)]; exact zne h7 (by omega) (by decide)) ?_
    refine q_sizeOf I hS hst ?_
    rw [if_neg h7, e2] at h
    exact q_sumOf I hS hA hB hX hd hr hN he (by decide) (by decide) h
theorem q_priorOf (I : xRl X P) (hS : S ≤ 128) (hA : FA (s.1 80) f ru) (hW : MW s f) (hB : FB f) (hX : TXM s (f 0 15) dn) (hd : ∀ t, t < f 0 15 → ∀ c, c < 4 → TDs c (dn t c)) (hr : rdn ru (f 0 15) dn dr) (hN : NMd s e) (he : EB e) {st : Nat} (hst : st < 8 * cc f) (h : ∀ s' : xS, NMd s' (fce f st e) → fW s s' → Q (some (.int (nI (tlv 0 (dr 0) (fce f st e))))) s') : P (d + 6) (L0 S) 187 [.ref 79, .int (nI st)] s Q := by
  have ov : odv (dr 0) 99 1 (fce f st e) = tlv 0 (dr 0) (fce f st e) := by
    cases dr 0 <;> rfl
  refine inX11_priorOf I (L0ok hS) ?_
  refine rn I [] 99 ?_
  refine q_name I hS hA hW hB hN hst (fun s1 N1 f1 => ?_)
  refine q_sumOf (f := f) (ru := ru) (dn := dn) (dr := dr) I hS (by rw [f1.1 80 (by decide) (by decide)]; exact hA) hB (hX.same (f1.1 82 (by decide) (by decide))) hd hr N1 (fce_b hB hst he) (c := 0) (m := 99) (v := 1) (by decide) (by decide) (fun s2 f2 => ?_)
  rw [ov]
  exact h s2 (fun k hk => by rw [f2.1 85 (by decide)]; exact N1 k hk) (f1.tr f2.w)
end MOPT
