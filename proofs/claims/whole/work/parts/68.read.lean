/-! a text: clauses one behind the other; the class's readClause and read -/
def ud (dn : Nat → Option Dn) (c : Nat) (D : Dn) : Nat → Option Dn := fun c' => if c' = c then some D else dn c'
theorem ud_at {dn : Nat → Option Dn} {c : Nat} {D : Dn} : ud dn c D c = some D := if_pos rfl
theorem ud_ne {dn : Nat → Option Dn} {c c' : Nat} {D : Dn} (h : c' ≠ c) : ud dn c D c' = dn c' := if_neg h
def pT (K V : Nat → Nat) (F : Nat) : Nat → Nat → (Nat → Option Dn) → Sum (Nat × Nat) (Nat → Option Dn)
  | 0, i, _ => .inl (1, i)
  | g + 1, i, dn => if K i = 4 then (if (dn (V i)).isSome = true then .inl (4, i) else match pE K V (V i) F 2 0 (i + 1) (fun _ => 0) [] with
      | .inl e => .inl e
      | .inr x => if K x.1 = 22 then pT K V F g (x.1 + 1) (ud dn (V i) x.2.1) else .inl (1, x.1))
    else if K i = 0 then .inr dn else .inl (1, i)
def TXs (n : Nat) (t : Nat → Nat) (cnt : Nat) (kd vl pl en : Nat → Nat) : Prop := TCh n t cnt kd vl pl en ∧ en cnt ≤ n ∧ (∀ q, en cnt ≤ q → q < n → isB (byt n t q)) ∧ (∀ i, cnt ≤ i → kd i = 0 ∧ vl i = 0) ∧ cnt ≤ 300 ∧ n ≤ 300
theorem TXs.bd {n : Nat} {t : Nat → Nat} {cnt : Nat} {kd vl pl en : Nat → Nat} (h : TXs n t cnt kd vl pl en) (i : Nat) : kd i < 25 ∧ vl i ≤ 10000 ∧ (kd i = 4 → vl i < 4) ∧ (kd i = 3 → vl i < 10) ∧ (kd i ≠ 0 → i < cnt) ∧ tk3 cnt kd 0 i = kd i ∧ tk3 cnt vl 0 i = vl i := by
  unfold tk3
  by_cases hi : i < cnt
  · have := (h.1.2 i hi).2.2.2.bd
    rw [if_pos hi, if_pos hi]
    exact ⟨by omega, by omega, by omega, by omega, by omega, rfl, rfl⟩
  · have := h.2.2.2.1 i (by omega)
    rw [if_neg hi, if_neg hi]
    exact ⟨by omega, by omega, by omega, by omega, by omega, by omega, by omega⟩
theorem TXs.kk {n : Nat} {t : Nat → Nat} {cnt : Nat} {kd vl pl en : Nat → Nat} (h : TXs n t cnt kd vl pl en) {c : Nat} (hc : c < 4) : TKK cnt n c kd vl := by
  refine ⟨h.2.2.2.2.1, hc, fun i => by have := h.bd i; omega, fun i hi => ?_, fun i hi => ?_, fun i => ?_, h.2.2.2.2.2⟩
  · obtain ⟨a1, a2, a3, a4, a5, a6, a7⟩ := h.bd i
    exact a5 (by rw [← a6]; exact hi)
  · obtain ⟨a1, a2, a3, a4, a5, a6, a7⟩ := h.bd i
    rw [a7]
    exact a4 (by rw [← a6]; exact hi)
  · obtain ⟨a1, a2, a3, a4, a5, a6, a7⟩ := h.bd i
    rw [a7]
    exact a2
theorem TXs.c4 {n : Nat} {t : Nat → Nat} {cnt : Nat} {kd vl pl en : Nat → Nat} (h : TXs n t cnt kd vl pl en) {i : Nat} (hi : tk3 cnt kd 0 i = 4) : tk3 cnt vl 0 i < 4 ∧ i < cnt := by
  obtain ⟨a1, a2, a3, a4, a5, a6, a7⟩ := h.bd i
  rw [a7]
  rw [a6] at hi
  exact ⟨a3 hi, a5 (by omega)⟩
theorem pT_d {n : Nat} {t : Nat → Nat} {cnt : Nat} {kd vl pl en : Nat → Nat} (hX : TXs n t cnt kd vl pl en) {F : Nat} : ∀ (g i : Nat) (dn dn' : Nat → Option Dn), (∀ c, TDs c (dn c)) → pT (tk3 cnt kd 0) (tk3 cnt vl 0) F g i dn = .inr dn' → ∀ c, TDs c (dn' c)
  | 0, i, dn, dn', _, h => by cases h
  | g + 1, i, dn, dn', hd, h => by
    unfold pT at h
    by_cases k4 : tk3 cnt kd 0 i = 4
    · have c4 := hX.c4 k4
      have hK := hX.kk c4.1
      rw [if_pos k4] at h
      split at h
      · cases h
      · split at h
        · cases h
        · rename_i x hx
          split at h
          · refine pT_d hX g _ _ _ (fun c => ?_) h
            by_cases e : c = tk3 cnt vl 0 i
            · intro D hD
              rw [e, ud_at] at hD
              cases hD
              obtain ⟨a1, a2, a3, a4, a5, a6⟩ := (pE_p (c := tk3 cnt vl 0 i) hK.2.2.2.1 hK.2.2.2.2.1 F).1 2 0 (i + 1) _ _ x.1 x.2.1 x.2.2 (by decide) hx
              rw [e]
              exact ⟨a5.di, a4⟩
            · rw [ud_ne e]
              exact hd c
          · cases h
    · rw [if_neg k4] at h
      split at h
      · cases h
        exact hd
      · cases h
def fU (s s' : xS) : Prop := (∀ q, (q < 25 ∨ 29 < q) → s'.1 q = s.1 q) ∧ s'.2 = s.2
theorem fU.tr {a b c : xS} (h : fU a b) (k : fU b c) : fU a c := ⟨fun q h1 => (k.1 q h1).trans (h.1 q h1), k.2.trans h.2⟩
theorem fU.rf {a : xS} : fU a a := ⟨fun _ _ => rfl, rfl⟩
theorem fJ.u {a b : xS} (h : fJ a b) : fU a b := ⟨fun q h1 => h.1 q (by omega) (by omega) (by omega), h.2⟩
theorem fUw {s : xS} {k z : Nat} {x : Int32} (h1 : 25 ≤ k) (h2 : k ≤ 29) : fU s (xW s k z x) := ⟨fun _ h => xW_n (by omega), rfl⟩
theorem XC.cg {s s' : xS} {c : Nat} {o o' : Nat → Nat} {z z' : Nat} {od : Option Dn} (h : XC s 26 c o z od) (e1 : s'.1 27 c = s.1 27 c) (e2 : s'.1 28 c = s.1 28 c) (ho : ∀ q, q < z → o' q = o q) (hz : z ≤ z') : XC s' 26 c o' z' od := by
  cases od with
  | none => exact (show s'.1 27 c = _ from e1.trans h)
  | some D =>
    obtain ⟨a, b, h1, h2, h3, h4⟩ := h
    exact ⟨a, b, e1.trans h1, e2.trans h2, by omega, h4.cg (fun q _ hq => ho q (by omega))⟩
theorem nI_any (x : Int32) : ∃ m : Nat, x = nI m := ⟨x.toBitVec.toNat, by
  apply Int32.toBitVec_inj.mp
  show _ = BitVec.ofNat 32 _
  rw [BitVec.ofNat_toNat, BitVec.setWidth_eq]⟩
section READ
variable {X : xXT} {P : xPT} {d S cnt n : Nat} {s : xS} {Q : xQ} {kd vl pl en t o : Nat → Nat} {dn : Nat → Option Dn}
theorem m_closeF (I : xRl X P) (hS : S ≤ 128) {x : Int32} (h : ∀ s' : xS, (∀ q, q ≠ 28 → s'.1 q = s.1 q) → s'.2 = s.2 → Q none s') : P (d + 2) (L0 S) 37 [.ref 26, .int x] s Q := by
  have N := h s (fun _ _ => rfl) rfl
  refine inX4_close I (L0ok hS) ?_
  refine rn I [] 99 ?_
  refine inX4_has I (L0ok hS) ?_
  refine rn I [] 99 ?_
  rcases rg x (n := 4) (by decide) with ⟨j, hj, rfl, h1, h2⟩ | ⟨h1, h2⟩
  · refine xbr_f h1 ?_
    refine xbr_t h2 ?_
    refine ⟨j, ⟨hj, rfl⟩, ?_⟩
    refine xbr_c (fun e => ?_) (fun e => ?_)
    · exact ⟨bz, xbr_t rfl N⟩
    · refine ⟨bo, xbr_f n10 ?_⟩
      exact ⟨j, ⟨hj, rfl⟩, h _ (fun q hq => xW_n hq) rfl⟩
  · refine xbr_c (fun _ => ?_) (fun c1 => ?_)
    · exact ⟨bz, xbr_t rfl N⟩
    · refine xbr_f (h2 c1) ?_
      exact ⟨bz, xbr_t rfl N⟩
theorem m_readClause (I : xRl X P) (hS : S ≤ 128) (hX : TXs n t cnt kd vl pl en) {i c0 z F : Nat} (hR : RS s cnt kd vl i c0) (ki : tk3 cnt kd 0 i = 4) (hp : PG s 26 o z) (hz : z ≤ i) (hT : TKs s cnt kd vl pl) (hC : TC s n t) (hd : ∀ c, c < 4 → XC s 26 c o z (dn c)) (hF : 16 * (cnt + 2) ≤ F)
    (h4 : (dn (tk3 cnt vl 0 i)).isSome = true → ∀ s' : xS, RF s' 4 (tk3 cnt pl n i) → fU s s' → Q none s')
    (he : ¬ (dn (tk3 cnt vl 0 i)).isSome = true → ∀ e, pE (tk3 cnt kd 0) (tk3 cnt vl 0) (tk3 cnt vl 0 i) F 2 0 (i + 1) (fun _ => 0) [] = .inl e → ∀ s' : xS, RF s' e.1 (tk3 cnt pl n e.2) → fU s s' → Q none s')
    (h1 : ¬ (dn (tk3 cnt vl 0 i)).isSome = true → ∀ x, pE (tk3 cnt kd 0) (tk3 cnt vl 0) (tk3 cnt vl 0 i) F 2 0 (i + 1) (fun _ => 0) [] = .inr x → tk3 cnt kd 0 x.1 ≠ 22 → ∀ s' : xS, RF s' 1 (tk3 cnt pl n x.1) → fU s s' → Q none s')
    (hk : ¬ (dn (tk3 cnt vl 0 i)).isSome = true → ∀ x, pE (tk3 cnt kd 0) (tk3 cnt vl 0) (tk3 cnt vl 0 i) F 2 0 (i + 1) (fun _ => 0) [] = .inr x → tk3 cnt kd 0 x.1 = 22 → ∀ (s' : xS) (o' : Nat → Nat) (z' : Nat), RS s' cnt kd vl (x.1 + 1) (tk3 cnt vl 0 i) → PG s' 26 o' z' → z' ≤ x.1 + 1 → i < x.1 → x.1 < cnt → (∀ c, c < 4 → XC s' 26 c o' z' (ud dn (tk3 cnt vl 0 i) x.2.1 c)) → fU s s' → Q none s') : P (d + 82) (L0 S) 46 [.ref 25] s Q := by
  obtain ⟨v4, ic⟩ := hX.c4 ki
  have hK := hX.kk v4
  have c3 := hK.1
  have e6 := hR.2.2.2.2.1
  refine inX5_readClause I (L0ok hS) ?_
  refine rn I [] 99 ?_
  have N0 : s.1 27 (tk3 cnt vl 0 i) ≠ -(nI 1) → (dn (tk3 cnt vl 0 i)).isSome = true := by
    intro hv
    have g := hd _ v4
    cases hdn : dn (tk3 cnt vl 0 i) with
    | none => rw [hdn] at g; exact absurd g hv
    | some D => rfl
  have N1 : s.1 27 (tk3 cnt vl 0 i) = -(nI 1) → ¬ (dn (tk3 cnt vl 0 i)).isSome = true := by
    intro hv
    have g := hd _ v4
    cases hdn : dn (tk3 cnt vl 0 i) with
    | none => exact fun z => by cases z
    | some D =>
      rw [hdn] at g
      obtain ⟨a, b, g1, g2, g3, g4⟩ := g
      have g1 : s.1 27 (tk3 cnt vl 0 i) = nI a := g1
      have := g4.1
      have := hp.2.1
      exact absurd (g1.symm.trans hv) (zm1n (by omega))
  refine m_has_26 I hS e6 v4 rfl (fun hv => ?_) (fun hv => ?_)
  · refine xbr_f n10 ?_
    exact m_refuse I hS hT hC (by omega) hR (by decide) (by decide) (fun s' a b f => h4 (N0 hv) s' a f.j.u)
  · refine xbr_t rfl ?_
    have N := N1 hv
    have he := he N
    have h1 := h1 N
    have hk := hk N
    have fa : f25 s (xW s 25 7 (s.1 25 6)) := f25w s _ _
    have e7 : (xW s 25 7 (s.1 25 6)).1 25 7 = nI (tk3 cnt vl 0 i) := by rw [xW_s, ud_s]; exact e6
    have pa : PG (xW s 25 7 (s.1 25 6)) 26 o z := hp.r fa
    refine m_openD I hS pa e7 v4 ?_
    have fb : fU s (xW (xW (xW s 25 7 (s.1 25 6)) 27 (tk3 cnt vl 0 i) (nI z)) 28 (tk3 cnt vl 0 i) (nI z)) := (fa.j.u.tr (fUw (by decide) (by decide))).tr (fUw (by decide) (by decide))
    have r25 : ∀ j, j ≠ 7 → (xW (xW (xW s 25 7 (s.1 25 6)) 27 (tk3 cnt vl 0 i) (nI z)) 28 (tk3 cnt vl 0 i) (nI z)).1 25 j = s.1 25 j := fun j hj => by rw [xW_n (by decide), xW_n (by decide), xW_s, ud_n hj]
    have r7 : (xW (xW (xW s 25 7 (s.1 25 6)) 27 (tk3 cnt vl 0 i) (nI z)) 28 (tk3 cnt vl 0 i) (nI z)).1 25 7 = nI (tk3 cnt vl 0 i) := by rw [xW_n (by decide), xW_n (by decide)]; exact e7
    have pb : PG (xW (xW (xW s 25 7 (s.1 25 6)) 27 (tk3 cnt vl 0 i) (nI z)) 28 (tk3 cnt vl 0 i) (nI z)) 26 o z := ⟨by rw [xW_n (by decide), xW_n (by decide)]; exact pa.1, pa.2.1, fun j hj => by rw [xW_n (by decide), xW_n (by decide)]; exact pa.2.2 j hj⟩
    have r27 : ∀ c, c ≠ tk3 cnt vl 0 i → (xW (xW (xW s 25 7 (s.1 25 6)) 27 (tk3 cnt vl 0 i) (nI z)) 28 (tk3 cnt vl 0 i) (nI z)).1 27 c = s.1 27 c := fun c hc => by rw [xW_n (by decide), xW_s, ud_n hc, xW_n (by decide)]
    have r28 : ∀ c, c ≠ tk3 cnt vl 0 i → (xW (xW (xW s 25 7 (s.1 25 6)) 27 (tk3 cnt vl 0 i) (nI z)) 28 (tk3 cnt vl 0 i) (nI z)).1 28 c = s.1 28 c := fun c hc => by rw [xW_s, ud_n hc, xW_n (by decide), xW_n (by decide)]
    have r27c : (xW (xW (xW s 25 7 (s.1 25 6)) 27 (tk3 cnt vl 0 i) (nI z)) 28 (tk3 cnt vl 0 i) (nI z)).1 27 (tk3 cnt vl 0 i) = nI z := by rw [xW_n (by decide), xW_s, ud_s]
    revert fb r25 r7 pb r27 r28 r27c
    generalize xW (xW (xW s 25 7 (s.1 25 6)) 27 (tk3 cnt vl 0 i) (nI z)) 28 (tk3 cnt vl 0 i) (nI z) = s1
    intro fb r25 r7 pb r27 r28 r27c
    have T1 : TKs s1 cnt kd vl pl := hT.same (fun q h1 h2 => fb.1 q (by omega))
    have C1 : TC s1 n t := ⟨by rw [fb.1 23 (by omega)]; exact hC.1, fun j hj => by rw [fb.1 24 (by omega)]; exact hC.2 j hj⟩
    refine m_advance I hS T1 (i := i + 1) (c := tk3 cnt vl 0 i) (by omega) (by rw [r25 1 (by decide)]; exact hR.1) (by rw [r25 2 (by decide)]; exact hR.2.1) (by rw [r25 4 (by decide)]; exact hR.adv) r7 (fun s2 R2 f2 => ?_)
    have T2 := T1.j f2.j
    have C2 := C1.j f2.j
    have F2 := fb.tr f2.j.u
    refine ((C_main I hS hK F).2.2.1).at (d + 81) 0 (i + 1) s2 o z (fun _ => 0) [] rfl (by omega) (by decide) (by omega) (by omega) (by omega) R2 (pb.r f2) T2 C2 ?_
    cases hr : pE (tk3 cnt kd 0) (tk3 cnt vl 0) (tk3 cnt vl 0 i) F 2 0 (i + 1) (fun _ => 0) [] with
    | inl e =>
      intro s3 F3 Z3 j3
      refine m_expectF I hS F3 (by decide) (by decide) (fun s4 F4 f4 => ?_)
      refine m_closeF I hS (fun s5 g5 g6 => ?_)
      refine he e hr s5 ?_ (((F2.tr j3.u).tr f4.j.u).tr ⟨fun q hq => g5 q (by omega), g6⟩)
      unfold RF
      rw [g5 25 (by decide)]
      exact F4
    | inr x =>
      obtain ⟨a1, a2, a3, a4, a5, a6⟩ := (pE_p (c := tk3 cnt vl 0 i) hK.2.2.2.1 hK.2.2.2.2.1 F).1 2 0 (i + 1) _ _ x.1 x.2.1 x.2.2 (by decide) hr
      have a2 := a2 (by omega)
      intro s3 o3 z3 R3 p3 b1 b2 b3 j3
      have zz := b3.1
      have T3 := T2.j j3
      have C3 := C2.j j3
      refine m_expect I hS T3 C3 (by omega) R3 hK.2.2.1 (by decide) (fun kj s4 R4 f4 => ?_) (fun kj s4 F4 _ f4 => ?_)
      · have xc := hK.2.2.2.1 x.1 (by omega)
        have J4 := (f2.j.tr j3).tr f4.j
        have e27 : s4.1 27 = s1.1 27 := J4.1 27 (by decide) (by decide) (by decide)
        have e28 : s4.1 28 = s1.1 28 := J4.1 28 (by decide) (by decide) (by decide)
        have w27 : s4.1 27 (tk3 cnt vl 0 i) = nI z := by rw [e27]; exact r27c
        have zb := hp.2.1
        refine m_closeD I hS (p3.r f4) R4.2.2.2.2.2 v4 (by rw [w27]; exact zm1n (by omega)) ?_
        have p4 := p3.r f4
        refine hk x hr kj _ o3 z3 ?_ ?_ (by omega) (by omega) xc (fun c hc => ?_) (((F2.tr j3.u).tr f4.j.u).tr (fUw (by decide) (by decide)))
        · unfold RS
          rw [xW_n (by decide)]
          exact R4
        · exact ⟨by rw [xW_n (by decide)]; exact p4.1, p4.2.1, fun j hj => by rw [xW_n (by decide)]; exact p4.2.2 j hj⟩
        · by_cases e : c = tk3 cnt vl 0 i
          · rw [e, ud_at]
            exact ⟨z, z3, by rw [xW_n (by decide)]; exact w27, by rw [show (26 + 2 : Nat) = 28 from rfl, xW_s, ud_s], Nat.le_refl _, b3.up (by unfold nd; omega)⟩
          · rw [ud_ne e]
            refine (hd c hc).cg ?_ ?_ b2 (by omega)
            · rw [xW_n (by decide), e27]; exact r27 c e
            · rw [xW_s, ud_n e, e28]; exact r28 c e
      · refine m_closeF I hS (fun s5 g5 g6 => ?_)
        refine h1 x hr kj s5 ?_ (((F2.tr j3.u).tr f4.j.u).tr ⟨fun q hq => g5 q (by omega), g6⟩)
        unfold RF
        rw [g5 25 (by decide)]
        exact F4
def fK (s s' : xS) : Prop := (∀ q, (q < 25 ∨ 33 < q) → s'.1 q = s.1 q) ∧ s'.2 = s.2
theorem fK.tr {a b c : xS} (h : fK a b) (k : fK b c) : fK a c := ⟨fun q h1 => (k.1 q h1).trans (h.1 q h1), k.2.trans h.2⟩
theorem fU.k {a b : xS} (h : fU a b) : fK a b := ⟨fun q h1 => h.1 q (by omega), h.2⟩
def RO (Q : xQ) (s : xS) (cnt n : Nat) (pl : Nat → Nat) (r : Sum (Nat × Nat) (Nat → Option Dn)) : Prop := match r with
  | .inl e => ∀ s' : xS, s'.1 25 1 = nI e.1 → 1 ≤ e.1 → e.1 ≤ 5 → s'.1 25 2 = nI (tk3 cnt pl n e.2) → fK s s' → Q (some (.int (nI 0))) s'
  | .inr dn => ∀ (s' : xS) (o : Nat → Nat) (z : Nat), s'.1 25 1 = nI 0 → s'.1 25 2 = -(nI 1) → PG s' 26 o z → (∀ c, c < 4 → XC s' 26 c o z (dn c)) → fK s s' → Q (some (.int (nI 1))) s'
theorem RO.fr {Q : xQ} {s s' : xS} {cnt n : Nat} {pl : Nat → Nat} {r : Sum (Nat × Nat) (Nat → Option Dn)} (h : RO Q s cnt n pl r) (f : fK s s') : RO Q s' cnt n pl r := by
  cases r with
  | inl e => exact fun s2 a b c d g => h s2 a b c d (f.tr g)
  | inr dn => exact fun s2 o z a b c d g => h s2 o z a b c d (f.tr g)
theorem rd_F (I : xRl X P) {k p : Nat} (hS : S ≤ 128) (hR : RF s k p) {x : Int32} (h : ∀ s' : xS, s'.1 25 1 = nI k → 1 ≤ k → k ≤ 5 → s'.1 25 2 = nI p → fK s s' → Q (some (.int (nI 0))) s') : X (d + 1) mX5_read Q (L0 S) 35 [some (.ref 25), some (.int x)] [] s := by
  have T : X (d + 1) mX5_read Q (L0 S) 60 [some (.ref 25), some (.int x)] [] s := by
    refine rn I [] 99 ?_
    refine xbr_f (by rw [hR.2.2.2.2]; exact n10) ?_
    refine m_refuseF I hS hR (fun s' F' f' => ?_)
    refine xbr_f (by rw [F'.2.2.1]; exact zne (by have := F'.1; omega) (by have := F'.2.1; omega) (by decide)) ?_
    exact ⟨bz, h s' F'.2.2.1 F'.1 F'.2.1 F'.2.2.2.1 f'.j.u.k⟩
  refine rn I [60] 99 ?_
  refine xbr_c (fun _ => ?_) (fun _ => T)
  exact xbr_f (by rw [hR.2.2.2.2]; exact zne (by decide) (by decide) (by decide)) T
theorem rd_loop (I : xRl X P) (hS : S ≤ 128) (hX : TXs n t cnt kd vl pl en) {F : Nat} (hF : 16 * (cnt + 2) ≤ F) : ∀ (g i it c0 z : Nat) (o : Nat → Nat) (dn : Nat → Option Dn) (s : xS), cnt + 1 - i ≤ g → i ≤ cnt → it ≤ i → RS s cnt kd vl i c0 → PG s 26 o z → z ≤ i → TKs s cnt kd vl pl → TC s n t → (∀ c, c < 4 → XC s 26 c o z (dn c)) → RO Q s cnt n pl (pT (tk3 cnt kd 0) (tk3 cnt vl 0) F g i dn) → X (d + 82) mX5_read Q (L0 S) 35 [some (.ref 25), some (.int (nI it))] [] s := by
  have c3 := hX.2.2.2.2.1
  intro g
  induction g with
  | zero => intro i it c0 z o dn s h1 h2; omega
  | succ g ih =>
    intro i it c0 z o dn s hg hi hit hR hp hz hT hC hd h
    unfold pT at h
    have e5 := hR.2.2.2.1
    by_cases k4 : tk3 cnt kd 0 i = 4
    · obtain ⟨v4, ic⟩ := hX.c4 k4
      rw [if_pos k4] at h
      refine rn I [35] 99 ?_
      refine xbr_t (zlt (by omega) (by decide)) ?_
      refine xbr_t (by rw [e5, k4]) ?_
      refine m_readClause I hS hX hR k4 hp hz hT hC hd hF (fun hs s' F' f' => ?_) (fun hs e hr s' F' f' => ?_) (fun hs x hr kx s' F' f' => ?_) (fun hs x hr kx s' o' z' R' p' z1 x1 x2 d' f' => ?_)
      · rw [if_pos hs] at h
        exact rd_F I hS F' (fun s2 a b c e g => h s2 a b c e (f'.k.tr g))
      · rw [if_neg hs, hr] at h
        exact rd_F I hS F' (fun s2 a b c e g => h s2 a b c e (f'.k.tr g))
      · rw [if_neg hs, hr] at h
        have h : RO Q s cnt n pl (if tk3 cnt kd 0 x.1 = 22 then pT (tk3 cnt kd 0) (tk3 cnt vl 0) F g (x.1 + 1) (ud dn (tk3 cnt vl 0 i) x.2.1) else .inl (1, x.1)) := h
        rw [if_neg kx] at h
        exact rd_F I hS F' (fun s2 a b c e g => h s2 a b c e (f'.k.tr g))
      · rw [if_neg hs, hr] at h
        have h : RO Q s cnt n pl (if tk3 cnt kd 0 x.1 = 22 then pT (tk3 cnt kd 0) (tk3 cnt vl 0) F g (x.1 + 1) (ud dn (tk3 cnt vl 0 i) x.2.1) else .inl (1, x.1)) := h
        rw [if_pos kx] at h
        have q := ih (x.1 + 1) (it + 1) _ z' o' _ s' (by omega) (by omega) (by omega) R' p' z1 (hT.same (fun q h1 h2 => f'.1 q (by omega))) ⟨by rw [f'.1 23 (by omega)]; exact hC.1, fun j hj => by rw [f'.1 24 (by omega)]; exact hC.2 j hj⟩ d' (h.fr f'.k)
        rw [n1s it] at q
        exact q
    · rw [if_neg k4] at h
      have kb : tk3 cnt kd 0 i < 25 := by
        obtain ⟨a1, a2, a3, a4, a5, a6, a7⟩ := hX.bd i
        rw [a6]
        exact a1
      have T : X (d + 82) mX5_read Q (L0 S) 60 [some (.ref 25), some (.int (nI it))] [] s := by
        refine rn I [] 99 ?_
        by_cases k0 : tk3 cnt kd 0 i = 0
        · rw [if_pos k0] at h
          refine xbr_t (by rw [e5, k0]) ?_
          refine xbr_t hR.1 ?_
          exact ⟨bo, h s o z hR.1 hR.2.1 hp hd ⟨fun _ _ => rfl, rfl⟩⟩
        · rw [if_neg k0] at h
          refine xbr_f (by rw [e5]; exact zne k0 (by omega) (by decide)) ?_
          refine m_refuse I hS hT hC (by omega) hR (by decide) (by decide) (fun s' F' _ f' => ?_)
          refine xbr_f (by rw [F'.2.2.1]; exact n10) ?_
          exact ⟨bz, h s' F'.2.2.1 (Nat.le_refl 1) (show 1 ≤ 5 by decide) F'.2.2.2.1 f'.j.u.k⟩
      refine rn I [60] 99 ?_
      refine xbr_c (fun _ => ?_) (fun _ => T)
      exact xbr_f (by rw [e5]; exact zne k4 (by omega) (by decide)) T
theorem m11 : -(nI 1) + nI 1 = nI 0 := by decide +kernel
theorem m_read (I : xRk X P) (hS : S ≤ 128) (hC : TC s n t) (hn : n ≤ 300) (hb : ∀ i, i < n → t i < 256) (h : ∀ (cnt : Nat) (kd vl pl en : Nat → Nat), TXs n t cnt kd vl pl en → RO Q s cnt n pl (pT (tk3 cnt kd 0) (tk3 cnt vl 0) (16 * (cnt + 2)) (cnt + 2) 0 (fun _ => none))) : P (d + 83) (L0 S) 45 [.ref 25] s Q := by
  refine inX5_read I.1 (L0ok hS) ?_
  refine rn I.1 [35] 99 ?_
  have fa : fU s (xW (xW s 25 1 (nI 0)) 25 2 (-(nI 1))) := (fUw (by decide) (by decide)).tr (fUw (by decide) (by decide))
  have a1 : (xW (xW s 25 1 (nI 0)) 25 2 (-(nI 1))).1 25 1 = nI 0 := by rw [xW_s, ud_n (by decide), xW_s, ud_s]
  have a2 : (xW (xW s 25 1 (nI 0)) 25 2 (-(nI 1))).1 25 2 = -(nI 1) := by rw [xW_s, ud_s]
  refine m_clearD I.1 hS (fun s1 p1 c1 f1 => ?_)
  have f1' : fU s s1 := fa.tr ⟨fun q hq => f1.1 q (by omega), f1.2⟩
  have e25 := f1.1 25 (by decide)
  have C1 : TC s1 n t := ⟨by rw [f1'.1 23 (by omega)]; exact hC.1, fun j hj => by rw [f1'.1 24 (by omega)]; exact hC.2 j hj⟩
  refine m_split I hS C1 hn hb (fun cnt kd vl pl en s2 T2 ch e2 bl f2 => ?_)
  have f2' : fK s s2 := f1'.k.tr ⟨fun q hq => f2.1 q (by omega), f2.2⟩
  have X2 : TXs n t cnt (tk3 cnt kd 0) (tk3 cnt vl 0) pl en := by
    refine ⟨⟨ch.1, fun i hi => ?_⟩, e2, bl, fun i hi => ⟨if_neg (by omega), if_neg (by omega)⟩, T2.2.1, hn⟩
    have := ch.2 i hi
    rw [show tk3 cnt kd 0 i = kd i from if_pos hi, show tk3 cnt vl 0 i = vl i from if_pos hi]
    exact this
  have T2' : TKs s2 cnt (tk3 cnt kd 0) (tk3 cnt vl 0) pl := by
    refine ⟨T2.1, T2.2.1, fun i hi => ?_⟩
    rw [show tk3 cnt kd 0 i = kd i from if_pos hi, show tk3 cnt vl 0 i = vl i from if_pos hi]
    exact T2.2.2 i hi
  have h := h cnt _ _ pl en X2
  obtain ⟨c0, ec⟩ := nI_any (s2.1 25 7)
  have w25 : s2.1 25 = (xW (xW s 25 1 (nI 0)) 25 2 (-(nI 1))).1 25 := (f2.1 25 (by omega)).trans e25
  have fw : f25 s2 (xW s2 25 4 (-(nI 1))) := f25w s2 _ _
  refine m_advance I.1 hS (T2'.j fw.j) (i := 0) (c := c0) (by decide) (by rw [xW_s, ud_n (by decide), w25]; exact a1) (by rw [xW_s, ud_n (by decide), w25]; exact a2) (by rw [xW_s, ud_s]; exact m11) (by rw [xW_s, ud_n (by decide)]; exact ec) (fun s3 R3 f3 => ?_)
  have C2 : TC s2 n t := C1.T f2
  have p2 : PG s2 26 (fun _ => 0) 0 := ⟨by rw [f2.1 26 (by omega)]; exact p1.1, by decide, fun i hi => absurd hi (Nat.not_lt_zero _)⟩
  refine rd_loop I.1 hS X2 (Nat.le_refl _) (cnt + 2) 0 0 c0 0 (fun _ => 0) (fun _ => none) s3 (by omega) (by omega) (by omega) R3 ((p2.r fw).r f3) (by omega) ((T2'.j fw.j).j f3.j) ((C2.j fw.j).j f3.j) (fun c hc => ?_) (h.fr ((f2'.tr fw.j.u.k).tr f3.j.u.k))
  show s3.1 27 c = -(nI 1)
  rw [f3.1 27 (by decide), fw.1 27 (by decide), f2.1 27 (by omega)]
  exact c1 c hc
end READ
