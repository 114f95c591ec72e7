/-! the reference's parser: beginOne and behindOne -/
def kv (p : List Nat) : Int32 := match dm p with
  | [] => -(nI 1)
  | o :: _ => nI o
theorem btw_lt {k o : Nat} {p : List Nat} (h : btw k p = some o) : o < 40 ∧ 1 ≤ rk o ∧ o ≠ 2 ∧ o ≠ 20 := by
  have M : 10 ≤ k ∧ k < 16 → mc k < 40 ∧ 1 ≤ rk (mc k) ∧ mc k ≠ 2 ∧ mc k ≠ 20 := by
    intro z
    rcases (show k = 10 ∨ k = 11 ∨ k = 12 ∨ k = 13 ∨ k = 14 ∨ k = 15 by omega) with rfl | rfl | rfl | rfl | rfl | rfl <;> decide
  unfold btw at h
  by_cases h1 : k = 16
  · rw [if_pos h1] at h; cases h; decide
  rw [if_neg h1] at h
  by_cases h2 : k = 17
  · rw [if_pos h2] at h; cases h; decide
  rw [if_neg h2] at h
  by_cases h3 : k = 18
  · rw [if_pos h3] at h; cases h; decide
  rw [if_neg h3] at h
  by_cases h4 : k = 19
  · rw [if_pos h4] at h; cases h; decide
  rw [if_neg h4] at h
  by_cases h5 : ko p = 41
  · rw [if_pos h5] at h
    by_cases h6 : cpd p = true
    · rw [if_pos h6] at h
      by_cases h7 : k = 8
      · rw [if_pos h7] at h; cases h; decide
      rw [if_neg h7] at h
      by_cases h8 : k = 7
      · rw [if_pos h8] at h; cases h; decide
      rw [if_neg h8] at h
      cases h
    · rw [if_neg h6] at h
      by_cases h7 : 10 ≤ k ∧ k < 16
      · rw [if_pos h7] at h; cases h; exact M h7
      rw [if_neg h7] at h
      cases h
  · rw [if_neg h5] at h
    cases h
section RSTEP
variable {X : xXT} {P : xPT} {d S n cnt T w0 c i op wh : Nat} {s0 s : xS} {Q : xQ} {kd vl pl en t : Nat → Nat} {p : List Nat} {W : Cd}
set_option maxRecDepth 8000 in
theorem q_begin (I : xRl X P) (hS : S ≤ 128) (hG : RG s0 n cnt t kd vl pl en T) (hc : c < 4) (hs : ST s0 n cnt kd vl pl en T w0 c s i p op W 0) (hop : op ≤ 8) (hp : p.length < 160) (hno : nm2 p ≤ op) (hw : w0 + W.length + p.length ≤ 300)
    (h2 : tk3 cnt kd 0 i = 2 → 9999 < tk3 cnt vl 0 i → Q (some (.int (nI 2))) s)
    (hn : tk3 cnt kd 0 i = 2 → ¬ 9999 < tk3 cnt vl 0 i → ∀ s' : xS, ST s0 n cnt kd vl pl en T w0 c s' (i + 1) (sm2 p) (op - nm2 p) (W ++ [(0, tk3 cnt vl 0 i)] ++ cdz (rpm (nm2 p))) 1 → Q (some (.int (nI 0))) s')
    (h5 : tk3 cnt kd 0 i = 3 → ¬ al (tk3 cnt vl 0 i) c → Q (some (.int (nI 5))) s)
    (hm : tk3 cnt kd 0 i = 3 → al (tk3 cnt vl 0 i) c → ∀ s' : xS, ST s0 n cnt kd vl pl en T w0 c s' (i + 1) (sm2 p) (op - nm2 p) (W ++ [(1, tk3 cnt vl 0 i)] ++ cdz (rpm (nm2 p))) 1 → Q (some (.int (nI 0))) s')
    (h3 : (tk3 cnt kd 0 i = 20 ∨ tk3 cnt kd 0 i = 17 ∨ tk3 cnt kd 0 i = 5 ∨ (tk3 cnt kd 0 i = 9 ∧ aa p)) → op = 8 → Q (some (.int (nI 3))) s)
    (ho : ∀ o, ((tk3 cnt kd 0 i = 20 ∧ o = 40) ∨ (tk3 cnt kd 0 i = 17 ∧ o = 2) ∨ (tk3 cnt kd 0 i = 5 ∧ o = 41) ∨ (tk3 cnt kd 0 i = 9 ∧ aa p ∧ o = 20)) → op < 8 → ∀ s' : xS, ST s0 n cnt kd vl pl en T w0 c s' (i + 1) (o :: p) (op + 1) W 0 → Q (some (.int (nI 0))) s')
    (h1 : tk3 cnt kd 0 i ≠ 2 → tk3 cnt kd 0 i ≠ 3 → tk3 cnt kd 0 i ≠ 20 → tk3 cnt kd 0 i ≠ 17 → tk3 cnt kd 0 i ≠ 5 → ¬ (tk3 cnt kd 0 i = 9 ∧ aa p) → Q (some (.int (nI 1))) s) : P (d + 5) (L0 S) 164 [.ref 79, .int (nI 0)] s Q := by
  have hR := hs.1.2.2
  have hX := hG.2.2.2.1
  have bd := hX.bd i
  have b6 := bd.2.2.2.2.2.1
  have b7 := bd.2.2.2.2.2.2
  have v3 : tk3 cnt kd 0 i = 3 → tk3 cnt vl 0 i < 10 := fun z => by rw [b7]; exact bd.2.2.2.1 (by rw [← b6]; exact z)
  have TT : ∀ {k'}, tkS k' → (s.1 79 11 = nI (tkn k') ↔ tk3 cnt kd 0 i = k') := fun hk => hR.tok hk
  have T1 : s.1 79 11 = nI 1 ↔ tk3 cnt kd 0 i = 2 := TT (k' := 2) (by decide)
  have nl := nm2_l p
  have hT := hG.2.2.2.2
  -- the number or the name is emitted
  have EM : ∀ (o : Nat) (lv2 : Int32) (x y : Int32), x = nI o → y = nI (tk3 cnt vl 0 i) → (∀ s' : xS, ST s0 n cnt kd vl pl en T w0 c s' (i + 1) (sm2 p) (op - nm2 p) (W ++ [(o, tk3 cnt vl 0 i)] ++ cdz (rpm (nm2 p))) 1 → Q (some (.int (nI 0))) s') → X (d + 4) mX11_beginOne Q (L0 S) 81 [some (.ref 79), some (.int (nI 0)), some (.int lv2)] [.int y, .int x, .ref 79] s := by
    intro o lv2 x y ex ey g
    refine rn I [] 99 ?_
    refine q_emit I hS hs hT (by omega) ex ey (fun s1 t1 _ => ?_)
    refine q_nx I hS hG t1 (fun s2 t2 => ?_)
    have lw : (W ++ [(o, tk3 cnt vl 0 i)]).length = W.length + 1 := by rw [List.length_append]; rfl
    exact q_whole I hS hT (op' := op - nm2 p) t2 (by omega) (by omega) (by rw [lw]; omega) (by omega) g
  have A94 : tk3 cnt kd 0 i ≠ 2 → tk3 cnt kd 0 i ≠ 3 → ∀ lv2 : Int32, X (d + 4) mX11_beginOne Q (L0 S) 94 [some (.ref 79), some (.int (nI 0)), some (.int lv2)] [] s := by
    intro n2 n3 lv2
    refine rn I [151] 199 ?_
    by_cases k20 : tk3 cnt kd 0 i = 20
    · refine xbr_t ((TT (k' := 20) (by decide)).mpr k20) ?_
      exact q_opensBy I hS hG hs hop hp (by decide) (fun z => h3 (Or.inl k20) z) (fun z s' a => ho 40 (Or.inl ⟨k20, rfl⟩) z s' a)
    refine xbr_f (fun z => k20 ((TT (k' := 20) (by decide)).mp z)) ?_
    by_cases k17 : tk3 cnt kd 0 i = 17
    · refine xbr_t ((TT (k' := 17) (by decide)).mpr k17) ?_
      exact q_opensBy I hS hG hs hop hp (by decide) (fun z => h3 (Or.inr (Or.inl k17)) z) (fun z s' a => ho 2 (Or.inr (Or.inl ⟨k17, rfl⟩)) z s' a)
    refine xbr_f (fun z => k17 ((TT (k' := 17) (by decide)).mp z)) ?_
    have W4 := hR.word (w := 4) (by decide)
    have e4 : pkl (wds 4) = 26982 := by decide +kernel
    have A151 : tk3 cnt kd 0 i ≠ 5 → X (d + 4) mX11_beginOne Q (L0 S) 151 [some (.ref 79), some (.int (nI 0)), some (.int lv2)] [] s := by
      intro n5
      refine rn I [] 199 ?_
      refine q_w3 I hS (by decide) (by decide) (by decide) ?_
      refine q_isWord I hS hR (w := 8) (by decide) (by decide +kernel) (fun z => ?_) (fun z => ?_)
      · have k9 : tk3 cnt kd 0 i = 9 := by unfold isw at z; omega
        refine xbr_f n10 ?_
        refine q_isAskAhead I hS hs.2.1.1 hs.2.1.2 (by omega) (fun ha => ?_) (fun ha => ?_)
        · refine xbr_f n10 ?_
          exact q_opensBy I hS hG hs hop hp (by decide) (fun z => h3 (Or.inr (Or.inr (Or.inr ⟨k9, ha⟩))) z) (fun z s' a => ho 20 (Or.inr (Or.inr (Or.inr ⟨k9, ha, rfl⟩))) z s' a)
        · refine xbr_t rfl ?_
          exact h1 n2 n3 k20 k17 n5 (fun z => ha z.2)
      · refine xbr_t rfl ?_
        exact h1 n2 n3 k20 k17 n5 (fun y => z (by unfold isw; omega))
    by_cases k5 : tk3 cnt kd 0 i = 5
    · obtain ⟨w1, w2⟩ := W4.mpr (by unfold isw; omega)
      refine xbr_t w1 ?_
      refine xbr_t (lc_eq.mpr (by rw [w2, e4])) ?_
      exact q_opensBy I hS hG hs hop hp (by decide) (fun z => h3 (Or.inr (Or.inr (Or.inl k5))) z) (fun z s' a => ho 41 (Or.inr (Or.inr (Or.inl ⟨k5, rfl⟩))) z s' a)
    · have g := A151 k5
      refine xbr_c (fun z1 => ?_) (fun z1 => ?_)
      · refine xbr_f (fun z2 => k5 ?_) ?_
        · have := W4.mp ⟨z1, by rw [e4]; exact lc_eq.mp z2⟩
          unfold isw at this
          omega
        · exact g
      · exact g
  refine inX11_beginOne I (L0ok hS) ?_
  by_cases k2 : tk3 cnt kd 0 i = 2
  · have t1 := T1.mpr k2
    have nk : ¬ tk3 cnt kd 0 i = 3 := by omega
    obtain ⟨r, r1, r2, r3⟩ : ∃ r, r ≤ 1000208 ∧ s.1 79 12 = nI r ∧ tk3 cnt vl 0 i = min 10000 r := by
      rcases hR with ⟨z, -⟩ | ⟨-, -, z⟩ | ⟨-, l, -, -, z⟩ | ⟨z, -⟩ | ⟨z, -⟩ | ⟨z, -⟩ | ⟨j, -, z, -⟩
      · omega
      · exact z
      · have := wcl_k z; omega
      · omega
      · omega
      · omega
      · omega
    refine rn I [81, 94] 199 ?_
    refine xbr_t t1 ?_
    by_cases r9 : 9999 < r
    · refine xbr_t (by rw [r2]; exact zlt r9 (by omega)) ?_
      exact h2 k2 (by omega)
    · refine xbr_f (by rw [r2]; exact znl (by omega) (by omega)) ?_
      refine q_nameOf I hS hR v3 ?_
      rw [if_neg nk]
      refine xbr_t zm1 ?_
      refine xbr_t t1 ?_
      refine xbr_t t1 ?_
      refine xbr_t t1 ?_
      exact EM 0 _ _ _ rfl (by rw [r2, r3, Nat.min_eq_right (by omega)]) (hn k2 (by omega))
  · have t1 : ¬ s.1 79 11 = nI 1 := fun z => k2 (T1.mp z)
    refine rn I [81, 94] 199 ?_
    refine xbr_f t1 ?_
    refine q_nameOf I hS hR v3 ?_
    by_cases k3 : tk3 cnt kd 0 i = 3
    · have v10 := v3 k3
      rw [if_pos k3]
      refine xbr_f (zn0 (by omega)) ?_
      refine q_isOf I hS rfl hs.2.2.2.2.2.1 v10 hc (fun ha => ?_) (fun ha => ?_)
      · refine xbr_f n10 ?_
        refine xbr_f t1 ?_
        refine xbr_f (zn0 (by omega)) ?_
        refine xbr_f t1 ?_
        refine xbr_f t1 ?_
        exact EM 1 _ _ _ rfl rfl (hm k3 ha)
      · refine xbr_t rfl ?_
        exact h5 k3 ha
    · rw [if_neg k3]
      refine xbr_t zm1 ?_
      refine xbr_f t1 ?_
      refine xbr_t zm1 ?_
      exact A94 k2 k3 _
theorem x_behind (I : xRl X P) (hS : S ≤ 128) (hs : ST s0 n cnt kd vl pl en T w0 c s i p op W wh) (hp : p.length ≤ 160) (h : X (d + 4) mX11_behindOne Q (L0 S) 27 [some (.ref 79), some (.int (nI 0)), some (.int (o32 (btw (tk3 cnt kd 0 i) p))), some (.int (nI (dm p).length - nI 1)), some (.int (kv p))] [] s) : P (d + 5) (L0 S) 167 [.ref 79, .int (nI 0)] s Q := by
  obtain ⟨e19, pr⟩ := hs.2.1
  refine inX11_behindOne I (L0ok hS) ?_
  refine rn I [27] 99 ?_
  refine q_between I hS hs.1.2.2 e19 pr hp ?_
  refine q_marker I hS e19 pr hp ?_
  obtain ⟨a, ea⟩ := dm_suf p
  have pr2 : PLr (s.1 84) (dm p) := PLr.tl (a := a) (by rw [← ea]; exact pr)
  have l2 : (dm p).length ≤ p.length := by
    have := congrArg List.length ea
    rw [List.length_append] at this
    omega
  unfold kv at h
  cases hd : dm p with
  | nil =>
    rw [hd] at h
    exact xbr_t (by show nI 0 - nI 1 < nI 0; rw [nm01]; exact zm1) h
  | cons o q =>
    rw [hd] at h pr2 l2
    have l2 : q.length + 1 ≤ p.length := l2
    have e : nI (o :: q).length - nI 1 = nI q.length := by show nI (q.length + 1) - nI 1 = _; rw [nsb (by omega)]; rfl
    refine xbr_f (by rw [e]; exact zn0 (by omega)) ?_
    refine ⟨q.length, ⟨by omega, e⟩, ?_⟩
    have h : X (d + 4) mX11_behindOne Q (L0 S) 27 [some (.ref 79), some (.int (nI 0)), some (.int (o32 (btw (tk3 cnt kd 0 i) p))), some (.int (nI (o :: q).length - nI 1)), some (.int (nI o))] [] s := h
    rw [← pr2.1] at h
    exact h
theorem q_behind_op (I : xRl X P) (hS : S ≤ 128) (hG : RG s0 n cnt t kd vl pl en T) {ops : List Nat} {o op' : Nat} (hs : ST s0 n cnt kd vl pl en T w0 c s i (ops ++ p) op W wh) (hb : btw (tk3 cnt kd 0 i) (ops ++ p) = some o) (ha : ∀ x, x ∈ ops → rk o ≤ rk x) (hh : hrk (rk o) p) (ho : op = op' + cn ops) (ho2 : op < 1000) (hw : w0 + W.length + ops.length ≤ 301) (hl : (ops ++ p).length < 160) (h : ∀ s' : xS, ST s0 n cnt kd vl pl en T w0 c s' (i + 1) (o :: p) op' (W ++ cdz ops) 0 → Q (some (.int (nI 1))) s') : P (d + 5) (L0 S) 167 [.ref 79, .int (nI 0)] s Q := by
  obtain ⟨o40, r1, -, -⟩ := btw_lt hb
  have r7 := rk7 o
  have lp : p.length ≤ (ops ++ p).length := by rw [List.length_append]; omega
  refine x_behind I hS hs (by omega) ?_
  rw [hb]
  refine rn I [] 99 ?_
  refine xbr_f (zn0 (by omega)) ?_
  refine q_rank I hS rfl (by omega) ?_
  refine q_settle I hS hG.2.2.2.2 rfl (by omega) r1 hs ha hh ho ho2 hw (by omega) (fun s1 t1 => ?_)
  refine q_push I hS t1 (by omega) rfl (by omega) (fun s2 t2 => ?_)
  refine ⟨bz, ?_⟩
  refine q_nx I hS hG (t2.whl 0) (fun s3 t3 => ?_)
  exact ⟨bo, h s3 t3⟩
theorem q_behind_close (I : xRl X P) (hS : S ≤ 128) (hG : RG s0 n cnt t kd vl pl en T) {ops : List Nat} {m op' : Nat} (hs : ST s0 n cnt kd vl pl en T w0 c s i (ops ++ m :: p) op W wh) (hb : btw (tk3 cnt kd 0 i) (ops ++ m :: p) = none) (hm : (tk3 cnt kd 0 i = 21 ∧ m = 40) ∨ (tk3 cnt kd 0 i = 6 ∧ m = 43)) (ha : ∀ x, x ∈ ops → 1 ≤ rk x ∧ x < 40) (ho : op = op' + nm2 p + 1 + cn ops) (ho2 : op < 1000) (hw : w0 + W.length + ops.length + 1 + p.length ≤ 301) (hl : (ops ++ m :: p).length < 160) (h : ∀ s' : xS, ST s0 n cnt kd vl pl en T w0 c s' (i + 1) (sm2 p) op' (W ++ cdz ops ++ (if m = 43 then [(23, 0)] else []) ++ cdz (rpm (nm2 p))) 1 → Q (some (.int (nI 1))) s') : P (d + 5) (L0 S) 167 [.ref 79, .int (nI 0)] s Q := by
  have hR := hs.1.2.2
  have TT : ∀ {k'}, tkS k' → (s.1 79 11 = nI (tkn k') ↔ tk3 cnt kd 0 i = k') := fun hk => hR.tok hk
  have ll : (ops ++ m :: p).length = ops.length + (p.length + 1) := by rw [List.length_append]; rfl
  have nl := nm2_l p
  have ek : dm (ops ++ m :: p) = m :: p := by
    rw [dm_app ops _ (fun x hx => (ha x hx).2)]
    unfold dm
    rw [if_neg (by omega)]
  have ekv : kv (ops ++ m :: p) = nI m := by unfold kv; rw [ek]
  refine x_behind I hS hs (by omega) ?_
  rw [hb, ekv, ek]
  have A : X (d + 4) mX11_behindOne Q (L0 S) 91 [some (.ref 79), some (.int (nI 0)), some (.int (-(nI 1))), some (.int (nI (m :: p).length - nI 1)), some (.int (nI m))] [] s := by
    refine rn I [] 199 ?_
    refine q_settle I hS hG.2.2.2.2 (r := 1) rfl (by decide) (by decide) (op' := op' + nm2 p + 1) hs (fun x hx => (ha x hx).1) (by show rk m < 1; rcases hm with z | z <;> (rw [z.2]; decide)) ho ho2 (by omega) (by omega) (fun s1 t1 => ?_)
    have e19 : s1.1 79 19 = nI (p.length + 1) := t1.2.1.1
    have t2 := t1.pop (x := s1.1 79 19 - nI 1) (by rw [e19, nsb (by omega)]; rfl)
    have e20 := t2.2.2.1
    have t3 := t2.opn (x := (xW s1 79 19 (s1.1 79 19 - nI 1)).1 79 20 - nI 1) (v := op' + nm2 p) (by rw [e20, nsb (by omega)]; rfl)
    have lw : (W ++ cdz ops).length = W.length + ops.length := by rw [List.length_append, cdz_len]
    by_cases m43 : m = 43
    · rw [if_pos m43] at h
      refine xbr_t (by rw [m43]) ?_
      refine q_emit I hS t3 hG.2.2.2.2 (by omega) (o := 23) (v := 0) rfl rfl (fun s4 t4 _ => ?_)
      refine q_whole I hS hG.2.2.2.2 (op' := op') t4 rfl (by omega) (by rw [List.length_append]; show w0 + ((W ++ cdz ops).length + 1) + _ ≤ _; omega) (by omega) (fun s5 t5 => ?_)
      exact q_nx I hS hG t5 (fun s6 t6 => ⟨bo, h s6 t6⟩)
    · rw [if_neg m43, List.append_nil] at h
      refine xbr_f (zne m43 (by omega) (by decide)) ?_
      refine q_whole I hS hG.2.2.2.2 (op' := op') t3 rfl (by omega) (by omega) (by omega) (fun s5 t5 => ?_)
      exact q_nx I hS hG t5 (fun s6 t6 => ⟨bo, h s6 t6⟩)
  refine rn I [91] 99 ?_
  refine xbr_t zm1 ?_
  rcases hm with ⟨k1, m1⟩ | ⟨k1, m1⟩
  · refine xbr_t ((TT (k' := 21) (by decide)).mpr k1) ?_
    exact xbr_t (by rw [m1]) A
  · refine xbr_f (fun z => by have := (TT (k' := 21) (by decide)).mp z; omega) ?_
    refine q_w3 I hS (by decide) (by decide) (by decide) ?_
    refine q_isWord I hS hR (w := 5) (by decide) (by decide +kernel) (fun _ => ?_) (fun z => absurd (by unfold isw; omega) z)
    refine xbr_f n10 ?_
    exact xbr_t (by rw [m1]) A
theorem q_behind_turn (I : xRl X P) (hS : S ≤ 128) (hG : RG s0 n cnt t kd vl pl en T) {ops : List Nat} {m op' : Nat} (hs : ST s0 n cnt kd vl pl en T w0 c s i (ops ++ m :: p) op W wh) (hb : btw (tk3 cnt kd 0 i) (ops ++ m :: p) = none) (hm : (tk3 cnt kd 0 i = 23 ∧ m = 41 ∧ cpd (ops ++ m :: p) = true) ∨ (tk3 cnt kd 0 i = 24 ∧ m = 42)) (ha : ∀ x, x ∈ ops → 1 ≤ rk x ∧ x < 40) (ho : op = op' + cn ops) (ho2 : op < 1000) (hw : w0 + W.length + ops.length ≤ 301) (hl : (ops ++ m :: p).length < 160) (h : ∀ s' : xS, ST s0 n cnt kd vl pl en T w0 c s' (i + 1) ((m + 1) :: p) op' (W ++ cdz ops) 0 → Q (some (.int (nI 1))) s') : P (d + 5) (L0 S) 167 [.ref 79, .int (nI 0)] s Q := by
  have hR := hs.1.2.2
  have TT : ∀ {k'}, tkS k' → (s.1 79 11 = nI (tkn k') ↔ tk3 cnt kd 0 i = k') := fun hk => hR.tok hk
  have ll : (ops ++ m :: p).length = ops.length + (p.length + 1) := by rw [List.length_append]; rfl
  have ek : dm (ops ++ m :: p) = m :: p := by
    rw [dm_app ops _ (fun x hx => (ha x hx).2)]
    unfold dm
    rw [if_neg (by omega)]
  have ekv : kv (ops ++ m :: p) = nI m := by unfold kv; rw [ek]
  have ei : nI (m :: p).length - nI 1 = nI p.length := by show nI (p.length + 1) - nI 1 = _; rw [nsb (by omega)]; rfl
  refine x_behind I hS hs (by omega) ?_
  rw [hb, ekv, ek, ei]
  have A : X (d + 4) mX11_behindOne Q (L0 S) 176 [some (.ref 79), some (.int (nI 0)), some (.int (-(nI 1))), some (.int (nI p.length)), some (.int (nI m))] [] s := by
    refine rn I [] 199 ?_
    refine q_settle I hS hG.2.2.2.2 (r := 1) rfl (by decide) (by decide) (op' := op') hs (fun x hx => (ha x hx).1) (by show rk m < 1; rcases hm with ⟨-, z, -⟩ | ⟨-, z⟩ <;> (rw [z]; decide)) ho ho2 (by omega) (by omega) (fun s1 t1 => ?_)
    refine ⟨p.length, ⟨by omega, rfl⟩, ?_⟩
    have t2 := t1.trn (o' := m + 1) (by omega) (x := nI m + nI 1) (nad m 1)
    refine ⟨bz, ?_⟩
    exact q_nx I hS hG (t2.whl 0) (fun s3 t3 => ⟨bo, h s3 t3⟩)
  have n6 : ¬ isw (tk3 cnt kd 0 i) (tk3 cnt vl 0 i) 5 := by unfold isw; omega
  refine rn I [176] 99 ?_
  refine xbr_t zm1 ?_
  refine xbr_f (fun z => by have := (TT (k' := 21) (by decide)).mp z; omega) ?_
  refine q_w3 I hS (by decide) (by decide) (by decide) ?_
  refine q_isWord I hS hR (w := 5) (by decide) (by decide +kernel) (fun z => absurd z n6) (fun _ => ?_)
  refine xbr_t rfl ?_
  rcases hm with ⟨k1, m1, c1⟩ | ⟨k1, m1⟩
  · refine xbr_t ((TT (k' := 23) (by decide)).mpr k1) ?_
    refine xbr_t (by rw [m1]) ?_
    refine q_isCompared I hS hs.2.1.1 hs.2.1.2 (by omega) (fun _ => ?_) (fun z => absurd c1 z)
    exact xbr_f n10 A
  · refine xbr_f (fun z => by have := (TT (k' := 23) (by decide)).mp z; omega) ?_
    refine xbr_t ((TT (k' := 24) (by decide)).mpr k1) ?_
    exact xbr_t (by rw [m1]) A
theorem q_behind_no (I : xRl X P) (hS : S ≤ 128) (hs : ST s0 n cnt kd vl pl en T w0 c s i p op W wh) (hb : btw (tk3 cnt kd 0 i) p = none) (hl : p.length < 160) (h21 : tk3 cnt kd 0 i = 21 → ¬ kv p = nI 40) (h6 : tk3 cnt kd 0 i = 6 → ¬ kv p = nI 43) (h23 : tk3 cnt kd 0 i = 23 → kv p = nI 41 → ¬ cpd p = true) (h24 : tk3 cnt kd 0 i = 24 → ¬ kv p = nI 42) (h : Q (some (.int (nI 0))) s) : P (d + 5) (L0 S) 167 [.ref 79, .int (nI 0)] s Q := by
  have hR := hs.1.2.2
  have TT : ∀ {k'}, tkS k' → (s.1 79 11 = nI (tkn k') ↔ tk3 cnt kd 0 i = k') := fun hk => hR.tok hk
  refine x_behind I hS hs (by omega) ?_
  rw [hb]
  have A160 : X (d + 4) mX11_behindOne Q (L0 S) 160 [some (.ref 79), some (.int (nI 0)), some (.int (-(nI 1))), some (.int (nI (dm p).length - nI 1)), some (.int (kv p))] [] s := by
    refine rn I [] 99 ?_
    refine xbr_c (fun z => ?_) (fun _ => ⟨bz, h⟩)
    exact xbr_f (h24 ((TT (k' := 24) (by decide)).mp z)) ⟨bz, h⟩
  have A137 : X (d + 4) mX11_behindOne Q (L0 S) 137 [some (.ref 79), some (.int (nI 0)), some (.int (-(nI 1))), some (.int (nI (dm p).length - nI 1)), some (.int (kv p))] [] s := by
    refine rn I [160] 99 ?_
    refine xbr_c (fun z => ?_) (fun _ => A160)
    refine xbr_c (fun z2 => ?_) (fun _ => A160)
    refine q_isCompared I hS hs.2.1.1 hs.2.1.2 (by omega) (fun c1 => absurd c1 (h23 ((TT (k' := 23) (by decide)).mp z) z2)) (fun _ => ?_)
    exact xbr_t rfl A160
  have A68 : X (d + 4) mX11_behindOne Q (L0 S) 68 [some (.ref 79), some (.int (nI 0)), some (.int (-(nI 1))), some (.int (nI (dm p).length - nI 1)), some (.int (kv p))] [] s := by
    refine rn I [137] 99 ?_
    refine q_w3 I hS (by decide) (by decide) (by decide) ?_
    refine q_isWord I hS hR (w := 5) (by decide) (by decide +kernel) (fun z => ?_) (fun _ => xbr_t rfl A137)
    refine xbr_f n10 ?_
    exact xbr_f (h6 (by unfold isw at z; omega)) A137
  refine rn I [68] 99 ?_
  refine xbr_t zm1 ?_
  refine xbr_c (fun z => ?_) (fun _ => A68)
  exact xbr_f (h21 ((TT (k' := 21) (by decide)).mp z)) A68
end RSTEP
