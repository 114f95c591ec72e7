/-! the reference's parser: ASK and ONE; all together (by program mk75.py) -/
theorem hrk_cpd {p : List Nat} (h : hrk 4 p) : ¬ cpd p = true := by
  cases p with
  | nil => exact fun z => by cases z
  | cons o q =>
    have h : rk o < 4 := h
    intro z
    have z : (if 4 < rk o then cpd q else decide (rk o = 4)) = true := z
    rw [if_neg (by omega)] at z
    have := of_decide_eq_true z
    omega
theorem mc_f {k : Nat} (h1 : 10 ≤ k) (h2 : k < 16) : rk (mc k) = 4 ∧ mc k < 40 ∧ mc k ≠ 2 ∧ mc k ≠ 20 ∧ mc k ≠ 41 := by
  rcases (show k = 10 ∨ k = 11 ∨ k = 12 ∨ k = 13 ∨ k = 14 ∨ k = 15 by omega) with rfl | rfl | rfl | rfl | rfl | rfl <;> decide
section RGRAM2
variable {X : xXT} {P : xPT} {Q : xQ} {d S n cnt T w0 c : Nat} {s0 : xS} {kd vl pl en t : Nat → Nat} {f : Nat}
theorem R_ask (I : xRl X P) (hS : S ≤ 128) (hG : RG s0 n cnt t kd vl pl en T) (hc : c < 4) (ih3 : RRm X Q d S s0 n cnt kd vl pl en T w0 c f 3) (ih2 : RRm X Q d S s0 n cnt kd vl pl en T w0 c f 2) : RRm X Q d S s0 n cnt kd vl pl en T w0 c (f + 1) 3 := by
  have hK := hG.2.2.2.1.kk hc
  have c3 := hK.1
  have h31 := (pE_p (c := c) hK.2.2.2.1 hK.2.2.2.2.1 f).1
  intro op i p W D C hop hi hw hpl hf hh hna haa h
  have haa := haa (by decide)
  have hh : hrk 4 p := hh
  rw [pE_3] at h
  by_cases k9 : tk3 cnt kd 0 i = 9
  · have ic := hK.2.2.2.1 i (by omega)
    rw [if_pos k9] at h
    have nz : nm2 p ≤ op := by
      cases p with
      | nil => exact Nat.zero_le _
      | cons o q =>
        have hh : rk o < 4 := hh
        have : o ≠ 2 := fun z => by rw [z] at hh; revert hh; decide
        unfold nm2
        rw [if_neg this]
        exact Nat.zero_le _
    refine r_begin I hS hG hc hop (by omega) nz (by omega) (fun z => by omega) (fun z => by omega) (fun z => by omega) (fun z => by omega) (fun _ z => ?_) (fun o ho z => ?_) (fun _ _ _ _ _ z => absurd ⟨k9, haa⟩ z)
    · rw [if_neg (by omega)] at h
      exact h
    · rw [if_pos z] at h
      have o20 : o = 20 := by
        rcases ho with ho | ho | ho | ho
        · omega
        · omega
        · omega
        · exact ho.2.2
      subst o20
      have lp : (20 :: p).length = p.length + 1 := rfl
      have ak : aa (20 :: p) := ⟨by
        rw [show 20 :: p = [20] ++ p from rfl, ko_app (fun o ho => by rw [List.mem_singleton.mp ho]; decide)]
        exact haa.1, Or.inr (by decide)⟩
      refine ih3 (op + 1) (i + 1) (20 :: p) W D C (by omega) (by omega) (by omega) (by omega) (by omega) (by show rk 20 < rkh 3; decide) (fun z => by omega) (fun _ => ak) ?_
      cases hr : pE (tk3 cnt kd 0) (tk3 cnt vl 0) c f 3 (op + 1) (i + 1) D C with
      | inl e =>
        rw [hr] at h
        exact h
      | inr x =>
        rw [hr, pB_r] at h
        intro ops Y b1 b2 b3 b4
        have q := h (ops ++ [20]) Y (fun o ho => by
          rcases List.mem_append.mp ho with z | z
          · exact b1 o z
          · rw [List.mem_singleton.mp z]
            decide) (by rw [cdz_app, ← List.append_assoc, b2]; rfl) (fun z => by rw [List.append_assoc]; exact b3 z) (by rw [List.length_append]; show ops.length + 1 ≤ _; omega)
        rw [cn_app, List.append_assoc] at q
        have e : op + (cn ops + cn [20]) = op + 1 + cn ops := by
          show op + (cn ops + 1) = _
          omega
        rw [e] at q
        exact q
  · rw [if_neg k9] at h
    refine ih2 op i p W D C hop hi hw (by omega) (by omega) ?_ (fun _ z => absurd z k9) (fun z => by omega) ?_
    · cases p with
      | nil => trivial
      | cons o q =>
        have hh : rk o < 4 := hh
        show rk o < 5
        omega
    cases hr : pE (tk3 cnt kd 0) (tk3 cnt vl 0) c f 2 op i D C with
    | inl e =>
      rw [hr] at h
      exact h
    | inr x =>
      rw [hr, pB_r] at h
      obtain ⟨a1, a2, a3, a4, a5, a6⟩ := h31 2 op i D C x.1 x.2.1 x.2.2 (by decide) hr
      have a2 := a2 hi
      intro ops Y b1 b2 b3 b4
      have b1 : ∀ o, o ∈ ops → 5 ≤ rk o ∧ o < 40 := b1
      have hYl : Y.length + ops.length = x.2.2.length := by
        have := congrArg List.length b2
        rw [List.length_append, cdz_len] at this
        exact this
      have hcn := cn_le ops
      have lo : (ops ++ p).length = ops.length + p.length := List.length_append
      have lW : (W ++ Y).length = W.length + Y.length := List.length_append
      have kk : ko (ops ++ p) = 41 := by rw [ko_app (fun o ho => (b1 o ho).2)]; exact haa.1
      have cc : ¬ cpd (ops ++ p) = true := by rw [cpd_app ops p (fun o ho => (b1 o ho).1)]; exact hrk_cpd hh
      have hb := btw_ask a6 kk cc
      by_cases kx : 10 ≤ tk3 cnt kd 0 x.1 ∧ tk3 cnt kd 0 x.1 < 16
      · rw [if_pos kx] at h hb
        have xc := hK.2.2.2.1 x.1 (by omega)
        obtain ⟨m1, m2, m3, m4, m5⟩ := mc_f kx.1 kx.2
        have lm : (mc (tk3 cnt kd 0 x.1) :: p).length = p.length + 1 := rfl
        refine r_op I hS hG (op' := op) hb (fun y hy => by rw [m1]; have := (b1 y hy).1; omega) (by rw [m1]; exact hh) rfl (by omega) (by omega) (by omega) ?_
        rw [List.append_assoc, b2]
        have lW2 : (W ++ x.2.2).length = W.length + x.2.2.length := List.length_append
        refine ih2 op (x.1 + 1) (mc (tk3 cnt kd 0 x.1) :: p) (W ++ x.2.2) D C hop (by omega) (by omega) (by omega) (by omega) (by show rk (mc (tk3 cnt kd 0 x.1)) < 5; omega) (fun _ _ z => by
          rcases z.2 with z | ⟨_, z⟩
          · exact m5 z
          · omega) (fun z => by omega) ?_
        cases hr1 : pE (tk3 cnt kd 0) (tk3 cnt vl 0) c f 2 op (x.1 + 1) D C with
        | inl e =>
          rw [hr1] at h
          exact h
        | inr y =>
          rw [hr1, pB_r] at h
          intro ops2 Y2 g1 g2 g3 g4
          have g1 : ∀ o, o ∈ ops2 → 5 ≤ rk o ∧ o < 40 := g1
          have q := h (ops2 ++ [mc (tk3 cnt kd 0 x.1)]) (x.2.2 ++ Y2) (fun o ho => by
            rcases List.mem_append.mp ho with z | z
            · have := g1 o z
              exact ⟨by show 3 ≤ rk o; omega, this.2⟩
            · rw [List.mem_singleton.mp z, m1]
              exact ⟨by decide, m2⟩) (by rw [cdz_app, ← List.append_assoc, List.append_assoc x.2.2 Y2, g2]; rfl) (fun _ => by
            rw [List.append_assoc, cpd_app ops2 _ (fun o ho => (g1 o ho).1)]
            show (if 4 < rk (mc (tk3 cnt kd 0 x.1)) then _ else decide (rk (mc (tk3 cnt kd 0 x.1)) = 4)) = true
            rw [if_neg (by omega), m1]
            rfl) (by rw [List.length_append]; show ops2.length + 1 ≤ _; omega)
          have e : cn (ops2 ++ [mc (tk3 cnt kd 0 x.1)]) = cn ops2 := by
            rw [cn_app]
            show cn ops2 + ((if mc (tk3 cnt kd 0 x.1) = 2 ∨ mc (tk3 cnt kd 0 x.1) = 20 then 1 else 0) + 0) = cn ops2
            rw [if_neg (by omega)]
            rfl
          rw [e, List.append_assoc ops2] at q
          rw [List.append_assoc W]
          exact q
      · rw [if_neg kx] at h hb
        obtain ⟨e1, e2⟩ := ko_41 kk
        exact r_stop I hS hb (by omega) (fun _ z => absurd (e1.symm.trans z) (zne (by decide) (by decide) (by decide))) (fun _ z => absurd (e1.symm.trans z) (zne (by decide) (by decide) (by decide))) (fun _ _ => cc) (fun _ z => absurd (e1.symm.trans z) (zne (by decide) (by decide) (by decide))) e2 h
theorem R_one (I : xRl X P) (hS : S ≤ 128) (hG : RG s0 n cnt t kd vl pl en T) (hc : c < 4) (ih0 : RR0 X Q d S s0 n cnt kd vl pl en T w0 c f) (ih2 : RRm X Q d S s0 n cnt kd vl pl en T w0 c f 2) (ih5 : RRm X Q d S s0 n cnt kd vl pl en T w0 c f 5) : RR0 X Q d S s0 n cnt kd vl pl en T w0 c (f + 1) := by
  have hK := hG.2.2.2.1.kk hc
  have c3 := hK.1
  have h31 := (pE_p (c := c) hK.2.2.2.1 hK.2.2.2.2.1 f).1
  intro op i p W D C hop hi hw hpl hf hno hna h
  rw [pE_0] at h
  refine r_begin I hS hG hc hop (by omega) hno (by omega) (fun k v => ?_) (fun k v => ?_) (fun k v => ?_) (fun k v => ?_) (fun k z => ?_) (fun o k z => ?_) (fun a1 a2 a3 a4 a5 a6 => ?_)
  · rw [if_pos k, if_pos v] at h
    exact h
  · rw [if_pos k, if_neg v] at h
    exact h
  · unfold al at v
    rw [if_neg (by omega), if_pos k, if_neg v] at h
    exact h
  · unfold al at v
    rw [if_neg (by omega), if_pos k, if_pos v] at h
    exact h
  · rcases k with k | k | k | ⟨k, ka⟩
    · rw [if_neg (by omega), if_neg (by omega), if_pos k, if_neg (by omega)] at h
      exact h
    · rw [if_neg (by omega), if_neg (by omega), if_neg (by omega), if_pos k, if_neg (by omega)] at h
      exact h
    · rw [if_neg (by omega), if_neg (by omega), if_neg (by omega), if_neg (by omega), if_pos k, if_neg (by omega)] at h
      exact h
    · exact absurd ka (hna k)
  · rcases k with ⟨k, rfl⟩ | ⟨k, rfl⟩ | ⟨k, rfl⟩ | ⟨k, ka, -⟩
    · have ic := hK.2.2.2.1 i (by omega)
      rw [if_neg (by omega), if_neg (by omega), if_pos k, if_pos z] at h
      have lp : (40 :: p).length = p.length + 1 := rfl
      refine ih2 (op + 1) (i + 1) (40 :: p) W D C (by omega) (by omega) (by omega) (by omega) (by omega) (by show rk 40 < 5; decide) (fun _ _ y => absurd y.1 (by show ¬ (40 = 41); decide)) (fun y => by omega) ?_
      cases hr : pE (tk3 cnt kd 0) (tk3 cnt vl 0) c f 2 (op + 1) (i + 1) D C with
      | inl e =>
        rw [hr] at h
        exact h
      | inr x =>
        rw [hr, pB_r] at h
        obtain ⟨a1, a2, a3, a4, a5, a6⟩ := h31 2 (op + 1) (i + 1) D C x.1 x.2.1 x.2.2 (by decide) hr
        have a2 := a2 ic
        intro ops Y b1 b2 b3 b4
        have b1 : ∀ o, o ∈ ops → 5 ≤ rk o ∧ o < 40 := b1
        have hYl : Y.length + ops.length = x.2.2.length := by
          have := congrArg List.length b2
          rw [List.length_append, cdz_len] at this
          exact this
        have hcn := cn_le ops
        have lo : (ops ++ 40 :: p).length = ops.length + (p.length + 1) := List.length_append
        have lW : (W ++ Y).length = W.length + Y.length := List.length_append
        obtain ⟨e1, e2⟩ := kv_mk (p := p) (m := 40) (fun o ho => (b1 o ho).2) (by decide)
        have hb := btw_none (p := ops ++ 40 :: p) a6 (by rw [e2]; decide)
        by_cases kj : tk3 cnt kd 0 x.1 = 21
        · rw [if_pos kj] at h
          have xc := hK.2.2.2.1 x.1 (by omega)
          refine r_close I hS hG (op' := op - nm2 p) hb (Or.inl ⟨kj, rfl⟩) (fun y hy => ⟨by have := (b1 y hy).1; omega, (b1 y hy).2⟩) (by omega) (by omega) (by omega) (by omega) ?_
          rw [if_neg (by decide), List.append_nil, List.append_assoc W Y, b2]
          exact h
        · rw [if_neg kj] at h
          exact r_stop I hS hb (by omega) (fun y => absurd y kj) (fun _ y => absurd (e1.symm.trans y) (zne (by decide) (by decide) (by decide))) (fun _ y => absurd (e1.symm.trans y) (zne (by decide) (by decide) (by decide))) (fun _ y => absurd (e1.symm.trans y) (zne (by decide) (by decide) (by decide))) (by rw [dm_mk (fun o ho => (b1 o ho).2) (by decide)]; exact fun y => by cases y) h
    · have ic := hK.2.2.2.1 i (by omega)
      rw [if_neg (by omega), if_neg (by omega), if_neg (by omega), if_pos k, if_pos z] at h
      have lp : (2 :: p).length = p.length + 1 := rfl
      have n2 : nm2 (2 :: p) = nm2 p + 1 := rfl
      have s2 : sm2 (2 :: p) = sm2 p := rfl
      refine ih0 (op + 1) (i + 1) (2 :: p) W D C (by omega) (by omega) (by omega) (by omega) (by omega) (by omega) (fun _ y => by
        rcases y.2 with y | ⟨_, y⟩
        · omega
        · revert y; decide) ?_
      cases hr : pE (tk3 cnt kd 0) (tk3 cnt vl 0) c f 0 (op + 1) (i + 1) D C with
      | inl e =>
        rw [hr] at h
        exact h
      | inr x =>
        rw [hr, pB_r] at h
        have h : RH X Q d S s0 n cnt kd vl pl en T w0 c x.1 (sm2 p) (op - nm2 p) (W ++ (x.2.2 ++ [(2, 0)]) ++ cdz (rpm (nm2 p))) 1 := h
        show RH X Q d S s0 n cnt kd vl pl en T w0 c x.1 (sm2 (2 :: p)) (op + 1 - nm2 (2 :: p)) (W ++ x.2.2 ++ cdz (rpm (nm2 (2 :: p)))) 1
        rw [n2, s2, show op + 1 - (nm2 p + 1) = op - nm2 p by omega]
        have e : W ++ x.2.2 ++ cdz (rpm (nm2 p + 1)) = W ++ (x.2.2 ++ [(2, 0)]) ++ cdz (rpm (nm2 p)) := by
          show W ++ x.2.2 ++ (2, 0) :: cdz (rpm (nm2 p)) = _
          rw [List.append_assoc, List.append_assoc, List.append_assoc]
          rfl
        rw [e]
        exact h
    · have ic := hK.2.2.2.1 i (by omega)
      rw [if_neg (by omega), if_neg (by omega), if_neg (by omega), if_neg (by omega), if_pos k, if_pos z] at h
      have lp : (41 :: p).length = p.length + 1 := rfl
      refine ih5 (op + 1) (i + 1) (41 :: p) W D C (by omega) (by omega) (by omega) (by omega) (by omega) (by show rk 41 < 1; decide) (fun y => by omega) (fun _ => ⟨rfl, Or.inl rfl⟩) ?_
      cases hr : pE (tk3 cnt kd 0) (tk3 cnt vl 0) c f 5 (op + 1) (i + 1) D C with
      | inl e =>
        rw [hr] at h
        exact h
      | inr x =>
        rw [hr, pB_r] at h
        obtain ⟨a1, a2, a3, a4, a5, a6⟩ := h31 5 (op + 1) (i + 1) D C x.1 x.2.1 x.2.2 (by decide) hr
        have a2 := a2 ic
        intro ops Y b1 b2 b3 b4
        have b1 : ∀ o, o ∈ ops → 1 ≤ rk o ∧ o < 40 := b1
        have b3 := b3 (by decide)
        have hYl : Y.length + ops.length = x.2.2.length := by
          have := congrArg List.length b2
          rw [List.length_append, cdz_len] at this
          exact this
        have hcn := cn_le ops
        have lo : (ops ++ 41 :: p).length = ops.length + (p.length + 1) := List.length_append
        have lW : (W ++ Y).length = W.length + Y.length := List.length_append
        obtain ⟨e1, e2⟩ := kv_mk (p := p) (m := 41) (fun o ho => (b1 o ho).2) (by decide)
        have hb := btw_5 (p := ops ++ 41 :: p) a6 b3
        by_cases kj : tk3 cnt kd 0 x.1 = 23
        · rw [if_pos kj] at h
          have xc := hK.2.2.2.1 x.1 (by omega)
          refine r_turn I hS hG (op' := op + 1) hb (Or.inl ⟨kj, rfl, b3⟩) b1 rfl (by omega) (by omega) (by omega) ?_
          show RH X Q d S s0 n cnt kd vl pl en T w0 c (x.1 + 1) (42 :: p) (op + 1) (W ++ Y ++ cdz ops) 0
          rw [List.append_assoc, b2]
          have l2 : (W ++ x.2.2).length = W.length + x.2.2.length := List.length_append
          have lp2 : (42 :: p).length = p.length + 1 := rfl
          refine ih2 (op + 1) (x.1 + 1) (42 :: p) (W ++ x.2.2) D C (by omega) (by omega) (by omega) (by omega) (by omega) (by show rk 42 < 5; decide) (fun _ _ y => absurd y.1 (by show ¬ (42 = 41); decide)) (fun y => by omega) ?_
          cases hr1 : pE (tk3 cnt kd 0) (tk3 cnt vl 0) c f 2 (op + 1) (x.1 + 1) D C with
          | inl e =>
            rw [hr1] at h
            exact h
          | inr y =>
            rw [hr1, pB_r] at h
            obtain ⟨f1, f2, f3, f4, f5, f6⟩ := h31 2 (op + 1) (x.1 + 1) D C y.1 y.2.1 y.2.2 (by decide) hr1
            have f2 := f2 xc
            intro ops2 Y2 g1 g2 g3 g4
            have g1 : ∀ o, o ∈ ops2 → 5 ≤ rk o ∧ o < 40 := g1
            have hY2 : Y2.length + ops2.length = y.2.2.length := by
              have := congrArg List.length g2
              rw [List.length_append, cdz_len] at this
              exact this
            have hcn2 := cn_le ops2
            have lo2 : (ops2 ++ 42 :: p).length = ops2.length + (p.length + 1) := List.length_append
            have lW2 : (W ++ x.2.2 ++ Y2).length = W.length + x.2.2.length + Y2.length := by rw [List.length_append, l2]
            obtain ⟨m1, m2⟩ := kv_mk (p := p) (m := 42) (fun o ho => (g1 o ho).2) (by decide)
            have hb2 := btw_none (p := ops2 ++ 42 :: p) f6 (by rw [m2]; decide)
            by_cases kk : tk3 cnt kd 0 y.1 = 24
            · rw [if_pos kk] at h
              have yc := hK.2.2.2.1 y.1 (by omega)
              refine r_turn I hS hG (m := 42) (op' := op + 1) hb2 (Or.inr ⟨kk, rfl⟩) (fun o ho => ⟨by have := (g1 o ho).1; omega, (g1 o ho).2⟩) rfl (by omega) (by omega) (by omega) ?_
              show RH X Q d S s0 n cnt kd vl pl en T w0 c (y.1 + 1) (43 :: p) (op + 1) (W ++ x.2.2 ++ Y2 ++ cdz ops2) 0
              rw [List.append_assoc (W ++ x.2.2), g2]
              have l3 : (W ++ x.2.2 ++ y.2.2).length = W.length + x.2.2.length + y.2.2.length := by rw [List.length_append, l2]
              have lp3 : (43 :: p).length = p.length + 1 := rfl
              refine ih2 (op + 1) (y.1 + 1) (43 :: p) (W ++ x.2.2 ++ y.2.2) D C (by omega) (by omega) (by omega) (by omega) (by omega) (by show rk 43 < 5; decide) (fun _ _ y => absurd y.1 (by show ¬ (43 = 41); decide)) (fun y => by omega) ?_
              cases hr2 : pE (tk3 cnt kd 0) (tk3 cnt vl 0) c f 2 (op + 1) (y.1 + 1) D C with
              | inl e =>
                rw [hr2] at h
                exact h
              | inr w =>
                rw [hr2, pB_r] at h
                obtain ⟨q1, q2, q3, q4, q5, q6⟩ := h31 2 (op + 1) (y.1 + 1) D C w.1 w.2.1 w.2.2 (by decide) hr2
                have q2 := q2 yc
                intro ops3 Y3 u1 u2 u3 u4
                have u1 : ∀ o, o ∈ ops3 → 5 ≤ rk o ∧ o < 40 := u1
                have hY3 : Y3.length + ops3.length = w.2.2.length := by
                  have := congrArg List.length u2
                  rw [List.length_append, cdz_len] at this
                  exact this
                have hcn3 := cn_le ops3
                have lo3 : (ops3 ++ 43 :: p).length = ops3.length + (p.length + 1) := List.length_append
                have lW3 : (W ++ x.2.2 ++ y.2.2 ++ Y3).length = W.length + x.2.2.length + y.2.2.length + Y3.length := by rw [List.length_append, l3]
                obtain ⟨v1, v2⟩ := kv_mk (p := p) (m := 43) (fun o ho => (u1 o ho).2) (by decide)
                have hb3 := btw_none (p := ops3 ++ 43 :: p) q6 (by rw [v2]; decide)
                by_cases kw : tk3 cnt kd 0 w.1 = 6
                · rw [if_pos kw] at h
                  have wc := hK.2.2.2.1 w.1 (by omega)
                  refine r_close I hS hG (m := 43) (op' := op - nm2 p) hb3 (Or.inr ⟨kw, rfl⟩) (fun o ho => ⟨by have := (u1 o ho).1; omega, (u1 o ho).2⟩) (by omega) (by omega) (by omega) (by omega) ?_
                  rw [if_pos rfl, List.append_assoc (W ++ x.2.2 ++ y.2.2), u2]
                  have h : RH X Q d S s0 n cnt kd vl pl en T w0 c (w.1 + 1) (sm2 p) (op - nm2 p) (W ++ (x.2.2 ++ y.2.2 ++ w.2.2 ++ [(23, 0)]) ++ cdz (rpm (nm2 p))) 1 := h
                  have e : W ++ x.2.2 ++ y.2.2 ++ w.2.2 ++ [(23, 0)] ++ cdz (rpm (nm2 p)) = W ++ (x.2.2 ++ y.2.2 ++ w.2.2 ++ [(23, 0)]) ++ cdz (rpm (nm2 p)) := by
                    simp only [List.append_assoc]
                  rw [e]
                  exact h
                · rw [if_neg kw] at h
                  exact r_stop I hS hb3 (by omega) (fun _ y => absurd (v1.symm.trans y) (zne (by decide) (by decide) (by decide))) (fun y => absurd y kw) (fun _ y => absurd (v1.symm.trans y) (zne (by decide) (by decide) (by decide))) (fun _ y => absurd (v1.symm.trans y) (zne (by decide) (by decide) (by decide))) (by rw [dm_mk (fun o ho => (u1 o ho).2) (by decide)]; exact fun y => by cases y) h
            · rw [if_neg kk] at h
              exact r_stop I hS hb2 (by omega) (fun _ y => absurd (m1.symm.trans y) (zne (by decide) (by decide) (by decide))) (fun _ y => absurd (m1.symm.trans y) (zne (by decide) (by decide) (by decide))) (fun _ y => absurd (m1.symm.trans y) (zne (by decide) (by decide) (by decide))) (fun y => absurd y kk) (by rw [dm_mk (fun o ho => (g1 o ho).2) (by decide)]; exact fun y => by cases y) h
        · rw [if_neg kj] at h
          exact r_stop I hS hb (by omega) (fun _ y => absurd (e1.symm.trans y) (zne (by decide) (by decide) (by decide))) (fun _ y => absurd (e1.symm.trans y) (zne (by decide) (by decide) (by decide))) (fun y => absurd y kj) (fun _ y => absurd (e1.symm.trans y) (zne (by decide) (by decide) (by decide))) (by rw [dm_mk (fun o ho => (b1 o ho).2) (by decide)]; exact fun y => by cases y) h
    · exact absurd ka (hna k)
  · rw [if_neg a1, if_neg a2, if_neg a3, if_neg a4, if_neg a5] at h
    exact h
theorem R_main (I : xRl X P) (hS : S ≤ 128) (hG : RG s0 n cnt t kd vl pl en T) (hc : c < 4) : ∀ f, RR0 X Q d S s0 n cnt kd vl pl en T w0 c f ∧ RRm X Q d S s0 n cnt kd vl pl en T w0 c f 1 ∧ RRm X Q d S s0 n cnt kd vl pl en T w0 c f 2 ∧ RRm X Q d S s0 n cnt kd vl pl en T w0 c f 3 ∧ RRm X Q d S s0 n cnt kd vl pl en T w0 c f 4 ∧ RRm X Q d S s0 n cnt kd vl pl en T w0 c f 5 ∧ RRl X Q d S s0 n cnt kd vl pl en T w0 c f 1 ∧ RRl X Q d S s0 n cnt kd vl pl en T w0 c f 2 ∧ RRl X Q d S s0 n cnt kd vl pl en T w0 c f 4 ∧ RRl X Q d S s0 n cnt kd vl pl en T w0 c f 5 := by
  intro f
  induction f with
  | zero =>
    have A : ∀ m, RRm X Q d S s0 n cnt kd vl pl en T w0 c 0 m := fun m op i p W D C h1 h2 h3 h4 h5 => absurd h5 (Nat.not_lt_zero _)
    have B : ∀ l, RRl X Q d S s0 n cnt kd vl pl en T w0 c 0 l := fun l op i p W D C ops Y h1 h2 h3 h4 h5 => absurd h5 (Nat.not_lt_zero _)
    exact ⟨fun op i p W D C h1 h2 h3 h4 h5 => absurd h5 (Nat.not_lt_zero _), A _, A _, A _, A _, A _, B _, B _, B _, B _⟩
  | succ f ih =>
    obtain ⟨i0, i1, i2, i3, i4, i5, l1, l2, l4, l5⟩ := ih
    exact ⟨R_one I hS hG hc i0 i2 i5, R_lev hG hc (Or.inl rfl) (fun _ => i0) (fun z => absurd rfl z) l1, R_lev hG hc (Or.inr (Or.inl rfl)) (fun z => by omega) (fun _ => i1) l2, R_ask I hS hG hc i3 i2, R_lev hG hc (Or.inr (Or.inr (Or.inl rfl))) (fun z => by omega) (fun _ => i3) l4, R_lev hG hc (Or.inr (Or.inr (Or.inr rfl))) (fun z => by omega) (fun _ => i4) l5,
      R_loop I hS hG hc (Or.inl rfl) (fun _ => i0) (fun z => absurd rfl z) l1, R_loop I hS hG hc (Or.inr (Or.inl rfl)) (fun z => by omega) (fun _ => i1) l2, R_loop I hS hG hc (Or.inr (Or.inr (Or.inl rfl))) (fun z => by omega) (fun _ => i3) l4, R_loop I hS hG hc (Or.inr (Or.inr (Or.inr rfl))) (fun z => by omega) (fun _ => i4) l5⟩
end RGRAM2
