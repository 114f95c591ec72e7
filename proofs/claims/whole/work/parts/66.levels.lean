/-! the class's reader keeps to the grammar: the levels with loops (by program mk66.py) -/
def nd (m op : Nat) : Nat := 5 * (8 - op) + 1 + m
def CO (Q : xQ) (s : xS) (cnt n : Nat) (kd vl pl : Nat → Nat) (c zb i : Nat) (o : Nat → Nat) (z N : Nat) (r : pR) : Prop := match r with
  | .inl e => ∀ s' : xS, RF s' e.1 (tk3 cnt pl n e.2) → DZ s' → fJ s s' → Q none s'
  | .inr x => ∀ (s' : xS) (o' : Nat → Nat) (z' : Nat), RS s' cnt kd vl x.1 c → PG s' 26 o' z' → z' + i ≤ z + x.1 → (∀ q, q < zb → o' q = o q) → SG o' zb z' N x.2.1 → fJ s s' → Q none s'
theorem CO.step {Q : xQ} {s s3 : xS} {cnt n : Nat} {kd vl pl : Nat → Nat} {c zb i i3 : Nat} {o o3 : Nat → Nat} {z z3 N : Nat} {r : pR} (h : CO Q s cnt n kd vl pl c zb i o z N r) (f : fJ s s3) (ho : ∀ q, q < zb → o3 q = o q) (hz : z3 + i ≤ z + i3) : CO Q s3 cnt n kd vl pl c zb i3 o3 z3 N r := by
  cases r with
  | inl e => exact fun s' a b c => h s' a b (f.tr c)
  | inr x => exact fun s' o' z' a b c d e g => h s' o' z' a b (by omega) (fun q hq => (d q hq).trans (ho q hq)) e (f.tr g)
/-- what is known of the tokens -/
def TKK (cnt n c : Nat) (kd vl : Nat → Nat) : Prop := cnt ≤ 300 ∧ c < 4 ∧ (∀ i, kd i < 32) ∧ (∀ i, tk3 cnt kd 0 i ≠ 0 → i < cnt) ∧ (∀ i, tk3 cnt kd 0 i = 3 → tk3 cnt vl 0 i < 10) ∧ (∀ i, tk3 cnt vl 0 i ≤ 10000) ∧ n ≤ 300
theorem TKK.k {cnt n c : Nat} {kd vl : Nat → Nat} (h : TKK cnt n c kd vl) (i : Nat) : tk3 cnt kd 0 i < 32 := by
  unfold tk3
  split
  · exact h.2.2.1 i
  · decide
/-- a method of the reader, of mode m, at fuel f -/
def CM (P : xPT) (S cnt n : Nat) (kd vl pl t : Nat → Nat) (c f m id : Nat) : Prop := ∀ (d op i : Nat) (s : xS) (Q : xQ) (o : Nat → Nat) (z : Nat) (D : Dn) (C : Cd), 8 * (9 - op) + m + 6 ≤ d → op ≤ 8 → i ≤ cnt → z < i → 16 * (cnt + 1 - i) + m < f → RS s cnt kd vl i c → PG s 26 o z → TKs s cnt kd vl pl → TC s n t → CO Q s cnt n kd vl pl c z i o z (nd m op) (pE (tk3 cnt kd 0) (tk3 cnt vl 0) c f m op i D C) → P d (L0 S) id [.ref 25, .int (nI op)] s Q
/-- a loop of the reader, of level l -/
def CL (X : xXT) (S cnt n : Nat) (kd vl pl t : Nat → Nat) (c f l : Nat) (M : xM) (tl : Option Value → xLs) : Prop := ∀ (d op i it : Nat) (s : xS) (Q : xQ) (o : Nat → Nat) (z zb : Nat) (D : Dn) (C : Cd) (o3 : Option Value), 8 * (9 - op) + l + 5 ≤ d → op ≤ 8 → i ≤ cnt → it ≤ i → z < i → 16 * (cnt + 1 - i) < f → RS s cnt kd vl i c → PG s 26 o z → TKs s cnt kd vl pl → TC s n t → SG o zb z (nd l op) D → DA c D → GD l D C → TE (l - 1) (tk3 cnt kd 0 i) → CO Q s cnt n kd vl pl c zb i o z (nd l op) (pE (tk3 cnt kd 0) (tk3 cnt vl 0) c f (l + 10) op i D C) → X d M Q (L0 S) 7 (some (.ref 25) :: some (.int (nI op)) :: some (.int (nI it)) :: tl o3) [] s
theorem GD_up {m : Nat} {D : Dn} {C : Cd} (hm : m = 1 ∨ m = 2 ∨ m = 4 ∨ m = 5) (h : GD (m - 1) D C) : GD m D C := by
  by_cases z : m ≤ 2
  · exact GD_s z (h.1 (by omega)).1 (h.1 (by omega)).2
  · exact GD_b (by omega) (h.2 (by omega)).1 (h.2 (by omega)).2
theorem GD.di {m : Nat} {D : Dn} {C : Cd} (h : GD m D C) : DI D := by
  by_cases z : m ≤ 2
  · exact (h.1 z).1
  · exact DB_in (h.2 (by omega)).1
section LEVELS
variable {X : xXT} {P : xPT} {S cnt n c f : Nat} {kd vl pl t : Nat → Nat}
theorem C_loop1 (I : xRl X P) (hS : S ≤ 128) (hK : TKK cnt n c kd vl) (ihm : CM P S cnt n kd vl pl t c f 0 49) (ihl : CL X S cnt n kd vl pl t c f 1 mX5_readProduct (fun o3 => [o3])) : CL X S cnt n kd vl pl t c (f + 1) 1 mX5_readProduct (fun o3 => [o3]) := by
  intro d op i it s Q o z zb D C o3 hd hop hi hit hz hf hR hp hT hC hsg hda hgd hte h
  have e5 := hR.2.2.2.1
  have kb := hK.k i
  rw [pE_L (Or.inl rfl)] at h
  by_cases ho : lop 1 (tk3 cnt kd 0 i)
  · rw [if_pos ho] at h
    have ic := hK.2.2.2.1 i (by omega)
    have c3 := hK.1
    obtain ⟨d, rfl⟩ : ∃ d', d = d' + 13 := ⟨d - 13, by omega⟩
    have B : X (d + 13) mX5_readProduct Q (L0 S) 32 [some (.ref 25), some (.int (nI op)), some (.int (nI it)), o3] [] s := by
      refine rn I [7] 99 ?_
      refine m_advance I hS hT (i := i + 1) (c := c) (by omega) hR.1 hR.2.1 hR.adv hR.2.2.2.2.2 (fun s1 R1 f1 => ?_)
      refine ihm (d + 13) op (i + 1) s1 _ o z D C (by omega) hop (by omega) (by omega) (by omega) R1 (hp.r f1) (hT.j f1.j) (hC.j f1.j) ?_
      cases hr : pE (tk3 cnt kd 0) (tk3 cnt vl 0) c f 0 op (i + 1) D C with
      | inl e =>
        rw [hr] at h
        intro s2 F2 Z2 j2
        refine m_addF I hS F2 Z2 (fun s3 v F3 Z3 j3 => ?_)
        exact lf_product I F3 (h s3 F3 Z3 ((f1.j.tr j2).tr j3))
      | inr x =>
        rw [hr] at h
        obtain ⟨a1, a2, a3, a4, a5, a6⟩ := (pE_p hK.2.2.2.1 hK.2.2.2.2.1 f).1 0 op (i + 1) D C x.1 x.2.1 x.2.2 (by decide) hr
        have a2 := a2 ic
        intro s2 o2 z2 R2 p2 b1 b2 b3 j2
        refine m_add I hS p2 (by omega) (k := tk3 cnt kd 0 i) (v := 0) e5 rfl kb (by decide) (fun s3 p3 f3 => ?_)
        have on2 : ∀ q, q < z2 → on o2 z2 (tk3 cnt kd 0 i + 32 * 0) q = o2 q := fun q hq => on_n (by omega)
        have zz := b3.1
        have zy := hsg.1
        have q := ihl (d + 13) op x.1 (it + 1) s3 Q (on o2 z2 (tk3 cnt kd 0 i + 32 * 0)) (z2 + 1) zb (fun e => jz (tk3 cnt kd 0 i) (D e) (x.2.1 e)) (C ++ x.2.2 ++ [(opc (tk3 cnt kd 0 i), 0)]) (some (.int (s.1 25 5))) (by omega) hop (by omega) (by omega) (by omega) (by omega) (R2.D f3) p3 (hT.j ((f1.j.tr j2).tr f3.j)) (hC.j ((f1.j.tr j2).tr f3.j)) (SG.bin (hsg.cg (fun q h1 h2 => (on2 q (by omega)).trans (b2 q h2))) (b3.cg (fun q h1 h2 => on2 q h2)) (by rw [on_s]; rfl) (by omega) hgd.di a5.di (Nat.le_refl _) (by unfold nd; omega)) (DA_2 (g := jz (tk3 cnt kd 0 i)) hda a4) (GD_bin ho hgd a5) a6 (CO.step h ((f1.j.tr j2).tr f3.j) (fun q hq => (on2 q (by omega)).trans (b2 q (by omega))) (by omega))
        rw [n1s it] at q
        exact q
    refine rn I [32] 99 ?_
    refine xbr_t (zlt (by omega) (by decide)) ?_
    by_cases k1 : tk3 cnt kd 0 i = 18
    · exact xbr_t (by rw [e5, k1]) B
    · refine xbr_f (by rw [e5]; exact zne k1 (by omega) (by decide)) ?_
      exact xbr_t (by rw [e5, show tk3 cnt kd 0 i = 19 by omega]) B
  · rw [if_neg ho] at h
    have q := h s o z hR hp (by omega) (fun _ _ => rfl) hsg fJ.rf
    refine rn I [] 99 ?_
    refine xbr_c (fun _ => ?_) (fun _ => q)
    refine xbr_f (by rw [e5]; exact zne (by omega) (by omega) (by decide)) ?_
    exact xbr_f (by rw [e5]; exact zne (by omega) (by omega) (by decide)) q
theorem C_lev1 (I : xRl X P) (hS : S ≤ 128) (hK : TKK cnt n c kd vl) (ihm : CM P S cnt n kd vl pl t c f 0 49) (ihl : CL X S cnt n kd vl pl t c f 1 mX5_readProduct (fun o3 => [o3])) : CM P S cnt n kd vl pl t c (f + 1) 1 48 := by
  intro d op i s Q o z D C hd hop hi hz hf hR hp hT hC h
  rw [pE_l (Or.inl rfl)] at h
  obtain ⟨d, rfl⟩ : ∃ d', d = d' + 14 := ⟨d - 14, by omega⟩
  refine inX5_readProduct I (L0ok hS) ?_
  refine rn I [7] 99 ?_
  refine ihm (d + 13) op i s _ o z D C (by omega) hop hi hz (by omega) hR hp hT hC ?_
  cases hr : pE (tk3 cnt kd 0) (tk3 cnt vl 0) c f 0 op i D C with
  | inl e =>
    rw [hr] at h
    intro s2 F2 Z2 j2
    exact lf_product I F2 (h s2 F2 Z2 j2)
  | inr x =>
    rw [hr] at h
    obtain ⟨a1, a2, a3, a4, a5, a6⟩ := (pE_p hK.2.2.2.1 hK.2.2.2.2.1 f).1 0 op i D C x.1 x.2.1 x.2.2 (by decide) hr
    have a2 := a2 hi
    intro s2 o2 z2 R2 p2 b1 b2 b3 j2
    exact ihl (d + 13) op x.1 0 s2 Q o2 z2 z x.2.1 x.2.2 none (by omega) hop a2 (by omega) (by omega) (by omega) R2 p2 (hT.j j2) (hC.j j2) (b3.up (by unfold nd; omega)) a4 (GD_up (Or.inl rfl) a5) a6 (CO.step h j2 b2 (by omega))
theorem C_loop2 (I : xRl X P) (hS : S ≤ 128) (hK : TKK cnt n c kd vl) (ihm : CM P S cnt n kd vl pl t c f 1 48) (ihl : CL X S cnt n kd vl pl t c f 2 mX5_readSum (fun o3 => [o3])) : CL X S cnt n kd vl pl t c (f + 1) 2 mX5_readSum (fun o3 => [o3]) := by
  intro d op i it s Q o z zb D C o3 hd hop hi hit hz hf hR hp hT hC hsg hda hgd hte h
  have e5 := hR.2.2.2.1
  have kb := hK.k i
  rw [pE_L (Or.inr (Or.inl rfl))] at h
  by_cases ho : lop 2 (tk3 cnt kd 0 i)
  · rw [if_pos ho] at h
    have ic := hK.2.2.2.1 i (by omega)
    have c3 := hK.1
    obtain ⟨d, rfl⟩ : ∃ d', d = d' + 13 := ⟨d - 13, by omega⟩
    have B : X (d + 13) mX5_readSum Q (L0 S) 32 [some (.ref 25), some (.int (nI op)), some (.int (nI it)), o3] [] s := by
      refine rn I [7] 99 ?_
      refine m_advance I hS hT (i := i + 1) (c := c) (by omega) hR.1 hR.2.1 hR.adv hR.2.2.2.2.2 (fun s1 R1 f1 => ?_)
      refine ihm (d + 13) op (i + 1) s1 _ o z D C (by omega) hop (by omega) (by omega) (by omega) R1 (hp.r f1) (hT.j f1.j) (hC.j f1.j) ?_
      cases hr : pE (tk3 cnt kd 0) (tk3 cnt vl 0) c f 1 op (i + 1) D C with
      | inl e =>
        rw [hr] at h
        intro s2 F2 Z2 j2
        refine m_addF I hS F2 Z2 (fun s3 v F3 Z3 j3 => ?_)
        exact lf_sum I F3 (h s3 F3 Z3 ((f1.j.tr j2).tr j3))
      | inr x =>
        rw [hr] at h
        obtain ⟨a1, a2, a3, a4, a5, a6⟩ := (pE_p hK.2.2.2.1 hK.2.2.2.2.1 f).1 1 op (i + 1) D C x.1 x.2.1 x.2.2 (by decide) hr
        have a2 := a2 ic
        intro s2 o2 z2 R2 p2 b1 b2 b3 j2
        refine m_add I hS p2 (by omega) (k := tk3 cnt kd 0 i) (v := 0) e5 rfl kb (by decide) (fun s3 p3 f3 => ?_)
        have on2 : ∀ q, q < z2 → on o2 z2 (tk3 cnt kd 0 i + 32 * 0) q = o2 q := fun q hq => on_n (by omega)
        have zz := b3.1
        have zy := hsg.1
        have q := ihl (d + 13) op x.1 (it + 1) s3 Q (on o2 z2 (tk3 cnt kd 0 i + 32 * 0)) (z2 + 1) zb (fun e => jz (tk3 cnt kd 0 i) (D e) (x.2.1 e)) (C ++ x.2.2 ++ [(opc (tk3 cnt kd 0 i), 0)]) (some (.int (s.1 25 5))) (by omega) hop (by omega) (by omega) (by omega) (by omega) (R2.D f3) p3 (hT.j ((f1.j.tr j2).tr f3.j)) (hC.j ((f1.j.tr j2).tr f3.j)) (SG.bin (hsg.cg (fun q h1 h2 => (on2 q (by omega)).trans (b2 q h2))) (b3.cg (fun q h1 h2 => on2 q h2)) (by rw [on_s]; rfl) (by omega) hgd.di a5.di (Nat.le_refl _) (by unfold nd; omega)) (DA_2 (g := jz (tk3 cnt kd 0 i)) hda a4) (GD_bin ho hgd a5) a6 (CO.step h ((f1.j.tr j2).tr f3.j) (fun q hq => (on2 q (by omega)).trans (b2 q (by omega))) (by omega))
        rw [n1s it] at q
        exact q
    refine rn I [32] 99 ?_
    refine xbr_t (zlt (by omega) (by decide)) ?_
    by_cases k1 : tk3 cnt kd 0 i = 16
    · exact xbr_t (by rw [e5, k1]) B
    · refine xbr_f (by rw [e5]; exact zne k1 (by omega) (by decide)) ?_
      exact xbr_t (by rw [e5, show tk3 cnt kd 0 i = 17 by omega]) B
  · rw [if_neg ho] at h
    have q := h s o z hR hp (by omega) (fun _ _ => rfl) hsg fJ.rf
    refine rn I [] 99 ?_
    refine xbr_c (fun _ => ?_) (fun _ => q)
    refine xbr_f (by rw [e5]; exact zne (by omega) (by omega) (by decide)) ?_
    exact xbr_f (by rw [e5]; exact zne (by omega) (by omega) (by decide)) q
theorem C_lev2 (I : xRl X P) (hS : S ≤ 128) (hK : TKK cnt n c kd vl) (ihm : CM P S cnt n kd vl pl t c f 1 48) (ihl : CL X S cnt n kd vl pl t c f 2 mX5_readSum (fun o3 => [o3])) : CM P S cnt n kd vl pl t c (f + 1) 2 47 := by
  intro d op i s Q o z D C hd hop hi hz hf hR hp hT hC h
  rw [pE_l (Or.inr (Or.inl rfl))] at h
  obtain ⟨d, rfl⟩ : ∃ d', d = d' + 14 := ⟨d - 14, by omega⟩
  refine inX5_readSum I (L0ok hS) ?_
  refine rn I [7] 99 ?_
  refine ihm (d + 13) op i s _ o z D C (by omega) hop hi hz (by omega) hR hp hT hC ?_
  cases hr : pE (tk3 cnt kd 0) (tk3 cnt vl 0) c f 1 op i D C with
  | inl e =>
    rw [hr] at h
    intro s2 F2 Z2 j2
    exact lf_sum I F2 (h s2 F2 Z2 j2)
  | inr x =>
    rw [hr] at h
    obtain ⟨a1, a2, a3, a4, a5, a6⟩ := (pE_p hK.2.2.2.1 hK.2.2.2.2.1 f).1 1 op i D C x.1 x.2.1 x.2.2 (by decide) hr
    have a2 := a2 hi
    intro s2 o2 z2 R2 p2 b1 b2 b3 j2
    exact ihl (d + 13) op x.1 0 s2 Q o2 z2 z x.2.1 x.2.2 none (by omega) hop a2 (by omega) (by omega) (by omega) R2 p2 (hT.j j2) (hC.j j2) (b3.up (by unfold nd; omega)) a4 (GD_up (Or.inr (Or.inl rfl)) a5) a6 (CO.step h j2 b2 (by omega))
theorem C_loop4 (I : xRl X P) (hS : S ≤ 128) (hK : TKK cnt n c kd vl) (ihm : CM P S cnt n kd vl pl t c f 3 56) (ihl : CL X S cnt n kd vl pl t c f 4 mX5_readBoth (fun _ => [])) : CL X S cnt n kd vl pl t c (f + 1) 4 mX5_readBoth (fun _ => []) := by
  intro d op i it s Q o z zb D C o3 hd hop hi hit hz hf hR hp hT hC hsg hda hgd hte h
  have e5 := hR.2.2.2.1
  have kb := hK.k i
  rw [pE_L (Or.inr (Or.inr (Or.inl rfl)))] at h
  by_cases ho : lop 4 (tk3 cnt kd 0 i)
  · rw [if_pos ho] at h
    have ic := hK.2.2.2.1 i (by omega)
    have c3 := hK.1
    obtain ⟨d, rfl⟩ : ∃ d', d = d' + 13 := ⟨d - 13, by omega⟩
    have B : X (d + 13) mX5_readBoth Q (L0 S) 23 [some (.ref 25), some (.int (nI op)), some (.int (nI it))] [] s := by
      refine rn I [7] 99 ?_
      refine m_advance I hS hT (i := i + 1) (c := c) (by omega) hR.1 hR.2.1 hR.adv hR.2.2.2.2.2 (fun s1 R1 f1 => ?_)
      refine ihm (d + 13) op (i + 1) s1 _ o z D C (by omega) hop (by omega) (by omega) (by omega) R1 (hp.r f1) (hT.j f1.j) (hC.j f1.j) ?_
      cases hr : pE (tk3 cnt kd 0) (tk3 cnt vl 0) c f 3 op (i + 1) D C with
      | inl e =>
        rw [hr] at h
        intro s2 F2 Z2 j2
        refine m_addF I hS F2 Z2 (fun s3 v F3 Z3 j3 => ?_)
        exact lf_both I F3 (h s3 F3 Z3 ((f1.j.tr j2).tr j3))
      | inr x =>
        rw [hr] at h
        obtain ⟨a1, a2, a3, a4, a5, a6⟩ := (pE_p hK.2.2.2.1 hK.2.2.2.2.1 f).1 3 op (i + 1) D C x.1 x.2.1 x.2.2 (by decide) hr
        have a2 := a2 ic
        intro s2 o2 z2 R2 p2 b1 b2 b3 j2
        refine m_add I hS p2 (by omega) (k := tk3 cnt kd 0 i) (v := 0) (by rw [show tk3 cnt kd 0 i = 8 by omega]) rfl kb (by decide) (fun s3 p3 f3 => ?_)
        have on2 : ∀ q, q < z2 → on o2 z2 (tk3 cnt kd 0 i + 32 * 0) q = o2 q := fun q hq => on_n (by omega)
        have zz := b3.1
        have zy := hsg.1
        have q := ihl (d + 13) op x.1 (it + 1) s3 Q (on o2 z2 (tk3 cnt kd 0 i + 32 * 0)) (z2 + 1) zb (fun e => jz (tk3 cnt kd 0 i) (D e) (x.2.1 e)) (C ++ x.2.2 ++ [(opc (tk3 cnt kd 0 i), 0)]) (none) (by omega) hop (by omega) (by omega) (by omega) (by omega) (R2.D f3) p3 (hT.j ((f1.j.tr j2).tr f3.j)) (hC.j ((f1.j.tr j2).tr f3.j)) (SG.bin (hsg.cg (fun q h1 h2 => (on2 q (by omega)).trans (b2 q h2))) (b3.cg (fun q h1 h2 => on2 q h2)) (by rw [on_s]; rfl) (by omega) hgd.di a5.di (Nat.le_refl _) (by unfold nd; omega)) (DA_2 (g := jz (tk3 cnt kd 0 i)) hda a4) (GD_bin ho hgd a5) a6 (CO.step h ((f1.j.tr j2).tr f3.j) (fun q hq => (on2 q (by omega)).trans (b2 q (by omega))) (by omega))
        rw [n1s it] at q
        exact q
    refine rn I [23] 99 ?_
    refine xbr_t (zlt (by omega) (by decide)) ?_
    exact xbr_t (by rw [e5, show tk3 cnt kd 0 i = 8 by omega]) B
  · rw [if_neg ho] at h
    have q := h s o z hR hp (by omega) (fun _ _ => rfl) hsg fJ.rf
    refine rn I [] 99 ?_
    refine xbr_c (fun _ => ?_) (fun _ => q)
    exact xbr_f (by rw [e5]; exact zne (by omega) (by omega) (by decide)) q
theorem C_lev4 (I : xRl X P) (hS : S ≤ 128) (hK : TKK cnt n c kd vl) (ihm : CM P S cnt n kd vl pl t c f 3 56) (ihl : CL X S cnt n kd vl pl t c f 4 mX5_readBoth (fun _ => [])) : CM P S cnt n kd vl pl t c (f + 1) 4 55 := by
  intro d op i s Q o z D C hd hop hi hz hf hR hp hT hC h
  rw [pE_l (Or.inr (Or.inr (Or.inl rfl)))] at h
  obtain ⟨d, rfl⟩ : ∃ d', d = d' + 14 := ⟨d - 14, by omega⟩
  refine inX5_readBoth I (L0ok hS) ?_
  refine rn I [7] 99 ?_
  refine ihm (d + 13) op i s _ o z D C (by omega) hop hi hz (by omega) hR hp hT hC ?_
  cases hr : pE (tk3 cnt kd 0) (tk3 cnt vl 0) c f 3 op i D C with
  | inl e =>
    rw [hr] at h
    intro s2 F2 Z2 j2
    exact lf_both I F2 (h s2 F2 Z2 j2)
  | inr x =>
    rw [hr] at h
    obtain ⟨a1, a2, a3, a4, a5, a6⟩ := (pE_p hK.2.2.2.1 hK.2.2.2.2.1 f).1 3 op i D C x.1 x.2.1 x.2.2 (by decide) hr
    have a2 := a2 hi
    intro s2 o2 z2 R2 p2 b1 b2 b3 j2
    exact ihl (d + 13) op x.1 0 s2 Q o2 z2 z x.2.1 x.2.2 none (by omega) hop a2 (by omega) (by omega) (by omega) R2 p2 (hT.j j2) (hC.j j2) (b3.up (by unfold nd; omega)) a4 (GD_up (Or.inr (Or.inr (Or.inl rfl))) a5) a6 (CO.step h j2 b2 (by omega))
theorem C_loop5 (I : xRl X P) (hS : S ≤ 128) (hK : TKK cnt n c kd vl) (ihm : CM P S cnt n kd vl pl t c f 4 55) (ihl : CL X S cnt n kd vl pl t c f 5 mX5_readEither (fun _ => [])) : CL X S cnt n kd vl pl t c (f + 1) 5 mX5_readEither (fun _ => []) := by
  intro d op i it s Q o z zb D C o3 hd hop hi hit hz hf hR hp hT hC hsg hda hgd hte h
  have e5 := hR.2.2.2.1
  have kb := hK.k i
  rw [pE_L (Or.inr (Or.inr (Or.inr rfl)))] at h
  by_cases ho : lop 5 (tk3 cnt kd 0 i)
  · rw [if_pos ho] at h
    have ic := hK.2.2.2.1 i (by omega)
    have c3 := hK.1
    obtain ⟨d, rfl⟩ : ∃ d', d = d' + 13 := ⟨d - 13, by omega⟩
    have B : X (d + 13) mX5_readEither Q (L0 S) 23 [some (.ref 25), some (.int (nI op)), some (.int (nI it))] [] s := by
      refine rn I [7] 99 ?_
      refine m_advance I hS hT (i := i + 1) (c := c) (by omega) hR.1 hR.2.1 hR.adv hR.2.2.2.2.2 (fun s1 R1 f1 => ?_)
      refine ihm (d + 13) op (i + 1) s1 _ o z D C (by omega) hop (by omega) (by omega) (by omega) R1 (hp.r f1) (hT.j f1.j) (hC.j f1.j) ?_
      cases hr : pE (tk3 cnt kd 0) (tk3 cnt vl 0) c f 4 op (i + 1) D C with
      | inl e =>
        rw [hr] at h
        intro s2 F2 Z2 j2
        refine m_addF I hS F2 Z2 (fun s3 v F3 Z3 j3 => ?_)
        exact lf_either I F3 (h s3 F3 Z3 ((f1.j.tr j2).tr j3))
      | inr x =>
        rw [hr] at h
        obtain ⟨a1, a2, a3, a4, a5, a6⟩ := (pE_p hK.2.2.2.1 hK.2.2.2.2.1 f).1 4 op (i + 1) D C x.1 x.2.1 x.2.2 (by decide) hr
        have a2 := a2 ic
        intro s2 o2 z2 R2 p2 b1 b2 b3 j2
        refine m_add I hS p2 (by omega) (k := tk3 cnt kd 0 i) (v := 0) (by rw [show tk3 cnt kd 0 i = 7 by omega]) rfl kb (by decide) (fun s3 p3 f3 => ?_)
        have on2 : ∀ q, q < z2 → on o2 z2 (tk3 cnt kd 0 i + 32 * 0) q = o2 q := fun q hq => on_n (by omega)
        have zz := b3.1
        have zy := hsg.1
        have q := ihl (d + 13) op x.1 (it + 1) s3 Q (on o2 z2 (tk3 cnt kd 0 i + 32 * 0)) (z2 + 1) zb (fun e => jz (tk3 cnt kd 0 i) (D e) (x.2.1 e)) (C ++ x.2.2 ++ [(opc (tk3 cnt kd 0 i), 0)]) (none) (by omega) hop (by omega) (by omega) (by omega) (by omega) (R2.D f3) p3 (hT.j ((f1.j.tr j2).tr f3.j)) (hC.j ((f1.j.tr j2).tr f3.j)) (SG.bin (hsg.cg (fun q h1 h2 => (on2 q (by omega)).trans (b2 q h2))) (b3.cg (fun q h1 h2 => on2 q h2)) (by rw [on_s]; rfl) (by omega) hgd.di a5.di (Nat.le_refl _) (by unfold nd; omega)) (DA_2 (g := jz (tk3 cnt kd 0 i)) hda a4) (GD_bin ho hgd a5) a6 (CO.step h ((f1.j.tr j2).tr f3.j) (fun q hq => (on2 q (by omega)).trans (b2 q (by omega))) (by omega))
        rw [n1s it] at q
        exact q
    refine rn I [23] 99 ?_
    refine xbr_t (zlt (by omega) (by decide)) ?_
    exact xbr_t (by rw [e5, show tk3 cnt kd 0 i = 7 by omega]) B
  · rw [if_neg ho] at h
    have q := h s o z hR hp (by omega) (fun _ _ => rfl) hsg fJ.rf
    refine rn I [] 99 ?_
    refine xbr_c (fun _ => ?_) (fun _ => q)
    exact xbr_f (by rw [e5]; exact zne (by omega) (by omega) (by decide)) q
theorem C_lev5 (I : xRl X P) (hS : S ≤ 128) (hK : TKK cnt n c kd vl) (ihm : CM P S cnt n kd vl pl t c f 4 55) (ihl : CL X S cnt n kd vl pl t c f 5 mX5_readEither (fun _ => [])) : CM P S cnt n kd vl pl t c (f + 1) 5 54 := by
  intro d op i s Q o z D C hd hop hi hz hf hR hp hT hC h
  rw [pE_l (Or.inr (Or.inr (Or.inr rfl)))] at h
  obtain ⟨d, rfl⟩ : ∃ d', d = d' + 14 := ⟨d - 14, by omega⟩
  refine inX5_readEither I (L0ok hS) ?_
  refine rn I [7] 99 ?_
  refine ihm (d + 13) op i s _ o z D C (by omega) hop hi hz (by omega) hR hp hT hC ?_
  cases hr : pE (tk3 cnt kd 0) (tk3 cnt vl 0) c f 4 op i D C with
  | inl e =>
    rw [hr] at h
    intro s2 F2 Z2 j2
    exact lf_either I F2 (h s2 F2 Z2 j2)
  | inr x =>
    rw [hr] at h
    obtain ⟨a1, a2, a3, a4, a5, a6⟩ := (pE_p hK.2.2.2.1 hK.2.2.2.2.1 f).1 4 op i D C x.1 x.2.1 x.2.2 (by decide) hr
    have a2 := a2 hi
    intro s2 o2 z2 R2 p2 b1 b2 b3 j2
    exact ihl (d + 13) op x.1 0 s2 Q o2 z2 z x.2.1 x.2.2 none (by omega) hop a2 (by omega) (by omega) (by omega) R2 p2 (hT.j j2) (hC.j j2) (b3.up (by unfold nd; omega)) a4 (GD_up (Or.inr (Or.inr (Or.inr rfl))) a5) a6 (CO.step h j2 b2 (by omega))
end LEVELS
