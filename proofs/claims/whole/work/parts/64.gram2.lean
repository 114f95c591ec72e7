/-! what the grammar's answers are: they go on, are bounded, and come to what the reference's code comes to -/
section GRAM2
variable {K V : Nat → Nat} {c cnt : Nat}
theorem GD_s {m : Nat} {D : Dn} {C : Cd} (hm : m ≤ 2) (a : DI D) (b : MG C D) : GD m D C := ⟨fun _ => ⟨a, b⟩, fun z => by omega⟩
theorem GD_b {m : Nat} {D : Dn} {C : Cd} (hm : 3 ≤ m) (a : DB D) (b : MB C D) : GD m D C := ⟨fun z => by omega, fun _ => ⟨a, b⟩⟩
theorem TE_0 {k : Nat} : TE 0 k := ⟨fun z => by omega, fun z => by omega, fun z => by omega, fun z => by omega⟩
theorem GD_bin {l k : Nat} {D D2 : Dn} {C C2 : Cd} (hl : lop l k) (h1 : GD l D C) (h2 : GD (l - 1) D2 C2) : GD l (fun e => jz k (D e) (D2 e)) (C ++ C2 ++ [(opc k, 0)]) := by
  by_cases h16 : 16 ≤ k
  · have l2 : l ≤ 2 := by omega
    obtain ⟨a1, a2⟩ := h1.1 l2
    obtain ⟨b1, b2⟩ := h2.1 (by omega)
    have e1 : opc k = 3 + (k - 16) := by unfold opc; rw [if_pos h16]; omega
    have e2 : (fun e => jz k (D e) (D2 e)) = fun e => op2 (k - 16) (D e) (D2 e) := by
      funext e
      unfold jz
      rw [if_pos h16]
    rw [e1, e2]
    exact GD_s l2 (fun e he => op2_in (a1 e he)) (MG.bin (by omega) a2 b2 a1 b1)
  · rcases (show (l = 4 ∧ k = 8) ∨ (l = 5 ∧ k = 7) by omega) with ⟨rfl, rfl⟩ | ⟨rfl, rfl⟩
    · obtain ⟨a1, a2⟩ := h1.2 (by decide)
      obtain ⟨b1, b2⟩ := h2.2 (by decide)
      exact GD_b (by decide) (fun e => b1if) (MB.and a2 b2 a1 b1)
    · obtain ⟨a1, a2⟩ := h1.2 (by decide)
      obtain ⟨b1, b2⟩ := h2.2 (by decide)
      exact GD_b (by decide) (fun e => b1if) (MB.or a2 b2 a1 b1)
theorem DA_2 {g : Int → Int → Int} {D D2 : Dn} (h1 : DA c D) (h2 : DA c D2) : DA c (fun e => g (D e) (D2 e)) := fun e e' h => by
  show g (D e) (D2 e) = g (D e') (D2 e')
  rw [h1 e e' h, h2 e e' h]
theorem DA_1 {g : Int → Int} {D : Dn} (h1 : DA c D) : DA c (fun e => g (D e)) := fun e e' h => by
  show g (D e) = g (D e')
  rw [h1 e e' h]
theorem TE_x {l k : Nat} (hl : l = 1 ∨ l = 2 ∨ l = 4 ∨ l = 5) (h : TE (l - 1) k) (hn : ¬ lop l k) : TE l k := by
  obtain ⟨h1, h2, h3, h4⟩ := h
  rcases hl with rfl | rfl | rfl | rfl
  · exact ⟨fun _ => by omega, fun z => by omega, fun z => by omega, fun z => by omega⟩
  · have := h1 (by decide)
    exact ⟨fun _ => this, fun z => by omega, fun z => by omega, fun z => by omega⟩
  · have a := h1 (by decide)
    have b := h2 (by decide)
    exact ⟨fun _ => a, fun _ => b, fun z => by omega, fun z => by omega⟩
  · have a := h1 (by decide)
    have b := h2 (by decide)
    have e := h3 (by decide)
    exact ⟨fun _ => a, fun _ => b, fun _ => e, fun z => by omega⟩
theorem TE_23 {k : Nat} (h : TE 2 k) : TE 3 k := ⟨fun _ => h.1 (by decide), fun _ => h.2.1 (by decide), fun z => by omega, fun z => by omega⟩
theorem pE_p (hK : ∀ i, K i ≠ 0 → i < cnt) (h3 : ∀ i, K i = 3 → V i < 10) : ∀ f, (∀ m op i D C j D' C', m ≤ 5 → pE K V c f m op i D C = .inr (j, D', C') → OKr cnt c m i K j D' C') ∧ (∀ l op i D C j D' C', (l = 1 ∨ l = 2 ∨ l = 4 ∨ l = 5) → DA c D → GD l D C → TE (l - 1) (K i) → pE K V c f (l + 10) op i D C = .inr (j, D', C') → i ≤ j ∧ (i ≤ cnt → j ≤ cnt) ∧ C'.length ≤ C.length + (j - i) ∧ DA c D' ∧ GD l D' C' ∧ TE l (K j)) := by
  intro f
  induction f with
  | zero => exact ⟨fun m op i D C j D' C' hm h => (by cases h), fun l op i D C j D' C' hl h1 h2 h3 h => by cases h⟩
  | succ f ih =>
    obtain ⟨ih, ihl⟩ := ih
    refine ⟨fun m op i D C j D' C' hm h => ?_, fun l op i D C j D' C' hl g1 g2 g3 h => ?_⟩
    · rcases (show m = 0 ∨ m = 3 ∨ (m = 1 ∨ m = 2 ∨ m = 4 ∨ m = 5) by omega) with rfl | rfl | hl
      · rw [pE_0] at h
        by_cases k2 : K i = 2
        · have := hK i (by omega)
          rw [if_pos k2] at h
          split at h
          · cases h
          · cases h
            exact ⟨by omega, fun _ => by omega, by show 1 ≤ i + 1 - i; omega, fun _ _ _ => rfl, GD_s (by decide) (DI_num (by omega)) (MG.num (by omega)), TE_0⟩
        rw [if_neg k2] at h
        by_cases k3 : K i = 3
        · have := hK i (by omega)
          have v3 := h3 i k3
          rw [if_pos k3] at h
          split at h
          · rename_i hal
            cases h
            exact ⟨by omega, fun _ => by omega, by show 1 ≤ i + 1 - i; omega, fun e e' he => by
              show ((e (V i) : Nat) : Int) = ((e' (V i) : Nat) : Int)
              rw [he (V i) v3 hal], GD_s (by decide) (DI_nam v3) (MG.nam v3), TE_0⟩
          · cases h
        rw [if_neg k3] at h
        by_cases k20 : K i = 20
        · have := hK i (by omega)
          rw [if_pos k20] at h
          split at h
          · obtain ⟨j1, D1, C1, e1, e2⟩ := pB_inr h
            obtain ⟨a1, a2, a3, a4, a5, a6⟩ := ih 2 _ _ _ _ _ _ _ (by decide) e1
            by_cases kj : K j1 = 21
            · have := hK j1 (by omega)
              rw [if_pos kj] at e2
              cases e2
              exact ⟨by omega, fun _ => by omega, by omega, a4, GD_s (by decide) (a5.1 (by decide)).1 (a5.1 (by decide)).2, TE_0⟩
            · rw [if_neg kj] at e2
              cases e2
          · cases h
        rw [if_neg k20] at h
        by_cases k17 : K i = 17
        · have := hK i (by omega)
          rw [if_pos k17] at h
          split at h
          · obtain ⟨j1, D1, C1, e1, e2⟩ := pB_inr h
            obtain ⟨a1, a2, a3, a4, a5, a6⟩ := ih 0 _ _ _ _ _ _ _ (by decide) e1
            cases e2
            exact ⟨by omega, fun _ => a2 (by omega), by rw [List.length_append]; show C1.length + 1 ≤ _; omega, DA_1 (g := fun x => -x) a4, GD_s (by decide) (DI_neg (a5.1 (by decide)).1) (MG.neg (a5.1 (by decide)).2), TE_0⟩
          · cases h
        rw [if_neg k17] at h
        by_cases k5 : K i = 5
        · have := hK i (by omega)
          rw [if_pos k5] at h
          split at h
          · obtain ⟨j1, D1, C1, e1, e2⟩ := pB_inr h
            obtain ⟨a1, a2, a3, a4, a5, a6⟩ := ih 5 _ _ _ _ _ _ _ (by decide) e1
            by_cases kj : K j1 = 23
            · have := hK j1 (by omega)
              rw [if_pos kj] at e2
              obtain ⟨j2, D2, C2, e3, e4⟩ := pB_inr e2
              obtain ⟨b1, b2, b3, b4, b5, b6⟩ := ih 2 _ _ _ _ _ _ _ (by decide) e3
              by_cases kk : K j2 = 24
              · have := hK j2 (by omega)
                rw [if_pos kk] at e4
                obtain ⟨j3, D3, C3, e5, e6⟩ := pB_inr e4
                obtain ⟨c1, c2, c3, c4, c5, c6⟩ := ih 2 _ _ _ _ _ _ _ (by decide) e5
                by_cases kw : K j3 = 6
                · have := hK j3 (by omega)
                  rw [if_pos kw] at e6
                  cases e6
                  refine ⟨by omega, fun _ => by omega, ?_, fun e e' he => ?_, GD_s (by decide) (fun e he => ?_) (MG.ite (a5.2 (by decide)).2 (b5.1 (by decide)).2 (c5.1 (by decide)).2 (a5.2 (by decide)).1), TE_0⟩
                  · rw [List.length_append, List.length_append, List.length_append]
                    show C1.length + C2.length + C3.length + 1 ≤ _
                    omega
                  · show (if D1 e = 0 then D3 e else D2 e) = (if D1 e' = 0 then D3 e' else D2 e')
                    rw [a4 e e' he, b4 e e' he, c4 e e' he]
                  · show In (if D1 e = 0 then D3 e else D2 e)
                    split
                    · exact (c5.1 (by decide)).1 e he
                    · exact (b5.1 (by decide)).1 e he
                · rw [if_neg kw] at e6
                  cases e6
              · rw [if_neg kk] at e4
                cases e4
            · rw [if_neg kj] at e2
              cases e2
          · cases h
        rw [if_neg k5] at h
        cases h
      · rw [pE_3] at h
        by_cases k9 : K i = 9
        · have := hK i (by omega)
          rw [if_pos k9] at h
          split at h
          · obtain ⟨j1, D1, C1, e1, e2⟩ := pB_inr h
            obtain ⟨a1, a2, a3, a4, a5, a6⟩ := ih 3 _ _ _ _ _ _ _ (by decide) e1
            cases e2
            exact ⟨by omega, fun _ => a2 (by omega), by rw [List.length_append]; show C1.length + 1 ≤ _; omega, DA_1 (g := fun x => 1 - x) a4, GD_b (by decide) (DB_not (a5.2 (by decide)).1) (MB.nt (a5.2 (by decide)).2 (a5.2 (by decide)).1), a6⟩
          · cases h
        · rw [if_neg k9] at h
          obtain ⟨j1, D1, C1, e1, e2⟩ := pB_inr h
          obtain ⟨a1, a2, a3, a4, a5, a6⟩ := ih 2 _ _ _ _ _ _ _ (by decide) e1
          by_cases kj : 10 ≤ K j1 ∧ K j1 < 16
          · have := hK j1 (by omega)
            rw [if_pos kj] at e2
            obtain ⟨j2, D2, C2, e3, e4⟩ := pB_inr e2
            obtain ⟨b1, b2, b3, b4, b5, b6⟩ := ih 2 _ _ _ _ _ _ _ (by decide) e3
            cases e4
            refine ⟨by omega, fun _ => b2 (by omega), ?_, DA_2 (g := cmz (K j1)) a4 b4, GD_b (by decide) (fun e => cmz_b _ _ _) (MB.cmp kj.1 kj.2 (a5.1 (by decide)).2 (b5.1 (by decide)).2 (a5.1 (by decide)).1 (b5.1 (by decide)).1), TE_23 b6⟩
            rw [List.length_append, List.length_append]
            show C1.length + C2.length + 1 ≤ _
            omega
          · rw [if_neg kj] at e2
            cases e2
      · rw [pE_l hl] at h
        obtain ⟨j1, D1, C1, e1, e2⟩ := pB_inr h
        obtain ⟨a1, a2, a3, a4, a5, a6⟩ := ih (m - 1) _ _ _ _ _ _ _ (by omega) e1
        have gd : GD m D1 C1 := by
          by_cases z : m ≤ 2
          · exact GD_s z (a5.1 (by omega)).1 (a5.1 (by omega)).2
          · exact GD_b (by omega) (a5.2 (by omega)).1 (a5.2 (by omega)).2
        obtain ⟨b1, b2, b3, b4, b5, b6⟩ := ihl m _ _ _ _ _ _ _ hl a4 gd a6 e2
        exact ⟨by omega, fun z => b2 (a2 z), by omega, b4, b5, b6⟩
    · rw [pE_L hl] at h
      by_cases ho : lop l (K i)
      · have := hK i (by omega)
        rw [if_pos ho] at h
        obtain ⟨j1, D1, C1, e1, e2⟩ := pB_inr h
        obtain ⟨a1, a2, a3, a4, a5, a6⟩ := ih (l - 1) _ _ _ _ _ _ _ (by omega) e1
        obtain ⟨b1, b2, b3, b4, b5, b6⟩ := ihl l _ _ _ _ _ _ _ hl (DA_2 (g := jz (K i)) g1 a4) (GD_bin ho g2 a5) a6 e2
        refine ⟨by omega, fun _ => b2 (a2 (by omega)), ?_, b4, b5, b6⟩
        rw [List.length_append, List.length_append] at b3
        have b3 : C'.length ≤ C.length + C1.length + 1 + (j - j1) := b3
        omega
      · rw [if_neg ho] at h
        cases h
        exact ⟨Nat.le_refl _, fun z => z, by omega, g1, g2, TE_x hl g3 ho⟩
end GRAM2
