/-! what holds at the law's entry, as the small machines need it -/
section ENT
variable {s : State} {args : Array Value}
theorem en_cls (hts : ∀ w ∈ xWs, w.before args s = true) : ∃ (D1 : Nat → ClassId) (D2 : Nat → Nat → Nat), ∀ a, a < 10 → u_Kn s (xC a) (xTb a) (xN a) (D1 a) (D2 a) := by
  have hin : ∀ a, a < 10 → Cond.instantiable (xC a) (xN a) ∈ ynwL.flatMap ynww := by decide +kernel
  have h0 : ∀ a : Nat, ∃ q : ClassId × (Nat → Nat), a < 10 → u_Kn s (xC a) (xTb a) (xN a) q.1 q.2 := by
    intro a
    by_cases ha : a < 10
    · obtain ⟨cC, iS, h⟩ := u_known hts (xlay_of ha) (hts _ (ynw_in _ (hin a ha)))
      exact ⟨(cC, iS), fun _ => h⟩
    · exact ⟨(0, fun _ => 0), fun h => absurd h ha⟩
  exact ⟨fun a => (Classical.choose (h0 a)).1, fun a => (Classical.choose (h0 a)).2, fun a ha => Classical.choose_spec (h0 a) ha⟩
theorem en_arr {ty : FieldType} (h : (Cond.arrayClass ty).before args s = true) : ∃ cA, ArrOfT s cA ty ∧ s.vm.findClass ("[" ++ ty.toString) = some cA := by
  obtain ⟨c, k, comp, h1, h2, h3⟩ := Cond.arrayClass_spec h
  exact ⟨c, fun n z => ⟨fun k h => (by cases h), k, h2, comp, h3⟩, h1⟩
def en_cA (a b c d e : ClassId) : Nat → ClassId := fun k => match k with
  | 100 => a
  | 101 => b
  | 102 => c
  | 103 => d
  | _ => e
theorem en_K (hts : ∀ w ∈ xWs, w.before args s = true) (h6 : va_AO "WrongEnd$Program" s) (h7 : va_AOA .int s) : ∃ (D1 : Nat → ClassId) (D2 : Nat → Nat → Nat) (cA : Nat → ClassId), va_K (D1, D2) vwCl (xty cA) s := by
  obtain ⟨D1, D2, hD⟩ := en_cls hts
  obtain ⟨c0, a0, f0⟩ := en_arr (hts _ (yar_w (Cond.arrayClass .int) (by simp)))
  obtain ⟨c1, a1, f1⟩ := en_arr (hts _ (yar_w (Cond.arrayClass .boolean) (by simp)))
  obtain ⟨c2, a2, f2⟩ := en_arr (hts _ (yar_w (Cond.arrayClass .long) (by simp)))
  obtain ⟨comp, c3, k3, p1, p2, p3, p4, p5⟩ := Cond.arrayOver_spec h6
  obtain ⟨comp4, c4, k4, q1, q2, q3, q4, q5⟩ := xAOA_spec h7
  refine ⟨D1, D2, en_cA c0 c1 c2 c3 c4, fun c q hq => ?_, fun k q hk => ?_⟩
  · have hc : c < 10 := (List.getElem?_eq_some_iff.mp hq).1
    rw [xN_cl c hc] at hq
    cases hq
    exact hD c hc
  · match k, hk with
    | 0, hk => cases hk; exact ⟨a0, f0⟩
    | 1, hk => cases hk; exact ⟨a1, f1⟩
    | 2, hk => cases hk; exact ⟨a2, f2⟩
    | 3, hk => cases hk; exact ⟨fun n z => ⟨fun k h => (by cases h), k3, p3, comp, p4⟩, k3, comp, p3, p4, p1, p5⟩
    | 4, hk => cases hk; exact ⟨fun n z => ⟨fun k h => (by cases h), k4, q3, comp4, q4⟩, q5⟩
    | n + 5, hk => cases hk
def en_ad (b t : Nat) (K V : Nat → Nat) : Nat → Nat := fun k => match k with
  | 900 => b
  | 902 => t
  | 903 => K 0
  | 904 => K 1
  | 905 => V 0
  | 906 => V 1
  | _ => 0
def en_tm (i : Nat) : Term := match i with
  | 0 => .string "WrongEnd$Tokens" 71
  | _ => .string "WrongEnd$Tokens" 87
theorem en_02 {i : Nat} (h : i < 2) : i = 0 ∨ i = 1 := by omega
theorem en_S {A : Nat → Prop} {b t : Nat} {K V : Nat → Nat} {H : Heap} (h : vk_S 2 [86, 13] xby K V A s H) : vk_S 2 [86, 13] xby (fun i => en_ad b t K V (903 + i)) (fun i => en_ad b t K V (905 + i)) A s H := by
  refine ⟨fun i hi => ?_, fun i j hi hj e => ?_⟩
  · rcases en_02 hi with rfl | rfl
    · exact h.1 0 (by decide)
    · exact h.1 1 (by decide)
  · rcases en_02 hi with rfl | rfl <;> rcases en_02 hj with rfl | rfl
    · rfl
    · exact h.2 0 1 (by decide) (by decide) e
    · exact h.2 1 0 (by decide) (by decide) e
    · rfl
set_option maxRecDepth 100000 in
theorem en_gv : (∀ i, i < 2 → Cond.exactly (en_tm i) "java/lang/String" ∈ flatC (Jvm.Cond.and given_1 narrow_1) ∧ Cond.eq (.field (en_tm i) "java/lang/String" "coder" "B") (.int 0) ∈ flatC (Jvm.Cond.and given_1 narrow_1) ∧ Cond.arrayOf (.field (en_tm i) "java/lang/String" "value" "[B") .byte ∈ flatC (Jvm.Cond.and given_1 narrow_1) ∧ Cond.eq (.length (.field (en_tm i) "java/lang/String" "value" "[B")) (.int (Int32.ofNat (([86, 13] : List Nat).getD i 0))) ∈ flatC (Jvm.Cond.and given_1 narrow_1)) := by decide +kernel
set_option maxRecDepth 100000 in
theorem en_el : ∀ i, i < 2 → ∀ j, j < ([86, 13] : List Nat).getD i 0 → Cond.eq (.elem (.field (en_tm i) "java/lang/String" "value" "[B") (.int (Int32.ofNat j))) (.int ((xby.getD i []).getD j 0)) ∈ flatC (Jvm.Cond.and given_1 narrow_1) := by decide +kernel
set_option maxRecDepth 100000 in
theorem en_mo : ∀ j, j < 4 → Cond.eq (.elem (.static "WrongEnd$Optics" "MOST" "[I") (.int (Int32.ofNat j))) (.int (xmost j)) ∈ flatC (Jvm.Cond.and given_1 narrow_1) := by decide +kernel
theorem en_Ks {b L : Nat} {xs : Nat → Int32} (hts : ∀ w ∈ lw_tbl, w.before args s = true) (hX : va_X b L xs s s.heap) (hbl : b < s.heap.size) (hL : L ≤ 3074) (hgv : (Jvm.Cond.and given_1 narrow_1).before args s = true) : ∃ (E : xE) (ad : Nat → Nat), E.2.2.2.1 = L ∧ E.2.2.2.2 = xs ∧ ad 900 = b ∧ xKs E ad (fun q => s.heap.size ≤ q) s s.heap := by
  have hs := flat_of_before _ hgv
  have htx : ∀ w ∈ xWs, w.before args s = true := fun w hw => hts w (List.mem_filter.mp hw).1
  have hA : ∀ a : Nat, a < s.heap.size → ¬ s.heap.size ≤ a := fun a h => by omega
  have n1 : va_Nw (.methodLinkNest "WrongEnd" 32 yX8_init "WrongEnd") s := va_Nw.of rfl (hts (.methodLinkNest "WrongEnd" 32 yX8_init "WrongEnd") (by decide +kernel))
  have n2 : va_Nw (.methodLinkNest "WrongEnd$Optics" 20 yX1_init "WrongEnd") s := va_Nw.of rfl (hts (.methodLinkNest "WrongEnd$Optics" 20 yX1_init "WrongEnd") (by decide +kernel))
  have n3 : va_Nw (.methodLinkNest "WrongEnd$Fort" 89 yX10_isHour "WrongEnd") s := va_Nw.of rfl (hts (.methodLinkNest "WrongEnd$Fort" 89 yX10_isHour "WrongEnd") (by decide +kernel))
  have n4 : va_Nw (.methodLinkNest "WrongEnd$Fort" 92 yX10_isDigit "WrongEnd") s := va_Nw.of rfl (hts (.methodLinkNest "WrongEnd$Fort" 92 yX10_isDigit "WrongEnd") (by decide +kernel))
  have n5 : va_Nw (.methodLinkNest "WrongEnd$Scales" 77 yX10_oneMore "WrongEnd") s := va_Nw.of rfl (hts (.methodLinkNest "WrongEnd$Scales" 77 yX10_oneMore "WrongEnd") (by decide +kernel))
  have n6 : va_AO "WrongEnd$Program" s := va_AO.of (hts (.arrayOver (.object "WrongEnd$Program")) (by decide +kernel))
  have n7 : va_AOA .int s := hts (.arrayOver (.array .int)) (by decide +kernel)
  obtain ⟨D1, D2, cA, hK⟩ := en_K htx n6 n7
  obtain ⟨t, ht, hT⟩ := va_Tof (A := fun q => s.heap.size ≤ q) (tm := .static "WrongEnd$Optics" "MOST" "[I") (ty := .int) (N := 4) (f := fun j => .int (xmost j)) (by decide) (hs _ (by decide +kernel)) (va_eqt (hs (.eq (.length (.static "WrongEnd$Optics" "MOST" "[I")) (.int (Int32.ofNat 4))) (by decide +kernel))) (fun j hj => va_eqt (hs _ (en_mo j hj))) hA
  obtain ⟨K, V, hS, hKe⟩ := vk_Sof (args := args) (s := s) (N := 2) (tm := en_tm) (len := [86, 13]) (byt := xby) (A := fun q => s.heap.size ≤ q) (by decide +kernel) (fun i hi => hs _ (en_gv i hi).1) (fun i hi => hs _ (en_gv i hi).2.1) (fun i hi => hs _ (en_gv i hi).2.2.1) (fun i hi => hs _ (en_gv i hi).2.2.2) (fun i hi j hj => hs _ (en_el i hi j hj)) (fun i j hi hj e => by
    rcases en_02 hi with rfl | rfl <;> rcases en_02 hj with rfl | rfl
    · exact absurd rfl e
    · exact Or.inl (hs _ (by decide +kernel))
    · exact Or.inr (hs _ (by decide +kernel))
    · exact absurd rfl e) hA
  refine ⟨(D1, D2, cA, L, xs), en_ad b t K V, rfl, rfl, rfl, hK, ⟨hX, hbl, hA b hbl, by show L < 2 ^ 31; omega⟩, ⟨va_Zof (hts (.laysStatic "WrongEnd$Optics" "MOST" "[I") (by decide +kernel)) (hts (.initialized "WrongEnd$Optics") (by decide +kernel)) ht hA, hT⟩, va_Zof (hts (.laysStatic "java/lang/String" "COMPACT_STRINGS" "Z") (by decide +kernel)) (hts (.initialized "java/lang/String") (by decide +kernel)) (va_eqt (hs (.eq (.static "java/lang/String" "COMPACT_STRINGS" "Z") (.int 1)) (by decide +kernel))) hA, va_Zqof (hts (.laysStatic "jdk/internal/util/Preconditions" "SIOOBE_FORMATTER" "Ljava/util/function/BiFunction;") (by decide +kernel)) (hts (.initialized "jdk/internal/util/Preconditions") (by decide +kernel)) (hs _ (by decide +kernel)) hA, ⟨?_, ?_⟩, en_S hS, n1, n2, n3, n4, n5, n6, n7⟩
  · exact vk_R.of (hts (.stringRef "WrongEnd$Tokens" 71 xwords) (by decide +kernel)) (hKe 0 (by decide))
  · exact vk_R.of (hts (.stringRef "WrongEnd$Tokens" 87 xmarks) (by decide +kernel)) (hKe 1 (by decide))
end ENT
