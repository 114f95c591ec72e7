/-! the law up to its loop -/
theorem xln_r {i j : Nat} (h : i < xln j) : 1 ≤ j ∧ j ≤ 10 := by
  by_cases h1 : 1 ≤ j ∧ j ≤ 10
  · exact h1
  · exfalso
    have : xln j = 0 := by
      unfold xln
      split <;> first | omega | rfl
    omega
theorem g_cell1 {X : xXT} {P : xPT} {d S : Nat} {s : xS} {Q : xQ} {N k : Nat} {sc : Nat → Int32} (I : xRl X P) (hS : S ≤ 128) (e1 : s.1 900 = sc) (e2 : s.1 901 0 = nI N) (hN : N ≤ 3074) (hk : k ≤ 1) (h : Q (some (.int (if k < N then sc k else nI 0))) s) : P (d + 1) (LE_Whole_0 S) 216 [.ref 900, .int (nI k)] s Q := by
  refine inL_cell I (yLk_e rfl) ?_
  refine rn I [] 99 ?_
  by_cases c : k < N
  · rw [if_pos c] at h
    refine xbr_t (by rw [e2]; exact zlt c (by omega)) ?_
    refine ⟨k, ⟨by rw [e2]; exact zlt c (by omega), by omega, rfl⟩, ?_⟩
    have e : Q (some (.int (s.1 900 k))) s := by rw [e1]; exact h
    exact e
  · rw [if_neg c] at h
    refine xbr_f (fun z => c ?_) ?_
    · rw [e2, jn, jn, ji_lt (by unfold Sm; omega) (by unfold Sm; omega)] at z
      omega
    · exact h
theorem g_cell2 {X : xXT} {P : xPT} {d S : Nat} {s : xS} {Q : xQ} {N k : Nat} {sc : Nat → Int32} (I : xRl X P) (hS : S ≤ 128) (e1 : s.1 900 = sc) (e2 : s.1 901 0 = nI N) (hN : N ≤ 3074) (hk : k ≤ 1) (h : Q (some (.int (if k < N then sc k else nI 0))) s) : P (d + 1) (LE_Model_79 S) 216 [.ref 900, .int (nI k)] s Q := by
  refine inL_cell I (LE_Model_ok hS) ?_
  refine rn I [] 99 ?_
  by_cases c : k < N
  · rw [if_pos c] at h
    refine xbr_t (by rw [e2]; exact zlt c (by omega)) ?_
    refine ⟨k, ⟨by rw [e2]; exact zlt c (by omega), by omega, rfl⟩, ?_⟩
    have e : Q (some (.int (s.1 900 k))) s := by rw [e1]; exact h
    exact e
  · rw [if_neg c] at h
    refine xbr_f (fun z => c ?_) ?_
    · rw [e2, jn, jn, ji_lt (by unfold Sm; omega) (by unfold Sm; omega)] at z
      omega
    · exact h
def f0 (w h : Nat) : Nm := fun j i => match j, i with
  | 0, 0 => w
  | 0, 1 => h
  | _, _ => 0
theorem f0_z {w h j i : Nat} (hj : 1 ≤ j) : f0 w h j i = 0 := by
  match j, hj with
  | j + 1, _ => rfl
theorem f0_FB {w h : Nat} (h1 : 1 ≤ w ∧ w ≤ 4) (h2 : 1 ≤ h ∧ h ≤ 4) : FB (f0 w h) := by
  refine ⟨⟨by show (0 : Nat) ≤ 8; decide, by show (0 : Nat) ≤ 10; decide, by show (0 : Nat) ≤ 20; decide, by show (0 : Nat) ≤ 4; decide⟩, fun j i hi => ?_, h1.1, h1.2, h2.1, h2.2⟩
  have hj := xln_r hi
  rw [f0_z hj.1]
  have : 1 ≤ cc (f0 w h) := Nat.mul_le_mul h1.1 h2.1
  unfold xbd
  split <;> omega
theorem FC_0 {s : xS} {b w h : Nat} (z : ∀ i, 1 ≤ i → i ≤ 10 → s.1 (b + i) = fun _ => nI 0) (e0 : s.1 b 0 = nI w) (e1 : s.1 b 1 = nI h) (e12 : s.1 b 12 = nI 0) (e13 : s.1 b 13 = nI 0) (e14 : s.1 b 14 = nI 0) (e15 : s.1 b 15 = nI 0) (e16 : s.1 b 16 = -(nI 1)) : FC s.1 b (f0 w h) (-(nI 1)) := by
  refine ⟨fun j i hi => ?_, fun i hi => ?_, e16⟩
  · have hj := xln_r hi
    rw [z j hj.1 hj.2, f0_z hj.1]
  · rcases (show i = 0 ∨ i = 1 ∨ i = 12 ∨ i = 13 ∨ i = 14 ∨ i = 15 by omega) with rfl | rfl | rfl | rfl | rfl | rfl
    · exact e0
    · exact e1
    · exact e12
    · exact e13
    · exact e14
    · exact e15
theorem FA_0 {a : Nat → Int32} {w h : Nat} (e2 : a 2 = -(nI 1)) (z : ∀ j, j < 145 → j ≠ 2 → a j = nI 0) : FA a (f0 w h) (-(nI 1)) := by
  refine ⟨fun j i _ hi => ?_, fun i hi _ => absurd hi (Nat.not_lt_zero i), z 0 (by decide) (by decide), z 1 (by decide) (by decide), e2, z 3 (by decide) (by decide), z 4 (by decide) (by decide)⟩
  have hp := pos_ge hi
  rw [z _ hp.2 (by omega), f0_z (xln_r hi).1]
set_option maxRecDepth 20000 in
theorem law_mk {X : xXT} {P : xPT} {Y : yXT} {C : yPT} {d N : Nat} {sc : Nat → Int32} {s : xS} {Z : yQ} {Q : xQ} (I : yRl X P Y C) (hN : N ≤ 3074) (e1 : s.1 900 = sc) (e2 : s.1 901 0 = nI N) (hk : ∀ (S : Nat) (s' : xS), S ≤ 128 → LI S N sc s' → Y (d + 99) mL_st Z Q 600000 7302250 38 [some (.ref 900), some (.ref 0), some (.ref 79), some (.int (nI 2))] [] (L0 S) s' 2002 80038) : Y (d + 99) mL_st Z Q 600000 7302250 0 [some (.ref 900), none, none, none] [] [] s 0 0 := by
  obtain ⟨w, hw⟩ := yw_ex (if 0 < N then sc 0 else nI 0)
  obtain ⟨h, hh⟩ := yw_ex (if 1 < N then sc 1 else nI 0)
  obtain ⟨w1, w4, -⟩ := id hw
  obtain ⟨h1, h4, -⟩ := id hh
  have hwh : w * h ≤ 16 := Nat.mul_le_mul w4 h4
  have hS : 8 * (w * h) ≤ 128 := by omega
  refine ry I [38] 99 ?_
  refine ⟨0, rfl, ⟨by decide, by decide⟩, ?_⟩
  refine g_cell1 (S := 0) I.1 (by decide) ((xZr_1 (by decide)).trans e1) ((congrFun (xZr_1 (by decide)) 0).trans e2) hN (by decide) ?_
  refine g_cell1 (S := 0) I.1 (by decide) ((xZr_1 (by decide)).trans e1) ((congrFun (xZr_1 (by decide)) 0).trans e2) hN (by decide) ?_
  refine ⟨⟨by decide, by decide⟩, i_Whole_0 (S := 8 * (w * h)) I hS hw hh rfl (fun s1 k1 => ?_)⟩
  have e1' : s1.1 900 = sc := (k1.1 900 (by omega)).trans ((xZr_1 (by decide)).trans e1)
  have e2' : s1.1 901 0 = nI N := by rw [k1.1 901 (by omega)]; exact (congrFun (xZr_1 (by decide)) 0).trans e2
  refine ⟨79, rfl, ⟨by decide, by decide⟩, ?_⟩
  refine g_cell2 I.1 hS ((xZr_1 (by decide)).trans e1') ((congrFun (xZr_1 (by decide)) 0).trans e2') hN (by decide) ?_
  refine g_cell2 I.1 hS ((xZr_1 (by decide)).trans e1') ((congrFun (xZr_1 (by decide)) 0).trans e2') hN (by decide) ?_
  refine ⟨⟨by decide, by decide⟩, i_Model_79 (S := 8 * (w * h)) I hS hw hh xZr_s (fun s2 k2 => ?_)⟩
  refine hk (8 * (w * h)) s2 hS ?_
  have G : ∀ q, (q < 79 ∨ 90 < q) → s2.1 q = s1.1 q := fun q hq => (k2.1 q hq).trans (xZr_1 (by omega))
  obtain ⟨-, m2, m3, m7, m8, m6, m802, m80, m81, m85⟩ := k2
  obtain ⟨-, a1, a2, a3, a4, a5, a6, a7, a8, b1, b2, b3, b4, b5, b6, b7, b8, t1, r1, r2, p53, n57, c59⟩ := k1
  refine ⟨(G 900 (by omega)).trans e1', by rw [G 901 (by omega)]; exact e2', f0 w h, -(nI 1), f0 w h, -(nI 1), 0, fun _ => 0, fun _ _ => none, ⟨?_, ?_, ?_, ?_⟩, ⟨f0_FB ⟨w1, w4⟩ ⟨h1, h4⟩, f0_FB ⟨w1, w4⟩ ⟨h1, h4⟩, ⟨rfl, rfl⟩, Nat.le_refl _, Or.inl rfl, Or.inl rfl⟩, ⟨⟨by rw [G 23 (by omega)]; exact t1, fun i hi => by omega⟩, ⟨m6, fun i hi => by omega⟩, by decide, fun i hi => by omega⟩, ⟨by rw [G 25 (by omega), m7]; exact r1, by rw [G 25 (by omega), m8]; exact r2⟩, ⟨by rw [G 59 (by omega)]; exact c59, rfl, m2, m3⟩, ⟨⟨fun c hc => by rw [G 53 (by omega)]; exact p53 c hc, fun t ht => absurd ht (Nat.not_lt_zero t)⟩, fun t ht => absurd ht (Nat.not_lt_zero t)⟩, ⟨fun _ => 0, fun k _ => by rw [G 57 (by omega), n57], fun k _ => Nat.zero_le _⟩, ⟨fun _ => 0, fun k _ => by rw [m85], fun k _ => Nat.zero_le _⟩⟩
  · exact FC_0 (fun i i1 i2 => by rw [G _ (by omega)]; exact a1 i i1 i2) (by rw [G 1 (by omega)]; exact a2) (by rw [G 1 (by omega)]; exact a3) (by rw [G 1 (by omega)]; exact a4) (by rw [G 1 (by omega)]; exact a5) (by rw [G 1 (by omega)]; exact a6) (by rw [G 1 (by omega)]; exact a7) (by rw [G 1 (by omega)]; exact a8)
  · exact FC_0 (fun i i1 i2 => by rw [G _ (by omega)]; exact b1 i i1 i2) (by rw [G 12 (by omega)]; exact b2) (by rw [G 12 (by omega)]; exact b3) (by rw [G 12 (by omega)]; exact b4) (by rw [G 12 (by omega)]; exact b5) (by rw [G 12 (by omega)]; exact b6) (by rw [G 12 (by omega)]; exact b7) (by rw [G 12 (by omega)]; exact b8)
  · exact FA_0 m802 (fun j _ hj => m80 j hj)
  · exact FA_0 (by rw [m81 2 (by decide)]; exact m802) (fun j h1 hj => by rw [m81 j h1]; exact m80 j hj)
