/-! the methods that hand on; about -/
def abn (f : Nm) (ru : Int32) (n k : Nat) : Int32 := if k = 0 then nI (f 0 0) else if k = 1 then nI (f 0 1) else if k = 2 then nI (f 0 12) else if k = 3 then nI (f 0 15) else if k = 4 then ru else if k = 5 then nI (f 0 13) else if k = 6 then nI (f 0 14) else if k = 7 then nI n
  else if 10 ≤ k ∧ k < 10 + cc f then nI (f 1 (k - 10)) else if 30 ≤ k ∧ k < 30 + f 0 12 then nI (100 * f 2 (k - 30) + 10 * f 3 (k - 30) + f 4 (k - 30)) else if 40 ≤ k ∧ k < 40 + f 0 13 then nI (1000 * f 5 (k - 40) + 500 * f 6 (k - 40) + 10 * f 7 (k - 40) + f 8 (k - 40)) else -(nI 2)
def AB (f : Nm) (ru : Int32) (n : Nat) (x v : Int32) : Prop := (∃ k, k < 60 ∧ x = nI k ∧ v = abn f ru n k) ∨ ((∀ k, k < 60 → x ≠ nI k) ∧ v = -(nI 2))
theorem AB.eq {f : Nm} {ru : Int32} {n : Nat} {x v w : Int32} (h : AB f ru n x v) (k : AB f ru n x w) : v = w := by
  rcases h with ⟨a, ha, ea, rfl⟩ | ⟨ha, rfl⟩
  · rcases k with ⟨b, hb, eb, rfl⟩ | ⟨hb, rfl⟩
    · rw [zeq (by omega) (by omega) (ea.symm.trans eb)]
    · exact absurd ea (hb a ha)
  · rcases k with ⟨b, hb, eb, rfl⟩ | ⟨hb, rfl⟩
    · exact absurd eb (ha b hb)
    · rfl
theorem AB.c1 {f : Nm} {ru : Int32} {n : Nat} {x : Int32} {j : Nat} (hB : FB f) (hj : j < cc f) (e : x = nI (10 + j)) : AB f ru n x (nI (f 1 j)) := by
  have := hB.cc16
  refine Or.inl ⟨10 + j, by omega, e, ?_⟩
  unfold abn
  rw [if_neg (by omega), if_neg (by omega), if_neg (by omega), if_neg (by omega), if_neg (by omega), if_neg (by omega), if_neg (by omega), if_neg (by omega), if_pos (by omega), Nat.add_sub_cancel_left]
theorem AB.c2 {f : Nm} {ru : Int32} {n : Nat} {x : Int32} {j : Nat} (hB : FB f) (hj : j < f 0 12) (e : x = nI (30 + j)) : AB f ru n x (nI (100 * f 2 j + 10 * f 3 j + f 4 j)) := by
  have := hB.cc16
  have := hB.1.1
  refine Or.inl ⟨30 + j, by omega, e, ?_⟩
  unfold abn
  rw [if_neg (by omega), if_neg (by omega), if_neg (by omega), if_neg (by omega), if_neg (by omega), if_neg (by omega), if_neg (by omega), if_neg (by omega), if_neg (by omega), if_pos (by omega), Nat.add_sub_cancel_left]
theorem AB.c3 {f : Nm} {ru : Int32} {n : Nat} {x : Int32} {j : Nat} (hB : FB f) (hj : j < f 0 13) (e : x = nI (40 + j)) : AB f ru n x (nI (1000 * f 5 j + 500 * f 6 j + 10 * f 7 j + f 8 j)) := by
  have := hB.cc16
  have := hB.1.1
  have := hB.1.2.1
  refine Or.inl ⟨40 + j, by omega, e, ?_⟩
  unfold abn
  rw [if_neg (by omega), if_neg (by omega), if_neg (by omega), if_neg (by omega), if_neg (by omega), if_neg (by omega), if_neg (by omega), if_neg (by omega), if_neg (by omega), if_neg (by omega), if_pos (by omega), Nat.add_sub_cancel_left]
theorem AB.c0 {f : Nm} {ru : Int32} {n : Nat} {x : Int32} (hs : ∀ k, k < 8 → x ≠ nI k) (h1 : ∀ j, j < cc f → x ≠ nI (10 + j)) (h2 : ∀ j, j < f 0 12 → x ≠ nI (30 + j)) (h3 : ∀ j, j < f 0 13 → x ≠ nI (40 + j)) : AB f ru n x (-(nI 2)) := by
  by_cases h : ∃ k, k < 60 ∧ x = nI k
  · obtain ⟨k, hk, e⟩ := h
    have n8 : 8 ≤ k := Nat.le_of_not_lt (fun z => hs k z e)
    refine Or.inl ⟨k, hk, e, ?_⟩
    unfold abn
    rw [if_neg (by omega), if_neg (by omega), if_neg (by omega), if_neg (by omega), if_neg (by omega), if_neg (by omega), if_neg (by omega), if_neg (by omega), if_neg (fun z => h1 (k - 10) (by omega) (by rw [e]; congr 1; omega)), if_neg (fun z => h2 (k - 30) (by omega) (by rw [e]; congr 1; omega)), if_neg (fun z => h3 (k - 40) (by omega) (by rw [e]; congr 1; omega))]
  · exact Or.inr ⟨fun k hk e => h ⟨k, hk, e⟩, rfl⟩
theorem ne8 {x : Int32} (h0 : ¬ x = nI 0) (h1 : ¬ x = nI 1) (h2 : ¬ x = nI 2) (h3 : ¬ x = nI 3) (h4 : ¬ x = nI 4) (h5 : ¬ x = nI 5) (h6 : ¬ x = nI 6) (h7 : ¬ x = nI 7) : ∀ k, k < 8 → x ≠ nI k := by
  intro k hk
  match k, hk with
  | 0, _ => exact h0
  | 1, _ => exact h1
  | 2, _ => exact h2
  | 3, _ => exact h3
  | 4, _ => exact h4
  | 5, _ => exact h5
  | 6, _ => exact h6
  | 7, _ => exact h7
section WRAP
variable {X : xXT} {P : xPT} {d S : Nat} {s : xS} {Q : xQ} {f g : Nm} {ru rk : Int32} {n : Nat} {t : Nat → Nat}
theorem m_Hill (I : xRl X P) (hS : S ≤ 128) (hF : FC s.1 1 f ru) (hB : FB f) {c t : Int32} (h1 : ∀ j v, j < cc f → c = nI j → v < 10 → t = nI v → FQ s (nu f 1 j v) ru (some (.int (nI 1))) Q) (h0 : (¬ ∃ j v, j < cc f ∧ c = nI j ∧ v < 10 ∧ t = nI v) → Q (some (.int (nI 0))) s) : P (d + 3) (L0 S) 96 [.ref 0, .int c, .int t] s Q := by
  have hcc := hB.cc16
  refine inX10_hill I (L0ok hS) ?_
  refine rn I [] 99 ?_
  refine m_hasCell I hS hF hB (fun j hj ej => ?_) (fun hc => ?_)
  · refine xbr_f n10 ?_
    refine m_isDigit I hS (fun v hv ev => ?_) (fun hc => ?_)
    · refine xbr_f n10 ?_
      subst ev
      refine ⟨j, ⟨by omega, ej⟩, ?_⟩
      exact ⟨bo, h1 j v hj ej hv rfl _ (hF.put (j := 1) (x := j) (v := v) (by show j < 16; omega)) (fun k hk => xW_n (by omega)) rfl⟩
    · refine xbr_t rfl ?_
      exact ⟨bz, h0 (fun ⟨_, v, _, _, q1, q2⟩ => hc v q1 q2)⟩
  · refine xbr_t rfl ?_
    exact ⟨bz, h0 (fun ⟨j, _, q1, q2, _, _⟩ => hc j q1 q2)⟩
theorem m_Scope (I : xRl X P) (hS : S ≤ 128) (hF : FC s.1 1 f ru) (hB : FB f) {c : Int32} (h1 : ∀ j, j < cc f → c = nI j → f 0 12 < 8 → FQ s (plc f j) ru (some (.int (nI (f 0 12)))) Q) (h0 : ((∀ j, j < cc f → c ≠ nI j) ∨ f 0 12 = 8) → Q (some (.int (-(nI 1)))) s) : P (d + 4) (L0 S) 97 [.ref 0, .int c] s Q := by
  refine inX10_scope I (L0ok hS) ?_
  refine rn I [] 99 ?_
  exact m_place I hS hF hB h1 h0
theorem m_Turn (I : xRl X P) (hS : S ≤ 128) (hF : FC s.1 1 f ru) (hB : FB f) {v : Nat} (hv : v < 2) {c : Int32} (h1 : ∀ j, j < f 0 12 → c = nI j → f 3 j = v → Q (some (.int (nI 1))) s) (h2 : ∀ j, j < f 0 12 → c = nI j → f 3 j ≠ v → FQ s (adst (nu f 3 j v) j 0) ru (some (.int (nI 1))) Q) (h0 : (∀ j, j < f 0 12 → c ≠ nI j) → Q (some (.int (nI 0))) s) : P (d + 4) (L0 S) 98 [.ref 0, .int c, .int (nI v)] s Q := by
  refine inX10_turn I (L0ok hS) ?_
  refine rn I [] 99 ?_
  exact m_change I hS hF hB (l := 0) (by decide) hv (fun j a b c => ⟨bo, h1 j a b c⟩) (fun j a b c s' x y z => ⟨bo, h2 j a b c s' x y z⟩) (fun a => ⟨bz, h0 a⟩)
theorem m_Lend (I : xRl X P) (hS : S ≤ 128) (hF : FC s.1 1 f ru) (hB : FB f) {v : Nat} (hv : v < 2) {c : Int32} (h1 : ∀ j, j < f 0 12 → c = nI j → f 4 j = v → Q (some (.int (nI 1))) s) (h2 : ∀ j, j < f 0 12 → c = nI j → f 4 j ≠ v → FQ s (adst (nu f 4 j v) j 1) ru (some (.int (nI 1))) Q) (h0 : (∀ j, j < f 0 12 → c ≠ nI j) → Q (some (.int (nI 0))) s) : P (d + 4) (L0 S) 99 [.ref 0, .int c, .int (nI v)] s Q := by
  refine inX10_lend I (L0ok hS) ?_
  refine rn I [] 99 ?_
  exact m_change I hS hF hB (l := 1) (by decide) hv (fun j a b c => ⟨bo, h1 j a b c⟩) (fun j a b c s' x y z => ⟨bo, h2 j a b c s' x y z⟩) (fun a => ⟨bz, h0 a⟩)
theorem m_Undo (I : xRl X P) (hS : S ≤ 128) (hF : FC s.1 1 f ru) (hB : FB f) (h1 : 0 < f 0 14 → FQ s (undo1 f) ru (some (.int (nI (f 9 (f 0 14 - 1))))) Q) (h0 : f 0 14 = 0 → Q (some (.int (-(nI 1)))) s) : P (d + 2) (L0 S) 100 [.ref 0] s Q := by
  refine inX10_undo I (L0ok hS) ?_
  refine rn I [] 99 ?_
  exact m_stepBack I hS hF hB h1 h0
theorem m_Report (I : xRl X P) (hS : S ≤ 128) (hF : FC s.1 1 f ru) (hB : FB f) {c hr te : Int32} (h1 : ∀ j h t, j < f 0 12 → f 4 j = 0 → c = nI j → h < 24 → hr = nI h → t < 10 → te = nI t → f 0 13 < 10 → FQ s (wrt f j h t) ru (some (.int (nI (f 0 13 + 1)))) Q) (h0 : ¬ okw f c hr te → Q (some (.int (-(nI 1)))) s) : P (d + 4) (L0 S) 108 [.ref 0, .int c, .int hr, .int te] s Q := by
  refine inX10_report I (L0ok hS) ?_
  refine rn I [] 99 ?_
  exact m_write I hS hF hB h1 h0
theorem m_Forget (I : xRl X P) (hS : S ≤ 128) (hF : FC s.1 1 f ru) (h : FQ s (nu f 0 13 0) ru (some (.int (nI (f 0 13)))) Q) : P (d + 1) (L0 S) 109 [.ref 0] s Q := by
  have e : s.1 1 13 = nI (f 0 13) := hF.2.1 13 (by omega)
  refine inX10_forget I (L0ok hS) ?_
  refine rn I [] 99 ?_
  show Q (some (.int (s.1 1 13))) (xW s 1 13 (nI 0))
  rw [e]
  exact h _ (hF.fld (by decide) (by decide)) (fun k hk => xW_n (by omega)) rfl
theorem m_By (I : xRl X P) (hS : S ≤ 128) (hF : FC s.1 1 f ru) (hB : FB f) {c : Int32} (h1 : (c = -(nI 1) ∨ ∃ j, j < f 0 15 ∧ c = nI j) → FQ s f c (some (.int (nI 1))) Q) (h0 : ¬ (c = -(nI 1) ∨ ∃ j, j < f 0 15 ∧ c = nI j) → Q (some (.int (nI 0))) s) : P (d + 2) (L0 S) 105 [.ref 0, .int c] s Q := by
  have k : (c = -(nI 1) ∨ ∃ j, j < f 0 15 ∧ c = nI j) → Q (some (.int (nI 1))) (xW s 1 16 c) := fun z => h1 z _ (hF.rul c) (fun k hk => xW_n (by omega)) rfl
  refine inX10_by I (L0ok hS) ?_
  refine rn I [] 99 ?_
  refine xbr_c (fun hc => ?_) (fun hc => ?_)
  · exact ⟨bo, k (Or.inl hc)⟩
  · refine m_hasText I hS hF hB (fun j hj ej => ?_) (fun hn => ?_)
    · refine xbr_f n10 ?_
      exact ⟨bo, k (Or.inr ⟨j, hj, ej⟩)⟩
    · refine xbr_t rfl ?_
      exact ⟨bz, h0 (fun z => z.elim hc (fun ⟨j, a, b⟩ => hn j a b))⟩
def FT (x a b v : Int32) : Prop := (x = nI 0 ∧ v = a) ∨ (x = nI 1 ∧ v = b) ∨ (¬ x = nI 0 ∧ ¬ x = nI 1 ∧ v = -(nI 1))
theorem FT.eq {x a b v w : Int32} (h : FT x a b v) (k : FT x a b w) : v = w := by
  rcases h with ⟨h1, h2⟩ | ⟨h1, h2⟩ | ⟨h1, h2, h3⟩ <;> rcases k with ⟨k1, k2⟩ | ⟨k1, k2⟩ | ⟨k1, k2, k3⟩
  · rw [h2, k2]
  · exact absurd (h1.symm.trans k1) n01
  · exact absurd h1 k1
  · exact absurd (k1.symm.trans h1) n01
  · rw [h2, k2]
  · exact absurd h1 k2
  · exact absurd k1 h1
  · exact absurd k1 h2
  · rw [h3, k3]
theorem m_Fault (I : xRl X P) (hS : S ≤ 128) {x : Int32} (h : ∀ v, FT x (s.1 25 1) (s.1 25 2) v → Q (some (.int v)) s) : P (d + 1) (L0 S) 104 [.ref 0, .int x] s Q := by
  refine inX10_fault I (L0ok hS) ?_
  refine rn I [] 99 ?_
  refine xbr_c (fun hc => ?_) (fun hc => xbr_c (fun hc2 => ?_) (fun hc2 => ?_))
  · exact h _ (Or.inl ⟨hc, rfl⟩)
  · exact h _ (Or.inr (Or.inl ⟨hc2, rfl⟩))
  · exact h _ (Or.inr (Or.inr ⟨hc, hc2, rfl⟩))
theorem q_fault (I : xRl X P) (hS : S ≤ 128) {x : Int32} (h : ∀ v, FT x (s.1 79 7) (s.1 79 8) v → Q (some (.int v)) s) : P (d + 1) (L0 S) 175 [.ref 79, .int x] s Q := by
  refine inX11_fault I (L0ok hS) ?_
  refine rn I [] 99 ?_
  refine xbr_c (fun hc => ?_) (fun hc => xbr_c (fun hc2 => ?_) (fun hc2 => ?_))
  · exact h _ (Or.inl ⟨hc, rfl⟩)
  · exact h _ (Or.inr (Or.inl ⟨hc2, rfl⟩))
  · exact h _ (Or.inr (Or.inr ⟨hc, hc2, rfl⟩))
theorem m_Image (I : xRl X P) (hS : S ≤ 128) (hF : FC s.1 1 f ru) (hB : FB f) (hG : FC s.1 12 g rk) (hw : g 0 0 = f 0 0 ∧ g 0 1 = f 0 1) (h : ∀ s' : xS, (∀ q, (q < 12 ∨ 22 < q) → s'.1 q = s.1 q) → FC s'.1 12 f ru → s'.2 = s.2 → Q (some (.int (nI (f 0 13)))) s') : P (d + 3) (L0 S) 118 [.ref 0] s Q := by
  have e : s.1 1 13 = nI (f 0 13) := hF.2.1 13 (by omega)
  refine inX10_image I (L0ok hS) ?_
  refine rn I [] 99 ?_
  refine m_copyImage I hS hF hB hG hw (fun s' g1 g2 g3 => ?_)
  have k := h s' g1 g2 g3
  rw [← e, ← g1 1 (by omega)] at k
  exact k
theorem m_Back (I : xRl X P) (hS : S ≤ 128) (hF : FC s.1 1 f ru) (hB : FB g) (hG : FC s.1 12 g rk) (hw : f 0 0 = g 0 0 ∧ f 0 1 = g 0 1) (h : ∀ s' : xS, (∀ q, (q < 1 ∨ 11 < q) → s'.1 q = s.1 q) → FC s'.1 1 g rk → s'.2 = s.2 → Q (some (.int (nI (g 0 13)))) s') : P (d + 3) (L0 S) 119 [.ref 0] s Q := by
  refine inX10_back I (L0ok hS) ?_
  refine rn I [] 99 ?_
  refine m_copyBack I hS hG hB hF hw (fun s' g1 g2 g3 => ?_)
  have k := h s' g1 g2 g3
  rw [← g2.2.1 13 (by omega)] at k
  exact k
theorem m_About (I : xRl X P) (hS : S ≤ 128) (hF : FC s.1 1 f ru) (hB : FB f) (hT : TC s n t) {x : Int32} (h : ∀ v, AB f ru n x v → Q (some (.int v)) s) : P (d + 4) (L0 S) 120 [.ref 0, .int x] s Q := by
  refine inX10_about I (L0ok hS) ?_
  refine rn I [] 99 ?_
  refine xbr_c (fun c0 => ?_) (fun c0 => xbr_c (fun c1 => ?_) (fun c1 => xbr_c (fun c2 => ?_) (fun c2 => xbr_c (fun c3 => ?_) (fun c3 => xbr_c (fun c4 => ?_) (fun c4 => xbr_c (fun c5 => ?_) (fun c5 => xbr_c (fun c6 => ?_) (fun c6 => xbr_c (fun c7 => ?_) (fun c7 => ?_))))))))
  · exact h _ (Or.inl ⟨0, by decide, c0, hF.2.1 0 (by omega)⟩)
  · exact h _ (Or.inl ⟨1, by decide, c1, hF.2.1 1 (by omega)⟩)
  · exact h _ (Or.inl ⟨2, by decide, c2, hF.2.1 12 (by omega)⟩)
  · exact h _ (Or.inl ⟨3, by decide, c3, hF.2.1 15 (by omega)⟩)
  · exact h _ (Or.inl ⟨4, by decide, c4, hF.2.2⟩)
  · exact h _ (Or.inl ⟨5, by decide, c5, hF.2.1 13 (by omega)⟩)
  · exact h _ (Or.inl ⟨6, by decide, c6, hF.2.1 14 (by omega)⟩)
  · exact h _ (Or.inl ⟨7, by decide, c7, hT.1⟩)
  · exact m_tellOne I hS hF hB (fun j hj e => h _ (AB.c1 hB hj e)) (fun j hj e => h _ (AB.c2 hB hj e)) (fun j hj e => h _ (AB.c3 hB hj e)) (fun a b c => h _ (AB.c0 (ne8 c0 c1 c2 c3 c4 c5 c6 c7) a b c))
theorem q_turn (I : xRl X P) (hS : S ≤ 128) (hA : FA (s.1 80) f ru) (hB : FB f) {v : Nat} (hv : v < 2) {c : Int32} (h1 : ∀ j, j < f 0 12 → c = nI j → f 3 j = v → Q (some (.int (nI 1))) s) (h2 : ∀ j, j < f 0 12 → c = nI j → f 3 j ≠ v → AQ s (adst (nu f 3 j v) j 0) ru (some (.int (nI 1))) Q) (h0 : (∀ j, j < f 0 12 → c ≠ nI j) → Q (some (.int (nI 0))) s) : P (d + 4) (L0 S) 139 [.ref 79, .int c, .int (nI v)] s Q := by
  refine inX11_turn I (L0ok hS) ?_
  refine rn I [] 99 ?_
  exact q_make I hS hA hB (l := 0) (by decide) hv (fun j a b c => ⟨bo, h1 j a b c⟩) (fun j a b c s' x y z => ⟨bo, h2 j a b c s' x y z⟩) (fun a => ⟨bz, h0 a⟩)
theorem q_lend (I : xRl X P) (hS : S ≤ 128) (hA : FA (s.1 80) f ru) (hB : FB f) {v : Nat} (hv : v < 2) {c : Int32} (h1 : ∀ j, j < f 0 12 → c = nI j → f 4 j = v → Q (some (.int (nI 1))) s) (h2 : ∀ j, j < f 0 12 → c = nI j → f 4 j ≠ v → AQ s (adst (nu f 4 j v) j 1) ru (some (.int (nI 1))) Q) (h0 : (∀ j, j < f 0 12 → c ≠ nI j) → Q (some (.int (nI 0))) s) : P (d + 4) (L0 S) 140 [.ref 79, .int c, .int (nI v)] s Q := by
  refine inX11_lend I (L0ok hS) ?_
  refine rn I [] 99 ?_
  exact q_make I hS hA hB (l := 1) (by decide) hv (fun j a b c => ⟨bo, h1 j a b c⟩) (fun j a b c s' x y z => ⟨bo, h2 j a b c s' x y z⟩) (fun a => ⟨bz, h0 a⟩)
/-- a number between a and a + n - 1, or not -/
theorem rn1 {x : Int32} {a n : Nat} (ha : 1 ≤ a) (han : a + n < 2 ^ 30) (h1 : ¬ x < nI a) (h2 : ¬ nI (a - 1) + nI n < x) : ∃ j, j < n ∧ x = nI (a + j) := by
  obtain ⟨m, hm, rfl⟩ := nI_of (x := x) (fun z => h1 (Int32.lt_of_lt_of_le z (by rw [← nI_0]; exact Int32.not_lt.mp (zn0 (by omega)))))
  rw [nad] at h2
  have g1 := zge hm (by omega) h1
  have g2 := zge (by omega) (by omega) h2
  exact ⟨m - a, by omega, by congr 1; omega⟩
theorem rn2 {x : Int32} {a n : Nat} (han : a + n < 2 ^ 30) (ha : 1 ≤ a) (h : x < nI a ∨ nI (a - 1) + nI n < x) : ∀ j, j < n → x ≠ nI (a + j) := by
  intro j hj e
  subst e
  rcases h with h | h
  · have := zlt' (by omega) (by omega) h
    omega
  · rw [nad] at h
    have := zlt' (by omega) (by omega) h
    omega
theorem q_about (I : xRl X P) (hS : S ≤ 128) (hA : FA (s.1 80) f ru) (hW : MW s f) (hB : FB f) (hT : TM s n t) {x : Int32} (h : ∀ v, AB f ru n x v → Q (some (.int v)) s) : P (d + 2) (L0 S) 214 [.ref 79, .int x] s Q := by
  have hcc := hB.cc16
  have hn := hB.1.1
  have hn2 := hB.1.2.1
  have e1 : s.1 79 2 * s.1 79 3 = nI (cc f) := by rw [hW.1, hW.2, nml]; rfl
  refine inX11_about I (L0ok hS) ?_
  refine rn I [] 199 ?_
  refine q_isIn I hS (fun a1 a2 => ?_) (fun a => ?_)
  · rw [e1] at a2
    obtain ⟨j, hj, rfl⟩ := rn1 (a := 10) (by decide) (by omega) a1 a2
    refine xbr_f n10 ?_
    have g : s.1 80 (10 + j) = nI (f 1 j) := hA.1 1 j (by decide) (by show j < 16; omega)
    refine ⟨10 + j, ⟨by omega, by rw [nad, nsb (by omega)]; congr 1; omega⟩, ?_⟩
    have k := h _ (AB.c1 hB hj rfl)
    rw [← g] at k
    exact k
  rw [e1] at a
  have A1 := rn2 (a := 10) (by omega) (by decide) a
  refine xbr_t rfl ?_
  refine ⟨0, ⟨by decide, rfl⟩, ?_⟩
  refine q_isIn I hS (fun a1 a2 => ?_) (fun a => ?_)
  · rw [hA.2.2.1] at a2
    obtain ⟨j, hj, rfl⟩ := rn1 (a := 30) (by decide) (by omega) a1 a2
    have hj8 : j < 8 := by omega
    have sb : nI (30 + j) - nI 30 = nI j := sub_e' rfl
    refine xbr_f n10 ?_
    refine q_scopeAt I hS (j := j) sb ?_
    refine ⟨30 + 3 * j, ⟨by omega, rfl⟩, ?_⟩
    refine q_scopeAt I hS (j := j) sb ?_
    refine ⟨31 + 3 * j, ⟨by omega, by rw [nad]; congr 1; omega⟩, ?_⟩
    refine q_scopeAt I hS (j := j) sb ?_
    refine ⟨32 + 3 * j, ⟨by omega, by rw [nad]; congr 1; omega⟩, ?_⟩
    have g2 : s.1 80 (30 + 3 * j) = nI (f 2 j) := hA.1 2 j (by decide) hj8
    have g3 : s.1 80 (31 + 3 * j) = nI (f 3 j) := hA.1 3 j (by decide) hj8
    have g4 : s.1 80 (32 + 3 * j) = nI (f 4 j) := hA.1 4 j (by decide) hj8
    have k := h _ (AB.c2 hB hj rfl)
    rw [← nad, ← nad, ← nml, ← nml, ← g2, ← g3, ← g4] at k
    exact k
  rw [hA.2.2.1] at a
  have A2 := rn2 (a := 30) (by omega) (by decide) a
  refine xbr_t rfl ?_
  refine ⟨3, ⟨by decide, rfl⟩, ?_⟩
  refine q_isIn I hS (fun a1 a2 => ?_) (fun a => ?_)
  · rw [hA.2.2.2.2.2.1] at a2
    obtain ⟨j, hj, rfl⟩ := rn1 (a := 40) (by decide) (by omega) a1 a2
    have hj10 : j < 10 := by omega
    have sb : nI 60 + nI 4 * (nI (40 + j) - nI 40) = nI (60 + 4 * j) := by rw [sub_e' rfl, nml, nad]
    refine xbr_f n10 ?_
    refine ⟨60 + 4 * j, ⟨by omega, sb⟩, ?_⟩
    refine ⟨61 + 4 * j, ⟨by omega, by rw [sb, nad]; congr 1; omega⟩, ?_⟩
    refine ⟨62 + 4 * j, ⟨by omega, by rw [sb, nad]; congr 1; omega⟩, ?_⟩
    refine ⟨63 + 4 * j, ⟨by omega, by rw [sb, nad]; congr 1; omega⟩, ?_⟩
    have g5 : s.1 80 (60 + 4 * j) = nI (f 5 j) := hA.1 5 j (by decide) hj10
    have g6 : s.1 80 (61 + 4 * j) = nI (f 6 j) := hA.1 6 j (by decide) hj10
    have g7 : s.1 80 (62 + 4 * j) = nI (f 7 j) := hA.1 7 j (by decide) hj10
    have g8 : s.1 80 (63 + 4 * j) = nI (f 8 j) := hA.1 8 j (by decide) hj10
    have k := h _ (AB.c3 hB hj rfl)
    rw [← nad, ← nad, ← nad, ← nml, ← nml, ← nml, ← g5, ← g6, ← g7, ← g8] at k
    exact k
  rw [hA.2.2.2.2.2.1] at a
  have A3 := rn2 (a := 40) (by omega) (by decide) a
  refine xbr_t rfl ?_
  refine xbr_c (fun c0 => ?_) (fun c0 => xbr_c (fun c1 => ?_) (fun c1 => xbr_c (fun c2 => ?_) (fun c2 => xbr_c (fun c3 => ?_) (fun c3 => xbr_c (fun c4 => ?_) (fun c4 => xbr_c (fun c5 => ?_) (fun c5 => xbr_c (fun c6 => ?_) (fun c6 => xbr_c (fun c7 => ?_) (fun c7 => ?_))))))))
  · exact h _ (Or.inl ⟨0, by decide, c0, hW.1⟩)
  · exact h _ (Or.inl ⟨1, by decide, c1, hW.2⟩)
  · exact ⟨0, ⟨by decide, rfl⟩, h _ (Or.inl ⟨2, by decide, c2, hA.2.2.1⟩)⟩
  · exact ⟨1, ⟨by decide, rfl⟩, h _ (Or.inl ⟨3, by decide, c3, hA.2.2.2.1⟩)⟩
  · exact ⟨2, ⟨by decide, rfl⟩, h _ (Or.inl ⟨4, by decide, c4, hA.2.2.2.2.1⟩)⟩
  · exact ⟨3, ⟨by decide, rfl⟩, h _ (Or.inl ⟨5, by decide, c5, hA.2.2.2.2.2.1⟩)⟩
  · exact ⟨4, ⟨by decide, rfl⟩, h _ (Or.inl ⟨6, by decide, c6, hA.2.2.2.2.2.2⟩)⟩
  · exact h _ (Or.inl ⟨7, by decide, c7, hT.1⟩)
  · exact h _ (AB.c0 (ne8 c0 c1 c2 c3 c4 c5 c6 c7) A1 A2 A3)
end WRAP
