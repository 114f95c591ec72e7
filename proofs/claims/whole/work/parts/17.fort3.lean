/-! the class's fort: steps back, reports, what is told of it, copies -/
section FORT3
variable {X : xXT} {P : xPT} {d S : Nat} {s : xS} {Q : xQ} {f g : Nm} {ru rk : Int32}
def undo1 (f : Nm) : Nm := nu (nu f 0 14 (f 0 14 - 1)) (3 + f 10 (f 0 14 - 1)) (f 9 (f 0 14 - 1)) (1 - f (3 + f 10 (f 0 14 - 1)) (f 9 (f 0 14 - 1)))
theorem m_stepBack (I : xRl X P) (hS : S ≤ 128) (hF : FC s.1 1 f ru) (hB : FB f) (h1 : 0 < f 0 14 → FQ s (undo1 f) ru (some (.int (nI (f 9 (f 0 14 - 1))))) Q) (h0 : f 0 14 = 0 → Q (some (.int (-(nI 1)))) s) : P (d + 1) (L0 S) 15 [.ref 1] s Q := by
  have hn := hB.1.2.2.1
  have e : s.1 1 14 = nI (f 0 14) := hF.2.1 14 (by omega)
  refine inX0_stepBack I (L0ok hS) ?_
  refine rn I [] 99 ?_
  by_cases h14 : f 0 14 = 0
  · refine xbr_f (by rw [e, h14]; exact znl (by decide) (by decide)) ?_
    exact h0 h14
  · refine xbr_t (by rw [e]; exact zlt (by omega) (by omega)) ?_
    have hF1 := hF.fld (x := 14) (v := f 0 14 - 1) (by decide) (by decide)
    have hm : f 0 14 - 1 < 20 := by omega
    have em : s.1 1 14 - nI 1 = nI (f 0 14 - 1) := by rw [e]; exact nsb (by omega)
    have e9 : s.1 10 (f 0 14 - 1) = nI (f 9 (f 0 14 - 1)) := hF.1 9 _ hm
    have e10 : s.1 11 (f 0 14 - 1) = nI (f 10 (f 0 14 - 1)) := hF.1 10 _ hm
    have b9 : f 9 (f 0 14 - 1) < 8 := hB.2.1 9 _ hm
    have b10 : f 10 (f 0 14 - 1) < 2 := hB.2.1 10 _ hm
    have h1 := h1 (by omega)
    unfold undo1 at h1
    refine ⟨f 0 14 - 1, ⟨hm, em⟩, ?_⟩
    refine ⟨f 0 14 - 1, ⟨hm, em⟩, ?_⟩
    generalize f 9 (f 0 14 - 1) = j at *
    generalize hl : f 10 (f 0 14 - 1) = l at *
    rcases (show l = 0 ∨ l = 1 by omega) with rfl | rfl
    · refine xbr_t (by show s.1 11 _ = nI 0; exact e10) ?_
      refine ⟨j, ⟨b9, e9⟩, ?_⟩
      have e3 : s.1 4 j = nI (f 3 j) := hF.1 3 j b9
      have b3 : f 3 j < 2 := hB.2.1 3 j b9
      by_cases hz : f 3 j = 0
      · refine xbr_t (by show s.1 4 j = nI 0; rw [e3, hz]) ?_
        refine ⟨j, ⟨b9, e9, bo⟩, ?_⟩
        rw [show 1 - f (3 + 0) j = 1 by show 1 - f 3 j = 1; omega] at h1
        show Q (some (.int (s.1 10 (f 0 14 - 1)))) (xW (xW s 1 14 (s.1 1 14 - nI 1)) 4 _ _)
        rw [e9, em]
        exact h1 _ (hF1.put (j := 3) (x := j) (v := 1) b9) ((oth.rf.up _ (by omega)).up _ (by omega)) rfl
      · refine xbr_f (by show ¬ s.1 4 j = nI 0; rw [e3]; exact zne hz (by omega) (by decide)) ?_
        refine ⟨j, ⟨b9, e9, bz⟩, ?_⟩
        rw [show 1 - f (3 + 0) j = 0 by show 1 - f 3 j = 0; omega] at h1
        show Q (some (.int (s.1 10 (f 0 14 - 1)))) (xW (xW s 1 14 (s.1 1 14 - nI 1)) 4 _ _)
        rw [e9, em]
        exact h1 _ (hF1.put (j := 3) (x := j) (v := 0) b9) ((oth.rf.up _ (by omega)).up _ (by omega)) rfl
    · refine xbr_f (by show ¬ s.1 11 _ = nI 0; rw [e10]; exact n10) ?_
      refine ⟨j, ⟨b9, e9⟩, ?_⟩
      have e3 : s.1 5 j = nI (f 4 j) := hF.1 4 j b9
      have b3 : f 4 j < 2 := hB.2.1 4 j b9
      by_cases hz : f 4 j = 0
      · refine xbr_t (by show s.1 5 j = nI 0; rw [e3, hz]) ?_
        refine ⟨j, ⟨b9, e9, bo⟩, ?_⟩
        rw [show 1 - f (3 + 1) j = 1 by show 1 - f 4 j = 1; omega] at h1
        show Q (some (.int (s.1 10 (f 0 14 - 1)))) (xW (xW s 1 14 (s.1 1 14 - nI 1)) 5 _ _)
        rw [e9, em]
        exact h1 _ (hF1.put (j := 4) (x := j) (v := 1) b9) ((oth.rf.up _ (by omega)).up _ (by omega)) rfl
      · refine xbr_f (by show ¬ s.1 5 j = nI 0; rw [e3]; exact zne hz (by omega) (by decide)) ?_
        refine ⟨j, ⟨b9, e9, bz⟩, ?_⟩
        rw [show 1 - f (3 + 1) j = 0 by show 1 - f 4 j = 0; omega] at h1
        show Q (some (.int (s.1 10 (f 0 14 - 1)))) (xW (xW s 1 14 (s.1 1 14 - nI 1)) 5 _ _)
        rw [e9, em]
        exact h1 _ (hF1.put (j := 4) (x := j) (v := 0) b9) ((oth.rf.up _ (by omega)).up _ (by omega)) rfl
/-- a report may be made -/
def okw (f : Nm) (c hr te : Int32) : Prop := ∃ j h t, j < f 0 12 ∧ f 4 j = 0 ∧ c = nI j ∧ h < 24 ∧ hr = nI h ∧ t < 10 ∧ te = nI t ∧ f 0 13 < 10
def wrt (f : Nm) (j h t : Nat) : Nm := nu (nu (nu (nu (nu f 5 (f 0 13) j) 6 (f 0 13) (f 3 j)) 7 (f 0 13) h) 8 (f 0 13) t) 0 13 (f 0 13 + 1)
theorem m_write (I : xRl X P) (hS : S ≤ 128) (hF : FC s.1 1 f ru) (hB : FB f) {c hr te : Int32} (h1 : ∀ j h t, j < f 0 12 → f 4 j = 0 → c = nI j → h < 24 → hr = nI h → t < 10 → te = nI t → f 0 13 < 10 → FQ s (wrt f j h t) ru (some (.int (nI (f 0 13 + 1)))) Q) (h0 : ¬ okw f c hr te → Q (some (.int (-(nI 1)))) s) : P (d + 3) (L0 S) 16 [.ref 1, .int c, .int hr, .int te] s Q := by
  have hn := hB.1.1
  have hn2 := hB.1.2.1
  have e : s.1 1 13 = nI (f 0 13) := hF.2.1 13 (by omega)
  refine inX0_write I (L0ok hS) ?_
  refine rn I [] 199 ?_
  refine m_isFree I hS hF hB (fun j hj h4 ej => ?_) (fun hc => ?_)
  · subst ej
    refine xbr_f n10 ?_
    refine m_isHour I hS (fun h hh eh => ?_) (fun hc => ?_)
    · subst eh
      refine xbr_f n10 ?_
      refine m_isDigit I hS (fun t ht et => ?_) (fun hc => ?_)
      · subst et
        refine xbr_f n10 ?_
        by_cases h10 : f 0 13 < 10
        · refine xbr_t (by rw [e]; exact zlt h10 (by omega)) ?_
          have e3 : s.1 4 j = nI (f 3 j) := hF.1 3 j (by show j < 8; omega)
          have b3 : f 3 j < 2 := hB.2.1 3 j (by show j < 8; omega)
          refine ⟨f 0 13, ⟨h10, e⟩, ?_⟩
          refine ⟨j, ⟨by omega, rfl⟩, ?_⟩
          refine ⟨f 0 13, ⟨h10, e, ?_⟩, ?_⟩
          · show s.1 4 j = _ ∨ s.1 4 j = _
            rw [e3]
            exact b01 b3
          refine ⟨f 0 13, ⟨h10, e⟩, ?_⟩
          refine ⟨f 0 13, ⟨h10, e⟩, ?_⟩
          show Q (some (.int (s.1 1 13 + nI 1))) (xW (xW (xW (xW (xW s 6 (f 0 13) (nI j)) 7 (f 0 13) (s.1 4 j)) 8 _ _) 9 _ _) 1 13 (s.1 1 13 + nI 1))
          rw [e, nad, e3]
          exact h1 j h t hj h4 rfl hh rfl ht rfl h10 _ (((((hF.put (j := 5) (x := f 0 13) (v := j) h10).put (j := 6) (x := f 0 13) (v := f 3 j) h10).put (j := 7) (x := f 0 13) (v := h) h10).put (j := 8) (x := f 0 13) (v := t) h10).fld (x := 13) (v := f 0 13 + 1) (by decide) (by decide)) (((((oth.rf.up _ (by omega)).up _ (by omega)).up _ (by omega)).up _ (by omega)).up _ (by omega)) rfl
        · refine xbr_f (by rw [e]; exact znl (by omega) (by omega)) ?_
          exact h0 (fun ⟨_, _, _, _, _, _, _, _, _, _, q⟩ => h10 q)
      · refine xbr_t rfl ?_
        exact h0 (fun ⟨_, _, t, _, _, _, _, _, q1, q2, _⟩ => hc t q1 q2)
    · refine xbr_t rfl ?_
      exact h0 (fun ⟨_, h, _, _, _, _, q1, q2, _, _, _⟩ => hc h q1 q2)
  · refine xbr_t rfl ?_
    exact h0 (fun ⟨j, _, _, q1, q2, q3, _, _, _, _, _⟩ => hc j q1 q2 q3)
theorem sub_e {x : Int32} {a b : Nat} (h : x - nI a = nI b) : x = nI (a + b) := by
  have : x - nI a + nI a = nI b + nI a := by rw [h]
  rw [Int32.sub_add_cancel, nad, Nat.add_comm] at this
  exact this
theorem sub_e' {x : Int32} {a b : Nat} (h : x = nI (a + b)) : x - nI a = nI b := by
  rw [h, nsb (by omega), Nat.add_sub_cancel_left]
theorem m_tellOne (I : xRl X P) (hS : S ≤ 128) (hF : FC s.1 1 f ru) (hB : FB f) {x : Int32} (h1 : ∀ j, j < cc f → x = nI (10 + j) → Q (some (.int (nI (f 1 j)))) s) (h2 : ∀ j, j < f 0 12 → x = nI (30 + j) → Q (some (.int (nI (100 * f 2 j + 10 * f 3 j + f 4 j)))) s) (h3 : ∀ j, j < f 0 13 → x = nI (40 + j) → Q (some (.int (nI (1000 * f 5 j + 500 * f 6 j + 10 * f 7 j + f 8 j)))) s)
    (h0 : (∀ j, j < cc f → x ≠ nI (10 + j)) → (∀ j, j < f 0 12 → x ≠ nI (30 + j)) → (∀ j, j < f 0 13 → x ≠ nI (40 + j)) → Q (some (.int (-(nI 2)))) s) : P (d + 3) (L0 S) 17 [.ref 1, .int x] s Q := by
  have hn := hB.1.1
  have hn2 := hB.1.2.1
  have hcc := hB.cc16
  have e : s.1 1 13 = nI (f 0 13) := hF.2.1 13 (by omega)
  refine inX0_tellOne I (L0ok hS) ?_
  refine rn I [] 199 ?_
  refine m_hasCell I hS hF hB (fun j hj ej => ?_) (fun hc => ?_)
  · refine xbr_f n10 ?_
    refine ⟨j, ⟨by omega, ej⟩, ?_⟩
    have e1 : s.1 2 j = nI (f 1 j) := hF.1 1 j (by show j < 16; omega)
    have := h1 j hj (sub_e ej)
    rw [← e1] at this
    exact this
  · refine xbr_t rfl ?_
    refine m_hasScope I hS hF hB (fun j hj ej => ?_) (fun hc2 => ?_)
    · refine xbr_f n10 ?_
      have hj8 : j < 8 := by omega
      have g2 : s.1 3 j = nI (f 2 j) := hF.1 2 j hj8
      have g3 : s.1 4 j = nI (f 3 j) := hF.1 3 j hj8
      have g4 : s.1 5 j = nI (f 4 j) := hF.1 4 j hj8
      have b3 : f 3 j < 2 := hB.2.1 3 j hj8
      have b4 : f 4 j < 2 := hB.2.1 4 j hj8
      have h2 := h2 j hj (sub_e ej)
      refine ⟨j, ⟨hj8, ej⟩, ?_⟩
      refine ⟨j, ⟨hj8, ej⟩, ?_⟩
      rcases (show f 3 j = 0 ∨ f 3 j = 1 by omega) with z3 | z3
      · refine xbr_t (by rw [g3, z3]) ?_
        refine ⟨j, ⟨hj8, ej⟩, ?_⟩
        rcases (show f 4 j = 0 ∨ f 4 j = 1 by omega) with z4 | z4
        · refine xbr_t (by rw [g4, z4]) ?_
          rw [z3, z4, ← nad, ← nad, ← nml, ← g2] at h2
          exact h2
        · refine xbr_f (by rw [g4, z4]; exact n10) ?_
          rw [z3, z4, ← nad, ← nad, ← nml, ← g2] at h2
          exact h2
      · refine xbr_f (by rw [g3, z3]; exact n10) ?_
        refine ⟨j, ⟨hj8, ej⟩, ?_⟩
        rcases (show f 4 j = 0 ∨ f 4 j = 1 by omega) with z4 | z4
        · refine xbr_t (by rw [g4, z4]) ?_
          rw [z3, z4, ← nad, ← nad, ← nml, ← g2] at h2
          exact h2
        · refine xbr_f (by rw [g4, z4]; exact n10) ?_
          rw [z3, z4, ← nad, ← nad, ← nml, ← g2] at h2
          exact h2
    · refine xbr_t rfl ?_
      by_cases hr : ∃ j, j < f 0 13 ∧ x = nI (40 + j)
      · obtain ⟨j, hj, ej⟩ := hr
        have h3 := h3 j hj ej
        have ej2 := sub_e' ej
        refine xbr_f (by rw [ej]; exact znl (by omega) (by omega)) ?_
        refine xbr_t (by rw [ej2, e]; exact zlt hj (by omega)) ?_
        have hj10 : j < 10 := by omega
        have g5 : s.1 6 j = nI (f 5 j) := hF.1 5 j hj10
        have g6 : s.1 7 j = nI (f 6 j) := hF.1 6 j hj10
        have g7 : s.1 8 j = nI (f 7 j) := hF.1 7 j hj10
        have g8 : s.1 9 j = nI (f 8 j) := hF.1 8 j hj10
        have b6 : f 6 j < 2 := hB.2.1 6 j hj10
        refine ⟨j, ⟨hj10, ej2⟩, ?_⟩
        refine ⟨j, ⟨hj10, ej2⟩, ?_⟩
        rcases (show f 6 j = 0 ∨ f 6 j = 1 by omega) with z6 | z6
        · refine xbr_t (by rw [g6, z6]) ?_
          refine ⟨j, ⟨hj10, ej2⟩, ?_⟩
          refine ⟨j, ⟨hj10, ej2⟩, ?_⟩
          rw [z6, ← nad, ← nad, ← nad, ← nml, ← nml 10, ← g5, ← g7, ← g8] at h3
          exact h3
        · refine xbr_f (by rw [g6, z6]; exact n10) ?_
          refine ⟨j, ⟨hj10, ej2⟩, ?_⟩
          refine ⟨j, ⟨hj10, ej2⟩, ?_⟩
          rw [z6, ← nad, ← nad, ← nad, ← nml, ← nml 10, ← g5, ← g7, ← g8] at h3
          exact h3
      · have h0 := h0 (fun j hj ej => hc j hj (sub_e' ej)) (fun j hj ej => hc2 j hj (sub_e' ej)) (fun j hj ej => hr ⟨j, hj, ej⟩)
        refine xbr_c (fun _ => h0) (fun h40 => ?_)
        refine xbr_f (fun hlt => hr ?_) h0
        rw [e] at hlt
        rcases pk_ix x (n := 40 + f 0 13) (by omega) with q | q | ⟨m, hm, rfl⟩
        · exact absurd (Int32.lt_trans q (by decide)) h40
        · exfalso
          obtain ⟨m, hm, rfl⟩ := nI_of (x := x) (fun z => h40 (Int32.lt_trans z (by decide)))
          have hm2 : 40 + f 0 13 ≤ m := (nI_leI (by omega) hm).mp q
          rw [nsb (by omega)] at hlt
          have := zlt' (by omega) (by omega) hlt
          omega
        · have : 40 ≤ m := zge (by omega) (by omega) h40
          exact ⟨m - 40, by omega, by rw [show 40 + (m - 40) = m by omega]⟩
end FORT3
