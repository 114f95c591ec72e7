/-! what the class's fort (cells b to b + 10) and the reference's array hold: numbers f, and which text rules -/
abbrev Rw : Type := Nat → Nat → Int32
abbrev Nm : Type := Nat → Nat → Nat
def xln (j : Nat) : Nat := match j with
  | 1 => 16
  | 2 => 8
  | 3 => 8
  | 4 => 8
  | 5 => 10
  | 6 => 10
  | 7 => 10
  | 8 => 10
  | 9 => 20
  | 10 => 20
  | _ => 0
def xbd (c j : Nat) : Nat := match j with
  | 1 => 10
  | 2 => c
  | 3 => 2
  | 4 => 2
  | 5 => 8
  | 6 => 2
  | 7 => 24
  | 8 => 10
  | 9 => 8
  | 10 => 2
  | _ => 1
def pos (j i : Nat) : Nat := match j with
  | 1 => 10 + i
  | 2 => 30 + 3 * i
  | 3 => 31 + 3 * i
  | 4 => 32 + 3 * i
  | 5 => 60 + 4 * i
  | 6 => 61 + 4 * i
  | 7 => 62 + 4 * i
  | 8 => 63 + 4 * i
  | 9 => 100 + 2 * i
  | 10 => 101 + 2 * i
  | _ => 0
def FC (r : Rw) (b : Nat) (f : Nm) (ru : Int32) : Prop := (∀ j i, i < xln j → r (b + j) i = nI (f j i)) ∧ (∀ i, (i < 2 ∨ (12 ≤ i ∧ i ≤ 15)) → r b i = nI (f 0 i)) ∧ r b 16 = ru
def cc (f : Nm) : Nat := f 0 0 * f 0 1
def FB (f : Nm) : Prop := (f 0 12 ≤ 8 ∧ f 0 13 ≤ 10 ∧ f 0 14 ≤ 20 ∧ f 0 15 ≤ 4) ∧ (∀ j i, i < xln j → f j i < xbd (cc f) j) ∧ 1 ≤ f 0 0 ∧ f 0 0 ≤ 4 ∧ 1 ≤ f 0 1 ∧ f 0 1 ≤ 4
def FA (a : Nat → Int32) (f : Nm) (ru : Int32) : Prop := (∀ j i, j ≠ 10 → i < xln j → a (pos j i) = nI (f j i)) ∧ (∀ i, i < f 0 14 → i < 20 → a (pos 10 i) = nI (1 + f 10 i)) ∧ a 0 = nI (f 0 12) ∧ a 1 = nI (f 0 15) ∧ a 2 = ru ∧ a 3 = nI (f 0 13) ∧ a 4 = nI (f 0 14)
def nu (f : Nm) (j x v : Nat) : Nm := va_up f j (va_up (f j) x v)
theorem nu_s (f : Nm) (j x v : Nat) : nu f j x v j x = v := by unfold nu; rw [up_s, up_s]
theorem nu_n {f : Nm} {j x v j' x' : Nat} (h : j' ≠ j ∨ x' ≠ x) : nu f j x v j' x' = f j' x' := by
  unfold nu
  by_cases e : j' = j
  · subst e
    rw [up_s, up_n (h.resolve_left (fun z => z rfl))]
  · rw [up_n e]
theorem xln_c {j i : Nat} (h : i < xln j) : j = 1 ∨ j = 2 ∨ j = 3 ∨ j = 4 ∨ j = 5 ∨ j = 6 ∨ j = 7 ∨ j = 8 ∨ j = 9 ∨ j = 10 := by
  unfold xln at h
  split at h <;> first | omega | (exact absurd h (Nat.not_lt_zero _))
theorem xln20 {j i : Nat} (h : i < xln j) : i < 20 := by
  rcases xln_c h with rfl | rfl | rfl | rfl | rfl | rfl | rfl | rfl | rfl | rfl <;> (simp only [xln] at h; omega)
theorem pos_ge {j i : Nat} (h : i < xln j) : 10 ≤ pos j i ∧ pos j i < 145 := by
  rcases xln_c h with rfl | rfl | rfl | rfl | rfl | rfl | rfl | rfl | rfl | rfl <;> (simp only [xln] at h; simp only [pos]; omega)
theorem pos_inj {j i j' i' : Nat} (h : i < xln j) (h' : i' < xln j') (e : pos j i = pos j' i') : j = j' ∧ i = i' := by
  rcases xln_c h with rfl | rfl | rfl | rfl | rfl | rfl | rfl | rfl | rfl | rfl <;> rcases xln_c h' with rfl | rfl | rfl | rfl | rfl | rfl | rfl | rfl | rfl | rfl <;> (simp only [xln] at h h'; simp only [pos] at e; omega)
theorem FC.put {r : Rw} {b : Nat} {f : Nm} {ru : Int32} (h : FC r b f ru) {j x v : Nat} (hx : x < xln j) : FC (va_up r (b + j) (upd (r (b + j)) x (nI v))) b (nu f j x v) ru := by
  have hj : 1 ≤ j := by rcases xln_c hx with e | e | e | e | e | e | e | e | e | e <;> omega
  refine ⟨fun j' i hi => ?_, fun i h1 => ?_, ?_⟩
  · by_cases e : j' = j
    · subst e
      rw [up_s]
      by_cases e2 : i = x
      · subst e2
        rw [ud_s, nu_s]
      · rw [ud_n e2, nu_n (Or.inr e2)]
        exact h.1 _ _ hi
    · rw [up_n (by omega), nu_n (Or.inl e)]
      exact h.1 _ _ hi
  · rw [up_n (by omega), nu_n (Or.inl (by omega))]
    exact h.2.1 i h1
  · rw [up_n (by omega)]
    exact h.2.2
theorem FC.fld {r : Rw} {b : Nat} {f : Nm} {ru : Int32} (h : FC r b f ru) {x v : Nat} (h1 : 12 ≤ x) (h2 : x ≤ 15) : FC (va_up r b (upd (r b) x (nI v))) b (nu f 0 x v) ru := by
  refine ⟨fun j' i hi => ?_, fun i a1 => ?_, ?_⟩
  · have hj : 1 ≤ j' := by rcases xln_c hi with e | e | e | e | e | e | e | e | e | e <;> omega
    rw [up_n (by omega), nu_n (Or.inl (by omega))]
    exact h.1 _ _ hi
  · rw [up_s]
    by_cases e2 : i = x
    · subst e2
      rw [ud_s, nu_s]
    · rw [ud_n e2, nu_n (Or.inr e2)]
      exact h.2.1 i a1
  · rw [up_s, ud_n (by omega)]
    exact h.2.2
theorem FC.rul {r : Rw} {b : Nat} {f : Nm} {ru : Int32} (h : FC r b f ru) (x : Int32) : FC (va_up r b (upd (r b) 16 x)) b f x := by
  refine ⟨fun j' i hi => ?_, fun i a1 => ?_, ?_⟩
  · have hj : 1 ≤ j' := by rcases xln_c hi with e | e | e | e | e | e | e | e | e | e <;> omega
    rw [up_n (by omega)]
    exact h.1 _ _ hi
  · rw [up_s, ud_n (by omega)]
    exact h.2.1 i a1
  · rw [up_s, ud_s]
theorem FC.same {r r' : Rw} {b : Nat} {f : Nm} {ru : Int32} (h : FC r b f ru) (e : ∀ k, b ≤ k → k ≤ b + 10 → r' k = r k) : FC r' b f ru := by
  refine ⟨fun j i hi => ?_, fun i a1 => ?_, ?_⟩
  · have hj : j ≤ 10 := by rcases xln_c hi with e | e | e | e | e | e | e | e | e | e <;> omega
    rw [e _ (by omega) (by omega)]
    exact h.1 j i hi
  · rw [e _ (by omega) (by omega)]
    exact h.2.1 i a1
  · rw [e _ (by omega) (by omega)]
    exact h.2.2
theorem FC.oth {r : Rw} {b : Nat} {f : Nm} {ru : Int32} (h : FC r b f ru) {k : Nat} (g : Nat → Int32) (hk : k < b ∨ b + 10 < k) : FC (va_up r k g) b f ru := h.same (fun q h1 h2 => up_n (by omega))
theorem FA.put {a : Nat → Int32} {f : Nm} {ru : Int32} (h : FA a f ru) {j x v : Nat} (hj : j ≠ 10) (hx : x < xln j) : FA (upd a (pos j x) (nI v)) (nu f j x v) ru := by
  have hp := pos_ge hx
  have h0 : 1 ≤ j := by rcases xln_c hx with e | e | e | e | e | e | e | e | e | e <;> omega
  obtain ⟨h1, h2, h3, h4, h5, h6, h7⟩ := h
  refine ⟨fun j' i hj' hi => ?_, fun i hi hi2 => ?_, ?_, ?_, ?_, ?_, ?_⟩
  · by_cases e : pos j' i = pos j x
    · obtain ⟨rfl, rfl⟩ := pos_inj hi hx e
      rw [ud_s, nu_s]
    · rw [ud_n e, nu_n]
      · exact h1 j' i hj' hi
      · by_cases e2 : j' = j
        · subst e2
          exact Or.inr (fun z => e (by rw [z]))
        · exact Or.inl e2
  · rw [nu_n (Or.inl (by omega))] at hi
    rw [ud_n (fun e => hj ((pos_inj (j := 10) (i := i) hi2 hx e).1.symm)), nu_n (Or.inl (fun e => hj e.symm))]
    exact h2 i hi hi2
  · rw [ud_n (by omega), nu_n (Or.inl (by omega))]; exact h3
  · rw [ud_n (by omega), nu_n (Or.inl (by omega))]; exact h4
  · rw [ud_n (by omega)]; exact h5
  · rw [ud_n (by omega), nu_n (Or.inl (by omega))]; exact h6
  · rw [ud_n (by omega), nu_n (Or.inl (by omega))]; exact h7
/-- the four counts of the array: scopes at 0, texts at 1, reports at 3 -/
theorem FA.cnt {a : Nat → Int32} {f : Nm} {ru : Int32} (h : FA a f ru) {x p v : Nat} (hp : (x = 12 ∧ p = 0) ∨ (x = 15 ∧ p = 1) ∨ (x = 13 ∧ p = 3)) : FA (upd a p (nI v)) (nu f 0 x v) ru := by
  obtain ⟨h1, h2, h3, h4, h5, h6, h7⟩ := h
  refine ⟨fun j i hj hi => ?_, fun i hi hi2 => ?_, ?_, ?_, ?_, ?_, ?_⟩
  · have h0 : 1 ≤ j := by rcases xln_c hi with e | e | e | e | e | e | e | e | e | e <;> omega
    have := pos_ge hi
    rw [ud_n (by omega), nu_n (Or.inl (by omega))]
    exact h1 j i hj hi
  · have : 10 ≤ pos 10 i := by simp only [pos]; omega
    rw [nu_n (Or.inr (by omega))] at hi
    rw [ud_n (by omega), nu_n (Or.inl (by omega))]
    exact h2 i hi hi2
  · rcases hp with ⟨rfl, rfl⟩ | ⟨rfl, rfl⟩ | ⟨rfl, rfl⟩
    · rw [ud_s, nu_s]
    · rw [ud_n (by decide), nu_n (Or.inr (by decide))]; exact h3
    · rw [ud_n (by decide), nu_n (Or.inr (by decide))]; exact h3
  · rcases hp with ⟨rfl, rfl⟩ | ⟨rfl, rfl⟩ | ⟨rfl, rfl⟩
    · rw [ud_n (by decide), nu_n (Or.inr (by decide))]; exact h4
    · rw [ud_s, nu_s]
    · rw [ud_n (by decide), nu_n (Or.inr (by decide))]; exact h4
  · rcases hp with ⟨rfl, rfl⟩ | ⟨rfl, rfl⟩ | ⟨rfl, rfl⟩ <;> (rw [ud_n (by decide)]; exact h5)
  · rcases hp with ⟨rfl, rfl⟩ | ⟨rfl, rfl⟩ | ⟨rfl, rfl⟩
    · rw [ud_n (by decide), nu_n (Or.inr (by decide))]; exact h6
    · rw [ud_n (by decide), nu_n (Or.inr (by decide))]; exact h6
    · rw [ud_s, nu_s]
  · rcases hp with ⟨rfl, rfl⟩ | ⟨rfl, rfl⟩ | ⟨rfl, rfl⟩ <;> (rw [ud_n (by decide), nu_n (Or.inr (by decide))]; exact h7)
theorem FA.rul {a : Nat → Int32} {f : Nm} {ru : Int32} (h : FA a f ru) (x : Int32) : FA (upd a 2 x) f x := by
  obtain ⟨h1, h2, h3, h4, h5, h6, h7⟩ := h
  refine ⟨fun j i hj hi => ?_, fun i hi hi2 => ?_, ?_, ?_, ?_, ?_, ?_⟩
  · have := pos_ge hi
    rw [ud_n (by omega)]
    exact h1 j i hj hi
  · rw [ud_n (by simp only [pos]; omega)]
    exact h2 i hi hi2
  · rw [ud_n (by decide)]; exact h3
  · rw [ud_n (by decide)]; exact h4
  · rw [ud_s]
  · rw [ud_n (by decide)]; exact h6
  · rw [ud_n (by decide)]; exact h7
/-- a step fewer -/
theorem FA.less {a : Nat → Int32} {f : Nm} {ru : Int32} (h : FA a f ru) {n : Nat} (hn : n ≤ f 0 14) : FA (upd a 4 (nI n)) (nu f 0 14 n) ru := by
  obtain ⟨h1, h2, h3, h4, h5, h6, h7⟩ := h
  refine ⟨fun j i hj hi => ?_, fun i hi hi2 => ?_, ?_, ?_, ?_, ?_, ?_⟩
  · have h0 : 1 ≤ j := by rcases xln_c hi with e | e | e | e | e | e | e | e | e | e <;> omega
    have := pos_ge hi
    rw [ud_n (by omega), nu_n (Or.inl (by omega))]
    exact h1 j i hj hi
  · rw [nu_s] at hi
    rw [ud_n (by simp only [pos]; omega), nu_n (Or.inl (by omega))]
    exact h2 i (by omega) hi2
  · rw [ud_n (by decide), nu_n (Or.inr (by decide))]; exact h3
  · rw [ud_n (by decide), nu_n (Or.inr (by decide))]; exact h4
  · rw [ud_n (by decide)]; exact h5
  · rw [ud_n (by decide), nu_n (Or.inr (by decide))]; exact h6
  · rw [ud_s, nu_s]
/-- a step more -/
theorem FA.more {a : Nat → Int32} {f : Nm} {ru : Int32} (h : FA a f ru) {n sc l : Nat} (hn : f 0 14 = n) (h20 : n < 20) : FA (upd (upd (upd a (100 + 2 * n) (nI sc)) (101 + 2 * n) (nI (1 + l))) 4 (nI (n + 1))) (nu (nu (nu f 9 n sc) 10 n l) 0 14 (n + 1)) ru := by
  obtain ⟨h1, h2, h3, h4, h5, h6, h7⟩ := h
  have e9 : pos 9 n = 100 + 2 * n := rfl
  have e10 : pos 10 n = 101 + 2 * n := rfl
  refine ⟨fun j i hj hi => ?_, fun i hi hi2 => ?_, ?_, ?_, ?_, ?_, ?_⟩
  · have h0 : 1 ≤ j := by rcases xln_c hi with e | e | e | e | e | e | e | e | e | e <;> omega
    have := pos_ge hi
    rw [ud_n (by omega), nu_n (Or.inl (by omega)), nu_n (Or.inl hj)]
    have hne : pos j i ≠ 101 + 2 * n := fun e => hj (pos_inj hi (j' := 10) (i' := n) h20 e).1
    rw [ud_n hne]
    by_cases e : pos j i = 100 + 2 * n
    · obtain ⟨rfl, rfl⟩ := pos_inj hi (j' := 9) (i' := n) h20 e
      rw [e, ud_s, nu_s]
    · rw [ud_n e, nu_n]
      · exact h1 j i hj hi
      · by_cases e2 : j = 9
        · subst e2
          exact Or.inr (fun z => e (by rw [z]; rfl))
        · exact Or.inl e2
  · rw [nu_s] at hi
    rw [ud_n (by simp only [pos]; omega), nu_n (Or.inl (by decide))]
    by_cases e : i = n
    · subst e
      rw [e10, ud_s, nu_s]
    · rw [ud_n (by simp only [pos]; omega), ud_n (by simp only [pos]; omega), nu_n (Or.inr e), nu_n (Or.inl (by decide))]
      exact h2 i (by omega) hi2
  · rw [ud_n (by decide), ud_n (by omega), ud_n (by omega), nu_n (Or.inr (by decide)), nu_n (Or.inl (by decide)), nu_n (Or.inl (by decide))]; exact h3
  · rw [ud_n (by decide), ud_n (by omega), ud_n (by omega), nu_n (Or.inr (by decide)), nu_n (Or.inl (by decide)), nu_n (Or.inl (by decide))]; exact h4
  · rw [ud_n (by decide), ud_n (by omega), ud_n (by omega)]; exact h5
  · rw [ud_n (by decide), ud_n (by omega), ud_n (by omega), nu_n (Or.inr (by decide)), nu_n (Or.inl (by decide)), nu_n (Or.inl (by decide))]; exact h6
  · rw [ud_s, nu_s]
theorem FB.cc16 {f : Nm} (h : FB f) : 1 ≤ cc f ∧ cc f ≤ 16 := by
  obtain ⟨-, -, h1, h2, h3, h4⟩ := h
  unfold cc
  constructor
  · exact Nat.mul_pos h1 h3
  · exact Nat.mul_le_mul h2 h4
theorem cc_nu {f : Nm} {j x v : Nat} (h : j ≠ 0 ∨ 2 ≤ x) : cc (nu f j x v) = cc f := by
  unfold cc
  rw [nu_n (by omega), nu_n (by omega)]
theorem FB.put {f : Nm} (h : FB f) {j x v : Nat} (hj : 1 ≤ j) (hv : v < xbd (cc f) j) : FB (nu f j x v) := by
  refine ⟨?_, fun j' i hi => ?_, ?_⟩
  · rw [nu_n (Or.inl (by omega)), nu_n (Or.inl (by omega)), nu_n (Or.inl (by omega)), nu_n (Or.inl (by omega))]
    exact h.1
  · rw [cc_nu (Or.inl (by omega))]
    by_cases e : j' = j ∧ i = x
    · obtain ⟨rfl, rfl⟩ := e
      rw [nu_s]
      exact hv
    · rw [nu_n (by by_cases e1 : j' = j; exact Or.inr (fun z => e ⟨e1, z⟩); exact Or.inl e1)]
      exact h.2.1 j' i hi
  · rw [nu_n (Or.inl (by omega)), nu_n (Or.inl (by omega))]
    exact h.2.2
theorem FB.cnt {f : Nm} (h : FB f) {x v : Nat} (hx : (x = 12 ∧ v ≤ 8) ∨ (x = 13 ∧ v ≤ 10) ∨ (x = 14 ∧ v ≤ 20) ∨ (x = 15 ∧ v ≤ 4)) : FB (nu f 0 x v) := by
  refine ⟨?_, fun j' i hi => ?_, ?_⟩
  · obtain ⟨⟨h1, h2, h3, h4⟩, -⟩ := h
    rcases hx with ⟨rfl, hv⟩ | ⟨rfl, hv⟩ | ⟨rfl, hv⟩ | ⟨rfl, hv⟩
    · rw [nu_s, nu_n (Or.inr (by decide)), nu_n (Or.inr (by decide)), nu_n (Or.inr (by decide))]; exact ⟨hv, h2, h3, h4⟩
    · rw [nu_n (Or.inr (by decide)), nu_s, nu_n (Or.inr (by decide)), nu_n (Or.inr (by decide))]; exact ⟨h1, hv, h3, h4⟩
    · rw [nu_n (Or.inr (by decide)), nu_n (Or.inr (by decide)), nu_s, nu_n (Or.inr (by decide))]; exact ⟨h1, h2, hv, h4⟩
    · rw [nu_n (Or.inr (by decide)), nu_n (Or.inr (by decide)), nu_n (Or.inr (by decide)), nu_s]; exact ⟨h1, h2, h3, hv⟩
  · have h0 : 1 ≤ j' := by rcases xln_c hi with e | e | e | e | e | e | e | e | e | e <;> omega
    rw [cc_nu (by omega), nu_n (Or.inl (by omega))]
    exact h.2.1 j' i hi
  · rw [nu_n (Or.inr (by omega)), nu_n (Or.inr (by omega))]
    exact h.2.2
/-- rows that are none of the fort's -/
def oth (r r' : Rw) : Prop := ∀ k, (k = 0 ∨ 11 < k) → r' k = r k
theorem oth.rf {r : Rw} : oth r r := fun _ _ => rfl
theorem oth.up {r r' : Rw} (h : oth r r') {k : Nat} (g : Nat → Int32) (hk : 1 ≤ k ∧ k ≤ 11) : oth r (va_up r' k g) := fun q hq => by rw [up_n (by omega)]; exact h q hq
/-- what a change of the fort leaves: the fort holds f, what is none of it is as it was -/
def FQ (s : xS) (f : Nm) (ru : Int32) (v : Option Value) (Q : xQ) : Prop := ∀ s' : xS, FC s'.1 1 f ru → oth s.1 s'.1 → s'.2 = s.2 → Q v s'
