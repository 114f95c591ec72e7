/-! small rows on numbers; the run of a method -/
theorem rn {X : xXT} {P : xPT} (I : xRl X P) {d : Nat} {M : xM} {Q : xQ} {L : xLa} {pc : Nat} {ls : xLs} {st : List Value} {s : xS} (stops : List Nat) (n : Nat) (h : xst (P d L) Q (xrn (P d L) Q (X d M Q L) L M (xin stops) n) L M pc ls st s) : X d M Q L pc ls st s := I.1 d M Q L pc ls st s stops n h
theorem n10 : ¬ nI 1 = nI 0 := by decide +kernel
theorem n01 : ¬ nI 0 = nI 1 := by decide +kernel
theorem bz : nI 0 = nI 0 ∨ nI 0 = nI 1 := Or.inl rfl
theorem bo : nI 1 = nI 0 ∨ nI 1 = nI 1 := Or.inr rfl
theorem b01 {v : Nat} (h : v < 2) : nI v = nI 0 ∨ nI v = nI 1 := by
  rcases (show v = 0 ∨ v = 1 by omega) with rfl | rfl
  · exact Or.inl rfl
  · exact Or.inr rfl
theorem zlt {a b : Nat} (h : a < b) (hb : b < 2 ^ 31) : nI a < nI b := nI_lt h hb
theorem znl {a b : Nat} (h : b ≤ a) (ha : a < 2 ^ 31) : ¬ nI a < nI b := nI_nlt h ha
theorem zne {a b : Nat} (h : a ≠ b) (ha : a < 2 ^ 31) (hb : b < 2 ^ 31) : ¬ nI a = nI b := fun e => h ((nI_eq ha hb).mp e)
theorem zeq {a b : Nat} (ha : a < 2 ^ 31) (hb : b < 2 ^ 31) (h : nI a = nI b) : a = b := (nI_eq ha hb).mp h
theorem zn0 {a : Nat} (ha : a < 2 ^ 31) : ¬ nI a < nI 0 := by rw [nI_0]; exact nI_pos ha
theorem zm1 : (-(nI 1) : Int32) < nI 0 := by decide +kernel
theorem zm1n {a : Nat} (ha : a < 2 ^ 31) : ¬ nI a = -(nI 1) := fun e => zn0 ha (by rw [e]; exact zm1)
theorem zm1n' {a : Nat} (ha : a < 2 ^ 31) : ¬ -(nI 1) = nI a := fun e => zm1n ha e.symm
/-- a number is one of the n first, or none -/
theorem rg (c : Int32) {n : Nat} (hn : n < 2 ^ 31) : (∃ j, j < n ∧ c = nI j ∧ ¬ c < nI 0 ∧ c < nI n) ∨ ((∀ j, j < n → c ≠ nI j) ∧ (¬ c < nI 0 → ¬ c < nI n)) := by
  rcases pk_ix c hn with h | h | ⟨j, hj, rfl⟩
  · refine Or.inr ⟨fun j hj e => ?_, fun h2 => absurd (by rw [nI_0]; exact h) h2⟩
    rw [e] at h
    exact nI_pos (by omega) h
  · refine Or.inr ⟨fun j hj e => ?_, fun _ => Int32.not_lt.mpr h⟩
    rw [e] at h
    exact nI_ge hj hn h
  · exact Or.inl ⟨j, hj, rfl, zn0 (by omega), nI_lt hj hn⟩
theorem up_s {α : Type} (f : Nat → α) (k : Nat) (v : α) : va_up f k v k = v := va_up_self f k v
theorem up_n {α : Type} {f : Nat → α} {k j : Nat} {v : α} (h : j ≠ k) : va_up f k v j = f j := va_up_ne f v h
theorem ud_s {f : Nat → Int32} {k : Nat} {x : Int32} : upd f k x k = x := pk_us
theorem ud_n {f : Nat → Int32} {k j : Nat} {x : Int32} (h : j ≠ k) : upd f k x j = f j := pk_un h
theorem n1s (a : Nat) : nI (a + 1) = nI a + nI 1 := (nI_add a 1).symm
theorem nad (a b : Nat) : nI a + nI b = nI (a + b) := nI_add a b
theorem nsb {a b : Nat} (h : b ≤ a) : nI a - nI b = nI (a - b) := pk_sub h
theorem nml (a b : Nat) : nI a * nI b = nI (a * b) := pk_mul a b
theorem zge {a b : Nat} (ha : a < 2 ^ 31) (hb : b < 2 ^ 31) (h : ¬ nI a < nI b) : b ≤ a := Nat.not_lt.mp (fun z => h (nI_lt z hb))
theorem zlt' {a b : Nat} (ha : a < 2 ^ 31) (hb : b < 2 ^ 31) (h : nI a < nI b) : a < b := (nI_ltI ha hb).mp h
theorem xW_s (s : xS) (k z : Nat) (x : Int32) (i : Nat) : (xW s k z x).1 k i = upd (s.1 k) z x i := congrFun (va_up_self s.1 k (upd (s.1 k) z x)) i
theorem xW_n {s : xS} {k z : Nat} {x : Int32} {q : Nat} (h : q ≠ k) : (xW s k z x).1 q = s.1 q := va_up_ne s.1 _ h
theorem xWl_s (s : xS) (k z : Nat) (x : Int64) (i : Nat) : (xWl s k z x).2 k i = vp_updL (s.2 k) z x i := congrFun (va_up_self s.2 k (vp_updL (s.2 k) z x)) i
theorem xWl_n {s : xS} {k z : Nat} {x : Int64} {q : Nat} (h : q ≠ k) : (xWl s k z x).2 q = s.2 q := va_up_ne s.2 _ h
