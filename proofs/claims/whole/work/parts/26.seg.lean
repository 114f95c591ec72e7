/-! a clause's orders: what a stretch of them comes to, whatever lies on the pile -/
def EB (e : Nat → Nat) : Prop := ∀ k, k < 10 → e k ≤ 1000
/-- K goes backward over every order from a up to b -/
def CK (o : Nat → Nat) (e : Nat → Nat) (a b : Nat) (K : Nat → List Int → Prop) : Prop := ∀ pc, a ≤ pc → pc < b →
  (o pc % 32 = 2 → ∀ p : List Int, p.length < 64 → K (pc + 1) (((o pc / 32 : Nat) : Int) :: p) → K pc p) ∧
  (o pc % 32 = 3 → o pc / 32 < 10 → ∀ p : List Int, p.length < 64 → K (pc + 1) ((e (o pc / 32) : Int) :: p) → K pc p) ∧
  (o pc % 32 = 26 → pc < o pc / 32 → ∀ (p : List Int) (x : Int), In x → (x = 0 → K (o pc / 32) p) → (x ≠ 0 → K (pc + 1) p) → K pc (x :: p)) ∧
  (o pc % 32 = 27 → pc < o pc / 32 → ∀ p : List Int, K (o pc / 32) p → K pc p) ∧
  (o pc % 32 = 9 → ∀ (p : List Int) (x : Int), K (pc + 1) ((1 - x) :: p) → K pc (x :: p)) ∧
  (o pc % 32 = 25 → ∀ (p : List Int) (x : Int), K (pc + 1) ((-x) :: p) → K pc (x :: p)) ∧
  ((o pc % 32 = 7 ∨ o pc % 32 = 8 ∨ (10 ≤ o pc % 32 ∧ o pc % 32 < 20)) → ∀ (p : List Int) (x y : Int), In x → In y → K (pc + 1) (jz (o pc % 32) x y :: p) → K pc (y :: x :: p))
theorem CK.sub {o e : Nat → Nat} {a b a' b' : Nat} {K : Nat → List Int → Prop} (h : CK o e a b K) (h1 : a ≤ a') (h2 : b' ≤ b) : CK o e a' b' K := fun pc g1 g2 => h pc (Nat.le_trans h1 g1) (Nat.lt_of_lt_of_le g2 h2)
theorem CK.cg {o o' e : Nat → Nat} {a b : Nat} {K : Nat → List Int → Prop} (h : CK o e a b K) (ho : ∀ i, a ≤ i → i < b → o' i = o i) : CK o' e a b K := fun pc g1 g2 => by
  have := h pc g1 g2
  rw [← ho pc g1 g2] at this
  exact this
abbrev Dn : Type := (Nat → Nat) → Int
def DI (D : Dn) : Prop := ∀ e, EB e → In (D e)
def SG (o : Nat → Nat) (a b n : Nat) (D : Dn) : Prop := a ≤ b ∧ ∀ (e : Nat → Nat) (K : Nat → List Int → Prop), EB e → CK o e a b K → ∀ p : List Int, p.length + n ≤ 64 → K b (D e :: p) → K a p
theorem SG.cg {o o' : Nat → Nat} {a b n : Nat} {D : Dn} (h : SG o a b n D) (ho : ∀ i, a ≤ i → i < b → o' i = o i) : SG o' a b n D := ⟨h.1, fun e K he hK p hp k => h.2 e K he (hK.cg (fun i h1 h2 => (ho i h1 h2).symm)) p hp k⟩
theorem SG.up {o : Nat → Nat} {a b n m : Nat} {D : Dn} (h : SG o a b n D) (hm : n ≤ m) : SG o a b m D := ⟨h.1, fun e K he hK p hp k => h.2 e K he hK p (by omega) k⟩
theorem SG.num {o : Nat → Nat} {a v n : Nat} (h : o a = 2 + 32 * v) (hn : 1 ≤ n) : SG o a (a + 1) n (fun _ => (v : Int)) := by
  refine ⟨by omega, fun e K he hK p hp k => ?_⟩
  have h1 : o a % 32 = 2 := by omega
  have h2 : o a / 32 = v := by omega
  have := (hK a (Nat.le_refl _) (by omega)).1 h1 p (by omega)
  rw [h2] at this
  exact this k
theorem SG.nam {o : Nat → Nat} {a v n : Nat} (h : o a = 3 + 32 * v) (hv : v < 10) (hn : 1 ≤ n) : SG o a (a + 1) n (fun e => (e v : Int)) := by
  refine ⟨by omega, fun e K he hK p hp k => ?_⟩
  have h1 : o a % 32 = 3 := by omega
  have h2 : o a / 32 = v := by omega
  have := (hK a (Nat.le_refl _) (by omega)).2.1 h1 (by omega) p (by omega)
  rw [h2] at this
  exact this k
theorem SG.bin {o : Nat → Nat} {a b c k n1 n2 n : Nat} {D1 D2 : Dn} (h1 : SG o a b n1 D1) (h2 : SG o b c n2 D2) (hk : o c = k) (hk2 : k = 7 ∨ k = 8 ∨ (10 ≤ k ∧ k < 20)) (i1 : DI D1) (i2 : DI D2) (m1 : n1 ≤ n) (m2 : n2 + 1 ≤ n) : SG o a (c + 1) n (fun e => jz k (D1 e) (D2 e)) := by
  have l1 := h1.1
  have l2 := h2.1
  refine ⟨by omega, fun e K he hK p hp q => ?_⟩
  refine h1.2 e K he (hK.sub (Nat.le_refl _) (by omega)) p (by omega) ?_
  refine h2.2 e K he (hK.sub l1 (by omega)) _ (by show p.length + 1 + n2 ≤ 64; omega) ?_
  have e1 : o c % 32 = k := by omega
  have := (hK c (by omega) (by omega)).2.2.2.2.2.2 (by rw [e1]; exact hk2) p (D1 e) (D2 e) (i1 e he) (i2 e he)
  rw [e1] at this
  exact this q
theorem SG.neg {o : Nat → Nat} {a b n : Nat} {D : Dn} (h1 : SG o a b n D) (hk : o b = 25) : SG o a (b + 1) n (fun e => -(D e)) := by
  have l1 := h1.1
  refine ⟨by omega, fun e K he hK p hp q => ?_⟩
  refine h1.2 e K he (hK.sub (Nat.le_refl _) (by omega)) p hp ?_
  exact (hK b l1 (by omega)).2.2.2.2.2.1 (by omega) p (D e) q
theorem SG.nt {o : Nat → Nat} {a b n : Nat} {D : Dn} (h1 : SG o a b n D) (hk : o b = 9) : SG o a (b + 1) n (fun e => 1 - D e) := by
  have l1 := h1.1
  refine ⟨by omega, fun e K he hK p hp q => ?_⟩
  refine h1.2 e K he (hK.sub (Nat.le_refl _) (by omega)) p hp ?_
  exact (hK b l1 (by omega)).2.2.2.2.1 (by omega) p (D e) q
theorem SG.ite {o : Nat → Nat} {a b c w n : Nat} {D0 D1 D2 : Dn} (h0 : SG o a b n D0) (k0 : o b = 26 + 32 * (c + 1)) (h1 : SG o (b + 1) c n D1) (k1 : o c = 27 + 32 * w) (h2 : SG o (c + 1) w n D2) (i0 : DI D0) : SG o a w n (fun e => if D0 e = 0 then D2 e else D1 e) := by
  have l0 := h0.1
  have l1 := h1.1
  have l2 := h2.1
  refine ⟨by omega, fun e K he hK p hp q => ?_⟩
  refine h0.2 e K he (hK.sub (Nat.le_refl _) (by omega)) p hp ?_
  have u : o b / 32 = c + 1 := by omega
  have v : o c / 32 = w := by omega
  have r0 := (hK b l0 (by omega)).2.2.1 (by omega) (by omega) p (D0 e) (i0 e he)
  rw [u] at r0
  have q : K w ((if D0 e = 0 then D2 e else D1 e) :: p) := q
  refine r0 (fun z => ?_) (fun z => ?_)
  · rw [if_pos z] at q
    exact h2.2 e K he (hK.sub (by omega) (Nat.le_refl _)) p hp q
  · rw [if_neg z] at q
    refine h1.2 e K he (hK.sub (by omega) (by omega)) p hp ?_
    have r1 := (hK c (by omega) (by omega)).2.2.2.1 (by omega) (by omega) (D1 e :: p)
    rw [v] at r1
    exact r1 q
/-- what a program at k holds: its orders o, of number z; where its clauses begin and end -/
def PG (s : xS) (k : Nat) (o : Nat → Nat) (z : Nat) : Prop := s.1 k 3 = nI z ∧ z ≤ 300 ∧ ∀ i, i < z → s.1 (k + 3) i = nI (o i) ∧ o i < 1000000
