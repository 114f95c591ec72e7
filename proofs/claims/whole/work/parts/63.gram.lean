/-! the grammar as a function: a fault (which, at which token), or what is next, what it comes to, the reference's code -/
abbrev pR : Type := Sum (Nat × Nat) (Nat × Dn × Cd)
def pB (r : pR) (k : Nat → Dn → Cd → pR) : pR := match r with
  | .inl e => .inl e
  | .inr x => k x.1 x.2.1 x.2.2
abbrev lop (l k : Nat) : Prop := (l = 1 ∧ (k = 18 ∨ k = 19)) ∨ (l = 2 ∧ (k = 16 ∨ k = 17)) ∨ (l = 4 ∧ k = 8) ∨ (l = 5 ∧ k = 7)
def opc (k : Nat) : Nat := if 16 ≤ k then k - 13 else if k = 8 then 21 else if k = 7 then 22 else mc k
/-- m: 0 ONE, 1 PRODUCT, 2 SUM, 3 ASK, 4 BOTH, 5 EITHER; 10 more: what may follow there -/
def pE (K V : Nat → Nat) (c : Nat) : Nat → Nat → Nat → Nat → Dn → Cd → pR
  | 0, _, _, i, _, _ => .inl (1, i)
  | f + 1, m, op, i, D, C =>
    if m = 0 then
      (if K i = 2 then (if 9999 < V i then .inl (2, i) else .inr (i + 1, fun _ => (V i : Int), [(0, V i)]))
      else if K i = 3 then (if V i ≤ 4 ∨ (V i = 9 ∧ c = 3) ∨ (V i ≠ 9 ∧ (c = 1 ∨ c = 2)) then .inr (i + 1, fun e => (e (V i) : Int), [(1, V i)]) else .inl (5, i))
      else if K i = 20 then (if op < 8 then pB (pE K V c f 2 (op + 1) (i + 1) D C) (fun j D1 C1 => if K j = 21 then .inr (j + 1, D1, C1) else .inl (1, j)) else .inl (3, i))
      else if K i = 17 then (if op < 8 then pB (pE K V c f 0 (op + 1) (i + 1) D C) (fun j D1 C1 => .inr (j, fun e => -(D1 e), C1 ++ [(2, 0)])) else .inl (3, i))
      else if K i = 5 then (if op < 8 then pB (pE K V c f 5 (op + 1) (i + 1) D C) (fun j D0 C0 => if K j = 23 then pB (pE K V c f 2 (op + 1) (j + 1) D C) (fun k D1 C1 => if K k = 24 then pB (pE K V c f 2 (op + 1) (k + 1) D C) (fun w D2 C2 => if K w = 6 then .inr (w + 1, fun e => if D0 e = 0 then D2 e else D1 e, C0 ++ C1 ++ C2 ++ [(23, 0)]) else .inl (1, w)) else .inl (1, k)) else .inl (1, j)) else .inl (3, i))
      else .inl (1, i))
    else if m = 3 then
      (if K i = 9 then (if op < 8 then pB (pE K V c f 3 (op + 1) (i + 1) D C) (fun j D1 C1 => .inr (j, fun e => 1 - D1 e, C1 ++ [(20, 0)])) else .inl (3, i))
      else pB (pE K V c f 2 op i D C) (fun j D1 C1 => if 10 ≤ K j ∧ K j < 16 then pB (pE K V c f 2 op (j + 1) D C) (fun k D2 C2 => .inr (k, fun e => cmz (K j) (D1 e) (D2 e), C1 ++ C2 ++ [(mc (K j), 0)])) else .inl (1, j)))
    else if m < 10 then pB (pE K V c f (m - 1) op i D C) (fun j D1 C1 => pE K V c f (m + 10) op j D1 C1)
    else if lop (m - 10) (K i) then pB (pE K V c f (m - 11) op (i + 1) D C) (fun j D2 C2 => pE K V c f m op j (fun e => jz (K i) (D e) (D2 e)) (C ++ C2 ++ [(opc (K i), 0)]))
    else .inr (i, D, C)
theorem pB_inr {r : pR} {k : Nat → Dn → Cd → pR} {x : Nat × Dn × Cd} (h : pB r k = .inr x) : ∃ j D C, r = .inr (j, D, C) ∧ k j D C = .inr x := by
  cases r with
  | inl e => cases h
  | inr y => exact ⟨y.1, y.2.1, y.2.2, rfl, h⟩
section GRAM
variable {K V : Nat → Nat} {c : Nat}
theorem pE_l {f m op i : Nat} {D : Dn} {C : Cd} (h : m = 1 ∨ m = 2 ∨ m = 4 ∨ m = 5) : pE K V c (f + 1) m op i D C = pB (pE K V c f (m - 1) op i D C) (fun j D1 C1 => pE K V c f (m + 10) op j D1 C1) := by
  rw [pE, if_neg (by omega), if_neg (by omega), if_pos (by omega)]
theorem pE_3 {f op i : Nat} {D : Dn} {C : Cd} : pE K V c (f + 1) 3 op i D C = (if K i = 9 then (if op < 8 then pB (pE K V c f 3 (op + 1) (i + 1) D C) (fun j D1 C1 => .inr (j, fun e => 1 - D1 e, C1 ++ [(20, 0)])) else .inl (3, i))
      else pB (pE K V c f 2 op i D C) (fun j D1 C1 => if 10 ≤ K j ∧ K j < 16 then pB (pE K V c f 2 op (j + 1) D C) (fun k D2 C2 => .inr (k, fun e => cmz (K j) (D1 e) (D2 e), C1 ++ C2 ++ [(mc (K j), 0)])) else .inl (1, j))) := by
  rw [pE, if_neg (by omega), if_pos rfl]
theorem pE_0 {f op i : Nat} {D : Dn} {C : Cd} : pE K V c (f + 1) 0 op i D C = (if K i = 2 then (if 9999 < V i then .inl (2, i) else .inr (i + 1, fun _ => (V i : Int), [(0, V i)]))
      else if K i = 3 then (if V i ≤ 4 ∨ (V i = 9 ∧ c = 3) ∨ (V i ≠ 9 ∧ (c = 1 ∨ c = 2)) then .inr (i + 1, fun e => (e (V i) : Int), [(1, V i)]) else .inl (5, i))
      else if K i = 20 then (if op < 8 then pB (pE K V c f 2 (op + 1) (i + 1) D C) (fun j D1 C1 => if K j = 21 then .inr (j + 1, D1, C1) else .inl (1, j)) else .inl (3, i))
      else if K i = 17 then (if op < 8 then pB (pE K V c f 0 (op + 1) (i + 1) D C) (fun j D1 C1 => .inr (j, fun e => -(D1 e), C1 ++ [(2, 0)])) else .inl (3, i))
      else if K i = 5 then (if op < 8 then pB (pE K V c f 5 (op + 1) (i + 1) D C) (fun j D0 C0 => if K j = 23 then pB (pE K V c f 2 (op + 1) (j + 1) D C) (fun k D1 C1 => if K k = 24 then pB (pE K V c f 2 (op + 1) (k + 1) D C) (fun w D2 C2 => if K w = 6 then .inr (w + 1, fun e => if D0 e = 0 then D2 e else D1 e, C0 ++ C1 ++ C2 ++ [(23, 0)]) else .inl (1, w)) else .inl (1, k)) else .inl (1, j)) else .inl (3, i))
      else .inl (1, i)) := by
  rw [pE, if_pos rfl]
theorem pE_L {f l op i : Nat} {D : Dn} {C : Cd} (h : l = 1 ∨ l = 2 ∨ l = 4 ∨ l = 5) : pE K V c (f + 1) (l + 10) op i D C = if lop l (K i) then pB (pE K V c f (l - 1) op (i + 1) D C) (fun j D2 C2 => pE K V c f (l + 10) op j (fun e => jz (K i) (D e) (D2 e)) (C ++ C2 ++ [(opc (K i), 0)])) else .inr (i, D, C) := by
  rw [pE, if_neg (by omega), if_neg (by omega), if_neg (by omega), show l + 10 - 10 = l by omega, show l + 10 - 11 = l - 1 by omega]
def GD (m : Nat) (D : Dn) (C : Cd) : Prop := (m ≤ 2 → DI D ∧ MG C D) ∧ (3 ≤ m → DB D ∧ MB C D)
def TE (m k : Nat) : Prop := (1 ≤ m → k ≠ 18 ∧ k ≠ 19) ∧ (2 ≤ m → k ≠ 16 ∧ k ≠ 17) ∧ (4 ≤ m → k ≠ 8) ∧ (5 ≤ m → k ≠ 7)
def OKr (cnt c m i : Nat) (K : Nat → Nat) (j : Nat) (D : Dn) (C : Cd) : Prop := i < j ∧ (i ≤ cnt → j ≤ cnt) ∧ C.length ≤ j - i ∧ DA c D ∧ GD m D C ∧ TE m (K j)
theorem DI_num {v : Nat} (h : v ≤ 9999) : DI (fun _ => (v : Int)) := fun _ _ => In.nt (by omega)
theorem DI_nam {v : Nat} (h : v < 10) : DI (fun e => (e v : Int)) := fun e he => In.nt (by have := he v h; omega)
theorem DI_neg {D : Dn} (h : DI D) : DI (fun e => -(D e)) := fun e he => by
  show In (-(D e))
  have := h e he
  unfold In at this ⊢
  omega
theorem DB_in {D : Dn} (h : DB D) : DI D := fun e _ => by
  rcases h e with z | z <;> (unfold In; omega)
theorem DB_not {D : Dn} (h : DB D) : DB (fun e => 1 - D e) := fun e => by
  show B1 (1 - D e)
  rcases h e with z | z
  · exact Or.inr (by omega)
  · exact Or.inl (by omega)
theorem DB_if {p : (Nat → Nat) → Prop} [∀ e, Decidable (p e)] : DB (fun e => if p e then 1 else 0) := fun e => by
  show (if p e then (1 : Int) else 0) = 0 ∨ (if p e then (1 : Int) else 0) = 1
  by_cases h : p e
  · exact Or.inr (if_pos h)
  · exact Or.inl (if_neg h)
end GRAM
