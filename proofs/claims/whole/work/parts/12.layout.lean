/-! the heap behind the two constructors: the class's cells 0 to 78, the reference's 79 to 90; S: how many states there are -/
def L0 (S : Nat) : xLa := [
  (8, 0, [some 1, some 12, some 23, some 25, some 34, some 51, some 59]),
  (0, 0, [none, none, some 2, some 3, some 4, some 5, some 6, some 7, some 8, some 9, some 10, some 11, none, none, none, none, none]),
  (100, 16, []), (100, 8, []), (101, 8, []), (101, 8, []), (100, 10, []), (101, 10, []), (100, 10, []), (100, 10, []), (100, 20, []), (101, 20, []),
  (0, 0, [none, none, some 13, some 14, some 15, some 16, some 17, some 18, some 19, some 20, some 21, some 22, none, none, none, none, none]),
  (100, 16, []), (100, 8, []), (101, 8, []), (101, 8, []), (100, 10, []), (101, 10, []), (100, 10, []), (100, 10, []), (100, 20, []), (101, 20, []),
  (6, 0, [some 24, none]), (100, 300, []),
  (4, 0, [some 26, none, none, some 30, none, none, none, none]),
  (3, 0, [some 29, some 27, some 28, none]), (100, 4, []), (100, 4, []), (100, 300, []),
  (7, 0, [some 23, some 31, some 32, some 33, none, none]), (100, 300, []), (100, 300, []), (100, 300, []),
  (103, 4, [some 35, some 39, some 43, some 47]),
  (3, 0, [some 38, some 36, some 37, none]), (100, 4, []), (100, 4, []), (100, 300, []),
  (3, 0, [some 42, some 40, some 41, none]), (100, 4, []), (100, 4, []), (100, 300, []),
  (3, 0, [some 46, some 44, some 45, none]), (100, 4, []), (100, 4, []), (100, 300, []),
  (3, 0, [some 50, some 48, some 49, none]), (100, 4, []), (100, 4, []), (100, 300, []),
  (2, 0, [some 1, some 34, some 52, some 56]),
  (3, 0, [some 55, some 53, some 54, none]), (100, 4, []), (100, 4, []), (100, 0, []),
  (1, 0, [some 57, some 58, none]), (100, 10, []), (100, 64, []),
  (5, 0, [some 1, some 51, none, some 61, some 62, some 60]), (102, 100, []), (102, S, []),
  (104, 16, [some 63, some 64, some 65, some 66, some 67, some 68, some 69, some 70, some 71, some 72, some 73, some 74, some 75, some 76, some 77, some 78]),
  (100, S, []), (100, S, []), (100, S, []), (100, S, []), (100, S, []), (100, S, []), (100, S, []), (100, S, []), (100, S, []), (100, S, []), (100, S, []), (100, S, []), (100, S, []), (100, S, []), (100, S, []), (100, S, []),
  (9, 0, [some 80, some 81, none, none, some 82, some 83, none, none, none, none, none, none, none, none, none, none, none, none, some 84, none, none, none, none, none, some 85, some 86, some 87, some 88, none, some 89, some 90]),
  (100, 145, []), (100, 145, []), (100, 2480, []), (100, 300, []), (100, 160, []), (100, 10, []), (102, 330, []), (101, 330, []), (102, 128, []), (100, 2304, []), (100, 2304, [])]
theorem L0ok {S : Nat} (hS : S ≤ 128) : xLok (L0 S) := by
  refine ⟨by show (91 : Nat) ≤ 900; decide, fun k c h => ?_⟩
  rw [xnth_get] at h
  have h1 : (L0 S).all (fun c => Nat.blt c.1 105) = true := rfl
  have h2 := List.all_eq_true.mp h1 c (List.mem_of_getElem? h)
  have h3 : ∀ c ∈ L0 S, c.2.1 ≤ 2480 := by
    unfold L0
    simp only [List.forall_mem_cons]
    simp
    omega
  exact ⟨Nat.le_of_ble_eq_true h2, Nat.lt_of_le_of_lt (h3 c (List.mem_of_getElem? h)) (by decide)⟩
theorem xbr_t {c A B : Prop} (h : c) (a : A) : xbr c A B := ⟨fun _ => a, fun n => absurd h n⟩
theorem xbr_f {c A B : Prop} (h : ¬ c) (b : B) : xbr c A B := ⟨fun n => absurd n h, fun _ => b⟩
theorem xbr_c {c A B : Prop} (a : c → A) (b : ¬ c → B) : xbr c A B := ⟨a, b⟩
