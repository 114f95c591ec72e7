/-! the constructors run (by program mk91.py) -/
def yLk (L : xLa) : Bool := Nat.ble L.length 900 && L.all (fun c => Nat.blt c.1 105 && Nat.blt c.2.1 2147483648)
theorem yLk_e {L : xLa} (h : yLk L = true) : xLok L := by
  unfold yLk at h
  rw [Bool.and_eq_true] at h
  refine ⟨Nat.le_of_ble_eq_true h.1, fun k c hk => ?_⟩
  rw [xnth_get] at hk
  have h2 := List.all_eq_true.mp h.2 c (List.mem_of_getElem? hk)
  rw [Bool.and_eq_true] at h2
  exact ⟨Nat.le_of_ble_eq_true h2.1, Nat.le_of_ble_eq_true h2.2⟩
theorem yL_cg {X : xXT} {P : xPT} {Y : yXT} {C : yPT} {d : Nat} {M : xM} {Z : yQ} {Q : xQ} {mc ms pc : Nat} {ls : xLs} {st : List Value} {L L' : xLa} {s : xS} {kc ks : Nat} (_ : yRl X P Y C) (e : L = L') (h : Y d M Z Q mc ms pc ls st L' s kc ks) : Y d M Z Q mc ms pc ls st L s kc ks := by
  subst e
  exact h
theorem xZr_s {s : xS} {k : Nat} : (xZr s k).1 k = fun _ => nI 0 := va_up_self _ _ _
section GEN
variable {X : xXT} {P : xPT} {d : Nat} {L : xLa} {s : xS} {Q : xQ}
theorem g_max (I : xRl X P) (hL : xLok L) {x y z : Int32} (hz : (if x < y then y else x) = z) (h : Q (some (.int z)) s) : P (d + 1) L 218 [.int x, .int y] s Q := by
  refine inJ9_max_7cf53 I hL ?_
  refine rn I [] 99 ?_
  subst hz
  refine xbr_c (fun c => ?_) (fun c => ?_)
  · rw [if_pos c] at h; exact h
  · rw [if_neg c] at h; exact h
theorem g_min (I : xRl X P) (hL : xLok L) {x y : Int32} (h : Q (some (.int (if y < x then y else x))) s) : P (d + 1) L 220 [.int x, .int y] s Q := by
  refine inJ9_min_7cf53 I hL ?_
  refine rn I [] 99 ?_
  refine xbr_c (fun c => ?_) (fun c => ?_)
  · rw [if_pos c] at h; exact h
  · rw [if_neg c] at h; exact h
end GEN
/-- a number brought into 1 to 4 -/
def yw (v : Int32) (w : Nat) : Prop := 1 ≤ w ∧ w ≤ 4 ∧ ((v < nI 1 ∧ w = 1) ∨ (nI 4 < v ∧ w = 4) ∨ v = nI w)
theorem yw_i (k : Nat) (h : k ≤ 4) : (nI k).toInt = k := by
  rcases (show k = 0 ∨ k = 1 ∨ k = 2 ∨ k = 3 ∨ k = 4 by omega) with rfl | rfl | rfl | rfl | rfl <;> decide
theorem yw_ex (v : Int32) : ∃ w, yw v w := by
  by_cases h1 : v.toInt < 1
  · exact ⟨1, by decide, by decide, Or.inl ⟨Int32.lt_iff_toInt_lt.mpr (by rw [yw_i 1 (by decide)]; exact h1), rfl⟩⟩
  · by_cases h2 : 4 < v.toInt
    · exact ⟨4, by decide, by decide, Or.inr (Or.inl ⟨Int32.lt_iff_toInt_lt.mpr (by rw [yw_i 4 (by decide)]; exact h2), rfl⟩)⟩
    · refine ⟨v.toInt.toNat, by omega, by omega, Or.inr (Or.inr ?_)⟩
      apply Int32.toInt_inj.mp
      rw [yw_i _ (by omega)]
      omega
theorem yw_mm {v : Int32} {w : Nat} (h : yw v w) : (if nI 1 < (if v < nI 4 then v else nI 4) then (if v < nI 4 then v else nI 4) else nI 1) = nI w := by
  obtain ⟨h1, h2, h3⟩ := h
  have e1 := yw_i 1 (by decide)
  have e4 := yw_i 4 (by decide)
  rcases h3 with ⟨a, rfl⟩ | ⟨a, rfl⟩ | rfl
  · have a' := Int32.lt_iff_toInt_lt.mp a
    have c : v < nI 4 := Int32.lt_iff_toInt_lt.mpr (by omega)
    have c2 : ¬ nI 1 < v := fun z => by have := Int32.lt_iff_toInt_lt.mp z; omega
    rw [if_pos c, if_neg c2]
  · have a' := Int32.lt_iff_toInt_lt.mp a
    have c : ¬ v < nI 4 := fun z => by have := Int32.lt_iff_toInt_lt.mp z; omega
    rw [if_neg c, if_pos (by decide)]
  · rcases (show w = 1 ∨ w = 2 ∨ w = 3 ∨ w = 4 by omega) with rfl | rfl | rfl | rfl <;> decide
theorem yclamp {v : Int32} {w : Nat} {A B C : Prop} (h : yw v w) (ha : w = 1 → A) (hb : w = 4 → B) (hc : v = nI w → C) : xbr (v < nI 1) A (xbr (nI 4 < v) B C) := by
  obtain ⟨h1, h2, h3⟩ := h
  have e1 := yw_i 1 (by decide)
  have e4 := yw_i 4 (by decide)
  have ew := yw_i w h2
  refine ⟨fun c => ha ?_, fun c => ⟨fun c2 => hb ?_, fun c2 => hc ?_⟩⟩
  · have c := Int32.lt_iff_toInt_lt.mp c
    rcases h3 with ⟨a, e⟩ | ⟨a, e⟩ | rfl
    · exact e
    · have a := Int32.lt_iff_toInt_lt.mp a
      omega
    · omega
  · have c2 := Int32.lt_iff_toInt_lt.mp c2
    rcases h3 with ⟨a, e⟩ | ⟨a, e⟩ | rfl
    · have a := Int32.lt_iff_toInt_lt.mp a
      omega
    · exact e
    · omega
  · rcases h3 with ⟨a, e⟩ | ⟨a, e⟩ | e
    · exact absurd a c
    · exact absurd a c2
    · exact e
def LE_Whole_0 (S : Nat) : xLa := [(8, 0, [none, none, none, none, none, none, none])]
def LE_Fort_1 (S : Nat) : xLa := [(8, 0, [none, none, none, none, none, none, none]), (0, 0, [none, none, none, none, none, none, none, none, none, none, none, none, none, none, none, none, none])]
def LM_Fort_1_20 (S : Nat) : xLa := [(8, 0, [none, none, none, none, none, none, none]), (0, 0, [none, none, some 2, some 3, none, none, none, none, none, none, none, none, none, none, none, none, none]), (100, 16, []), (100, 8, [])]
def LM_Fort_1_36 (S : Nat) : xLa := [(8, 0, [none, none, none, none, none, none, none]), (0, 0, [none, none, some 2, some 3, some 4, some 5, none, none, none, none, none, none, none, none, none, none, none]), (100, 16, []), (100, 8, []), (101, 8, []), (101, 8, [])]
def LM_Fort_1_52 (S : Nat) : xLa := [(8, 0, [none, none, none, none, none, none, none]), (0, 0, [none, none, some 2, some 3, some 4, some 5, some 6, some 7, none, none, none, none, none, none, none, none, none]), (100, 16, []), (100, 8, []), (101, 8, []), (101, 8, []), (100, 10, []), (101, 10, [])]
def LM_Fort_1_68 (S : Nat) : xLa := [(8, 0, [none, none, none, none, none, none, none]), (0, 0, [none, none, some 2, some 3, some 4, some 5, some 6, some 7, some 8, some 9, none, none, none, none, none, none, none]), (100, 16, []), (100, 8, []), (101, 8, []), (101, 8, []), (100, 10, []), (101, 10, []), (100, 10, []), (100, 10, [])]
def LM_Fort_1_84 (S : Nat) : xLa := [(8, 0, [none, none, none, none, none, none, none]), (0, 0, [none, none, some 2, some 3, some 4, some 5, some 6, some 7, some 8, some 9, some 10, some 11, none, none, none, none, none]), (100, 16, []), (100, 8, []), (101, 8, []), (101, 8, []), (100, 10, []), (101, 10, []), (100, 10, []), (100, 10, []), (100, 20, []), (101, 20, [])]
def LX_Fort_1 (S : Nat) : xLa := [(8, 0, [none, none, none, none, none, none, none]), (0, 0, [none, none, some 2, some 3, some 4, some 5, some 6, some 7, some 8, some 9, some 10, some 11, none, none, none, none, none]), (100, 16, []), (100, 8, []), (101, 8, []), (101, 8, []), (100, 10, []), (101, 10, []), (100, 10, []), (100, 10, []), (100, 20, []), (101, 20, [])]
def LE_Fort_12 (S : Nat) : xLa := [(8, 0, [some 1, none, none, none, none, none, none]), (0, 0, [none, none, some 2, some 3, some 4, some 5, some 6, some 7, some 8, some 9, some 10, some 11, none, none, none, none, none]), (100, 16, []), (100, 8, []), (101, 8, []), (101, 8, []), (100, 10, []), (101, 10, []), (100, 10, []), (100, 10, []), (100, 20, []), (101, 20, []), (0, 0, [none, none, none, none, none, none, none, none, none, none, none, none, none, none, none, none, none])]
def LM_Fort_12_20 (S : Nat) : xLa := [(8, 0, [some 1, none, none, none, none, none, none]), (0, 0, [none, none, some 2, some 3, some 4, some 5, some 6, some 7, some 8, some 9, some 10, some 11, none, none, none, none, none]), (100, 16, []), (100, 8, []), (101, 8, []), (101, 8, []), (100, 10, []), (101, 10, []), (100, 10, []), (100, 10, []), (100, 20, []), (101, 20, []), (0, 0, [none, none, some 13, some 14, none, none, none, none, none, none, none, none, none, none, none, none, none]), (100, 16, []), (100, 8, [])]
def LM_Fort_12_36 (S : Nat) : xLa := [(8, 0, [some 1, none, none, none, none, none, none]), (0, 0, [none, none, some 2, some 3, some 4, some 5, some 6, some 7, some 8, some 9, some 10, some 11, none, none, none, none, none]), (100, 16, []), (100, 8, []), (101, 8, []), (101, 8, []), (100, 10, []), (101, 10, []), (100, 10, []), (100, 10, []), (100, 20, []), (101, 20, []), (0, 0, [none, none, some 13, some 14, some 15, some 16, none, none, none, none, none, none, none, none, none, none, none]), (100, 16, []), (100, 8, []), (101, 8, []), (101, 8, [])]
def LM_Fort_12_52 (S : Nat) : xLa := [(8, 0, [some 1, none, none, none, none, none, none]), (0, 0, [none, none, some 2, some 3, some 4, some 5, some 6, some 7, some 8, some 9, some 10, some 11, none, none, none, none, none]), (100, 16, []), (100, 8, []), (101, 8, []), (101, 8, []), (100, 10, []), (101, 10, []), (100, 10, []), (100, 10, []), (100, 20, []), (101, 20, []), (0, 0, [none, none, some 13, some 14, some 15, some 16, some 17, some 18, none, none, none, none, none, none, none, none, none]), (100, 16, []), (100, 8, []), (101, 8, []), (101, 8, []), (100, 10, []), (101, 10, [])]
def LM_Fort_12_68 (S : Nat) : xLa := [(8, 0, [some 1, none, none, none, none, none, none]), (0, 0, [none, none, some 2, some 3, some 4, some 5, some 6, some 7, some 8, some 9, some 10, some 11, none, none, none, none, none]), (100, 16, []), (100, 8, []), (101, 8, []), (101, 8, []), (100, 10, []), (101, 10, []), (100, 10, []), (100, 10, []), (100, 20, []), (101, 20, []), (0, 0, [none, none, some 13, some 14, some 15, some 16, some 17, some 18, some 19, some 20, none, none, none, none, none, none, none]), (100, 16, []), (100, 8, []), (101, 8, []), (101, 8, []), (100, 10, []), (101, 10, []), (100, 10, []), (100, 10, [])]
def LM_Fort_12_84 (S : Nat) : xLa := [(8, 0, [some 1, none, none, none, none, none, none]), (0, 0, [none, none, some 2, some 3, some 4, some 5, some 6, some 7, some 8, some 9, some 10, some 11, none, none, none, none, none]), (100, 16, []), (100, 8, []), (101, 8, []), (101, 8, []), (100, 10, []), (101, 10, []), (100, 10, []), (100, 10, []), (100, 20, []), (101, 20, []), (0, 0, [none, none, some 13, some 14, some 15, some 16, some 17, some 18, some 19, some 20, some 21, some 22, none, none, none, none, none]), (100, 16, []), (100, 8, []), (101, 8, []), (101, 8, []), (100, 10, []), (101, 10, []), (100, 10, []), (100, 10, []), (100, 20, []), (101, 20, [])]
def LX_Fort_12 (S : Nat) : xLa := [(8, 0, [some 1, none, none, none, none, none, none]), (0, 0, [none, none, some 2, some 3, some 4, some 5, some 6, some 7, some 8, some 9, some 10, some 11, none, none, none, none, none]), (100, 16, []), (100, 8, []), (101, 8, []), (101, 8, []), (100, 10, []), (101, 10, []), (100, 10, []), (100, 10, []), (100, 20, []), (101, 20, []), (0, 0, [none, none, some 13, some 14, some 15, some 16, some 17, some 18, some 19, some 20, some 21, some 22, none, none, none, none, none]), (100, 16, []), (100, 8, []), (101, 8, []), (101, 8, []), (100, 10, []), (101, 10, []), (100, 10, []), (100, 10, []), (100, 20, []), (101, 20, [])]
def LE_Tape_23 (S : Nat) : xLa := [(8, 0, [some 1, some 12, none, none, none, none, none]), (0, 0, [none, none, some 2, some 3, some 4, some 5, some 6, some 7, some 8, some 9, some 10, some 11, none, none, none, none, none]), (100, 16, []), (100, 8, []), (101, 8, []), (101, 8, []), (100, 10, []), (101, 10, []), (100, 10, []), (100, 10, []), (100, 20, []), (101, 20, []), (0, 0, [none, none, some 13, some 14, some 15, some 16, some 17, some 18, some 19, some 20, some 21, some 22, none, none, none, none, none]), (100, 16, []), (100, 8, []), (101, 8, []), (101, 8, []), (100, 10, []), (101, 10, []), (100, 10, []), (100, 10, []), (100, 20, []), (101, 20, []), (6, 0, [none, none])]
def LX_Tape_23 (S : Nat) : xLa := [(8, 0, [some 1, some 12, none, none, none, none, none]), (0, 0, [none, none, some 2, some 3, some 4, some 5, some 6, some 7, some 8, some 9, some 10, some 11, none, none, none, none, none]), (100, 16, []), (100, 8, []), (101, 8, []), (101, 8, []), (100, 10, []), (101, 10, []), (100, 10, []), (100, 10, []), (100, 20, []), (101, 20, []), (0, 0, [none, none, some 13, some 14, some 15, some 16, some 17, some 18, some 19, some 20, some 21, some 22, none, none, none, none, none]), (100, 16, []), (100, 8, []), (101, 8, []), (101, 8, []), (100, 10, []), (101, 10, []), (100, 10, []), (100, 10, []), (100, 20, []), (101, 20, []), (6, 0, [some 24, none]), (100, 300, [])]
def LE_Reader_25 (S : Nat) : xLa := [(8, 0, [some 1, some 12, some 23, none, none, none, none]), (0, 0, [none, none, some 2, some 3, some 4, some 5, some 6, some 7, some 8, some 9, some 10, some 11, none, none, none, none, none]), (100, 16, []), (100, 8, []), (101, 8, []), (101, 8, []), (100, 10, []), (101, 10, []), (100, 10, []), (100, 10, []), (100, 20, []), (101, 20, []), (0, 0, [none, none, some 13, some 14, some 15, some 16, some 17, some 18, some 19, some 20, some 21, some 22, none, none, none, none, none]), (100, 16, []), (100, 8, []), (101, 8, []), (101, 8, []), (100, 10, []), (101, 10, []), (100, 10, []), (100, 10, []), (100, 20, []), (101, 20, []), (6, 0, [some 24, none]), (100, 300, []), (4, 0, [none, none, none, none, none, none, none, none])]
def LE_Program_26 (S : Nat) : xLa := [(8, 0, [some 1, some 12, some 23, none, none, none, none]), (0, 0, [none, none, some 2, some 3, some 4, some 5, some 6, some 7, some 8, some 9, some 10, some 11, none, none, none, none, none]), (100, 16, []), (100, 8, []), (101, 8, []), (101, 8, []), (100, 10, []), (101, 10, []), (100, 10, []), (100, 10, []), (100, 20, []), (101, 20, []), (0, 0, [none, none, some 13, some 14, some 15, some 16, some 17, some 18, some 19, some 20, some 21, some 22, none, none, none, none, none]), (100, 16, []), (100, 8, []), (101, 8, []), (101, 8, []), (100, 10, []), (101, 10, []), (100, 10, []), (100, 10, []), (100, 20, []), (101, 20, []), (6, 0, [some 24, none]), (100, 300, []), (4, 0, [none, none, none, none, none, none, none, none]), (3, 0, [none, none, none, none])]
def LX_Program_26 (S : Nat) : xLa := [(8, 0, [some 1, some 12, some 23, none, none, none, none]), (0, 0, [none, none, some 2, some 3, some 4, some 5, some 6, some 7, some 8, some 9, some 10, some 11, none, none, none, none, none]), (100, 16, []), (100, 8, []), (101, 8, []), (101, 8, []), (100, 10, []), (101, 10, []), (100, 10, []), (100, 10, []), (100, 20, []), (101, 20, []), (0, 0, [none, none, some 13, some 14, some 15, some 16, some 17, some 18, some 19, some 20, some 21, some 22, none, none, none, none, none]), (100, 16, []), (100, 8, []), (101, 8, []), (101, 8, []), (100, 10, []), (101, 10, []), (100, 10, []), (100, 10, []), (100, 20, []), (101, 20, []), (6, 0, [some 24, none]), (100, 300, []), (4, 0, [none, none, none, none, none, none, none, none]), (3, 0, [some 29, some 27, some 28, none]), (100, 4, []), (100, 4, []), (100, 300, [])]
def LC_Program_26 (S : Nat) : xLa := [(8, 0, [some 1, some 12, some 23, none, none, none, none]), (0, 0, [none, none, some 2, some 3, some 4, some 5, some 6, some 7, some 8, some 9, some 10, some 11, none, none, none, none, none]), (100, 16, []), (100, 8, []), (101, 8, []), (101, 8, []), (100, 10, []), (101, 10, []), (100, 10, []), (100, 10, []), (100, 20, []), (101, 20, []), (0, 0, [none, none, some 13, some 14, some 15, some 16, some 17, some 18, some 19, some 20, some 21, some 22, none, none, none, none, none]), (100, 16, []), (100, 8, []), (101, 8, []), (101, 8, []), (100, 10, []), (101, 10, []), (100, 10, []), (100, 10, []), (100, 20, []), (101, 20, []), (6, 0, [some 24, none]), (100, 300, []), (4, 0, [none, none, none, none, none, none, none, none]), (3, 0, [some 29, some 27, some 28, none]), (100, 4, []), (100, 4, []), (100, 300, [])]
def LE_Tokens_30 (S : Nat) : xLa := [(8, 0, [some 1, some 12, some 23, none, none, none, none]), (0, 0, [none, none, some 2, some 3, some 4, some 5, some 6, some 7, some 8, some 9, some 10, some 11, none, none, none, none, none]), (100, 16, []), (100, 8, []), (101, 8, []), (101, 8, []), (100, 10, []), (101, 10, []), (100, 10, []), (100, 10, []), (100, 20, []), (101, 20, []), (0, 0, [none, none, some 13, some 14, some 15, some 16, some 17, some 18, some 19, some 20, some 21, some 22, none, none, none, none, none]), (100, 16, []), (100, 8, []), (101, 8, []), (101, 8, []), (100, 10, []), (101, 10, []), (100, 10, []), (100, 10, []), (100, 20, []), (101, 20, []), (6, 0, [some 24, none]), (100, 300, []), (4, 0, [some 26, none, none, none, none, none, none, none]), (3, 0, [some 29, some 27, some 28, none]), (100, 4, []), (100, 4, []), (100, 300, []), (7, 0, [none, none, none, none, none, none])]
def LX_Tokens_30 (S : Nat) : xLa := [(8, 0, [some 1, some 12, some 23, none, none, none, none]), (0, 0, [none, none, some 2, some 3, some 4, some 5, some 6, some 7, some 8, some 9, some 10, some 11, none, none, none, none, none]), (100, 16, []), (100, 8, []), (101, 8, []), (101, 8, []), (100, 10, []), (101, 10, []), (100, 10, []), (100, 10, []), (100, 20, []), (101, 20, []), (0, 0, [none, none, some 13, some 14, some 15, some 16, some 17, some 18, some 19, some 20, some 21, some 22, none, none, none, none, none]), (100, 16, []), (100, 8, []), (101, 8, []), (101, 8, []), (100, 10, []), (101, 10, []), (100, 10, []), (100, 10, []), (100, 20, []), (101, 20, []), (6, 0, [some 24, none]), (100, 300, []), (4, 0, [some 26, none, none, none, none, none, none, none]), (3, 0, [some 29, some 27, some 28, none]), (100, 4, []), (100, 4, []), (100, 300, []), (7, 0, [some 23, some 31, some 32, some 33, none, none]), (100, 300, []), (100, 300, []), (100, 300, [])]
def LX_Reader_25 (S : Nat) : xLa := [(8, 0, [some 1, some 12, some 23, none, none, none, none]), (0, 0, [none, none, some 2, some 3, some 4, some 5, some 6, some 7, some 8, some 9, some 10, some 11, none, none, none, none, none]), (100, 16, []), (100, 8, []), (101, 8, []), (101, 8, []), (100, 10, []), (101, 10, []), (100, 10, []), (100, 10, []), (100, 20, []), (101, 20, []), (0, 0, [none, none, some 13, some 14, some 15, some 16, some 17, some 18, some 19, some 20, some 21, some 22, none, none, none, none, none]), (100, 16, []), (100, 8, []), (101, 8, []), (101, 8, []), (100, 10, []), (101, 10, []), (100, 10, []), (100, 10, []), (100, 20, []), (101, 20, []), (6, 0, [some 24, none]), (100, 300, []), (4, 0, [some 26, none, none, some 30, none, none, none, none]), (3, 0, [some 29, some 27, some 28, none]), (100, 4, []), (100, 4, []), (100, 300, []), (7, 0, [some 23, some 31, some 32, some 33, none, none]), (100, 300, []), (100, 300, []), (100, 300, [])]
def LE_Program_35 (S : Nat) : xLa := [(8, 0, [some 1, some 12, some 23, some 25, some 34, none, none]), (0, 0, [none, none, some 2, some 3, some 4, some 5, some 6, some 7, some 8, some 9, some 10, some 11, none, none, none, none, none]), (100, 16, []), (100, 8, []), (101, 8, []), (101, 8, []), (100, 10, []), (101, 10, []), (100, 10, []), (100, 10, []), (100, 20, []), (101, 20, []), (0, 0, [none, none, some 13, some 14, some 15, some 16, some 17, some 18, some 19, some 20, some 21, some 22, none, none, none, none, none]), (100, 16, []), (100, 8, []), (101, 8, []), (101, 8, []), (100, 10, []), (101, 10, []), (100, 10, []), (100, 10, []), (100, 20, []), (101, 20, []), (6, 0, [some 24, none]), (100, 300, []), (4, 0, [some 26, none, none, some 30, none, none, none, none]), (3, 0, [some 29, some 27, some 28, none]), (100, 4, []), (100, 4, []), (100, 300, []), (7, 0, [some 23, some 31, some 32, some 33, none, none]), (100, 300, []), (100, 300, []), (100, 300, []), (103, 4, [none, none, none, none]), (3, 0, [none, none, none, none])]
def LX_Program_35 (S : Nat) : xLa := [(8, 0, [some 1, some 12, some 23, some 25, some 34, none, none]), (0, 0, [none, none, some 2, some 3, some 4, some 5, some 6, some 7, some 8, some 9, some 10, some 11, none, none, none, none, none]), (100, 16, []), (100, 8, []), (101, 8, []), (101, 8, []), (100, 10, []), (101, 10, []), (100, 10, []), (100, 10, []), (100, 20, []), (101, 20, []), (0, 0, [none, none, some 13, some 14, some 15, some 16, some 17, some 18, some 19, some 20, some 21, some 22, none, none, none, none, none]), (100, 16, []), (100, 8, []), (101, 8, []), (101, 8, []), (100, 10, []), (101, 10, []), (100, 10, []), (100, 10, []), (100, 20, []), (101, 20, []), (6, 0, [some 24, none]), (100, 300, []), (4, 0, [some 26, none, none, some 30, none, none, none, none]), (3, 0, [some 29, some 27, some 28, none]), (100, 4, []), (100, 4, []), (100, 300, []), (7, 0, [some 23, some 31, some 32, some 33, none, none]), (100, 300, []), (100, 300, []), (100, 300, []), (103, 4, [none, none, none, none]), (3, 0, [some 38, some 36, some 37, none]), (100, 4, []), (100, 4, []), (100, 300, [])]
def LC_Program_35 (S : Nat) : xLa := [(8, 0, [some 1, some 12, some 23, some 25, some 34, none, none]), (0, 0, [none, none, some 2, some 3, some 4, some 5, some 6, some 7, some 8, some 9, some 10, some 11, none, none, none, none, none]), (100, 16, []), (100, 8, []), (101, 8, []), (101, 8, []), (100, 10, []), (101, 10, []), (100, 10, []), (100, 10, []), (100, 20, []), (101, 20, []), (0, 0, [none, none, some 13, some 14, some 15, some 16, some 17, some 18, some 19, some 20, some 21, some 22, none, none, none, none, none]), (100, 16, []), (100, 8, []), (101, 8, []), (101, 8, []), (100, 10, []), (101, 10, []), (100, 10, []), (100, 10, []), (100, 20, []), (101, 20, []), (6, 0, [some 24, none]), (100, 300, []), (4, 0, [some 26, none, none, some 30, none, none, none, none]), (3, 0, [some 29, some 27, some 28, none]), (100, 4, []), (100, 4, []), (100, 300, []), (7, 0, [some 23, some 31, some 32, some 33, none, none]), (100, 300, []), (100, 300, []), (100, 300, []), (103, 4, [none, none, none, none]), (3, 0, [some 38, some 36, some 37, none]), (100, 4, []), (100, 4, []), (100, 300, [])]
def LE_Program_39 (S : Nat) : xLa := [(8, 0, [some 1, some 12, some 23, some 25, some 34, none, none]), (0, 0, [none, none, some 2, some 3, some 4, some 5, some 6, some 7, some 8, some 9, some 10, some 11, none, none, none, none, none]), (100, 16, []), (100, 8, []), (101, 8, []), (101, 8, []), (100, 10, []), (101, 10, []), (100, 10, []), (100, 10, []), (100, 20, []), (101, 20, []), (0, 0, [none, none, some 13, some 14, some 15, some 16, some 17, some 18, some 19, some 20, some 21, some 22, none, none, none, none, none]), (100, 16, []), (100, 8, []), (101, 8, []), (101, 8, []), (100, 10, []), (101, 10, []), (100, 10, []), (100, 10, []), (100, 20, []), (101, 20, []), (6, 0, [some 24, none]), (100, 300, []), (4, 0, [some 26, none, none, some 30, none, none, none, none]), (3, 0, [some 29, some 27, some 28, none]), (100, 4, []), (100, 4, []), (100, 300, []), (7, 0, [some 23, some 31, some 32, some 33, none, none]), (100, 300, []), (100, 300, []), (100, 300, []), (103, 4, [some 35, none, none, none]), (3, 0, [some 38, some 36, some 37, none]), (100, 4, []), (100, 4, []), (100, 300, []), (3, 0, [none, none, none, none])]
def LX_Program_39 (S : Nat) : xLa := [(8, 0, [some 1, some 12, some 23, some 25, some 34, none, none]), (0, 0, [none, none, some 2, some 3, some 4, some 5, some 6, some 7, some 8, some 9, some 10, some 11, none, none, none, none, none]), (100, 16, []), (100, 8, []), (101, 8, []), (101, 8, []), (100, 10, []), (101, 10, []), (100, 10, []), (100, 10, []), (100, 20, []), (101, 20, []), (0, 0, [none, none, some 13, some 14, some 15, some 16, some 17, some 18, some 19, some 20, some 21, some 22, none, none, none, none, none]), (100, 16, []), (100, 8, []), (101, 8, []), (101, 8, []), (100, 10, []), (101, 10, []), (100, 10, []), (100, 10, []), (100, 20, []), (101, 20, []), (6, 0, [some 24, none]), (100, 300, []), (4, 0, [some 26, none, none, some 30, none, none, none, none]), (3, 0, [some 29, some 27, some 28, none]), (100, 4, []), (100, 4, []), (100, 300, []), (7, 0, [some 23, some 31, some 32, some 33, none, none]), (100, 300, []), (100, 300, []), (100, 300, []), (103, 4, [some 35, none, none, none]), (3, 0, [some 38, some 36, some 37, none]), (100, 4, []), (100, 4, []), (100, 300, []), (3, 0, [some 42, some 40, some 41, none]), (100, 4, []), (100, 4, []), (100, 300, [])]
def LC_Program_39 (S : Nat) : xLa := [(8, 0, [some 1, some 12, some 23, some 25, some 34, none, none]), (0, 0, [none, none, some 2, some 3, some 4, some 5, some 6, some 7, some 8, some 9, some 10, some 11, none, none, none, none, none]), (100, 16, []), (100, 8, []), (101, 8, []), (101, 8, []), (100, 10, []), (101, 10, []), (100, 10, []), (100, 10, []), (100, 20, []), (101, 20, []), (0, 0, [none, none, some 13, some 14, some 15, some 16, some 17, some 18, some 19, some 20, some 21, some 22, none, none, none, none, none]), (100, 16, []), (100, 8, []), (101, 8, []), (101, 8, []), (100, 10, []), (101, 10, []), (100, 10, []), (100, 10, []), (100, 20, []), (101, 20, []), (6, 0, [some 24, none]), (100, 300, []), (4, 0, [some 26, none, none, some 30, none, none, none, none]), (3, 0, [some 29, some 27, some 28, none]), (100, 4, []), (100, 4, []), (100, 300, []), (7, 0, [some 23, some 31, some 32, some 33, none, none]), (100, 300, []), (100, 300, []), (100, 300, []), (103, 4, [some 35, none, none, none]), (3, 0, [some 38, some 36, some 37, none]), (100, 4, []), (100, 4, []), (100, 300, []), (3, 0, [some 42, some 40, some 41, none]), (100, 4, []), (100, 4, []), (100, 300, [])]
def LE_Program_43 (S : Nat) : xLa := [(8, 0, [some 1, some 12, some 23, some 25, some 34, none, none]), (0, 0, [none, none, some 2, some 3, some 4, some 5, some 6, some 7, some 8, some 9, some 10, some 11, none, none, none, none, none]), (100, 16, []), (100, 8, []), (101, 8, []), (101, 8, []), (100, 10, []), (101, 10, []), (100, 10, []), (100, 10, []), (100, 20, []), (101, 20, []), (0, 0, [none, none, some 13, some 14, some 15, some 16, some 17, some 18, some 19, some 20, some 21, some 22, none, none, none, none, none]), (100, 16, []), (100, 8, []), (101, 8, []), (101, 8, []), (100, 10, []), (101, 10, []), (100, 10, []), (100, 10, []), (100, 20, []), (101, 20, []), (6, 0, [some 24, none]), (100, 300, []), (4, 0, [some 26, none, none, some 30, none, none, none, none]), (3, 0, [some 29, some 27, some 28, none]), (100, 4, []), (100, 4, []), (100, 300, []), (7, 0, [some 23, some 31, some 32, some 33, none, none]), (100, 300, []), (100, 300, []), (100, 300, []), (103, 4, [some 35, some 39, none, none]), (3, 0, [some 38, some 36, some 37, none]), (100, 4, []), (100, 4, []), (100, 300, []), (3, 0, [some 42, some 40, some 41, none]), (100, 4, []), (100, 4, []), (100, 300, []), (3, 0, [none, none, none, none])]
def LX_Program_43 (S : Nat) : xLa := [(8, 0, [some 1, some 12, some 23, some 25, some 34, none, none]), (0, 0, [none, none, some 2, some 3, some 4, some 5, some 6, some 7, some 8, some 9, some 10, some 11, none, none, none, none, none]), (100, 16, []), (100, 8, []), (101, 8, []), (101, 8, []), (100, 10, []), (101, 10, []), (100, 10, []), (100, 10, []), (100, 20, []), (101, 20, []), (0, 0, [none, none, some 13, some 14, some 15, some 16, some 17, some 18, some 19, some 20, some 21, some 22, none, none, none, none, none]), (100, 16, []), (100, 8, []), (101, 8, []), (101, 8, []), (100, 10, []), (101, 10, []), (100, 10, []), (100, 10, []), (100, 20, []), (101, 20, []), (6, 0, [some 24, none]), (100, 300, []), (4, 0, [some 26, none, none, some 30, none, none, none, none]), (3, 0, [some 29, some 27, some 28, none]), (100, 4, []), (100, 4, []), (100, 300, []), (7, 0, [some 23, some 31, some 32, some 33, none, none]), (100, 300, []), (100, 300, []), (100, 300, []), (103, 4, [some 35, some 39, none, none]), (3, 0, [some 38, some 36, some 37, none]), (100, 4, []), (100, 4, []), (100, 300, []), (3, 0, [some 42, some 40, some 41, none]), (100, 4, []), (100, 4, []), (100, 300, []), (3, 0, [some 46, some 44, some 45, none]), (100, 4, []), (100, 4, []), (100, 300, [])]
def LC_Program_43 (S : Nat) : xLa := [(8, 0, [some 1, some 12, some 23, some 25, some 34, none, none]), (0, 0, [none, none, some 2, some 3, some 4, some 5, some 6, some 7, some 8, some 9, some 10, some 11, none, none, none, none, none]), (100, 16, []), (100, 8, []), (101, 8, []), (101, 8, []), (100, 10, []), (101, 10, []), (100, 10, []), (100, 10, []), (100, 20, []), (101, 20, []), (0, 0, [none, none, some 13, some 14, some 15, some 16, some 17, some 18, some 19, some 20, some 21, some 22, none, none, none, none, none]), (100, 16, []), (100, 8, []), (101, 8, []), (101, 8, []), (100, 10, []), (101, 10, []), (100, 10, []), (100, 10, []), (100, 20, []), (101, 20, []), (6, 0, [some 24, none]), (100, 300, []), (4, 0, [some 26, none, none, some 30, none, none, none, none]), (3, 0, [some 29, some 27, some 28, none]), (100, 4, []), (100, 4, []), (100, 300, []), (7, 0, [some 23, some 31, some 32, some 33, none, none]), (100, 300, []), (100, 300, []), (100, 300, []), (103, 4, [some 35, some 39, none, none]), (3, 0, [some 38, some 36, some 37, none]), (100, 4, []), (100, 4, []), (100, 300, []), (3, 0, [some 42, some 40, some 41, none]), (100, 4, []), (100, 4, []), (100, 300, []), (3, 0, [some 46, some 44, some 45, none]), (100, 4, []), (100, 4, []), (100, 300, [])]
def LE_Program_47 (S : Nat) : xLa := [(8, 0, [some 1, some 12, some 23, some 25, some 34, none, none]), (0, 0, [none, none, some 2, some 3, some 4, some 5, some 6, some 7, some 8, some 9, some 10, some 11, none, none, none, none, none]), (100, 16, []), (100, 8, []), (101, 8, []), (101, 8, []), (100, 10, []), (101, 10, []), (100, 10, []), (100, 10, []), (100, 20, []), (101, 20, []), (0, 0, [none, none, some 13, some 14, some 15, some 16, some 17, some 18, some 19, some 20, some 21, some 22, none, none, none, none, none]), (100, 16, []), (100, 8, []), (101, 8, []), (101, 8, []), (100, 10, []), (101, 10, []), (100, 10, []), (100, 10, []), (100, 20, []), (101, 20, []), (6, 0, [some 24, none]), (100, 300, []), (4, 0, [some 26, none, none, some 30, none, none, none, none]), (3, 0, [some 29, some 27, some 28, none]), (100, 4, []), (100, 4, []), (100, 300, []), (7, 0, [some 23, some 31, some 32, some 33, none, none]), (100, 300, []), (100, 300, []), (100, 300, []), (103, 4, [some 35, some 39, some 43, none]), (3, 0, [some 38, some 36, some 37, none]), (100, 4, []), (100, 4, []), (100, 300, []), (3, 0, [some 42, some 40, some 41, none]), (100, 4, []), (100, 4, []), (100, 300, []), (3, 0, [some 46, some 44, some 45, none]), (100, 4, []), (100, 4, []), (100, 300, []), (3, 0, [none, none, none, none])]
def LX_Program_47 (S : Nat) : xLa := [(8, 0, [some 1, some 12, some 23, some 25, some 34, none, none]), (0, 0, [none, none, some 2, some 3, some 4, some 5, some 6, some 7, some 8, some 9, some 10, some 11, none, none, none, none, none]), (100, 16, []), (100, 8, []), (101, 8, []), (101, 8, []), (100, 10, []), (101, 10, []), (100, 10, []), (100, 10, []), (100, 20, []), (101, 20, []), (0, 0, [none, none, some 13, some 14, some 15, some 16, some 17, some 18, some 19, some 20, some 21, some 22, none, none, none, none, none]), (100, 16, []), (100, 8, []), (101, 8, []), (101, 8, []), (100, 10, []), (101, 10, []), (100, 10, []), (100, 10, []), (100, 20, []), (101, 20, []), (6, 0, [some 24, none]), (100, 300, []), (4, 0, [some 26, none, none, some 30, none, none, none, none]), (3, 0, [some 29, some 27, some 28, none]), (100, 4, []), (100, 4, []), (100, 300, []), (7, 0, [some 23, some 31, some 32, some 33, none, none]), (100, 300, []), (100, 300, []), (100, 300, []), (103, 4, [some 35, some 39, some 43, none]), (3, 0, [some 38, some 36, some 37, none]), (100, 4, []), (100, 4, []), (100, 300, []), (3, 0, [some 42, some 40, some 41, none]), (100, 4, []), (100, 4, []), (100, 300, []), (3, 0, [some 46, some 44, some 45, none]), (100, 4, []), (100, 4, []), (100, 300, []), (3, 0, [some 50, some 48, some 49, none]), (100, 4, []), (100, 4, []), (100, 300, [])]
def LC_Program_47 (S : Nat) : xLa := [(8, 0, [some 1, some 12, some 23, some 25, some 34, none, none]), (0, 0, [none, none, some 2, some 3, some 4, some 5, some 6, some 7, some 8, some 9, some 10, some 11, none, none, none, none, none]), (100, 16, []), (100, 8, []), (101, 8, []), (101, 8, []), (100, 10, []), (101, 10, []), (100, 10, []), (100, 10, []), (100, 20, []), (101, 20, []), (0, 0, [none, none, some 13, some 14, some 15, some 16, some 17, some 18, some 19, some 20, some 21, some 22, none, none, none, none, none]), (100, 16, []), (100, 8, []), (101, 8, []), (101, 8, []), (100, 10, []), (101, 10, []), (100, 10, []), (100, 10, []), (100, 20, []), (101, 20, []), (6, 0, [some 24, none]), (100, 300, []), (4, 0, [some 26, none, none, some 30, none, none, none, none]), (3, 0, [some 29, some 27, some 28, none]), (100, 4, []), (100, 4, []), (100, 300, []), (7, 0, [some 23, some 31, some 32, some 33, none, none]), (100, 300, []), (100, 300, []), (100, 300, []), (103, 4, [some 35, some 39, some 43, none]), (3, 0, [some 38, some 36, some 37, none]), (100, 4, []), (100, 4, []), (100, 300, []), (3, 0, [some 42, some 40, some 41, none]), (100, 4, []), (100, 4, []), (100, 300, []), (3, 0, [some 46, some 44, some 45, none]), (100, 4, []), (100, 4, []), (100, 300, []), (3, 0, [some 50, some 48, some 49, none]), (100, 4, []), (100, 4, []), (100, 300, [])]
def LE_Optics_51 (S : Nat) : xLa := [(8, 0, [some 1, some 12, some 23, some 25, some 34, none, none]), (0, 0, [none, none, some 2, some 3, some 4, some 5, some 6, some 7, some 8, some 9, some 10, some 11, none, none, none, none, none]), (100, 16, []), (100, 8, []), (101, 8, []), (101, 8, []), (100, 10, []), (101, 10, []), (100, 10, []), (100, 10, []), (100, 20, []), (101, 20, []), (0, 0, [none, none, some 13, some 14, some 15, some 16, some 17, some 18, some 19, some 20, some 21, some 22, none, none, none, none, none]), (100, 16, []), (100, 8, []), (101, 8, []), (101, 8, []), (100, 10, []), (101, 10, []), (100, 10, []), (100, 10, []), (100, 20, []), (101, 20, []), (6, 0, [some 24, none]), (100, 300, []), (4, 0, [some 26, none, none, some 30, none, none, none, none]), (3, 0, [some 29, some 27, some 28, none]), (100, 4, []), (100, 4, []), (100, 300, []), (7, 0, [some 23, some 31, some 32, some 33, none, none]), (100, 300, []), (100, 300, []), (100, 300, []), (103, 4, [some 35, some 39, some 43, some 47]), (3, 0, [some 38, some 36, some 37, none]), (100, 4, []), (100, 4, []), (100, 300, []), (3, 0, [some 42, some 40, some 41, none]), (100, 4, []), (100, 4, []), (100, 300, []), (3, 0, [some 46, some 44, some 45, none]), (100, 4, []), (100, 4, []), (100, 300, []), (3, 0, [some 50, some 48, some 49, none]), (100, 4, []), (100, 4, []), (100, 300, []), (2, 0, [none, none, none, none])]
def LE_Program_52 (S : Nat) : xLa := [(8, 0, [some 1, some 12, some 23, some 25, some 34, none, none]), (0, 0, [none, none, some 2, some 3, some 4, some 5, some 6, some 7, some 8, some 9, some 10, some 11, none, none, none, none, none]), (100, 16, []), (100, 8, []), (101, 8, []), (101, 8, []), (100, 10, []), (101, 10, []), (100, 10, []), (100, 10, []), (100, 20, []), (101, 20, []), (0, 0, [none, none, some 13, some 14, some 15, some 16, some 17, some 18, some 19, some 20, some 21, some 22, none, none, none, none, none]), (100, 16, []), (100, 8, []), (101, 8, []), (101, 8, []), (100, 10, []), (101, 10, []), (100, 10, []), (100, 10, []), (100, 20, []), (101, 20, []), (6, 0, [some 24, none]), (100, 300, []), (4, 0, [some 26, none, none, some 30, none, none, none, none]), (3, 0, [some 29, some 27, some 28, none]), (100, 4, []), (100, 4, []), (100, 300, []), (7, 0, [some 23, some 31, some 32, some 33, none, none]), (100, 300, []), (100, 300, []), (100, 300, []), (103, 4, [some 35, some 39, some 43, some 47]), (3, 0, [some 38, some 36, some 37, none]), (100, 4, []), (100, 4, []), (100, 300, []), (3, 0, [some 42, some 40, some 41, none]), (100, 4, []), (100, 4, []), (100, 300, []), (3, 0, [some 46, some 44, some 45, none]), (100, 4, []), (100, 4, []), (100, 300, []), (3, 0, [some 50, some 48, some 49, none]), (100, 4, []), (100, 4, []), (100, 300, []), (2, 0, [none, none, none, none]), (3, 0, [none, none, none, none])]
def LX_Program_52 (S : Nat) : xLa := [(8, 0, [some 1, some 12, some 23, some 25, some 34, none, none]), (0, 0, [none, none, some 2, some 3, some 4, some 5, some 6, some 7, some 8, some 9, some 10, some 11, none, none, none, none, none]), (100, 16, []), (100, 8, []), (101, 8, []), (101, 8, []), (100, 10, []), (101, 10, []), (100, 10, []), (100, 10, []), (100, 20, []), (101, 20, []), (0, 0, [none, none, some 13, some 14, some 15, some 16, some 17, some 18, some 19, some 20, some 21, some 22, none, none, none, none, none]), (100, 16, []), (100, 8, []), (101, 8, []), (101, 8, []), (100, 10, []), (101, 10, []), (100, 10, []), (100, 10, []), (100, 20, []), (101, 20, []), (6, 0, [some 24, none]), (100, 300, []), (4, 0, [some 26, none, none, some 30, none, none, none, none]), (3, 0, [some 29, some 27, some 28, none]), (100, 4, []), (100, 4, []), (100, 300, []), (7, 0, [some 23, some 31, some 32, some 33, none, none]), (100, 300, []), (100, 300, []), (100, 300, []), (103, 4, [some 35, some 39, some 43, some 47]), (3, 0, [some 38, some 36, some 37, none]), (100, 4, []), (100, 4, []), (100, 300, []), (3, 0, [some 42, some 40, some 41, none]), (100, 4, []), (100, 4, []), (100, 300, []), (3, 0, [some 46, some 44, some 45, none]), (100, 4, []), (100, 4, []), (100, 300, []), (3, 0, [some 50, some 48, some 49, none]), (100, 4, []), (100, 4, []), (100, 300, []), (2, 0, [none, none, none, none]), (3, 0, [some 55, some 53, some 54, none]), (100, 4, []), (100, 4, []), (100, 0, [])]
def LC_Program_52 (S : Nat) : xLa := [(8, 0, [some 1, some 12, some 23, some 25, some 34, none, none]), (0, 0, [none, none, some 2, some 3, some 4, some 5, some 6, some 7, some 8, some 9, some 10, some 11, none, none, none, none, none]), (100, 16, []), (100, 8, []), (101, 8, []), (101, 8, []), (100, 10, []), (101, 10, []), (100, 10, []), (100, 10, []), (100, 20, []), (101, 20, []), (0, 0, [none, none, some 13, some 14, some 15, some 16, some 17, some 18, some 19, some 20, some 21, some 22, none, none, none, none, none]), (100, 16, []), (100, 8, []), (101, 8, []), (101, 8, []), (100, 10, []), (101, 10, []), (100, 10, []), (100, 10, []), (100, 20, []), (101, 20, []), (6, 0, [some 24, none]), (100, 300, []), (4, 0, [some 26, none, none, some 30, none, none, none, none]), (3, 0, [some 29, some 27, some 28, none]), (100, 4, []), (100, 4, []), (100, 300, []), (7, 0, [some 23, some 31, some 32, some 33, none, none]), (100, 300, []), (100, 300, []), (100, 300, []), (103, 4, [some 35, some 39, some 43, some 47]), (3, 0, [some 38, some 36, some 37, none]), (100, 4, []), (100, 4, []), (100, 300, []), (3, 0, [some 42, some 40, some 41, none]), (100, 4, []), (100, 4, []), (100, 300, []), (3, 0, [some 46, some 44, some 45, none]), (100, 4, []), (100, 4, []), (100, 300, []), (3, 0, [some 50, some 48, some 49, none]), (100, 4, []), (100, 4, []), (100, 300, []), (2, 0, [none, none, none, none]), (3, 0, [some 55, some 53, some 54, none]), (100, 4, []), (100, 4, []), (100, 0, [])]
def LE_Machine_56 (S : Nat) : xLa := [(8, 0, [some 1, some 12, some 23, some 25, some 34, none, none]), (0, 0, [none, none, some 2, some 3, some 4, some 5, some 6, some 7, some 8, some 9, some 10, some 11, none, none, none, none, none]), (100, 16, []), (100, 8, []), (101, 8, []), (101, 8, []), (100, 10, []), (101, 10, []), (100, 10, []), (100, 10, []), (100, 20, []), (101, 20, []), (0, 0, [none, none, some 13, some 14, some 15, some 16, some 17, some 18, some 19, some 20, some 21, some 22, none, none, none, none, none]), (100, 16, []), (100, 8, []), (101, 8, []), (101, 8, []), (100, 10, []), (101, 10, []), (100, 10, []), (100, 10, []), (100, 20, []), (101, 20, []), (6, 0, [some 24, none]), (100, 300, []), (4, 0, [some 26, none, none, some 30, none, none, none, none]), (3, 0, [some 29, some 27, some 28, none]), (100, 4, []), (100, 4, []), (100, 300, []), (7, 0, [some 23, some 31, some 32, some 33, none, none]), (100, 300, []), (100, 300, []), (100, 300, []), (103, 4, [some 35, some 39, some 43, some 47]), (3, 0, [some 38, some 36, some 37, none]), (100, 4, []), (100, 4, []), (100, 300, []), (3, 0, [some 42, some 40, some 41, none]), (100, 4, []), (100, 4, []), (100, 300, []), (3, 0, [some 46, some 44, some 45, none]), (100, 4, []), (100, 4, []), (100, 300, []), (3, 0, [some 50, some 48, some 49, none]), (100, 4, []), (100, 4, []), (100, 300, []), (2, 0, [none, none, some 52, none]), (3, 0, [some 55, some 53, some 54, none]), (100, 4, []), (100, 4, []), (100, 0, []), (1, 0, [none, none, none])]
def LX_Machine_56 (S : Nat) : xLa := [(8, 0, [some 1, some 12, some 23, some 25, some 34, none, none]), (0, 0, [none, none, some 2, some 3, some 4, some 5, some 6, some 7, some 8, some 9, some 10, some 11, none, none, none, none, none]), (100, 16, []), (100, 8, []), (101, 8, []), (101, 8, []), (100, 10, []), (101, 10, []), (100, 10, []), (100, 10, []), (100, 20, []), (101, 20, []), (0, 0, [none, none, some 13, some 14, some 15, some 16, some 17, some 18, some 19, some 20, some 21, some 22, none, none, none, none, none]), (100, 16, []), (100, 8, []), (101, 8, []), (101, 8, []), (100, 10, []), (101, 10, []), (100, 10, []), (100, 10, []), (100, 20, []), (101, 20, []), (6, 0, [some 24, none]), (100, 300, []), (4, 0, [some 26, none, none, some 30, none, none, none, none]), (3, 0, [some 29, some 27, some 28, none]), (100, 4, []), (100, 4, []), (100, 300, []), (7, 0, [some 23, some 31, some 32, some 33, none, none]), (100, 300, []), (100, 300, []), (100, 300, []), (103, 4, [some 35, some 39, some 43, some 47]), (3, 0, [some 38, some 36, some 37, none]), (100, 4, []), (100, 4, []), (100, 300, []), (3, 0, [some 42, some 40, some 41, none]), (100, 4, []), (100, 4, []), (100, 300, []), (3, 0, [some 46, some 44, some 45, none]), (100, 4, []), (100, 4, []), (100, 300, []), (3, 0, [some 50, some 48, some 49, none]), (100, 4, []), (100, 4, []), (100, 300, []), (2, 0, [none, none, some 52, none]), (3, 0, [some 55, some 53, some 54, none]), (100, 4, []), (100, 4, []), (100, 0, []), (1, 0, [some 57, some 58, none]), (100, 10, []), (100, 64, [])]
def LX_Optics_51 (S : Nat) : xLa := [(8, 0, [some 1, some 12, some 23, some 25, some 34, none, none]), (0, 0, [none, none, some 2, some 3, some 4, some 5, some 6, some 7, some 8, some 9, some 10, some 11, none, none, none, none, none]), (100, 16, []), (100, 8, []), (101, 8, []), (101, 8, []), (100, 10, []), (101, 10, []), (100, 10, []), (100, 10, []), (100, 20, []), (101, 20, []), (0, 0, [none, none, some 13, some 14, some 15, some 16, some 17, some 18, some 19, some 20, some 21, some 22, none, none, none, none, none]), (100, 16, []), (100, 8, []), (101, 8, []), (101, 8, []), (100, 10, []), (101, 10, []), (100, 10, []), (100, 10, []), (100, 20, []), (101, 20, []), (6, 0, [some 24, none]), (100, 300, []), (4, 0, [some 26, none, none, some 30, none, none, none, none]), (3, 0, [some 29, some 27, some 28, none]), (100, 4, []), (100, 4, []), (100, 300, []), (7, 0, [some 23, some 31, some 32, some 33, none, none]), (100, 300, []), (100, 300, []), (100, 300, []), (103, 4, [some 35, some 39, some 43, some 47]), (3, 0, [some 38, some 36, some 37, none]), (100, 4, []), (100, 4, []), (100, 300, []), (3, 0, [some 42, some 40, some 41, none]), (100, 4, []), (100, 4, []), (100, 300, []), (3, 0, [some 46, some 44, some 45, none]), (100, 4, []), (100, 4, []), (100, 300, []), (3, 0, [some 50, some 48, some 49, none]), (100, 4, []), (100, 4, []), (100, 300, []), (2, 0, [some 1, some 34, some 52, some 56]), (3, 0, [some 55, some 53, some 54, none]), (100, 4, []), (100, 4, []), (100, 0, []), (1, 0, [some 57, some 58, none]), (100, 10, []), (100, 64, [])]
def LE_Scales_59 (S : Nat) : xLa := [(8, 0, [some 1, some 12, some 23, some 25, some 34, some 51, none]), (0, 0, [none, none, some 2, some 3, some 4, some 5, some 6, some 7, some 8, some 9, some 10, some 11, none, none, none, none, none]), (100, 16, []), (100, 8, []), (101, 8, []), (101, 8, []), (100, 10, []), (101, 10, []), (100, 10, []), (100, 10, []), (100, 20, []), (101, 20, []), (0, 0, [none, none, some 13, some 14, some 15, some 16, some 17, some 18, some 19, some 20, some 21, some 22, none, none, none, none, none]), (100, 16, []), (100, 8, []), (101, 8, []), (101, 8, []), (100, 10, []), (101, 10, []), (100, 10, []), (100, 10, []), (100, 20, []), (101, 20, []), (6, 0, [some 24, none]), (100, 300, []), (4, 0, [some 26, none, none, some 30, none, none, none, none]), (3, 0, [some 29, some 27, some 28, none]), (100, 4, []), (100, 4, []), (100, 300, []), (7, 0, [some 23, some 31, some 32, some 33, none, none]), (100, 300, []), (100, 300, []), (100, 300, []), (103, 4, [some 35, some 39, some 43, some 47]), (3, 0, [some 38, some 36, some 37, none]), (100, 4, []), (100, 4, []), (100, 300, []), (3, 0, [some 42, some 40, some 41, none]), (100, 4, []), (100, 4, []), (100, 300, []), (3, 0, [some 46, some 44, some 45, none]), (100, 4, []), (100, 4, []), (100, 300, []), (3, 0, [some 50, some 48, some 49, none]), (100, 4, []), (100, 4, []), (100, 300, []), (2, 0, [some 1, some 34, some 52, some 56]), (3, 0, [some 55, some 53, some 54, none]), (100, 4, []), (100, 4, []), (100, 0, []), (1, 0, [some 57, some 58, none]), (100, 10, []), (100, 64, []), (5, 0, [none, none, none, none, none, none])]
def LS_Scales (S : Nat) : xLa := [(8, 0, [some 1, some 12, some 23, some 25, some 34, some 51, none]), (0, 0, [none, none, some 2, some 3, some 4, some 5, some 6, some 7, some 8, some 9, some 10, some 11, none, none, none, none, none]), (100, 16, []), (100, 8, []), (101, 8, []), (101, 8, []), (100, 10, []), (101, 10, []), (100, 10, []), (100, 10, []), (100, 20, []), (101, 20, []), (0, 0, [none, none, some 13, some 14, some 15, some 16, some 17, some 18, some 19, some 20, some 21, some 22, none, none, none, none, none]), (100, 16, []), (100, 8, []), (101, 8, []), (101, 8, []), (100, 10, []), (101, 10, []), (100, 10, []), (100, 10, []), (100, 20, []), (101, 20, []), (6, 0, [some 24, none]), (100, 300, []), (4, 0, [some 26, none, none, some 30, none, none, none, none]), (3, 0, [some 29, some 27, some 28, none]), (100, 4, []), (100, 4, []), (100, 300, []), (7, 0, [some 23, some 31, some 32, some 33, none, none]), (100, 300, []), (100, 300, []), (100, 300, []), (103, 4, [some 35, some 39, some 43, some 47]), (3, 0, [some 38, some 36, some 37, none]), (100, 4, []), (100, 4, []), (100, 300, []), (3, 0, [some 42, some 40, some 41, none]), (100, 4, []), (100, 4, []), (100, 300, []), (3, 0, [some 46, some 44, some 45, none]), (100, 4, []), (100, 4, []), (100, 300, []), (3, 0, [some 50, some 48, some 49, none]), (100, 4, []), (100, 4, []), (100, 300, []), (2, 0, [some 1, some 34, some 52, some 56]), (3, 0, [some 55, some 53, some 54, none]), (100, 4, []), (100, 4, []), (100, 0, []), (1, 0, [some 57, some 58, none]), (100, 10, []), (100, 64, []), (5, 0, [some 1, some 51, none, none, none, some 60]), (102, 100, [])]
def LX_Scales_59 (S : Nat) : xLa := [(8, 0, [some 1, some 12, some 23, some 25, some 34, some 51, none]), (0, 0, [none, none, some 2, some 3, some 4, some 5, some 6, some 7, some 8, some 9, some 10, some 11, none, none, none, none, none]), (100, 16, []), (100, 8, []), (101, 8, []), (101, 8, []), (100, 10, []), (101, 10, []), (100, 10, []), (100, 10, []), (100, 20, []), (101, 20, []), (0, 0, [none, none, some 13, some 14, some 15, some 16, some 17, some 18, some 19, some 20, some 21, some 22, none, none, none, none, none]), (100, 16, []), (100, 8, []), (101, 8, []), (101, 8, []), (100, 10, []), (101, 10, []), (100, 10, []), (100, 10, []), (100, 20, []), (101, 20, []), (6, 0, [some 24, none]), (100, 300, []), (4, 0, [some 26, none, none, some 30, none, none, none, none]), (3, 0, [some 29, some 27, some 28, none]), (100, 4, []), (100, 4, []), (100, 300, []), (7, 0, [some 23, some 31, some 32, some 33, none, none]), (100, 300, []), (100, 300, []), (100, 300, []), (103, 4, [some 35, some 39, some 43, some 47]), (3, 0, [some 38, some 36, some 37, none]), (100, 4, []), (100, 4, []), (100, 300, []), (3, 0, [some 42, some 40, some 41, none]), (100, 4, []), (100, 4, []), (100, 300, []), (3, 0, [some 46, some 44, some 45, none]), (100, 4, []), (100, 4, []), (100, 300, []), (3, 0, [some 50, some 48, some 49, none]), (100, 4, []), (100, 4, []), (100, 300, []), (2, 0, [some 1, some 34, some 52, some 56]), (3, 0, [some 55, some 53, some 54, none]), (100, 4, []), (100, 4, []), (100, 0, []), (1, 0, [some 57, some 58, none]), (100, 10, []), (100, 64, []), (5, 0, [some 1, some 51, none, some 61, some 62, some 60]), (102, 100, []), (102, S, []), (104, 16, [some 63, some 64, some 65, some 66, some 67, some 68, some 69, some 70, some 71, some 72, some 73, some 74, some 75, some 76, some 77, some 78]), (100, S, []), (100, S, []), (100, S, []), (100, S, []), (100, S, []), (100, S, []), (100, S, []), (100, S, []), (100, S, []), (100, S, []), (100, S, []), (100, S, []), (100, S, []), (100, S, []), (100, S, []), (100, S, [])]
def LX_Whole_0 (S : Nat) : xLa := [(8, 0, [some 1, some 12, some 23, some 25, some 34, some 51, some 59]), (0, 0, [none, none, some 2, some 3, some 4, some 5, some 6, some 7, some 8, some 9, some 10, some 11, none, none, none, none, none]), (100, 16, []), (100, 8, []), (101, 8, []), (101, 8, []), (100, 10, []), (101, 10, []), (100, 10, []), (100, 10, []), (100, 20, []), (101, 20, []), (0, 0, [none, none, some 13, some 14, some 15, some 16, some 17, some 18, some 19, some 20, some 21, some 22, none, none, none, none, none]), (100, 16, []), (100, 8, []), (101, 8, []), (101, 8, []), (100, 10, []), (101, 10, []), (100, 10, []), (100, 10, []), (100, 20, []), (101, 20, []), (6, 0, [some 24, none]), (100, 300, []), (4, 0, [some 26, none, none, some 30, none, none, none, none]), (3, 0, [some 29, some 27, some 28, none]), (100, 4, []), (100, 4, []), (100, 300, []), (7, 0, [some 23, some 31, some 32, some 33, none, none]), (100, 300, []), (100, 300, []), (100, 300, []), (103, 4, [some 35, some 39, some 43, some 47]), (3, 0, [some 38, some 36, some 37, none]), (100, 4, []), (100, 4, []), (100, 300, []), (3, 0, [some 42, some 40, some 41, none]), (100, 4, []), (100, 4, []), (100, 300, []), (3, 0, [some 46, some 44, some 45, none]), (100, 4, []), (100, 4, []), (100, 300, []), (3, 0, [some 50, some 48, some 49, none]), (100, 4, []), (100, 4, []), (100, 300, []), (2, 0, [some 1, some 34, some 52, some 56]), (3, 0, [some 55, some 53, some 54, none]), (100, 4, []), (100, 4, []), (100, 0, []), (1, 0, [some 57, some 58, none]), (100, 10, []), (100, 64, []), (5, 0, [some 1, some 51, none, some 61, some 62, some 60]), (102, 100, []), (102, S, []), (104, 16, [some 63, some 64, some 65, some 66, some 67, some 68, some 69, some 70, some 71, some 72, some 73, some 74, some 75, some 76, some 77, some 78]), (100, S, []), (100, S, []), (100, S, []), (100, S, []), (100, S, []), (100, S, []), (100, S, []), (100, S, []), (100, S, []), (100, S, []), (100, S, []), (100, S, []), (100, S, []), (100, S, []), (100, S, []), (100, S, [])]
theorem c_states {X : xXT} {P : xPT} {d S : Nat} {s : xS} {Q : xQ} (I : xRl X P) (e : nI 8 * (s.1 1 0 * s.1 1 1) = nI S) (h : Q (some (.int (nI S))) s) : P (d + 2) (LS_Scales S) 8 [.ref 1] s Q := by
  refine inX0_countStates I (yLk_e rfl) ?_
  refine rn I [] 99 ?_
  refine inX0_countCells I (yLk_e rfl) ?_
  refine rn I [] 99 ?_
  show Q (some (.int (nI 8 * (s.1 1 0 * s.1 1 1)))) s
  rw [e]
  exact h
theorem i_Fort_1 {X : xXT} {P : xPT} {Y : yXT} {C : yPT} {d S : Nat} {s : xS} {Z : yQ} {w h : Int32} (I : yRl X P Y C) (hS : S ≤ 128) (hz : ∀ s' : xS, (∀ q, (q < 1 ∨ 11 < q) → s'.1 q = s.1 q) ∧ s'.1 2 = (fun _ => nI 0) ∧ s'.1 3 = (fun _ => nI 0) ∧ s'.1 4 = (fun _ => nI 0) ∧ s'.1 5 = (fun _ => nI 0) ∧ s'.1 6 = (fun _ => nI 0) ∧ s'.1 7 = (fun _ => nI 0) ∧ s'.1 8 = (fun _ => nI 0) ∧ s'.1 9 = (fun _ => nI 0) ∧ s'.1 10 = (fun _ => nI 0) ∧ s'.1 11 = (fun _ => nI 0) ∧ s'.1 1 0 = w ∧ s'.1 1 1 = h ∧ s'.1 1 12 = nI 0 ∧ s'.1 1 13 = nI 0 ∧ s'.1 1 14 = nI 0 ∧ s'.1 1 15 = nI 0 ∧ s'.1 1 16 = -(nI 1) → Z (LX_Fort_1 S) s') : C (d + 5) (LE_Fort_1 S) 0 [.ref 1, .int w, .int h] s Z := by
  refine inX0_init I (yLk_e rfl) ?_
  refine ry I [20, 36, 52, 68, 84] 299 ?_
  refine ⟨2, rfl, 16, ⟨rfl, by decide, by decide, by decide⟩, ?_⟩
  refine ⟨3, rfl, 8, ⟨rfl, by decide, by decide, by decide⟩, ?_⟩
  refine yL_cg I (L' := LM_Fort_1_20 S) rfl ?_
  refine ry I [20, 36, 52, 68, 84] 299 ?_
  refine ⟨4, rfl, 8, ⟨rfl, by decide, by decide, by decide⟩, ?_⟩
  refine ⟨5, rfl, 8, ⟨rfl, by decide, by decide, by decide⟩, ?_⟩
  refine yL_cg I (L' := LM_Fort_1_36 S) rfl ?_
  refine ry I [20, 36, 52, 68, 84] 299 ?_
  refine ⟨6, rfl, 10, ⟨rfl, by decide, by decide, by decide⟩, ?_⟩
  refine ⟨7, rfl, 10, ⟨rfl, by decide, by decide, by decide⟩, ?_⟩
  refine yL_cg I (L' := LM_Fort_1_52 S) rfl ?_
  refine ry I [20, 36, 52, 68, 84] 299 ?_
  refine ⟨8, rfl, 10, ⟨rfl, by decide, by decide, by decide⟩, ?_⟩
  refine ⟨9, rfl, 10, ⟨rfl, by decide, by decide, by decide⟩, ?_⟩
  refine yL_cg I (L' := LM_Fort_1_68 S) rfl ?_
  refine ry I [20, 36, 52, 68, 84] 299 ?_
  refine ⟨10, rfl, 20, ⟨rfl, by decide, by decide, by decide⟩, ?_⟩
  refine ⟨11, rfl, 20, ⟨rfl, by decide, by decide, by decide⟩, ?_⟩
  refine yL_cg I (L' := LM_Fort_1_84 S) rfl ?_
  refine ry I [20, 36, 52, 68, 84] 299 ?_
  refine hz _ ⟨?_, ?_, ?_, ?_, ?_, ?_, ?_, ?_, ?_, ?_, ?_, ?_, ?_, ?_, ?_, ?_, ?_, ?_⟩
  · exact fun q hq => by rw [xW_n (by omega), xW_n (by omega), xW_n (by omega), xW_n (by omega), xW_n (by omega), xW_n (by omega), xW_n (by omega), xZr_1 (by omega), xZr_1 (by omega), xZr_1 (by omega), xZr_1 (by omega), xZr_1 (by omega), xZr_1 (by omega), xZr_1 (by omega), xZr_1 (by omega), xZr_1 (by omega), xZr_1 (by omega)]
  · exact by rw [xW_n (by decide), xW_n (by decide), xW_n (by decide), xW_n (by decide), xW_n (by decide), xW_n (by decide), xW_n (by decide), xZr_1 (by decide), xZr_1 (by decide), xZr_1 (by decide), xZr_1 (by decide), xZr_1 (by decide), xZr_1 (by decide), xZr_1 (by decide), xZr_1 (by decide), xZr_1 (by decide), xZr_s]
  · exact by rw [xW_n (by decide), xW_n (by decide), xW_n (by decide), xW_n (by decide), xW_n (by decide), xW_n (by decide), xW_n (by decide), xZr_1 (by decide), xZr_1 (by decide), xZr_1 (by decide), xZr_1 (by decide), xZr_1 (by decide), xZr_1 (by decide), xZr_1 (by decide), xZr_1 (by decide), xZr_s]
  · exact by rw [xW_n (by decide), xW_n (by decide), xW_n (by decide), xW_n (by decide), xW_n (by decide), xW_n (by decide), xW_n (by decide), xZr_1 (by decide), xZr_1 (by decide), xZr_1 (by decide), xZr_1 (by decide), xZr_1 (by decide), xZr_1 (by decide), xZr_1 (by decide), xZr_s]
  · exact by rw [xW_n (by decide), xW_n (by decide), xW_n (by decide), xW_n (by decide), xW_n (by decide), xW_n (by decide), xW_n (by decide), xZr_1 (by decide), xZr_1 (by decide), xZr_1 (by decide), xZr_1 (by decide), xZr_1 (by decide), xZr_1 (by decide), xZr_s]
  · exact by rw [xW_n (by decide), xW_n (by decide), xW_n (by decide), xW_n (by decide), xW_n (by decide), xW_n (by decide), xW_n (by decide), xZr_1 (by decide), xZr_1 (by decide), xZr_1 (by decide), xZr_1 (by decide), xZr_1 (by decide), xZr_s]
  · exact by rw [xW_n (by decide), xW_n (by decide), xW_n (by decide), xW_n (by decide), xW_n (by decide), xW_n (by decide), xW_n (by decide), xZr_1 (by decide), xZr_1 (by decide), xZr_1 (by decide), xZr_1 (by decide), xZr_s]
  · exact by rw [xW_n (by decide), xW_n (by decide), xW_n (by decide), xW_n (by decide), xW_n (by decide), xW_n (by decide), xW_n (by decide), xZr_1 (by decide), xZr_1 (by decide), xZr_1 (by decide), xZr_s]
  · exact by rw [xW_n (by decide), xW_n (by decide), xW_n (by decide), xW_n (by decide), xW_n (by decide), xW_n (by decide), xW_n (by decide), xZr_1 (by decide), xZr_1 (by decide), xZr_s]
  · exact by rw [xW_n (by decide), xW_n (by decide), xW_n (by decide), xW_n (by decide), xW_n (by decide), xW_n (by decide), xW_n (by decide), xZr_1 (by decide), xZr_s]
  · exact by rw [xW_n (by decide), xW_n (by decide), xW_n (by decide), xW_n (by decide), xW_n (by decide), xW_n (by decide), xW_n (by decide), xZr_s]
  · exact by rw [xW_s, ud_n (by decide), xW_s, ud_s]
  · exact by rw [xW_s, ud_s]
  · exact by rw [xW_s, ud_n (by decide), xW_s, ud_n (by decide), xW_s, ud_n (by decide), xW_s, ud_n (by decide), xW_s, ud_n (by decide), xW_s, ud_n (by decide), xW_s, ud_s]
  · exact by rw [xW_s, ud_n (by decide), xW_s, ud_n (by decide), xW_s, ud_n (by decide), xW_s, ud_n (by decide), xW_s, ud_n (by decide), xW_s, ud_s]
  · exact by rw [xW_s, ud_n (by decide), xW_s, ud_n (by decide), xW_s, ud_n (by decide), xW_s, ud_n (by decide), xW_s, ud_s]
  · exact by rw [xW_s, ud_n (by decide), xW_s, ud_n (by decide), xW_s, ud_n (by decide), xW_s, ud_s]
  · exact by rw [xW_s, ud_n (by decide), xW_s, ud_n (by decide), xW_s, ud_s]
theorem i_Fort_12 {X : xXT} {P : xPT} {Y : yXT} {C : yPT} {d S : Nat} {s : xS} {Z : yQ} {w h : Int32} (I : yRl X P Y C) (hS : S ≤ 128) (hz : ∀ s' : xS, (∀ q, (q < 12 ∨ 22 < q) → s'.1 q = s.1 q) ∧ s'.1 13 = (fun _ => nI 0) ∧ s'.1 14 = (fun _ => nI 0) ∧ s'.1 15 = (fun _ => nI 0) ∧ s'.1 16 = (fun _ => nI 0) ∧ s'.1 17 = (fun _ => nI 0) ∧ s'.1 18 = (fun _ => nI 0) ∧ s'.1 19 = (fun _ => nI 0) ∧ s'.1 20 = (fun _ => nI 0) ∧ s'.1 21 = (fun _ => nI 0) ∧ s'.1 22 = (fun _ => nI 0) ∧ s'.1 12 0 = w ∧ s'.1 12 1 = h ∧ s'.1 12 12 = nI 0 ∧ s'.1 12 13 = nI 0 ∧ s'.1 12 14 = nI 0 ∧ s'.1 12 15 = nI 0 ∧ s'.1 12 16 = -(nI 1) → Z (LX_Fort_12 S) s') : C (d + 5) (LE_Fort_12 S) 0 [.ref 12, .int w, .int h] s Z := by
  refine inX0_init I (yLk_e rfl) ?_
  refine ry I [20, 36, 52, 68, 84] 299 ?_
  refine ⟨13, rfl, 16, ⟨rfl, by decide, by decide, by decide⟩, ?_⟩
  refine ⟨14, rfl, 8, ⟨rfl, by decide, by decide, by decide⟩, ?_⟩
  refine yL_cg I (L' := LM_Fort_12_20 S) rfl ?_
  refine ry I [20, 36, 52, 68, 84] 299 ?_
  refine ⟨15, rfl, 8, ⟨rfl, by decide, by decide, by decide⟩, ?_⟩
  refine ⟨16, rfl, 8, ⟨rfl, by decide, by decide, by decide⟩, ?_⟩
  refine yL_cg I (L' := LM_Fort_12_36 S) rfl ?_
  refine ry I [20, 36, 52, 68, 84] 299 ?_
  refine ⟨17, rfl, 10, ⟨rfl, by decide, by decide, by decide⟩, ?_⟩
  refine ⟨18, rfl, 10, ⟨rfl, by decide, by decide, by decide⟩, ?_⟩
  refine yL_cg I (L' := LM_Fort_12_52 S) rfl ?_
  refine ry I [20, 36, 52, 68, 84] 299 ?_
  refine ⟨19, rfl, 10, ⟨rfl, by decide, by decide, by decide⟩, ?_⟩
  refine ⟨20, rfl, 10, ⟨rfl, by decide, by decide, by decide⟩, ?_⟩
  refine yL_cg I (L' := LM_Fort_12_68 S) rfl ?_
  refine ry I [20, 36, 52, 68, 84] 299 ?_
  refine ⟨21, rfl, 20, ⟨rfl, by decide, by decide, by decide⟩, ?_⟩
  refine ⟨22, rfl, 20, ⟨rfl, by decide, by decide, by decide⟩, ?_⟩
  refine yL_cg I (L' := LM_Fort_12_84 S) rfl ?_
  refine ry I [20, 36, 52, 68, 84] 299 ?_
  refine hz _ ⟨?_, ?_, ?_, ?_, ?_, ?_, ?_, ?_, ?_, ?_, ?_, ?_, ?_, ?_, ?_, ?_, ?_, ?_⟩
  · exact fun q hq => by rw [xW_n (by omega), xW_n (by omega), xW_n (by omega), xW_n (by omega), xW_n (by omega), xW_n (by omega), xW_n (by omega), xZr_1 (by omega), xZr_1 (by omega), xZr_1 (by omega), xZr_1 (by omega), xZr_1 (by omega), xZr_1 (by omega), xZr_1 (by omega), xZr_1 (by omega), xZr_1 (by omega), xZr_1 (by omega)]
  · exact by rw [xW_n (by decide), xW_n (by decide), xW_n (by decide), xW_n (by decide), xW_n (by decide), xW_n (by decide), xW_n (by decide), xZr_1 (by decide), xZr_1 (by decide), xZr_1 (by decide), xZr_1 (by decide), xZr_1 (by decide), xZr_1 (by decide), xZr_1 (by decide), xZr_1 (by decide), xZr_1 (by decide), xZr_s]
  · exact by rw [xW_n (by decide), xW_n (by decide), xW_n (by decide), xW_n (by decide), xW_n (by decide), xW_n (by decide), xW_n (by decide), xZr_1 (by decide), xZr_1 (by decide), xZr_1 (by decide), xZr_1 (by decide), xZr_1 (by decide), xZr_1 (by decide), xZr_1 (by decide), xZr_1 (by decide), xZr_s]
  · exact by rw [xW_n (by decide), xW_n (by decide), xW_n (by decide), xW_n (by decide), xW_n (by decide), xW_n (by decide), xW_n (by decide), xZr_1 (by decide), xZr_1 (by decide), xZr_1 (by decide), xZr_1 (by decide), xZr_1 (by decide), xZr_1 (by decide), xZr_1 (by decide), xZr_s]
  · exact by rw [xW_n (by decide), xW_n (by decide), xW_n (by decide), xW_n (by decide), xW_n (by decide), xW_n (by decide), xW_n (by decide), xZr_1 (by decide), xZr_1 (by decide), xZr_1 (by decide), xZr_1 (by decide), xZr_1 (by decide), xZr_1 (by decide), xZr_s]
  · exact by rw [xW_n (by decide), xW_n (by decide), xW_n (by decide), xW_n (by decide), xW_n (by decide), xW_n (by decide), xW_n (by decide), xZr_1 (by decide), xZr_1 (by decide), xZr_1 (by decide), xZr_1 (by decide), xZr_1 (by decide), xZr_s]
  · exact by rw [xW_n (by decide), xW_n (by decide), xW_n (by decide), xW_n (by decide), xW_n (by decide), xW_n (by decide), xW_n (by decide), xZr_1 (by decide), xZr_1 (by decide), xZr_1 (by decide), xZr_1 (by decide), xZr_s]
  · exact by rw [xW_n (by decide), xW_n (by decide), xW_n (by decide), xW_n (by decide), xW_n (by decide), xW_n (by decide), xW_n (by decide), xZr_1 (by decide), xZr_1 (by decide), xZr_1 (by decide), xZr_s]
  · exact by rw [xW_n (by decide), xW_n (by decide), xW_n (by decide), xW_n (by decide), xW_n (by decide), xW_n (by decide), xW_n (by decide), xZr_1 (by decide), xZr_1 (by decide), xZr_s]
  · exact by rw [xW_n (by decide), xW_n (by decide), xW_n (by decide), xW_n (by decide), xW_n (by decide), xW_n (by decide), xW_n (by decide), xZr_1 (by decide), xZr_s]
  · exact by rw [xW_n (by decide), xW_n (by decide), xW_n (by decide), xW_n (by decide), xW_n (by decide), xW_n (by decide), xW_n (by decide), xZr_s]
  · exact by rw [xW_s, ud_n (by decide), xW_s, ud_s]
  · exact by rw [xW_s, ud_s]
  · exact by rw [xW_s, ud_n (by decide), xW_s, ud_n (by decide), xW_s, ud_n (by decide), xW_s, ud_n (by decide), xW_s, ud_n (by decide), xW_s, ud_n (by decide), xW_s, ud_s]
  · exact by rw [xW_s, ud_n (by decide), xW_s, ud_n (by decide), xW_s, ud_n (by decide), xW_s, ud_n (by decide), xW_s, ud_n (by decide), xW_s, ud_s]
  · exact by rw [xW_s, ud_n (by decide), xW_s, ud_n (by decide), xW_s, ud_n (by decide), xW_s, ud_n (by decide), xW_s, ud_s]
  · exact by rw [xW_s, ud_n (by decide), xW_s, ud_n (by decide), xW_s, ud_n (by decide), xW_s, ud_s]
  · exact by rw [xW_s, ud_n (by decide), xW_s, ud_n (by decide), xW_s, ud_s]
theorem i_Tape_23 {X : xXT} {P : xPT} {Y : yXT} {C : yPT} {d S : Nat} {s : xS} {Z : yQ} (I : yRl X P Y C) (hS : S ≤ 128) (hz : ∀ s' : xS, (∀ q, (q < 23 ∨ 24 < q) → s'.1 q = s.1 q) ∧ s'.1 23 1 = nI 0 → Z (LX_Tape_23 S) s') : C (d + 5) (LE_Tape_23 S) 78 [.ref 23] s Z := by
  refine inX8_init I (yLk_e rfl) ?_
  refine ry I [] 299 ?_
  refine ⟨24, rfl, 300, ⟨rfl, by decide, by decide, by decide⟩, ?_⟩
  refine hz _ ⟨?_, ?_⟩
  · exact fun q hq => by rw [xW_n (by omega), xZr_1 (by omega)]
  · exact by rw [xW_s, ud_s]
theorem c_clear_Program_26 {X : xXT} {P : xPT} {d S : Nat} {s : xS} {Q : xQ} (I : xRl X P) (h : Q none (xW (xW (xW (xW (xW s 26 3 (nI 0)) 27 0 (-(nI 1))) 27 1 (-(nI 1))) 27 2 (-(nI 1))) 27 3 (-(nI 1)))) : P (d + 1) (LC_Program_26 S) 34 [.ref 26] s Q := by
  refine inX4_clear I (yLk_e rfl) ?_
  refine rn I [] 199 ?_
  refine xbr_t (by decide) ?_
  refine ⟨0, ⟨by decide, by decide⟩, ?_⟩
  refine xbr_t (by decide) ?_
  refine ⟨1, ⟨by decide, by decide⟩, ?_⟩
  refine xbr_t (by decide) ?_
  refine ⟨2, ⟨by decide, by decide⟩, ?_⟩
  refine xbr_t (by decide) ?_
  refine ⟨3, ⟨by decide, by decide⟩, ?_⟩
  refine xbr_f (by decide) ?_
  exact h
theorem i_Program_26 {X : xXT} {P : xPT} {Y : yXT} {C : yPT} {d S : Nat} {s : xS} {Z : yQ} (I : yRl X P Y C) (hS : S ≤ 128) (hz : ∀ s' : xS, (∀ q, (q < 26 ∨ 29 < q) → s'.1 q = s.1 q) ∧ True → Z (LX_Program_26 S) s') : C (d + 5) (LE_Program_26 S) 33 [.ref 26, .int (nI 300)] s Z := by
  refine inX4_init I (yLk_e rfl) ?_
  refine ry I [] 299 ?_
  refine ⟨27, rfl, 4, ⟨rfl, by decide, by decide, by decide⟩, ?_⟩
  refine ⟨28, rfl, 4, ⟨rfl, by decide, by decide, by decide⟩, ?_⟩
  refine g_max I.1 (yLk_e rfl) (z := nI 300) (by decide) ?_
  refine ⟨29, rfl, 300, ⟨rfl, by decide, by decide, by decide⟩, ?_⟩
  refine c_clear_Program_26 (S := S) I.1 ?_
  refine hz _ ⟨?_, ?_⟩
  · exact fun q hq => by rw [xW_n (by omega), xW_n (by omega), xW_n (by omega), xW_n (by omega), xW_n (by omega), xZr_1 (by omega), xW_n (by omega), xZr_1 (by omega), xZr_1 (by omega)]
  · exact trivial
theorem i_Tokens_30 {X : xXT} {P : xPT} {Y : yXT} {C : yPT} {d S : Nat} {s : xS} {Z : yQ} (I : yRl X P Y C) (hS : S ≤ 128) (hz : ∀ s' : xS, (∀ q, (q < 30 ∨ 33 < q) → s'.1 q = s.1 q) ∧ True → Z (LX_Tokens_30 S) s') : C (d + 5) (LE_Tokens_30 S) 82 [.ref 30, .ref 23] s Z := by
  refine inX9_init I (yLk_e rfl) ?_
  refine ry I [] 299 ?_
  refine ⟨31, rfl, 300, ⟨rfl, by decide, by decide, by decide⟩, ?_⟩
  refine ⟨32, rfl, 300, ⟨rfl, by decide, by decide, by decide⟩, ?_⟩
  refine ⟨33, rfl, 300, ⟨rfl, by decide, by decide, by decide⟩, ?_⟩
  refine hz _ ⟨?_, ?_⟩
  · exact fun q hq => by rw [xW_n (by omega), xW_n (by omega), xZr_1 (by omega), xZr_1 (by omega), xZr_1 (by omega)]
  · exact trivial
theorem i_Reader_25 {X : xXT} {P : xPT} {Y : yXT} {C : yPT} {d S : Nat} {s : xS} {Z : yQ} (I : yRl X P Y C) (hS : S ≤ 128) (hz : ∀ s' : xS, (∀ q, (q < 25 ∨ 33 < q) → s'.1 q = s.1 q) ∧ s'.1 25 1 = -(nI 1) ∧ s'.1 25 2 = -(nI 1) → Z (LX_Reader_25 S) s') : C (d + 9) (LE_Reader_25 S) 44 [.ref 25, .ref 23] s Z := by
  refine inX5_init I (yLk_e rfl) ?_
  refine ry I [] 299 ?_
  refine ⟨26, rfl, ⟨by decide, by decide⟩, ?_⟩
  refine ⟨⟨by decide, by decide⟩, i_Program_26 (S := S) I hS (fun s1 h1 => ?_)⟩
  refine ⟨30, rfl, ⟨by decide, by decide⟩, ?_⟩
  refine ⟨⟨by decide, by decide⟩, i_Tokens_30 (S := S) I hS (fun s2 h2 => ?_)⟩
  refine hz _ ⟨?_, ?_, ?_⟩
  · exact fun q hq => by rw [h2.1 q (by omega), xZr_1 (by omega), xW_n (by omega), xW_n (by omega), xW_n (by omega), xW_n (by omega), xW_n (by omega), xW_n (by omega), h1.1 q (by omega), xZr_1 (by omega)]
  · exact by rw [h2.1 25 (by omega), xZr_1 (by decide), xW_s, ud_n (by decide), xW_s, ud_n (by decide), xW_s, ud_n (by decide), xW_s, ud_n (by decide), xW_s, ud_n (by decide), xW_s, ud_s]
  · exact by rw [h2.1 25 (by omega), xZr_1 (by decide), xW_s, ud_n (by decide), xW_s, ud_n (by decide), xW_s, ud_n (by decide), xW_s, ud_n (by decide), xW_s, ud_s]
theorem c_clear_Program_35 {X : xXT} {P : xPT} {d S : Nat} {s : xS} {Q : xQ} (I : xRl X P) (h : Q none (xW (xW (xW (xW (xW s 35 3 (nI 0)) 36 0 (-(nI 1))) 36 1 (-(nI 1))) 36 2 (-(nI 1))) 36 3 (-(nI 1)))) : P (d + 1) (LC_Program_35 S) 34 [.ref 35] s Q := by
  refine inX4_clear I (yLk_e rfl) ?_
  refine rn I [] 199 ?_
  refine xbr_t (by decide) ?_
  refine ⟨0, ⟨by decide, by decide⟩, ?_⟩
  refine xbr_t (by decide) ?_
  refine ⟨1, ⟨by decide, by decide⟩, ?_⟩
  refine xbr_t (by decide) ?_
  refine ⟨2, ⟨by decide, by decide⟩, ?_⟩
  refine xbr_t (by decide) ?_
  refine ⟨3, ⟨by decide, by decide⟩, ?_⟩
  refine xbr_f (by decide) ?_
  exact h
theorem i_Program_35 {X : xXT} {P : xPT} {Y : yXT} {C : yPT} {d S : Nat} {s : xS} {Z : yQ} (I : yRl X P Y C) (hS : S ≤ 128) (hz : ∀ s' : xS, (∀ q, (q < 35 ∨ 38 < q) → s'.1 q = s.1 q) ∧ True → Z (LX_Program_35 S) s') : C (d + 5) (LE_Program_35 S) 33 [.ref 35, .int (nI 300)] s Z := by
  refine inX4_init I (yLk_e rfl) ?_
  refine ry I [] 299 ?_
  refine ⟨36, rfl, 4, ⟨rfl, by decide, by decide, by decide⟩, ?_⟩
  refine ⟨37, rfl, 4, ⟨rfl, by decide, by decide, by decide⟩, ?_⟩
  refine g_max I.1 (yLk_e rfl) (z := nI 300) (by decide) ?_
  refine ⟨38, rfl, 300, ⟨rfl, by decide, by decide, by decide⟩, ?_⟩
  refine c_clear_Program_35 (S := S) I.1 ?_
  refine hz _ ⟨?_, ?_⟩
  · exact fun q hq => by rw [xW_n (by omega), xW_n (by omega), xW_n (by omega), xW_n (by omega), xW_n (by omega), xZr_1 (by omega), xW_n (by omega), xZr_1 (by omega), xZr_1 (by omega)]
  · exact trivial
theorem c_clear_Program_39 {X : xXT} {P : xPT} {d S : Nat} {s : xS} {Q : xQ} (I : xRl X P) (h : Q none (xW (xW (xW (xW (xW s 39 3 (nI 0)) 40 0 (-(nI 1))) 40 1 (-(nI 1))) 40 2 (-(nI 1))) 40 3 (-(nI 1)))) : P (d + 1) (LC_Program_39 S) 34 [.ref 39] s Q := by
  refine inX4_clear I (yLk_e rfl) ?_
  refine rn I [] 199 ?_
  refine xbr_t (by decide) ?_
  refine ⟨0, ⟨by decide, by decide⟩, ?_⟩
  refine xbr_t (by decide) ?_
  refine ⟨1, ⟨by decide, by decide⟩, ?_⟩
  refine xbr_t (by decide) ?_
  refine ⟨2, ⟨by decide, by decide⟩, ?_⟩
  refine xbr_t (by decide) ?_
  refine ⟨3, ⟨by decide, by decide⟩, ?_⟩
  refine xbr_f (by decide) ?_
  exact h
theorem i_Program_39 {X : xXT} {P : xPT} {Y : yXT} {C : yPT} {d S : Nat} {s : xS} {Z : yQ} (I : yRl X P Y C) (hS : S ≤ 128) (hz : ∀ s' : xS, (∀ q, (q < 39 ∨ 42 < q) → s'.1 q = s.1 q) ∧ True → Z (LX_Program_39 S) s') : C (d + 5) (LE_Program_39 S) 33 [.ref 39, .int (nI 300)] s Z := by
  refine inX4_init I (yLk_e rfl) ?_
  refine ry I [] 299 ?_
  refine ⟨40, rfl, 4, ⟨rfl, by decide, by decide, by decide⟩, ?_⟩
  refine ⟨41, rfl, 4, ⟨rfl, by decide, by decide, by decide⟩, ?_⟩
  refine g_max I.1 (yLk_e rfl) (z := nI 300) (by decide) ?_
  refine ⟨42, rfl, 300, ⟨rfl, by decide, by decide, by decide⟩, ?_⟩
  refine c_clear_Program_39 (S := S) I.1 ?_
  refine hz _ ⟨?_, ?_⟩
  · exact fun q hq => by rw [xW_n (by omega), xW_n (by omega), xW_n (by omega), xW_n (by omega), xW_n (by omega), xZr_1 (by omega), xW_n (by omega), xZr_1 (by omega), xZr_1 (by omega)]
  · exact trivial
theorem c_clear_Program_43 {X : xXT} {P : xPT} {d S : Nat} {s : xS} {Q : xQ} (I : xRl X P) (h : Q none (xW (xW (xW (xW (xW s 43 3 (nI 0)) 44 0 (-(nI 1))) 44 1 (-(nI 1))) 44 2 (-(nI 1))) 44 3 (-(nI 1)))) : P (d + 1) (LC_Program_43 S) 34 [.ref 43] s Q := by
  refine inX4_clear I (yLk_e rfl) ?_
  refine rn I [] 199 ?_
  refine xbr_t (by decide) ?_
  refine ⟨0, ⟨by decide, by decide⟩, ?_⟩
  refine xbr_t (by decide) ?_
  refine ⟨1, ⟨by decide, by decide⟩, ?_⟩
  refine xbr_t (by decide) ?_
  refine ⟨2, ⟨by decide, by decide⟩, ?_⟩
  refine xbr_t (by decide) ?_
  refine ⟨3, ⟨by decide, by decide⟩, ?_⟩
  refine xbr_f (by decide) ?_
  exact h
theorem i_Program_43 {X : xXT} {P : xPT} {Y : yXT} {C : yPT} {d S : Nat} {s : xS} {Z : yQ} (I : yRl X P Y C) (hS : S ≤ 128) (hz : ∀ s' : xS, (∀ q, (q < 43 ∨ 46 < q) → s'.1 q = s.1 q) ∧ True → Z (LX_Program_43 S) s') : C (d + 5) (LE_Program_43 S) 33 [.ref 43, .int (nI 300)] s Z := by
  refine inX4_init I (yLk_e rfl) ?_
  refine ry I [] 299 ?_
  refine ⟨44, rfl, 4, ⟨rfl, by decide, by decide, by decide⟩, ?_⟩
  refine ⟨45, rfl, 4, ⟨rfl, by decide, by decide, by decide⟩, ?_⟩
  refine g_max I.1 (yLk_e rfl) (z := nI 300) (by decide) ?_
  refine ⟨46, rfl, 300, ⟨rfl, by decide, by decide, by decide⟩, ?_⟩
  refine c_clear_Program_43 (S := S) I.1 ?_
  refine hz _ ⟨?_, ?_⟩
  · exact fun q hq => by rw [xW_n (by omega), xW_n (by omega), xW_n (by omega), xW_n (by omega), xW_n (by omega), xZr_1 (by omega), xW_n (by omega), xZr_1 (by omega), xZr_1 (by omega)]
  · exact trivial
theorem c_clear_Program_47 {X : xXT} {P : xPT} {d S : Nat} {s : xS} {Q : xQ} (I : xRl X P) (h : Q none (xW (xW (xW (xW (xW s 47 3 (nI 0)) 48 0 (-(nI 1))) 48 1 (-(nI 1))) 48 2 (-(nI 1))) 48 3 (-(nI 1)))) : P (d + 1) (LC_Program_47 S) 34 [.ref 47] s Q := by
  refine inX4_clear I (yLk_e rfl) ?_
  refine rn I [] 199 ?_
  refine xbr_t (by decide) ?_
  refine ⟨0, ⟨by decide, by decide⟩, ?_⟩
  refine xbr_t (by decide) ?_
  refine ⟨1, ⟨by decide, by decide⟩, ?_⟩
  refine xbr_t (by decide) ?_
  refine ⟨2, ⟨by decide, by decide⟩, ?_⟩
  refine xbr_t (by decide) ?_
  refine ⟨3, ⟨by decide, by decide⟩, ?_⟩
  refine xbr_f (by decide) ?_
  exact h
theorem i_Program_47 {X : xXT} {P : xPT} {Y : yXT} {C : yPT} {d S : Nat} {s : xS} {Z : yQ} (I : yRl X P Y C) (hS : S ≤ 128) (hz : ∀ s' : xS, (∀ q, (q < 47 ∨ 50 < q) → s'.1 q = s.1 q) ∧ True → Z (LX_Program_47 S) s') : C (d + 5) (LE_Program_47 S) 33 [.ref 47, .int (nI 300)] s Z := by
  refine inX4_init I (yLk_e rfl) ?_
  refine ry I [] 299 ?_
  refine ⟨48, rfl, 4, ⟨rfl, by decide, by decide, by decide⟩, ?_⟩
  refine ⟨49, rfl, 4, ⟨rfl, by decide, by decide, by decide⟩, ?_⟩
  refine g_max I.1 (yLk_e rfl) (z := nI 300) (by decide) ?_
  refine ⟨50, rfl, 300, ⟨rfl, by decide, by decide, by decide⟩, ?_⟩
  refine c_clear_Program_47 (S := S) I.1 ?_
  refine hz _ ⟨?_, ?_⟩
  · exact fun q hq => by rw [xW_n (by omega), xW_n (by omega), xW_n (by omega), xW_n (by omega), xW_n (by omega), xZr_1 (by omega), xW_n (by omega), xZr_1 (by omega), xZr_1 (by omega)]
  · exact trivial
theorem c_clear_Program_52 {X : xXT} {P : xPT} {d S : Nat} {s : xS} {Q : xQ} (I : xRl X P) (h : Q none (xW (xW (xW (xW (xW s 52 3 (nI 0)) 53 0 (-(nI 1))) 53 1 (-(nI 1))) 53 2 (-(nI 1))) 53 3 (-(nI 1)))) : P (d + 1) (LC_Program_52 S) 34 [.ref 52] s Q := by
  refine inX4_clear I (yLk_e rfl) ?_
  refine rn I [] 199 ?_
  refine xbr_t (by decide) ?_
  refine ⟨0, ⟨by decide, by decide⟩, ?_⟩
  refine xbr_t (by decide) ?_
  refine ⟨1, ⟨by decide, by decide⟩, ?_⟩
  refine xbr_t (by decide) ?_
  refine ⟨2, ⟨by decide, by decide⟩, ?_⟩
  refine xbr_t (by decide) ?_
  refine ⟨3, ⟨by decide, by decide⟩, ?_⟩
  refine xbr_f (by decide) ?_
  exact h
theorem i_Program_52 {X : xXT} {P : xPT} {Y : yXT} {C : yPT} {d S : Nat} {s : xS} {Z : yQ} (I : yRl X P Y C) (hS : S ≤ 128) (hz : ∀ s' : xS, (∀ q, (q < 52 ∨ 55 < q) → s'.1 q = s.1 q) ∧ s'.1 53 0 = -(nI 1) ∧ s'.1 53 1 = -(nI 1) ∧ s'.1 53 2 = -(nI 1) ∧ s'.1 53 3 = -(nI 1) → Z (LX_Program_52 S) s') : C (d + 5) (LE_Program_52 S) 33 [.ref 52, .int (nI 0)] s Z := by
  refine inX4_init I (yLk_e rfl) ?_
  refine ry I [] 299 ?_
  refine ⟨53, rfl, 4, ⟨rfl, by decide, by decide, by decide⟩, ?_⟩
  refine ⟨54, rfl, 4, ⟨rfl, by decide, by decide, by decide⟩, ?_⟩
  refine g_max I.1 (yLk_e rfl) (z := nI 0) (by decide) ?_
  refine ⟨55, rfl, 0, ⟨rfl, by decide, by decide, by decide⟩, ?_⟩
  refine c_clear_Program_52 (S := S) I.1 ?_
  refine hz _ ⟨?_, ?_, ?_, ?_, ?_⟩
  · exact fun q hq => by rw [xW_n (by omega), xW_n (by omega), xW_n (by omega), xW_n (by omega), xW_n (by omega), xZr_1 (by omega), xW_n (by omega), xZr_1 (by omega), xZr_1 (by omega)]
  · exact by rw [xW_s, ud_n (by decide), xW_s, ud_n (by decide), xW_s, ud_n (by decide), xW_s, ud_s]
  · exact by rw [xW_s, ud_n (by decide), xW_s, ud_n (by decide), xW_s, ud_s]
  · exact by rw [xW_s, ud_n (by decide), xW_s, ud_s]
  · exact by rw [xW_s, ud_s]
theorem i_Machine_56 {X : xXT} {P : xPT} {Y : yXT} {C : yPT} {d S : Nat} {s : xS} {Z : yQ} (I : yRl X P Y C) (hS : S ≤ 128) (hz : ∀ s' : xS, (∀ q, (q < 56 ∨ 58 < q) → s'.1 q = s.1 q) ∧ s'.1 57 = (fun _ => nI 0) → Z (LX_Machine_56 S) s') : C (d + 5) (LE_Machine_56 S) 20 [.ref 56] s Z := by
  refine inX1_init I (yLk_e rfl) ?_
  refine ry I [] 299 ?_
  refine ⟨57, rfl, 10, ⟨rfl, by decide, by decide, by decide⟩, ?_⟩
  refine ⟨58, rfl, 64, ⟨rfl, by decide, by decide, by decide⟩, ?_⟩
  refine hz _ ⟨?_, ?_⟩
  · exact fun q hq => by rw [xW_n (by omega), xZr_1 (by omega), xZr_1 (by omega)]
  · exact by rw [xW_n (by decide), xZr_1 (by decide), xZr_s]
theorem i_Optics_51 {X : xXT} {P : xPT} {Y : yXT} {C : yPT} {d S : Nat} {s : xS} {Z : yQ} (I : yRl X P Y C) (hS : S ≤ 128) (hz : ∀ s' : xS, (∀ q, (q < 51 ∨ 58 < q) → s'.1 q = s.1 q) ∧ (∀ c, c < 4 → s'.1 53 c = -(nI 1)) ∧ s'.1 57 = (fun _ => nI 0) → Z (LX_Optics_51 S) s') : C (d + 9) (LE_Optics_51 S) 27 [.ref 51, .ref 1, .ref 34] s Z := by
  refine inX3_init I (yLk_e rfl) ?_
  refine ry I [] 299 ?_
  refine ⟨52, rfl, ⟨by decide, by decide⟩, ?_⟩
  refine ⟨⟨by decide, by decide⟩, i_Program_52 (S := S) I hS (fun s1 h1 => ?_)⟩
  refine ⟨56, rfl, ⟨by decide, by decide⟩, ?_⟩
  refine ⟨⟨by decide, by decide⟩, i_Machine_56 (S := S) I hS (fun s2 h2 => ?_)⟩
  refine hz _ ⟨?_, ?_, ?_⟩
  · exact fun q hq => by rw [h2.1 q (by omega), xZr_1 (by omega), h1.1 q (by omega), xZr_1 (by omega)]
  · exact fun c hc => by rw [h2.1 53 (by omega), xZr_1 (by decide)]; rcases (show c = 0 ∨ c = 1 ∨ c = 2 ∨ c = 3 by omega) with rfl | rfl | rfl | rfl <;> first | exact h1.2.1 | exact h1.2.2.1 | exact h1.2.2.2.1 | exact h1.2.2.2.2
  · exact h2.2
theorem i_Scales_59 {X : xXT} {P : xPT} {Y : yXT} {C : yPT} {d S : Nat} {s : xS} {Z : yQ} (I : yRl X P Y C) (hS : S ≤ 128) (eF : nI 8 * (s.1 1 0 * s.1 1 1) = nI S) (hz : ∀ s' : xS, (∀ q, (q < 59 ∨ 78 < q) → s'.1 q = s.1 q) ∧ s'.1 59 2 = nI S → Z (LX_Scales_59 S) s') : C (d + 9) (LE_Scales_59 S) 60 [.ref 59, .ref 1, .ref 51] s Z := by
  refine inX6_init I (yLk_e rfl) ?_
  refine ry I [] 299 ?_
  refine ⟨60, rfl, 100, ⟨rfl, by decide, by decide, by decide⟩, ?_⟩
  refine c_states I.1 (by rw [xZr_1 (by decide)]; exact eF) ?_
  refine ⟨61, rfl, S, ⟨by rw [xW_s, ud_s], by omega, by decide, by show _ + S ≤ 4000; omega⟩, ?_⟩
  refine ⟨62, rfl, 16, S, ⟨rfl, by rw [xZr_1 (by decide), xW_s, ud_s], by decide, by omega, by decide, by show _ ≤ 4000; omega⟩, ?_⟩
  refine hz _ ⟨?_, ?_⟩
  · exact fun q hq => by rw [xZn_o1 (by omega), xZr_1 (by omega), xW_n (by omega), xZr_1 (by omega)]
  · exact by rw [xZn_o1 (by omega), xZr_1 (by decide), xW_s, ud_s]
theorem i_Whole_0 {X : xXT} {P : xPT} {Y : yXT} {C : yPT} {d S : Nat} {s : xS} {Z : yQ} {v0 v1 : Int32} {w h : Nat} (I : yRl X P Y C) (hS : S ≤ 128) (w1 : yw v0 w) (h1w : yw v1 h) (eS : S = 8 * (w * h)) (hz : ∀ s' : xS, (∀ q, (q < 0 ∨ 78 < q) → s'.1 q = s.1 q) ∧ (∀ i, 1 ≤ i → i ≤ 10 → s'.1 (1 + i) = (fun _ => nI 0)) ∧ s'.1 1 0 = nI w ∧ s'.1 1 1 = nI h ∧ s'.1 1 12 = nI 0 ∧ s'.1 1 13 = nI 0 ∧ s'.1 1 14 = nI 0 ∧ s'.1 1 15 = nI 0 ∧ s'.1 1 16 = -(nI 1) ∧ (∀ i, 1 ≤ i → i ≤ 10 → s'.1 (12 + i) = (fun _ => nI 0)) ∧ s'.1 12 0 = nI w ∧ s'.1 12 1 = nI h ∧ s'.1 12 12 = nI 0 ∧ s'.1 12 13 = nI 0 ∧ s'.1 12 14 = nI 0 ∧ s'.1 12 15 = nI 0 ∧ s'.1 12 16 = -(nI 1) ∧ s'.1 23 1 = nI 0 ∧ s'.1 25 1 = -(nI 1) ∧ s'.1 25 2 = -(nI 1) ∧ (∀ c, c < 4 → s'.1 53 c = -(nI 1)) ∧ s'.1 57 = (fun _ => nI 0) ∧ s'.1 59 2 = nI S → Z (LX_Whole_0 S) s') : C (d + 19) (LE_Whole_0 S) 95 [.ref 0, .int v0, .int v1] s Z := by
  refine inX10_init I (yLk_e rfl) ?_
  refine ry I [] 299 ?_
  refine g_min I.1 (yLk_e rfl) ?_
  refine g_max I.1 (yLk_e rfl) (z := nI w) (yw_mm w1) ?_
  refine g_min I.1 (yLk_e rfl) ?_
  refine g_max I.1 (yLk_e rfl) (z := nI h) (yw_mm h1w) ?_
  refine ⟨1, rfl, ⟨by decide, by decide⟩, ?_⟩
  refine ⟨⟨by decide, by decide⟩, i_Fort_1 (S := S) I hS (fun s1 h1 => ?_)⟩
  refine ⟨12, rfl, ⟨by decide, by decide⟩, ?_⟩
  refine ⟨⟨by decide, by decide⟩, i_Fort_12 (S := S) I hS (fun s2 h2 => ?_)⟩
  refine ⟨23, rfl, ⟨by decide, by decide⟩, ?_⟩
  refine ⟨⟨by decide, by decide⟩, i_Tape_23 (S := S) I hS (fun s3 h3 => ?_)⟩
  refine ⟨25, rfl, ⟨by decide, by decide⟩, ?_⟩
  refine ⟨⟨by decide, by decide⟩, i_Reader_25 (S := S) I hS (fun s4 h4 => ?_)⟩
  refine ⟨34, rfl, 4, ⟨rfl, by decide, by decide, by decide⟩, ?_⟩
  refine xbr_t (by decide) ?_
  refine ⟨35, rfl, ⟨by decide, by decide⟩, ?_⟩
  refine ⟨⟨by decide, by decide⟩, i_Program_35 (S := S) I hS (fun s5 h5 => ?_)⟩
  refine ⟨0, ⟨by decide, by decide⟩, ?_⟩
  refine xbr_t (by decide) ?_
  refine ⟨39, rfl, ⟨by decide, by decide⟩, ?_⟩
  refine ⟨⟨by decide, by decide⟩, i_Program_39 (S := S) I hS (fun s6 h6 => ?_)⟩
  refine ⟨1, ⟨by decide, by decide⟩, ?_⟩
  refine xbr_t (by decide) ?_
  refine ⟨43, rfl, ⟨by decide, by decide⟩, ?_⟩
  refine ⟨⟨by decide, by decide⟩, i_Program_43 (S := S) I hS (fun s7 h7 => ?_)⟩
  refine ⟨2, ⟨by decide, by decide⟩, ?_⟩
  refine xbr_t (by decide) ?_
  refine ⟨47, rfl, ⟨by decide, by decide⟩, ?_⟩
  refine ⟨⟨by decide, by decide⟩, i_Program_47 (S := S) I hS (fun s8 h8 => ?_)⟩
  refine ⟨3, ⟨by decide, by decide⟩, ?_⟩
  refine xbr_f (by decide) ?_
  refine ⟨51, rfl, ⟨by decide, by decide⟩, ?_⟩
  refine ⟨⟨by decide, by decide⟩, i_Optics_51 (S := S) I hS (fun s9 h9 => ?_)⟩
  refine ⟨59, rfl, ⟨by decide, by decide⟩, ?_⟩
  refine ⟨⟨by decide, by decide⟩, i_Scales_59 (S := S) I hS (by rw [xZr_1 (by decide), h9.1 1 (by omega), xZr_1 (by decide), h8.1 1 (by omega), xZr_1 (by decide), h7.1 1 (by omega), xZr_1 (by decide), h6.1 1 (by omega), xZr_1 (by decide), h5.1 1 (by omega), xZr_1 (by decide), xZr_1 (by decide), h4.1 1 (by omega), xZr_1 (by decide), h3.1 1 (by omega), xZr_1 (by decide), h2.1 1 (by omega), xZr_1 (by decide), h1.2.2.2.2.2.2.2.2.2.2.2.1, h1.2.2.2.2.2.2.2.2.2.2.2.2.1, nml, nml, eS]) (fun s10 h10 => ?_)⟩
  refine hz _ ⟨?_, ?_, ?_, ?_, ?_, ?_, ?_, ?_, ?_, ?_, ?_, ?_, ?_, ?_, ?_, ?_, ?_, ?_, ?_, ?_, ?_, ?_, ?_⟩
  · exact fun q hq => by rw [h10.1 q (by omega), xZr_1 (by omega), h9.1 q (by omega), xZr_1 (by omega), h8.1 q (by omega), xZr_1 (by omega), h7.1 q (by omega), xZr_1 (by omega), h6.1 q (by omega), xZr_1 (by omega), h5.1 q (by omega), xZr_1 (by omega), xZr_1 (by omega), h4.1 q (by omega), xZr_1 (by omega), h3.1 q (by omega), xZr_1 (by omega), h2.1 q (by omega), xZr_1 (by omega), h1.1 q (by omega), xZr_1 (by omega)]
  · exact fun i i1 i2 => by rw [h10.1 _ (by omega), xZr_1 (by omega), h9.1 _ (by omega), xZr_1 (by omega), h8.1 _ (by omega), xZr_1 (by omega), h7.1 _ (by omega), xZr_1 (by omega), h6.1 _ (by omega), xZr_1 (by omega), h5.1 _ (by omega), xZr_1 (by omega), xZr_1 (by omega), h4.1 _ (by omega), xZr_1 (by omega), h3.1 _ (by omega), xZr_1 (by omega), h2.1 _ (by omega), xZr_1 (by omega)]; rcases (show i = 1 ∨ i = 2 ∨ i = 3 ∨ i = 4 ∨ i = 5 ∨ i = 6 ∨ i = 7 ∨ i = 8 ∨ i = 9 ∨ i = 10 by omega) with rfl | rfl | rfl | rfl | rfl | rfl | rfl | rfl | rfl | rfl <;> first | exact h1.2.1 | exact h1.2.2.1 | exact h1.2.2.2.1 | exact h1.2.2.2.2.1 | exact h1.2.2.2.2.2.1 | exact h1.2.2.2.2.2.2.1 | exact h1.2.2.2.2.2.2.2.1 | exact h1.2.2.2.2.2.2.2.2.1 | exact h1.2.2.2.2.2.2.2.2.2.1 | exact h1.2.2.2.2.2.2.2.2.2.2.1
  · exact by rw [h10.1 1 (by omega), xZr_1 (by decide), h9.1 1 (by omega), xZr_1 (by decide), h8.1 1 (by omega), xZr_1 (by decide), h7.1 1 (by omega), xZr_1 (by decide), h6.1 1 (by omega), xZr_1 (by decide), h5.1 1 (by omega), xZr_1 (by decide), xZr_1 (by decide), h4.1 1 (by omega), xZr_1 (by decide), h3.1 1 (by omega), xZr_1 (by decide), h2.1 1 (by omega), xZr_1 (by decide)]; exact h1.2.2.2.2.2.2.2.2.2.2.2.1
  · exact by rw [h10.1 1 (by omega), xZr_1 (by decide), h9.1 1 (by omega), xZr_1 (by decide), h8.1 1 (by omega), xZr_1 (by decide), h7.1 1 (by omega), xZr_1 (by decide), h6.1 1 (by omega), xZr_1 (by decide), h5.1 1 (by omega), xZr_1 (by decide), xZr_1 (by decide), h4.1 1 (by omega), xZr_1 (by decide), h3.1 1 (by omega), xZr_1 (by decide), h2.1 1 (by omega), xZr_1 (by decide)]; exact h1.2.2.2.2.2.2.2.2.2.2.2.2.1
  · exact by rw [h10.1 1 (by omega), xZr_1 (by decide), h9.1 1 (by omega), xZr_1 (by decide), h8.1 1 (by omega), xZr_1 (by decide), h7.1 1 (by omega), xZr_1 (by decide), h6.1 1 (by omega), xZr_1 (by decide), h5.1 1 (by omega), xZr_1 (by decide), xZr_1 (by decide), h4.1 1 (by omega), xZr_1 (by decide), h3.1 1 (by omega), xZr_1 (by decide), h2.1 1 (by omega), xZr_1 (by decide)]; exact h1.2.2.2.2.2.2.2.2.2.2.2.2.2.1
  · exact by rw [h10.1 1 (by omega), xZr_1 (by decide), h9.1 1 (by omega), xZr_1 (by decide), h8.1 1 (by omega), xZr_1 (by decide), h7.1 1 (by omega), xZr_1 (by decide), h6.1 1 (by omega), xZr_1 (by decide), h5.1 1 (by omega), xZr_1 (by decide), xZr_1 (by decide), h4.1 1 (by omega), xZr_1 (by decide), h3.1 1 (by omega), xZr_1 (by decide), h2.1 1 (by omega), xZr_1 (by decide)]; exact h1.2.2.2.2.2.2.2.2.2.2.2.2.2.2.1
  · exact by rw [h10.1 1 (by omega), xZr_1 (by decide), h9.1 1 (by omega), xZr_1 (by decide), h8.1 1 (by omega), xZr_1 (by decide), h7.1 1 (by omega), xZr_1 (by decide), h6.1 1 (by omega), xZr_1 (by decide), h5.1 1 (by omega), xZr_1 (by decide), xZr_1 (by decide), h4.1 1 (by omega), xZr_1 (by decide), h3.1 1 (by omega), xZr_1 (by decide), h2.1 1 (by omega), xZr_1 (by decide)]; exact h1.2.2.2.2.2.2.2.2.2.2.2.2.2.2.2.1
  · exact by rw [h10.1 1 (by omega), xZr_1 (by decide), h9.1 1 (by omega), xZr_1 (by decide), h8.1 1 (by omega), xZr_1 (by decide), h7.1 1 (by omega), xZr_1 (by decide), h6.1 1 (by omega), xZr_1 (by decide), h5.1 1 (by omega), xZr_1 (by decide), xZr_1 (by decide), h4.1 1 (by omega), xZr_1 (by decide), h3.1 1 (by omega), xZr_1 (by decide), h2.1 1 (by omega), xZr_1 (by decide)]; exact h1.2.2.2.2.2.2.2.2.2.2.2.2.2.2.2.2.1
  · exact by rw [h10.1 1 (by omega), xZr_1 (by decide), h9.1 1 (by omega), xZr_1 (by decide), h8.1 1 (by omega), xZr_1 (by decide), h7.1 1 (by omega), xZr_1 (by decide), h6.1 1 (by omega), xZr_1 (by decide), h5.1 1 (by omega), xZr_1 (by decide), xZr_1 (by decide), h4.1 1 (by omega), xZr_1 (by decide), h3.1 1 (by omega), xZr_1 (by decide), h2.1 1 (by omega), xZr_1 (by decide)]; exact h1.2.2.2.2.2.2.2.2.2.2.2.2.2.2.2.2.2
  · exact fun i i1 i2 => by rw [h10.1 _ (by omega), xZr_1 (by omega), h9.1 _ (by omega), xZr_1 (by omega), h8.1 _ (by omega), xZr_1 (by omega), h7.1 _ (by omega), xZr_1 (by omega), h6.1 _ (by omega), xZr_1 (by omega), h5.1 _ (by omega), xZr_1 (by omega), xZr_1 (by omega), h4.1 _ (by omega), xZr_1 (by omega), h3.1 _ (by omega), xZr_1 (by omega)]; rcases (show i = 1 ∨ i = 2 ∨ i = 3 ∨ i = 4 ∨ i = 5 ∨ i = 6 ∨ i = 7 ∨ i = 8 ∨ i = 9 ∨ i = 10 by omega) with rfl | rfl | rfl | rfl | rfl | rfl | rfl | rfl | rfl | rfl <;> first | exact h2.2.1 | exact h2.2.2.1 | exact h2.2.2.2.1 | exact h2.2.2.2.2.1 | exact h2.2.2.2.2.2.1 | exact h2.2.2.2.2.2.2.1 | exact h2.2.2.2.2.2.2.2.1 | exact h2.2.2.2.2.2.2.2.2.1 | exact h2.2.2.2.2.2.2.2.2.2.1 | exact h2.2.2.2.2.2.2.2.2.2.2.1
  · exact by rw [h10.1 12 (by omega), xZr_1 (by decide), h9.1 12 (by omega), xZr_1 (by decide), h8.1 12 (by omega), xZr_1 (by decide), h7.1 12 (by omega), xZr_1 (by decide), h6.1 12 (by omega), xZr_1 (by decide), h5.1 12 (by omega), xZr_1 (by decide), xZr_1 (by decide), h4.1 12 (by omega), xZr_1 (by decide), h3.1 12 (by omega), xZr_1 (by decide)]; exact h2.2.2.2.2.2.2.2.2.2.2.2.1
  · exact by rw [h10.1 12 (by omega), xZr_1 (by decide), h9.1 12 (by omega), xZr_1 (by decide), h8.1 12 (by omega), xZr_1 (by decide), h7.1 12 (by omega), xZr_1 (by decide), h6.1 12 (by omega), xZr_1 (by decide), h5.1 12 (by omega), xZr_1 (by decide), xZr_1 (by decide), h4.1 12 (by omega), xZr_1 (by decide), h3.1 12 (by omega), xZr_1 (by decide)]; exact h2.2.2.2.2.2.2.2.2.2.2.2.2.1
  · exact by rw [h10.1 12 (by omega), xZr_1 (by decide), h9.1 12 (by omega), xZr_1 (by decide), h8.1 12 (by omega), xZr_1 (by decide), h7.1 12 (by omega), xZr_1 (by decide), h6.1 12 (by omega), xZr_1 (by decide), h5.1 12 (by omega), xZr_1 (by decide), xZr_1 (by decide), h4.1 12 (by omega), xZr_1 (by decide), h3.1 12 (by omega), xZr_1 (by decide)]; exact h2.2.2.2.2.2.2.2.2.2.2.2.2.2.1
  · exact by rw [h10.1 12 (by omega), xZr_1 (by decide), h9.1 12 (by omega), xZr_1 (by decide), h8.1 12 (by omega), xZr_1 (by decide), h7.1 12 (by omega), xZr_1 (by decide), h6.1 12 (by omega), xZr_1 (by decide), h5.1 12 (by omega), xZr_1 (by decide), xZr_1 (by decide), h4.1 12 (by omega), xZr_1 (by decide), h3.1 12 (by omega), xZr_1 (by decide)]; exact h2.2.2.2.2.2.2.2.2.2.2.2.2.2.2.1
  · exact by rw [h10.1 12 (by omega), xZr_1 (by decide), h9.1 12 (by omega), xZr_1 (by decide), h8.1 12 (by omega), xZr_1 (by decide), h7.1 12 (by omega), xZr_1 (by decide), h6.1 12 (by omega), xZr_1 (by decide), h5.1 12 (by omega), xZr_1 (by decide), xZr_1 (by decide), h4.1 12 (by omega), xZr_1 (by decide), h3.1 12 (by omega), xZr_1 (by decide)]; exact h2.2.2.2.2.2.2.2.2.2.2.2.2.2.2.2.1
  · exact by rw [h10.1 12 (by omega), xZr_1 (by decide), h9.1 12 (by omega), xZr_1 (by decide), h8.1 12 (by omega), xZr_1 (by decide), h7.1 12 (by omega), xZr_1 (by decide), h6.1 12 (by omega), xZr_1 (by decide), h5.1 12 (by omega), xZr_1 (by decide), xZr_1 (by decide), h4.1 12 (by omega), xZr_1 (by decide), h3.1 12 (by omega), xZr_1 (by decide)]; exact h2.2.2.2.2.2.2.2.2.2.2.2.2.2.2.2.2.1
  · exact by rw [h10.1 12 (by omega), xZr_1 (by decide), h9.1 12 (by omega), xZr_1 (by decide), h8.1 12 (by omega), xZr_1 (by decide), h7.1 12 (by omega), xZr_1 (by decide), h6.1 12 (by omega), xZr_1 (by decide), h5.1 12 (by omega), xZr_1 (by decide), xZr_1 (by decide), h4.1 12 (by omega), xZr_1 (by decide), h3.1 12 (by omega), xZr_1 (by decide)]; exact h2.2.2.2.2.2.2.2.2.2.2.2.2.2.2.2.2.2
  · exact by rw [h10.1 23 (by omega), xZr_1 (by decide), h9.1 23 (by omega), xZr_1 (by decide), h8.1 23 (by omega), xZr_1 (by decide), h7.1 23 (by omega), xZr_1 (by decide), h6.1 23 (by omega), xZr_1 (by decide), h5.1 23 (by omega), xZr_1 (by decide), xZr_1 (by decide), h4.1 23 (by omega), xZr_1 (by decide)]; exact h3.2
  · exact by rw [h10.1 25 (by omega), xZr_1 (by decide), h9.1 25 (by omega), xZr_1 (by decide), h8.1 25 (by omega), xZr_1 (by decide), h7.1 25 (by omega), xZr_1 (by decide), h6.1 25 (by omega), xZr_1 (by decide), h5.1 25 (by omega), xZr_1 (by decide), xZr_1 (by decide)]; exact h4.2.1
  · exact by rw [h10.1 25 (by omega), xZr_1 (by decide), h9.1 25 (by omega), xZr_1 (by decide), h8.1 25 (by omega), xZr_1 (by decide), h7.1 25 (by omega), xZr_1 (by decide), h6.1 25 (by omega), xZr_1 (by decide), h5.1 25 (by omega), xZr_1 (by decide), xZr_1 (by decide)]; exact h4.2.2
  · exact fun c hc => by rw [h10.1 53 (by omega), xZr_1 (by decide)]; exact h9.2.1 c hc
  · exact by rw [h10.1 57 (by omega), xZr_1 (by decide)]; exact h9.2.2
  · exact h10.2
