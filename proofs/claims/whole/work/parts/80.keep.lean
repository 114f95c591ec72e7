/-! bounds are kept by each change of the fort -/
def SM3 (f f' : Nm) : Prop := f' 0 0 = f 0 0 ∧ f' 0 1 = f 0 1 ∧ f' 0 15 = f 0 15
theorem SM3.tr {a b c : Nm} (h : SM3 a b) (k : SM3 b c) : SM3 a c := ⟨k.1.trans h.1, k.2.1.trans h.2.1, k.2.2.trans h.2.2⟩
theorem SM3.nu {f : Nm} {j x v : Nat} (h : j ≠ 0 ∨ (x ≠ 0 ∧ x ≠ 1 ∧ x ≠ 15)) : SM3 f (nu f j x v) := ⟨nu_n (by omega), nu_n (by omega), nu_n (by omega)⟩
theorem SM3.cc {f f' : Nm} (h : SM3 f f') : cc f' = cc f := by
  show f' 0 0 * f' 0 1 = f 0 0 * f 0 1
  rw [h.1, h.2.1]
theorem FB_plc {f : Nm} {j : Nat} (h : FB f) (hj : j < cc f) (h8 : f 0 12 < 8) : FB (plc f j) ∧ SM3 f (plc f j) := by
  unfold plc
  exact ⟨(((h.put (j := 2) (x := f 0 12) (v := j) (by decide) hj).put (j := 3) (x := f 0 12) (v := 0) (by decide) (by show 0 < 2; decide)).put (j := 4) (x := f 0 12) (v := 0) (by decide) (by show 0 < 2; decide)).cnt (Or.inl ⟨rfl, by omega⟩), (((SM3.nu (Or.inl (by decide))).tr (SM3.nu (Or.inl (by decide)))).tr (SM3.nu (Or.inl (by decide)))).tr (SM3.nu (Or.inr (by decide)))⟩
theorem FB_ad1 {f : Nm} {j l : Nat} (h : FB f) (hj : j < 8) (hl : l < 2) (h20 : f 0 14 < 20) : FB (ad1 f j l) ∧ SM3 f (ad1 f j l) := by
  unfold ad1
  exact ⟨((h.put (j := 9) (x := f 0 14) (v := j) (by decide) hj).put (j := 10) (x := f 0 14) (v := l) (by decide) hl).cnt (Or.inr (Or.inr (Or.inl ⟨rfl, by omega⟩))), ((SM3.nu (Or.inl (by decide))).tr (SM3.nu (Or.inl (by decide)))).tr (SM3.nu (Or.inr (by decide)))⟩
theorem SM3.drp {f : Nm} : SM3 f (drp f) := ⟨drp_n (by decide) (by decide) (Or.inr (by decide)), drp_n (by decide) (by decide) (Or.inr (by decide)), drp_n (by decide) (by decide) (Or.inr (by decide))⟩
theorem FB_adst {f : Nm} {j l : Nat} (h : FB f) (hj : j < 8) (hl : l < 2) : FB (adst f j l) ∧ SM3 f (adst f j l) := by
  have b := h.1.2.2.1
  unfold adst
  split
  · have e : drp f 0 14 = 19 := nu_s _ _ _ _
    have := FB_ad1 (j := j) (l := l) h.dropd hj hl (by rw [e]; decide)
    exact ⟨this.1, SM3.drp.tr this.2⟩
  · exact FB_ad1 h hj hl (by omega)
theorem FB_undo {f : Nm} (h : FB f) (h0 : 0 < f 0 14) : FB (undo1 f) ∧ SM3 f (undo1 f) := by
  have b20 := h.1.2.2.1
  have b10 : f 10 (f 0 14 - 1) < 2 := h.2.1 10 (f 0 14 - 1) (by show f 0 14 - 1 < 20; omega)
  unfold undo1
  refine ⟨(h.cnt (x := 14) (v := f 0 14 - 1) (Or.inr (Or.inr (Or.inl ⟨rfl, by omega⟩)))).put (by omega) ?_, (SM3.nu (Or.inr (by decide))).tr (SM3.nu (Or.inl (by omega)))⟩
  rcases (show f 10 (f 0 14 - 1) = 0 ∨ f 10 (f 0 14 - 1) = 1 by omega) with z | z <;> (rw [z]; show _ < 2; omega)
theorem FB_wrt {f : Nm} {j h t : Nat} (hB : FB f) (hj : j < f 0 12) (hh : h < 24) (ht : t < 10) (h10 : f 0 13 < 10) : FB (wrt f j h t) ∧ SM3 f (wrt f j h t) := by
  have b8 := hB.1.1
  have b3 : f 3 j < 2 := hB.2.1 3 j (by show j < 8; omega)
  unfold wrt
  exact ⟨((((hB.put (j := 5) (x := f 0 13) (v := j) (by decide) (by show j < 8; omega)).put (j := 6) (x := f 0 13) (v := f 3 j) (by decide) b3).put (j := 7) (x := f 0 13) (v := h) (by decide) hh).put (j := 8) (x := f 0 13) (v := t) (by decide) ht).cnt (Or.inr (Or.inl ⟨rfl, by omega⟩)), ((((SM3.nu (Or.inl (by decide))).tr (SM3.nu (Or.inl (by decide)))).tr (SM3.nu (Or.inl (by decide)))).tr (SM3.nu (Or.inl (by decide)))).tr (SM3.nu (Or.inr (by decide)))⟩
theorem and31 (x : Int32) : ∃ k, k < 32 ∧ x &&& nI 31 = nI k := by
  refine ⟨(x &&& nI 31).toBitVec.toNat, ?_, ?_⟩
  · rw [Int32.toBitVec_and, BitVec.toNat_and]
    exact Nat.lt_of_le_of_lt Nat.and_le_right (by decide)
  · apply Int32.toBitVec_inj.mp
    show _ = BitVec.ofNat 32 _
    rw [BitVec.ofNat_toNat, BitVec.setWidth_eq]
theorem cut6 {N i : Nat} (hN : N ≤ 3074) (hi : i ≤ 5000) : nI N - nI 6 < nI i ↔ N < i + 6 := by
  rw [jn, jn, jn, ji_sub, ji_lt (by unfold Sm; omega) (by unfold Sm; omega)]
  omega
