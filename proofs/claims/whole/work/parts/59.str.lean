/-! String constants: length, charAt, indexOf; checkIndex as a rule of its own -/
def xRk (X : xXT) (P : xPT) : Prop := xRl X P ∧ ∀ (d : Nat) (L : xLa) (s : xS) (Q : xQ) (i n : Nat), i < n → n < 2 ^ 31 → xLok L → Q none s → P (d + 2) L 228 [.int (nI i), .int (nI n)] s Q
section STR
variable {X : xXT} {P : xPT} {d S : Nat} {s : xS} {Q : xQ}
theorem s_coder (I : xRl X P) (hS : S ≤ 128) {k : Nat} (hk : k = 903 ∨ k = 904) (h : Q (some (.int (nI 0))) s) : P (d + 1) (L0 S) 226 [.ref k] s Q := by
  refine inJ0_coder_7d493 I (L0ok hS) ?_
  rcases hk with rfl | rfl
  · refine rn I [] 99 ?_
    refine xbr_f n10 ?_
    exact ⟨⟨0, by decide, rfl⟩, h⟩
  · refine rn I [] 99 ?_
    refine xbr_f n10 ?_
    exact ⟨⟨0, by decide, rfl⟩, h⟩
theorem s_latin (I : xRl X P) (hS : S ≤ 128) {k : Nat} (hk : k = 903 ∨ k = 904) (h : Q (some (.int (nI 1))) s) : P (d + 1) (L0 S) 227 [.ref k] s Q := by
  refine inJ0_isLatin1_aae02 I (L0ok hS) ?_
  rcases hk with rfl | rfl
  · refine rn I [] 99 ?_
    refine xbr_f n10 ?_
    refine xbr_t rfl ?_
    exact ⟨bo, h⟩
  · refine rn I [] 99 ?_
    refine xbr_f n10 ?_
    refine xbr_t rfl ?_
    exact ⟨bo, h⟩
theorem sh86 : nI 86 >>> (nI 0 &&& 31) = nI 86 := by decide +kernel
theorem sh13 : nI 13 >>> (nI 0 &&& 31) = nI 13 := by decide +kernel
theorem s_len903 (I : xRl X P) (hS : S ≤ 128) (h : Q (some (.int (nI 86))) s) : P (d + 2) (L0 S) 222 [.ref 903] s Q := by
  refine inJ0_length_8abf5 I (L0ok hS) ?_
  refine rn I [] 99 ?_
  refine s_coder I hS (Or.inl rfl) ?_
  rw [← sh86] at h
  exact h
theorem s_len904 (I : xRl X P) (hS : S ≤ 128) (h : Q (some (.int (nI 13))) s) : P (d + 2) (L0 S) 222 [.ref 904] s Q := by
  refine inJ0_length_8abf5 I (L0ok hS) ?_
  refine rn I [] 99 ?_
  refine s_coder I hS (Or.inr rfl) ?_
  rw [← sh13] at h
  exact h
theorem c255 : ∀ v, v < 128 → ((nI v &&& nI 255).toUInt32 % 65536).toInt32 = nI v := by decide +kernel
theorem t86 : ∀ j, j < 86 → (xtxt 86).getD j 0 < 128 := by decide +kernel
theorem s_charAt1 (I : xRk X P) (hS : S ≤ 128) {i : Nat} (hi : i < 86) (h : Q (some (.int (nI ((xtxt 86).getD i 0)))) s) : P (d + 3) (L0 S) 229 [.ref 905, .int (nI i)] s Q := by
  refine inJ1_charAt_3b067 I.1 (L0ok hS) ?_
  refine rn I.1 [] 99 ?_
  refine I.2 d (L0 S) s _ i 86 hi (by decide) (L0ok hS) ?_
  refine ⟨i, ⟨hi, rfl⟩, ?_⟩
  rw [← c255 _ (t86 i hi)] at h
  exact ⟨⟨_, t86 i hi, c255 _ (t86 i hi)⟩, h⟩
theorem s_charAt (I : xRk X P) (hS : S ≤ 128) {i : Nat} (hi : i < 86) (h : Q (some (.int (nI ((xtxt 86).getD i 0)))) s) : P (d + 4) (L0 S) 223 [.ref 903, .int (nI i)] s Q := by
  refine inJ0_charAt_5068e I.1 (L0ok hS) ?_
  refine rn I.1 [] 99 ?_
  refine s_latin I.1 hS (Or.inl rfl) ?_
  refine xbr_f n10 ?_
  refine s_charAt1 I hS hi ?_
  exact ⟨⟨_, t86 i hi, rfl⟩, h⟩
theorem i13 : ∀ b, b < 256 → ∀ j, j < 13 → ((nI b).toInt8.toInt32 = nI ((xtxt 13).getD j 0) ↔ b = (xtxt 13).getD j 0) := by decide +kernel
theorem s_indexOfChar (I : xRl X P) (hS : S ≤ 128) {b : Nat} (hb : b < 256) (h1 : ∀ j, j < 13 → b = (xtxt 13).getD j 0 → Q (some (.int (nI j))) s) (h0 : (∀ j, j < 13 → b ≠ (xtxt 13).getD j 0) → Q (some (.int (-(nI 1)))) s) : P (d + 1) (L0 S) 232 [.ref 906, .int (nI b), .int (nI 0), .int (nI 13)] s Q := by
  have loop : ∀ m i, i + m = 13 → (∀ j, j < i → b ≠ (xtxt 13).getD j 0) → X d mJ1_indexOfChar_4cfef Q (L0 S) 7 [some (.ref 906), some (.int (nI b)), some (.int (nI 0)), some (.int (nI 13)), some (.int (nI b).toInt8.toInt32), some (.int (nI i))] [] s := by
    intro m
    induction m with
    | zero =>
      intro i hi hn
      have hi : i = 13 := hi
      subst hi
      refine rn I [] 99 ?_
      refine xbr_f (znl (Nat.le_refl _) (by decide)) ?_
      exact h0 hn
    | succ m ih =>
      intro i hi hn
      refine rn I [7] 99 ?_
      refine xbr_t (zlt (by omega) (by decide)) ?_
      refine ⟨i, ⟨by omega, rfl⟩, ?_⟩
      refine xbr_c (fun e => ?_) (fun e => ?_)
      · exact h1 i (by omega) ((i13 b hb i (by omega)).mp e.symm)
      · have q := ih (i + 1) (by omega) (fun j hj => by
          by_cases z : j = i
          · subst z
            exact fun y => e ((i13 b hb j (by omega)).mpr y).symm
          · exact hn j (by omega))
        rw [n1s i] at q
        exact q
  refine inJ1_indexOfChar_4cfef I (L0ok hS) ?_
  refine rn I [7] 99 ?_
  exact loop 13 0 (by omega) (fun j hj => absurd hj (Nat.not_lt_zero _))
theorem s_canEncode (I : xRl X P) (hS : S ≤ 128) {b : Nat} (hb : b < 256) (h : Q (some (.int (nI 1))) s) : P (d + 1) (L0 S) 230 [.int (nI b)] s Q := by
  refine inJ1_canEncode_9a6ad I (L0ok hS) ?_
  refine rn I [] 99 ?_
  refine xbr_f (zn0 (by omega)) ?_
  refine xbr_f (znl (by omega) (by omega)) ?_
  exact ⟨bo, h⟩
theorem s_minS (I : xRl X P) (hS : S ≤ 128) {x : Int32} (h : Q (some (.int x)) s) : P (d + 1) (L0 S) 220 [.int x, .int x] s Q := by
  refine inJ9_min_7cf53 I (L0ok hS) ?_
  refine rn I [] 99 ?_
  exact xbr_f Int32.lt_irrefl h
theorem s_indexOf1 (I : xRl X P) (hS : S ≤ 128) {b : Nat} (hb : b < 256) (h1 : ∀ j, j < 13 → b = (xtxt 13).getD j 0 → Q (some (.int (nI j))) s) (h0 : (∀ j, j < 13 → b ≠ (xtxt 13).getD j 0) → Q (some (.int (-(nI 1)))) s) : P (d + 2) (L0 S) 231 [.ref 906, .int (nI b), .int (nI 0), .int (nI 13)] s Q := by
  refine inJ1_indexOf_4cfef I (L0ok hS) ?_
  refine rn I [] 99 ?_
  refine s_canEncode I hS hb ?_
  refine xbr_f n10 ?_
  refine m_maxR I hS (a := 0) (b := 0) rfl rfl (Nat.le_refl _) (by decide) ?_
  refine s_minS I hS ?_
  refine xbr_t (zlt (by decide) (by decide)) ?_
  exact s_indexOfChar I hS hb h1 h0
theorem s_indexOf2 (I : xRl X P) (hS : S ≤ 128) {b : Nat} (hb : b < 256) (h1 : ∀ j, j < 13 → b = (xtxt 13).getD j 0 → Q (some (.int (nI j))) s) (h0 : (∀ j, j < 13 → b ≠ (xtxt 13).getD j 0) → Q (some (.int (-(nI 1)))) s) : P (d + 3) (L0 S) 225 [.ref 904, .int (nI b), .int (nI 0)] s Q := by
  refine inJ0_indexOf_7cf53 I (L0ok hS) ?_
  refine rn I [] 99 ?_
  refine s_latin I hS (Or.inr rfl) ?_
  refine xbr_f n10 ?_
  refine s_len904 I hS ?_
  exact s_indexOf1 I hS hb h1 h0
theorem s_indexOf (I : xRl X P) (hS : S ≤ 128) {x : Int32} {b : Nat} (ex : x = nI b) (hb : b < 256) (h1 : ∀ j, j < 13 → b = (xtxt 13).getD j 0 → Q (some (.int (nI j))) s) (h0 : (∀ j, j < 13 → b ≠ (xtxt 13).getD j 0) → Q (some (.int (-(nI 1)))) s) : P (d + 4) (L0 S) 224 [.ref 904, .int x] s Q := by
  subst ex
  refine inJ0_indexOf_0f7a4 I (L0ok hS) ?_
  refine rn I [] 99 ?_
  exact s_indexOf2 I hS hb h1 h0
end STR
