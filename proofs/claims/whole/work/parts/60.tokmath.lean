/-! tokens: words, their numbers packed and looked up -/
def wdsL : List (List Nat) := [[112, 114, 105, 111, 114], [115, 101, 101, 115], [115, 108, 105, 112], [99, 111, 115, 116], [105, 102], [101, 110, 100], [111, 114], [97, 110, 100], [110, 111, 116], [120], [121], [115, 105, 122, 101], [112, 97, 105, 110, 116, 115], [104, 105, 108, 108], [104, 111, 117, 114], [115, 99, 111, 112, 101], [116, 117, 114, 110, 101, 100], [102, 97, 114], [97, 99, 116]]
def wds (w : Nat) : List Nat := wdsL.getD w []
def ltr (t : Nat → Nat) (p m : Nat) : List Nat := (List.range m).map (fun i => t (p + i))
theorem ltr_len (t : Nat → Nat) (p m : Nat) : (ltr t p m).length = m := by unfold ltr; rw [List.length_map, List.length_range]
theorem ltr_s (t : Nat → Nat) (p m : Nat) : ltr t p (m + 1) = ltr t p m ++ [t (p + m)] := by unfold ltr; rw [List.range_succ, List.map_append]; rfl
theorem ltr_at (t : Nat → Nat) (p m : Nat) {i : Nat} (hi : i < m) : (ltr t p m).getD i 0 = t (p + i) := by
  unfold ltr
  rw [List.getD_eq_getElem?_getD, List.getElem?_map, List.getElem?_range hi]
  rfl
def stp (l : List Nat) (c : Nat) (a : Option Nat) : Option Nat := match a with
  | some k => if k < l.length ∧ l.getD k 0 = c then some (k + 1) else none
  | none => none
def wsc (l : List Nat) : List Nat → Nat → Option Nat → Option Nat
  | [], _, _ => none
  | c :: r, w, a => if c = 32 then (if a = some l.length then some w else wsc l r (w + 1) (some 0)) else wsc l r w (stp l c a)
theorem wsc_none (l r : List Nat) (w : Nat) : ∀ u : List Nat, (∀ c, c ∈ u → c ≠ 32) → wsc l (u ++ 32 :: r) w none = wsc l r (w + 1) (some 0)
  | [], _ => by
    show (if 32 = 32 then (if (none : Option Nat) = some l.length then some w else wsc l r (w + 1) (some 0)) else _) = _
    rw [if_pos rfl, if_neg (fun z => by cases z)]
  | c :: u, h => by
    show (if c = 32 then _ else wsc l (u ++ 32 :: r) w (stp l c none)) = _
    rw [if_neg (h c List.mem_cons_self)]
    exact wsc_none l r w u (fun c hc => h c (List.mem_cons_of_mem _ hc))
theorem wsc_some (l r : List Nat) (w : Nat) : ∀ (u : List Nat) (k : Nat), k ≤ l.length → (∀ c, c ∈ u → c ≠ 32) → wsc l (u ++ 32 :: r) w (some k) = if l.drop k = u then some w else wsc l r (w + 1) (some 0)
  | [], k, hk, _ => by
    show (if 32 = 32 then (if some k = some l.length then some w else wsc l r (w + 1) (some 0)) else _) = _
    rw [if_pos rfl]
    by_cases e : k = l.length
    · rw [if_pos (by rw [e]), if_pos (by rw [e]; exact List.drop_length)]
    · rw [if_neg (fun z => e (Option.some.inj z)), if_neg (fun z => e (Nat.le_antisymm hk (List.drop_eq_nil_iff.mp z)))]
  | c :: u, k, hk, h => by
    have h2 : ∀ c, c ∈ u → c ≠ 32 := fun c hc => h c (List.mem_cons_of_mem _ hc)
    show (if c = 32 then _ else wsc l (u ++ 32 :: r) w (if k < l.length ∧ l.getD k 0 = c then some (k + 1) else none)) = _
    rw [if_neg (h c List.mem_cons_self)]
    by_cases e : k < l.length
    · have ed : l.drop k = l.getD k 0 :: l.drop (k + 1) := by
        rw [List.drop_eq_getElem_cons e, List.getD_eq_getElem?_getD, List.getElem?_eq_getElem e]
        rfl
      by_cases e2 : l.getD k 0 = c
      · rw [if_pos ⟨e, e2⟩, wsc_some l r w u (k + 1) e h2, ed, e2]
        by_cases e3 : l.drop (k + 1) = u
        · rw [if_pos e3, if_pos (by rw [e3])]
        · rw [if_neg e3, if_neg (fun z => e3 (List.cons.inj z).2)]
      · rw [if_neg (fun z => e2 z.2), wsc_none l r w u h2, if_neg (fun z => e2 (by rw [ed] at z; exact (List.cons.inj z).1))]
    · rw [if_neg (fun z => e z.1), wsc_none l r w u h2, if_neg (fun z => by rw [List.drop_eq_nil_iff.mpr (by omega)] at z; cases z)]
def flw : List (List Nat) → List Nat
  | [] => []
  | u :: r => u ++ 32 :: flw r
theorem wsc_all (l : List Nat) : ∀ (us : List (List Nat)) (w : Nat), (∀ u, u ∈ us → ∀ c, c ∈ u → c ≠ 32) → (∃ j, j < us.length ∧ l = us.getD j [] ∧ wsc l (flw us) w (some 0) = some (w + j)) ∨ ((∀ j, j < us.length → l ≠ us.getD j []) ∧ wsc l (flw us) w (some 0) = none)
  | [], w, _ => Or.inr ⟨fun j hj => absurd hj (Nat.not_lt_zero _), rfl⟩
  | u :: us, w, h => by
    have e : wsc l (flw (u :: us)) w (some 0) = if l.drop 0 = u then some w else wsc l (flw us) (w + 1) (some 0) := wsc_some l (flw us) w u 0 (Nat.zero_le _) (h u List.mem_cons_self)
    rw [List.drop_zero] at e
    rw [e]
    by_cases e1 : l = u
    · exact Or.inl ⟨0, Nat.succ_pos _, e1, by rw [if_pos e1]; rfl⟩
    · rw [if_neg e1]
      rcases wsc_all l us (w + 1) (fun u hu => h u (List.mem_cons_of_mem _ hu)) with ⟨j, h1, h2, h3⟩ | ⟨h1, h2⟩
      · exact Or.inl ⟨j + 1, Nat.succ_lt_succ h1, h2, by rw [h3, show w + 1 + j = w + (j + 1) by omega]⟩
      · refine Or.inr ⟨fun j hj => ?_, h2⟩
        cases j with
        | zero => exact e1
        | succ j => exact h1 j (Nat.lt_of_succ_lt_succ hj)
theorem wsc_w (l : List Nat) : (∃ w, w < 19 ∧ l = wds w ∧ wsc l (xtxt 86) 0 (some 0) = some w) ∨ ((∀ w, w < 19 → l ≠ wds w) ∧ wsc l (xtxt 86) 0 (some 0) = none) := by
  have e : flw wdsL = xtxt 86 := by decide +kernel
  have h : ∀ u, u ∈ wdsL → ∀ c, c ∈ u → c ≠ 32 := by decide +kernel
  have := wsc_all l wdsL 0 h
  rw [e] at this
  rcases this with ⟨j, h1, h2, h3⟩ | ⟨h1, h2⟩
  · exact Or.inl ⟨j, h1, h2, by rw [h3, Nat.zero_add]⟩
  · exact Or.inr ⟨h1, h2⟩
theorem drop86 : ∀ i, i < 86 → (xtxt 86).drop i = (xtxt 86).getD i 0 :: (xtxt 86).drop (i + 1) := by decide +kernel
/-- packed -/
def pkr : List Nat → Nat
  | [] => 0
  | x :: r => 256 * pkr r + x
def pkl (l : List Nat) : Nat := pkr l.reverse
theorem pkl_s (l : List Nat) (x : Nat) : pkl (l ++ [x]) = 256 * pkl l + x := by unfold pkl; rw [List.reverse_append]; rfl
theorem pkr_inj : ∀ l l' : List Nat, (∀ x, x ∈ l → 1 ≤ x ∧ x < 256) → (∀ x, x ∈ l' → 1 ≤ x ∧ x < 256) → pkr l = pkr l' → l = l'
  | [], [], _, _, _ => rfl
  | [], y :: r, _, h, e => by
    have := h y List.mem_cons_self
    have e : 0 = 256 * pkr r + y := e
    omega
  | x :: r, [], h, _, e => by
    have := h x List.mem_cons_self
    have e : 256 * pkr r + x = 0 := e
    omega
  | x :: r, y :: q, h, h', e => by
    have a := h x List.mem_cons_self
    have b := h' y List.mem_cons_self
    have e : 256 * pkr r + x = 256 * pkr q + y := e
    have e1 : x = y := by omega
    have e2 : pkr r = pkr q := by omega
    rw [e1, pkr_inj r q (fun z hz => h z (List.mem_cons_of_mem _ hz)) (fun z hz => h' z (List.mem_cons_of_mem _ hz)) e2]
theorem pkl_inj {l l' : List Nat} (h : ∀ x, x ∈ l → 1 ≤ x ∧ x < 256) (h' : ∀ x, x ∈ l' → 1 ≤ x ∧ x < 256) (e : pkl l = pkl l') : l = l' := by
  have := pkr_inj l.reverse l'.reverse (fun x hx => h x (List.mem_reverse.mp hx)) (fun x hx => h' x (List.mem_reverse.mp hx)) e
  exact List.reverse_inj.mp this
theorem pkr_lt : ∀ l : List Nat, (∀ x, x ∈ l → 1 ≤ x ∧ x < 256) → pkr l < 256 ^ l.length
  | [], _ => by decide
  | x :: r, h => by
    have a := h x List.mem_cons_self
    have b := pkr_lt r (fun z hz => h z (List.mem_cons_of_mem _ hz))
    show 256 * pkr r + x < 256 ^ (r.length + 1)
    rw [Nat.pow_succ]
    omega
theorem pkl_lt {l : List Nat} (h : ∀ x, x ∈ l → 1 ≤ x ∧ x < 256) : pkl l < 256 ^ l.length := by
  have := pkr_lt l.reverse (fun x hx => h x (List.mem_reverse.mp hx))
  rw [List.length_reverse] at this
  exact this
/-- the reference's word: none of more than seven letters -/
def pkw (l : List Nat) : Nat := if l.length ≤ 7 then pkl l else 0
theorem wds_ok : ∀ w, w < 19 → (wds w).length ≤ 7 ∧ 1 ≤ (wds w).length ∧ ∀ x, x ∈ wds w → 1 ≤ x ∧ x < 256 := by decide +kernel
theorem wds_inj : ∀ w, w < 19 → ∀ w', w' < 19 → wds w = wds w' → w = w' := by decide +kernel
theorem pkw_w {l : List Nat} {w : Nat} (hw : w < 19) (h : ∀ x, x ∈ l → 1 ≤ x ∧ x < 256) : pkw l = pkl (wds w) ↔ l = wds w := by
  obtain ⟨a, b, c⟩ := wds_ok w hw
  unfold pkw
  constructor
  · intro e
    split at e
    · exact pkl_inj h c e
    · have := pkr_inj [] (wds w).reverse (fun x hx => by cases hx) (fun x hx => c x (List.mem_reverse.mp hx)) e
      have z := congrArg List.length this
      rw [List.length_reverse] at z
      have z : 0 = (wds w).length := z
      omega
  · intro e
    rw [e, if_pos a]
theorem pkw_lt {l : List Nat} (h : ∀ x, x ∈ l → 1 ≤ x ∧ x < 256) : pkw l < 2 ^ 56 := by
  unfold pkw
  split
  · have := pkl_lt h
    have z : 256 ^ l.length ≤ 256 ^ 7 := Nat.pow_le_pow_right (by decide) (by assumption)
    have : (256 : Nat) ^ 7 = 2 ^ 56 := by decide
    omega
  · decide
theorem s_l64 : ((nI 8).toInt64 &&& 63).toBitVec.smod 64 = 8 := by decide +kernel
theorem shl8 {a b : Nat} (ha : a < 2 ^ 48) (hb : b < 256) : (lN a <<< ((nI 8).toInt64 &&& 63)) ||| (nI b).toInt64 = lN (256 * a + b) := by
  have e : (nI b).toInt64 = lN b := by
    rw [jn, jln]
    exact ji_l (In.nt (by omega)).sm
  rw [e]
  apply Int64.toBitVec_inj.mp
  rw [Int64.toBitVec_or, Int64.toBitVec_shiftLeft, s_l64]
  show (BitVec.ofNat 64 a <<< (8 : BitVec 64)) ||| BitVec.ofNat 64 b = BitVec.ofNat 64 (256 * a + b)
  apply BitVec.eq_of_toNat_eq
  rw [BitVec.toNat_or, BitVec.shiftLeft_eq', BitVec.toNat_shiftLeft, BitVec.toNat_ofNat, BitVec.toNat_ofNat, BitVec.toNat_ofNat, Nat.mod_eq_of_lt (a := a) (by omega), Nat.mod_eq_of_lt (a := b) (by omega), Nat.mod_eq_of_lt (a := 256 * a + b) (by omega)]
  show a <<< 8 % 2 ^ 64 ||| b = 256 * a + b
  have e2 : a <<< 8 = 256 * a := by rw [Nat.shiftLeft_eq, Nat.mul_comm]
  rw [Nat.mod_eq_of_lt (by rw [e2]; omega), ← Nat.shiftLeft_add_eq_or_of_lt (by omega) a, e2]
/-- numbers -/
def nmv (t : Nat → Nat) (p : Nat) : Nat → Nat
  | 0 => 0
  | m + 1 => min 10000 (10 * nmv t p m + (t (p + m) - 48))
def nmr (t : Nat → Nat) (p : Nat) : Nat → Nat
  | 0 => 0
  | m + 1 => if nmr t p m < 100000 then 10 * nmr t p m + (t (p + m) - 48) else nmr t p m
theorem nmv_le (t : Nat → Nat) (p : Nat) : ∀ m, nmv t p m ≤ 10000
  | 0 => Nat.zero_le _
  | _ + 1 => Nat.min_le_left _ _
theorem nmr_e (t : Nat → Nat) (p : Nat) : ∀ m, nmv t p m = min 10000 (nmr t p m)
  | 0 => rfl
  | m + 1 => by
    have := nmr_e t p m
    show min 10000 (10 * nmv t p m + (t (p + m) - 48)) = min 10000 (if nmr t p m < 100000 then 10 * nmr t p m + (t (p + m) - 48) else nmr t p m)
    split <;> omega
theorem nmr_le {t : Nat → Nat} {p : Nat} : ∀ m, (∀ i, i < m → t (p + i) < 256) → nmr t p m ≤ 1000208
  | 0, _ => Nat.zero_le _
  | m + 1, h => by
    have a := nmr_le m (fun i hi => h i (by omega))
    have b := h m (by omega)
    show (if nmr t p m < 100000 then 10 * nmr t p m + (t (p + m) - 48) else nmr t p m) ≤ 1000208
    split <;> omega
def wcl (l : List Nat) (k v : Nat) : Prop := (∃ w, w < 19 ∧ l = wds w ∧ ((w < 4 ∧ k = 4 ∧ v = w) ∨ (4 ≤ w ∧ w < 9 ∧ k = w + 1 ∧ v = 0) ∨ (9 ≤ w ∧ k = 3 ∧ v = w - 9))) ∨ ((∀ w, w < 19 → l ≠ wds w) ∧ k = 1 ∧ v = 0)
def TKw (n : Nat) (t : Nat → Nat) (p e k v : Nat) : Prop := p < e ∧ e ≤ n ∧ (
  ((∀ q, p ≤ q → q < e → isL (byt n t q)) ∧ ¬ isL (byt n t e) ∧ wcl (ltr t p (e - p)) k v) ∨
  ((∀ q, p ≤ q → q < e → isF (byt n t q)) ∧ ¬ isF (byt n t e) ∧ k = 2 ∧ v = nmv t p (e - p)) ∨
  (¬ isL (byt n t p) ∧ ¬ isF (byt n t p) ∧ ((∃ j, j < 13 ∧ t p = (xtxt 13).getD j 0 ∧ v = 0 ∧ ((j < 2 ∧ byt n t (p + 1) = some 61 ∧ e = p + 2 ∧ k = 10 + j) ∨ (¬ (j < 2 ∧ byt n t (p + 1) = some 61) ∧ e = p + 1 ∧ k = 12 + j))) ∨ ((∀ j, j < 13 → t p ≠ (xtxt 13).getD j 0) ∧ e = p + 1 ∧ k = 1 ∧ v = 0))))
/-- a token from place a on: blanks, then at p a token that ends at e -/
def TKp (n : Nat) (t : Nat → Nat) (a p e k v : Nat) : Prop := a ≤ p ∧ (∀ q, a ≤ q → q < p → isB (byt n t q)) ∧ ¬ isB (byt n t p) ∧ TKw n t p e k v
theorem wcl.bd {l : List Nat} {k v : Nat} (h : wcl l k v) : 1 ≤ k ∧ k < 10 ∧ v < 10 ∧ (k = 4 → v < 4) := by
  rcases h with ⟨w, h1, h2, h3⟩ | h3 <;> omega
theorem TKw.bd {n : Nat} {t : Nat → Nat} {p e k v : Nat} (h : TKw n t p e k v) : 1 ≤ k ∧ k < 25 ∧ v ≤ 10000 ∧ (k = 4 → v < 4) ∧ (k = 3 → v < 10) := by
  obtain ⟨h1, h2, h3⟩ := h
  rcases h3 with ⟨-, -, h3⟩ | ⟨-, -, h3, h4⟩ | ⟨-, -, ⟨j, h3, -, h4, h5⟩ | ⟨-, -, h3, h4⟩⟩
  · have := h3.bd
    omega
  · have := nmv_le t p (e - p)
    omega
  · rcases h5 with h5 | h5 <;> omega
  · omega
theorem byt_some {n : Nat} {t : Nat → Nat} {p b : Nat} (h : byt n t p = some b) : p < n ∧ t p = b := by
  unfold byt at h
  split at h
  · exact ⟨by assumption, Option.some.inj h⟩
  · cases h
theorem byt_in {n : Nat} {t : Nat → Nat} {p : Nat} (h : p < n) : byt n t p = some (t p) := if_pos h
theorem byt_out {n : Nat} {t : Nat → Nat} {p : Nat} (h : n ≤ p) : byt n t p = none := if_neg (by omega)
