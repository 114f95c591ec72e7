/-! the reference's nextToken -/
def TRel (k v : Nat) (tok num : Int32) (wd : Int64) : Prop :=
  (k = 0 ∧ tok = nI 0) ∨
  (k = 2 ∧ tok = nI 1 ∧ ∃ r, r ≤ 1000208 ∧ num = nI r ∧ v = min 10000 r) ∨
  (tok = nI 2 ∧ ∃ l : List Nat, (∀ x, x ∈ l → 1 ≤ x ∧ x < 256) ∧ wd = lN (pkw l) ∧ wcl l k v) ∨
  (k = 1 ∧ (tok = nI 3 ∨ tok = nI 44)) ∨ (k = 10 ∧ tok = nI 4) ∨ (k = 11 ∧ tok = nI 5) ∨ (∃ j, j < 13 ∧ k = 12 + j ∧ tok = nI ((xtxt 13).getD j 0))
/-- a token or the end -/
def TKo (n : Nat) (t : Nat → Nat) (a p e k v : Nat) : Prop := TKp n t a p e k v ∨ (k = 0 ∧ v = 0 ∧ p = n ∧ e = n ∧ a ≤ n ∧ ∀ q, a ≤ q → q < n → isB (byt n t q))
def fN (s s' : xS) : Prop := (∀ q, q ≠ 79 → s'.1 q = s.1 q) ∧ (∀ i, (i < 9 ∨ 12 < i) → s'.1 79 i = s.1 79 i) ∧ (∀ q, q ≠ 79 → s'.2 q = s.2 q) ∧ (∀ i, i ≠ 13 → s'.2 79 i = s.2 79 i)
theorem fN.tr {a b c : xS} (h : fN a b) (k : fN b c) : fN a c := ⟨fun q h1 => (k.1 q h1).trans (h.1 q h1), fun q h1 => (k.2.1 q h1).trans (h.2.1 q h1), fun q h1 => (k.2.2.1 q h1).trans (h.2.2.1 q h1), fun q h1 => (k.2.2.2 q h1).trans (h.2.2.2 q h1)⟩
theorem fN.rf {a : xS} : fN a a := ⟨fun _ _ => rfl, fun _ _ => rfl, fun _ _ => rfl, fun _ _ => rfl⟩
theorem fNw {s : xS} {z : Nat} {x : Int32} (h1 : 9 ≤ z) (h2 : z ≤ 12) : fN s (xW s 79 z x) := ⟨fun _ h => xW_n h, fun i hi => by rw [xW_s, ud_n (by omega)], fun _ _ => rfl, fun _ _ => rfl⟩
theorem fNl {s : xS} {x : Int64} : fN s (xWl s 79 13 x) := ⟨fun _ _ => rfl, fun _ _ => rfl, fun _ h => xWl_n h, fun i hi => by rw [xWl_s, pk_uLn hi]⟩
theorem TM.N {s s' : xS} {n : Nat} {t : Nat → Nat} (h : TM s n t) (f : fN s s') : TM s' n t := ⟨by rw [f.2.1 6 (by omega)]; exact h.1, fun i hi => by rw [f.1 83 (by decide)]; exact h.2 i hi⟩
theorem m13 : ∀ j, j < 13 → (xtxt 13).getD j 0 ≠ 44 ∧ ((xtxt 13).getD j 0 = 60 → j = 0) ∧ ((xtxt 13).getD j 0 = 62 → j = 1) ∧ (xtxt 13).getD j 0 < 64 := by decide +kernel
theorem m13i : ∀ c, c ∈ [60, 62, 61, 35, 43, 45, 42, 47, 40, 41, 59, 63, 58] → ∃ j, j < 13 ∧ c = (xtxt 13).getD j 0 := by
  intro c hc
  have : ∀ c, c ∈ [60, 62, 61, 35, 43, 45, 42, 47, 40, 41, 59, 63, 58] → (List.range 13).any (fun j => c == (xtxt 13).getD j 0) = true := by decide +kernel
  obtain ⟨j, h1, h2⟩ := List.any_eq_true.mp (this c hc)
  exact ⟨j, List.mem_range.mp h1, by simpa using h2⟩
theorem m13o : ∀ j, j < 13 → (xtxt 13).getD j 0 ∈ [60, 62, 61, 35, 43, 45, 42, 47, 40, 41, 59, 63, 58] := by decide +kernel
section NEXT
variable {X : xXT} {P : xPT} {d S : Nat} {s : xS} {Q : xQ} {n : Nat} {t : Nat → Nat}
theorem q_next_num (I : xRl X P) (hS : S ≤ 128) (hM : TM s n t) (hn : n ≤ 300) (hb : ∀ i, i < n → t i < 256) {p e : Nat} {c : Int32} (hpe : p < e) (hen : e ≤ n) (hq : ∀ q, p ≤ q → q < e → isF (byt n t q)) (hnq : ¬ isF (byt n t e)) (h : ∀ s' : xS, s'.1 79 9 = nI e → s'.1 79 10 = nI p → TRel 2 (nmv t p (e - p)) (s'.1 79 11) (s'.1 79 12) (s'.2 79 13) → fN s s' → Q none s') : ∀ m i, p + i + m = e → ∀ s' : xS, s'.1 79 9 = nI (p + i) → s'.1 79 10 = nI p → s'.1 79 11 = nI 1 → s'.1 79 12 = nI (nmr t p i) → fN s s' → X (d + 2) mX11_nextToken Q (L0 S) 85 [some (.ref 79), some (.int c), none] [] s' := by
  intro m
  induction m with
  | zero =>
    intro i hi s' h9 h10 h11 h12 hf
    have hi : p + i = e := hi
    refine rn I [] 199 ?_
    refine q_byteAt I hS (hM.N hf) hn (p := p + i) (by omega) h9 ?_
    refine q_isDigit I hS (byt_b hb _) (fun z => absurd (by rw [← hi]; exact z) hnq) (fun _ => ?_)
    refine xbr_t rfl ?_
    refine h s' (by rw [h9, hi]) h10 (Or.inr (Or.inl ⟨rfl, h11, nmr t p i, nmr_le i (fun j hj => hb _ (by omega)), h12, ?_⟩)) hf
    rw [show e - p = i by omega]
    exact nmr_e t p i
  | succ m ih =>
    intro i hi s' h9 h10 h11 h12 hf
    have hF := hq (p + i) (by omega) (by omega)
    have nb := nmr_le (t := t) (p := p) i (fun j hj => hb _ (by omega))
    have GO : ∀ s'' : xS, s''.1 79 9 = nI (p + i) → s''.1 79 10 = nI p → s''.1 79 11 = nI 1 → s''.1 79 12 = nI (nmr t p (i + 1)) → fN s s'' → X (d + 2) mX11_nextToken Q (L0 S) 131 [some (.ref 79), some (.int c), none] [] s'' := by
      intro s'' g9 g10 g11 g12 gf
      refine rn I [85] 199 ?_
      refine ih (i + 1) (by omega) (xW s'' 79 9 (s''.1 79 9 + nI 1)) ?_ ?_ ?_ ?_ (gf.tr (fNw (by decide) (by decide)))
      · rw [xW_s, ud_s, g9, nad]; rfl
      · rw [xW_s, ud_n (by decide)]; exact g10
      · rw [xW_s, ud_n (by decide)]; exact g11
      · rw [xW_s, ud_n (by decide)]; exact g12
    refine rn I [131] 199 ?_
    refine q_byteAt I hS (hM.N hf) hn (p := p + i) (by omega) h9 ?_
    refine q_isDigit I hS (byt_b hb _) (fun _ => ?_) (fun z => absurd hF z)
    refine xbr_f n10 ?_
    by_cases hl : nmr t p i < 100000
    · refine xbr_t (by rw [h12]; exact zlt hl (by decide)) ?_
      refine q_byteAt I hS (hM.N hf) hn (p := p + i) (by omega) h9 ?_
      obtain ⟨b, eb, b1, b2⟩ := hF
      have tb := (byt_some eb).2
      have ev : nI 10 * s'.1 79 12 + o32 (byt n t (p + i)) - nI 48 = nI (nmr t p (i + 1)) := by
        rw [h12, eb]
        show nI 10 * nI (nmr t p i) + nI b - nI 48 = nI (if nmr t p i < 100000 then 10 * nmr t p i + (t (p + i) - 48) else nmr t p i)
        rw [if_pos hl, nml, nad, nsb (by omega)]
        congr 1
        omega
      refine GO _ ?_ ?_ ?_ ?_ (hf.tr (fNw (by decide) (by decide)))
      · rw [xW_s, ud_n (by decide)]; exact h9
      · rw [xW_s, ud_n (by decide)]; exact h10
      · rw [xW_s, ud_n (by decide)]; exact h11
      · rw [xW_s, ud_s]; exact ev
    · refine xbr_f (by rw [h12]; exact znl (by omega) (by omega)) ?_
      refine GO s' h9 h10 h11 ?_ hf
      rw [h12]
      show _ = nI (if nmr t p i < 100000 then 10 * nmr t p i + (t (p + i) - 48) else nmr t p i)
      rw [if_neg hl]
theorem ltr_in {t : Nat → Nat} {p i : Nat} (h : ∀ q, p ≤ q → q < p + i → 1 ≤ t q ∧ t q < 256) : ∀ x, x ∈ ltr t p i → 1 ≤ x ∧ x < 256 := by
  intro x hx
  unfold ltr at hx
  obtain ⟨j, h1, h2⟩ := List.mem_map.mp hx
  have := List.mem_range.mp h1
  rw [← h2]
  exact h (p + j) (by omega) (by omega)
def m7 (i : Nat) : Nat := if i < 7 then i else 7
theorem q_next_word (I : xRl X P) (hS : S ≤ 128) (hM : TM s n t) (hn : n ≤ 300) (hb : ∀ i, i < n → t i < 256) {p e k v : Nat} {c : Int32} (hpe : p < e) (hen : e ≤ n) (hq : ∀ q, p ≤ q → q < e → isL (byt n t q)) (hnq : ¬ isL (byt n t e)) (hw : wcl (ltr t p (e - p)) k v) (h : ∀ s' : xS, s'.1 79 9 = nI e → s'.1 79 10 = nI p → TRel k v (s'.1 79 11) (s'.1 79 12) (s'.2 79 13) → fN s s' → Q none s') : ∀ m i, p + i + m = e → ∀ s' : xS, s'.1 79 9 = nI (p + i) → s'.1 79 10 = nI p → s'.1 79 11 = nI 2 → s'.2 79 13 = lN (pkl (ltr t p (m7 i))) → fN s s' → X (d + 2) mX11_nextToken Q (L0 S) 161 [some (.ref 79), some (.int c), none] [] s' := by
  have L1 : ∀ q, p ≤ q → q < e → 1 ≤ t q ∧ t q < 256 := fun q h1 h2 => by
    obtain ⟨b, eb, z⟩ := hq q h1 h2
    have := (byt_some eb).2
    omega
  intro m
  induction m with
  | zero =>
    intro i hi s' h9 h10 h11 h13 hf
    have hi : p + i = e := hi
    have es : s'.1 79 9 - s'.1 79 10 = nI i := by rw [h9, h10, nsb (by omega), Nat.add_sub_cancel_left]
    have Li := ltr_in (t := t) (p := p) (i := i) (fun q h1 h2 => L1 q h1 (by omega))
    rw [show e - p = i by omega] at hw
    refine rn I [] 199 ?_
    refine q_byteAt I hS (hM.N hf) hn (p := p + i) (by omega) h9 ?_
    refine q_isLetter I hS (byt_b hb _) (fun z => absurd (by rw [← hi]; exact z) hnq) (fun _ => ?_)
    refine xbr_t rfl ?_
    by_cases h7 : 7 < i
    · refine xbr_t (by rw [es]; exact zlt h7 (by omega)) ?_
      refine h _ (by rw [← hi]; exact h9) h10 (Or.inr (Or.inr (Or.inl ⟨h11, ltr t p i, Li, ?_, hw⟩))) (hf.tr fNl)
      rw [xWl_s, pk_uLs]
      unfold pkw
      rw [if_neg (by rw [ltr_len]; omega)]
    · refine xbr_f (by rw [es]; exact znl (by omega) (by omega)) ?_
      refine h s' (by rw [← hi]; exact h9) h10 (Or.inr (Or.inr (Or.inl ⟨h11, ltr t p i, Li, ?_, hw⟩))) hf
      rw [h13]
      unfold pkw
      rw [if_pos (by rw [ltr_len]; omega), show m7 i = i by unfold m7; split <;> omega]
  | succ m ih =>
    intro i hi s' h9 h10 h11 h13 hf
    have hL := hq (p + i) (by omega) (by omega)
    have es : s'.1 79 9 - s'.1 79 10 = nI i := by rw [h9, h10, nsb (by omega), Nat.add_sub_cancel_left]
    have GO : ∀ s'' : xS, s''.1 79 9 = nI (p + i) → s''.1 79 10 = nI p → s''.1 79 11 = nI 2 → s''.2 79 13 = lN (pkl (ltr t p (m7 (i + 1)))) → fN s s'' → X (d + 2) mX11_nextToken Q (L0 S) 210 [some (.ref 79), some (.int c), none] [] s'' := by
      intro s'' g9 g10 g11 g13 gf
      refine rn I [161] 199 ?_
      refine ih (i + 1) (by omega) (xW s'' 79 9 (s''.1 79 9 + nI 1)) ?_ ?_ ?_ g13 (gf.tr (fNw (by decide) (by decide)))
      · rw [xW_s, ud_s, g9, nad]; rfl
      · rw [xW_s, ud_n (by decide)]; exact g10
      · rw [xW_s, ud_n (by decide)]; exact g11
    refine rn I [210] 199 ?_
    refine q_byteAt I hS (hM.N hf) hn (p := p + i) (by omega) h9 ?_
    refine q_isLetter I hS (byt_b hb _) (fun _ => ?_) (fun z => absurd hL z)
    refine xbr_f n10 ?_
    by_cases h7 : i < 7
    · refine xbr_t (by rw [es]; exact zlt h7 (by decide)) ?_
      refine q_byteAt I hS (hM.N hf) hn (p := p + i) (by omega) h9 ?_
      have tb := L1 (p + i) (by omega) (by omega)
      have Li := ltr_in (t := t) (p := p) (i := i) (fun q h1 h2 => L1 q h1 (by omega))
      have lb : pkl (ltr t p i) < 2 ^ 48 := by
        have := pkl_lt Li
        rw [ltr_len] at this
        have z : (256 : Nat) ^ i ≤ 256 ^ 6 := Nat.pow_le_pow_right (by decide) (by omega)
        have : (256 : Nat) ^ 6 = 2 ^ 48 := by decide
        omega
      have e1 : m7 i = i := if_pos h7
      have e2 : m7 (i + 1) = i + 1 := by unfold m7; split <;> omega
      rw [byt_in (by omega)]
      refine GO _ h9 h10 h11 ?_ (hf.tr fNl)
      rw [xWl_s, pk_uLs, h13, e1, e2, ltr_s, pkl_s]
      exact shl8 lb tb.2
    · refine xbr_f (by rw [es]; exact znl (by omega) (by omega)) ?_
      refine GO s' h9 h10 h11 ?_ hf
      rw [h13, show m7 i = 7 from if_neg h7, show m7 (i + 1) = 7 from if_neg (by omega)]
set_option maxRecDepth 8000 in
theorem q_next_mark (I : xRl X P) (hS : S ≤ 128) (hM : TM s n t) (hn : n ≤ 300) (hb : ∀ i, i < n → t i < 256) {p e k v : Nat} (hpn : p < n) (hw : (∃ j, j < 13 ∧ t p = (xtxt 13).getD j 0 ∧ v = 0 ∧ ((j < 2 ∧ byt n t (p + 1) = some 61 ∧ e = p + 2 ∧ k = 10 + j) ∨ (¬ (j < 2 ∧ byt n t (p + 1) = some 61) ∧ e = p + 1 ∧ k = 12 + j))) ∨ ((∀ j, j < 13 → t p ≠ (xtxt 13).getD j 0) ∧ e = p + 1 ∧ k = 1 ∧ v = 0)) (h : ∀ s' : xS, s'.1 79 9 = nI e → s'.1 79 10 = nI p → TRel k v (s'.1 79 11) (s'.1 79 12) (s'.2 79 13) → fN s s' → Q none s') (s' : xS) (h9 : s'.1 79 9 = nI p) (h10 : s'.1 79 10 = nI p) (hf : fN s s') : X (d + 2) mX11_nextToken Q (L0 S) 245 [some (.ref 79), some (.int (nI (t p))), none] [] s' := by
  have tb := hb p hpn
  have T358 : ∀ (s'' : xS) (o2 : Option Value), s''.1 79 9 = nI (p + 1) → s''.1 79 10 = nI p → fN s s'' → ((s''.1 79 11 = nI (t p) ∧ ((∃ j, j < 13 ∧ t p = (xtxt 13).getD j 0) ∨ t p = 44)) ∨ (s''.1 79 11 = nI 3 ∧ ∀ j, j < 13 → t p ≠ (xtxt 13).getD j 0)) → X (d + 2) mX11_nextToken Q (L0 S) 358 [some (.ref 79), some (.int (nI (t p))), o2] [] s'' := by
    intro s'' o2 g9 g10 gf gt
    have PL : ¬ ((t p = 60 ∨ t p = 62) ∧ byt n t (p + 1) = some 61) → Q none s'' := by
      intro hno
      rcases hw with ⟨j, h1, h2, h3, h4⟩ | ⟨h1, h2, h3, h4⟩
      · have mj := m13 j h1
        rcases h4 with ⟨h5, h6, h7, h8⟩ | ⟨h5, h6, h7⟩
        · refine absurd ⟨?_, h6⟩ hno
          rcases (show j = 0 ∨ j = 1 by omega) with rfl | rfl
          · exact Or.inl (h2.trans (by decide +kernel))
          · exact Or.inr (h2.trans (by decide +kernel))
        · refine h s'' (by rw [h6]; exact g9) g10 (Or.inr (Or.inr (Or.inr (Or.inr (Or.inr (Or.inr ⟨j, h1, h7, ?_⟩)))))) gf
          rcases gt with ⟨a1, -⟩ | ⟨-, a2⟩
          · rw [a1, h2]
          · exact absurd h2 (a2 j h1)
      · refine h s'' (by rw [h2]; exact g9) g10 (Or.inr (Or.inr (Or.inr (Or.inl ⟨h3, ?_⟩)))) gf
        rcases gt with ⟨a1, ⟨j, b1, b2⟩ | a2⟩ | ⟨a1, -⟩
        · exact absurd b2 (h1 j b1)
        · exact Or.inr (by rw [a1, a2])
        · exact Or.inl a1
    have EQ : (t p = 60 ∨ t p = 62) → byt n t (p + 1) = some 61 → ∀ x : Int32, (t p = 60 → x = nI 4) → (t p = 62 → x = nI 5) → Q none (xW (xW s'' 79 9 (s''.1 79 9 + nI 1)) 79 11 x) := by
      intro h6 h61 x x4 x5
      rcases hw with ⟨j, h1, h2, h3, h4⟩ | ⟨h1, -, -, -⟩
      · have mj := m13 j h1
        have j2 : j < 2 := by
          rcases h6 with z | z
          · have := mj.2.1 (h2.symm.trans z); omega
          · have := mj.2.2.1 (h2.symm.trans z); omega
        rcases h4 with ⟨h5, h6', h7, h8⟩ | ⟨h5, -, -⟩
        · refine h _ (by rw [xW_s, ud_n (by decide), xW_s, ud_s, g9, nad, h7]) (by rw [xW_s, ud_n (by decide), xW_s, ud_n (by decide)]; exact g10) ?_ ((gf.tr (fNw (by decide) (by decide))).tr (fNw (by decide) (by decide)))
          rw [show (xW (xW s'' 79 9 (s''.1 79 9 + nI 1)) 79 11 x).1 79 11 = x by rw [xW_s, ud_s]]
          rcases (show j = 0 ∨ j = 1 by omega) with rfl | rfl
          · exact Or.inr (Or.inr (Or.inr (Or.inr (Or.inl ⟨h8, x4 (h2.trans (by decide +kernel))⟩))))
          · exact Or.inr (Or.inr (Or.inr (Or.inr (Or.inr (Or.inl ⟨h8, x5 (h2.trans (by decide +kernel))⟩)))))
        · exact absurd ⟨j2, h61⟩ h5
      · rcases h6 with z | z
        · exact absurd (z.trans (by decide +kernel)) (h1 0 (by decide))
        · exact absurd (z.trans (by decide +kernel)) (h1 1 (by decide))
    have T370 : (t p = 60 ∨ t p = 62) → X (d + 2) mX11_nextToken Q (L0 S) 370 [some (.ref 79), some (.int (nI (t p))), o2] [] s'' := by
      intro h6
      refine rn I [] 199 ?_
      refine q_byteAt I hS (hM.N gf) hn (p := p + 1) (by omega) g9 ?_
      by_cases e61 : byt n t (p + 1) = some 61
      · refine xbr_t (by rw [e61]; rfl) ?_
        refine xbr_c (fun z => ?_) (fun z => ?_)
        · have z := zeq (by omega) (by decide) z
          exact EQ h6 e61 (nI 4) (fun _ => rfl) (fun y => by omega)
        · exact EQ h6 e61 (nI 5) (fun y => absurd (by rw [y]) z) (fun _ => rfl)
      · exact xbr_f (fun z => e61 ((o32e (byt_b hb _) (by decide)).mp z)) (PL (fun z => e61 z.2))
    refine rn I [370] 199 ?_
    refine xbr_c (fun z => T370 (Or.inl (zeq (by omega) (by decide) z))) (fun z1 => ?_)
    refine xbr_c (fun z => T370 (Or.inr (zeq (by omega) (by decide) z))) (fun z2 => ?_)
    exact PL (fun z => z.1.elim (fun y => z1 (by rw [y])) (fun y => z2 (by rw [y])))
  have YES : ∀ s1 : xS, s1.1 79 9 = nI (p + 1) → s1.1 79 10 = nI p → fN s s1 → ((∃ j, j < 13 ∧ t p = (xtxt 13).getD j 0) ∨ t p = 44) → X (d + 2) mX11_nextToken Q (L0 S) 339 [some (.ref 79), some (.int (nI (t p))), none] [] s1 := by
    intro s1 k9 k10 kf hm
    refine rn I [358] 199 ?_
    refine xbr_f n10 ?_
    refine T358 _ _ ?_ ?_ (kf.tr (fNw (by decide) (by decide))) (Or.inl ⟨by rw [xW_s, ud_s], hm⟩)
    · rw [xW_s, ud_n (by decide)]; exact k9
    · rw [xW_s, ud_n (by decide)]; exact k10
  have NO : ∀ s1 : xS, s1.1 79 9 = nI (p + 1) → s1.1 79 10 = nI p → fN s s1 → (∀ j, j < 13 → t p ≠ (xtxt 13).getD j 0) → X (d + 2) mX11_nextToken Q (L0 S) 343 [some (.ref 79), some (.int (nI (t p))), none] [] s1 := by
    intro s1 k9 k10 kf hm
    refine rn I [358] 199 ?_
    refine xbr_t rfl ?_
    refine T358 _ _ ?_ ?_ (kf.tr (fNw (by decide) (by decide))) (Or.inr ⟨by rw [xW_s, ud_s], hm⟩)
    · rw [xW_s, ud_n (by decide)]; exact k9
    · rw [xW_s, ud_n (by decide)]; exact k10
  have MK : ∀ c, c ∈ [60, 62, 61, 35, 43, 45, 42, 47, 40, 41, 59, 63, 58] → c < 256 → nI (t p) = nI c → (∃ j, j < 13 ∧ t p = (xtxt 13).getD j 0) ∨ t p = 44 := by
    intro c hc hc2 z
    have z := zeq (by omega) (by omega) z
    obtain ⟨j, h1, h2⟩ := m13i c hc
    exact Or.inl ⟨j, h1, z.trans h2⟩
  have A255 : ∀ s1 : xS, s1.1 79 9 = nI (p + 1) → s1.1 79 10 = nI p → fN s s1 → X (d + 2) mX11_nextToken Q (L0 S) 255 [some (.ref 79), some (.int (nI (t p))), none] [] s1 := by
    intro s1 k9 k10 kf
    refine rn I [339, 343] 199 ?_
    refine xbr_c (fun z => YES s1 k9 k10 kf (MK 60 (by decide) (by decide) z)) (fun z1 => ?_)
    refine xbr_c (fun z => YES s1 k9 k10 kf (MK 62 (by decide) (by decide) z)) (fun z2 => ?_)
    refine xbr_c (fun z => YES s1 k9 k10 kf (MK 61 (by decide) (by decide) z)) (fun z3 => ?_)
    refine xbr_c (fun z => YES s1 k9 k10 kf (MK 35 (by decide) (by decide) z)) (fun z4 => ?_)
    refine xbr_c (fun z => YES s1 k9 k10 kf (MK 43 (by decide) (by decide) z)) (fun z5 => ?_)
    refine xbr_c (fun z => YES s1 k9 k10 kf (MK 45 (by decide) (by decide) z)) (fun z6 => ?_)
    refine xbr_c (fun z => YES s1 k9 k10 kf (MK 42 (by decide) (by decide) z)) (fun z7 => ?_)
    refine xbr_c (fun z => YES s1 k9 k10 kf (MK 47 (by decide) (by decide) z)) (fun z8 => ?_)
    refine xbr_c (fun z => YES s1 k9 k10 kf (MK 40 (by decide) (by decide) z)) (fun z9 => ?_)
    refine xbr_c (fun z => YES s1 k9 k10 kf (MK 41 (by decide) (by decide) z)) (fun z10 => ?_)
    refine xbr_c (fun z => YES s1 k9 k10 kf (MK 59 (by decide) (by decide) z)) (fun z11 => ?_)
    refine xbr_c (fun z => YES s1 k9 k10 kf (Or.inr (zeq (by omega) (by decide) z))) (fun z12 => ?_)
    refine xbr_c (fun z => YES s1 k9 k10 kf (MK 63 (by decide) (by decide) z)) (fun z13 => ?_)
    refine xbr_c (fun z => YES s1 k9 k10 kf (MK 58 (by decide) (by decide) z)) (fun z14 => ?_)
    refine NO s1 k9 k10 kf (fun j hj ej => ?_)
    have := m13o j hj
    rw [← ej] at this
    have W : ∀ c, ¬ nI (t p) = nI c → t p ≠ c := fun c hc y => hc (by rw [y])
    have a1 := W _ z1
    have a2 := W _ z2
    have a3 := W _ z3
    have a4 := W _ z4
    have a5 := W _ z5
    have a6 := W _ z6
    have a7 := W _ z7
    have a8 := W _ z8
    have a9 := W _ z9
    have a10 := W _ z10
    have a11 := W _ z11
    have a13 := W _ z13
    have a14 := W _ z14
    simp [a1, a2, a3, a4, a5, a6, a7, a8, a9, a10, a11, a13, a14] at this
  refine rn I [255] 199 ?_
  exact A255 _ (by rw [xW_s, ud_s, h9, nad]) (by rw [xW_s, ud_n (by decide)]; exact h10) (hf.tr (fNw (by decide) (by decide)))
set_option maxRecDepth 8000 in
theorem q_next (I : xRl X P) (hS : S ≤ 128) (hM : TM s n t) (hn : n ≤ 300) (hb : ∀ i, i < n → t i < 256) {a p e k v : Nat} (ha : s.1 79 9 = nI a) (hk : TKo n t a p e k v) (h : ∀ s' : xS, s'.1 79 9 = nI e → s'.1 79 10 = nI p → TRel k v (s'.1 79 11) (s'.1 79 12) (s'.2 79 13) → fN s s' → Q none s') : P (d + 3) (L0 S) 148 [.ref 79] s Q := by
  have hap : a ≤ p ∧ p ≤ n := by
    rcases hk with ⟨h1, -, -, h2, h3, -⟩ | ⟨-, -, h1, -, h2, -⟩ <;> omega
  have hB : ∀ q, a ≤ q → q < p → isB (byt n t q) := by
    rcases hk with ⟨-, h1, -⟩ | ⟨-, -, h1, -, -, h2⟩
    · exact h1
    · rw [h1]; exact h2
  have hN : ¬ isB (byt n t p) := by
    rcases hk with ⟨-, -, h1, -⟩ | ⟨-, -, h1, -, -, -⟩
    · exact h1
    · rw [h1, byt_out (Nat.le_refl _)]
      exact fun z => z.elim (fun z => by cases z) (fun z => by cases z)
  have A47 : ∀ s1 : xS, s1.1 79 9 = nI p → s1.1 79 10 = nI p → fN s s1 → X (d + 2) mX11_nextToken Q (L0 S) 47 [some (.ref 79), none, none] [] s1 := by
    intro s1 g9 g10 gf
    refine rn I [85, 161, 245] 199 ?_
    refine q_byteAt I hS (hM.N gf) hn (p := p) (by omega) g9 ?_
    rcases hk with ⟨h1, h2, h3, h4, h5, h6⟩ | ⟨h1, h2, h3, h4, h5, h6⟩
    · have hpn : p < n := by omega
      have ob : ob256 (byt n t p) := byt_b hb _
      refine xbr_f (fun z => ?_) ?_
      · rw [byt_in hpn] at z
        exact zn0 (by have := hb p hpn; omega) z
      · rcases h6 with ⟨c1, c2, c3⟩ | ⟨c1, c2, c3, c4⟩ | ⟨c1, c2, c3⟩
        · have nf : ¬ isF (byt n t p) := fun ⟨b, e1, e2, e3⟩ => by
            obtain ⟨b', e1', z⟩ := c1 p (Nat.le_refl _) h4
            rw [e1] at e1'
            cases e1'
            omega
          refine q_isDigit I hS ob (fun z => absurd z nf) (fun _ => ?_)
          refine xbr_t rfl ?_
          refine q_isLetter I hS ob (fun _ => ?_) (fun z => absurd (c1 p (Nat.le_refl _) h4) z)
          refine xbr_f n10 ?_
          refine q_next_word I hS hM hn hb h4 h5 c1 c2 c3 h (e - p) 0 (by omega) _ ?_ ?_ ?_ ?_ ((gf.tr (fNw (by decide) (by decide))).tr fNl)
          · show (xW s1 79 11 (nI 2)).1 79 9 = _
            rw [xW_s, ud_n (by decide)]; exact g9
          · show (xW s1 79 11 (nI 2)).1 79 10 = _
            rw [xW_s, ud_n (by decide)]; exact g10
          · show (xW s1 79 11 (nI 2)).1 79 11 = _
            rw [xW_s, ud_s]
          · rw [xWl_s, pk_uLs]; rfl
        · refine q_isDigit I hS ob (fun _ => ?_) (fun z => absurd (c1 p (Nat.le_refl _) h4) z)
          refine xbr_f n10 ?_
          subst c3
          subst c4
          refine q_next_num I hS hM hn hb h4 h5 c1 c2 h (e - p) 0 (by omega) _ ?_ ?_ ?_ ?_ ((gf.tr (fNw (by decide) (by decide))).tr (fNw (by decide) (by decide)))
          · rw [xW_s, ud_n (by decide), xW_s, ud_n (by decide)]; exact g9
          · rw [xW_s, ud_n (by decide), xW_s, ud_n (by decide)]; exact g10
          · rw [xW_s, ud_n (by decide), xW_s, ud_s]
          · rw [xW_s, ud_s]; rfl
        · refine q_isDigit I hS ob (fun z => absurd z c2) (fun _ => ?_)
          refine xbr_t rfl ?_
          refine q_isLetter I hS ob (fun z => absurd z c1) (fun _ => ?_)
          refine xbr_t rfl ?_
          have g := q_next_mark (d := d) I hS hM hn hb hpn c3 h s1 g9 g10 gf
          rw [show nI (t p) = o32 (byt n t p) by rw [byt_in hpn]; rfl] at g
          exact g
    · refine xbr_t (by rw [h3, byt_out (Nat.le_refl _)]; exact zm1) ?_
      refine h _ ?_ ?_ (Or.inl ⟨h1, by rw [xW_s, ud_s]⟩) (gf.tr (fNw (by decide) (by decide)))
      · rw [xW_s, ud_n (by decide), h4, ← h3]; exact g9
      · rw [xW_s, ud_n (by decide)]; exact g10
  have A39 : ∀ s' : xS, s'.1 79 9 = nI p → fN s s' → X (d + 2) mX11_nextToken Q (L0 S) 39 [some (.ref 79), none, none] [] s' := by
    intro s' h9 hf
    refine rn I [47] 199 ?_
    exact A47 _ (by rw [xW_s, ud_n (by decide)]; exact h9) (by rw [xW_s, ud_s]; exact h9) (hf.tr (fNw (by decide) (by decide)))
  have loop : ∀ m q, q + m = p → a ≤ q → ∀ s' : xS, s'.1 79 9 = nI q → fN s s' → X (d + 2) mX11_nextToken Q (L0 S) 0 [some (.ref 79), none, none] [] s' := by
    intro m
    induction m with
    | zero =>
      intro q hq hq2 s' h9 hf
      have hq : q = p := hq
      subst hq
      refine rn I [39] 199 ?_
      refine q_byteAt I hS (hM.N hf) hn (p := q) (by omega) h9 ?_
      refine xbr_f (fun z => hN (Or.inl ((o32e (byt_b hb _) (by decide)).mp z))) ?_
      refine q_byteAt I hS (hM.N hf) hn (p := q) (by omega) h9 ?_
      exact xbr_f (fun z => hN (Or.inr ((o32e (byt_b hb _) (by decide)).mp z))) (A39 s' h9 hf)
    | succ m ih =>
      intro q hq hq2 s' h9 hf
      have GO : X (d + 2) mX11_nextToken Q (L0 S) 26 [some (.ref 79), none, none] [] s' := by
        refine rn I [0] 199 ?_
        refine ih (q + 1) (by omega) (by omega) _ ?_ (hf.tr (fNw (by decide) (by decide)))
        rw [xW_s, ud_s, h9, nad]
      refine rn I [26] 199 ?_
      refine q_byteAt I hS (hM.N hf) hn (p := q) (by omega) h9 ?_
      rcases hB q hq2 (by omega) with z | z
      · exact xbr_t (by rw [z]; rfl) GO
      · refine xbr_f (by rw [z]; exact zne (by decide) (by decide) (by decide)) ?_
        refine q_byteAt I hS (hM.N hf) hn (p := q) (by omega) h9 ?_
        exact xbr_t (by rw [z]; rfl) GO
  refine inX11_nextToken I (L0ok hS) ?_
  exact loop (p - a) a (by omega) (Nat.le_refl _) s ha fN.rf
end NEXT
