/-! the class's tokens: how the tape is split -/
def fT (s s' : xS) : Prop := (∀ q, (q < 30 ∨ 33 < q) → s'.1 q = s.1 q) ∧ s'.2 = s.2
theorem fT.tr {a b c : xS} (h : fT a b) (k : fT b c) : fT a c := ⟨fun q h1 => (k.1 q h1).trans (h.1 q h1), k.2.trans h.2⟩
theorem fT.rf {a : xS} : fT a a := ⟨fun _ _ => rfl, rfl⟩
theorem fTw {s : xS} {k z : Nat} {x : Int32} (h1 : 30 ≤ k) (h2 : k ≤ 33) : fT s (xW s k z x) := ⟨fun _ h => xW_n (by omega), rfl⟩
theorem TC.T {s s' : xS} {n : Nat} {t : Nat → Nat} (h : TC s n t) (f : fT s s') : TC s' n t := ⟨by rw [f.1 23 (by omega)]; exact h.1, fun i hi => by rw [f.1 24 (by omega)]; exact h.2 i hi⟩
theorem TKs.nx {s : xS} {cnt : Nat} {kd vl pl : Nat → Nat} (h : TKs s cnt kd vl pl) (x : Int32) : TKs (xW s 30 5 x) cnt kd vl pl := ⟨by rw [xW_s, ud_n (by decide)]; exact h.1, h.2.1, fun i hi => by rw [xW_n (by decide), xW_n (by decide), xW_n (by decide)]; exact h.2.2 i hi⟩
section SPLIT
variable {X : xXT} {P : xPT} {d S : Nat} {s : xS} {Q : xQ} {cnt n : Nat} {kd vl pl t : Nat → Nat}
theorem m_tadd (I : xRl X P) (hS : S ≤ 128) (hT : TKs s cnt kd vl pl) (hc : cnt < 300) {x y z : Int32} {k v p : Nat} (ex : x = nI k) (ey : y = nI v) (ez : z = nI p) (h : ∀ s' : xS, TKs s' (cnt + 1) (on kd cnt k) (on vl cnt v) (on pl cnt p) → s'.1 30 5 = s.1 30 5 → fT s s' → Q none s') : P (d + 1) (L0 S) 87 [.ref 30, .int x, .int y, .int z] s Q := by
  subst ex
  subst ey
  subst ez
  refine inX9_add I (L0ok hS) ?_
  refine rn I [] 99 ?_
  refine xbr_t (by rw [hT.1]; exact zlt hc (by decide)) ?_
  refine ⟨cnt, ⟨hc, hT.1⟩, ?_⟩
  refine ⟨cnt, ⟨hc, by show (xW s 31 cnt (nI k)).1 30 4 = _; rw [xW_n (by decide)]; exact hT.1⟩, ?_⟩
  refine ⟨cnt, ⟨hc, by show (xW (xW s 31 cnt (nI k)) 32 cnt (nI v)).1 30 4 = _; rw [xW_n (by decide), xW_n (by decide)]; exact hT.1⟩, ?_⟩
  refine h _ ⟨?_, by omega, fun i hi => ?_⟩ ?_ ((((fTw (by decide) (by decide)).tr (fTw (by decide) (by decide))).tr (fTw (by decide) (by decide))).tr (fTw (by decide) (by decide)))
  · rw [xW_s, ud_s, xW_n (by decide), xW_n (by decide), xW_n (by decide), hT.1, nad]
  · by_cases e : i = cnt
    · subst e
      rw [on_s, on_s, on_s]
      refine ⟨?_, ?_, ?_⟩
      · rw [xW_n (by decide), xW_n (by decide), xW_n (by decide), xW_s, ud_s]
      · rw [xW_n (by decide), xW_n (by decide), xW_s, ud_s]
      · rw [xW_n (by decide), xW_s, ud_s]
    · rw [on_n e, on_n e, on_n e]
      obtain ⟨a1, a2, a3⟩ := hT.2.2 i (by omega)
      refine ⟨?_, ?_, ?_⟩
      · rw [xW_n (by decide), xW_n (by decide), xW_n (by decide), xW_s, ud_n e]; exact a1
      · rw [xW_n (by decide), xW_n (by decide), xW_s, ud_n e, xW_n (by decide)]; exact a2
      · rw [xW_n (by decide), xW_s, ud_n e, xW_n (by decide), xW_n (by decide)]; exact a3
  · rw [xW_s, ud_n (by decide), xW_n (by decide), xW_n (by decide), xW_n (by decide)]
theorem m_wordNumber (I : xRk X P) (hS : S ≤ 128) (hC : TC s n t) (hn : n ≤ 300) (hb : ∀ i, i < n → t i < 256) {x y : Int32} {p m : Nat} (ex : x = nI p) (ey : y = nI m) (hp : p + m ≤ n) (h : Q (some (.int (o32 (wsc (ltr t p m) (xtxt 86) 0 (some 0))))) s) : P (d + 5) (L0 S) 89 [.ref 30, .int x, .int y] s Q := by
  subst ex
  subst ey
  have hl := ltr_len t p m
  have hg := fun k (hk : k < m) => ltr_at t p m hk
  revert hl hg h
  generalize ltr t p m = l
  intro h hl hg
  have loop : ∀ j i, i + j = 86 → ∀ (w : Nat) (a : Option Nat) (o6 : Option Value), (∀ k, a = some k → k ≤ m) → Q (some (.int (o32 (wsc l ((xtxt 86).drop i) w a)))) s → X (d + 4) mX9_wordNumber Q (L0 S) 8 [some (.ref 30), some (.int (nI p)), some (.int (nI m)), some (.int (nI w)), some (.int (o32 a)), some (.int (nI i)), o6] [] s := by
    intro j
    induction j with
    | zero =>
      intro i hi w a o6 ha h
      have hi : i = 86 := hi
      subst hi
      refine rn I.1 [] 99 ?_
      refine s_len903 I.1 hS ?_
      refine xbr_f (znl (Nat.le_refl _) (by decide)) ?_
      have e : (xtxt 86).drop 86 = [] := by decide +kernel
      rw [e] at h
      exact h
    | succ j ih =>
      intro i hi w a o6 ha h
      have hi6 : i < 86 := by omega
      have c8 := t86 i hi6
      rw [drop86 i hi6] at h
      have h : Q (some (.int (o32 (if (xtxt 86).getD i 0 = 32 then (if a = some l.length then some w else wsc l ((xtxt 86).drop (i + 1)) (w + 1) (some 0)) else wsc l ((xtxt 86).drop (i + 1)) w (stp l ((xtxt 86).getD i 0) a))))) s := h
      refine rn I.1 [8] 99 ?_
      refine s_len903 I.1 hS ?_
      refine xbr_t (zlt hi6 (by decide)) ?_
      refine s_charAt I hS hi6 ?_
      have NO : Q (some (.int (o32 (wsc l ((xtxt 86).drop (i + 1)) w none)))) s → X (d + 4) mX9_wordNumber Q (L0 S) 8 [some (.ref 30), some (.int (nI p)), some (.int (nI m)), some (.int (nI w)), some (.int (-(nI 1))), some (.int (nI i + nI 1)), some (.int (nI ((xtxt 86).getD i 0)))] [] s := by
        intro hh
        have q := ih (i + 1) (by omega) w none (some (.int (nI ((xtxt 86).getD i 0)))) (fun k hk => by cases hk) hh
        rw [n1s i] at q
        exact q
      by_cases hc : (xtxt 86).getD i 0 = 32
      · rw [if_pos hc] at h
        refine xbr_t (by rw [hc]) ?_
        by_cases ea : a = some m
        · rw [if_pos (by rw [hl]; exact ea)] at h
          exact xbr_t (by rw [ea]; rfl) h
        · rw [if_neg (by rw [hl]; exact ea)] at h
          refine xbr_f (fun z => ?_) ?_
          · cases a with
            | none => exact zm1n' (by omega) z
            | some k => exact ea (by rw [zeq (by have := ha k rfl; omega) (by omega) z])
          · have q := ih (i + 1) (by omega) (w + 1) (some 0) (some (.int (nI ((xtxt 86).getD i 0)))) (fun k hk => by cases hk; exact Nat.zero_le _) h
            rw [n1s i, n1s w] at q
            exact q
      · rw [if_neg hc] at h
        refine xbr_f (zne hc (by omega) (by decide)) ?_
        cases a with
        | none => exact xbr_t zm1 (NO h)
        | some k =>
          have hk := ha k rfl
          have h : Q (some (.int (o32 (wsc l ((xtxt 86).drop (i + 1)) w (if k < l.length ∧ l.getD k 0 = (xtxt 86).getD i 0 then some (k + 1) else none))))) s := h
          refine xbr_f (zn0 (by omega)) ?_
          by_cases hkm : k < m
          · refine xbr_t (zlt hkm (by omega)) ?_
            refine m_at I.1 hS hC hn (p := p + k) (by omega) (nad p k) ?_
            rw [byt_in (by omega)]
            have tb := hb (p + k) (by omega)
            by_cases et : t (p + k) = (xtxt 86).getD i 0
            · rw [if_pos ⟨by omega, by rw [hg k hkm]; exact et⟩] at h
              refine xbr_t (by rw [et]; rfl) ?_
              have q := ih (i + 1) (by omega) w (some (k + 1)) (some (.int (nI ((xtxt 86).getD i 0)))) (fun k' hk' => by cases hk'; exact hkm) h
              have q : X (d + 4) mX9_wordNumber Q (L0 S) 8 [some (.ref 30), some (.int (nI p)), some (.int (nI m)), some (.int (nI w)), some (.int (nI (k + 1))), some (.int (nI (i + 1))), some (.int (nI ((xtxt 86).getD i 0)))] [] s := q
              rw [n1s i, n1s k] at q
              exact q
            · rw [if_neg (fun z => et (by rw [← hg k hkm]; exact z.2))] at h
              exact xbr_f (fun z => et (zeq (by omega) (by omega) z)) (NO h)
          · rw [if_neg (fun z => hkm (by omega))] at h
            exact xbr_f (znl (by omega) (by omega)) (NO h)
  refine inX9_wordNumber I.1 (L0ok hS) ?_
  refine rn I.1 [8] 99 ?_
  exact loop 86 0 (by omega) 0 (some 0) none (fun k hk => by cases hk; exact Nat.zero_le _) h
theorem m_splitWord (I : xRk X P) (hS : S ≤ 128) (hC : TC s n t) (hn : n ≤ 300) (hb : ∀ i, i < n → t i < 256) (hT : TKs s cnt kd vl pl) (hc : cnt < 300) {p : Nat} (hp : s.1 30 5 = nI p) (hL : isL (byt n t p)) (h : ∀ (e k v : Nat) (s' : xS), TKw n t p e k v → TKs s' (cnt + 1) (on kd cnt k) (on vl cnt v) (on pl cnt p) → s'.1 30 5 = nI e → fT s s' → Q none s') : P (d + 6) (L0 S) 88 [.ref 30] s Q := by
  have hpn : p < n := by
    obtain ⟨b, e, -⟩ := hL
    exact (byt_some e).1
  have tail : ∀ (i : Nat) (s' : xS), s'.1 30 5 = nI (p + i) → TKs s' cnt kd vl pl → fT s s' → p + i ≤ n → (∀ q, p ≤ q → q < p + i → isL (byt n t q)) → ¬ isL (byt n t (p + i)) → X (d + 5) mX9_splitWord Q (L0 S) 47 [some (.ref 30), some (.int (nI p)), some (.int (nI i))] [] s' := by
    intro i s' hx hT' hf hi hq hnl
    have i0 : i ≠ 0 := by
      intro z
      subst z
      exact hnl hL
    have D : ∀ k v s'', wcl (ltr t p i) k v → TKs s'' (cnt + 1) (on kd cnt k) (on vl cnt v) (on pl cnt p) → s''.1 30 5 = s'.1 30 5 → fT s' s'' → Q none s'' := by
      intro k v s'' hw a1 a2 a3
      refine h (p + i) k v s'' ⟨by omega, by omega, Or.inl ⟨hq, hnl, ?_⟩⟩ a1 (by rw [a2]; exact hx) (hf.tr a3)
      rw [Nat.add_sub_cancel_left]
      exact hw
    refine rn I.1 [] 99 ?_
    refine m_wordNumber I hS (hC.T hf) hn hb (p := p) (m := i) rfl (by rw [hx, nsb (by omega), Nat.add_sub_cancel_left]) hi ?_
    rcases wsc_w (ltr t p i) with ⟨w, h1, h2, h3⟩ | ⟨h1, h2⟩
    · rw [h3]
      refine xbr_f (zm1n (by omega)) ?_
      by_cases w4 : w < 4
      · refine xbr_t (zlt w4 (by decide)) ?_
        exact m_tadd I.1 hS hT' hc rfl rfl rfl (fun s'' a1 a2 a3 => D 4 w s'' (Or.inl ⟨w, h1, h2, Or.inl ⟨w4, rfl, rfl⟩⟩) a1 a2 a3)
      · refine xbr_f (znl (by omega) (by omega)) ?_
        by_cases w9 : w < 9
        · refine xbr_t (zlt w9 (by decide)) ?_
          exact m_tadd I.1 hS hT' hc (k := w + 1) (v := 0) (p := p) (by show nI 5 + nI w - nI 4 = nI (w + 1); rw [nad, nsb (by omega)]; congr 1; omega) rfl rfl (fun s'' a1 a2 a3 => D (w + 1) 0 s'' (Or.inl ⟨w, h1, h2, Or.inr (Or.inl ⟨by omega, w9, rfl, rfl⟩)⟩) a1 a2 a3)
        · refine xbr_f (znl (by omega) (by omega)) ?_
          exact m_tadd I.1 hS hT' hc (k := 3) (v := w - 9) (p := p) rfl (by show nI w - nI 9 = nI (w - 9); exact nsb (by omega)) rfl (fun s'' a1 a2 a3 => D 3 (w - 9) s'' (Or.inl ⟨w, h1, h2, Or.inr (Or.inr ⟨by omega, rfl, rfl⟩)⟩) a1 a2 a3)
    · rw [h2]
      refine xbr_t rfl ?_
      exact m_tadd I.1 hS hT' hc rfl rfl rfl (fun s'' a1 a2 a3 => D 1 0 s'' (Or.inr ⟨h1, rfl, rfl⟩) a1 a2 a3)
  have loop : ∀ m i, p + i + m = n → ∀ s' : xS, s'.1 30 5 = nI (p + i) → TKs s' cnt kd vl pl → fT s s' → (∀ q, p ≤ q → q < p + i → isL (byt n t q)) → X (d + 5) mX9_splitWord Q (L0 S) 7 [some (.ref 30), some (.int (nI p)), some (.int (nI i))] [] s' := by
    intro m
    induction m with
    | zero =>
      intro i hi s' hx hT' hf hq
      have NL : ¬ isL (byt n t (p + i)) := fun ⟨b, e, _⟩ => by
        have := (byt_some e).1
        omega
      refine rn I.1 [47] 99 ?_
      by_cases i3 : i < 300
      · refine xbr_t (zlt i3 (by decide)) ?_
        refine m_at I.1 hS (hC.T hf) hn (p := p + i) (by omega) hx ?_
        refine m_isLetter I.1 hS (byt_b hb _) (fun z => absurd z NL) (fun _ => ?_)
        exact xbr_t rfl (tail i s' hx hT' hf (by omega) hq NL)
      · exact xbr_f (znl (by omega) (by omega)) (tail i s' hx hT' hf (by omega) hq NL)
    | succ m ih =>
      intro i hi s' hx hT' hf hq
      refine rn I.1 [47, 7] 99 ?_
      refine xbr_t (zlt (by omega) (by decide)) ?_
      refine m_at I.1 hS (hC.T hf) hn (p := p + i) (by omega) hx ?_
      refine m_isLetter I.1 hS (byt_b hb _) (fun z => ?_) (fun z => ?_)
      · refine xbr_f n10 ?_
        have ex : s'.1 30 5 + nI 1 = nI (p + (i + 1)) := by rw [hx, nad]; rfl
        have q := ih (i + 1) (by omega) (xW s' 30 5 (s'.1 30 5 + nI 1)) (by rw [xW_s, ud_s]; exact ex) (hT'.nx _) (hf.tr (fTw (by decide) (by decide))) (fun q h1 h2 => by
          by_cases e : q = p + i
          · rw [e]; exact z
          · exact hq q h1 (by omega))
        rw [n1s i] at q
        exact q
      · exact xbr_t rfl (tail i s' hx hT' hf (by omega) hq z)
  refine inX9_splitWord I.1 (L0ok hS) ?_
  refine rn I.1 [7] 99 ?_
  have q := loop (n - p) 0 (by omega) s hp hT fT.rf (fun q h1 h2 => by omega)
  show X _ _ _ _ _ [some (.ref 30), some (.int (s.1 30 5)), some (.int (nI 0))] [] s
  rw [hp]
  exact q
theorem s_minN (I : xRl X P) (hS : S ≤ 128) {x y : Int32} {a b : Nat} (ex : x = nI a) (ey : y = nI b) (ha : a < 2 ^ 30) (hb : b < 2 ^ 30) (h : Q (some (.int (nI (min a b)))) s) : P (d + 1) (L0 S) 220 [.int x, .int y] s Q := by
  subst ex
  subst ey
  refine inJ9_min_7cf53 I (L0ok hS) ?_
  refine rn I [] 99 ?_
  by_cases hc : b < a
  · rw [Nat.min_eq_right (by omega)] at h
    exact xbr_t (zlt hc (by omega)) h
  · rw [Nat.min_eq_left (by omega)] at h
    exact xbr_f (znl (by omega) (by omega)) h
theorem m_splitNumber (I : xRl X P) (hS : S ≤ 128) (hC : TC s n t) (hn : n ≤ 300) (hb : ∀ i, i < n → t i < 256) (hT : TKs s cnt kd vl pl) (hc : cnt < 300) {p : Nat} (hp : s.1 30 5 = nI p) (hL : isF (byt n t p)) (h : ∀ (e k v : Nat) (s' : xS), TKw n t p e k v → TKs s' (cnt + 1) (on kd cnt k) (on vl cnt v) (on pl cnt p) → s'.1 30 5 = nI e → fT s s' → Q none s') : P (d + 3) (L0 S) 90 [.ref 30] s Q := by
  have hpn : p < n := by
    obtain ⟨b, e, -⟩ := hL
    exact (byt_some e).1
  have tail : ∀ (i : Nat) (s' : xS), s'.1 30 5 = nI (p + i) → TKs s' cnt kd vl pl → fT s s' → p + i ≤ n → (∀ q, p ≤ q → q < p + i → isF (byt n t q)) → ¬ isF (byt n t (p + i)) → X (d + 2) mX9_splitNumber Q (L0 S) 75 [some (.ref 30), some (.int (nI p)), some (.int (nI (nmv t p i))), some (.int (nI i))] [] s' := by
    intro i s' hx hT' hf hi hq hnl
    have i0 : i ≠ 0 := by
      intro z
      subst z
      exact hnl hL
    refine rn I [] 99 ?_
    refine m_tadd I hS hT' hc rfl rfl rfl (fun s'' a1 a2 a3 => ?_)
    refine h (p + i) 2 (nmv t p i) s'' ⟨by omega, by omega, Or.inr (Or.inl ⟨hq, hnl, rfl, ?_⟩)⟩ a1 (by rw [a2]; exact hx) (hf.tr a3)
    rw [Nat.add_sub_cancel_left]
  have loop : ∀ m i, p + i + m = n → ∀ s' : xS, s'.1 30 5 = nI (p + i) → TKs s' cnt kd vl pl → fT s s' → (∀ q, p ≤ q → q < p + i → isF (byt n t q)) → X (d + 2) mX9_splitNumber Q (L0 S) 9 [some (.ref 30), some (.int (nI p)), some (.int (nI (nmv t p i))), some (.int (nI i))] [] s' := by
    intro m
    induction m with
    | zero =>
      intro i hi s' hx hT' hf hq
      have NL : ¬ isF (byt n t (p + i)) := fun ⟨b, e, _⟩ => by
        have := (byt_some e).1
        omega
      refine rn I [75] 99 ?_
      by_cases i3 : i < 300
      · refine xbr_t (zlt i3 (by decide)) ?_
        refine m_at I hS (hC.T hf) hn (p := p + i) (by omega) hx ?_
        refine m_isFigure I hS (byt_b hb _) (fun z => absurd z NL) (fun _ => ?_)
        exact xbr_t rfl (tail i s' hx hT' hf (by omega) hq NL)
      · exact xbr_f (znl (by omega) (by omega)) (tail i s' hx hT' hf (by omega) hq NL)
    | succ m ih =>
      intro i hi s' hx hT' hf hq
      refine rn I [75, 9] 99 ?_
      refine xbr_t (zlt (by omega) (by decide)) ?_
      refine m_at I hS (hC.T hf) hn (p := p + i) (by omega) hx ?_
      refine m_isFigure I hS (byt_b hb _) (fun z => ?_) (fun z => ?_)
      · refine xbr_f n10 ?_
        refine m_at I hS (hC.T hf) hn (p := p + i) (by omega) hx ?_
        have ex : s'.1 30 5 + nI 1 = nI (p + (i + 1)) := by rw [hx, nad]; rfl
        have vb := nmv_le t p i
        obtain ⟨b, eb, b1, b2⟩ := z
        have tb := (byt_some eb).2
        refine s_minN I hS (a := 10000) (b := 10 * nmv t p i + (t (p + i) - 48)) rfl (by rw [eb]; show nI 10 * nI (nmv t p i) + nI b - nI 48 = _; rw [nml, nad, nsb (by omega)]; congr 1; omega) (by decide) (by omega) ?_
        have q := ih (i + 1) (by omega) (xW s' 30 5 (s'.1 30 5 + nI 1)) (by rw [xW_s, ud_s]; exact ex) (hT'.nx _) (hf.tr (fTw (by decide) (by decide))) (fun q h1 h2 => by
          by_cases e : q = p + i
          · rw [e]; exact ⟨b, eb, b1, b2⟩
          · exact hq q h1 (by omega))
        rw [n1s i] at q
        exact q
      · exact xbr_t rfl (tail i s' hx hT' hf (by omega) hq z)
  refine inX9_splitNumber I (L0ok hS) ?_
  refine rn I [9] 99 ?_
  have q := loop (n - p) 0 (by omega) s hp hT fT.rf (fun q h1 h2 => by omega)
  show X _ _ _ _ _ [some (.ref 30), some (.int (s.1 30 5)), some (.int (nI 0)), some (.int (nI 0))] [] s
  rw [hp]
  exact q
theorem i2c_b : ∀ b, b < 256 → ((nI b).toUInt32 % 65536).toInt32 = nI b := by decide +kernel
theorem m_splitMark (I : xRl X P) (hS : S ≤ 128) (hC : TC s n t) (hn : n ≤ 300) (hb : ∀ i, i < n → t i < 256) (hT : TKs s cnt kd vl pl) (hc : cnt < 300) {p : Nat} (hp : s.1 30 5 = nI p) (hpn : p < n) (hL : ¬ isL (byt n t p)) (hF : ¬ isF (byt n t p)) (h : ∀ (e k v : Nat) (s' : xS), TKw n t p e k v → TKs s' (cnt + 1) (on kd cnt k) (on vl cnt v) (on pl cnt p) → s'.1 30 5 = nI e → fT s s' → Q none s') : P (d + 5) (L0 S) 91 [.ref 30, .int (nI (t p))] s Q := by
  have tp := hb p hpn
  refine inX9_splitMark I (L0ok hS) ?_
  refine rn I [96] 99 ?_
  refine s_indexOf I hS (i2c_b _ tp) tp (fun j hj ej => ?_) (fun hno => ?_)
  · have T96 : ¬ (j < 2 ∧ byt n t (p + 1) = some 61) → X (d + 4) mX9_splitMark Q (L0 S) 96 [some (.ref 30), some (.int (nI (t p))), some (.int (nI j)), some (.int (nI 12 + nI j))] [] s := by
      intro hc2
      refine rn I [] 99 ?_
      refine m_tadd I hS hT hc (k := 12 + j) (v := 0) (p := p) (nad 12 j) rfl hp (fun s'' a1 a2 a3 => ?_)
      have ex : s''.1 30 5 + nI 1 = nI (p + 1) := by rw [a2, hp, nad]
      refine h (p + 1) (12 + j) 0 _ ⟨by omega, by omega, Or.inr (Or.inr ⟨hL, hF, Or.inl ⟨j, hj, ej, rfl, Or.inr ⟨hc2, rfl, rfl⟩⟩⟩)⟩ (a1.nx _) (by rw [xW_s, ud_s]; exact ex) (a3.tr (fTw (by decide) (by decide)))
    refine xbr_f (zm1n (by omega)) ?_
    by_cases j2 : j < 2
    · refine xbr_f (by rw [nad]; exact znl (by omega) (by omega)) ?_
      refine m_at I hS hC hn (p := p + 1) (by omega) (by rw [hp, nad]) ?_
      by_cases e6 : byt n t (p + 1) = some 61
      · have p1 := (byt_some e6).1
        refine xbr_t (by rw [e6]; rfl) ?_
        have D : ∀ s'' : xS, TKs s'' (cnt + 1) (on kd cnt (10 + j)) (on vl cnt 0) (on pl cnt p) → s''.1 30 5 = s.1 30 5 → fT s s'' → Q none (xW s'' 30 5 (s''.1 30 5 + nI 2)) := by
          intro s'' a1 a2 a3
          have ex : s''.1 30 5 + nI 2 = nI (p + 2) := by rw [a2, hp, nad]
          refine h (p + 2) (10 + j) 0 _ ⟨by omega, by omega, Or.inr (Or.inr ⟨hL, hF, Or.inl ⟨j, hj, ej, rfl, Or.inl ⟨j2, e6, rfl, rfl⟩⟩⟩)⟩ (a1.nx _) (by rw [xW_s, ud_s]; exact ex) (a3.tr (fTw (by decide) (by decide)))
        by_cases j0 : j = 0
        · refine xbr_t (by rw [j0]; rfl) ?_
          exact m_tadd I hS hT hc (k := 10 + j) (v := 0) (p := p) (by rw [j0]) rfl hp D
        · refine xbr_f (by rw [nad]; exact zne (by omega) (by omega) (by decide)) ?_
          exact m_tadd I hS hT hc (k := 10 + j) (v := 0) (p := p) (by rw [show j = 1 by omega]) rfl hp D
      · exact xbr_f (fun z => e6 ((o32e (byt_b hb _) (by decide)).mp z)) (T96 (fun z => e6 z.2))
    · exact xbr_t (by rw [nad]; exact zlt (by omega) (by omega)) (T96 (fun z => j2 z.1))
  · refine xbr_t rfl ?_
    refine m_tadd I hS hT hc (k := 1) (v := 0) (p := p) rfl rfl hp (fun s'' a1 a2 a3 => ?_)
    have ex : s''.1 30 5 + nI 1 = nI (p + 1) := by rw [a2, hp, nad]
    exact h (p + 1) 1 0 _ ⟨by omega, by omega, Or.inr (Or.inr ⟨hL, hF, Or.inr ⟨hno, rfl, rfl, rfl⟩⟩)⟩ (a1.nx _) (by rw [xW_s, ud_s]; exact ex) (a3.tr (fTw (by decide) (by decide)))
/-- the tokens one behind the other -/
def TCh (n : Nat) (t : Nat → Nat) (cnt : Nat) (kd vl pl en : Nat → Nat) : Prop := en 0 = 0 ∧ ∀ i, i < cnt → TKp n t (en i) (pl i) (en (i + 1)) (kd i) (vl i)
theorem TCh.add {kd vl pl en : Nat → Nat} (h : TCh n t cnt kd vl pl en) {p e k v : Nat} (hp : TKp n t (en cnt) p e k v) : TCh n t (cnt + 1) (on kd cnt k) (on vl cnt v) (on pl cnt p) (on en (cnt + 1) e) := by
  refine ⟨by rw [on_n (by omega)]; exact h.1, fun i hi => ?_⟩
  by_cases z : i = cnt
  · subst z
    rw [on_s, on_s, on_s, on_s, on_n (by omega)]
    exact hp
  · rw [on_n z, on_n z, on_n z, on_n (by omega), on_n (by omega)]
    exact h.2 i (by omega)
theorem m_split (I : xRk X P) (hS : S ≤ 128) (hC : TC s n t) (hn : n ≤ 300) (hb : ∀ i, i < n → t i < 256) (h : ∀ (cnt : Nat) (kd vl pl en : Nat → Nat) (s' : xS), TKs s' cnt kd vl pl → TCh n t cnt kd vl pl en → en cnt ≤ n → (∀ q, en cnt ≤ q → q < n → isB (byt n t q)) → fT s s' → Q none s') : P (d + 7) (L0 S) 86 [.ref 30] s Q := by
  have loop : ∀ (m i p cnt : Nat) (kd vl pl en : Nat → Nat) (s' : xS) (o2 : Option Value), n - p ≤ m → p ≤ n → i ≤ p → cnt ≤ p → s'.1 30 5 = nI p → TKs s' cnt kd vl pl → TCh n t cnt kd vl pl en → en cnt ≤ p → (∀ q, en cnt ≤ q → q < p → isB (byt n t q)) → fT s s' → X (d + 6) mX9_split Q (L0 S) 12 [some (.ref 30), some (.int (nI i)), o2] [] s' := by
    intro m
    induction m with
    | zero =>
      intro i p cnt kd vl pl en s' o2 hm hp hi hcp hx hT hCh he hq hf
      have hpn : p = n := by omega
      subst hpn
      have done := h cnt kd vl pl en s' hT hCh he hq hf
      refine rn I.1 [] 99 ?_
      by_cases i3 : i < 300
      · refine xbr_t (zlt i3 (by decide)) ?_
        exact xbr_f (by rw [hx, (hC.T hf).1]; exact znl (Nat.le_refl _) (by omega)) done
      · exact xbr_f (znl (by omega) (by omega)) done
    | succ m ih =>
      intro i p cnt kd vl pl en s' o2 hm hp hi hcp hx hT hCh he hq hf
      by_cases hpn : p < n
      · have C' := hC.T hf
        have ei : nI (i + 1) = nI i + nI 1 := n1s i
        refine rn I.1 [12] 99 ?_
        refine xbr_t (zlt (by omega) (by decide)) ?_
        refine xbr_t (by rw [hx, C'.1]; exact zlt hpn (by omega)) ?_
        refine m_at I.1 hS C' hn (p := p) (by omega) hx ?_
        have NX : ∀ (e k v : Nat) (s'' : xS), ¬ isB (byt n t p) → TKw n t p e k v → TKs s'' (cnt + 1) (on kd cnt k) (on vl cnt v) (on pl cnt p) → s''.1 30 5 = nI e → fT s' s'' → X (d + 6) mX9_split Q (L0 S) 12 [some (.ref 30), some (.int (nI i + nI 1)), some (.int (o32 (byt n t p)))] [] s'' := by
          intro e k v s'' hnb hw a1 a2 a3
          have e1 := hw.1
          have e2 := hw.2.1
          have q := ih (i + 1) e (cnt + 1) _ _ _ _ s'' (some (.int (o32 (byt n t p)))) (by omega) e2 (by omega) (by omega) a2 a1 (hCh.add ⟨he, hq, hnb, hw⟩) (by rw [on_s]; exact Nat.le_refl _) (fun q h1 h2 => by rw [on_s] at h1; omega) (hf.tr a3)
          rw [ei] at q
          exact q
        refine m_isBlank I.1 hS (byt_b hb _) (fun z => ?_) (fun zb => ?_)
        · refine xbr_f n10 ?_
          have ex : s'.1 30 5 + nI 1 = nI (p + 1) := by rw [hx, nad]
          have q := ih (i + 1) (p + 1) cnt kd vl pl en (xW s' 30 5 (s'.1 30 5 + nI 1)) (some (.int (o32 (byt n t p)))) (by omega) (by omega) (by omega) (by omega) (by rw [xW_s, ud_s]; exact ex) (hT.nx _) hCh (by omega) (fun q h1 h2 => by
            by_cases e : q = p
            · rw [e]; exact z
            · exact hq q h1 (by omega)) (hf.tr (fTw (by decide) (by decide)))
          rw [ei] at q
          exact q
        · refine xbr_t rfl ?_
          refine m_isLetter I.1 hS (byt_b hb _) (fun z => ?_) (fun zl => ?_)
          · refine xbr_f n10 ?_
            exact m_splitWord I hS C' hn hb hT (by omega) hx z (fun e k v s'' w a1 a2 a3 => NX e k v s'' zb w a1 a2 a3)
          · refine xbr_t rfl ?_
            refine m_isFigure I.1 hS (byt_b hb _) (fun z => ?_) (fun zf => ?_)
            · refine xbr_f n10 ?_
              exact m_splitNumber I.1 hS C' hn hb hT (by omega) hx z (fun e k v s'' w a1 a2 a3 => NX e k v s'' zb w a1 a2 a3)
            · refine xbr_t rfl ?_
              have eb : o32 (byt n t p) = nI (t p) := by rw [byt_in hpn]; rfl
              have g := m_splitMark (Q := xkr (fun st s => X (d + 6) mX9_split Q (L0 S) 12 [some (.ref 30), some (.int (nI i + nI 1)), some (.int (o32 (byt n t p)))] st s) []) (d := d + 1) I.1 hS C' hn hb hT (by omega) hx hpn zl zf (fun e k v s'' w a1 a2 a3 => NX e k v s'' zb w a1 a2 a3)
              rw [← eb] at g
              exact g
      · have hpn : p = n := by omega
        exact ih i p cnt kd vl pl en s' o2 (by omega) hp hi hcp hx hT hCh he hq hf
  refine inX9_split I.1 (L0ok hS) ?_
  refine rn I.1 [12] 99 ?_
  refine loop n 0 0 0 (fun _ => 0) (fun _ => 0) (fun _ => 0) (fun _ => 0) _ none (by omega) (by omega) (by omega) (by omega) ?_ ⟨?_, by decide, fun i hi => absurd hi (Nat.not_lt_zero _)⟩ ⟨rfl, fun i hi => absurd hi (Nat.not_lt_zero _)⟩ (Nat.le_refl _) (fun q h1 h2 => absurd h2 (Nat.not_lt_zero _)) ((fTw (by decide) (by decide)).tr (fTw (by decide) (by decide)))
  · rw [xW_s, ud_s]
  · rw [xW_s, ud_n (by decide), xW_s, ud_s]
end SPLIT
