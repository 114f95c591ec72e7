/-! the reference's code for a clause: a list of orders (what, which); what it comes to -/
abbrev Cd : Type := List (Nat × Nat)
/-- the reference's number for the class's kind of a comparison -/
def mc (k : Nat) : Nat := match k with
  | 10 => 11
  | 11 => 13
  | 12 => 10
  | 13 => 12
  | _ => k
def MK (e : Nat → Nat) (K : Cd → List Int → List Int → Prop) : Prop := ∀ (R : Cd) (vs bs : List Int),
  (∀ v : Nat, v < 1000000 → K R ((v : Int) :: vs) bs → K ((0, v) :: R) vs bs) ∧
  (∀ v : Nat, v < 10 → K R ((e v : Int) :: vs) bs → K ((1, v) :: R) vs bs) ∧
  (∀ x : Int, K R (-x :: vs) bs → K ((2, 0) :: R) (x :: vs) bs) ∧
  (∀ (k : Nat) (x y : Int), k < 4 → In x → In y → K R (op2 k x y :: vs) bs → K ((3 + k, 0) :: R) (y :: x :: vs) bs) ∧
  (∀ (k : Nat) (x y : Int), 10 ≤ k → k < 16 → In x → In y → K R vs (cmz k x y :: bs) → K ((mc k, 0) :: R) (y :: x :: vs) bs) ∧
  (∀ x : Int, B1 x → K R vs ((1 - x) :: bs) → K ((20, 0) :: R) vs (x :: bs)) ∧
  (∀ x y : Int, B1 x → B1 y → K R vs (anz x y :: bs) → K ((21, 0) :: R) vs (y :: x :: bs)) ∧
  (∀ x y : Int, B1 x → B1 y → K R vs (orz x y :: bs) → K ((22, 0) :: R) vs (y :: x :: bs)) ∧
  (∀ c x y : Int, B1 c → K R ((if c = 0 then y else x) :: vs) bs → K ((23, 0) :: R) (y :: x :: vs) (c :: bs))
def MG (C : Cd) (D : Dn) : Prop := ∀ (e : Nat → Nat) (K : Cd → List Int → List Int → Prop), EB e → MK e K → ∀ (R : Cd) (vs bs : List Int), K R (D e :: vs) bs → K (C ++ R) vs bs
def MB (C : Cd) (D : Dn) : Prop := ∀ (e : Nat → Nat) (K : Cd → List Int → List Int → Prop), EB e → MK e K → ∀ (R : Cd) (vs bs : List Int), K R vs (D e :: bs) → K (C ++ R) vs bs
def DB (D : Dn) : Prop := ∀ e, B1 (D e)
theorem MG.num {v : Nat} (hv : v < 1000000) : MG [(0, v)] (fun _ => (v : Int)) := fun e K he hK R vs bs h => (hK R vs bs).1 v hv h
theorem MG.nam {v : Nat} (hv : v < 10) : MG [(1, v)] (fun e => (e v : Int)) := fun e K he hK R vs bs h => (hK R vs bs).2.1 v hv h
theorem MG.neg {C : Cd} {D : Dn} (h : MG C D) : MG (C ++ [(2, 0)]) (fun e => -(D e)) := fun e K he hK R vs bs k => by
  rw [List.append_assoc]
  exact h e K he hK _ vs bs ((hK R vs bs).2.2.1 (D e) k)
theorem MG.bin {C1 C2 : Cd} {D1 D2 : Dn} {k : Nat} (hk : k < 4) (h1 : MG C1 D1) (h2 : MG C2 D2) (i1 : DI D1) (i2 : DI D2) : MG (C1 ++ C2 ++ [(3 + k, 0)]) (fun e => op2 k (D1 e) (D2 e)) := fun e K he hK R vs bs q => by
  rw [List.append_assoc, List.append_assoc]
  refine h1 e K he hK _ vs bs (h2 e K he hK _ _ bs ?_)
  exact (hK R vs bs).2.2.2.1 k (D1 e) (D2 e) hk (i1 e he) (i2 e he) q
theorem MB.cmp {C1 C2 : Cd} {D1 D2 : Dn} {k : Nat} (hk : 10 ≤ k) (hk2 : k < 16) (h1 : MG C1 D1) (h2 : MG C2 D2) (i1 : DI D1) (i2 : DI D2) : MB (C1 ++ C2 ++ [(mc k, 0)]) (fun e => cmz k (D1 e) (D2 e)) := fun e K he hK R vs bs q => by
  rw [List.append_assoc, List.append_assoc]
  refine h1 e K he hK _ vs bs (h2 e K he hK _ _ bs ?_)
  exact (hK R vs bs).2.2.2.2.1 k (D1 e) (D2 e) hk hk2 (i1 e he) (i2 e he) q
theorem MB.nt {C : Cd} {D : Dn} (h : MB C D) (b : DB D) : MB (C ++ [(20, 0)]) (fun e => 1 - D e) := fun e K he hK R vs bs k => by
  rw [List.append_assoc]
  exact h e K he hK _ vs bs ((hK R vs bs).2.2.2.2.2.1 (D e) (b e) k)
theorem MB.and {C1 C2 : Cd} {D1 D2 : Dn} (h1 : MB C1 D1) (h2 : MB C2 D2) (b1 : DB D1) (b2 : DB D2) : MB (C1 ++ C2 ++ [(21, 0)]) (fun e => anz (D1 e) (D2 e)) := fun e K he hK R vs bs q => by
  rw [List.append_assoc, List.append_assoc]
  refine h1 e K he hK _ vs bs (h2 e K he hK _ _ _ ?_)
  exact (hK R vs bs).2.2.2.2.2.2.1 (D1 e) (D2 e) (b1 e) (b2 e) q
theorem MB.or {C1 C2 : Cd} {D1 D2 : Dn} (h1 : MB C1 D1) (h2 : MB C2 D2) (b1 : DB D1) (b2 : DB D2) : MB (C1 ++ C2 ++ [(22, 0)]) (fun e => orz (D1 e) (D2 e)) := fun e K he hK R vs bs q => by
  rw [List.append_assoc, List.append_assoc]
  refine h1 e K he hK _ vs bs (h2 e K he hK _ _ _ ?_)
  exact (hK R vs bs).2.2.2.2.2.2.2.1 (D1 e) (D2 e) (b1 e) (b2 e) q
theorem MG.ite {C0 C1 C2 : Cd} {D0 D1 D2 : Dn} (h0 : MB C0 D0) (h1 : MG C1 D1) (h2 : MG C2 D2) (b0 : DB D0) : MG (C0 ++ C1 ++ C2 ++ [(23, 0)]) (fun e => if D0 e = 0 then D2 e else D1 e) := fun e K he hK R vs bs q => by
  rw [List.append_assoc, List.append_assoc, List.append_assoc]
  refine h0 e K he hK _ vs bs (h1 e K he hK _ _ _ (h2 e K he hK _ _ _ ?_))
  exact (hK R vs bs).2.2.2.2.2.2.2.2 (D0 e) (D1 e) (D2 e) (b0 e) q
/-- the row r holds the code C from place a on, for the text whose rows begin at g -/
def CR (r : Nat → Int32) (g : Nat) : Nat → Cd → Prop
  | _, [] => True
  | a, c :: C => r (g + 15 + 2 * a) = nI c.1 ∧ r (g + 16 + 2 * a) = nI c.2 ∧ CR r g (a + 1) C
theorem CR.app {r : Nat → Int32} {g : Nat} : ∀ {a : Nat} {C1 C2 : Cd}, CR r g a (C1 ++ C2) ↔ CR r g a C1 ∧ CR r g (a + C1.length) C2
  | a, [], C2 => ⟨fun h => ⟨trivial, h⟩, fun h => h.2⟩
  | a, c :: C1, C2 => by
    show (_ ∧ _ ∧ CR r g (a + 1) (C1 ++ C2)) ↔ ((_ ∧ _ ∧ CR r g (a + 1) C1) ∧ CR r g (a + (C1.length + 1)) C2)
    rw [CR.app (a := a + 1) (C1 := C1), show a + 1 + C1.length = a + (C1.length + 1) by omega]
    exact ⟨fun ⟨h1, h2, h3, h4⟩ => ⟨⟨h1, h2, h3⟩, h4⟩, fun ⟨⟨h1, h2, h3⟩, h4⟩ => ⟨h1, h2, h3, h4⟩⟩
theorem CR.cg {r r' : Nat → Int32} {g : Nat} : ∀ {a : Nat} {C : Cd}, CR r g a C → (∀ i, g + 15 + 2 * a ≤ i → i < g + 15 + 2 * (a + C.length) → r' i = r i) → CR r' g a C
  | a, [], _, _ => trivial
  | a, c :: C, h, e => by
    have l : (c :: C).length = C.length + 1 := rfl
    refine ⟨?_, ?_, ?_⟩
    · rw [e _ (by omega) (by omega)]; exact h.1
    · rw [e _ (by omega) (by omega)]; exact h.2.1
    · exact CR.cg h.2.2 (fun i h1 h2 => e i (by omega) (by omega))
def VR (r : Nat → Int64) : List Int → Prop
  | [] => True
  | v :: q => r q.length = jL v ∧ VR r q
theorem VR.up {r : Nat → Int64} {x : Int64} {k : Nat} : ∀ {p : List Int}, p.length ≤ k → VR r p → VR (vp_updL r k x) p
  | [], _, _ => trivial
  | v :: q, h, hp => ⟨by
      have : q.length < k := h
      show vp_updL r k x q.length = _
      rw [pk_uLn (by omega)]
      exact hp.1, VR.up (Nat.le_of_lt h) hp.2⟩
def VB (s : xS) (vs bs : List Int) : Prop := VR (s.2 86) vs ∧ PR (s.1 87) bs
def fV (s s' : xS) : Prop := (∀ q, q ≠ 87 → s'.1 q = s.1 q) ∧ (∀ q, q ≠ 86 → s'.2 q = s.2 q)
theorem fV.tr {a b c : xS} (h : fV a b) (k : fV b c) : fV a c := ⟨fun q h1 => (k.1 q h1).trans (h.1 q h1), fun q h1 => (k.2 q h1).trans (h.2 q h1)⟩
theorem fV.rf {a : xS} : fV a a := ⟨fun _ _ => rfl, fun _ _ => rfl⟩
theorem VB.put {s : xS} {vs bs : List Int} (h : VB s vs bs) (x : Int) : VB (xWl s 86 vs.length (jL x)) (x :: vs) bs := ⟨⟨by rw [xWl_s, pk_uLs], by
    show VR (va_up s.2 86 (vp_updL (s.2 86) vs.length (jL x)) 86) vs
    rw [up_s]
    exact h.1.up (Nat.le_refl _)⟩, h.2⟩
theorem VB.top {s : xS} {vs bs : List Int} {y : Int} (h : VB s (y :: vs) bs) : VB s vs bs := ⟨h.1.2, h.2⟩
theorem VB.put1 {s : xS} {vs bs : List Int} (h : VB s vs bs) (x : Int) : VB (xW s 87 bs.length (jI x)) vs (x :: bs) := ⟨h.1, ⟨by rw [xW_s, ud_s], by
    show PR (va_up s.1 87 (upd (s.1 87) bs.length (jI x)) 87) bs
    rw [up_s]
    exact h.2.up (Nat.le_refl _)⟩⟩
theorem VB.top1 {s : xS} {vs bs : List Int} {y : Int} (h : VB s vs (y :: bs)) : VB s vs bs := ⟨h.1, h.2.2⟩
theorem fVl (s : xS) (z : Nat) (x : Int64) : fV s (xWl s 86 z x) := ⟨fun _ _ => rfl, fun _ h => xWl_n h⟩
theorem fVi (s : xS) (z : Nat) (x : Int32) : fV s (xW s 87 z x) := ⟨fun _ h => xW_n h, fun _ _ => rfl⟩
section MWORK
variable {X : xXT} {P : xPT} {d S : Nat} {s : xS} {Q : xQ}
theorem q_isAsked (I : xRl X P) (hS : S ≤ 128) {k : Nat} (hk : 10 ≤ k) (hk2 : k < 16) {x y : Int} (hx : In x) (hy : In y) (h : Q (some (.int (jI (cmz k x y)))) s) : P (d + 1) (L0 S) 179 [.int (nI (mc k)), .long (jL x), .long (jL y)] s Q := by
  have lt := (lc_lt (x := jL x) (y := jL y)).trans (jl_lt hx.lg hy.lg)
  have gt := (lc_gt (x := jL x) (y := jL y)).trans (jl_lt hy.lg hx.lg)
  have eq := (lc_eq (x := jL x) (y := jL y)).trans (jl_eq hx.lg hy.lg)
  have o1 : (nI 1 = nI 0 ∨ nI 1 = nI 1) := bo
  refine inX11_isAsked I (L0ok hS) ?_
  refine rn I [] 99 ?_
  rcases (show k = 10 ∨ k = 11 ∨ k = 12 ∨ k = 13 ∨ k = 14 ∨ k = 15 by omega) with rfl | rfl | rfl | rfl | rfl | rfl
  · refine xbr_f (by decide +kernel) (xbr_t rfl ?_)
    have h : Q (some (.int (jI (if x ≤ y then 1 else 0)))) s := h
    by_cases hc : y < x
    · rw [if_neg (by omega)] at h
      exact xbr_t (gt.mpr hc) ⟨bz, h⟩
    · rw [if_pos (by omega)] at h
      exact xbr_f (fun z => hc (gt.mp z)) ⟨bo, h⟩
  · refine xbr_f (by decide +kernel) (xbr_f (by decide +kernel) (xbr_f (by decide +kernel) (xbr_t rfl ?_)))
    have h : Q (some (.int (jI (if y ≤ x then 1 else 0)))) s := h
    by_cases hc : x < y
    · rw [if_neg (by omega)] at h
      exact xbr_t (lt.mpr hc) ⟨bz, h⟩
    · rw [if_pos (by omega)] at h
      exact xbr_f (fun z => hc (lt.mp z)) ⟨bo, h⟩
  · refine xbr_t rfl ?_
    have h : Q (some (.int (jI (if x < y then 1 else 0)))) s := h
    by_cases hc : x < y
    · rw [if_pos hc] at h
      exact xbr_t (lt.mpr hc) ⟨bo, h⟩
    · rw [if_neg hc] at h
      exact xbr_f (fun z => hc (lt.mp z)) ⟨bz, h⟩
  · refine xbr_f (by decide +kernel) (xbr_f (by decide +kernel) (xbr_t rfl ?_))
    have h : Q (some (.int (jI (if y < x then 1 else 0)))) s := h
    by_cases hc : y < x
    · rw [if_pos hc] at h
      exact xbr_t (gt.mpr hc) ⟨bo, h⟩
    · rw [if_neg hc] at h
      exact xbr_f (fun z => hc (gt.mp z)) ⟨bz, h⟩
  · refine xbr_f (by decide +kernel) (xbr_f (by decide +kernel) (xbr_f (by decide +kernel) (xbr_f (by decide +kernel) (xbr_t rfl ?_))))
    have h : Q (some (.int (jI (if x = y then 1 else 0)))) s := h
    by_cases hc : x = y
    · rw [if_pos hc] at h
      exact xbr_t (eq.mpr hc) ⟨bo, h⟩
    · rw [if_neg hc] at h
      exact xbr_f (fun z => hc (eq.mp z)) ⟨bz, h⟩
  · refine xbr_f (by decide +kernel) (xbr_f (by decide +kernel) (xbr_f (by decide +kernel) (xbr_f (by decide +kernel) (xbr_f (by decide +kernel) ?_))))
    have h : Q (some (.int (jI (if x = y then 0 else 1)))) s := h
    by_cases hc : x = y
    · rw [if_pos hc] at h
      exact xbr_t (eq.mpr hc) ⟨bz, h⟩
    · rw [if_neg hc] at h
      exact xbr_f (fun z => hc (eq.mp z)) ⟨bo, h⟩
/-- the reference's loop over a clause's code, at its head -/
def WM (X : xXT) (Q : xQ) (d S c t w : Nat) (s : xS) (R : Cd) (vs bs : List Int) : Prop := ∀ q, q + R.length = w → vs.length ≤ q → bs.length ≤ q → CR (s.1 82) (620 * t) q R → ∀ (s' : xS) (o7 o8 : Option Value), VB s' vs bs → fV s s' → X (d + 3) mX11_work Q (L0 S) 47 [some (.ref 79), some (.int (nI c)), some (.int (nI (620 * t + 1 + 3 * c))), some (.int (nI (620 * t + 15))), some (.int (nI vs.length)), some (.int (nI bs.length)), some (.int (nI q)), o7, o8] [] s'
set_option maxRecDepth 8000 in
theorem q_work (I : xRl X P) (hS : S ≤ 128) {e : Nat → Nat} {t c a w : Nat} {C : Cd} {D : Dn} (ht : t < 4) (hc : c < 4) (hru : s.1 80 2 = nI t) (ea : s.1 82 (620 * t + 2 + 3 * c) = nI a) (ew : s.1 82 (620 * t + 3 + 3 * c) = nI w) (hw : w ≤ 300) (hl : a + C.length = w) (hC : CR (s.1 82) (620 * t) a C) (hM : MG C D) (he : EB e) (hN : ∀ k, k < 10 → s.1 85 k = nI (e k)) (h : ∀ s' : xS, fV s s' → s'.2 86 0 = jL (D e) → Q none s') : P (d + 4) (L0 S) 180 [.ref 79, .int (nI c)] s Q := by
  have main : MK e (WM X Q d S c t w s) := by
    intro R vs bs
    refine ⟨fun v hv' kk => ?_, fun v hv' kk => ?_, fun x kk => ?_, fun k x y hk hx hy kk => ?_, fun k x y hk hk2 hx hy kk => ?_, fun x hx kk => ?_, fun x y hx hy kk => ?_, fun x y hx hy kk => ?_, fun cc x y hcc kk => ?_⟩
    · intro q hq hv hb hCR s' o7 o8 hVB hf
      have hR : R.length + 1 + q = w := by rw [← hq, List.length_cons]; omega
      obtain ⟨e7, e8, hCR⟩ := hCR
      have e7 : s'.1 82 (620 * t + 15 + 2 * q) = nI 0 := by rw [hf.1 82 (by decide)]; exact e7
      have e8 : s'.1 82 (620 * t + 16 + 2 * q) = nI v := by rw [hf.1 82 (by decide)]; exact e8
      have ew' : s'.1 82 (620 * t + 3 + 3 * c) = nI w := by rw [hf.1 82 (by decide)]; exact ew
      refine rn I [47] 199 ?_
      refine ⟨620 * t + 3 + 3 * c, ⟨by omega, by rw [nad]; congr 1; omega⟩, ?_⟩
      refine xbr_t (by rw [ew']; exact zlt (by omega) (by omega)) ?_
      refine ⟨620 * t + 15 + 2 * q, ⟨by omega, by rw [nml, nad]⟩, ?_⟩
      refine ⟨620 * t + 16 + 2 * q, ⟨by omega, by rw [nml, nad, nad]; congr 1; omega⟩, ?_⟩
      rw [e7, e8]
      refine xbr_f (by decide +kernel) (xbr_t rfl ?_)
      refine ⟨vs.length, ⟨by omega, rfl⟩, ?_⟩
      have z := kk (q + 1) (by omega) (by show vs.length + 1 ≤ q + 1; omega) (by omega) hCR _ (some (.int (nI 0))) (some (.int (nI v))) (hVB.put (v : Int)) (hf.tr (fVl s' vs.length (jL (v : Int))))
      rw [List.length_cons, n1s q, n1s vs.length, ← ji_l (In.nt (show v ≤ 1000000 by omega)).sm, ← jn] at z
      exact z
    · intro q hq hv hb hCR s' o7 o8 hVB hf
      have hR : R.length + 1 + q = w := by rw [← hq, List.length_cons]; omega
      obtain ⟨e7, e8, hCR⟩ := hCR
      have e7 : s'.1 82 (620 * t + 15 + 2 * q) = nI 1 := by rw [hf.1 82 (by decide)]; exact e7
      have e8 : s'.1 82 (620 * t + 16 + 2 * q) = nI v := by rw [hf.1 82 (by decide)]; exact e8
      have ew' : s'.1 82 (620 * t + 3 + 3 * c) = nI w := by rw [hf.1 82 (by decide)]; exact ew
      refine rn I [47] 199 ?_
      refine ⟨620 * t + 3 + 3 * c, ⟨by omega, by rw [nad]; congr 1; omega⟩, ?_⟩
      refine xbr_t (by rw [ew']; exact zlt (by omega) (by omega)) ?_
      refine ⟨620 * t + 15 + 2 * q, ⟨by omega, by rw [nml, nad]⟩, ?_⟩
      refine ⟨620 * t + 16 + 2 * q, ⟨by omega, by rw [nml, nad, nad]; congr 1; omega⟩, ?_⟩
      rw [e7, e8]
      refine xbr_f (by decide +kernel) (xbr_f n10 ?_)
      refine ⟨v, ⟨hv', rfl⟩, ?_⟩
      refine ⟨vs.length, ⟨by omega, rfl⟩, ?_⟩
      have ev := he v hv'
      have en : s'.1 85 v = nI (e v) := by rw [hf.1 85 (by decide)]; exact hN v hv'
      have z := kk (q + 1) (by omega) (by show vs.length + 1 ≤ q + 1; omega) (by omega) hCR _ (some (.int (nI 1))) (some (.int (nI v))) (hVB.put (e v : Int)) (hf.tr (fVl s' vs.length (jL (e v : Int))))
      rw [List.length_cons, n1s q, n1s vs.length, ← ji_l (In.nt (show e v ≤ 1000000 by omega)).sm, ← jn, ← en] at z
      exact z
    · intro q hq hv hb hCR s' o7 o8 hVB hf
      have hR : R.length + 1 + q = w := by rw [← hq, List.length_cons]; omega
      obtain ⟨e7, e8, hCR⟩ := hCR
      have e7 : s'.1 82 (620 * t + 15 + 2 * q) = nI 2 := by rw [hf.1 82 (by decide)]; exact e7
      have e8 : s'.1 82 (620 * t + 16 + 2 * q) = nI 0 := by rw [hf.1 82 (by decide)]; exact e8
      have ew' : s'.1 82 (620 * t + 3 + 3 * c) = nI w := by rw [hf.1 82 (by decide)]; exact ew
      refine rn I [47] 199 ?_
      refine ⟨620 * t + 3 + 3 * c, ⟨by omega, by rw [nad]; congr 1; omega⟩, ?_⟩
      refine xbr_t (by rw [ew']; exact zlt (by omega) (by omega)) ?_
      refine ⟨620 * t + 15 + 2 * q, ⟨by omega, by rw [nml, nad]⟩, ?_⟩
      refine ⟨620 * t + 16 + 2 * q, ⟨by omega, by rw [nml, nad, nad]; congr 1; omega⟩, ?_⟩
      rw [e7, e8]
      have hv : vs.length + 1 ≤ q := hv
      have E1 : nI (x :: vs).length - nI 1 = nI vs.length := nsb (by show 1 ≤ vs.length + 1; omega)
      refine xbr_t (by decide +kernel) (xbr_t rfl ?_)
      refine ⟨vs.length, ⟨by omega, E1⟩, ?_⟩
      refine ⟨vs.length, ⟨by omega, E1⟩, ?_⟩
      have z := kk (q + 1) (by omega) (by show vs.length + 1 ≤ q + 1; omega) (by omega) hCR _ (some (.int (nI 2))) (some (.int (nI 0))) (hVB.top.put (-x)) (hf.tr (fVl s' vs.length (jL (-x))))
      rw [n1s q, ← jl_neg, ← hVB.1.1] at z
      exact z
    · intro q hq hv hb hCR s' o7 o8 hVB hf
      have hR : R.length + 1 + q = w := by rw [← hq, List.length_cons]; omega
      obtain ⟨e7, e8, hCR⟩ := hCR
      have e7 : s'.1 82 (620 * t + 15 + 2 * q) = nI (3 + k) := by rw [hf.1 82 (by decide)]; exact e7
      have e8 : s'.1 82 (620 * t + 16 + 2 * q) = nI 0 := by rw [hf.1 82 (by decide)]; exact e8
      have ew' : s'.1 82 (620 * t + 3 + 3 * c) = nI w := by rw [hf.1 82 (by decide)]; exact ew
      refine rn I [47] 199 ?_
      refine ⟨620 * t + 3 + 3 * c, ⟨by omega, by rw [nad]; congr 1; omega⟩, ?_⟩
      refine xbr_t (by rw [ew']; exact zlt (by omega) (by omega)) ?_
      refine ⟨620 * t + 15 + 2 * q, ⟨by omega, by rw [nml, nad]⟩, ?_⟩
      refine ⟨620 * t + 16 + 2 * q, ⟨by omega, by rw [nml, nad, nad]; congr 1; omega⟩, ?_⟩
      rw [e7, e8]
      have hv : vs.length + 1 + 1 ≤ q := hv
      have E1 : nI (y :: x :: vs).length - nI 1 = nI (x :: vs).length := nsb (by show 1 ≤ vs.length + 1 + 1; omega)
      have E2 : nI (x :: vs).length - nI 1 = nI vs.length := nsb (by show 1 ≤ vs.length + 1; omega)
      refine xbr_t (zlt (by omega) (by omega)) (xbr_f (zne (by omega) (by omega) (by omega)) (xbr_t (zlt (by omega) (by omega)) ?_))
      refine ⟨vs.length, ⟨by omega, by rw [E1]; exact E2⟩, ?_⟩
      refine ⟨vs.length + 1, ⟨by omega, E1⟩, ?_⟩
      have g1 : s'.2 86 vs.length = jL x := hVB.1.2.1
      have g2 : s'.2 86 (vs.length + 1) = jL y := hVB.1.1
      rw [g1, g2]
      refine q_two I hS hk hx hy ?_
      refine ⟨vs.length, ⟨by omega, by rw [E1]; exact E2⟩, ?_⟩
      have z := kk (q + 1) (by omega) (by show vs.length + 1 ≤ q + 1; omega) (by omega) hCR _ (some (.int (nI (3 + k)))) (some (.int (nI 0))) (hVB.top.top.put (op2 k x y)) (hf.tr (fVl s' vs.length (jL (op2 k x y))))
      rw [n1s q, show (op2 k x y :: vs).length = (x :: vs).length from rfl, ← E1] at z
      exact z
    · intro q hq hv hb hCR s' o7 o8 hVB hf
      have hR : R.length + 1 + q = w := by rw [← hq, List.length_cons]; omega
      obtain ⟨e7, e8, hCR⟩ := hCR
      have e7 : s'.1 82 (620 * t + 15 + 2 * q) = nI (mc k) := by rw [hf.1 82 (by decide)]; exact e7
      have e8 : s'.1 82 (620 * t + 16 + 2 * q) = nI 0 := by rw [hf.1 82 (by decide)]; exact e8
      have ew' : s'.1 82 (620 * t + 3 + 3 * c) = nI w := by rw [hf.1 82 (by decide)]; exact ew
      refine rn I [47] 199 ?_
      refine ⟨620 * t + 3 + 3 * c, ⟨by omega, by rw [nad]; congr 1; omega⟩, ?_⟩
      refine xbr_t (by rw [ew']; exact zlt (by omega) (by omega)) ?_
      refine ⟨620 * t + 15 + 2 * q, ⟨by omega, by rw [nml, nad]⟩, ?_⟩
      refine ⟨620 * t + 16 + 2 * q, ⟨by omega, by rw [nml, nad, nad]; congr 1; omega⟩, ?_⟩
      rw [e7, e8]
      have hv : vs.length + 1 + 1 ≤ q := hv
      have hm : 10 ≤ mc k ∧ mc k < 16 := by
        rcases (show k = 10 ∨ k = 11 ∨ k = 12 ∨ k = 13 ∨ k = 14 ∨ k = 15 by omega) with rfl | rfl | rfl | rfl | rfl | rfl <;> decide
      have E1 : nI (y :: x :: vs).length - nI 2 = nI vs.length := nsb (by show 2 ≤ vs.length + 1 + 1; omega)
      refine xbr_t (zlt (by omega) (by omega)) (xbr_f (zne (by omega) (by omega) (by omega)) (xbr_f (znl (by omega) (by omega)) (xbr_t (zlt (by omega) (by omega)) ?_)))
      refine ⟨vs.length, ⟨by omega, E1⟩, ?_⟩
      refine ⟨vs.length + 1, ⟨by omega, by rw [E1, nad]⟩, ?_⟩
      have g1 : s'.2 86 vs.length = jL x := hVB.1.2.1
      have g2 : s'.2 86 (vs.length + 1) = jL y := hVB.1.1
      rw [g1, g2]
      refine q_isAsked I hS hk hk2 hx hy ?_
      refine ⟨bs.length, ⟨by omega, rfl, by rcases cmz_b k x y with z | z <;> rw [z]; exact bz; exact bo⟩, ?_⟩
      have z := kk (q + 1) (by omega) (by omega) (by show bs.length + 1 ≤ q + 1; omega) hCR _ (some (.int (nI (mc k)))) (some (.int (nI 0))) (hVB.top.top.put1 (cmz k x y)) (hf.tr (fVi s' bs.length (jI (cmz k x y))))
      rw [n1s q, List.length_cons, n1s bs.length, ← E1] at z
      exact z
    · intro q hq hv hb hCR s' o7 o8 hVB hf
      have hR : R.length + 1 + q = w := by rw [← hq, List.length_cons]; omega
      obtain ⟨e7, e8, hCR⟩ := hCR
      have e7 : s'.1 82 (620 * t + 15 + 2 * q) = nI 20 := by rw [hf.1 82 (by decide)]; exact e7
      have e8 : s'.1 82 (620 * t + 16 + 2 * q) = nI 0 := by rw [hf.1 82 (by decide)]; exact e8
      have ew' : s'.1 82 (620 * t + 3 + 3 * c) = nI w := by rw [hf.1 82 (by decide)]; exact ew
      refine rn I [47] 199 ?_
      refine ⟨620 * t + 3 + 3 * c, ⟨by omega, by rw [nad]; congr 1; omega⟩, ?_⟩
      refine xbr_t (by rw [ew']; exact zlt (by omega) (by omega)) ?_
      refine ⟨620 * t + 15 + 2 * q, ⟨by omega, by rw [nml, nad]⟩, ?_⟩
      refine ⟨620 * t + 16 + 2 * q, ⟨by omega, by rw [nml, nad, nad]; congr 1; omega⟩, ?_⟩
      rw [e7, e8]
      have hb : bs.length + 1 ≤ q := hb
      have E1 : nI (x :: bs).length - nI 1 = nI bs.length := nsb (by show 1 ≤ bs.length + 1; omega)
      have g1 : s'.1 87 bs.length = jI x := hVB.2.1
      refine xbr_t (by decide +kernel) (xbr_f (by decide +kernel) (xbr_f (by decide +kernel) (xbr_f (by decide +kernel) (xbr_t rfl ?_))))
      refine ⟨bs.length, ⟨by omega, E1⟩, ?_⟩
      have z := kk (q + 1) (by omega) (by omega) (by show bs.length + 1 ≤ q + 1; omega) hCR _ (some (.int (nI 20))) (some (.int (nI 0))) (hVB.top1.put1 (1 - x)) (hf.tr (fVi s' bs.length (jI (1 - x))))
      rw [n1s q] at z
      rcases hx with rfl | rfl
      · refine xbr_t (by rw [g1]; rfl) ?_
        exact ⟨bs.length, ⟨by omega, E1, bo⟩, z⟩
      · refine xbr_f (by rw [g1]; exact n10) ?_
        exact ⟨bs.length, ⟨by omega, E1, bz⟩, z⟩
    · intro q hq hv hb hCR s' o7 o8 hVB hf
      have hR : R.length + 1 + q = w := by rw [← hq, List.length_cons]; omega
      obtain ⟨e7, e8, hCR⟩ := hCR
      have e7 : s'.1 82 (620 * t + 15 + 2 * q) = nI 21 := by rw [hf.1 82 (by decide)]; exact e7
      have e8 : s'.1 82 (620 * t + 16 + 2 * q) = nI 0 := by rw [hf.1 82 (by decide)]; exact e8
      have ew' : s'.1 82 (620 * t + 3 + 3 * c) = nI w := by rw [hf.1 82 (by decide)]; exact ew
      refine rn I [47] 199 ?_
      refine ⟨620 * t + 3 + 3 * c, ⟨by omega, by rw [nad]; congr 1; omega⟩, ?_⟩
      refine xbr_t (by rw [ew']; exact zlt (by omega) (by omega)) ?_
      refine ⟨620 * t + 15 + 2 * q, ⟨by omega, by rw [nml, nad]⟩, ?_⟩
      refine ⟨620 * t + 16 + 2 * q, ⟨by omega, by rw [nml, nad, nad]; congr 1; omega⟩, ?_⟩
      rw [e7, e8]
      have hb : bs.length + 1 + 1 ≤ q := hb
      have E1 : nI (y :: x :: bs).length - nI 1 = nI (x :: bs).length := nsb (by show 1 ≤ bs.length + 1 + 1; omega)
      have E2 : nI (x :: bs).length - nI 1 = nI bs.length := nsb (by show 1 ≤ bs.length + 1; omega)
      have g1 : s'.1 87 bs.length = jI x := hVB.2.2.1
      have g2 : s'.1 87 (bs.length + 1) = jI y := hVB.2.1
      refine xbr_t (by decide +kernel) (xbr_f (by decide +kernel) (xbr_f (by decide +kernel) (xbr_f (by decide +kernel) (xbr_f (by decide +kernel) (xbr_f (by decide +kernel) (xbr_t rfl ?_))))))
      have z := kk (q + 1) (by omega) (by omega) (by show bs.length + 1 ≤ q + 1; omega) hCR _ (some (.int (nI 21))) (some (.int (nI 0))) (hVB.top1.top1.put1 (anz x y)) (hf.tr (fVi s' bs.length (jI (anz x y))))
      rw [n1s q, show (anz x y :: bs).length = (x :: bs).length from rfl, ← E1] at z
      refine ⟨bs.length, ⟨by omega, by rw [E1]; exact E2⟩, ?_⟩
      rcases hx with rfl | rfl
      · refine xbr_t (by rw [g1]; rfl) ?_
        rcases hy with rfl | rfl
        · exact ⟨bs.length, ⟨by omega, by rw [E1]; exact E2, bz⟩, z⟩
        · exact ⟨bs.length, ⟨by omega, by rw [E1]; exact E2, bz⟩, z⟩
      · refine xbr_f (by rw [g1]; exact n10) ?_
        refine ⟨bs.length + 1, ⟨by omega, E1⟩, ?_⟩
        rcases hy with rfl | rfl
        · refine xbr_t (by rw [g2]; rfl) ?_
          exact ⟨bs.length, ⟨by omega, by rw [E1]; exact E2, bz⟩, z⟩
        · refine xbr_f (by rw [g2]; exact n10) ?_
          exact ⟨bs.length, ⟨by omega, by rw [E1]; exact E2, bo⟩, z⟩
    · intro q hq hv hb hCR s' o7 o8 hVB hf
      have hR : R.length + 1 + q = w := by rw [← hq, List.length_cons]; omega
      obtain ⟨e7, e8, hCR⟩ := hCR
      have e7 : s'.1 82 (620 * t + 15 + 2 * q) = nI 22 := by rw [hf.1 82 (by decide)]; exact e7
      have e8 : s'.1 82 (620 * t + 16 + 2 * q) = nI 0 := by rw [hf.1 82 (by decide)]; exact e8
      have ew' : s'.1 82 (620 * t + 3 + 3 * c) = nI w := by rw [hf.1 82 (by decide)]; exact ew
      refine rn I [47] 199 ?_
      refine ⟨620 * t + 3 + 3 * c, ⟨by omega, by rw [nad]; congr 1; omega⟩, ?_⟩
      refine xbr_t (by rw [ew']; exact zlt (by omega) (by omega)) ?_
      refine ⟨620 * t + 15 + 2 * q, ⟨by omega, by rw [nml, nad]⟩, ?_⟩
      refine ⟨620 * t + 16 + 2 * q, ⟨by omega, by rw [nml, nad, nad]; congr 1; omega⟩, ?_⟩
      rw [e7, e8]
      have hb : bs.length + 1 + 1 ≤ q := hb
      have E1 : nI (y :: x :: bs).length - nI 1 = nI (x :: bs).length := nsb (by show 1 ≤ bs.length + 1 + 1; omega)
      have E2 : nI (x :: bs).length - nI 1 = nI bs.length := nsb (by show 1 ≤ bs.length + 1; omega)
      have g1 : s'.1 87 bs.length = jI x := hVB.2.2.1
      have g2 : s'.1 87 (bs.length + 1) = jI y := hVB.2.1
      refine xbr_t (by decide +kernel) (xbr_f (by decide +kernel) (xbr_f (by decide +kernel) (xbr_f (by decide +kernel) (xbr_f (by decide +kernel) (xbr_f (by decide +kernel) (xbr_f (by decide +kernel) ?_))))))
      have z := kk (q + 1) (by omega) (by omega) (by show bs.length + 1 ≤ q + 1; omega) hCR _ (some (.int (nI 22))) (some (.int (nI 0))) (hVB.top1.top1.put1 (orz x y)) (hf.tr (fVi s' bs.length (jI (orz x y))))
      rw [n1s q, show (orz x y :: bs).length = (x :: bs).length from rfl, ← E1] at z
      refine ⟨bs.length, ⟨by omega, by rw [E1]; exact E2⟩, ?_⟩
      rcases hx with rfl | rfl
      · refine xbr_t (by rw [g1]; rfl) ?_
        refine ⟨bs.length + 1, ⟨by omega, E1⟩, ?_⟩
        rcases hy with rfl | rfl
        · refine xbr_t (by rw [g2]; rfl) ?_
          exact ⟨bs.length, ⟨by omega, by rw [E1]; exact E2, bz⟩, z⟩
        · refine xbr_f (by rw [g2]; exact n10) ?_
          exact ⟨bs.length, ⟨by omega, by rw [E1]; exact E2, bo⟩, z⟩
      · refine xbr_f (by rw [g1]; exact n10) ?_
        rcases hy with rfl | rfl
        · exact ⟨bs.length, ⟨by omega, by rw [E1]; exact E2, bo⟩, z⟩
        · exact ⟨bs.length, ⟨by omega, by rw [E1]; exact E2, bo⟩, z⟩
    · intro q hq hv hb hCR s' o7 o8 hVB hf
      have hR : R.length + 1 + q = w := by rw [← hq, List.length_cons]; omega
      obtain ⟨e7, e8, hCR⟩ := hCR
      have e7 : s'.1 82 (620 * t + 15 + 2 * q) = nI 23 := by rw [hf.1 82 (by decide)]; exact e7
      have e8 : s'.1 82 (620 * t + 16 + 2 * q) = nI 0 := by rw [hf.1 82 (by decide)]; exact e8
      have ew' : s'.1 82 (620 * t + 3 + 3 * c) = nI w := by rw [hf.1 82 (by decide)]; exact ew
      refine rn I [47] 199 ?_
      refine ⟨620 * t + 3 + 3 * c, ⟨by omega, by rw [nad]; congr 1; omega⟩, ?_⟩
      refine xbr_t (by rw [ew']; exact zlt (by omega) (by omega)) ?_
      refine ⟨620 * t + 15 + 2 * q, ⟨by omega, by rw [nml, nad]⟩, ?_⟩
      refine ⟨620 * t + 16 + 2 * q, ⟨by omega, by rw [nml, nad, nad]; congr 1; omega⟩, ?_⟩
      rw [e7, e8]
      have hv : vs.length + 1 + 1 ≤ q := hv
      have hb : bs.length + 1 ≤ q := hb
      have E1 : nI (y :: x :: vs).length - nI 1 = nI (x :: vs).length := nsb (by show 1 ≤ vs.length + 1 + 1; omega)
      have E2 : nI (x :: vs).length - nI 1 = nI vs.length := nsb (by show 1 ≤ vs.length + 1; omega)
      have E3 : nI (cc :: bs).length - nI 1 = nI bs.length := nsb (by show 1 ≤ bs.length + 1; omega)
      have g0 : s'.1 87 bs.length = jI cc := hVB.2.1
      have g1 : s'.2 86 vs.length = jL x := hVB.1.2.1
      have g2 : s'.2 86 (vs.length + 1) = jL y := hVB.1.1
      refine xbr_t (by decide +kernel) (xbr_f (by decide +kernel) (xbr_f (by decide +kernel) (xbr_f (by decide +kernel) (xbr_f (by decide +kernel) (xbr_t rfl ?_)))))
      refine ⟨bs.length, ⟨by omega, E3⟩, ?_⟩
      have z := kk (q + 1) (by omega) (by show vs.length + 1 ≤ q + 1; omega) (by omega) hCR _ (some (.int (nI 23))) (some (.int (nI 0))) (hVB.top1.top.top.put (if cc = 0 then y else x)) (hf.tr (fVl s' vs.length (jL (if cc = 0 then y else x))))
      rw [n1s q, show ((if cc = 0 then y else x) :: vs).length = (x :: vs).length from rfl, ← E1, ← E3] at z
      rcases hcc with rfl | rfl
      · refine xbr_t (by rw [g0]; rfl) ?_
        refine ⟨vs.length + 1, ⟨by omega, E1⟩, ?_⟩
        refine ⟨vs.length, ⟨by omega, by rw [E1]; exact E2⟩, ?_⟩
        rw [if_pos rfl, ← g2] at z
        exact z
      · refine xbr_f (by rw [g0]; exact n10) ?_
        refine ⟨vs.length, ⟨by omega, by rw [E1]; exact E2⟩, ?_⟩
        refine ⟨vs.length, ⟨by omega, by rw [E1]; exact E2⟩, ?_⟩
        rw [if_neg (by decide), ← g1] at z
        exact z
  refine inX11_work I (L0ok hS) ?_
  refine rn I [47] 99 ?_
  refine ⟨2, ⟨by decide, rfl⟩, ?_⟩
  refine ⟨2, ⟨by decide, rfl⟩, ?_⟩
  have e2 : nI 620 * s.1 80 2 + nI 1 + nI 3 * nI c = nI (620 * t + 1 + 3 * c) := by rw [hru, nml, nad, nml, nad]
  have e3 : nI 620 * s.1 80 2 + nI 15 = nI (620 * t + 15) := by rw [hru, nml, nad]
  refine ⟨620 * t + 2 + 3 * c, ⟨by omega, by rw [e2, nad]; congr 1; omega⟩, ?_⟩
  have k := hM e (WM X Q d S c t w s) he main [] [] [] (fun q hq hv hb hCR s' o7 o8 hVB hf => by
    have ew' : s'.1 82 (620 * t + 3 + 3 * c) = nI w := by rw [hf.1 82 (by decide)]; exact ew
    refine rn I [] 99 ?_
    refine ⟨620 * t + 3 + 3 * c, ⟨by omega, by rw [nad]; congr 1; omega⟩, ?_⟩
    have hq : q = w := hq
    refine xbr_f (by rw [ew', hq]; exact znl (Nat.le_refl _) (by omega)) ?_
    exact h s' hf hVB.1.1)
  rw [List.append_nil] at k
  have z := k a hl (Nat.zero_le _) (Nat.zero_le _) hC s none none ⟨trivial, trivial⟩ fV.rf
  rw [← e2, ← e3, ← ea] at z
  exact z
end MWORK
