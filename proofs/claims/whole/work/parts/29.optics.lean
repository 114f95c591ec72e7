/-! what a text says: the meaning of its clauses; the names; what a clause comes to -/
def al (k c : Nat) : Prop := k ≤ 4 ∨ (k = 9 ∧ c = 3) ∨ (k ≠ 9 ∧ (c = 1 ∨ c = 2))
def DA (c : Nat) (D : Dn) : Prop := ∀ e e' : Nat → Nat, (∀ k, k < 10 → al k c → e k = e' k) → D e = D e'
def mst (c : Nat) : Nat := match c with
  | 0 => 99
  | 1 => 9
  | 2 => 9
  | _ => 999
def hld (m : Nat) (z : Int) : Nat := if z < 0 then 0 else if (m : Int) < z then m else z.toNat
def dfl (c : Nat) (e : Nat → Nat) : Nat := match c with
  | 0 => 1
  | 1 => if e 7 = 1 then 0 else e 2
  | _ => 0
def tlv (c : Nat) (od : Option Dn) (e : Nat → Nat) : Nat := match od with
  | none => dfl c e
  | some D => hld (mst c) (D e)
theorem tlv_cg {c : Nat} {od : Option Dn} {e e' : Nat → Nat} (hd : ∀ D, od = some D → DA c D) (h : ∀ k, k < 10 → al k c → e k = e' k) : tlv c od e = tlv c od e' := by
  cases od with
  | some D => show hld (mst c) (D e) = hld (mst c) (D e'); rw [hd D rfl e e' h]
  | none =>
    show dfl c e = dfl c e'
    match c with
    | 0 => rfl
    | 1 =>
      show (if e 7 = 1 then 0 else e 2) = (if e' 7 = 1 then 0 else e' 2)
      rw [h 7 (by decide) (Or.inr (Or.inr ⟨by decide, Or.inl rfl⟩)), h 2 (by decide) (Or.inl (by decide))]
    | _ + 2 => rfl
/-- what the class holds of a clause c of the program at k; what the reference holds of a clause c of its text t -/
def XC (s : xS) (k c : Nat) (o : Nat → Nat) (z : Nat) (od : Option Dn) : Prop := match od with
  | none => s.1 (k + 1) c = -(nI 1)
  | some D => ∃ a b, s.1 (k + 1) c = nI a ∧ s.1 (k + 2) c = nI b ∧ b ≤ z ∧ SG o a b 64 D
def XM (r : Nat → Int32) (t c m : Nat) (l : Nat → Nat) (od : Option Dn) : Prop := match od with
  | none => ∀ j, j < m → l j ≠ c
  | some D => ∃ j a w C, j < m ∧ l j = c ∧ (∀ i, i < j → l i ≠ c) ∧ r (620 * t + 2 + 3 * j) = nI a ∧ r (620 * t + 3 + 3 * j) = nI w ∧ w ≤ 300 ∧ a + C.length = w ∧ CR r (620 * t) a C ∧ MG C D
def TDs (c : Nat) (od : Option Dn) : Prop := ∀ D, od = some D → DI D ∧ DA c D
def TXC (s : xS) (n : Nat) (dn : Nat → Nat → Option Dn) : Prop := (∀ c, c < 4 → s.1 53 c = -(nI 1)) ∧ ∀ t, t < n → ∃ o z, PG s (35 + 4 * t) o z ∧ ∀ c, c < 4 → XC s (35 + 4 * t) c o z (dn t c) ∧ TDs c (dn t c)
def TXM (s : xS) (n : Nat) (dn : Nat → Nat → Option Dn) : Prop := ∀ t, t < n → ∃ m l, m ≤ 4 ∧ s.1 82 (620 * t) = nI m ∧ (∀ j, j < m → s.1 82 (620 * t + 1 + 3 * j) = nI (l j) ∧ l j < 4) ∧ ∀ c, c < 4 → XM (s.1 82) t c m l (dn t c)
/-- the meaning that rules -/
def rdn (ru : Int32) (n : Nat) (dn : Nat → Nat → Option Dn) (dr : Nat → Option Dn) : Prop := (ru = -(nI 1) ∧ ∀ c, dr c = none) ∨ ∃ t, t < n ∧ ru = nI t ∧ dr = dn t
def NC (s : xS) (e : Nat → Nat) : Prop := ∀ k, k < 10 → s.1 57 k = nI (e k)
def NMd (s : xS) (e : Nat → Nat) : Prop := ∀ k, k < 10 → s.1 85 k = nI (e k)
def fce (f : Nm) (st : Nat) (e : Nat → Nat) : Nat → Nat := fun k => match k with
  | 0 => st / 8 % f 0 0
  | 1 => st / 8 / f 0 0
  | 2 => st % 8 / 2 + 1
  | 3 => st % 2
  | 4 => f 1 (st / 8)
  | k => e k
def adf (a b : Nat) : Nat := (a - b) + (b - a)
def aie (f : Nm) (n cell tu hr : Nat) (e : Nat → Nat) : Nat → Nat := fun k => match k with
  | 5 => hr
  | 6 => n
  | 7 => tu
  | 8 => adf (e 0) (cell % f 0 0) + adf (e 1) (cell / f 0 0)
  | k => e k
def cho (a : Nat) (e : Nat → Nat) : Nat → Nat := fun k => match k with
  | 9 => a
  | k => e k
theorem k10 {k : Nat} (h : k < 10) : k = 0 ∨ k = 1 ∨ k = 2 ∨ k = 3 ∨ k = 4 ∨ k = 5 ∨ k = 6 ∨ k = 7 ∨ k = 8 ∨ k = 9 := by omega
theorem fce_b {f : Nm} {st : Nat} {e : Nat → Nat} (hB : FB f) (hst : st < 8 * cc f) (he : EB e) : EB (fce f st e) := by
  have hc := hB.cc16
  have h1 : f 1 (st / 8) < 10 := hB.2.1 1 (st / 8) (by show st / 8 < 16; omega)
  have h2 : st / 8 % f 0 0 ≤ st / 8 := Nat.mod_le _ _
  have h3 : st / 8 / f 0 0 ≤ st / 8 := Nat.div_le_self _ _
  intro k hk
  rcases k10 hk with rfl | rfl | rfl | rfl | rfl | rfl | rfl | rfl | rfl | rfl
  · show st / 8 % f 0 0 ≤ 1000; omega
  · show st / 8 / f 0 0 ≤ 1000; omega
  · show st % 8 / 2 + 1 ≤ 1000; omega
  · show st % 2 ≤ 1000; omega
  · show f 1 (st / 8) ≤ 1000; omega
  · exact he 5 hk
  · exact he 6 hk
  · exact he 7 hk
  · exact he 8 hk
  · exact he 9 hk
theorem aie_b {f : Nm} {n cell tu hr : Nat} {e : Nat → Nat} (hn : n ≤ 100) (hc : cell ≤ 100) (ht : tu ≤ 100) (hh : hr ≤ 100) (h0 : e 0 ≤ 100) (h1 : e 1 ≤ 100) (he : EB e) : EB (aie f n cell tu hr e) := by
  have h2 : cell % f 0 0 ≤ cell := Nat.mod_le _ _
  have h3 : cell / f 0 0 ≤ cell := Nat.div_le_self _ _
  intro k hk
  rcases k10 hk with rfl | rfl | rfl | rfl | rfl | rfl | rfl | rfl | rfl | rfl
  · exact he 0 hk
  · exact he 1 hk
  · exact he 2 hk
  · exact he 3 hk
  · exact he 4 hk
  · show hr ≤ 1000; omega
  · show n ≤ 1000; omega
  · show tu ≤ 1000; omega
  · show adf (e 0) (cell % f 0 0) + adf (e 1) (cell / f 0 0) ≤ 1000
    unfold adf
    generalize cell % f 0 0 = u at *
    generalize cell / f 0 0 = v at *
    omega
  · exact he 9 hk
theorem cho_b {a : Nat} {e : Nat → Nat} (ha : a ≤ 100) (he : EB e) : EB (cho a e) := by
  intro k hk
  rcases k10 hk with rfl | rfl | rfl | rfl | rfl | rfl | rfl | rfl | rfl | rfl
  · exact he 0 hk
  · exact he 1 hk
  · exact he 2 hk
  · exact he 3 hk
  · exact he 4 hk
  · exact he 5 hk
  · exact he 6 hk
  · exact he 7 hk
  · exact he 8 hk
  · show a ≤ 1000; omega
def fO (s s' : xS) : Prop := (∀ q, q ≠ 56 → q ≠ 57 → q ≠ 58 → s'.1 q = s.1 q) ∧ s'.2 = s.2
theorem fO.tr {a b c : xS} (h : fO a b) (k : fO b c) : fO a c := ⟨fun q h1 h2 h3 => (k.1 q h1 h2 h3).trans (h.1 q h1 h2 h3), k.2.trans h.2⟩
theorem fO.rf {a : xS} : fO a a := ⟨fun _ _ _ _ => rfl, rfl⟩
theorem fM.o {a b : xS} (h : fM a b) : fO a b := ⟨fun q h1 _ h3 => h.1 q h1 h3, h.2⟩
theorem fO.FC {a b : xS} {f : Nm} {ru : Int32} {k : Nat} (h : fO a b) (hk : k + 10 < 56) (hF : FC a.1 k f ru) : FC b.1 k f ru := hF.same (fun q h1 h2 => h.1 q (by omega) (by omega) (by omega))
theorem fO.TXC {a b : xS} {n : Nat} {dn : Nat → Nat → Option Dn} (h : fO a b) (hn : n ≤ 4) (hT : TXC a n dn) : TXC b n dn := by
  refine ⟨fun c hc => by rw [h.1 53 (by decide) (by decide) (by decide)]; exact hT.1 c hc, fun t ht => ?_⟩
  obtain ⟨o, z, hp, hx⟩ := hT.2 t ht
  refine ⟨o, z, ⟨by rw [h.1 (35 + 4 * t) (by omega) (by omega) (by omega)]; exact hp.1, hp.2.1, fun i hi => by rw [h.1 (35 + 4 * t + 3) (by omega) (by omega) (by omega)]; exact hp.2.2 i hi⟩, fun c hc => ⟨?_, (hx c hc).2⟩⟩
  have g := (hx c hc).1
  unfold XC at g ⊢
  rw [h.1 (35 + 4 * t + 1) (by omega) (by omega) (by omega), h.1 (35 + 4 * t + 2) (by omega) (by omega) (by omega)]
  exact g
theorem NC.same {a b : xS} {e : Nat → Nat} (h : fM a b) (hN : NC a e) : NC b e := fun k hk => by rw [h.1 57 (by decide) (by decide)]; exact hN k hk
section OPT
variable {X : xXT} {P : xPT} {d S : Nat} {s : xS} {Q : xQ} {f : Nm} {ru : Int32} {e : Nat → Nat} {dn : Nat → Nat → Option Dn} {dr : Nat → Option Dn}
theorem m_face (I : xRl X P) (hS : S ≤ 128) (hF : FC s.1 1 f ru) (hB : FB f) (hN : NC s e) {st : Nat} (hst : st < 8 * cc f) (h : ∀ s' : xS, NC s' (fce f st e) → fO s s' → Q none s') : P (d + 3) (L0 S) 28 [.ref 51, .int (nI st)] s Q := by
  have hc := hB.cc16
  have w0 := hB.2.2.1
  have w4 := hB.2.2.2.1
  have e8 : nI st / nI 8 = nI (st / 8) := pk_div (by omega) (by decide) (by decide)
  have r8 : nI st - nI st / nI 8 * nI 8 = nI (st % 8) := pk_rem (by omega) (by decide) (by decide)
  have r2 : nI st - nI st / nI 2 * nI 2 = nI (st % 2) := pk_rem (by omega) (by decide) (by decide)
  have d2 : nI (st % 8) / nI 2 = nI (st % 8 / 2) := pk_div (by omega) (by decide) (by decide)
  have ew : s.1 1 0 = nI (f 0 0) := hF.2.1 0 (by omega)
  have nz8 : ¬ nI 8 = nI 0 := by decide +kernel
  have nz2 : ¬ nI 2 = nI 0 := by decide +kernel
  have nzw : ¬ s.1 1 0 = nI 0 := by rw [ew]; exact zne (by omega) (by omega) (by decide)
  have rw' : nI (st / 8) - nI (st / 8) / s.1 1 0 * s.1 1 0 = nI (st / 8 % f 0 0) := by rw [ew]; exact pk_rem (by omega) (by omega) (by omega)
  have dw : nI (st / 8) / s.1 1 0 = nI (st / 8 / f 0 0) := by rw [ew]; exact pk_div (by omega) (by omega) (by omega)
  have sz : (nI st - nI st / nI 8 * nI 8) / nI 2 + nI 1 = nI (st % 8 / 2 + 1) := by rw [r8, d2, nad]
  refine inX3_face I (L0ok hS) ?_
  refine rn I [] 99 ?_
  refine And.intro nz8 ?_
  refine And.intro nzw ?_
  refine ⟨0, ⟨by decide, rfl⟩, ?_⟩
  refine And.intro nzw ?_
  refine ⟨1, ⟨by decide, rfl⟩, ?_⟩
  refine And.intro nz8 ?_
  refine And.intro nz2 ?_
  refine ⟨2, ⟨by decide, rfl⟩, ?_⟩
  refine And.intro nz2 ?_
  refine ⟨3, ⟨by decide, rfl⟩, ?_⟩
  rw [e8]
  refine m_hasCell (f := f) (ru := ru) I hS (hF.oth _ (by omega) |>.oth _ (by omega) |>.oth _ (by omega) |>.oth _ (by omega)) hB (fun j hj ej => ?_) (fun hn => absurd rfl (hn (st / 8) (by omega)))
  refine xbr_f n10 ?_
  refine ⟨st / 8, ⟨by omega, rfl⟩, ?_⟩
  refine ⟨4, ⟨by decide, rfl⟩, ?_⟩
  have eh : s.1 2 (st / 8) = nI (f 1 (st / 8)) := hF.1 1 (st / 8) (by show st / 8 < 16; omega)
  refine h _ (fun k hk => ?_) ⟨fun q h1 h2 h3 => by rw [xW_n h2, xW_n h2, xW_n h2, xW_n h2, xW_n h2], rfl⟩
  rw [xW_s]
  rcases k10 hk with rfl | rfl | rfl | rfl | rfl | rfl | rfl | rfl | rfl | rfl
  · rw [ud_n (by decide), xW_s, ud_n (by decide), xW_s, ud_n (by decide), xW_s, ud_n (by decide), xW_s, ud_s]
    exact rw'
  · rw [ud_n (by decide), xW_s, ud_n (by decide), xW_s, ud_n (by decide), xW_s, ud_s]
    exact dw
  · rw [ud_n (by decide), xW_s, ud_n (by decide), xW_s, ud_s, ← e8]
    exact sz
  · rw [ud_n (by decide), xW_s, ud_s]
    exact r2
  · rw [ud_s, xW_n (by decide), xW_n (by decide), xW_n (by decide), xW_n (by decide)]
    exact eh
  all_goals (rw [ud_n (by decide), xW_s, ud_n (by decide), xW_s, ud_n (by decide), xW_s, ud_n (by decide), xW_s, ud_n (by decide)]; exact hN _ hk)
theorem m_choose (I : xRl X P) (hS : S ≤ 128) (hN : NC s e) {a : Nat} (h : ∀ s' : xS, NC s' (cho a e) → fO s s' → Q none s') : P (d + 1) (L0 S) 30 [.ref 51, .int (nI a)] s Q := by
  refine inX3_choose I (L0ok hS) ?_
  refine rn I [] 99 ?_
  refine ⟨9, ⟨by decide, rfl⟩, ?_⟩
  refine h _ (fun k hk => ?_) ⟨fun q h1 h2 h3 => xW_n h2, rfl⟩
  rw [xW_s]
  rcases k10 hk with rfl | rfl | rfl | rfl | rfl | rfl | rfl | rfl | rfl | rfl
  case inr.inr.inr.inr.inr.inr.inr.inr.inr => rw [ud_s]; rfl
  all_goals (rw [ud_n (by decide)]; exact hN _ hk)
theorem m_absd (I : xRl X P) (hS : S ≤ 128) {x : Int32} {a b : Nat} (ha : a ≤ 1000) (hb : b ≤ 1000) (hx : x = nI a - nI b) (h : Q (some (.int (nI (adf a b)))) s) : P (d + 1) (L0 S) 217 [.int x] s Q := by
  have e : x = jI ((a : Int) - (b : Int)) := by rw [hx, jn, jn, ji_sub]
  rw [e]
  refine m_abs I hS (by unfold Sm; omega) ?_
  have e2 : (if (a : Int) - (b : Int) < 0 then -((a : Int) - (b : Int)) else (a : Int) - (b : Int)) = ((adf a b : Nat) : Int) := by
    unfold adf
    split <;> omega
  rw [e2, ← jn]
  exact h
theorem m_aim (I : xRl X P) (hS : S ≤ 128) (hF : FC s.1 1 f ru) (hB : FB f) (hN : NC s e) (he : EB e) {n cell tu hr : Nat} (hc : cell < cc f) (ht : tu < 2) (h : ∀ s' : xS, NC s' (aie f n cell tu hr e) → fO s s' → Q none s') : P (d + 2) (L0 S) 29 [.ref 51, .int (nI n), .int (nI cell), .int (nI tu), .int (nI hr)] s Q := by
  have hcc := hB.cc16
  have w0 := hB.2.2.1
  have w4 := hB.2.2.2.1
  have b0 := he 0 (by decide)
  have b1 := he 1 (by decide)
  have l1 : cell % f 0 0 ≤ cell := Nat.mod_le _ _
  have l2 : cell / f 0 0 ≤ cell := Nat.div_le_self _ _
  have ew : s.1 1 0 = nI (f 0 0) := hF.2.1 0 (by omega)
  have nzw : ¬ s.1 1 0 = nI 0 := by rw [ew]; exact zne (by omega) (by omega) (by decide)
  have rm : nI cell - nI cell / s.1 1 0 * s.1 1 0 = nI (cell % f 0 0) := by rw [ew]; exact pk_rem (by omega) (by omega) (by omega)
  have dv : nI cell / s.1 1 0 = nI (cell / f 0 0) := by rw [ew]; exact pk_div (by omega) (by omega) (by omega)
  have tail : ∀ s' : xS, (∀ q, q ≠ 57 → s'.1 q = s.1 q) → s'.2 = s.2 → s'.1 57 5 = nI hr → s'.1 57 6 = nI n → (∀ k, k < 5 ∨ k = 9 → s'.1 57 k = s.1 57 k) → X (d + 1) mX3_aim Q (L0 S) 34 [some (.ref 51), some (.int (nI n)), some (.int (nI cell)), some (.int (nI tu)), some (.int (nI hr)), some (.ref 57)] [.int (nI tu), .int (nI 7), .ref 57] s' := by
    intro s' g1 g2 g5 g6 g9
    have w' : s'.1 1 0 = s.1 1 0 := by rw [g1 1 (by decide)]
    refine rn I [] 99 ?_
    refine ⟨7, ⟨by decide, rfl⟩, ?_⟩
    refine ⟨0, ⟨by decide, rfl⟩, ?_⟩
    have v0 : (xW s' 57 7 (nI tu)).1 57 0 = nI (e 0) := by rw [xW_s, ud_n (by decide), g9 0 (by omega)]; exact hN 0 (by decide)
    have v1 : (xW s' 57 7 (nI tu)).1 57 1 = nI (e 1) := by rw [xW_s, ud_n (by decide), g9 1 (by omega)]; exact hN 1 (by decide)
    have vw : (xW s' 57 7 (nI tu)).1 1 0 = s.1 1 0 := by rw [xW_n (by decide)]; exact w'
    refine And.intro (by rw [vw]; exact nzw) ?_
    refine m_absd I hS (a := e 0) (b := cell % f 0 0) b0 (by omega) (by rw [v0, vw, rm]) ?_
    refine ⟨1, ⟨by decide, rfl⟩, ?_⟩
    refine And.intro (by rw [vw]; exact nzw) ?_
    refine m_absd I hS (a := e 1) (b := cell / f 0 0) b1 (by omega) (by rw [v1, vw, dv]) ?_
    refine ⟨8, ⟨by decide, rfl⟩, ?_⟩
    refine h _ (fun k hk => ?_) ⟨fun q h1 h2 h3 => by rw [xW_n h2, xW_n h2]; exact g1 q h2, g2⟩
    rw [xW_s]
    rcases k10 hk with rfl | rfl | rfl | rfl | rfl | rfl | rfl | rfl | rfl | rfl
    · rw [ud_n (by decide), xW_s, ud_n (by decide), g9 0 (by omega)]; exact hN 0 hk
    · rw [ud_n (by decide), xW_s, ud_n (by decide), g9 1 (by omega)]; exact hN 1 hk
    · rw [ud_n (by decide), xW_s, ud_n (by decide), g9 2 (by omega)]; exact hN 2 hk
    · rw [ud_n (by decide), xW_s, ud_n (by decide), g9 3 (by omega)]; exact hN 3 hk
    · rw [ud_n (by decide), xW_s, ud_n (by decide), g9 4 (by omega)]; exact hN 4 hk
    · rw [ud_n (by decide), xW_s, ud_n (by decide)]; exact g5
    · rw [ud_n (by decide), xW_s, ud_n (by decide)]; exact g6
    · rw [ud_n (by decide), xW_s, ud_s]; rfl
    · rw [ud_s, nad]; rfl
    · rw [ud_n (by decide), xW_s, ud_n (by decide), g9 9 (by omega)]; exact hN 9 hk
  refine inX3_aim I (L0ok hS) ?_
  refine rn I [34] 99 ?_
  refine ⟨5, ⟨by decide, rfl⟩, ?_⟩
  refine ⟨6, ⟨by decide, rfl⟩, ?_⟩
  have T := tail (xW (xW s 57 5 (nI hr)) 57 6 (nI n)) (fun q hq => by rw [xW_n hq, xW_n hq]) rfl (by rw [xW_s, ud_n (by decide), xW_s, ud_s]) (by rw [xW_s, ud_s]) (fun k hk => by rw [xW_s, ud_n (by omega), xW_s, ud_n (by omega)])
  rcases (show tu = 0 ∨ tu = 1 by omega) with rfl | rfl
  · exact xbr_t rfl T
  · exact xbr_f n10 T
theorem m_without (I : xRl X P) (hS : S ≤ 128) (hN : NC s e) (he : EB e) {c : Nat} (hc : c < 4) (h : Q (some (.int (nI (dfl c e)))) s) : P (d + 1) (L0 S) 32 [.ref 51, .int (nI c)] s Q := by
  refine inX3_without I (L0ok hS) ?_
  refine rn I [] 99 ?_
  match c, hc with
  | 0, _ => exact xbr_t rfl h
  | 1, _ =>
    refine xbr_f n10 (xbr_t rfl ?_)
    refine ⟨7, ⟨by decide, rfl⟩, ?_⟩
    have b7 := he 7 (by decide)
    have h : Q (some (.int (nI (if e 7 = 1 then 0 else e 2)))) s := h
    by_cases h7 : e 7 = 1
    · rw [if_pos h7] at h
      exact xbr_t (by rw [hN 7 (by decide), h7]) h
    · rw [if_neg h7, ← hN 2 (by decide)] at h
      exact xbr_f (by rw [hN 7 (by decide)]; exact zne h7 (by omega) (by decide)) ⟨2, ⟨by decide, rfl⟩, h⟩
  | 2, _ => exact xbr_f (by decide +kernel) (xbr_f (by decide +kernel) h)
  | 3, _ => exact xbr_f (by decide +kernel) (xbr_f (by decide +kernel) h)
theorem xmost_e {c : Nat} (hc : c < 4) : xmost c = nI (mst c) := by
  match c, hc with
  | 0, _ => rfl
  | 1, _ => rfl
  | 2, _ => rfl
  | 3, _ => rfl
theorem mst_b (c : Nat) : mst c ≤ 999 := by
  unfold mst
  split <;> decide
end OPT
section OPT2
variable {X : xXT} {P : xPT} {d S : Nat} {s : xS} {Q : xQ} {f : Nm} {ru : Int32} {e : Nat → Nat} {dn : Nat → Nat → Option Dn} {dr : Nat → Option Dn}
theorem m_minmax (I : xRl X P) (hS : S ≤ 128) {m : Nat} (hm : m ≤ 999) {z : Int} (hz : In z) {R : xQ} (h : ∀ y : Int32, (∀ Q' : xQ, Q' (some (.int (nI (hld m z)))) s → P (d + 1) (L0 S) 218 [.int (nI 0), .int y] s Q') → R (some (.int y)) s) : P (d + 1) (L0 S) 220 [.int (nI m), .int (jI z)] s R := by
  rw [jn]
  have sm : Sm (m : Int) := by unfold Sm; omega
  refine m_min I hS sm hz.sm (h _ (fun Q' hQ => ?_))
  rw [jn]
  have iy : Sm (if z < (m : Int) then z else (m : Int)) := by split; exact hz.sm; exact sm
  refine m_max I hS (a := ((0 : Nat) : Int)) (by unfold Sm; omega) iy ?_
  have e2 : (if ((0 : Nat) : Int) < (if z < (m : Int) then z else (m : Int)) then (if z < (m : Int) then z else (m : Int)) else ((0 : Nat) : Int)) = ((hld m z : Nat) : Int) := by
    unfold hld
    by_cases h1 : z < (m : Int)
    · rw [if_pos h1]
      by_cases h2 : z < 0
      · rw [if_pos h2, if_neg (by omega)]
      · rw [if_neg h2, if_neg (show ¬ (m : Int) < z by omega)]
        split <;> omega
    · rw [if_neg h1, if_neg (by omega : ¬ z < 0)]
      split <;> split <;> omega
  rw [e2, ← jn]
  exact hQ
theorem m_tell_35 (I : xRl X P) (hS : S ≤ 128) (hN : NC s e) (he : EB e) {o : Nat → Nat} {z c : Nat} {od : Option Dn} (hc : c < 4) (hp : PG s 35 o z) (hx : XC s 35 c o z od) (hd : TDs c od) (h : ∀ s' : xS, fM s s' → Q (some (.int (nI (tlv c od e)))) s') : X (d + 5) mX3_tell Q (L0 S) 36 [some (.ref 51), some (.int (nI c)), none] [.ref 35] s := by
  refine rn I [] 99 ?_
  have ln : ∀ w, od = some w → In (w e) := fun w hw => (hd w hw).1 e he
  cases od with
  | none =>
    refine m_has_35 I hS hc hx (fun hn => absurd rfl hn) (fun _ => ?_)
    refine xbr_t rfl ?_
    exact m_without I hS hN he hc (h s fM.rf)
  | some D =>
    obtain ⟨a, b, ea, eb, hb, hG⟩ := hx
    have hz := hp.2.1
    have hab := hG.1
    refine m_has_35 I hS hc ea (fun hn => ?_) (fun hn => absurd hn (zm1n (by omega)))
    refine xbr_f n10 ?_
    refine ⟨c, ⟨hc, rfl⟩, ?_⟩
    refine m_work_35 I hS hc hp hb ea eb hG (Nat.le_refl _) he hN (fun s1 f1 => ?_)
    rw [xmost_e hc]
    refine m_minmax I hS (mst_b c) (ln D rfl) ?_
    intro y hy
    exact hy _ (h s1 f1)
theorem m_tell_39 (I : xRl X P) (hS : S ≤ 128) (hN : NC s e) (he : EB e) {o : Nat → Nat} {z c : Nat} {od : Option Dn} (hc : c < 4) (hp : PG s 39 o z) (hx : XC s 39 c o z od) (hd : TDs c od) (h : ∀ s' : xS, fM s s' → Q (some (.int (nI (tlv c od e)))) s') : X (d + 5) mX3_tell Q (L0 S) 36 [some (.ref 51), some (.int (nI c)), none] [.ref 39] s := by
  refine rn I [] 99 ?_
  have ln : ∀ w, od = some w → In (w e) := fun w hw => (hd w hw).1 e he
  cases od with
  | none =>
    refine m_has_39 I hS hc hx (fun hn => absurd rfl hn) (fun _ => ?_)
    refine xbr_t rfl ?_
    exact m_without I hS hN he hc (h s fM.rf)
  | some D =>
    obtain ⟨a, b, ea, eb, hb, hG⟩ := hx
    have hz := hp.2.1
    have hab := hG.1
    refine m_has_39 I hS hc ea (fun hn => ?_) (fun hn => absurd hn (zm1n (by omega)))
    refine xbr_f n10 ?_
    refine ⟨c, ⟨hc, rfl⟩, ?_⟩
    refine m_work_39 I hS hc hp hb ea eb hG (Nat.le_refl _) he hN (fun s1 f1 => ?_)
    rw [xmost_e hc]
    refine m_minmax I hS (mst_b c) (ln D rfl) ?_
    intro y hy
    exact hy _ (h s1 f1)
theorem m_tell_43 (I : xRl X P) (hS : S ≤ 128) (hN : NC s e) (he : EB e) {o : Nat → Nat} {z c : Nat} {od : Option Dn} (hc : c < 4) (hp : PG s 43 o z) (hx : XC s 43 c o z od) (hd : TDs c od) (h : ∀ s' : xS, fM s s' → Q (some (.int (nI (tlv c od e)))) s') : X (d + 5) mX3_tell Q (L0 S) 36 [some (.ref 51), some (.int (nI c)), none] [.ref 43] s := by
  refine rn I [] 99 ?_
  have ln : ∀ w, od = some w → In (w e) := fun w hw => (hd w hw).1 e he
  cases od with
  | none =>
    refine m_has_43 I hS hc hx (fun hn => absurd rfl hn) (fun _ => ?_)
    refine xbr_t rfl ?_
    exact m_without I hS hN he hc (h s fM.rf)
  | some D =>
    obtain ⟨a, b, ea, eb, hb, hG⟩ := hx
    have hz := hp.2.1
    have hab := hG.1
    refine m_has_43 I hS hc ea (fun hn => ?_) (fun hn => absurd hn (zm1n (by omega)))
    refine xbr_f n10 ?_
    refine ⟨c, ⟨hc, rfl⟩, ?_⟩
    refine m_work_43 I hS hc hp hb ea eb hG (Nat.le_refl _) he hN (fun s1 f1 => ?_)
    rw [xmost_e hc]
    refine m_minmax I hS (mst_b c) (ln D rfl) ?_
    intro y hy
    exact hy _ (h s1 f1)
theorem m_tell_47 (I : xRl X P) (hS : S ≤ 128) (hN : NC s e) (he : EB e) {o : Nat → Nat} {z c : Nat} {od : Option Dn} (hc : c < 4) (hp : PG s 47 o z) (hx : XC s 47 c o z od) (hd : TDs c od) (h : ∀ s' : xS, fM s s' → Q (some (.int (nI (tlv c od e)))) s') : X (d + 5) mX3_tell Q (L0 S) 36 [some (.ref 51), some (.int (nI c)), none] [.ref 47] s := by
  refine rn I [] 99 ?_
  have ln : ∀ w, od = some w → In (w e) := fun w hw => (hd w hw).1 e he
  cases od with
  | none =>
    refine m_has_47 I hS hc hx (fun hn => absurd rfl hn) (fun _ => ?_)
    refine xbr_t rfl ?_
    exact m_without I hS hN he hc (h s fM.rf)
  | some D =>
    obtain ⟨a, b, ea, eb, hb, hG⟩ := hx
    have hz := hp.2.1
    have hab := hG.1
    refine m_has_47 I hS hc ea (fun hn => ?_) (fun hn => absurd hn (zm1n (by omega)))
    refine xbr_f n10 ?_
    refine ⟨c, ⟨hc, rfl⟩, ?_⟩
    refine m_work_47 I hS hc hp hb ea eb hG (Nat.le_refl _) he hN (fun s1 f1 => ?_)
    rw [xmost_e hc]
    refine m_minmax I hS (mst_b c) (ln D rfl) ?_
    intro y hy
    exact hy _ (h s1 f1)
theorem m_tell (I : xRl X P) (hS : S ≤ 128) (hF : FC s.1 1 f ru) (hB : FB f) (hX : TXC s (f 0 15) dn) (hr : rdn ru (f 0 15) dn dr) (hN : NC s e) (he : EB e) {c : Nat} (hc : c < 4) (h : ∀ s' : xS, fM s s' → Q (some (.int (nI (tlv c (dr c) e)))) s') : P (d + 6) (L0 S) 31 [.ref 51, .int (nI c)] s Q := by
  have hn := hB.1.2.2.2
  have er : s.1 1 16 = ru := hF.2.2
  refine inX3_tell I (L0ok hS) ?_
  refine rn I [36] 99 ?_
  rcases hr with ⟨e1, e2⟩ | ⟨t, ht, e1, rfl⟩
  · refine m_hasText I hS hF hB (fun j hj ej => ?_) (fun _ => ?_)
    · rw [er, e1] at ej
      exact absurd ej (zm1n' (by omega))
    · refine xbr_t rfl ?_
      refine rn I [] 99 ?_
      refine m_has_52 I hS hc (hX.1 c hc) (fun q => absurd rfl q) (fun _ => ?_)
      refine xbr_t rfl ?_
      have k := h s fM.rf
      rw [e2 c] at k
      exact m_without I hS hN he hc k
  · refine m_hasText I hS hF hB (fun j hj ej => ?_) (fun q => absurd (er.trans e1) (q t ht))
    refine xbr_f n10 ?_
    obtain ⟨o, z, hp, hx⟩ := hX.2 t ht
    have hxc := hx c hc
    rcases (show t = 0 ∨ t = 1 ∨ t = 2 ∨ t = 3 by omega) with rfl | rfl | rfl | rfl
    · exact ⟨0, ⟨by decide, er.trans e1⟩, m_tell_35 I hS hN he hc hp hxc.1 hxc.2 h⟩
    · exact ⟨1, ⟨by decide, er.trans e1⟩, m_tell_39 I hS hN he hc hp hxc.1 hxc.2 h⟩
    · exact ⟨2, ⟨by decide, er.trans e1⟩, m_tell_43 I hS hN he hc hp hxc.1 hxc.2 h⟩
    · exact ⟨3, ⟨by decide, er.trans e1⟩, m_tell_47 I hS hN he hc hp hxc.1 hxc.2 h⟩
end OPT2
