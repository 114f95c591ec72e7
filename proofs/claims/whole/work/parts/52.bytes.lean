/-! bytes of the tape, and their sorts, on both sides -/
def byt (n : Nat) (t : Nat → Nat) (p : Nat) : Option Nat := if p < n then some (t p) else none
def isB (o : Option Nat) : Prop := o = some 32 ∨ o = some 10
def isL (o : Option Nat) : Prop := ∃ b, o = some b ∧ ((97 ≤ b ∧ b ≤ 122) ∨ (65 ≤ b ∧ b ≤ 90))
def isF (o : Option Nat) : Prop := ∃ b, o = some b ∧ 48 ≤ b ∧ b ≤ 57
def ob256 (o : Option Nat) : Prop := ∀ b, o = some b → b < 256
theorem byt_b {n : Nat} {t : Nat → Nat} (h : ∀ i, i < n → t i < 256) (p : Nat) : ob256 (byt n t p) := by
  intro b hb
  unfold byt at hb
  split at hb
  · cases hb; exact h _ (by assumption)
  · cases hb
theorem o32e {o : Option Nat} {c : Nat} (ho : ob256 o) (hc : c < 256) : o32 o = nI c ↔ o = some c := by
  cases o with
  | none => exact ⟨fun z => absurd z (zm1n' (by omega)), fun z => (by cases z)⟩
  | some b =>
    have := ho b rfl
    exact ⟨fun z => by rw [zeq (by omega) (by omega) z], fun z => by cases z; rfl⟩
theorem o32l {o : Option Nat} {c : Nat} (ho : ob256 o) (hc : c < 256) : o32 o < nI c ↔ ∀ b, o = some b → b < c := by
  cases o with
  | none => exact ⟨fun _ b z => (by cases z), fun _ => by
      show -(nI 1) < nI c
      exact Int32.lt_of_lt_of_le zm1 (Int32.not_lt.mp (zn0 (by omega)))⟩
  | some b =>
    have := ho b rfl
    exact ⟨fun z c' hc' => (by cases hc'; exact zlt' (by omega) (by omega) z), fun z => zlt (z b rfl) (by omega)⟩
theorem o32g {o : Option Nat} {c : Nat} (ho : ob256 o) (hc : c < 256) : nI c < o32 o ↔ ∃ b, o = some b ∧ c < b := by
  cases o with
  | none => exact ⟨fun z => absurd (Int32.lt_trans z zm1) (zn0 (by omega)), fun ⟨b, z, _⟩ => (by cases z)⟩
  | some b =>
    have := ho b rfl
    exact ⟨fun z => ⟨b, rfl, zlt' (by omega) (by omega) z⟩, fun ⟨b', e, z⟩ => (by cases e; exact zlt z (by omega))⟩
theorem rgo {o : Option Nat} {lo hi : Nat} (ho : ob256 o) (h1 : lo < 256) (h2 : hi < 256) : (¬ o32 o < nI lo ∧ ¬ nI hi < o32 o) ↔ ∃ b, o = some b ∧ lo ≤ b ∧ b ≤ hi := by
  rw [o32l ho h1, o32g ho h2]
  cases o with
  | none => exact ⟨fun z => absurd (fun b q => (by cases q)) z.1, fun ⟨b, z, _⟩ => (by cases z)⟩
  | some b =>
    constructor
    · intro ⟨z1, z2⟩
      refine ⟨b, rfl, Nat.le_of_not_lt (fun q => z1 (fun c hc => (by cases hc; exact q))), Nat.le_of_not_lt (fun q => z2 ⟨b, rfl, q⟩)⟩
    · intro ⟨c, e, z1, z2⟩
      cases e
      exact ⟨fun q => by have := q b rfl; omega, fun ⟨c, e, q⟩ => (by cases e; omega)⟩
section BYTES
variable {X : xXT} {P : xPT} {d S : Nat} {s : xS} {Q : xQ} {n : Nat} {t : Nat → Nat}
theorem m_at (I : xRl X P) (hS : S ≤ 128) (hT : TC s n t) (hn : n ≤ 300) {x : Int32} {p : Nat} (hp : p < 2 ^ 30) (ex : x = nI p) (h : Q (some (.int (o32 (byt n t p)))) s) : P (d + 1) (L0 S) 81 [.ref 23, .int x] s Q := by
  subst ex
  unfold byt at h
  refine inX8_at I (L0ok hS) ?_
  refine rn I [] 99 ?_
  refine xbr_f (zn0 (by omega)) ?_
  by_cases hc : p < n
  · rw [if_pos hc] at h
    refine xbr_t (by rw [hT.1]; exact zlt hc (by omega)) ?_
    refine ⟨p, ⟨by omega, rfl⟩, ?_⟩
    have h : Q (some (.int (nI (t p)))) s := h
    rw [← hT.2 p hc] at h
    exact h
  · rw [if_neg hc] at h
    exact xbr_f (by rw [hT.1]; exact znl (by omega) (by omega)) h
theorem q_byteAt (I : xRl X P) (hS : S ≤ 128) (hT : TM s n t) (hn : n ≤ 300) {x : Int32} {p : Nat} (hp : p < 2 ^ 30) (ex : x = nI p) (h : Q (some (.int (o32 (byt n t p)))) s) : P (d + 1) (L0 S) 145 [.ref 79, .int x] s Q := by
  subst ex
  unfold byt at h
  refine inX11_byteAt I (L0ok hS) ?_
  refine rn I [] 99 ?_
  by_cases hc : p < n
  · rw [if_pos hc] at h
    refine xbr_t (by rw [hT.1]; exact zlt hc (by omega)) ?_
    refine ⟨p, ⟨by omega, rfl⟩, ?_⟩
    have h : Q (some (.int (nI (t p)))) s := h
    rw [← hT.2 p hc] at h
    exact h
  · rw [if_neg hc] at h
    exact xbr_f (by rw [hT.1]; exact znl (by omega) (by omega)) h
theorem m_isBlank (I : xRl X P) (hS : S ≤ 128) {o : Option Nat} (ho : ob256 o) (h1 : isB o → Q (some (.int (nI 1))) s) (h0 : ¬ isB o → Q (some (.int (nI 0))) s) : P (d + 1) (L0 S) 92 [.int (o32 o)] s Q := by
  refine inX9_isBlank I (L0ok hS) ?_
  refine rn I [] 99 ?_
  refine xbr_c (fun q => ⟨bo, h1 (Or.inl ((o32e ho (by decide)).mp q))⟩) (fun q => ?_)
  refine xbr_c (fun q2 => ⟨bo, h1 (Or.inr ((o32e ho (by decide)).mp q2))⟩) (fun q2 => ⟨bz, h0 (fun z => z.elim (fun z => q ((o32e ho (by decide)).mpr z)) (fun z => q2 ((o32e ho (by decide)).mpr z)))⟩)
theorem m_isFigure (I : xRl X P) (hS : S ≤ 128) {o : Option Nat} (ho : ob256 o) (h1 : isF o → Q (some (.int (nI 1))) s) (h0 : ¬ isF o → Q (some (.int (nI 0))) s) : P (d + 1) (L0 S) 94 [.int (o32 o)] s Q := by
  have g := rgo (lo := 48) (hi := 57) ho (by decide) (by decide)
  refine inX9_isFigure I (L0ok hS) ?_
  refine rn I [] 99 ?_
  refine xbr_c (fun q => ⟨bz, h0 (fun z => (g.mpr z).1 q)⟩) (fun q => ?_)
  exact xbr_c (fun q2 => ⟨bz, h0 (fun z => (g.mpr z).2 q2)⟩) (fun q2 => ⟨bo, h1 (g.mp ⟨q, q2⟩)⟩)
theorem m_isLetter (I : xRl X P) (hS : S ≤ 128) {o : Option Nat} (ho : ob256 o) (h1 : isL o → Q (some (.int (nI 1))) s) (h0 : ¬ isL o → Q (some (.int (nI 0))) s) : P (d + 1) (L0 S) 93 [.int (o32 o)] s Q := by
  have g := rgo (lo := 97) (hi := 122) ho (by decide) (by decide)
  have g2 := rgo (lo := 65) (hi := 90) ho (by decide) (by decide)
  have T1 : ∀ (w : ∃ b, o = some b ∧ 97 ≤ b ∧ b ≤ 122), isL o := fun ⟨b, e, z⟩ => ⟨b, e, Or.inl z⟩
  have T2 : ∀ (w : ∃ b, o = some b ∧ 65 ≤ b ∧ b ≤ 90), isL o := fun ⟨b, e, z⟩ => ⟨b, e, Or.inr z⟩
  have N : ¬ (∃ b, o = some b ∧ 97 ≤ b ∧ b ≤ 122) → ¬ (∃ b, o = some b ∧ 65 ≤ b ∧ b ≤ 90) → ¬ isL o := fun a1 a2 ⟨b, e, z⟩ => z.elim (fun z => a1 ⟨b, e, z⟩) (fun z => a2 ⟨b, e, z⟩)
  have B : ¬ (∃ b, o = some b ∧ 97 ≤ b ∧ b ≤ 122) → X d mX9_isLetter Q (L0 S) 12 [some (.int (o32 o))] [] s := by
    intro hn
    refine rn I [] 99 ?_
    refine xbr_c (fun q => ⟨bz, h0 (N hn (fun z => (g2.mpr z).1 q))⟩) (fun q => ?_)
    exact xbr_c (fun q2 => ⟨bz, h0 (N hn (fun z => (g2.mpr z).2 q2))⟩) (fun q2 => ⟨bo, h1 (T2 (g2.mp ⟨q, q2⟩))⟩)
  refine inX9_isLetter I (L0ok hS) ?_
  refine rn I [12] 99 ?_
  refine xbr_c (fun q => B (fun z => (g.mpr z).1 q)) (fun q => ?_)
  exact xbr_c (fun q2 => B (fun z => (g.mpr z).2 q2)) (fun q2 => ⟨bo, h1 (T1 (g.mp ⟨q, q2⟩))⟩)
theorem q_isDigit (I : xRl X P) (hS : S ≤ 128) {o : Option Nat} (ho : ob256 o) (h1 : isF o → Q (some (.int (nI 1))) s) (h0 : ¬ isF o → Q (some (.int (nI 0))) s) : P (d + 2) (L0 S) 147 [.int (o32 o)] s Q := by
  have g := rgo (lo := 48) (hi := 57) ho (by decide) (by decide)
  refine inX11_isDigit I (L0ok hS) ?_
  refine rn I [] 99 ?_
  exact q_isIn I hS (fun a1 a2 => ⟨bo, h1 (g.mp ⟨a1, a2⟩)⟩) (fun a => ⟨bz, h0 (fun z => a.elim (g.mpr z).1 (g.mpr z).2)⟩)
theorem q_isLetter (I : xRl X P) (hS : S ≤ 128) {o : Option Nat} (ho : ob256 o) (h1 : isL o → Q (some (.int (nI 1))) s) (h0 : ¬ isL o → Q (some (.int (nI 0))) s) : P (d + 2) (L0 S) 146 [.int (o32 o)] s Q := by
  have g := rgo (lo := 97) (hi := 122) ho (by decide) (by decide)
  have g2 := rgo (lo := 65) (hi := 90) ho (by decide) (by decide)
  refine inX11_isLetter I (L0ok hS) ?_
  refine rn I [] 99 ?_
  refine q_isIn I hS (fun a1 a2 => ?_) (fun a => ?_)
  · obtain ⟨b, e, z⟩ := g.mp ⟨a1, a2⟩
    exact xbr_f n10 ⟨bo, h1 ⟨b, e, Or.inl z⟩⟩
  · refine xbr_t rfl ?_
    refine q_isIn I hS (fun a1 a2 => ?_) (fun a' => ?_)
    · obtain ⟨b, e, z⟩ := g2.mp ⟨a1, a2⟩
      exact xbr_f n10 ⟨bo, h1 ⟨b, e, Or.inr z⟩⟩
    · refine xbr_t rfl ⟨bz, h0 (fun ⟨b, e, z⟩ => z.elim (fun z => ?_) (fun z => ?_))⟩
      · have := g.mpr ⟨b, e, z⟩
        exact a.elim this.1 this.2
      · have := g2.mpr ⟨b, e, z⟩
        exact a'.elim this.1 this.2
end BYTES
