/-! ask for one: both sides -/
def bo1 (f : Nm) (g : Nat → Nat) : Nat → Option Nat
  | 0 => none
  | n + 1 => if n / 2 < f 0 12 ∧ f 4 (n / 2) = 0 then (match bo1 f g n with
    | none => some n
    | some b => if g b < g n then some n else some b) else bo1 f g n
def o32 (o : Option Nat) : Int32 := match o with
  | none => -(nI 1)
  | some b => nI b
def o64 (g : Nat → Nat) (o : Option Nat) : Int64 := match o with
  | none => -(lN 1)
  | some b => lN (g b)
theorem bo1_n {f : Nm} {g : Nat → Nat} {n : Nat} (h : ¬ okH f n) : bo1 f g (n + 1) = bo1 f g n := if_neg h
theorem bo1_up {f : Nm} {g : Nat → Nat} {n : Nat} (h : okH f n) (hc : ∀ b, bo1 f g n = some b → g b < g n) : bo1 f g (n + 1) = some n := by
  show (if n / 2 < f 0 12 ∧ f 4 (n / 2) = 0 then _ else _) = _
  rw [if_pos (show n / 2 < f 0 12 ∧ f 4 (n / 2) = 0 from h)]
  cases e : bo1 f g n with
  | none => rfl
  | some b => show (if g b < g n then some n else some b) = _; rw [if_pos (hc b e)]
theorem bo1_no {f : Nm} {g : Nat → Nat} {n b : Nat} (h : okH f n) (e : bo1 f g n = some b) (hc : ¬ g b < g n) : bo1 f g (n + 1) = bo1 f g n := by
  show (if n / 2 < f 0 12 ∧ f 4 (n / 2) = 0 then _ else _) = _
  rw [if_pos (show n / 2 < f 0 12 ∧ f 4 (n / 2) = 0 from h), e]
  show (if g b < g n then some n else some b) = _
  rw [if_neg hc]
theorem bo1_ext {f : Nm} {g : Nat → Nat} : ∀ m, bo1 f g (2 * f 0 12 + m) = bo1 f g (2 * f 0 12)
  | 0 => rfl
  | m + 1 => by
    rw [← bo1_ext m]
    exact bo1_n (n := 2 * f 0 12 + m) (fun z => by have : (2 * f 0 12 + m) / 2 < f 0 12 := z.1; omega)
theorem cmpO {g : Nat → Nat} {o : Option Nat} {v : Nat} (hv : v < 2 ^ 62) (hg : ∀ i, g i < 2 ^ 62) : nI 0 < lg_cmp (lN v) (o64 g o) ↔ ∀ b, o = some b → g b < v := by
  cases o with
  | none =>
    refine ⟨fun _ b z => (by cases z), fun _ => lc_gt.mpr ?_⟩
    show -(lN 1) < lN v
    rw [jlng, jln]
    exact (jl_lt (by unfold Lg; omega) (lI hv)).mpr (by omega)
  | some b => exact (lcg hv (hg b)).trans ⟨fun z c hc => by cases hc; exact z, fun z => z b rfl⟩
section ASK
variable {X : xXT} {P : xPT} {d S : Nat} {s : xS} {Q : xQ} {f : Nm} {ru : Int32} {e : Nat → Nat} {dn : Nat → Nat → Option Dn} {dr : Nat → Option Dn}
theorem fL.vv {j i : Nat} {a b : xS} {n : Nat} {g sn sl : Nat → Nat} (h : fL j a b) (hi : i < 16) (hij : i ≠ j) (w : VV a n i g sn sl) : VV b n i g sn sl := fun st h1 h2 => by rw [h.1 (63 + i) (by omega) (by omega) (by omega) (by omega)]; exact w st h1 h2
theorem m_lookAll (I : xRl X P) (hS : S ≤ 128) (hF : FC s.1 1 f ru) (hB : FB f) (hX : TXC s (f 0 15) dn) (hr : rdn ru (f 0 15) dn dr) (hT : TR dr) (hN : ∃ e, NC s e ∧ EB e) (hSS : S = 8 * cc f) (e59 : s.1 59 2 = nI S) (hW : WC s (8 * cc f) (wk f dr (f 0 13))) {x : Int32} {h : Nat} (ex : x = nI h) (hh : h < 24) (k : ∀ s' : xS, (∃ e', NC s' e' ∧ EB e') → fZ s s' → WC s' (8 * cc f) (wk f dr (f 0 13)) → FC s'.1 1 f ru → (∀ j, okH f j → VV s' (8 * cc f) j (wk f dr (f 0 13)) (snv f dr (f 2 (j / 2)) h j) (slv f dr (f 2 (j / 2)) h j)) → Q none s') : P (d + 9) (L0 S) 68 [.ref 59, .int x] s Q := by
  subst ex
  have hn8 := hB.1.1
  have hn13 := hB.1.2.1
  have loop : ∀ m i, i + m = 16 → ∀ s' : xS, (∃ e', NC s' e' ∧ EB e') → fZ s s' → WC s' (8 * cc f) (wk f dr (f 0 13)) → FC s'.1 1 f ru → TXC s' (f 0 15) dn → (∀ j, j < i → okH f j → VV s' (8 * cc f) j (wk f dr (f 0 13)) (snv f dr (f 2 (j / 2)) h j) (slv f dr (f 2 (j / 2)) h j)) → X (d + 8) mX6_lookAll Q (L0 S) 2 [some (.ref 59), some (.int (nI h)), some (.int (nI i))] [] s' := by
    intro m
    induction m with
    | zero =>
      intro i hi s' N' z' w' F' X' v'
      have hi : i = 16 := hi
      subst hi
      refine rn I [] 99 ?_
      refine xbr_f (znl (Nat.le_refl _) (by decide)) ?_
      exact k s' N' z' w' F' (fun j hj => v' j (okH16 hB hj) hj)
    | succ m ih =>
      intro i hi s' N' z' w' F' X' v'
      refine rn I [2] 99 ?_
      refine xbr_t (zlt (by omega) (by decide)) ?_
      refine And.intro (by decide +kernel) ?_
      rw [dv2 (by omega)]
      refine m_isFree I hS F' hB (fun j hj fj ej => ?_) (fun hc => ?_)
      · refine xbr_f n10 ?_
        have ej := zeq (by omega) (by omega) ej
        have b2 : f 2 (i / 2) < cc f := hB.2.1 2 (i / 2) (by show i / 2 < 8; omega)
        have g2 : s'.1 3 (i / 2) = nI (f 2 (i / 2)) := F'.1 2 (i / 2) (by show i / 2 < 8; omega)
        refine And.intro (by decide +kernel) ?_
        refine ⟨i / 2, ⟨by omega, dv2 (by omega)⟩, ?_⟩
        refine m_lookX I hS F' hB X' hr hT N' hSS (by rw [z'.1 59 (by omega)]; exact e59) w' (wk62 (by omega)) rfl g2 (by omega) b2 hh (fun s1 N1 f1 v1 => ?_)
        have q := ih (i + 1) (by omega) s1 N1 (z'.tr (f1.z (by omega))) (f1.wc w') (f1.FC F') (f1.TXC hB.1.2.2.2 X') (fun j' hj' ho => by
          by_cases e1 : j' = i
          · subst e1
            exact v1
          · exact f1.vv (okH16 hB ho) e1 (v' j' (by omega) ho))
        rw [n1s i] at q
        exact q
      · refine xbr_t rfl ?_
        have q := ih (i + 1) (by omega) s' N' z' w' F' X' (fun j' hj' ho => by
          by_cases e1 : j' = i
          · subst e1
            exact absurd rfl (hc (j' / 2) ho.1 ho.2)
          · exact v' j' (by omega) ho)
        rw [n1s i] at q
        exact q
  refine inX6_lookAll I (L0ok hS) ?_
  refine rn I [2] 99 ?_
  exact loop 16 0 (by omega) s hN ⟨fun _ _ => rfl, fun _ _ _ => rfl⟩ hW hF hX (fun j hj => absurd hj (Nat.not_lt_zero _))
theorem m_bestOfOne (I : xRl X P) (hS : S ≤ 128) (hF : FC s.1 1 f ru) (hB : FB f) (hSS : S = 8 * cc f) (e59 : s.1 59 2 = nI S) (hW : WC s (8 * cc f) (wk f dr (f 0 13))) {h : Nat} (hV : ∀ j, okH f j → VV s (8 * cc f) j (wk f dr (f 0 13)) (snv f dr (f 2 (j / 2)) h j) (slv f dr (f 2 (j / 2)) h j)) (k : ∀ s' : xS, fG s s' → Q (some (.int (o32 (bo1 f (fun j => su1 f dr (f 2 (j / 2)) h j) (2 * f 0 12))))) s') : P (d + 5) (L0 S) 75 [.ref 59] s Q := by
  have hn8 := hB.1.1
  have hn13 := hB.1.2.1
  have g62 : ∀ j, (fun j => su1 f dr (f 2 (j / 2)) h j) j < 2 ^ 62 := fun j => su1_b hB
  have loop : ∀ m i, i + m = 16 → ∀ (s' : xS) (o5 : Option Value), fG s s' → X (d + 4) mX6_bestOfOne Q (L0 S) 9 [some (.ref 59), some (.int (o32 (bo1 f (fun j => su1 f dr (f 2 (j / 2)) h j) i))), some (.long (o64 (fun j => su1 f dr (f 2 (j / 2)) h j) (bo1 f (fun j => su1 f dr (f 2 (j / 2)) h j) i))), none, some (.int (nI i)), o5, none] [] s' := by
    intro m
    induction m with
    | zero =>
      intro i hi s' o5 f'
      have hi : i = 16 := hi
      subst hi
      refine rn I [] 99 ?_
      refine xbr_f (znl (Nat.le_refl _) (by decide)) ?_
      have q := k s' f'
      rw [← bo1_ext (16 - 2 * f 0 12), show 2 * f 0 12 + (16 - 2 * f 0 12) = 16 by omega] at q
      exact q
    | succ m ih =>
      intro i hi s' o5 f'
      have F' : FC s'.1 1 f ru := by rw [f'.1]; exact hF
      refine rn I [9] 99 ?_
      refine xbr_t (zlt (by omega) (by decide)) ?_
      refine And.intro (by decide +kernel) ?_
      rw [dv2 (by omega)]
      refine m_isFree I hS F' hB (fun j hj fj ej => ?_) (fun hc => ?_)
      · have ej := zeq (by omega) (by omega) ej
        have ho : okH f i := ⟨by omega, by rw [ej]; exact fj⟩
        refine xbr_f n10 ?_
        refine m_sureByOne I hS hSS (by rw [f'.1]; exact e59) (by omega) (fun j hj => by rw [f'.2 61 (by decide)]; exact hW j hj) (wkb (by omega)) (fun st a b => by rw [f'.1]; exact hV i ho st a b) snv_le slv_le (fun s1 f1 => ?_)
        have q := ih (i + 1) (by omega) s1 (some (.long (lN (su1 f dr (f 2 (i / 2)) h i)))) (f'.tr f1)
        rw [n1s i] at q
        have cmp := cmpO (g := fun j => su1 f dr (f 2 (j / 2)) h j) (o := bo1 f (fun j => su1 f dr (f 2 (j / 2)) h j) i) (g62 i) g62
        by_cases hc : ∀ b, bo1 f (fun j => su1 f dr (f 2 (j / 2)) h j) i = some b → (fun j => su1 f dr (f 2 (j / 2)) h j) b < (fun j => su1 f dr (f 2 (j / 2)) h j) i
        · rw [bo1_up ho hc] at q
          exact xbr_t (cmp.mpr hc) q
        · refine xbr_f (fun z => hc (cmp.mp z)) ?_
          cases eo : bo1 f (fun j => su1 f dr (f 2 (j / 2)) h j) i with
          | none => exact absurd (fun b z => by rw [eo] at z; cases z) hc
          | some b =>
            rw [bo1_no ho eo (fun z => hc (fun b' hb' => by rw [eo] at hb'; cases hb'; exact z)), eo] at q
            exact q
      · refine xbr_t rfl ?_
        have q := ih (i + 1) (by omega) s' o5 f'
        rw [n1s i, bo1_n (fun z => hc (i / 2) z.1 z.2 rfl)] at q
        exact q
  refine inX6_bestOfOne I (L0ok hS) ?_
  refine rn I [9] 99 ?_
  exact loop 16 0 (by omega) s none fG.rf
end ASK
