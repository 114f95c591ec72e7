/-! ask on both sides -/
theorem bo1_0 {f : Nm} {g : Nat → Nat} (h : ∀ j, ¬ okH f j) : ∀ n, bo1 f g n = none
  | 0 => rfl
  | n + 1 => by rw [bo1_n (h n)]; exact bo1_0 h n
theorem ob_0 {f : Nm} {g : Nat → Nat → Nat} {N : Nat} (h : ∀ a b, a / 2 < b / 2 → ¬ (okH f a ∧ okH f b)) : ∀ a, ob f g N a = none
  | 0 => rfl
  | a + 1 => by
    have ibn : ∀ m, ib f g none a m = none := by
      intro m
      induction m with
      | zero => rfl
      | succ m ih =>
        show st2 f g (ib f g none a m) a _ = none
        rw [ih]
        exact st2_n (h a _ (by omega))
    show ib f g (ob f g N a) a _ = none
    rw [ob_0 h a]
    exact ibn _
theorem no1 {f : Nm} (h : cfr f (f 0 12) < 1) : ∀ j, ¬ okH f j := fun j z => by
  have := cfr_lt z.2 z.1
  omega
theorem no2 {f : Nm} (h : cfr f (f 0 12) < 2) : ∀ a b, a / 2 < b / 2 → ¬ (okH f a ∧ okH f b) := fun a b hab z => by
  have h1 := cfr_lt z.1.2 hab
  have h2 := cfr_lt z.2.2 z.2.1
  omega
def AK (f : Nm) (dr : Nat → Option Dn) (bt w h : Nat) : Int32 := if bt = 0 then o32 (bo1 f (fun j => su1 f dr (f 2 (j / 2)) h j) (2 * f 0 12)) else if w = 0 then q1 (ob f (su2 f dr h) (2 * f 0 12) (2 * f 0 12)) else q2 (ob f (su2 f dr h) (2 * f 0 12) (2 * f 0 12))
section ASK3
variable {X : xXT} {P : xPT} {d S : Nat} {s : xS} {Q : xQ} {f : Nm} {ru : Int32} {e : Nat → Nat} {dn : Nat → Nat → Option Dn} {dr : Nat → Option Dn}
theorem m_Ask (I : xRl X P) (hS : S ≤ 128) (hF : FC s.1 1 f ru) (hB : FB f) (hX : TXC s (f 0 15) dn) (hr : rdn ru (f 0 15) dn dr) (hT : TR dr) (hN : NC s e) (he : EB e) (hSS : S = 8 * cc f) (e59 : s.1 59 2 = nI S) {c1 c3 : Int32} {bt : Nat} (hb : bt < 2) (h1 : ∀ h w, h < 24 → c1 = nI h → w ≤ bt → c3 = nI w → ∀ s' : xS, (∃ e', NC s' e' ∧ EB e') → fZ s s' → Q (some (.int (AK f dr bt w h))) s') (h0 : (¬ ∃ h w, h < 24 ∧ c1 = nI h ∧ w ≤ bt ∧ c3 = nI w) → Q (some (.int (-(nI 1)))) s) : P (d + 10) (L0 S) 114 [.ref 0, .int c1, .int (nI bt), .int c3] s Q := by
  have hn8 := hB.1.1
  have hn13 := hB.1.2.1
  have er : s.1 1 13 = nI (f 0 13) := hF.2.1 13 (by omega)
  have cl := cfr_le f (f 0 12)
  have F24 : (¬ ∃ h w, h < 24 ∧ c1 = nI h ∧ w ≤ bt ∧ c3 = nI w) → X (d + 9) mX10_ask Q (L0 S) 24 [some (.ref 0), some (.int c1), some (.int (nI bt)), some (.int c3)] [] s := by
    intro hn
    refine rn I [] 99 ?_
    exact h0 hn
  have T47 : ∀ h w, h < 24 → c1 = nI h → w ≤ bt → c3 = nI w → X (d + 9) mX10_ask Q (L0 S) 47 [some (.ref 0), some (.int c1), some (.int (nI bt)), some (.int c3)] [] s := by
    intro h w hh eh hw ew
    have k := h1 h w hh eh hw ew
    refine rn I [] 99 ?_
    refine m_weighX I hS hF hB hX hr hT hN he hSS e59 (k := f 0 13) er (by omega) (fun s1 N1 f1 w1 => ?_)
    refine m_lookAll I hS (f1.FC (k := 1) (by decide) hF) hB (f1.TXC hB.1.2.2.2 hX) hr hT N1 hSS (by rw [f1.1 59 (by decide) (by decide) (by decide)]; exact e59) w1 eh hh (fun s2 N2 z2 w2 F2 v2 => ?_)
    have z2' := f1.z.tr z2
    have e59' : s2.1 59 2 = nI S := by rw [z2'.1 59 (by omega)]; exact e59
    unfold AK at k
    rcases (show bt = 0 ∨ bt = 1 by omega) with rfl | rfl
    · refine xbr_t rfl ?_
      rw [if_pos rfl] at k
      exact m_bestOfOne I hS F2 hB hSS e59' w2 v2 (fun s3 f3 => k s3 (f3.nc N2) (z2'.tr f3.z))
    · refine xbr_f n10 ?_
      rw [if_neg (by decide)] at k
      show P _ _ _ [.ref 59, .int c3] _ _
      rw [ew]
      exact m_bestOfTwo I hS F2 hB hSS e59' w2 v2 (by omega) (fun s3 f3 => k s3 (f3.nc N2) (z2'.tr f3.z))
  have A26 : ∀ h w, h < 24 → c1 = nI h → w ≤ bt → c3 = nI w → X (d + 9) mX10_ask Q (L0 S) 26 [some (.ref 0), some (.int c1), some (.int (nI bt)), some (.int c3)] [] s := by
    intro h w hh eh hw ew
    have k := h1 h w hh eh hw ew s ⟨e, hN, he⟩ ⟨fun _ _ => rfl, fun _ _ _ => rfl⟩
    unfold AK at k
    refine rn I [47] 99 ?_
    refine m_countFree I hS hF hB ?_
    rcases (show bt = 0 ∨ bt = 1 by omega) with rfl | rfl
    · refine xbr_t rfl ?_
      by_cases hc : cfr f (f 0 12) < 1
      · rw [if_pos rfl, bo1_0 (no1 hc)] at k
        exact xbr_t (zlt hc (by decide)) k
      · exact xbr_f (znl (by omega) (by omega)) (T47 h w hh eh hw ew)
    · refine xbr_f n10 ?_
      by_cases hc : cfr f (f 0 12) < 2
      · rw [if_neg (by decide), ob_0 (no2 hc)] at k
        refine xbr_t (zlt hc (by decide)) ?_
        rcases (show w = 0 ∨ w = 1 by omega) with rfl | rfl
        · rw [if_pos rfl] at k
          exact k
        · rw [if_neg (by decide)] at k
          exact k
      · exact xbr_f (znl (by omega) (by omega)) (T47 h w hh eh hw ew)
  refine inX10_ask I (L0ok hS) ?_
  refine rn I [24, 26] 99 ?_
  refine m_isHour I hS (fun h hh eh => ?_) (fun hc => xbr_t rfl (F24 (fun ⟨x, _, a, b, _⟩ => hc x a b)))
  refine xbr_f n10 ?_
  refine xbr_c (fun q => F24 (fun ⟨_, w, _, _, a, b⟩ => by rw [b] at q; exact zn0 (by omega) q)) (fun q1 => ?_)
  rcases (show bt = 0 ∨ bt = 1 by omega) with rfl | rfl
  · refine xbr_t rfl ?_
    refine xbr_c (fun q => F24 (fun ⟨_, w, _, _, a, b⟩ => by rw [b] at q; exact znl a (by omega) q)) (fun q2 => ?_)
    obtain ⟨w, _, hw, ew⟩ := rng (n := 0) (by decide) (by decide) q1 q2
    exact A26 h w hh eh hw ew
  · refine xbr_f n10 ?_
    refine xbr_c (fun q => F24 (fun ⟨_, w, _, _, a, b⟩ => by rw [b] at q; exact znl a (by omega) q)) (fun q2 => ?_)
    obtain ⟨w, _, hw, ew⟩ := rng (n := 1) (by decide) (by decide) q1 q2
    exact A26 h w hh eh hw ew
theorem q_askOne (I : xRl X P) (hS : S ≤ 128) (hA : FA (s.1 80) f ru) (hW : MW s f) (hB : FB f) {h : Nat} (hG : WM2 s (8 * cc f) (wk f dr (f 0 13))) (hV : ∀ j, j < 2 * f 0 12 → LV s (8 * cc f) j (snv f dr (f 2 (j / 2)) h j) (slv f dr (f 2 (j / 2)) h j)) (k : Q (some (.int (o32 (bo1 f (fun j => su1 f dr (f 2 (j / 2)) h j) (2 * f 0 12))))) s) : P (d + 4) (L0 S) 206 [.ref 79] s Q := by
  have hn8 := hB.1.1
  have hn13 := hB.1.2.1
  have e0 : nI 2 * s.1 80 0 = nI (2 * f 0 12) := by rw [hA.2.2.1, nml]
  have g62 : ∀ j, (fun j => su1 f dr (f 2 (j / 2)) h j) j < 2 ^ 62 := fun j => su1_b hB
  have loop : ∀ m i, i + m = 2 * f 0 12 → ∀ o5 : Option Value, X (d + 3) mX11_askOne Q (L0 S) 9 [some (.ref 79), some (.int (o32 (bo1 f (fun j => su1 f dr (f 2 (j / 2)) h j) i))), some (.long (o64 (fun j => su1 f dr (f 2 (j / 2)) h j) (bo1 f (fun j => su1 f dr (f 2 (j / 2)) h j) i))), none, some (.int (nI i)), o5, none] [] s := by
    intro m
    induction m with
    | zero =>
      intro i hi o5
      have hi : i = 2 * f 0 12 := hi
      subst hi
      refine rn I [] 99 ?_
      refine ⟨0, ⟨by decide, rfl⟩, ?_⟩
      refine xbr_f (by rw [e0]; exact znl (Nat.le_refl _) (by omega)) ?_
      exact k
    | succ m ih =>
      intro i hi o5
      refine rn I [9] 99 ?_
      refine ⟨0, ⟨by decide, rfl⟩, ?_⟩
      refine xbr_t (by rw [e0]; exact zlt (by omega) (by omega)) ?_
      refine q_canAsk I hS hA hB (fun j hj ej => ?_) (fun hc => ?_)
      · have := okH16 hB hj
        have ej := zeq (by omega) (by omega) ej
        subst ej
        refine xbr_f n10 ?_
        refine q_sureBy I hS hW hB rfl (by omega) hG (wkb (by omega)) (hV i (by omega)) snv_le slv_le ?_
        have q := ih (i + 1) (by omega) (some (.long (lN (su1 f dr (f 2 (i / 2)) h i))))
        rw [n1s i] at q
        have cmp := cmpO (g := fun j => su1 f dr (f 2 (j / 2)) h j) (o := bo1 f (fun j => su1 f dr (f 2 (j / 2)) h j) i) (g62 i) g62
        by_cases hc : ∀ b, bo1 f (fun j => su1 f dr (f 2 (j / 2)) h j) i = some b → (fun j => su1 f dr (f 2 (j / 2)) h j) b < (fun j => su1 f dr (f 2 (j / 2)) h j) i
        · rw [bo1_up hj hc] at q
          exact xbr_t (cmp.mpr hc) q
        · refine xbr_f (fun z => hc (cmp.mp z)) ?_
          cases eo : bo1 f (fun j => su1 f dr (f 2 (j / 2)) h j) i with
          | none => exact absurd (fun b z => (by rw [eo] at z; cases z)) hc
          | some b =>
            rw [bo1_no hj eo (fun z => hc (fun b' hb' => (by rw [eo] at hb'; cases hb'; exact z))), eo] at q
            exact q
      · refine xbr_t rfl ?_
        have q := ih (i + 1) (by omega) o5
        rw [n1s i, bo1_n (fun z => hc i z rfl)] at q
        exact q
  refine inX11_askOne I (L0ok hS) ?_
  refine rn I [9] 99 ?_
  exact loop (2 * f 0 12) 0 (by omega) none
end ASK3
