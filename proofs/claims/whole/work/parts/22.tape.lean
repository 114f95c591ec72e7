/-! the tape: its bytes; feed and end -/
def bt (x : Int32) (i : Nat) : Bool := x.toBitVec.getLsbD i
theorem b_ext {x y : Int32} (h : ∀ i, i < 32 → bt x i = bt y i) : x = y := Int32.toBitVec_inj.mp (BitVec.eq_of_getLsbD_eq (fun i hi => h i hi))
theorem b_and (x y : Int32) (i : Nat) : bt (x &&& y) i = (bt x i && bt y i) := by unfold bt; rw [Int32.toBitVec_and, BitVec.getLsbD_and]
theorem b_255 : ∀ i, i < 32 → bt (nI 255) i = decide (i < 8) := by decide +kernel
theorem s_l : ∀ n, n < 32 → ((nI n &&& 31).toBitVec.smod 32).toNat = n := by decide +kernel
theorem s_u : ∀ n, n < 32 → (((nI n).toUInt32 &&& Int32.toUInt32 31).toBitVec % 32).toNat = n := by decide +kernel
theorem b_ushr (n : Nat) (hn : n < 32) (x : Int32) (i : Nat) : bt ((x.toUInt32 >>> ((nI n).toUInt32 &&& Int32.toUInt32 31)).toInt32) i = bt x (n + i) := by
  show (x.toUInt32 >>> ((nI n).toUInt32 &&& Int32.toUInt32 31)).toBitVec.getLsbD i = x.toUInt32.toBitVec.getLsbD (n + i)
  rw [UInt32.toBitVec_shiftRight]
  show (x.toUInt32.toBitVec >>> (((nI n).toUInt32 &&& Int32.toUInt32 31).toBitVec % 32).toNat).getLsbD i = _
  rw [s_u n hn, BitVec.getLsbD_ushiftRight]
theorem b_sshr (n : Nat) (hn : n < 32) (x : Int32) {i : Nat} (hi : i < 32) : bt (x >>> (nI n &&& 31)) i = if n + i < 32 then bt x (n + i) else bt x 31 := by
  unfold bt
  rw [Int32.toBitVec_shiftRight]
  show (x.toBitVec.sshiftRight ((nI n &&& 31).toBitVec.smod 32).toNat).getLsbD i = _
  rw [s_l n hn, BitVec.getLsbD_sshiftRight, BitVec.msb_eq_getLsbD_last]
  simp [hi]
/-- the byte of x that begins at bit n -/
def byn (x : Int32) (n : Nat) : Nat := ((x >>> (nI n &&& 31)) &&& nI 255).toBitVec.toNat
theorem by_m (x : Int32) (n : Nat) : (x >>> (nI n &&& 31)) &&& nI 255 = nI (byn x n) := by
  apply Int32.toBitVec_inj.mp
  show _ = BitVec.ofNat 32 _
  unfold byn
  rw [BitVec.ofNat_toNat, BitVec.setWidth_eq]
theorem by_lt (x : Int32) (n : Nat) : byn x n < 256 := by
  unfold byn
  rw [Int32.toBitVec_and, BitVec.toNat_and]
  exact Nat.lt_of_le_of_lt Nat.and_le_right (by decide)
theorem by_c (x : Int32) {n : Nat} (hn : n ≤ 24) : (x.toUInt32 >>> ((nI n).toUInt32 &&& Int32.toUInt32 31)).toInt32 &&& nI 255 = nI (byn x n) := by
  rw [← by_m]
  refine b_ext (fun i hi => ?_)
  rw [b_and, b_and, b_255 i hi, b_ushr n (by omega), b_sshr n (by omega) x hi]
  by_cases h : i < 8
  · rw [if_pos (by omega)]
  · rw [decide_eq_false h, Bool.and_false, Bool.and_false]
def ap (t : Nat → Nat) (n v : Nat) : Nat → Nat := fun i => if i = n then v else t i
theorem ap_s {t : Nat → Nat} {n v : Nat} : ap t n v n = v := if_pos rfl
theorem ap_n {t : Nat → Nat} {n v i : Nat} (h : i ≠ n) : ap t n v i = t i := if_neg h
def ap4 (t : Nat → Nat) (n : Nat) (x : Int32) : Nat → Nat := ap (ap (ap (ap t n (byn x 24)) (n + 1) (byn x 16)) (n + 2) (byn x 8)) (n + 3) (byn x 0)
/-- what the class's tape holds; what the reference's holds -/
def TC (s : xS) (n : Nat) (t : Nat → Nat) : Prop := s.1 23 1 = nI n ∧ ∀ i, i < n → s.1 24 i = nI (t i)
def TM (s : xS) (n : Nat) (t : Nat → Nat) : Prop := s.1 79 6 = nI n ∧ ∀ i, i < n → s.1 83 i = nI (t i)
def fTC (s s' : xS) : Prop := (∀ q, q ≠ 23 → q ≠ 24 → s'.1 q = s.1 q) ∧ s'.2 = s.2
def fTM (s s' : xS) : Prop := (∀ q, q ≠ 79 → q ≠ 83 → s'.1 q = s.1 q) ∧ (∀ i, i ≠ 6 → s'.1 79 i = s.1 79 i) ∧ s'.2 = s.2
theorem fTC.tr {a b c : xS} (h : fTC a b) (k : fTC b c) : fTC a c := ⟨fun q h1 h2 => (k.1 q h1 h2).trans (h.1 q h1 h2), k.2.trans h.2⟩
theorem fTM.tr {a b c : xS} (h : fTM a b) (k : fTM b c) : fTM a c := ⟨fun q h1 h2 => (k.1 q h1 h2).trans (h.1 q h1 h2), fun i hi => (k.2.1 i hi).trans (h.2.1 i hi), k.2.2.trans h.2.2⟩
theorem fTC.rf {a : xS} : fTC a a := ⟨fun _ _ _ => rfl, rfl⟩
theorem fTM.rf {a : xS} : fTM a a := ⟨fun _ _ _ => rfl, fun _ _ => rfl, rfl⟩
theorem TC.add {s : xS} {n : Nat} {t : Nat → Nat} (h : TC s n t) (v : Nat) : TC (xW (xW s 24 n (nI v)) 23 1 (nI n + nI 1)) (n + 1) (ap t n v) := by
  refine ⟨?_, fun i hi => ?_⟩
  · rw [xW_s, ud_s, nad]
  · rw [xW_n (by decide), xW_s]
    by_cases e : i = n
    · subst e
      rw [ud_s, ap_s]
    · rw [ud_n e, ap_n e]
      exact h.2 i (by omega)
theorem TM.add {s : xS} {n : Nat} {t : Nat → Nat} (h : TM s n t) (v : Nat) : TM (xW (xW s 83 n (nI v)) 79 6 (nI n + nI 1)) (n + 1) (ap t n v) := by
  refine ⟨?_, fun i hi => ?_⟩
  · rw [xW_s, ud_s, nad]
  · rw [xW_n (by decide), xW_s]
    by_cases e : i = n
    · subst e
      rw [ud_s, ap_s]
    · rw [ud_n e, ap_n e]
      exact h.2 i (by omega)
theorem sh16 : nI 24 - nI 8 = nI 16 := by decide +kernel
theorem sh8 : nI 16 - nI 8 = nI 8 := by decide +kernel
theorem sh0 : nI 8 - nI 8 = nI 0 := by decide +kernel
theorem shm : nI 0 - nI 8 < nI 0 := by decide +kernel
section TAPE
variable {X : xXT} {P : xPT} {d S : Nat} {s : xS} {Q : xQ} {f g : Nm} {ru rk : Int32} {n : Nat} {t : Nat → Nat}
theorem m_hasRoom (I : xRl X P) (hS : S ≤ 128) (hT : TC s n t) (hn : n ≤ 300) {k : Nat} (hk : k ≤ 300) (h1 : n + k ≤ 300 → Q (some (.int (nI 1))) s) (h0 : 300 < n + k → Q (some (.int (nI 0))) s) : P (d + 1) (L0 S) 79 [.ref 23, .int (nI k)] s Q := by
  have e : s.1 23 1 + nI k = nI (n + k) := by rw [hT.1, nad]
  refine inX8_hasRoom I (L0ok hS) ?_
  refine rn I [] 99 ?_
  by_cases h : 300 < n + k
  · refine xbr_t (by rw [e]; exact zlt h (by omega)) ?_
    exact ⟨bz, h0 h⟩
  · refine xbr_f (by rw [e]; exact znl (by omega) (by omega)) ?_
    exact ⟨bo, h1 (by omega)⟩
theorem m_put (I : xRl X P) (hS : S ≤ 128) (hT : TC s n t) (hn : n + 4 ≤ 300) {x : Int32} (h : ∀ s' : xS, TC s' (n + 4) (ap4 t n x) → fTC s s' → Q none s') : P (d + 2) (L0 S) 80 [.ref 23, .int x] s Q := by
  have it : ∀ (c : Nat) (s' : xS) (m : Nat) (u : Nat → Nat), c ≤ 24 → TC s' m u → m < 300 → (∀ s'' : xS, TC s'' (m + 1) (ap u m (byn x c)) → fTC s' s'' → X (d + 1) mX8_put Q (L0 S) 12 [some (.ref 23), some (.int x), some (.int (nI c - nI 8))] [] s'') → X (d + 1) mX8_put Q (L0 S) 12 [some (.ref 23), some (.int x), some (.int (nI c))] [] s' := by
    intro c s' m u hc hu hm hk
    refine rn I [12] 99 ?_
    refine xbr_f (zn0 (by omega)) ?_
    refine ⟨m, ⟨hm, hu.1⟩, ?_⟩
    have z : (xW s' 24 m (nI (byn x c))).1 23 1 = nI m := by rw [xW_n (by decide)]; exact hu.1
    have k := hk _ (hu.add (byn x c)) ⟨fun q h1 h2 => by rw [xW_n h1, xW_n h2], rfl⟩
    rw [← z] at k
    rw [← by_c x hc] at k
    exact k
  refine inX8_put I (L0ok hS) ?_
  refine rn I [12] 99 ?_
  refine m_hasRoom I hS hT (by omega) (by decide) (fun _ => ?_) (fun hc => absurd hc (by omega))
  refine xbr_f n10 ?_
  refine it 24 s n t (by decide) hT (by omega) (fun s1 T1 f1 => ?_)
  rw [sh16]
  refine it 16 s1 _ _ (by decide) T1 (by omega) (fun s2 T2 f2 => ?_)
  rw [sh8]
  refine it 8 s2 _ _ (by decide) T2 (by omega) (fun s3 T3 f3 => ?_)
  rw [sh0]
  refine it 0 s3 _ _ (by decide) T3 (by omega) (fun s4 T4 f4 => ?_)
  refine rn I [] 99 ?_
  refine xbr_t shm ?_
  exact h s4 T4 (((f1.tr f2).tr f3).tr f4)
theorem q_four (I : xRl X P) (hS : S ≤ 128) (hT : TM s n t) (hn : n + 4 ≤ 300) {x : Int32} (h : ∀ s' : xS, TM s' (n + 4) (ap4 t n x) → fTM s s' → Q none s') : P (d + 1) (L0 S) 142 [.ref 79, .int x] s Q := by
  have it : ∀ (c : Nat) (s' : xS) (m : Nat) (u : Nat → Nat), c ≤ 24 → TM s' m u → m < 300 → (∀ s'' : xS, TM s'' (m + 1) (ap u m (byn x c)) → fTM s' s'' → X d mX11_four Q (L0 S) 3 [some (.ref 79), some (.int x), some (.int (nI c - nI 8))] [] s'') → X d mX11_four Q (L0 S) 3 [some (.ref 79), some (.int x), some (.int (nI c))] [] s' := by
    intro c s' m u hc hu hm hk
    refine rn I [3] 99 ?_
    refine xbr_f (zn0 (by omega)) ?_
    refine ⟨m, ⟨hm, hu.1⟩, ?_⟩
    have z : (xW s' 83 m (nI (byn x c))).1 79 6 = nI m := by rw [xW_n (by decide)]; exact hu.1
    have k := hk _ (hu.add (byn x c)) ⟨fun q h1 h2 => by rw [xW_n h1, xW_n h2], fun i hi => by rw [xW_s, ud_n hi, xW_n (by decide)], rfl⟩
    rw [← z] at k
    rw [← by_m x c] at k
    exact k
  refine inX11_four I (L0ok hS) ?_
  refine rn I [3] 99 ?_
  refine it 24 s n t (by decide) hT (by omega) (fun s1 T1 f1 => ?_)
  rw [sh16]
  refine it 16 s1 _ _ (by decide) T1 (by omega) (fun s2 T2 f2 => ?_)
  rw [sh8]
  refine it 8 s2 _ _ (by decide) T2 (by omega) (fun s3 T3 f3 => ?_)
  rw [sh0]
  refine it 0 s3 _ _ (by decide) T3 (by omega) (fun s4 T4 f4 => ?_)
  refine rn I [] 99 ?_
  refine xbr_t shm ?_
  exact h s4 T4 (((f1.tr f2).tr f3).tr f4)
def ap20 (t : Nat → Nat) (n : Nat) (a b c e g : Int32) : Nat → Nat := ap4 (ap4 (ap4 (ap4 (ap4 t n a) (n + 4) b) (n + 8) c) (n + 12) e) (n + 16) g
theorem m_feed (I : xRl X P) (hS : S ≤ 128) (hT : TC s n t) (hn : n ≤ 300) {a b c e g : Int32} (h1 : n + 20 ≤ 300 → ∀ s' : xS, TC s' (n + 20) (ap20 t n a b c e g) → fTC s s' → Q (some (.int (nI (n + 20)))) s') (h0 : 300 < n + 20 → Q (some (.int (-(nI 1)))) s) : P (d + 3) (L0 S) 101 [.ref 0, .int a, .int b, .int c, .int e, .int g] s Q := by
  refine inX10_feed I (L0ok hS) ?_
  refine rn I [] 99 ?_
  refine m_hasRoom I hS hT hn (by decide) (fun hr => ?_) (fun hr => ?_)
  · refine xbr_f n10 ?_
    refine m_put I hS hT (by omega) (fun s1 T1 f1 => ?_)
    refine m_put I hS T1 (by omega) (fun s2 T2 f2 => ?_)
    refine m_put I hS T2 (by omega) (fun s3 T3 f3 => ?_)
    refine m_put I hS T3 (by omega) (fun s4 T4 f4 => ?_)
    refine m_put I hS T4 (by omega) (fun s5 T5 f5 => ?_)
    have k := h1 hr s5 T5 ((((f1.tr f2).tr f3).tr f4).tr f5)
    rw [← T5.1] at k
    exact k
  · refine xbr_t rfl ?_
    exact h0 hr
theorem q_feed (I : xRl X P) (hS : S ≤ 128) (hT : TM s n t) (hn : n ≤ 300) {a b c e g : Int32} (h1 : n + 20 ≤ 300 → ∀ s' : xS, TM s' (n + 20) (ap20 t n a b c e g) → fTM s s' → Q (some (.int (nI (n + 20)))) s') (h0 : 300 < n + 20 → Q (some (.int (-(nI 1)))) s) : P (d + 2) (L0 S) 143 [.ref 79, .int a, .int b, .int c, .int e, .int g] s Q := by
  have ee : s.1 79 6 + nI 20 = nI (n + 20) := by rw [hT.1, nad]
  refine inX11_feed I (L0ok hS) ?_
  refine rn I [] 99 ?_
  by_cases hr : 300 < n + 20
  · refine xbr_t (by rw [ee]; exact zlt hr (by omega)) ?_
    exact h0 hr
  · refine xbr_f (by rw [ee]; exact znl (by omega) (by omega)) ?_
    refine q_four I hS hT (by omega) (fun s1 T1 f1 => ?_)
    refine q_four I hS T1 (by omega) (fun s2 T2 f2 => ?_)
    refine q_four I hS T2 (by omega) (fun s3 T3 f3 => ?_)
    refine q_four I hS T3 (by omega) (fun s4 T4 f4 => ?_)
    refine q_four I hS T4 (by omega) (fun s5 T5 f5 => ?_)
    have k := h1 (by omega) s5 T5 ((((f1.tr f2).tr f3).tr f4).tr f5)
    rw [← T5.1] at k
    exact k
theorem TC.cut {s : xS} {n m : Nat} {t : Nat → Nat} (h : TC s n t) (hm : m ≤ n) : TC (xW s 23 1 (nI m)) m t := ⟨by rw [xW_s, ud_s], fun i hi => by rw [xW_n (by decide)]; exact h.2 i (by omega)⟩
theorem TM.cut {s : xS} {n m : Nat} {t : Nat → Nat} (h : TM s n t) (hm : m ≤ n) : TM (xW s 79 6 (nI m)) m t := ⟨by rw [xW_s, ud_s], fun i hi => by rw [xW_n (by decide)]; exact h.2 i (by omega)⟩
theorem m_end (I : xRl X P) (hS : S ≤ 128) (hT : TC s n t) (hn : n ≤ 300) {c : Int32} (h1 : ∀ m, m ≤ n → c = nI m → ∀ s' : xS, TC s' m t → fTC s s' → Q (some (.int (nI m))) s') (h0 : (∀ m, m ≤ n → c ≠ nI m) → Q (some (.int (-(nI 1)))) s) : P (d + 1) (L0 S) 102 [.ref 0, .int c] s Q := by
  refine inX10_end I (L0ok hS) ?_
  refine rn I [] 99 ?_
  rcases rg c (n := n + 1) (by omega) with ⟨j, hj, rfl, h2, h3⟩ | ⟨h2, h3⟩
  · refine xbr_f h2 ?_
    refine xbr_f (by rw [hT.1]; exact znl (by omega) (by omega)) ?_
    exact h1 j (by omega) rfl _ (hT.cut (by omega)) ⟨fun q a b => xW_n a, rfl⟩
  · have k := h0 (fun m hm => h2 m (by omega))
    refine xbr_c (fun _ => k) (fun hc => ?_)
    refine xbr_t ?_ k
    rw [hT.1]
    have := h3 hc
    obtain ⟨m, hm, rfl⟩ := nI_of (x := c) (by rw [← nI_0]; exact hc)
    have := zge hm (by omega) this
    exact zlt (by omega) hm
theorem q_end (I : xRl X P) (hS : S ≤ 128) (hT : TM s n t) (hn : n ≤ 300) {c : Int32} (h1 : ∀ m, m ≤ n → c = nI m → ∀ s' : xS, TM s' m t → fTM s s' → Q (some (.int (nI m))) s') (h0 : (∀ m, m ≤ n → c ≠ nI m) → Q (some (.int (-(nI 1)))) s) : P (d + 2) (L0 S) 144 [.ref 79, .int c] s Q := by
  refine inX11_end I (L0ok hS) ?_
  refine rn I [] 99 ?_
  refine q_isIn I hS (fun a1 a2 => ?_) (fun a => ?_)
  · rw [hT.1, show nI n = nI (n + 1) - nI 1 by rw [nsb (by omega)]; rfl] at a2
    obtain ⟨m, hm, rfl⟩ := rm1 (by omega) a1 a2
    refine xbr_f n10 ?_
    exact h1 m (by omega) rfl _ (hT.cut (by omega)) ⟨fun q a b => xW_n a, fun i hi => by rw [xW_s, ud_n hi], rfl⟩
  · rw [hT.1, show nI n = nI (n + 1) - nI 1 by rw [nsb (by omega)]; rfl] at a
    refine xbr_t rfl ?_
    exact h0 (fun m hm => rm2 (by omega) a m (by omega))
end TAPE
