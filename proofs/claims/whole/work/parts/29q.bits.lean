/-! ===== bits of temperatures ===== -/
def bW (c : Nat) : Nat := if c < 64 then 5 else if c < 128 then 6 else 7
def flD : Nat → UInt32 → UInt32
  | 0, v => v
  | n + 1, v => flD n (FP.fmul v 1056964608)
def flOk : Nat → UInt32 → Bool
  | 0, _ => true
  | n + 1, v => !(FP.fIsNaN (FP.fmul v 1056964608)) && flOk n (FP.fmul v 1056964608)
theorem bits_w : ∀ c : Fin 201, ∀ j : Fin 8, 40 ≤ c.val → ((nI c.val >>> ((nI j.val + nI 1) &&& 31) = 0) ↔ bW c.val ≤ j.val) := by decide +kernel
theorem bits_v : ∀ c : Fin 201, 40 ≤ c.val → (((nI (bW c.val) - nI 1) + nI 127) <<< (nI 23 &&& 31)) ||| ((nI c.val - (nI 1 <<< (nI (bW c.val) &&& 31))) <<< ((nI 23 - nI (bW c.val)) &&& 31)) = (FP.fmul (FP.i2f (nI c.val)) 1056964608).toInt32 := by decide +kernel
theorem bits_f : ∀ c : Fin 201, 40 ≤ c.val → ((FP.fmul (FP.i2f (nI c.val)) 1056964608).toInt32 >>> (nI 23 &&& 31)) - nI 127 = nI (bW c.val - 1) ∧ flOk (24 - bW c.val) (FP.i2f (((FP.fmul (FP.i2f (nI c.val)) 1056964608).toInt32 &&& nI 8388607) ||| nI 8388608)) = true ∧ Op.cmpValue (FP.fcmp (flD (24 - bW c.val) (FP.i2f (((FP.fmul (FP.i2f (nI c.val)) 1056964608).toInt32 &&& nI 8388607) ||| nI 8388608))) (FP.fmul (FP.i2f (nI c.val)) 1056964608)) .l = 0 := by decide +kernel
theorem s_bits {I : IT} {K : Int32 → Prop} {c : Nat} (h1 : 40 ≤ c) (h2 : c ≤ 200) (h : K (FP.fmul (FP.i2f (nI c)) 1056964608).toInt32) : f_X8_bitsOfHalves (nI c) I K := by
  have bw : 5 ≤ bW c ∧ bW c ≤ 7 := by unfold bW; split <;> (try split) <;> omega
  have loop : ∀ n j, j ≤ bW c → bW c - j < n → f_X8_bitsOfHalves_b2 (nI c) I (fun y0_0 => f_X8_bitsOfHalves_b22 (nI c) I K y0_0) K n (nI j) := by
    intro n
    induction n with
    | zero => intro j _ hn; omega
    | succ n ih =>
      intro j hj hn
      rw [f_X8_bitsOfHalves_b2]
      have g := n_leP (a := 22) (b := j) (by omega) (by omega)
      rw [if_neg (by rw [g]; omega)]
      have hw := bits_w ⟨c, by omega⟩ ⟨j, by omega⟩ h1
      dsimp only at hw
      by_cases e : j = bW c
      · rw [if_pos (hw.mpr (by omega)), e]
        unfold f_X8_bitsOfHalves_b22
        rw [bnd_p, bnd_p]
        have hv := bits_v ⟨c, by omega⟩ h1
        dsimp only at hv
        rw [hv]; exact h
      · rw [if_neg (fun z => by have := hw.mp z; omega), bnd_p, nI_add]
        exact ih (j + 1) (by omega) (by omega)
  exact loop 4096 0 (Nat.zero_le _) (by omega)
theorem m1_sub {a : Nat} (h : 1 ≤ a) : nI a + (-1) = nI (a - 1) := by
  rw [← n_sub h]
  generalize nI a = x
  have e : nI 1 = (1 : Int32) := rfl
  rw [e]
  grind
theorem s_fbits {I : IT} {K : UInt32 → Prop} {c : Nat} (h1 : 40 ≤ c) (h2 : c ≤ 200) (h : ∀ v, Op.cmpValue (FP.fcmp v (FP.fmul (FP.i2f (nI c)) 1056964608)) .l = 0 → K v) : f_X8_floatOfBits (FP.fmul (FP.i2f (nI c)) 1056964608).toInt32 I K := by
  have bw : 5 ≤ bW c ∧ bW c ≤ 7 := by unfold bW; split <;> (try split) <;> omega
  obtain ⟨f1, f2, f3⟩ := bits_f ⟨c, by omega⟩ h1
  dsimp only at f1 f2 f3
  have loop : ∀ n d v, d ≤ 24 - bW c → d < n → flOk d v = true → K (flD d v) → f_X8_floatOfBits_b22 (FP.fmul (FP.i2f (nI c)) 1056964608).toInt32 I K n v (nI (bW c - 1)) (nI (bW c - 1 + d)) := by
    intro n
    induction n with
    | zero => intro d v _ hn; omega
    | succ n ih =>
      intro d v hd hn ho hk
      rw [f_X8_floatOfBits_b22]
      have g := n_leP (a := bW c - 1 + d) (b := bW c - 1) (by omega) (by omega)
      have g0 := n_le0 (a := bW c - 1 + d) (by omega)
      cases d with
      | zero => rw [if_pos (by rw [g]; omega)]; exact hk
      | succ d =>
        rw [if_neg (by rw [g]; omega), if_neg (by rw [g0]; omega), m1_sub (by omega), bnd_p]
        have ho' : (!(FP.fIsNaN (FP.fmul v 1056964608)) && flOk d (FP.fmul v 1056964608)) = true := ho
        rw [Bool.and_eq_true] at ho'
        obtain ⟨o1, o2⟩ := ho'
        refine ⟨fl_n32 (by cases hh : FP.fIsNaN (FP.fmul v 1056964608) with | false => rfl | true => rw [hh] at o1; cases o1), ?_⟩
        exact ih d _ (by omega) (by omega) o2 hk
  unfold f_X8_floatOfBits
  rw [f1, bnd_p]
  have := loop 4096 (24 - bW c) _ (Nat.le_refl _) (by omega) f2 (h _ f3)
  rw [show bW c - 1 + (24 - bW c) = 23 by omega] at this
  exact this
theorem s_allBits {I : IT} {S : KS} {K : Int32 → Prop} (hS : KR I 2 S) (h : K (nI 1)) : f_X8_allTemperatureBitsFit I K := by
  obtain ⟨⟨w1, w2⟩, hc, hv, hz⟩ := hS
  have loop : ∀ n j, j ≤ kc S → kc S - j < n → f_X8_allTemperatureBitsFit_b2 I K n (nI j) := by
    intro n
    induction n with
    | zero => intro j _ hn; omega
    | succ n ih =>
      intro j hj hn
      rw [f_X8_allTemperatureBitsFit_b2, hc]
      have g := n_leP (a := kc S) (b := j) (by omega) (by omega)
      by_cases e : j = kc S
      · rw [if_pos (by rw [g]; omega)]; exact h
      · rw [if_neg (by rw [g]; omega), inr_n (by omega), ix_n (by omega)]
        have v3 := (hv j (by omega)).2.2.1
        have b := w2 j (by omega)
        refine ⟨by omega, ?_⟩
        rw [v3, bnd_p]
        refine s_bits (by omega) (by omega) ?_
        refine s_fbits (by omega) (by omega) fun v hv2 => ?_
        unfold f_X8_halves
        refine ⟨fl_n32 (fl_fin_half _), ?_⟩
        dsimp only
        rw [if_pos hv2, bnd_p, nI_add]
        exact ih (j + 1) (by omega) (by omega)
  exact loop 4096 0 (Nat.zero_le _) (by omega)
section Law
variable {xs : Nat → Int32} {nn : Nat} {X28 : Int32 → IT → LT → Prop} {K : Int32 → IT → LT → Prop} {p : Nat} {I : IT} {L : LT} {T : TS} {t : Nat}
theorem l_temperatureBits (hp : p + 5 ≤ nn) (hn : nn ≤ 2560) (hS : ST I T t) (ht : t ≤ 8000) (hX : NX X28 p t) : f_L_law_b1422 xs nn X28 K (nI p) I L := by
  unfold f_L_law_b1422
  simp only [nI_add]
  rw [inr_n (k := p + 1) (by omega), ix_n (n := p + 1) (by omega)]
  refine ⟨by omega, ?_⟩
  generalize xs (p + 1) = x
  unfold f_L_temperatureBits f_X8_temperatureBits f_X9_temperatureBits
  have kw1 := hS.1.1.1.1.1
  refine s_reqK hS.2.1 x (fun q => ?_) (fun q => ?_)
  · rw [if_pos rfl]
    refine m_isKettle hS.2.2.1 hS.1.1.1 x (m_isFine ?_)
    rw [if_pos (by rw [zb_eq0]; exact q), if_neg q]
    unfold f_X9_thrown
    dsimp only
    rw [up2_same, if_pos rfl, if_neg (by decide)]
    exact l_3520 hX (hS.th _) (by omega)
  · obtain ⟨x1, x2, x3⟩ := x_ix (x := x) (by omega)
    have hk : ix x < kc T.h.k := by omega
    have bk := hS.1.1.1.1.2 (ix x) hk
    have e1 : I 5 (ix x) = nI (ktmp T.h.k (ix x)) := (hS.2.1.1.kv (k := ix x) hk).2.2.1
    have e2 : I 191 (33 + 5 * ix x + 2) = nI (ktmp T.h.k (ix x)) := (hS.2.2.1.1.2 (ix x) hk).2.2.1
    refine ⟨⟨by omega, by omega⟩, ?_⟩
    rw [e1]
    refine s_bits (by omega) (by omega) ?_
    unfold wrL
    dsimp only
    refine m_isKettle hS.2.2.1 hS.1.1.1 x (m_isFine ?_)
    rw [if_neg (by rw [zb_eq0]; exact fun z => z q), if_pos q]
    have e0 : f_X9_k x = f_X9_k (nI (ix x)) := by rw [← x1]
    rw [e0]
    refine m_k (by omega) (by omega) ?_
    rw [up2_nea (by decide), e2]
    unfold f_X9_halves f_Jxf58ca_floatToIntBits_5c35a
    rw [← fl_half]
    refine ⟨fl_n32 (fl_fin_half _), fl_n32 (fl_fin_half _), ?_⟩
    unfold f_X9_thrown
    dsimp only
    rw [up2_same, if_pos rfl, if_pos (by decide)]
    rw [if_pos (by rw [up2_same]; exact lg_self _)]
    exact l_3520 hX (hS.th _) (by omega)
theorem l_minutesUntilBoiling (hp : p + 5 ≤ nn) (hn : nn ≤ 2560) (hS : ST I T t) (ht : t ≤ 8000) (hX : NX X28 p t) : f_L_law_b1597 xs nn X28 K (nI p) I L := by
  unfold f_L_law_b1597
  simp only [nI_add]
  rw [inr_n (k := p + 1) (by omega), ix_n (n := p + 1) (by omega)]
  refine ⟨by omega, ?_⟩
  generalize xs (p + 1) = x
  unfold f_L_minutesUntilBoiling f_X8_minutesUntilBoiling
  have kw := hS.1.1.1.1
  have kw1 := kw.1
  refine s_reqK hS.2.1 x (fun q => ?_) (fun q => ?_)
  · rw [if_pos rfl]
    refine m_mub hS.2.2.1 hS.1.1.1 x (fun _ => ?_) (fun z => absurd z q) (fun _ z => absurd z q)
    unfold f_X9_thrown
    dsimp only
    rw [up2_same, if_pos rfl, if_neg (by decide)]
    exact l_3520 hX (hS.th _) (by omega)
  · obtain ⟨x1, x2, x3⟩ := x_ix (x := x) (by omega)
    have hk : ix x < kc T.h.k := by omega
    have e0 : f_X3_heatingTime 2 x I = f_X3_heatingTime 2 (nI (ix x)) I := by rw [← x1]
    rw [e0]
    refine s_heatingTime hS.2.1.1.1 hk ?_
    refine s_found (fun j z => ?_) (fun z => ?_) (fun j z => ?_)
    · rcases pI_ht kw hk with ⟨a, b⟩ | ⟨m, a, b, c, d, e⟩
      · rw [a] at z; cases z
      · rw [a] at z; cases z; omega
    · rw [if_neg (by decide), if_pos rfl]
      refine m_mub hS.2.2.1 hS.1.1.1 x (fun y => absurd q y) (fun _ _ => ?_) (fun m _ y => by rw [z] at y; cases y)
      unfold f_X9_thrown
      dsimp only
      rw [up2_same, if_pos rfl, if_neg (by decide)]
      exact l_3520 hX (hS.th _) (by omega)
    · unfold wrL
      dsimp only
      refine m_mub hS.2.2.1 hS.1.1.1 x (fun y => absurd q y) (fun _ y => by rw [z] at y; cases y) (fun m _ y => ?_)
      rw [z] at y
      cases y
      unfold f_X9_thrown
      dsimp only
      rw [up2_same, if_pos rfl, if_pos (by decide)]
      rw [if_pos (by rw [up2_same]; exact lg_self _)]
      exact l_3520 hX (hS.th _) (by omega)
theorem l_minutesUntilBoilingByMinutes (hp : p + 5 ≤ nn) (hn : nn ≤ 2560) (hS : ST I T t) (ht : t ≤ 8000) (hX : NX X28 p t) : f_L_law_b1653 xs nn X28 K (nI p) I L := by
  unfold f_L_law_b1653
  simp only [nI_add]
  rw [inr_n (k := p + 1) (by omega), ix_n (n := p + 1) (by omega)]
  refine ⟨by omega, ?_⟩
  generalize xs (p + 1) = x
  unfold f_L_minutesUntilBoilingByMinutes f_X8_minutesUntilBoilingByMinutes f_X9_minutesUntilBoilingByMinutes
  have kw := hS.1.1.1.1
  have kw1 := kw.1
  refine s_reqK hS.2.1 x (fun q => ?_) (fun q => ?_)
  · show @ite Prop ("java/lang/IndexOutOfBoundsException" = "java/lang/IndexOutOfBoundsException") _ _ _
    rw [if_pos rfl]
    refine m_mub hS.2.2.1 hS.1.1.1 x (fun _ => ?_) (fun z => absurd z q) (fun _ z => absurd z q)
    unfold f_X9_thrown
    dsimp only
    rw [up2_same, if_pos rfl, if_neg (by decide)]
    exact l_3520 hX (hS.th _) (by omega)
  · obtain ⟨x1, x2, x3⟩ := x_ix (x := x) (by omega)
    have hk : ix x < kc T.h.k := by omega
    have e0 : f_X8_heatingTimeOnCopy x I = f_X8_heatingTimeOnCopy (nI (ix x)) I := by rw [← x1]
    rw [e0]
    refine s_hotCopy hS.2.1.1.1 hk fun I2 m2 => ?_
    have hS2 := hS.cpy m2
    refine s_found (fun j z => ?_) (fun z => ?_) (fun j z => ?_)
    · rcases pI_ht kw hk with ⟨a, b⟩ | ⟨m, a, b, c, d, e⟩
      · rw [a] at z; cases z
      · rw [a] at z; cases z; omega
    · show @ite Prop ("java/util/NoSuchElementException" = "java/lang/IndexOutOfBoundsException") _ _ _
      rw [if_neg (by decide), if_pos rfl]
      refine m_mub hS2.2.2.1 hS2.1.1.1 x (fun y => absurd q y) (fun _ _ => ?_) (fun m _ y => by rw [z] at y; cases y)
      unfold f_X9_thrown
      dsimp only
      rw [up2_same, if_pos rfl, if_neg (by decide)]
      exact l_3520 hX (hS2.th _) (by omega)
    · unfold wrL
      dsimp only
      refine m_mub hS2.2.2.1 hS2.1.1.1 x (fun y => absurd q y) (fun _ y => by rw [z] at y; cases y) (fun m _ y => ?_)
      rw [z] at y
      cases y
      unfold f_X9_thrown
      dsimp only
      rw [up2_same, if_pos rfl, if_pos (by decide)]
      rw [if_pos (by rw [up2_same]; exact lg_self _)]
      exact l_3520 hX (hS2.th _) (by omega)
theorem l_isBalanced (hp : p + 5 ≤ nn) (hn : nn ≤ 2560) (hS : ST I T t) (ht : t ≤ 8000) (hX : NX X28 p t) : f_L_law_b3022 xs nn X28 K (nI p) I L := by
  unfold f_L_law_b3022 f_X8_isBalanced f_X9_isBalanced
  have fin : ∀ I2, Same I I2 50 6 → wr I2 190 0 (nI 0) (fun I1 => if nI 1 = nI 1 then f_L_law_b3520 xs nn X28 K (nI p) I1 L else K (nI 0) I1 L) := by
    intro I2 m2
    rw [wr_p, if_pos rfl]
    exact l_3520 hX ((hS.cpy m2).th _) (by omega)
  have c4 : I 1 4 = nI (T.h.s 4) := hS.2.1.1.sc 4
  have c5 : I 1 5 = nI (T.h.s 5) := hS.2.1.1.sc 5
  have c6 : I 1 6 = nI (T.h.s 6) := hS.2.1.1.sc 6
  have c7 : I 1 7 = nI (T.h.s 7) := hS.2.1.1.sc 7
  have b1 := hS.1.1.2.2.1
  have b2 := hS.1.1.2.2.2.1
  have b3 := hS.1.1.2.2.2.2.1
  refine s_totalVolume hS.2.1.1.1 ?_
  have g := n_ltP (a := T.h.s 5) (b := T.h.s 4) (by omega) (by omega)
  rw [c7, c6, c5, c4, nI_add, nI_add, if_pos (by rw [b2]), if_neg (by rw [g]; omega)]
  refine s_consistL hS.2.1.1.2.2.1 ?_
  rw [if_neg (by decide)]
  refine s_consistO hS.2.1.1.2.1 ?_
  rw [if_neg (by decide)]
  refine s_isRanked hS.2.1.1.1 ?_
  rw [if_neg (by decide)]
  refine s_allBits hS.2.1.1.1 ?_
  rw [if_neg (by decide)]
  refine s_allHot hS.2.1.1.1 fun I2 m2 => ?_
  rw [if_neg (by decide)]
  exact fin I2 m2
end Law
