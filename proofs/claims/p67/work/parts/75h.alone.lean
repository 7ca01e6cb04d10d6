/-! ===== the class alone: searches, boiling, bits, the mean, waiting ===== -/
theorem s_reqK {I : IT} {T : TS} {K : Prop} {KT : String → Prop} (hC : KCR I T) (x : Int32) (h0 : ¬ (0 ≤ x.toInt ∧ x.toInt < kc T.h.k) → KT "java/lang/IndexOutOfBoundsException") (h1 : (0 ≤ x.toInt ∧ x.toInt < kc T.h.k) → K) : f_X8_requireKettle x I K KT := by
  unfold f_X8_requireKettle
  refine s_has hC.1.1 x ?_
  simp only [zb_eq0]
  by_cases q : 0 ≤ x.toInt ∧ x.toInt < kc T.h.k
  · rw [if_neg (fun z => z q)]; exact h1 q
  · rw [if_pos q]; exact h0 q
theorem s_found {I : IT} {K : Int32 → Prop} {KT : String → Prop} {r : Option Nat} (hb : ∀ j, r = some j → j < 2147483648) (h0 : r = none → KT "java/util/NoSuchElementException") (h1 : ∀ j, r = some j → K (nI j)) : f_X8_requireFound (optI r) I K KT := by
  unfold f_X8_requireFound
  have e := optI_m1 hb
  simp only [e]
  cases r with
  | none => rw [if_pos rfl]; exact h0 rfl
  | some j => rw [if_neg (by intro q; cases q)]; exact h1 j rfl
theorem s_reqN {I : IT} {T : TS} {K : Prop} {KT : String → Prop} (hC : KCR I T) (x : Int32) (h0 : ¬ (1 ≤ x.toInt ∧ x.toInt ≤ 14) → KT "java/lang/IllegalArgumentException") (h1 : (1 ≤ x.toInt ∧ x.toInt ≤ 14) → (lc T.h.l : Int) < x.toInt → KT "java/util/NoSuchElementException") (h2 : 1 ≤ x.toInt → x.toInt ≤ lc T.h.l → K) : f_X8_requireNights x I K KT := by
  unfold f_X8_requireNights
  have w1 := hC.1.2.2.1.1.1
  refine s_within (by decide) (by decide) ?_
  simp only [zb_eq0]
  have g := xn_le (x := x) (n := lc T.h.l) (by omega)
  have e1 : I 14 2 = nI (lc T.h.l) := hC.1.lc
  by_cases q : 1 ≤ x.toInt ∧ x.toInt ≤ 14
  · rw [if_neg (fun z => z (by omega)), e1]
    by_cases q2 : x.toInt ≤ lc T.h.l
    · rw [if_pos (by rw [g]; exact q2)]; exact h2 q.1 q2
    · rw [if_neg (by rw [g]; exact q2)]; exact h1 q (by omega)
  · rw [if_pos (by omega)]; exact h0 q
/-! ===== heating up ===== -/
/-- kettle k's n minutes -/
def pI (S : KS) (k : Nat) : Nat → KS
  | 0 => S
  | n + 1 => passK (pI S k n) k
theorem pI_kc (S : KS) (k : Nat) : ∀ n, kc (pI S k n) = kc S
  | 0 => rfl
  | n + 1 => pI_kc S k n
theorem pI_lev (S : KS) (k : Nat) : ∀ n, klev (pI S k n) = klev S
  | 0 => rfl
  | n + 1 => pI_lev S k n
theorem pI_boi (S : KS) (k n : Nat) : kboi (pI S k (n + 1)) k = boiN (pI S k n) k := setN_at _ _ _
theorem pI_vol (S : KS) (k n : Nat) : kvol (pI S k (n + 1)) k = kvol (pI S k n) k - vapN (pI S k n) k := setN_at _ _ _
theorem pI_tmp (S : KS) (k n : Nat) : ktmp (pI S k (n + 1)) k = tmpN (pI S k n) k := setN_at _ _ _
theorem pI_vol0 {S : KS} {k : Nat} (h : kvol S k = 0) : ∀ n, kvol (pI S k n) k = 0
  | 0 => h
  | n + 1 => by rw [pI_vol, pI_vol0 h n]; omega
theorem pI_no {S : KS} {k : Nat} (h : kvol S k = 0 ∨ klev S k = 0) (n : Nat) : kboi (pI S k (n + 1)) k ≠ 1 := by
  rw [pI_boi]
  have e : boiN (pI S k n) k = if 0 < kvol (pI S k n) k ∧ tmpN (pI S k n) k = 200 ∧ 0 < klev (pI S k n) k then 1 else 0 := rfl
  rw [e, if_neg]
  · decide
  · rcases h with h | h
    · rw [pI_vol0 h n]; omega
    · rw [pI_lev, h]; omega
theorem pI_up {S : KS} {k r : Nat} (h1 : 40 ≤ ktmp S k) (h2 : ktmp S k ≤ 200) (hv : 0 < kvol S k) (hl : klev S k ≤ 5) (hr : 3 * klev S k = r + 1) : ∀ n, (∀ j, 1 ≤ j → j ≤ n → ktmp S k + j * r < 200) → kvol (pI S k n) k = kvol S k ∧ ktmp (pI S k n) k = ktmp S k + n * r
  | 0, _ => ⟨rfl, by rw [Nat.zero_mul]; rfl⟩
  | n + 1, h => by
    obtain ⟨a, b⟩ := pI_up h1 h2 hv hl hr n (fun j x y => h j x (by omega))
    have hn := h (n + 1) (by omega) (by omega)
    have es : (n + 1) * r = n * r + r := Nat.succ_mul n r
    have et : tmpN (pI S k n) k = if kvol (pI S k n) k = 0 then 40 else heatN (ktmp (pI S k n) k) (klev (pI S k n) k) := rfl
    rw [pI_lev, a, b, if_neg (by omega)] at et
    have eh : heatN (ktmp S k + n * r) (klev S k) = max 40 (min 200 (ktmp S k + n * r + 3 * klev S k - 1)) := rfl
    rw [eh] at et
    generalize n * r = y at *
    generalize (n + 1) * r = z at *
    have eb : boiN (pI S k n) k = if 0 < kvol (pI S k n) k ∧ tmpN (pI S k n) k = 200 ∧ 0 < klev (pI S k n) k then 1 else 0 := rfl
    rw [if_neg (by omega)] at eb
    have ev : vapN (pI S k n) k = if boiN (pI S k n) k = 1 then min (klev (pI S k n) k) (kvol (pI S k n) k) else 0 := rfl
    rw [eb, if_neg (by decide)] at ev
    exact ⟨by rw [pI_vol, ev, a]; rfl, by rw [pI_tmp]; omega⟩
theorem pI_at {S : KS} {k r : Nat} (h1 : 40 ≤ ktmp S k) (h2 : ktmp S k ≤ 200) (hv : 0 < kvol S k) (hl0 : 0 < klev S k) (hl : klev S k ≤ 5) (hr : 3 * klev S k = r + 1) (n : Nat) (h : ∀ j, 1 ≤ j → j ≤ n → ktmp S k + j * r < 200) : kboi (pI S k (n + 1)) k = if 200 ≤ ktmp S k + (n + 1) * r then 1 else 0 := by
  obtain ⟨a, b⟩ := pI_up h1 h2 hv hl hr n h
  have es : (n + 1) * r = n * r + r := Nat.succ_mul n r
  have et : tmpN (pI S k n) k = if kvol (pI S k n) k = 0 then 40 else heatN (ktmp (pI S k n) k) (klev (pI S k n) k) := rfl
  rw [pI_lev, a, b, if_neg (by omega)] at et
  have eh : heatN (ktmp S k + n * r) (klev S k) = max 40 (min 200 (ktmp S k + n * r + 3 * klev S k - 1)) := rfl
  rw [eh] at et
  generalize n * r = y at *
  generalize (n + 1) * r = z at *
  have eb : boiN (pI S k n) k = if 0 < kvol (pI S k n) k ∧ tmpN (pI S k n) k = 200 ∧ 0 < klev (pI S k n) k then 1 else 0 := rfl
  rw [pI_lev, a] at eb
  rw [pI_boi]
  by_cases q : 200 ≤ ktmp S k + z
  · rw [if_pos q]; rw [if_pos (by omega)] at eb; exact eb
  · rw [if_neg q]; rw [if_neg (by omega)] at eb; exact eb
/-- the least minute, by a division -/
theorem ht_least {t r m : Nat} (h1 : 40 ≤ t) (h2 : t ≤ 200) (hr : r = 2 ∨ r = 5 ∨ r = 8 ∨ r = 11 ∨ r = 14) (hm : m = max 1 ((200 - t + r - 1) / r)) : (∀ j, 1 ≤ j → j < m → t + j * r < 200) ∧ 200 ≤ t + m * r ∧ 1 ≤ m ∧ m ≤ 120 := by
  rcases hr with rfl | rfl | rfl | rfl | rfl <;> refine ⟨fun j a b => ?_, ?_, ?_, ?_⟩ <;> omega
theorem pI_ht {S : KS} {k : Nat} (w : KW S) (hk : k < kc S) : (htK S k = none ∧ ∀ i, 1 ≤ i → kboi (pI S k i) k ≠ 1) ∨ ∃ m, htK S k = some m ∧ 1 ≤ m ∧ m ≤ 120 ∧ kboi (pI S k m) k = 1 ∧ ∀ i, 1 ≤ i → i < m → kboi (pI S k i) k ≠ 1 := by
  obtain ⟨u1, u2, u3, u4, u5, u6⟩ := w.2 k hk
  have e : htK S k = if kvol S k = 0 ∨ klev S k = 0 then none else some (max 1 ((200 - ktmp S k + (3 * klev S k - 1) - 1) / (3 * klev S k - 1))) := rfl
  by_cases q : kvol S k = 0 ∨ klev S k = 0
  · rw [if_pos q] at e
    refine Or.inl ⟨e, fun i hi => ?_⟩
    cases i with
    | zero => omega
    | succ i => exact pI_no q i
  · rw [if_neg q] at e
    refine Or.inr ⟨_, e, ?_⟩
    have hr : 3 * klev S k = (3 * klev S k - 1) + 1 := by omega
    obtain ⟨a, b, c, d⟩ := ht_least (t := ktmp S k) (r := 3 * klev S k - 1) u3 u4 (by omega) rfl
    generalize max 1 ((200 - ktmp S k + (3 * klev S k - 1) - 1) / (3 * klev S k - 1)) = m at *
    generalize 3 * klev S k - 1 = r at *
    have st : ∀ i, 1 ≤ i → i ≤ m → kboi (pI S k i) k = if 200 ≤ ktmp S k + i * r then 1 else 0 := fun i hi1 hi2 => by
      cases i with
      | zero => omega
      | succ i => exact pI_at u3 u4 (by omega) (by omega) u5 hr i (fun j x y => a j x (by omega))
    refine ⟨c, d, ?_, fun i x y => ?_⟩
    · rw [st m c (Nat.le_refl _), if_pos b]
    · rw [st i x (by omega), if_neg (by have := a i x y; omega)]; decide
section
variable {I : IT} {S : KS}
theorem s_hotCopy {K : Int32 → IT → Prop} (hS : KR I 2 S) {k : Nat} (hk : k < kc S) (h : ∀ I', Same I I' 50 6 → K (optI (htK S k)) I') : f_X8_heatingTimeOnCopy (nI k) I K := by
  have w := hS.1
  have w1 := w.1
  have main : ∀ f j I', j ≤ 120 → 120 - j < f → KR I' 50 (pI S k j) → Same I I' 50 6 → (∀ i, 1 ≤ i → i ≤ j → kboi (pI S k i) k ≠ 1) → f_X8_heatingTimeOnCopy_b16 (nI k) K f (nI (j + 1)) I' := by
    intro f
    induction f with
    | zero => intro j I' _ hf; omega
    | succ f ih =>
      intro j I' hj hf hR hm hno
      rw [f_X8_heatingTimeOnCopy_b16]
      have g := n_ltP (a := 120) (b := j + 1) (by omega) (by omega)
      by_cases e : j = 120
      · rw [if_pos (by rw [g]; omega)]
        rcases pI_ht w hk with ⟨a, b⟩ | ⟨m, a, b, c, d, e2⟩
        · rw [a] at h; exact h I' hm
        · exact absurd d (hno m b (by omega))
      · rw [if_neg (by rw [g]; omega)]
        refine s_passMinute hR (by rw [pI_kc]; exact hk) fun I2 r2 m2 => ?_
        have r2 : KR I2 50 (pI S k (j + 1)) := r2
        have eb := (r2.2.2.1 k (by rw [pI_kc]; exact hk)).2.2.2.2
        have bb := (r2.1.2 k (by rw [pI_kc]; exact hk)).2.2.2.2.2
        rw [inr_n (by omega), ix_n (by omega), eb]
        have g2 := n_eq0 (a := kboi (pI S k (j + 1)) k) (by omega)
        refine ⟨by omega, ?_⟩
        by_cases q : kboi (pI S k (j + 1)) k = 0
        · rw [if_pos (by rw [g2]; exact q), bnd_p, nI_add]
          refine ih (j + 1) I2 (by omega) (by omega) r2 (hm.then m2) (fun i x y => ?_)
          by_cases e3 : i = j + 1
          · rw [e3, q]; decide
          · exact hno i x (by omega)
        · rw [if_neg (by rw [g2]; exact q)]
          rcases pI_ht w hk with ⟨a, b⟩ | ⟨m, a, b, c, d, e2⟩
          · exact absurd (show kboi (pI S k (j + 1)) k = 1 by omega) (b (j + 1) (by omega))
          · have em : m = j + 1 := by
              by_cases x : m < j + 1
              · exact absurd d (hno m b (by omega))
              · by_cases y : j + 1 < m
                · exact absurd (show kboi (pI S k (j + 1)) k = 1 by omega) (e2 (j + 1) (by omega) y)
                · omega
            rw [a, em] at h; exact h I2 (hm.then m2)
  unfold f_X8_heatingTimeOnCopy
  refine s_copyK (a := 50) hS (by omega) fun I1 k1 m1 => ?_
  exact main 4096 0 I1 (by omega) (by omega) k1 m1 (fun i x y => by omega)
theorem s_allHot {K : Int32 → IT → Prop} (hS : KR I 2 S) (h : ∀ I', Same I I' 50 6 → K (nI 1) I') : f_X8_allHeatingTimesAgree I K := by
  have w := hS.1
  have w1 := w.1
  have main : ∀ f j I', j ≤ kc S → kc S - j < f → Same I I' 50 6 → f_X8_allHeatingTimesAgree_b2 K f (nI j) I' := by
    intro f
    induction f with
    | zero => intro j I' _ hf; omega
    | succ f ih =>
      intro j I' hj hf hm
      have hR : KR I' 2 S := hS.same fun q a b => hm q (by omega)
      have e5 : I' 2 5 = nI (kc S) := hR.2.1
      rw [f_X8_allHeatingTimesAgree_b2, e5]
      have g := n_leP (a := kc S) (b := j) (by omega) (by omega)
      by_cases e : j = kc S
      · rw [if_pos (by rw [g]; omega)]; exact h I' hm
      · rw [if_neg (by rw [g]; omega)]
        refine s_heatingTime hR (by omega) ?_
        refine s_hotCopy hR (by omega) fun I2 m2 => ?_
        rw [if_pos rfl, bnd_p, nI_add]
        exact ih (j + 1) I2 (by omega) (by omega) (hm.then m2)
  exact main 4096 0 I (Nat.zero_le _) (by omega) Same.rf
end
/-! ===== bits of temperatures ===== -/
def bW (c : Nat) : Nat := if c < 64 then 5 else if c < 128 then 6 else 7
def flD : Nat → UInt32 → UInt32
  | 0, v => v
  | n + 1, v => flD n (FP.fmul v 1056964608)
def flOk : Nat → UInt32 → Bool
  | 0, _ => true
  | n + 1, v => !(FP.fIsNaN (FP.fmul v 1056964608)) && flOk n (FP.fmul v 1056964608)
theorem bits_w : ∀ c : Fin 201, ∀ j : Fin 8, 40 ≤ c.val → ((nI c.val >>> ((nI j.val + nI 1) &&& 31) = 0) ↔ bW c.val ≤ j.val) := by decide +kernel
theorem bits_v : ∀ c : Fin 201, 40 ≤ c.val → (((nI (bW c.val) - nI 1) + nI 127) <<< (nI 23 &&& 31)) ||| ((nI c.val - (nI 1 <<< (nI (bW c.val) &&& 31))) <<< ((nI 23 - nI (bW c.val)) &&& 31)) = (FP.fmul (FP.i2f (nI c.val)) 1056964608).toInt32 := by decide +kernel
theorem bits_f : ∀ c : Fin 201, 40 ≤ c.val → ((FP.fmul (FP.i2f (nI c.val)) 1056964608).toInt32 >>> (nI 23 &&& 31)) - nI 127 = nI (bW c.val - 1) ∧ flOk (24 - bW c.val) (FP.i2f (((FP.fmul (FP.i2f (nI c.val)) 1056964608).toInt32 &&& nI 8388607) ||| nI 8388608)) = true ∧ Op.cmpValue (FP.fcmp (flD (24 - bW c.val) (FP.i2f (((FP.fmul (FP.i2f (nI c.val)) 1056964608).toInt32 &&& nI 8388607) ||| nI 8388608))) (FP.fmul (FP.i2f (nI c.val)) 1056964608)) .l = 0 := by decide +kernel
theorem s_bits {I : IT} {K : Int32 → Prop} {c : Nat} (h1 : 40 ≤ c) (h2 : c ≤ 200) (h : K (FP.fmul (FP.i2f (nI c)) 1056964608).toInt32) : f_X8_bitsOfHalves (nI c) I K := by
  have bw : 5 ≤ bW c ∧ bW c ≤ 7 := by unfold bW; split <;> (try split) <;> omega
  have loop : ∀ n j, j ≤ bW c → bW c - j < n → f_X8_bitsOfHalves_b2 (nI c) I (fun y0_0 => f_X8_bitsOfHalves_b22 (nI c) I K y0_0) K n (nI j) := by
    intro n
    induction n with
    | zero => intro j _ hn; omega
    | succ n ih =>
      intro j hj hn
      rw [f_X8_bitsOfHalves_b2]
      have g := n_leP (a := 22) (b := j) (by omega) (by omega)
      rw [if_neg (by rw [g]; omega)]
      have hw := bits_w ⟨c, by omega⟩ ⟨j, by omega⟩ h1
      dsimp only at hw
      by_cases e : j = bW c
      · rw [if_pos (hw.mpr (by omega)), e]
        unfold f_X8_bitsOfHalves_b22
        rw [bnd_p, bnd_p]
        have hv := bits_v ⟨c, by omega⟩ h1
        dsimp only at hv
        rw [hv]; exact h
      · rw [if_neg (fun z => by have := hw.mp z; omega), bnd_p, nI_add]
        exact ih (j + 1) (by omega) (by omega)
  exact loop 4096 0 (Nat.zero_le _) (by omega)
theorem m1_sub {a : Nat} (h : 1 ≤ a) : nI a + (-1) = nI (a - 1) := by
  rw [← n_sub h]
  generalize nI a = x
  have e : nI 1 = (1 : Int32) := rfl
  rw [e]
  grind
theorem s_fbits {I : IT} {K : UInt32 → Prop} {c : Nat} (h1 : 40 ≤ c) (h2 : c ≤ 200) (h : ∀ v, Op.cmpValue (FP.fcmp v (FP.fmul (FP.i2f (nI c)) 1056964608)) .l = 0 → K v) : f_X8_floatOfBits (FP.fmul (FP.i2f (nI c)) 1056964608).toInt32 I K := by
  have bw : 5 ≤ bW c ∧ bW c ≤ 7 := by unfold bW; split <;> (try split) <;> omega
  obtain ⟨f1, f2, f3⟩ := bits_f ⟨c, by omega⟩ h1
  dsimp only at f1 f2 f3
  have loop : ∀ n d v, d ≤ 24 - bW c → d < n → flOk d v = true → K (flD d v) → f_X8_floatOfBits_b22 (FP.fmul (FP.i2f (nI c)) 1056964608).toInt32 I K n v (nI (bW c - 1)) (nI (bW c - 1 + d)) := by
    intro n
    induction n with
    | zero => intro d v _ hn; omega
    | succ n ih =>
      intro d v hd hn ho hk
      rw [f_X8_floatOfBits_b22]
      have g := n_leP (a := bW c - 1 + d) (b := bW c - 1) (by omega) (by omega)
      have g0 := n_le0 (a := bW c - 1 + d) (by omega)
      cases d with
      | zero => rw [if_pos (by rw [g]; omega)]; exact hk
      | succ d =>
        rw [if_neg (by rw [g]; omega), if_neg (by rw [g0]; omega), m1_sub (by omega), bnd_p]
        have ho' : (!(FP.fIsNaN (FP.fmul v 1056964608)) && flOk d (FP.fmul v 1056964608)) = true := ho
        rw [Bool.and_eq_true] at ho'
        obtain ⟨o1, o2⟩ := ho'
        refine ⟨fl_n32 (by cases hh : FP.fIsNaN (FP.fmul v 1056964608) with | false => rfl | true => rw [hh] at o1; cases o1), ?_⟩
        exact ih d _ (by omega) (by omega) o2 hk
  unfold f_X8_floatOfBits
  rw [f1, bnd_p]
  have := loop 4096 (24 - bW c) _ (Nat.le_refl _) (by omega) f2 (h _ f3)
  rw [show bW c - 1 + (24 - bW c) = 23 by omega] at this
  exact this
theorem s_allBits {I : IT} {S : KS} {K : Int32 → Prop} (hS : KR I 2 S) (h : K (nI 1)) : f_X8_allTemperatureBitsFit I K := by
  obtain ⟨⟨w1, w2⟩, hc, hv, hz⟩ := hS
  have loop : ∀ n j, j ≤ kc S → kc S - j < n → f_X8_allTemperatureBitsFit_b2 I K n (nI j) := by
    intro n
    induction n with
    | zero => intro j _ hn; omega
    | succ n ih =>
      intro j hj hn
      rw [f_X8_allTemperatureBitsFit_b2, hc]
      have g := n_leP (a := kc S) (b := j) (by omega) (by omega)
      by_cases e : j = kc S
      · rw [if_pos (by rw [g]; omega)]; exact h
      · rw [if_neg (by rw [g]; omega), inr_n (by omega), ix_n (by omega)]
        have v3 := (hv j (by omega)).2.2.1
        have b := w2 j (by omega)
        refine ⟨by omega, ?_⟩
        rw [v3, bnd_p]
        refine s_bits (by omega) (by omega) ?_
        refine s_fbits (by omega) (by omega) fun v hv2 => ?_
        unfold f_X8_halves
        refine ⟨fl_n32 (fl_fin_half _), ?_⟩
        dsimp only
        rw [if_pos hv2, bnd_p, nI_add]
        exact ih (j + 1) (by omega) (by omega)
  exact loop 4096 0 (Nat.zero_le _) (by omega)
def dbl2 : UInt64 := 4611686018427387904
/-! ===== the mean temperature ===== -/
/-- n halves -/
def hd (n : Nat) : UInt64 := FP.ddiv (FP.i2d (nI n)) dbl2
def ccN (n : Nat) : Nat := if n = 0 then 0 else n * 2 ^ (52 - n.log2)
def qqN (n : Nat) : Int := if n = 0 then -1074 else (n.log2 : Int) - 53
theorem hd_tab : ∀ n : Fin 801, FP.Core.val64 (hd n.val) = FP.Core.Datum.fin false (ccN n.val) (qqN n.val) ∧ FP.Core.roundRatio FP.Core.b64 false n.val 1 (-1) = FP.Core.Datum.fin false (ccN n.val) (qqN n.val) := by decide +kernel
theorem hd_half : ∀ t : Fin 201, FP.f2d (FP.fmul (FP.i2f (nI t.val)) 1056964608) = hd t.val := by decide +kernel
theorem hd_zero : hd 0 = FP.dconst0 := by decide +kernel
theorem qq_le {n : Nat} (hn : n ≤ 800) : qqN n ≤ -43 := by
  unfold qqN
  by_cases h : n = 0
  · rw [if_pos h]; omega
  · rw [if_neg h]
    have := (Nat.log2_lt h).mpr (show n < 2 ^ 10 by omega)
    omega
theorem un_hd {n : Nat} {e : Int} (hn : n ≤ 800) (he : e ≤ qqN n) : FP.Core.inUnits (ccN n) (qqN n) e = n * 2 ^ ((-1 : Int) - e).toNat := by
  unfold FP.Core.inUnits ccN
  unfold qqN at he ⊢
  by_cases h : n = 0
  · rw [if_pos h, h, Nat.zero_mul, Nat.zero_mul]
  · rw [if_neg h, if_neg h]
    rw [if_neg h] at he
    have := (Nat.log2_lt h).mpr (show n < 2 ^ 10 by omega)
    rw [Nat.mul_assoc, ← Nat.pow_add]
    rw [show 52 - n.log2 + ((n.log2 : Int) - 53 - e).toNat = ((-1 : Int) - e).toNat by omega]
theorem sg_nat (n : Nat) : FP.Core.sumSign false false (n : Int) = false := by
  unfold FP.Core.sumSign
  by_cases h : (n : Int) = 0
  · rw [if_pos h]; rfl
  · rw [if_neg h]
    exact decide_eq_false (by omega)
theorem hd_add {s t : Nat} (hs : s ≤ 600) (ht : t ≤ 200) : FP.dadd (hd s) (hd t) = hd (s + t) := by
  have h1 := (hd_tab ⟨s, by omega⟩).1
  have h2 := (hd_tab ⟨t, by omega⟩).1
  obtain ⟨h3, h4⟩ := hd_tab ⟨s + t, by omega⟩
  dsimp only at h1 h2 h3 h4
  have q1 := qq_le (n := s) (by omega)
  have q2 := qq_le (n := t) (by omega)
  have e1 : FP.Core.val64 (FP.Core.dadd (hd s) (hd t)) = FP.Core.Datum.fin false (ccN (s + t)) (qqN (s + t)) := by
    rw [FP.Core.val64_dadd, h1, h2, ← h4]
    have hm1 : min (qqN s) (qqN t) ≤ qqN s := Int.min_le_left _ _
    have hm2 : min (qqN s) (qqN t) ≤ qqN t := Int.min_le_right _ _
    have hx : FP.Core.exactSum (FP.Core.Datum.fin false (ccN s) (qqN s)) (FP.Core.Datum.fin false (ccN t) (qqN t)) = FP.Core.Datum.fin (FP.Core.sumSign false false (FP.Core.sumUnits false (ccN s) (qqN s) false (ccN t) (qqN t) (min (qqN s) (qqN t)))) (FP.Core.sumUnits false (ccN s) (qqN s) false (ccN t) (qqN t) (min (qqN s) (qqN t))).natAbs (min (qqN s) (qqN t)) := rfl
    rw [hx]
    generalize min (qqN s) (qqN t) = e at *
    have eu : FP.Core.sumUnits false (ccN s) (qqN s) false (ccN t) (qqN t) e = (((s + t) * 2 ^ ((-1 : Int) - e).toNat : Nat) : Int) := by
      show ((FP.Core.inUnits (ccN s) (qqN s) e : Nat) : Int) + ((FP.Core.inUnits (ccN t) (qqN t) e : Nat) : Int) = _
      rw [un_hd (by omega) hm1, un_hd (by omega) hm2, ← Int.natCast_add, ← Nat.add_mul]
    rw [eu, sg_nat, Int.natAbs_natCast]
    show FP.Core.roundRatio FP.Core.b64 false ((s + t) * 2 ^ ((-1 : Int) - e).toNat) 1 e = _
    refine FP.Core.roundRatio_congr (by decide) (by decide) ?_
    rw [show (e - (-1)).toNat = 0 by omega, Nat.pow_zero, Nat.mul_one, Nat.mul_one, Nat.mul_one]
  exact FP.Core.val64_inj (a := FP.Core.dadd (hd s) (hd t)) (by rw [e1]; exact FP.Core.Datum.noConfusion) (e1.trans h3.symm)
theorem hd_nan {n : Nat} (hn : n ≤ 800) : FP.dIsNaN (hd n) = false := by
  refine FP.Core.DFin.notNaN (a := hd n) ?_
  exact ⟨_, _, _, (hd_tab ⟨n, by omega⟩).1⟩
theorem hd_div {n c : Nat} (hn : n ≤ 800) (hc : 1 ≤ c) (hc2 : c < 2147483648) : FP.dIsNaN (FP.ddiv (hd n) (FP.i2d (nI c))) = false := by
  have hz : ¬ FP.Core.DZero (FP.i2d (nI c)) := fun q => FP.Core.i2d_ne_zero (v := nI c) (by intro e; have := (nz_eq (show c < 2147483648 by omega)).mp e; omega) ((FP.Core.zero_bits2 _).mp q)
  exact FP.Core.ddiv_out (hd_nan hn) (FP.Core.i2d_fin _) hz
section
variable {I : IT}
theorem s_mean {S : KS} {K : UInt64 → Prop} {KT : String → Prop} (hS : KR I 2 S) (h0 : kc S = 0 → KT "java/lang/ArithmeticException") (h1 : 0 < kc S → K (FP.ddiv (hd (sumN (ktmp S) (kc S))) (FP.i2d (nI (kc S))))) : f_X8_meanTemperature I K KT := by
  obtain ⟨⟨w1, w2⟩, hc, hv, hz⟩ := hS
  unfold f_X8_meanTemperature
  have g := n_lt0 (a := kc S) (by omega)
  rw [hc, bnd_p]
  by_cases q : 0 < kc S
  · rw [if_pos (by rw [g]; exact q)]
    have hb : ∀ j, j ≤ kc S → sumN (ktmp S) j ≤ j * 200 := fun j hj => sumN_le fun i hi => (w2 i (by omega)).2.2.2.1
    have loop : ∀ n j, j ≤ kc S → kc S - j < n → f_X8_meanTemperature_b31 I K KT n (nI (kc S)) (hd (sumN (ktmp S) j)) (nI j) := by
      intro n
      induction n with
      | zero => intro j _ hn; omega
      | succ n ih =>
        intro j hj hn
        rw [f_X8_meanTemperature_b31]
        have b := hb j hj
        have g2 := n_leP (a := kc S) (b := j) (by omega) (by omega)
        by_cases e : j = kc S
        · rw [if_pos (by rw [g2]; omega)]
          subst e
          exact ⟨fl_n64 (hd_div (by omega) q (by omega)), h1 q⟩
        · rw [if_neg (by rw [g2]; omega), inr_n (by omega), ix_n (by omega), (hv j (by omega)).2.2.1]
          have bj := w2 j (by omega)
          refine ⟨by omega, ?_⟩
          unfold f_X8_halves
          have eh := hd_half ⟨ktmp S j, by omega⟩
          dsimp only at eh
          dsimp only
          rw [eh, hd_add (by omega) (by omega)]
          refine ⟨fl_n32 (fl_fin_half _), fl_n64 (hd_nan (by omega)), fl_n64 (hd_nan (by omega)), ?_⟩
          rw [bnd_p, nI_add]
          exact ih (j + 1) (by omega) (by omega)
    have := loop 4096 0 (Nat.zero_le _) (by omega)
    rw [show sumN (ktmp S) 0 = 0 from rfl, hd_zero] at this
    exact this
  · rw [if_neg (by rw [g]; exact q)]
    exact h0 (by omega)
end
/-! ===== the minutes until a kettle suits ===== -/
/-- r kettles' minutes, from kettle j on -/
def kM : Nat → Nat → KS → KS
  | 0, _, S => S
  | r + 1, j, S => kM r (j + 1) (passK S j)
def kI (S : KS) : Nat → KS
  | 0 => S
  | m + 1 => kM (kc (kI S m)) 0 (kI S m)
theorem kM_kc : ∀ r j S, kc (kM r j S) = kc S
  | 0, _, _ => rfl
  | r + 1, j, S => kM_kc r (j + 1) (passK S j)
theorem kI_kc (S : KS) : ∀ m, kc (kI S m) = kc S
  | 0 => rfl
  | m + 1 => by show kc (kM _ _ _) = _; rw [kM_kc]; exact kI_kc S m
abbrev suM (S : KS) (cups mn m : Nat) : Option Nat := suitK (kI S m) cups mn (kc S)
/-- the first minute, of 121, in which one suits -/
def wtK (S : KS) (cups mn : Nat) : Option Nat := firstN (fun m => suM S cups mn m ≠ none) 121
section
variable {I : IT} {S : KS}
theorem s_waitIn {X : Int32 → IT → Prop} {K : Int32 → IT → Prop} (a1 a2 v3 : Int32) : ∀ f r j I' S', KR I' 50 S' → kc S' = j + r → r < f → (∀ I2, KR I2 50 (kM r j S') → Same I' I2 50 6 → X (v3 + nI 1) I2) → f_X8_waitOnCopy_b40 a1 a2 X K f v3 (nI j) I' := by
  intro f
  induction f with
  | zero => intro r _ _ _ _ _ hn; omega
  | succ f ih =>
    intro r j I' S' hR hc hf hX
    have w1 := hR.1.1
    have e5 : I' 50 5 = nI (kc S') := hR.2.1
    rw [f_X8_waitOnCopy_b40, e5]
    have g := n_leP (a := kc S') (b := j) (by omega) (by omega)
    cases r with
    | zero => rw [if_pos (by rw [g]; omega), bnd_p]; exact hX I' hR Same.rf
    | succ r =>
      rw [if_neg (by rw [g]; omega)]
      refine s_passMinute hR (by omega) fun I2 r2 m2 => ?_
      rw [bnd_p, nI_add]
      exact ih r (j + 1) I2 (passK S' j) r2 (show kc S' = j + 1 + r by omega) (by omega) fun I3 r3 m3 => hX I3 r3 (m2.then m3)
theorem s_wait {K : Int32 → IT → Prop} (hS : KR I 2 S) {cups mn : Nat} (hcu : cups ≤ 100) (hm1 : 1 ≤ mn) (hm2 : mn ≤ 1000) (h : ∀ I', Same I I' 50 6 → K (optI (wtK S cups mn)) I') : f_X8_waitOnCopy (nI cups) (nI mn) I K := by
  have main : ∀ f j I', j ≤ 121 → 121 - j < f → KR I' 50 (kI S j) → Same I I' 50 6 → (∀ i, i < j → ¬ suM S cups mn i ≠ none) → f_X8_waitOnCopy_b16 (nI cups) (nI mn) K f (nI j) I' := by
    intro f
    induction f with
    | zero => intro j I' _ hf; omega
    | succ f ih =>
      intro j I' hj hf hR hm hno
      have w1 := hR.1.1
      rw [f_X8_waitOnCopy_b16]
      have g := n_ltP (a := 120) (b := j) (by omega) (by omega)
      by_cases e : j = 121
      · rw [if_pos (by rw [g]; omega)]
        have ew : wtK S cups mn = none := firstN_none fun i hi => hno i (by omega)
        rw [ew] at h; exact h I' hm
      · rw [if_neg (by rw [g]; omega)]
        refine s_suitable hR hcu hm1 hm2 ?_
        rw [kI_kc]
        have em := optI_m1 (r := suM S cups mn j) (fun b hb => by have := suitK_lt hb; rw [kI_kc] at w1; omega)
        show @ite Prop (optI (suM S cups mn j) = -1) _ _ _
        simp only [em]
        by_cases q : suM S cups mn j = none
        · rw [if_pos q]
          refine s_waitIn _ _ _ 4096 (kc (kI S j)) 0 I' (kI S j) hR (by omega) (by omega) fun I2 r2 m2 => ?_
          rw [nI_add]
          refine ih (j + 1) I2 (by omega) (by omega) r2 (hm.then m2) (fun i hi => ?_)
          by_cases e3 : i = j
          · rw [e3]; exact fun z => z q
          · exact hno i (by omega)
        · rw [if_neg q]
          have ew : wtK S cups mn = some j := firstN_hit (by omega) q hno
          rw [ew] at h; exact h I' hm
  unfold f_X8_waitOnCopy
  refine s_copyK (a := 50) hS (by omega) fun I1 k1 m1 => ?_
  exact main 4096 0 I1 (by omega) (by omega) k1 m1 (fun i hi => by omega)
end
