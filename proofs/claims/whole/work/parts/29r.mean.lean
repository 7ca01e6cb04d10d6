/-! ===== the mean temperature ===== -/
/-- n halves -/
def hd (n : Nat) : UInt64 := FP.ddiv (FP.i2d (nI n)) dbl2
def ccN (n : Nat) : Nat := if n = 0 then 0 else n * 2 ^ (52 - n.log2)
def qqN (n : Nat) : Int := if n = 0 then -1074 else (n.log2 : Int) - 53
theorem hd_tab : ∀ n : Fin 801, FP.Core.val64 (hd n.val) = FP.Core.Datum.fin false (ccN n.val) (qqN n.val) ∧ FP.Core.roundRatio FP.Core.b64 false n.val 1 (-1) = FP.Core.Datum.fin false (ccN n.val) (qqN n.val) := by decide +kernel
theorem hd_half : ∀ t : Fin 201, FP.f2d (FP.fmul (FP.i2f (nI t.val)) 1056964608) = hd t.val := by decide +kernel
theorem hd_zero : hd 0 = FP.dconst0 := by decide +kernel
theorem qq_le {n : Nat} (hn : n ≤ 800) : qqN n ≤ -43 := by
  unfold qqN
  by_cases h : n = 0
  · rw [if_pos h]; omega
  · rw [if_neg h]
    have := (Nat.log2_lt h).mpr (show n < 2 ^ 10 by omega)
    omega
theorem un_hd {n : Nat} {e : Int} (hn : n ≤ 800) (he : e ≤ qqN n) : FP.Core.inUnits (ccN n) (qqN n) e = n * 2 ^ ((-1 : Int) - e).toNat := by
  unfold FP.Core.inUnits ccN
  unfold qqN at he ⊢
  by_cases h : n = 0
  · rw [if_pos h, h, Nat.zero_mul, Nat.zero_mul]
  · rw [if_neg h, if_neg h]
    rw [if_neg h] at he
    have := (Nat.log2_lt h).mpr (show n < 2 ^ 10 by omega)
    rw [Nat.mul_assoc, ← Nat.pow_add]
    rw [show 52 - n.log2 + ((n.log2 : Int) - 53 - e).toNat = ((-1 : Int) - e).toNat by omega]
theorem sg_nat (n : Nat) : FP.Core.sumSign false false (n : Int) = false := by
  unfold FP.Core.sumSign
  by_cases h : (n : Int) = 0
  · rw [if_pos h]; rfl
  · rw [if_neg h]
    exact decide_eq_false (by omega)
theorem hd_add {s t : Nat} (hs : s ≤ 600) (ht : t ≤ 200) : FP.dadd (hd s) (hd t) = hd (s + t) := by
  have h1 := (hd_tab ⟨s, by omega⟩).1
  have h2 := (hd_tab ⟨t, by omega⟩).1
  obtain ⟨h3, h4⟩ := hd_tab ⟨s + t, by omega⟩
  dsimp only at h1 h2 h3 h4
  have q1 := qq_le (n := s) (by omega)
  have q2 := qq_le (n := t) (by omega)
  have e1 : FP.Core.val64 (FP.Core.dadd (hd s) (hd t)) = FP.Core.Datum.fin false (ccN (s + t)) (qqN (s + t)) := by
    rw [FP.Core.val64_dadd, h1, h2, ← h4]
    have hm1 : min (qqN s) (qqN t) ≤ qqN s := Int.min_le_left _ _
    have hm2 : min (qqN s) (qqN t) ≤ qqN t := Int.min_le_right _ _
    have hx : FP.Core.exactSum (FP.Core.Datum.fin false (ccN s) (qqN s)) (FP.Core.Datum.fin false (ccN t) (qqN t)) = FP.Core.Datum.fin (FP.Core.sumSign false false (FP.Core.sumUnits false (ccN s) (qqN s) false (ccN t) (qqN t) (min (qqN s) (qqN t)))) (FP.Core.sumUnits false (ccN s) (qqN s) false (ccN t) (qqN t) (min (qqN s) (qqN t))).natAbs (min (qqN s) (qqN t)) := rfl
    rw [hx]
    generalize min (qqN s) (qqN t) = e at *
    have eu : FP.Core.sumUnits false (ccN s) (qqN s) false (ccN t) (qqN t) e = (((s + t) * 2 ^ ((-1 : Int) - e).toNat : Nat) : Int) := by
      show ((FP.Core.inUnits (ccN s) (qqN s) e : Nat) : Int) + ((FP.Core.inUnits (ccN t) (qqN t) e : Nat) : Int) = _
      rw [un_hd (by omega) hm1, un_hd (by omega) hm2, ← Int.natCast_add, ← Nat.add_mul]
    rw [eu, sg_nat, Int.natAbs_natCast]
    show FP.Core.roundRatio FP.Core.b64 false ((s + t) * 2 ^ ((-1 : Int) - e).toNat) 1 e = _
    refine FP.Core.roundRatio_congr (by decide) (by decide) ?_
    rw [show (e - (-1)).toNat = 0 by omega, Nat.pow_zero, Nat.mul_one, Nat.mul_one, Nat.mul_one]
  exact FP.Core.val64_inj (a := FP.Core.dadd (hd s) (hd t)) (by rw [e1]; exact FP.Core.Datum.noConfusion) (e1.trans h3.symm)
theorem hd_nan {n : Nat} (hn : n ≤ 800) : FP.dIsNaN (hd n) = false := by
  refine FP.Core.DFin.notNaN (a := hd n) ?_
  exact ⟨_, _, _, (hd_tab ⟨n, by omega⟩).1⟩
theorem hd_div {n c : Nat} (hn : n ≤ 800) (hc : 1 ≤ c) (hc2 : c < 2147483648) : FP.dIsNaN (FP.ddiv (hd n) (FP.i2d (nI c))) = false := by
  have hz : ¬ FP.Core.DZero (FP.i2d (nI c)) := fun q => FP.Core.i2d_ne_zero (v := nI c) (by intro e; have := (nz_eq (show c < 2147483648 by omega)).mp e; omega) ((FP.Core.zero_bits2 _).mp q)
  exact FP.Core.ddiv_out (hd_nan hn) (FP.Core.i2d_fin _) hz
section Law
variable {xs : Nat → Int32} {nn : Nat} {X28 : Int32 → IT → LT → Prop} {K : Int32 → IT → LT → Prop} {p : Nat} {I : IT} {L : LT} {T : TS} {t : Nat}
theorem s_mean {S : KS} {K : UInt64 → Prop} {KT : String → Prop} (hS : KR I 2 S) (h0 : kc S = 0 → KT "java/lang/ArithmeticException") (h1 : 0 < kc S → K (FP.ddiv (hd (sumN (ktmp S) (kc S))) (FP.i2d (nI (kc S))))) : f_X8_meanTemperature I K KT := by
  obtain ⟨⟨w1, w2⟩, hc, hv, hz⟩ := hS
  unfold f_X8_meanTemperature
  have g := n_lt0 (a := kc S) (by omega)
  rw [hc, bnd_p]
  by_cases q : 0 < kc S
  · rw [if_pos (by rw [g]; exact q)]
    have hb : ∀ j, j ≤ kc S → sumN (ktmp S) j ≤ j * 200 := fun j hj => sumN_le fun i hi => (w2 i (by omega)).2.2.2.1
    have loop : ∀ n j, j ≤ kc S → kc S - j < n → f_X8_meanTemperature_b31 I K KT n (nI (kc S)) (hd (sumN (ktmp S) j)) (nI j) := by
      intro n
      induction n with
      | zero => intro j _ hn; omega
      | succ n ih =>
        intro j hj hn
        rw [f_X8_meanTemperature_b31]
        have b := hb j hj
        have g2 := n_leP (a := kc S) (b := j) (by omega) (by omega)
        by_cases e : j = kc S
        · rw [if_pos (by rw [g2]; omega)]
          subst e
          exact ⟨fl_n64 (hd_div (by omega) q (by omega)), h1 q⟩
        · rw [if_neg (by rw [g2]; omega), inr_n (by omega), ix_n (by omega), (hv j (by omega)).2.2.1]
          have bj := w2 j (by omega)
          refine ⟨by omega, ?_⟩
          unfold f_X8_halves
          have eh := hd_half ⟨ktmp S j, by omega⟩
          dsimp only at eh
          dsimp only
          rw [eh, hd_add (by omega) (by omega)]
          refine ⟨fl_n32 (fl_fin_half _), fl_n64 (hd_nan (by omega)), fl_n64 (hd_nan (by omega)), ?_⟩
          rw [bnd_p, nI_add]
          exact ih (j + 1) (by omega) (by omega)
    have := loop 4096 0 (Nat.zero_le _) (by omega)
    rw [show sumN (ktmp S) 0 = 0 from rfl, hd_zero] at this
    exact this
  · rw [if_neg (by rw [g]; exact q)]
    exact h0 (by omega)
theorem m_mean {S : KS} {K : UInt64 → IT → Prop} (hM : KM (I 191) S) (w : KW S) (h0 : kc S = 0 → K FP.dconst0 (up2 I 190 0 (nI 1))) (h1 : 0 < kc S → K (FP.ddiv (hd (sumN (ktmp S) (kc S))) (FP.i2d (nI (kc S)))) (up2 I 190 0 (nI 0))) : f_X9_meanTemperature I K := by
  have w1 := w.1
  unfold f_X9_meanTemperature
  rw [hM.1, bnd_p]
  have hb : ∀ j, j ≤ kc S → sumN (ktmp S) j ≤ j * 200 := fun j hj => sumN_le fun i hi => (w.2 i (by omega)).2.2.2.1
  have loop : ∀ n j, j ≤ kc S → kc S - j < n → f_X9_meanTemperature_b11 (fun y0_0 y0_1 y0_2 I0_ => f_X9_meanTemperature_b41 K y0_0 y0_1 y0_2 I0_) K n (nI (kc S)) (nI (sumN (ktmp S) j)) (nI j) I := by
    intro n
    induction n with
    | zero => intro j _ hn; omega
    | succ n ih =>
      intro j hj hn
      rw [f_X9_meanTemperature_b11]
      have b := hb j hj
      have g2 := n_leP (a := kc S) (b := j) (by omega) (by omega)
      by_cases e : j = kc S
      · rw [if_pos (by rw [g2]; omega)]
        subst e
        have g := n_le0 (a := kc S) (by omega)
        unfold f_X9_meanTemperature_b41
        by_cases q : kc S = 0
        · rw [if_pos (by rw [g]; exact q)]
          refine m_fine0 ?_
          rw [if_pos (by decide)]
          exact h0 q
        · rw [if_neg (by rw [g]; exact q)]
          refine m_fine1 ?_
          rw [if_neg (by decide)]
          exact ⟨fl_n64 (hd_nan (by omega)), fl_n64 (hd_div (by omega) (by omega) (by omega)), h1 (by omega)⟩
      · rw [if_neg (by rw [g2]; omega)]
        refine m_k (by omega) (by omega) ?_
        rw [(hM.2 j (by omega)).2.2.1, bnd_p, bnd_p, nI_add, nI_add]
        exact ih (j + 1) (by omega) (by omega)
  exact loop 4096 0 (Nat.zero_le _) (by omega)
theorem l_meanTemperature (hp : p + 5 ≤ nn) (hn : nn ≤ 2560) (hS : ST I T t) (ht : t ≤ 8000) (hX : NX X28 p t) : f_L_law_b2891 xs nn X28 K (nI p) I L := by
  unfold f_L_law_b2891 f_L_meanTemperature
  have kw := hS.1.1.1.1
  have kw1 := kw.1
  refine s_mean hS.2.1.1.1 (fun q => ?_) (fun q => ?_)
  · rw [if_pos rfl]
    refine m_mean hS.2.2.1.1 kw (fun _ => ?_) (fun z => by omega)
    unfold f_X9_thrown
    dsimp only
    rw [up2_same, if_pos rfl, if_neg (by decide)]
    exact l_3520 hX (hS.th _) (by omega)
  · unfold wrD
    dsimp only
    have hb : sumN (ktmp T.h.k) (kc T.h.k) ≤ kc T.h.k * 200 := sumN_le fun i hi => (kw.2 i hi).2.2.2.1
    refine m_mean hS.2.2.1.1 kw (fun z => by omega) (fun _ => ?_)
    unfold f_X9_thrown
    dsimp only
    rw [up2_same, if_pos rfl, if_pos (by decide)]
    rw [if_pos (by rw [up2_same]; exact fl_self (hd_div (by omega) q (by omega)))]
    exact l_3520 hX (hS.th _) (by omega)
end Law
