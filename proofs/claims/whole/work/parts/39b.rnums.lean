/-! ===== programs: the reference's commands ===== -/
section R
variable {n : Nat} {g : Nat → Nat} {I : IT}
theorem in_sg {I : IT} {j : Nat} {K : Int32 → Prop} (t4 : ∀ j, g j < 128) (h : K (zb (dgP n g j))) : f_X9_in (sgN n g j) (nI 48) (nI 57) I K := by
  refine m_in (by decide) (by decide) ?_
  have e : ((48 : Nat) ≤ (sgN n g j).toInt ∧ (sgN n g j).toInt ≤ (57 : Nat)) ↔ dgP n g j := by
    unfold sgN dgP
    have := t4 j
    by_cases q : j < n
    · rw [if_pos q, nI_toInt (by omega)]; omega
    · rw [if_neg q]
      have e1 : (-1 : Int32).toInt = -1 := rfl
      rw [e1]; omega
  by_cases q : dgP n g j
  · rw [zb_t q] at h; rw [zb_t (e.mpr q)]; exact h
  · rw [zb_f q] at h; rw [zb_f (fun z => q (e.mp z))]; exact h
theorem sg_dg {j : Nat} (h : dgP n g j) : sgN n g j = nI (g j) := if_pos h.1
theorem r_digits {K : Int32 → IT → Prop} {k : Nat} (hk : k ≤ 3) : ∀ f d j v I', d ≤ k → k - d < f → RX I' n g → rOk I' j → j ≤ n → v < 10 ^ d → RS I I' → I' 190 14 = I 190 14 → I' 194 = I 194 → (∀ I2, RS I I2 → rOk I2 (dN n g (k - d) j v).1 → I2 190 14 = I 190 14 → I2 194 = I 194 → K (nI (dN n g (k - d) j v).2) I2) → f_X9_number_b43 (nI k) K f (nI v) (nI d) I' := by
  intro f
  induction f with
  | zero => intro d _ _ _ _ hf; omega
  | succ f ih =>
    intro d j v I' hd hf hX ho hj hv hR h14 h194 hK
    rw [f_X9_number_b43]
    have g1 := n_leP (a := k) (b := d) (by omega) (by omega)
    by_cases e : d = k
    · rw [if_pos (by rw [g1]; omega)]
      rw [e, Nat.sub_self] at hK
      exact hK I' hR ho h14 h194
    · rw [if_neg (by rw [g1]; omega)]
      have hkd : k - d = (k - (d + 1)) + 1 := by omega
      rw [hkd, dN] at hK
      refine r_sign hX ho.1 hj ?_
      refine in_sg hX.2.2.2 ?_
      by_cases q : dgP n g j
      · have t4 := hX.2.2.2 j
        have t2 := hX.2.1
        rw [zb_t q, if_neg (by decide)]
        rw [if_pos q] at hK
        refine r_sign hX ho.1 hj ?_
        have hv3 : 10 * v + (g j - 48) < 10 ^ (d + 1) := by rw [Nat.pow_succ]; have := q.2.2; omega
        rw [sg_dg q, ho.1, pk_mul, nI_add, n_sub (by have := q.2.1; omega), bnd_p, wr_p, bnd_p, nI_add, nI_add, show 10 * v + g j - 48 = 10 * v + (g j - 48) by have := q.2.1; omega]
        exact ih (d + 1) (j + 1) _ _ (by omega) (by omega) (hX.rs (RS.rf.fld (Or.inl rfl) _)) ⟨up2_same, by rw [up2_nej (by decide)]; exact ho.2⟩ (by have := q.1; omega) hv3 (hR.fld (Or.inl rfl) _) (by rw [up2_nej (by decide)]; exact h14) (by rw [up2_ne (by decide)]; exact h194) hK
      · rw [zb_f q, if_pos (by decide)]
        rw [if_neg q] at hK
        exact hK I' hR ho h14 h194
theorem r_number {K : Int32 → IT → Prop} {k j : Nat} (hk : k = 1 ∨ k = 3) (hX : RX I n g) (ho : rOk I j) (hj : j ≤ n) (h0 : ∀ e I', argP n g k j = .inl e → RS I I' → rEr I' e → I' 190 14 = I 190 14 → I' 194 = I 194 → K (nI 0) I') (h1 : ∀ j' v I', argP n g k j = .inr (j', v) → RS I I' → rOk I' j' → I' 190 14 = I 190 14 → I' 194 = I 194 → K (nI v) I') : f_X9_number (nI k) I K := by
  have t2 := hX.2.1
  unfold f_X9_number
  refine r_needs (c := 32) hX ho hj (by decide) (fun q q2 => ?_) (fun q => ?_)
  · rw [show (up2 I 190 9 (nI (j + 1))) 190 10 = -1 by rw [up2_nej (by decide)]; exact ho.2, if_pos (by decide)]
    have hR : RS I (up2 I 190 9 (nI (j + 1))) := RS.rf.fld (Or.inl rfl) _
    have hX1 := hX.rs hR
    have ho1 : rOk (up2 I 190 9 (nI (j + 1))) (j + 1) := ⟨up2_same, by rw [up2_nej (by decide)]; exact ho.2⟩
    have h14 : (up2 I 190 9 (nI (j + 1))) 190 14 = I 190 14 := up2_nej (by decide)
    have h194 : (up2 I 190 9 (nI (j + 1))) 194 = I 194 := up2_ne (by decide)
    generalize up2 I 190 9 (nI (j + 1)) = J at *
    refine r_sign hX1 ho1.1 (by omega) ?_
    refine in_sg hX1.2.2.2 ?_
    by_cases z : dgP n g (j + 1)
    · rw [zb_t z, if_neg (by decide)]
      have ea : argP n g k j = .inr (dN n g k (j + 1) 0) := by unfold argP; rw [if_pos ⟨q, q2⟩, if_pos z]
      refine r_digits (I := I) (by omega) 4096 0 (j + 1) 0 J (Nat.zero_le _) (by omega) hX1 ho1 (by omega) (by decide) hR h14 h194 fun I2 a b c d => ?_
      rw [Nat.sub_zero] at b ⊢
      exact h1 _ _ I2 ea a b c d
    · rw [zb_f z, if_pos (by decide), ho1.1, wr_p]
      have ea : argP n g k j = .inl (j + 1) := by unfold argP; rw [if_pos ⟨q, q2⟩, if_neg z]
      exact h0 _ _ ea (hR.fld (Or.inr (Or.inl rfl)) _) up2_same (by rw [up2_nej (by decide)]; exact h14) (by rw [up2_ne (by decide)]; exact h194)
  · have hn := n_neg (a := j) (by omega)
    rw [up2_same, if_neg (by rw [hn]; exact id)]
    have ea : argP n g k j = .inl j := by unfold argP; rw [if_neg q]
    exact h0 _ _ ea (RS.rf.fld (Or.inr (Or.inl rfl)) _) up2_same (up2_nej (by decide)) (up2_ne (by decide))
theorem r_numErr {K : Int32 → IT → Prop} {k : Int32} {e : Nat} (he : rEr I e) (hb : e < 2147483648) (h : K (nI 0) I) : f_X9_number k I K := by
  unfold f_X9_number
  have hn := n_neg (a := e) hb
  refine r_noneed he hb ?_
  rw [he, if_neg (by rw [hn]; exact id)]
  exact h
/-- the arguments from place a on, into the cells to + 1 + a .. -/
def nuC (to : Nat) : List Nat → Nat → IT → (IT → Prop) → Prop
  | [], _, I, K => K I
  | k :: ks, a, I, K => f_X9_number (nI k) I (fun x I2 => inr (nI to + nI (a + 1)) 305 ∧ wr I2 194 (ix (nI to + nI (a + 1))) x fun I3 => nuC to ks (a + 1) I3 K)
theorem nu_err {to : Nat} (hto : to ≤ 300) : ∀ (ks : List Nat) {a : Nat} {I I0 : IT} {K : IT → Prop} {e : Nat}, a + ks.length ≤ 4 → RS I0 I → rEr I e → e < 2147483648 → I 190 14 = I0 190 14 → (∀ I2, RS I0 I2 → rEr I2 e → I2 190 14 = I0 190 14 → K I2) → nuC to ks a I K
  | [], _, I, _, _, _, _, hR, he, _, h14, h => h I hR he h14
  | k :: ks, a, I, I0, K, e, ha, hR, he, hb, h14, h => by
    simp only [List.length_cons] at ha
    show f_X9_number (nI k) I (fun x I2 => inr (nI to + nI (a + 1)) 305 ∧ wr I2 194 (ix (nI to + nI (a + 1))) x fun I3 => nuC to ks (a + 1) I3 K)
    refine r_numErr he hb ?_
    rw [nI_add, inr_n (by omega), ix_n (by omega), wr_p]
    refine ⟨by omega, nu_err hto ks (e := e) (by omega) (hR.row _ _) ?_ hb ?_ h⟩
    · show (up2 I 194 _ _) 190 10 = nI e
      rw [up2_nea (by decide)]; exact he
    · rw [up2_nea (by decide)]; exact h14
theorem nu_ok {to : Nat} (hto : to ≤ 300) : ∀ (ks : List Nat) {a j : Nat} {I I0 : IT} {K : IT → Prop}, (∀ k, k ∈ ks → k = 1 ∨ k = 3) → a + ks.length ≤ 4 → RX I n g → rOk I j → j ≤ n → RS I0 I → I 190 14 = I0 190 14 → (∀ e I2, argsP n g ks j = .inl e → RS I0 I2 → rEr I2 e → I2 190 14 = I0 190 14 → K I2) → (∀ j' vs I2, argsP n g ks j = .inr (j', vs) → RS I0 I2 → rOk I2 j' → I2 190 14 = I0 190 14 → (∀ q, (q < to + 1 + a ∨ to + 5 ≤ q) → I2 194 q = I 194 q) → (∀ i, i < vs.length → I2 194 (to + 1 + a + i) = nI (vs.getD i 0)) → K I2) → nuC to ks a I K
  | [], a, j, I, I0, K, _, _, _, ho, _, hR, h14, _, h1 => h1 j [] I rfl hR ho h14 (fun _ _ => rfl) (fun i hi => by cases hi)
  | k :: ks, a, j, I, I0, K, hk, ha, hX, ho, hj, hR, h14, h0, h1 => by
    simp only [List.length_cons] at ha
    have t2 := hX.2.1
    show f_X9_number (nI k) I (fun x I2 => inr (nI to + nI (a + 1)) 305 ∧ wr I2 194 (ix (nI to + nI (a + 1))) x fun I3 => nuC to ks (a + 1) I3 K)
    have kk := hk k (List.mem_cons_self ..)
    refine r_number kk hX ho hj (fun e I2 ea r2 e2 e14 e194 => ?_) (fun j' v I2 ea r2 o2 e14 e194 => ?_)
    · rw [nI_add, inr_n (by omega), ix_n (by omega), wr_p]
      have eb := argP_inl hj ea
      refine ⟨by omega, nu_err hto ks (e := e) (I0 := I0) (by omega) ((hR.tr r2).row _ _) ?_ (by omega) ?_ fun I3 a1 a2 a3 => ?_⟩
      · show (up2 I2 194 _ _) 190 10 = nI e
        rw [up2_nea (by decide)]; exact e2
      · rw [up2_nea (by decide), e14]; exact h14
      · exact h0 e I3 (by unfold argsP; rw [ea]) a1 a2 a3
    · rw [nI_add, inr_n (by omega), ix_n (by omega), wr_p]
      have ab := argP_inr kk ea
      refine ⟨by omega, nu_ok hto ks (I0 := I0) (fun k2 h2 => hk k2 (List.mem_cons_of_mem _ h2)) (by omega) ((hX.rs r2).rs (RS.rf.row _ _)) ⟨by rw [up2_nea (by decide)]; exact o2.1, by rw [up2_nea (by decide)]; exact o2.2⟩ (by omega) ((hR.tr r2).row _ _) (by rw [up2_nea (by decide), e14]; exact h14) (fun e I3 he a1 a2 a3 => ?_) (fun j2 vs I3 he a1 a2 a3 a4 a5 => ?_)⟩
      · exact h0 e I3 (by unfold argsP; rw [ea]; dsimp only; rw [he]) a1 a2 a3
      · refine h1 j2 (v :: vs) I3 (by unfold argsP; rw [ea]; dsimp only; rw [he]) a1 a2 a3 (fun q hq => ?_) (fun i hi => ?_)
        · rw [a4 q (by omega), up2_nej (by omega), e194]
        · cases i with
          | zero =>
            rw [Nat.add_zero, a4 _ (by omega), show to + 1 + a = to + (a + 1) by omega, up2_same]; rfl
          | succ i =>
            simp only [List.length_cons] at hi
            rw [show to + 1 + a + (i + 1) = to + 1 + (a + 1) + i by omega, a5 i (by omega)]; rfl
theorem lt_13 : ∀ v : Fin 13, ltN v.val < 128 := by decide +kernel
/-- behind the word: kind and arguments -/
theorem r_kind {K : IT → Prop} {to v : Nat} (hto : to ≤ 300) (hv : v < 13) (h : ∀ I2, I2 = up2 I 194 to (nI (ltN v)) → nuC to (kdN v) 0 I2 K) : (inr (nI to) 305 ∧ wr I 194 (ix (nI to)) (nI (ltN v)) fun I5 =>
  if nI (ltN v) = (nI 97) then (
    f_X9_number (nI 1) I5 (fun x6 I7 =>
    inr (nI to + (nI 1)) 305 ∧ (
    wr I7 194 (ix (nI to + (nI 1))) x6 fun I9 =>
    K I9)))
  else (
  if nI (ltN v) = (nI 98) then (
    f_X9_number (nI 1) I5 (fun x10 I11 =>
    inr (nI to + (nI 1)) 305 ∧ (
    wr I11 194 (ix (nI to + (nI 1))) x10 fun I13 =>
    f_X9_number (nI 1) I13 (fun x14 I15 =>
    inr (nI to + (nI 2)) 305 ∧ (
    wr I15 194 (ix (nI to + (nI 2))) x14 fun I17 =>
    K I17)))))
  else (
  if nI (ltN v) = (nI 102) then (
    f_X9_number (nI 1) I5 (fun x18 I19 =>
    inr (nI to + (nI 1)) 305 ∧ (
    wr I19 194 (ix (nI to + (nI 1))) x18 fun I21 =>
    f_X9_number (nI 3) I21 (fun x22 I23 =>
    inr (nI to + (nI 2)) 305 ∧ (
    wr I23 194 (ix (nI to + (nI 2))) x22 fun I25 =>
    K I25)))))
  else (
  if nI (ltN v) = (nI 111) then (
    f_X9_number (nI 1) I5 (fun x26 I27 =>
    inr (nI to + (nI 1)) 305 ∧ (
    wr I27 194 (ix (nI to + (nI 1))) x26 fun I29 =>
    f_X9_number (nI 1) I29 (fun x30 I31 =>
    inr (nI to + (nI 2)) 305 ∧ (
    wr I31 194 (ix (nI to + (nI 2))) x30 fun I33 =>
    f_X9_number (nI 3) I33 (fun x34 I35 =>
    inr (nI to + (nI 3)) 305 ∧ (
    wr I35 194 (ix (nI to + (nI 3))) x34 fun I37 =>
    f_X9_number (nI 1) I37 (fun x38 I39 =>
    inr (nI to + (nI 4)) 305 ∧ (
    wr I39 194 (ix (nI to + (nI 4))) x38 fun I41 =>
    K I41)))))))))
  else (
  if nI (ltN v) = (nI 115) then (
    K I5)
  else (
  if nI (ltN v) = (nI 122) then (
    K I5)
  else (
    f_X9_number (nI 3) I5 (fun x42 I43 =>
    inr (nI to + (nI 1)) 305 ∧ (
    wr I43 194 (ix (nI to + (nI 1))) x42 fun I45 =>
    K I45))))))))) := by
  rw [inr_n (by omega), ix_n (by omega), wr_p]
  refine ⟨by omega, ?_⟩
  have h := h _ rfl
  generalize up2 I 194 to (nI (ltN v)) = J at *
  rcases (show v = 0 ∨ v = 1 ∨ v = 2 ∨ v = 3 ∨ v = 4 ∨ v = 5 ∨ v = 6 ∨ v = 7 ∨ v = 8 ∨ v = 9 ∨ v = 10 ∨ v = 11 ∨ v = 12 by omega) with rfl | rfl | rfl | rfl | rfl | rfl | rfl | rfl | rfl | rfl | rfl | rfl | rfl
  · iterate 6 rw [if_neg (by decide)]
    exact h
  · iterate 2 rw [if_neg (by decide)]
    rw [if_pos (by decide)]; exact h
  · rw [if_neg (by decide), if_pos (by decide)]; exact h
  · iterate 3 rw [if_neg (by decide)]
    rw [if_pos (by decide)]; exact h
  · iterate 6 rw [if_neg (by decide)]
    exact h
  · iterate 4 rw [if_neg (by decide)]
    rw [if_pos (by decide)]; exact h
  · iterate 6 rw [if_neg (by decide)]
    exact h
  · iterate 6 rw [if_neg (by decide)]
    exact h
  · iterate 6 rw [if_neg (by decide)]
    exact h
  · iterate 6 rw [if_neg (by decide)]
    exact h
  · iterate 6 rw [if_neg (by decide)]
    exact h
  · rw [if_pos (by decide)]; exact h
  · iterate 5 rw [if_neg (by decide)]
    rw [if_pos (by decide)]; exact h
end R
