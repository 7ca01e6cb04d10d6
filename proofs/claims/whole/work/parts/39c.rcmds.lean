section R
variable {n : Nat} {g : Nat → Nat} {I : IT}
theorem r_pick {J : IT} {K : IT → Prop} {X : Int32 → Int32 → IT → Prop} {f j : Nat} {v1 : Int32} (hX : RX J n g) (hg : ∀ j, n ≤ j → g j = 0) (h1 : chN (g j) (g (j + 1)) ≠ 13 → X v1 (nI (g j)) J) (h0 : chN (g j) (g (j + 1)) = 13 → K (up2 J 190 10 (J 190 9))) : f_X9_command_b24 X K (f + 1) v1 (sgN n g j) (nI 5) J := by
  rw [f_X9_command_b24, if_pos (by decide)]
  by_cases q : chN (g j) (g (j + 1)) = 13
  · have h0 := h0 q
    have no : ∀ u : Fin 13, ¬ sgN n g j = nI ((wdN u.val).headD 0) := fun u z => by
      have hu : (wdN u.val).headD 0 < 128 := by
        have hl := (kd_13 u).2.2.2.1
        cases hw : wdN u.val with
        | nil => decide
        | cons c w => exact wd_lt u c (by rw [hw]; exact List.mem_cons_self ..)
      rw [sg_eq hX.2.2.2 hu] at z
      have := ch_h13 u (g (j + 1))
      rw [← z.2] at this
      exact this q
    rw [if_neg (show ¬ sgN n g j = nI 107 from no ⟨0, by decide⟩), if_neg (show ¬ sgN n g j = nI 102 from no ⟨1, by decide⟩), if_neg (show ¬ sgN n g j = nI 98 from no ⟨2, by decide⟩), if_neg (show ¬ sgN n g j = nI 111 from no ⟨3, by decide⟩), if_neg (show ¬ sgN n g j = nI 99 from no ⟨4, by decide⟩), if_neg (show ¬ sgN n g j = nI 115 from no ⟨5, by decide⟩), if_neg (show ¬ sgN n g j = nI 119 from no ⟨6, by decide⟩), if_neg (show ¬ sgN n g j = nI 109 from no ⟨8, by decide⟩), if_neg (show ¬ sgN n g j = nI 108 from no ⟨10, by decide⟩), if_neg (show ¬ sgN n g j = nI 97 from no ⟨11, by decide⟩), wr_p]
    exact h0
  · have h9 := h1 q
    clear h1 h0
    have hj := (ch_best (n := n) hg q).1
    have hh := ch_head q
    have ch := ch_le (g j) (g (j + 1))
    have es : sgN n g j = nI (g j) := if_pos hj
    rw [es]
    generalize chN (g j) (g (j + 1)) = v at *
    generalize g j = x at *
    rcases (show v = 0 ∨ v = 1 ∨ v = 2 ∨ v = 3 ∨ v = 4 ∨ v = 5 ∨ v = 6 ∨ v = 7 ∨ v = 8 ∨ v = 9 ∨ v = 10 ∨ v = 11 ∨ v = 12 by omega) with rfl | rfl | rfl | rfl | rfl | rfl | rfl | rfl | rfl | rfl | rfl | rfl | rfl
    · have hx : x = 107 := hh
      rw [hx] at h9 ⊢
      rw [if_pos rfl]; exact h9
    · have hx : x = 102 := hh
      rw [hx] at h9 ⊢
      rw [if_neg (by decide), if_pos rfl]; exact h9
    · have hx : x = 98 := hh
      rw [hx] at h9 ⊢
      iterate 2 rw [if_neg (by decide)]
      rw [if_pos rfl]; exact h9
    · have hx : x = 111 := hh
      rw [hx] at h9 ⊢
      iterate 3 rw [if_neg (by decide)]
      rw [if_pos rfl]; exact h9
    · have hx : x = 99 := hh
      rw [hx] at h9 ⊢
      iterate 4 rw [if_neg (by decide)]
      rw [if_pos rfl]; exact h9
    · have hx : x = 115 := hh
      rw [hx] at h9 ⊢
      iterate 5 rw [if_neg (by decide)]
      rw [if_pos rfl]; exact h9
    · have hx : x = 119 := hh
      rw [hx] at h9 ⊢
      iterate 6 rw [if_neg (by decide)]
      rw [if_pos rfl]; exact h9
    · have hx : x = 115 := hh
      rw [hx] at h9 ⊢
      iterate 5 rw [if_neg (by decide)]
      rw [if_pos rfl]; exact h9
    · have hx : x = 109 := hh
      rw [hx] at h9 ⊢
      iterate 7 rw [if_neg (by decide)]
      rw [if_pos rfl]; exact h9
    · have hx : x = 99 := hh
      rw [hx] at h9 ⊢
      iterate 4 rw [if_neg (by decide)]
      rw [if_pos rfl]; exact h9
    · have hx : x = 108 := hh
      rw [hx] at h9 ⊢
      iterate 8 rw [if_neg (by decide)]
      rw [if_pos rfl]; exact h9
    · have hx : x = 97 := hh
      rw [hx] at h9 ⊢
      iterate 9 rw [if_neg (by decide)]
      rw [if_pos rfl]; exact h9
    · have hx : x = 99 := hh
      rw [hx] at h9 ⊢
      iterate 4 rw [if_neg (by decide)]
      rw [if_pos rfl]; exact h9
theorem r_cmd {K : IT → Prop} {cc j : Nat} (hX : RX I n g) (hg : ∀ j, n ≤ j → g j = 0) (ho : rOk I j) (hj : j ≤ n) (h14 : I 190 14 = nI cc) (hcc : cc ≤ 11) (h0 : ∀ e I2, cmdP n g j = .inl e → RS I I2 → rEr I2 e → K I2) (h1 : ∀ j' v vs I2, cmdP n g j = .inr (j', v, vs) → RS I I2 → rOk I2 j' → I2 190 14 = nI (cc + 1) → (∀ q, q < 5 * cc → I2 194 q = I 194 q) → I2 194 (5 * cc) = nI (ltN v) → (∀ i, i < vs.length → I2 194 (5 * cc + 1 + i) = nI (vs.getD i 0)) → K I2) : f_X9_command I K := by
  have ch := ch_le (g j) (g (j + 1))
  -- behind the clearing of the five cells
  have body : ∀ J : IT, RS I J → rOk J j → J 190 14 = nI (cc + 1) → (∀ q, q < 5 * cc → J 194 q = I 194 q) → ∀ f, f_X9_command_b24 (fun y0_0 y0_1 I0_ => f_X9_command_b113 K y0_0 y0_1 I0_) K (f + 1) (nI (5 * cc)) (sgN n g j) (nI 5) J := by
    intro J hR hoJ h14J h194 f
    have hXJ := hX.rs hR
    refine r_pick hXJ hg (fun q => ?_) (fun q => ?_)
    · unfold f_X9_command_b113
      have hj2 := (ch_best (n := n) hg q).1
      rw [hoJ.1, nI_add, wr_p]
      have hR1 : RS I (up2 J 190 9 (nI (j + 1))) := hR.fld (Or.inl rfl) _
      have ho1 : rOk (up2 J 190 9 (nI (j + 1))) (j + 1) := ⟨up2_same, by rw [up2_nej (by decide)]; exact hoJ.2⟩
      have h141 : (up2 J 190 9 (nI (j + 1))) 190 14 = nI (cc + 1) := by rw [up2_nej (by decide)]; exact h14J
      have h1941 : ∀ q, q < 5 * cc → (up2 J 190 9 (nI (j + 1))) 194 q = I 194 q := fun q hq => by rw [up2_nea (by decide)]; exact h194 q hq
      have hX1 := hX.rs hR1
      generalize up2 J 190 9 (nI (j + 1)) = J1 at *
      have hv : chN (g j) (g (j + 1)) < 13 := by omega
      have kd := kd_13 ⟨chN (g j) (g (j + 1)), hv⟩
      have lt := lt_13 ⟨chN (g j) (g (j + 1)), hv⟩
      dsimp only at kd lt
      have hm := mt_n (n := n) (g := g) (wdN (chN (g j) (g (j + 1)))) j hj
      refine r_word (v := chN (g j) (g (j + 1))) hX1 hg hj2 ho1 rfl hv (fun z I' a b c d => ?_) (fun z I' a b c d => ?_)
      · have ec : cmdP n g j = (match argsP n g (kdN (chN (g j) (g (j + 1)))) (j + (wdN (chN (g j) (g (j + 1)))).length) with
            | .inl e => .inl e
            | .inr (j', vs) => .inr (j', chN (g j) (g (j + 1)), vs)) := by unfold cmdP; rw [if_neg q, if_pos z]; cases argsP n g (kdN (chN (g j) (g (j + 1)))) (j + (wdN (chN (g j) (g (j + 1)))).length) <;> rfl
        refine r_kind (by omega) hv fun I2 e2 => ?_
        have hR2 : RS I I2 := by rw [e2]; exact (hR1.tr a).row _ _
        have ho2 : rOk I2 (j + (wdN (chN (g j) (g (j + 1)))).length) := ⟨by rw [e2, up2_nea (by decide)]; exact b.1, by rw [e2, up2_nea (by decide)]; exact b.2⟩
        have f14 : I2 190 14 = nI (cc + 1) := by rw [e2, up2_nea (by decide), c]; exact h141
        have f194 : ∀ q, q < 5 * cc → I2 194 q = I 194 q := fun q hq => by rw [e2, up2_nej (by omega), d]; exact h1941 q hq
        have fk : I2 194 (5 * cc) = nI (ltN (chN (g j) (g (j + 1)))) := by rw [e2, up2_same]
        refine nu_ok (I0 := I2) (by omega) _ kd.1 (by omega) (hX.rs hR2) ho2 (by omega) RS.rf rfl (fun e I3 he a1 a2 a3 => ?_) (fun j' vs I3 he a1 a2 a3 a4 a5 => ?_)
        · exact h0 e I3 (by rw [ec, he]) (hR2.tr a1) a2
        · refine h1 j' _ vs I3 (by rw [ec, he]) (hR2.tr a1) a2 (by rw [a3]; exact f14) (fun q hq => by rw [a4 q (by omega)]; exact f194 q hq) (by rw [a4 _ (by omega)]; exact fk) (fun i hi => ?_)
          have := a5 i hi
          rw [Nat.add_zero] at this
          exact this
      · have ec : cmdP n g j = .inl (j + mtL n g (wdN (chN (g j) (g (j + 1)))) j) := by unfold cmdP; rw [if_neg q, if_neg z]
        have t2 := hX.2.1
        refine r_kind (by omega) hv fun I2 e2 => ?_
        have hR2 : RS I I2 := by rw [e2]; exact (hR1.tr a).row _ _
        refine nu_err (I0 := I2) (by omega) _ (e := j + mtL n g (wdN (chN (g j) (g (j + 1)))) j) (by omega) RS.rf ?_ (by omega) rfl fun I3 a1 a2 a3 => h0 _ I3 ec (hR2.tr a1) a2
        show I2 190 10 = _
        rw [e2, up2_nea (by decide)]; exact b
    · refine h0 j _ (by unfold cmdP; rw [if_pos q]) (hR.fld (Or.inr (Or.inl rfl)) _) ?_
      show (up2 J 190 10 _) 190 10 = nI j
      rw [up2_same]; exact hoJ.1
  -- the clearing
  have clr : ∀ f i J, i ≤ 5 → 5 - i < f → RS I J → rOk J j → J 190 14 = nI (cc + 1) → (∀ q, q < 5 * cc → J 194 q = I 194 q) → f_X9_command_b24 (fun y0_0 y0_1 I0_ => f_X9_command_b113 K y0_0 y0_1 I0_) K f (nI (5 * cc)) (sgN n g j) (nI i) J := by
    intro f
    induction f with
    | zero => intro i _ _ hf; omega
    | succ f ih =>
      intro i J hi hf hR hoJ h14J h194
      by_cases e : i = 5
      · rw [e]; exact body J hR hoJ h14J h194 f
      · rw [f_X9_command_b24]
        have g1 := n_leP (a := 5) (b := i) (by omega) (by omega)
        rw [if_neg (by rw [g1]; omega), nI_add, inr_n (by omega), ix_n (by omega), wr_p, bnd_p, nI_add]
        refine ⟨by omega, ih (i + 1) _ (by omega) (by omega) (hR.row _ _) ⟨by rw [up2_nea (by decide)]; exact hoJ.1, by rw [up2_nea (by decide)]; exact hoJ.2⟩ (by rw [up2_nea (by decide)]; exact h14J) (fun q hq => by rw [up2_nej (by omega)]; exact h194 q hq)⟩
  unfold f_X9_command
  rw [h14, pk_mul, bnd_p, wr_p, nI_add]
  have hR : RS I (up2 I 190 14 (nI (cc + 1))) := RS.rf.fld (Or.inr (Or.inr rfl)) _
  have ho1 : rOk (up2 I 190 14 (nI (cc + 1))) j := ⟨by rw [up2_nej (by decide)]; exact ho.1, by rw [up2_nej (by decide)]; exact ho.2⟩
  refine r_sign (hX.rs hR) ho1.1 hj ?_
  exact clr 4096 0 _ (by omega) (by omega) hR ho1 up2_same (fun q hq => up2_nea (by decide))
/-- the commands read, on the reference's side -/
def SR (I : IT) (cs : List (Nat × List Nat)) : Prop := ∀ i, i < cs.length → I 194 (5 * i) = nI (ltN (cs.getD i (13, [])).1) ∧ ∀ a, a < (cs.getD i (13, [])).2.length → I 194 (5 * i + 1 + a) = nI ((cs.getD i (13, [])).2.getD a 0)
theorem r_parse {K : IT → Prop} (hX : RX I n g) (hg : ∀ j, n ≤ j → g j = 0) (h0 : ∀ e I2, progP n g 11 0 = .inl e → RS I I2 → rEr I2 e → K I2) (h1 : ∀ cs I2, progP n g 11 0 = .inr cs → RS I I2 → I2 190 10 = -1 → I2 190 14 = nI cs.length → SR I2 cs → K I2) : f_X9_parse I K := by
  have t2 := hX.2.1
  have ge0 : ∀ e, e < 2147483648 → (0 ≤ nI e) = True := fun e he => n_ge0 he
  have loop : ∀ f r j ps I', r < f → r + ps.length = 11 → 6 * ps.length ≤ j → j ≤ n → RS I I' → rOk I' j → I' 190 14 = nI ps.length → SR I' ps → (∀ c, c ∈ ps → c.2.length ≤ 4) → (∀ e I2, progP n g r j = .inl e → RS I I2 → rEr I2 e → K I2) → (∀ cs I2, progP n g r j = .inr cs → RS I I2 → I2 190 10 = -1 → I2 190 14 = nI (ps ++ cs).length → SR I2 (ps ++ cs) → K I2) → f_X9_command I' (fun I5 => f_X9_parse_b19 (fun I0_ => f_X9_parse_b52 K I0_) K f I5) := by
    intro f
    induction f with
    | zero => intro r _ _ _ hf; omega
    | succ f ih =>
      intro r j ps I' hf hr h6 hj hR ho h14 hS hL k0 k1
      cases r with
      | zero => omega
      | succ r =>
        have hX' := hX.rs hR
        refine r_cmd (cc := ps.length) hX' hg ho hj h14 (by omega) (fun e I2 he r2 e2 => ?_) (fun j' v vs I2 he r2 o2 f14 f194 fk fv => ?_)
        · have eb := cmdP_inl hj he
          have g0 := ge0 e (by omega)
          rw [f_X9_parse_b19, e2, if_pos (by rw [g0]; trivial)]
          unfold f_X9_parse_b52
          rw [e2, if_pos (by rw [g0]; trivial)]
          exact k0 e I2 (by unfold progP; rw [he]) (hR.tr r2) e2
        · have ca := cmdP_inr hj he
          have hR2 := hR.tr r2
          have hX2 := hX.rs hR2
          have hSn : SR I2 (ps ++ [(v, vs)]) := by
            intro i hi
            rw [List.length_append] at hi
            have hi : i < ps.length + 1 := hi
            by_cases z : i = ps.length
            · rw [apC_r (by omega), z, Nat.sub_self]
              exact ⟨fk, fun a ha => fv a ha⟩
            · rw [apC_l (by omega), f194 _ (by omega)]
              obtain ⟨s1, s2⟩ := hS i (by omega)
              refine ⟨s1, fun a ha => ?_⟩
              have hl := hL _ (getC_mem (cs := ps) (i := i) (by omega))
              rw [f194 _ (by omega)]
              exact s2 a ha
          rw [f_X9_parse_b19, o2.2, if_neg (by decide)]
          refine r_sign hX2 o2.1 ca.2.2.1 ?_
          have es := sg_eq (n := n) (j := j') (c := 59) hX2.2.2.2 (by decide)
          by_cases q : j' = n
          · rw [if_neg (by rw [es]; omega)]
            unfold f_X9_parse_b52
            have g1 := n_leP (a := n) (b := j') (by omega) (by omega)
            rw [o2.2, if_neg (by decide), hX2.1, o2.1, if_pos (by rw [g1]; omega)]
            exact k1 [(v, vs)] I2 (by unfold progP; rw [he]; dsimp only; rw [if_pos q]) hR2 o2.2 (by rw [f14, List.length_append]; rfl) hSn
          · by_cases z : g j' = 59
            · rw [if_pos (by rw [es]; exact ⟨by omega, z⟩), o2.1, nI_add, wr_p]
              have ep : progP n g (r + 1) j = (match progP n g r (j' + 1) with
                  | .inl e => .inl e
                  | .inr cs => .inr ((v, vs) :: cs)) := by rw [progP, he]; dsimp only; rw [if_neg q, if_pos z]; cases progP n g r (j' + 1) <;> rfl
              refine ih r (j' + 1) (ps ++ [(v, vs)]) _ (by omega) (by rw [List.length_append]; show r + (ps.length + 1) = 11; omega) (by rw [List.length_append]; show 6 * (ps.length + 1) ≤ j' + 1; omega) (by omega) (hR2.fld (Or.inl rfl) _) ⟨up2_same, by rw [up2_nej (by decide)]; exact o2.2⟩ (by rw [up2_nej (by decide), f14, List.length_append]; rfl) (fun i hi => ?_) (fun c hc => ?_) (fun e I3 y p3 y5 => ?_) (fun cs I3 y p3 y4 y5 y6 => ?_)
              · rw [up2_nea (by decide)]
                obtain ⟨s1, s2⟩ := hSn i hi
                exact ⟨s1, fun a ha => by rw [up2_nea (by decide)]; exact s2 a ha⟩
              · rcases List.mem_append.mp hc with z | z
                · exact hL c z
                · rw [List.mem_singleton.mp z]
                  have k4 := (kd_13 ⟨v, ca.1⟩).2.1
                  have l4 := ca.2.2.2.1
                  dsimp only at k4 ⊢
                  omega
              · exact k0 e I3 (by rw [ep, y]) p3 y5
              · rw [List.append_assoc] at y5 y6
                exact k1 ((v, vs) :: cs) I3 (by rw [ep, y]) p3 y4 y5 y6
            · rw [if_neg (by rw [es]; exact fun y => z y.2)]
              unfold f_X9_parse_b52
              have g1 := n_leP (a := n) (b := j') (by omega) (by omega)
              rw [o2.2, if_neg (by decide), hX2.1, o2.1, if_neg (by rw [g1]; omega), wr_p]
              exact k0 j' _ (by unfold progP; rw [he]; dsimp only; rw [if_neg q, if_neg z]) (hR2.fld (Or.inr (Or.inl rfl)) _) up2_same
  unfold f_X9_parse
  rw [wr_p, wr_p, wr_p]
  exact loop 4096 11 0 [] _ (by decide) rfl (Nat.le_refl _) (Nat.zero_le _) (((RS.rf.fld (Or.inl rfl) _).fld (Or.inr (Or.inl rfl)) _).fld (Or.inr (Or.inr rfl)) _) ⟨by rw [up2_nej (by decide), up2_nej (by decide), up2_same], by rw [up2_nej (by decide), up2_same]⟩ up2_same (fun i hi => by cases hi) (fun c hc => by cases hc) h0 (fun cs I2 a b c d e => h1 cs I2 a b c d e)
end R
