/-! ===== programs: the class's commands ===== -/
/-- the commands read -/
def SC (I : IT) (cs : List (Nat × List Nat)) : Prop := ∀ i, i < cs.length → I 58 i = nI (cs.getD i (13, [])).1 ∧ ∀ a, a < (cs.getD i (13, [])).2.length → I 59 (4 * i + a) = nI ((cs.getD i (13, [])).2.getD a 0)
def okC (c : Nat × List Nat) : Prop := c.1 < 13 ∧ c.2.length = (kdN c.1).length ∧ ∀ u, u ∈ c.2 → u < 1000
theorem apC_l {cs ds : List (Nat × List Nat)} {i : Nat} (h : i < cs.length) : (cs ++ ds).getD i (13, []) = cs.getD i (13, []) := by
  simp only [List.getD_eq_getElem?_getD]
  rw [List.getElem?_append_left h]
theorem apC_r {cs ds : List (Nat × List Nat)} {i : Nat} (h : cs.length ≤ i) : (cs ++ ds).getD i (13, []) = ds.getD (i - cs.length) (13, []) := by
  simp only [List.getD_eq_getElem?_getD]
  rw [List.getElem?_append_right h]
theorem getC_mem {cs : List (Nat × List Nat)} {i : Nat} (h : i < cs.length) : cs.getD i (13, []) ∈ cs := by
  rw [List.getD_eq_getElem?_getD, List.getElem?_eq_getElem h, Option.getD_some]
  exact List.getElem_mem h
section C
variable {n : Nat} {g : Nat → Nat} {I : IT}
theorem progP_inr : ∀ {r j : Nat} {cs : List (Nat × List Nat)}, j ≤ n → progP n g r j = .inr cs → 1 ≤ cs.length ∧ j + 6 * cs.length ≤ n + 1 ∧ ∀ c, c ∈ cs → okC c
  | 0, j, cs, _, h => by cases h
  | r + 1, j, cs, hj, h => by
    unfold progP at h
    cases h1 : cmdP n g j with
    | inl e1 => rw [h1] at h; cases h
    | inr x =>
      obtain ⟨j1, v, vs⟩ := x
      rw [h1] at h
      dsimp only at h
      have a := cmdP_inr hj h1
      have ok : okC (v, vs) := ⟨a.1, a.2.2.2.1, a.2.2.2.2.1⟩
      split at h
      · next q =>
        cases h
        refine ⟨Nat.le_refl _, by simp only [List.length_cons, List.length_nil]; omega, fun c hc => ?_⟩
        rw [List.mem_singleton.mp hc]; exact ok
      · next q =>
        split at h
        · cases h2 : progP n g r (j1 + 1) with
          | inl e2 => rw [h2] at h; cases h
          | inr y =>
            rw [h2] at h
            cases h
            obtain ⟨b1, b2, b3⟩ := progP_inr (by omega) h2
            refine ⟨by simp only [List.length_cons]; omega, by simp only [List.length_cons]; omega, fun c hc => ?_⟩
            rcases List.mem_cons.mp hc with z | z
            · rw [z]; exact ok
            · exact b3 c z
        · cases h
theorem c_args {K : Int32 → IT → Prop} {w cc : Nat} {ks : List Nat} (hw : strT w = ks.map (fun k => if k = 3 then 110 else 100)) (hks : ∀ k, k ∈ ks → k = 1 ∨ k = 3) (hl4 : ks.length ≤ 4) (hcc : cc ≤ 11) : ∀ f a j I', a ≤ ks.length → ks.length - a < f → TX I' n g → I' 56 5 = nI j → I' 56 4 = nI cc → j ≤ n → PS I I' → (∀ e I2, argsP n g (ks.drop a) j = .inl e → PS I I2 → I2 56 5 = nI e → K (nI 0) I2) → (∀ j' vs I2, argsP n g (ks.drop a) j = .inr (j', vs) → PS I I2 → I2 56 5 = nI j' → I2 56 4 = nI cc → I2 58 = I' 58 → (∀ q, (q < 4 * cc + a ∨ 4 * cc + 4 ≤ q) → I2 59 q = I' 59 q) → (∀ i, i < vs.length → I2 59 (4 * cc + a + i) = nI (vs.getD i 0)) → K (nI 1) I2) → f_X2_parseCommand_b33 K f w (nI a) I' := by
  intro f
  induction f with
  | zero => intro a _ _ _ hf; omega
  | succ f ih =>
    intro a j I' ha hf hT h5 h4 hj hP h0 h1
    rw [f_X2_parseCommand_b33]
    unfold f_J0_length_8abf5 f_J0_charAt_5068e
    dsimp only
    rw [hw, List.length_map]
    have g1 := n_leP (a := ks.length) (b := a) (by omega) (by omega)
    by_cases e : a = ks.length
    · rw [if_pos (by rw [g1]; omega)]
      have ed : ks.drop a = [] := by rw [e, List.drop_length]
      rw [ed] at h1
      exact h1 j [] I' rfl hP h5 h4 rfl (fun _ _ => rfl) (fun i hi => by cases hi)
    · rw [if_neg (by rw [g1]; omega), inr_n (by omega), ix_n (by omega)]
      refine ⟨by omega, ?_⟩
      have hd := drop_cons (l := ks) (i := a) (by omega)
      have hka : ks.getD a 0 ∈ ks := by
        rw [List.getD_eq_getElem?_getD, List.getElem?_eq_getElem (show a < ks.length by omega), Option.getD_some]
        exact List.getElem_mem _
      have hk := hks _ hka
      have hm : (ks.map (fun k => if k = 3 then 110 else 100)).getD a 0 = if ks.getD a 0 = 3 then 110 else 100 := by
        rw [List.getD_eq_getElem?_getD, List.getD_eq_getElem?_getD, List.getElem?_map, List.getElem?_eq_getElem (show a < ks.length by omega)]
        rfl
      rw [hm]
      generalize ks.getD a 0 = k at *
      have go : f_X2_parseCommand_b56 (fun y0_0 y0_1 I0_ => f_X2_parseCommand_b33 K f y0_0 y0_1 I0_) K w (nI a) (nI k) I' := by
        unfold f_X2_parseCommand_b56
        rw [hd] at h0 h1
        refine c_accept (c := 32) hT h5 hj (by decide) (fun q => ?_) (fun q q2 => ?_)
        · rw [if_pos (by decide)]
          have ea : argP n g k j = .inl j := by unfold argP; rw [if_neg q]
          exact h0 j I' (by unfold argsP; rw [ea]) hP h5
        · rw [if_neg (by decide), up2_nej (show (4 : Nat) ≠ 5 by decide), h4, pk_mul, nI_add]
          have hP1 := hP.cur (nI (j + 1))
          have hT1 : TX (up2 I' 56 5 (nI (j + 1))) n g := hT.ps (PS.rf.cur _)
          have h51 : (up2 I' 56 5 (nI (j + 1))) 56 5 = nI (j + 1) := up2_same
          have h41 : (up2 I' 56 5 (nI (j + 1))) 56 4 = nI cc := by rw [up2_nej (by decide)]; exact h4
          have h58 : (up2 I' 56 5 (nI (j + 1))) 58 = I' 58 := up2_ne (by decide)
          have h59 : (up2 I' 56 5 (nI (j + 1))) 59 = I' 59 := up2_ne (by decide)
          generalize up2 I' 56 5 (nI (j + 1)) = J at *
          refine c_digits (b := cc * 4 + a) (by omega) (by omega) hT1 h51 (by omega) (fun z => ?_) (fun z I2 p2 e5 e59 e59' e58 e4 => ?_) (by omega)
          · rw [if_pos (by decide)]
            have ea : argP n g k j = .inl (j + 1) := by unfold argP; rw [if_pos ⟨q, q2⟩, if_neg z]
            refine h0 (j + 1) _ (by unfold argsP; rw [ea]) (hP1.row (Or.inr rfl) _ _) ?_
            rw [up2_nea (by decide)]; exact h51
          · rw [if_neg (by decide), bnd_p, nI_add]
            have ea : argP n g k j = .inr (dN n g k (j + 1) 0) := by unfold argP; rw [if_pos ⟨q, q2⟩, if_pos z]
            have dl := dN_le (n := n) (g := g) k (j + 1) 0 (by omega)
            generalize dN n g k (j + 1) 0 = D at *
            obtain ⟨j2, v⟩ := D
            dsimp only at e5 e59 dl
            have hP2 : PS I I2 := ⟨fun q a b c => (p2.1 q a b c).trans (hP1.1 q a b c), fun k a b => (p2.2 k a b).trans (hP1.2 k a b)⟩
            refine ih (a + 1) j2 I2 (by omega) (by omega) (hT1.ps p2) e5 (by rw [e4, h41]) dl.2 hP2 (fun e I3 he hp h5e => ?_) (fun j3 vs I3 he hp h53 h43 h583 hk3 hv3 => ?_)
            · exact h0 e I3 (by unfold argsP; rw [ea]; dsimp only; rw [he]) hp h5e
            · refine h1 j3 (v :: vs) I3 (by unfold argsP; rw [ea]; dsimp only; rw [he]) hp h53 h43 (by rw [h583, e58, h58]) (fun q hq => ?_) (fun i hi => ?_)
              · rw [hk3 q (by omega), e59' q (by omega), h59]
              · cases i with
                | zero =>
                  rw [Nat.add_zero, hk3 _ (by omega), show 4 * cc + a = cc * 4 + a by omega, e59]; rfl
                | succ i =>
                  simp only [List.length_cons] at hi
                  rw [show 4 * cc + a + (i + 1) = 4 * cc + (a + 1) + i by omega, hv3 i (by omega)]; rfl
      rcases hk with rfl | rfl
      · rw [if_neg (show ¬ (1 : Nat) = 3 by decide), if_neg (by decide)]; exact go
      · rw [if_pos (show (3 : Nat) = 3 from rfl), if_pos rfl]; exact go
theorem c_cmd {K : Int32 → IT → Prop} {cc j : Nat} (hT : TX I n g) (hg : ∀ j, n ≤ j → g j = 0) (h5 : I 56 5 = nI j) (h4 : I 56 4 = nI cc) (hcc : cc ≤ 11) (hj : j ≤ n) (h0 : ∀ e I2, cmdP n g j = .inl e → PS I I2 → I2 56 5 = nI e → K (nI 0) I2) (h1 : ∀ j' v vs I2, cmdP n g j = .inr (j', v, vs) → PS I I2 → I2 56 5 = nI j' → I2 56 4 = nI cc → (∀ q, q ≠ cc → I2 58 q = I 58 q) → I2 58 cc = nI v → (∀ q, (q < 4 * cc ∨ 4 * cc + 4 ≤ q) → I2 59 q = I 59 q) → (∀ i, i < vs.length → I2 59 (4 * cc + i) = nI (vs.getD i 0)) → K (nI 1) I2) : f_X2_parseCommand I K := by
  unfold f_X2_parseCommand
  have ch := ch_le (g j) (g (j + 1))
  refine c_word hT hg hj h5 (fun q => ?_) (fun q q2 => ?_) (fun q q2 => ?_)
  · rw [if_pos rfl]
    exact h0 j _ (by unfold cmdP; rw [if_pos q]) (PS.rf.cur _) up2_same
  · rw [if_pos rfl]
    exact h0 _ _ (by unfold cmdP; rw [if_neg q, if_neg q2]) (PS.rf.cur _) up2_same
  · have ec : cmdP n g j = (match argsP n g (kdN (chN (g j) (g (j + 1)))) (j + (wdN (chN (g j) (g (j + 1)))).length) with
        | .inl e => .inl e
        | .inr (j', vs) => .inr (j', chN (g j) (g (j + 1)), vs)) := by unfold cmdP; rw [if_neg q, if_pos q2]; cases argsP n g (kdN (chN (g j) (g (j + 1)))) (j + (wdN (chN (g j) (g (j + 1)))).length) <;> rfl
    have hm := mt_n (n := n) (g := g) (wdN (chN (g j) (g (j + 1)))) j hj
    generalize chN (g j) (g (j + 1)) = v at *
    have hn1 := n_m1 (a := v) (by omega)
    have kd := kd_13 ⟨v, by omega⟩
    have ks := kd_str ⟨v, by omega⟩
    dsimp only at kd ks
    rw [if_neg (by rw [hn1]; exact id), up2_nej (show (4 : Nat) ≠ 5 by decide), h4, inr_n (by omega), ix_n (by omega), wr_p, inr_n (by omega), ix_n (by omega)]
    refine ⟨by omega, by omega, ?_⟩
    have hP : PS I (up2 (up2 I 56 5 (nI (j + (wdN v).length))) 58 cc (nI v)) := (PS.rf.cur _).row (Or.inl rfl) _ _
    have e5 : (up2 (up2 I 56 5 (nI (j + (wdN v).length))) 58 cc (nI v)) 56 5 = nI (j + (wdN v).length) := by rw [up2_nea (by decide), up2_same]
    have e4 : (up2 (up2 I 56 5 (nI (j + (wdN v).length))) 58 cc (nI v)) 56 4 = nI cc := by rw [up2_nea (by decide), up2_nej (by decide)]; exact h4
    have e58 : ∀ q, q ≠ cc → (up2 (up2 I 56 5 (nI (j + (wdN v).length))) 58 cc (nI v)) 58 q = I 58 q := fun q hq => by rw [up2_nej hq, up2_nea (by decide)]
    have e58c : (up2 (up2 I 56 5 (nI (j + (wdN v).length))) 58 cc (nI v)) 58 cc = nI v := up2_same
    have e59 : (up2 (up2 I 56 5 (nI (j + (wdN v).length))) 58 cc (nI v)) 59 = I 59 := by rw [up2_ne (by decide), up2_ne (by decide)]
    generalize up2 (up2 I 56 5 (nI (j + (wdN v).length))) 58 cc (nI v) = J at *
    refine c_args (I := I) ks kd.1 kd.2.1 hcc 4096 0 (j + (wdN v).length) J (Nat.zero_le _) (by omega) (hT.ps hP) e5 e4 (by omega) hP (fun e I2 he hp he5 => ?_) (fun j' vs I2 he hp he5 he4 he58 hk hv => ?_)
    · rw [List.drop_zero] at he
      exact h0 e I2 (by rw [ec, he]) hp he5
    · rw [List.drop_zero] at he
      refine h1 j' v vs I2 (by rw [ec, he]) hp he5 he4 (fun q hq => by rw [he58]; exact e58 q hq) (by rw [he58]; exact e58c) (fun q hq => by rw [hk q (by omega), e59]) (fun i hi => ?_)
      have := hv i hi
      rw [Nat.add_zero] at this
      exact this
theorem c_parse {K : Int32 → IT → Prop} (hT : TX I n g) (hg : ∀ j, n ≤ j → g j = 0) (h0 : ∀ e I2, progP n g 11 0 = .inl e → PS I I2 → I2 56 5 = nI e → K (nI 0) I2) (h1 : ∀ cs I2, progP n g 11 0 = .inr cs → PS I I2 → I2 56 4 = nI cs.length → SC I2 cs → K (nI 1) I2) : f_X2_parse I K := by
  have t2 := hT.2.1
  have loop : ∀ f r j ps I', r < f → r + ps.length = 11 → 6 * ps.length ≤ j → j ≤ n → PS I I' → I' 56 5 = nI j → I' 56 4 = nI ps.length → SC I' ps → (∀ c, c ∈ ps → c.2.length ≤ 4) → (∀ e I2, progP n g r j = .inl e → PS I I2 → I2 56 5 = nI e → K (nI 0) I2) → (∀ cs I2, progP n g r j = .inr cs → PS I I2 → I2 56 4 = nI (ps ++ cs).length → SC I2 (ps ++ cs) → K (nI 1) I2) → f_X2_parse_b10 K f I' := by
    intro f
    induction f with
    | zero => intro r _ _ _ hf; omega
    | succ f ih =>
      intro r j ps I' hf hr h6 hj hP e5 e4 hS hL k0 k1
      cases r with
      | zero => omega
      | succ r =>
        rw [f_X2_parse_b10, e4]
        have g1 := n_leP (a := 12) (b := ps.length) (by omega) (by omega)
        rw [if_neg (by rw [g1]; omega)]
        have hT' := hT.ps hP
        refine c_cmd (cc := ps.length) hT' hg e5 e4 (by omega) hj (fun e I2 he hp h5e => ?_) (fun j' v vs I2 he hp f5 f4 f58 f58c f59 fv => ?_)
        · rw [if_pos (by decide)]
          exact k0 e I2 (by unfold progP; rw [he]) ⟨fun q a b c => (hp.1 q a b c).trans (hP.1 q a b c), fun k a b => (hp.2 k a b).trans (hP.2 k a b)⟩ h5e
        · rw [if_neg (by decide), f4, wr_p, nI_add, up2_nej (show (5 : Nat) ≠ 4 by decide), up2_nej (show (3 : Nat) ≠ 4 by decide), f5]
          have ca := cmdP_inr hj he
          have hP2 : PS I (up2 I2 56 4 (nI (ps.length + 1))) := PS.cnt ⟨fun q a b c => (hp.1 q a b c).trans (hP.1 q a b c), fun k a b => (hp.2 k a b).trans (hP.2 k a b)⟩ _
          have e3 : I2 56 3 = nI n := (hT'.ps hp).1
          rw [e3]
          have hSn : SC (up2 I2 56 4 (nI (ps.length + 1))) (ps ++ [(v, vs)]) := by
            intro i hi
            rw [List.length_append] at hi
            have hi : i < ps.length + 1 := hi
            rw [up2_nea (by decide)]
            by_cases z : i = ps.length
            · rw [apC_r (by omega), z, Nat.sub_self]
              refine ⟨f58c, fun a ha => ?_⟩
              rw [up2_nea (by decide)]
              exact fv a ha
            · rw [apC_l (by omega), f58 i z]
              obtain ⟨s1, s2⟩ := hS i (by omega)
              refine ⟨s1, fun a ha => ?_⟩
              rw [up2_nea (by decide), f59 _ ?_]
              · exact s2 a ha
              · have hl := hL _ (getC_mem (cs := ps) (i := i) (by omega))
                left
                omega
          have hT2 := hT.ps hP2
          have g5 : (up2 I2 56 4 (nI (ps.length + 1))) 56 5 = nI j' := by rw [up2_nej (by decide)]; exact f5
          have g4 : (up2 I2 56 4 (nI (ps.length + 1))) 56 4 = nI (ps.length + 1) := up2_same
          generalize up2 I2 56 4 (nI (ps.length + 1)) = J at *
          have g2 := n_eqP (a := j') (b := n) (by omega) (by omega)
          by_cases q : j' = n
          · rw [if_pos (by rw [g2]; exact q)]
            exact k1 [(v, vs)] J (by unfold progP; rw [he]; dsimp only; rw [if_pos q]) hP2 (by rw [g4, List.length_append]; rfl) hSn
          · rw [if_neg (by rw [g2]; exact q)]
            refine c_accept (c := 59) hT2 g5 ca.2.2.1 (by decide) (fun z => ?_) (fun z z2 => ?_)
            · rw [if_pos (by decide)]
              exact k0 j' J (by unfold progP; rw [he]; dsimp only; rw [if_neg q, if_neg (fun y => z ⟨by omega, y⟩)]) hP2 g5
            · rw [if_neg (by decide)]
              have ep : progP n g (r + 1) j = (match progP n g r (j' + 1) with
                  | .inl e => .inl e
                  | .inr cs => .inr ((v, vs) :: cs)) := by rw [progP, he]; dsimp only; rw [if_neg q, if_pos z2]; cases progP n g r (j' + 1) <;> rfl
              refine ih r (j' + 1) (ps ++ [(v, vs)]) _ (by omega) (by rw [List.length_append]; show r + (ps.length + 1) = 11; omega) (by rw [List.length_append]; show 6 * (ps.length + 1) ≤ j' + 1; omega) (by omega) (hP2.cur _) up2_same (by rw [up2_nej (by decide), g4, List.length_append]; rfl) (fun i hi => ?_) (fun c hc => ?_) (fun e I3 y p3 y5 => ?_) (fun cs I3 y p3 y4 y5 => ?_)
              · rw [up2_nea (by decide)]
                obtain ⟨s1, s2⟩ := hSn i hi
                exact ⟨s1, fun a ha => by rw [up2_nea (by decide)]; exact s2 a ha⟩
              · rcases List.mem_append.mp hc with z | z
                · exact hL c z
                · rw [List.mem_singleton.mp z]
                  have k4 := (kd_13 ⟨v, ca.1⟩).2.1
                  have l4 := ca.2.2.2.1
                  dsimp only at k4 ⊢
                  omega
              · exact k0 e I3 (by rw [ep, y]) p3 y5
              · rw [List.append_assoc] at y4 y5
                exact k1 ((v, vs) :: cs) I3 (by rw [ep, y]) p3 y4 y5
  unfold f_X2_parse
  rw [wr_p, wr_p]
  refine loop 4096 11 0 [] _ (by decide) rfl (Nat.le_refl _) (Nat.zero_le _) ((PS.rf.cur _).cnt _) (by rw [up2_nej (by decide), up2_same]) up2_same (fun i hi => by cases hi) (fun c hc => by cases hc) h0 (fun cs I2 a b c d => h1 cs I2 a b c d)
end C
