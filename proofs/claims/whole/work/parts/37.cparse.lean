/-! ===== programs: the class's parser ===== -/
/-- what parsing changes: of the input its cursor (5) and count (4), its rows 58, 59 -/
def PS (I0 I : IT) : Prop := (∀ q, q ≠ 56 → q ≠ 58 → q ≠ 59 → I q = I0 q) ∧ ∀ k, k ≠ 4 → k ≠ 5 → I 56 k = I0 56 k
theorem PS.rf {I : IT} : PS I I := ⟨fun _ _ _ _ => rfl, fun _ _ _ => rfl⟩
theorem PS.cur {I0 I : IT} (h : PS I0 I) (v : Int32) : PS I0 (up2 I 56 5 v) := ⟨fun q a b c => by rw [up2_ne a]; exact h.1 q a b c, fun k a b => by rw [up2_nej b]; exact h.2 k a b⟩
theorem PS.cnt {I0 I : IT} (h : PS I0 I) (v : Int32) : PS I0 (up2 I 56 4 v) := ⟨fun q a b c => by rw [up2_ne a]; exact h.1 q a b c, fun k a b => by rw [up2_nej a]; exact h.2 k a b⟩
theorem PS.row {I0 I : IT} (h : PS I0 I) {r : Nat} (hr : r = 58 ∨ r = 59) (i : Nat) (v : Int32) : PS I0 (up2 I r i v) := ⟨fun q a b c => by rw [up2_ne (by omega)]; exact h.1 q a b c, fun k a b => by rw [up2_nea (by omega)]; exact h.2 k a b⟩
/-- the text: n letters -/
def TX (I : IT) (n : Nat) (g : Nat → Nat) : Prop := I 56 3 = nI n ∧ n ≤ 60 ∧ (∀ j, j < n → I 57 j = nI (g j)) ∧ ∀ j, g j < 128
theorem TX.ps {I0 I : IT} {n : Nat} {g : Nat → Nat} (h : TX I0 n g) (p : PS I0 I) : TX I n g := ⟨by rw [p.2 3 (by decide) (by decide)]; exact h.1, h.2.1, fun j hj => by rw [p.1 57 (by decide) (by decide) (by decide)]; exact h.2.2.1 j hj, h.2.2.2⟩
theorem drop_cons {l : List Nat} {i : Nat} (h : i < l.length) : l.drop i = l.getD i 0 :: l.drop (i + 1) := by
  rw [List.drop_eq_getElem_cons h, List.getD_eq_getElem?_getD, List.getElem?_eq_getElem h, Option.getD_some]
section C
variable {n : Nat} {g : Nat → Nat} {I : IT}
theorem c_match {K : Int32 → Prop} {w j : Nat} {l : List Nat} (hT : TX I n g) (hj : j ≤ n) (h5 : I 56 5 = nI j) (hw : strT w = l) (hl : l.length ≤ 7) (hc : ∀ c, c ∈ l → c < 128) (h : K (nI (mtL n g l j))) : f_X2_matchedLength w I K := by
  obtain ⟨t1, t2, t3, t4⟩ := hT
  have loop : ∀ f i, i ≤ l.length → l.length - i < f → mtL n g l j = i + mtL n g (l.drop i) (j + i) → f_X2_matchedLength_b2 w I K f (nI i) := by
    intro f
    induction f with
    | zero => intro i _ hf; omega
    | succ f ih =>
      intro i hi hf he
      rw [f_X2_matchedLength_b2]
      unfold f_J0_length_8abf5 f_J0_charAt_5068e
      dsimp only
      rw [hw, t1, h5]
      have g1 := n_leP (a := l.length) (b := i) (by omega) (by omega)
      by_cases e : i = l.length
      · rw [if_pos (by rw [g1]; omega)]
        rw [e, List.drop_length] at he
        have he : mtL n g l j = l.length := he
        rw [e, ← he]; exact h
      · rw [if_neg (by rw [g1]; omega), nI_add]
        have hd := drop_cons (l := l) (i := i) (by omega)
        rw [hd, mtL] at he
        have g2 := n_leP (a := n) (b := j + i) (by omega) (by omega)
        by_cases q : j + i < n
        · rw [if_neg (by rw [g2]; omega), inr_n (by omega), inr_n (by omega), ix_n (by omega), ix_n (by omega), t3 (j + i) q]
          have hci : l.getD i 0 < 128 := hc _ (by
            rw [List.getD_eq_getElem?_getD, List.getElem?_eq_getElem (show i < l.length by omega), Option.getD_some]
            exact List.getElem_mem _)
          have hgj := t4 (j + i)
          have g3 := n_eqP (a := g (j + i)) (b := l.getD i 0) (by omega) (by omega)
          refine ⟨by omega, by omega, ?_⟩
          by_cases q2 : g (j + i) = l.getD i 0
          · rw [if_pos (by rw [g3]; exact q2), bnd_p, nI_add]
            rw [if_pos ⟨q, q2⟩] at he
            refine ih (i + 1) (by omega) (by omega) ?_
            rw [he, show j + (i + 1) = j + i + 1 by omega]; omega
          · rw [if_neg (by rw [g3]; exact q2)]
            rw [if_neg (fun z => q2 z.2)] at he
            have he : mtL n g l j = i := he
            rw [← he]; exact h
        · rw [if_pos (by rw [g2]; omega)]
          rw [if_neg (fun z => q z.1)] at he
          have he : mtL n g l j = i := he
          rw [← he]; exact h
  exact loop 4096 0 (Nat.zero_le _) (by omega) (by rw [List.drop_zero, Nat.add_zero, Nat.zero_add])
theorem wd_lt : ∀ v : Fin 13, ∀ c, c ∈ wdN v.val → c < 128 := by decide +kernel
/-- the word: verb v's, or none -/
theorem c_word {K : Int32 → IT → Prop} {j : Nat} (hT : TX I n g) (hg : ∀ j, n ≤ j → g j = 0) (hj : j ≤ n) (h5 : I 56 5 = nI j)
    (h0 : chN (g j) (g (j + 1)) = 13 → K (-1) (up2 I 56 5 (nI j)))
    (h1 : chN (g j) (g (j + 1)) ≠ 13 → mtL n g (wdN (chN (g j) (g (j + 1)))) j ≠ (wdN (chN (g j) (g (j + 1)))).length → K (-1) (up2 I 56 5 (nI (j + mtL n g (wdN (chN (g j) (g (j + 1)))) j))))
    (h2 : chN (g j) (g (j + 1)) ≠ 13 → mtL n g (wdN (chN (g j) (g (j + 1)))) j = (wdN (chN (g j) (g (j + 1)))).length → K (nI (chN (g j) (g (j + 1)))) (up2 I 56 5 (nI (j + (wdN (chN (g j) (g (j + 1)))).length)))) : f_X2_parseWord I K := by
  have t2 := hT.2.1
  have ch := ch_le (g j) (g (j + 1))
  -- the others
  have oth : ∀ u, u < 13 → u ≠ chN (g j) (g (j + 1)) → mtL n g (wdN u) j ≤ 1 ∧ mtL n g (wdN u) j < (wdN u).length ∧ (chN (g j) (g (j + 1)) = 13 → mtL n g (wdN u) j = 0) := by
    intro u hu hne
    by_cases q : chN (g j) (g (j + 1)) = 13
    · have hl := (kd_13 ⟨u, hu⟩).2.2.2.1
      dsimp only at hl
      have hz : mtL n g (wdN u) j = 0 := by
        cases hw : wdN u with
        | nil => rfl
        | cons c w =>
          refine mt_ne0 fun hc => ?_
          have : chN (g j) (g (j + 1)) ≠ 13 := by
            rw [hc]
            have e : c = (wdN u).headD 0 := by rw [hw]; rfl
            rw [e]
            exact (show ∀ u : Fin 13, ∀ b, chN ((wdN u.val).headD 0) b ≠ 13 from ch_h13) ⟨u, hu⟩ _
          exact this q
      exact ⟨by omega, by omega, fun _ => hz⟩
    · obtain ⟨a, b⟩ := (ch_best hg q).2.2 u hu hne
      exact ⟨a, b, fun z => absurd z q⟩
  have loop : ∀ f v m, v ≤ 13 → 13 - v < f → m ≤ 60 → (v ≤ chN (g j) (g (j + 1)) → m ≤ 1 ∧ (chN (g j) (g (j + 1)) = 13 → m = 0)) → (chN (g j) (g (j + 1)) < v → m = mtL n g (wdN (chN (g j) (g (j + 1)))) j ∧ mtL n g (wdN (chN (g j) (g (j + 1)))) j ≠ (wdN (chN (g j) (g (j + 1)))).length) → f_X2_parseWord_b4 K f (nI m) (nI v) I := by
    intro f
    induction f with
    | zero => intro v m _ hf; omega
    | succ f ih =>
      intro v m hv hf hm h3 h4
      rw [f_X2_parseWord_b4]
      have g1 := n_leP (a := 13) (b := v) (by omega) (by omega)
      by_cases e : v = 13
      · rw [if_pos (by rw [g1]; omega), wr_p, h5, nI_add]
        by_cases q : chN (g j) (g (j + 1)) = 13
        · have := (h3 (by omega)).2 q
          rw [this]; exact h0 q
        · obtain ⟨a, b⟩ := h4 (by omega)
          rw [a]; exact h1 q b
      · rw [if_neg (by rw [g1]; omega), inr_n (by omega), ix_n (by omega)]
        refine ⟨by omega, ?_⟩
        have hw := wd_str ⟨v, by omega⟩
        have hk := kd_13 ⟨v, by omega⟩
        dsimp only at hw hk
        refine c_match hT hj h5 hw hk.2.2.2.2 (wd_lt ⟨v, by omega⟩) ?_
        unfold f_J0_length_8abf5
        dsimp only
        rw [hw]
        have hml := mt_le (n := n) (g := g) (wdN v) j
        have g2 := n_eqP (a := mtL n g (wdN v) j) (b := (wdN v).length) (by omega) (by omega)
        have hmx : (if nI m < nI (mtL n g (wdN v) j) then nI (mtL n g (wdN v) j) else nI m) = nI (max m (mtL n g (wdN v) j)) := max_nI (by omega) (by omega)
        by_cases q : mtL n g (wdN v) j = (wdN v).length
        · rw [if_pos (by rw [g2]; exact q), wr_p, h5, nI_add]
          have ev : v = chN (g j) (g (j + 1)) := by
            by_cases z : v = chN (g j) (g (j + 1))
            · exact z
            · have := (oth v (by omega) z).2.1; omega
          have h2 := h2 (by omega)
          rw [← ev] at h2
          rw [q]; exact h2 q
        · rw [if_neg (by rw [g2]; exact q), hmx, bnd_p, bnd_p, nI_add]
          by_cases z : v = chN (g j) (g (j + 1))
          · obtain ⟨a, b⟩ := h3 (by omega)
            have c1 := (ch_best (n := n) (j := j) hg (by omega)).2.1
            rw [← z] at c1
            refine ih (v + 1) _ (by omega) (by omega) (by omega) (fun y => by omega) (fun _ => ?_)
            rw [← z]
            exact ⟨by omega, q⟩
          · obtain ⟨o1, o2, o3⟩ := oth v (by omega) z
            refine ih (v + 1) _ (by omega) (by omega) (by omega) (fun y => ?_) (fun y => ?_)
            · obtain ⟨a, b⟩ := h3 (by omega)
              exact ⟨by omega, fun z => by have := b z; have := o3 z; omega⟩
            · obtain ⟨a, b⟩ := h4 (by omega)
              have c1 := (ch_best (n := n) (j := j) hg (by omega)).2.1
              exact ⟨by omega, b⟩
  exact loop 4096 0 0 (by omega) (by omega) (by omega) (fun _ => ⟨by omega, fun _ => rfl⟩) (fun z => by omega)
theorem c_accept {K : Int32 → IT → Prop} {j c : Nat} (hT : TX I n g) (h5 : I 56 5 = nI j) (hj : j ≤ n) (hc : c < 128) (h0 : ¬ (j < n ∧ g j = c) → K (nI 0) I) (h1 : j < n → g j = c → K (nI 1) (up2 I 56 5 (nI (j + 1)))) : f_X2_accept (nI c) I K := by
  obtain ⟨t1, t2, t3, t4⟩ := hT
  unfold f_X2_accept
  have g1 := n_leP (a := n) (b := j) (by omega) (by omega)
  rw [t1, h5]
  by_cases q : j < n
  · have hgj := t4 j
    have g2 := n_eqP (a := g j) (b := c) (by omega) (by omega)
    rw [if_neg (by rw [g1]; omega), inr_n (by omega), ix_n (by omega), t3 j q]
    refine ⟨by omega, ?_⟩
    by_cases q2 : g j = c
    · rw [if_pos (by rw [g2]; exact q2), wr_p, nI_add]; exact h1 q q2
    · rw [if_neg (by rw [g2]; exact q2)]; exact h0 (fun z => q2 z.2)
  · rw [if_pos (by rw [g1]; omega)]; exact h0 (fun z => q z.1)
theorem c_digits {K : Int32 → IT → Prop} {k j b : Nat} (hk : k ≤ 3) (hb : b < 48) (hT : TX I n g) (h5 : I 56 5 = nI j) (hj : j ≤ n) (h0 : ¬ dgP n g j → K (nI 0) (up2 I 59 b (nI 0))) (h1 : dgP n g j → ∀ I', PS I I' → I' 56 5 = nI (dN n g k j 0).1 → I' 59 b = nI (dN n g k j 0).2 → (∀ q, q ≠ b → I' 59 q = I 59 q) → I' 58 = I 58 → I' 56 4 = I 56 4 → K (nI 1) I') (hk1 : 1 ≤ k) : f_X2_parseDigits (nI k) (nI b) I K := by
  have t2 := hT.2.1
  have loop : ∀ f d j' v I', d ≤ k → k - d < f → (d = 0 → j' = j ∧ v = 0) → (0 < d → dgP n g j) → v < 100000 → j' ≤ n → PS I I' → I' 56 5 = nI j' → I' 59 = I 59 → I' 58 = I 58 → I' 56 4 = I 56 4 → v < 10 ^ d → dN n g k j 0 = dN n g (k - d) j' v → f_X2_parseDigits_b5 (nI k) (nI b) (fun y0_0 y0_1 I0_ => f_X2_parseDigits_b85 (nI k) (nI b) K y0_0 y0_1 I0_) K f (nI d) (nI v) I' := by
    intro f
    induction f with
    | zero => intro d _ _ _ _ hf; omega
    | succ f ih =>
      intro d j' v I' hd hf hz hp hv hj' hP h5' e59 e58 e4 hv2 he
      obtain ⟨t1', t2', t3', t4'⟩ := hT.ps hP
      -- the end
      have fin : dN n g k j 0 = (j', v) → f_X2_parseDigits_b85 (nI k) (nI b) K (nI d) (nI v) I' := by
        intro hx
        unfold f_X2_parseDigits_b85
        rw [inr_n (by omega), ix_n (by omega), wr_p]
        refine ⟨hb, ?_⟩
        have g1 := n_le0 (a := d) (by omega)
        by_cases q : d = 0
        · rw [if_pos (by rw [g1]; exact q)]
          obtain ⟨a, c⟩ := hz q
          have hnd : ¬ dgP n g j := fun z => by
            have hk2 : k = (k - 1) + 1 := by omega
            rw [hk2, dN, if_pos z] at hx
            have := (dN_le (n := n) (g := g) (k - 1) (j + 1) (10 * 0 + (g j - 48)) (by omega)).1
            rw [hx] at this
            dsimp only at this
            omega
          have h0 := h0 hnd
          have eI : up2 I' 59 b (nI v) = up2 I 59 b (nI 0) := by
            rw [c]
            have : I' = I := by
              funext x y
              by_cases x1 : x = 56
              · rw [x1]
                by_cases y1 : y = 4
                · rw [y1]; exact e4
                · by_cases y2 : y = 5
                  · rw [y2, h5', a]; exact h5.symm
                  · exact hP.2 y y1 y2
              · by_cases x2 : x = 58
                · rw [x2, e58]
                · by_cases x3 : x = 59
                  · rw [x3, e59]
                  · rw [hP.1 x x1 x2 x3]
            rw [this]
          rw [eI]; exact h0
        · rw [if_neg (by rw [g1]; exact q)]
          refine h1 (hp (by omega)) _ (hP.row (Or.inr rfl) _ _) ?_ ?_ ?_ ?_ ?_
          · rw [up2_nea (by decide), h5', hx]
          · rw [up2_same, hx]
          · intro q hq; rw [up2_nej hq, e59]
          · rw [up2_ne (by decide), e58]
          · rw [up2_nea (by decide), e4]
      rw [f_X2_parseDigits_b5]
      have g1 := n_leP (a := k) (b := d) (by omega) (by omega)
      by_cases e : d = k
      · rw [if_pos (by rw [g1]; omega)]
        rw [e, Nat.sub_self] at he
        exact fin he
      · rw [if_neg (by rw [g1]; omega), t1', h5']
        have g2 := n_leP (a := n) (b := j') (by omega) (by omega)
        have hkd : k - d = (k - (d + 1)) + 1 := by omega
        rw [hkd, dN] at he
        by_cases q : j' < n
        · have hgj := t4' j'
          have g3 := n_ltP (a := g j') (b := 48) (by omega) (by omega)
          have g4 := n_ltP (a := 57) (b := g j') (by omega) (by omega)
          rw [if_neg (by rw [g2]; omega), inr_n (by omega), ix_n (by omega), t3' j' q]
          refine ⟨by omega, ?_⟩
          by_cases q2 : g j' < 48
          · rw [if_pos (by rw [g3]; exact q2)]
            rw [if_neg (fun z => by have := z.2.1; omega)] at he
            exact fin he
          · rw [if_neg (by rw [g3]; exact q2)]
            by_cases q3 : 57 < g j'
            · rw [if_pos (by rw [g4]; exact q3)]
              rw [if_neg (fun z => by have := z.2.2; omega)] at he
              exact fin he
            · rw [if_neg (by rw [g4]; exact q3), bnd_p, wr_p, bnd_p, pk_mul, n_sub (by omega), nI_add, nI_add, nI_add]
              rw [if_pos ⟨q, by omega, by omega⟩] at he
              have hv3 : v * 10 + (g j' - 48) < 10 ^ (d + 1) := by rw [Nat.pow_succ]; omega
              have hv4 : (10 : Nat) ^ (d + 1) ≤ 10 ^ 3 := Nat.pow_le_pow_right (by decide) (by omega)
              refine ih (d + 1) (j' + 1) (v * 10 + (g j' - 48)) _ (by omega) (by omega) (fun z => by omega) (fun _ => ?_) (by omega) (by omega) (hP.cur _) up2_same (by rw [up2_ne (by decide), e59]) (by rw [up2_ne (by decide), e58]) (by rw [up2_nej (by decide), e4]) hv3 ?_
              · by_cases z : d = 0
                · obtain ⟨a, c⟩ := hz z
                  rw [← a]; exact ⟨q, by omega, by omega⟩
                · exact hp (by omega)
              · rw [he, Nat.mul_comm v 10]
        · rw [if_pos (by rw [g2]; omega)]
          rw [if_neg (fun z => q z.1)] at he
          exact fin he
  exact loop 4096 0 j 0 I (by omega) (by omega) (fun _ => ⟨rfl, rfl⟩) (fun z => by omega) (by omega) hj PS.rf h5 rfl rfl rfl (by decide) rfl
end C
