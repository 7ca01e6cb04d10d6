/-! ===== TeaHouse$Kettles over the state ===== -/
def KR (I : IT) (a : Nat) (S : KS) : Prop := KW S ∧ I a 5 = nI (kc S) ∧ (∀ k, k < kc S → I (a + 1) k = nI (kcap S k) ∧ I (a + 2) k = nI (kvol S k) ∧ I (a + 3) k = nI (ktmp S k) ∧ I (a + 4) k = nI (klev S k) ∧ I (a + 5) k = nI (kboi S k)) ∧ ∀ k, k < 4 → isZ (I (a + 5) k)
/-- what lies elsewhere doesn't matter -/
theorem KR.same {I I' : IT} {a : Nat} {S : KS} (h : KR I a S) (e : ∀ q, a ≤ q → q < a + 6 → I' q = I q) : KR I' a S := by
  obtain ⟨h1, h2, h3, h4⟩ := h
  have e0 := e a (by omega) (by omega)
  have e1 := e (a + 1) (by omega) (by omega)
  have e2 := e (a + 2) (by omega) (by omega)
  have e3 := e (a + 3) (by omega) (by omega)
  have e4 := e (a + 4) (by omega) (by omega)
  have e5 := e (a + 5) (by omega) (by omega)
  refine ⟨h1, by rw [e0]; exact h2, fun k hk => ?_, fun k hk => by rw [e5]; exact h4 k hk⟩
  rw [e1, e2, e3, e4, e5]; exact h3 k hk
section K
variable {I : IT} {a : Nat} {S : KS}
theorem s_has {K : Int32 → Prop} (hS : KR I a S) (x : Int32) (h : K (zb (0 ≤ x.toInt ∧ x.toInt < kc S))) : f_X3_has a x I K := by
  obtain ⟨⟨w1, w2⟩, hc, hv, hz⟩ := hS
  unfold f_X3_has
  rw [hc]
  simp (disch := omega) only [xz_lt, nx_le, xn_lt]
  repeat' split
  all_goals first | (rw [zb_t (by omega)] at h; exact h) | (rw [zb_f (by omega)] at h; exact h)
theorem s_rise {K : Int32 → Prop} {k : Nat} (hk : k < 4) (h : K (nI 3 * I (a + 4) k - nI 1)) : f_X3_rise a (nI k) I K := by
  unfold f_X3_rise
  simp (disch := omega) only [ix_n, inr_n]
  exact ⟨hk, h⟩
theorem s_heated {K : Int32 → Prop} (hS : KR I a S) {k : Nat} (hk : k < kc S) (h : K (nI (heatN (ktmp S k) (klev S k)))) : f_X3_heated a (nI k) I K := by
  obtain ⟨⟨w1, w2⟩, hc, hv, hz⟩ := hS
  obtain ⟨v1, v2, v3, v4, v5⟩ := hv k hk
  obtain ⟨u1, u2, u3, u4, u5, u6⟩ := w2 k hk
  unfold f_X3_heated
  simp (disch := omega) only [ix_n, inr_n]
  refine ⟨by omega, s_rise (by omega) ?_⟩
  rw [v3, v4, heat_eq u3 u4 u5]
  exact h
theorem KR.pass {I' : IT} (hS : KR I a S) {k : Nat} (hk : k < kc S) (he : I' = up2 (up2 (up2 I (a + 3) k (nI (tmpN S k))) (a + 5) k (nI (boiN S k))) (a + 2) k (nI (kvol S k) - nI (vapN S k))) : KR I' a (passK S k) ∧ Same I I' a 6 := by
  obtain ⟨⟨w1, w2⟩, hc, hv, hz⟩ := hS
  obtain ⟨v1, v2, v3, v4, v5⟩ := hv k hk
  obtain ⟨u1, u2, u3, u4, u5, u6⟩ := w2 k hk
  have b1 : boiN S k ≤ 1 := by unfold boiN; split <;> omega
  have b2 : 40 ≤ tmpN S k ∧ tmpN S k ≤ 200 := by unfold tmpN heatN; split <;> omega
  have b3 : vapN S k ≤ kvol S k := by unfold vapN; split <;> omega
  subst he
  rw [n_sub b3]
  refine ⟨⟨⟨w1, fun j hj => ?_⟩, by simp (disch := omega) only [up2_nea]; exact hc, fun j hj => ?_, fun j hj => ?_⟩, ((Same.rf.up (by omega) (by omega)).up (by omega) (by omega)).up (by omega) (by omega)⟩
  · obtain ⟨z1, z2, z3, z4, z5, z6⟩ := w2 j hj
    by_cases e : j = k
    · subst e; simp only [passK, kc_mk, kcap_mk, kvol_mk, ktmp_mk, klev_mk, kboi_mk, setN_at]; omega
    · simp only [passK, kc_mk, kcap_mk, kvol_mk, ktmp_mk, klev_mk, kboi_mk, setN_ne e]; omega
  · obtain ⟨z1, z2, z3, z4, z5⟩ := hv j hj
    by_cases e : j = k
    · subst e; simp (disch := omega) only [passK, kc_mk, kcap_mk, kvol_mk, ktmp_mk, klev_mk, kboi_mk, setN_at, up2_nea, up2_same]; exact ⟨z1, trivial, trivial, z4, trivial⟩
    · simp (disch := first | omega | assumption) only [passK, kc_mk, kcap_mk, kvol_mk, ktmp_mk, klev_mk, kboi_mk, setN_ne e, up2_nea, up2_nej]; exact ⟨z1, z2, z3, z4, z5⟩
  · by_cases e : j = k
    · subst e; simp (disch := omega) only [up2_nea, up2_same]; exact isZ_n b1
    · simp (disch := first | omega | assumption) only [up2_nea, up2_nej]; exact hz j hj
theorem s_passMinute {K : Int32 → IT → Prop} (hS : KR I a S) {k : Nat} (hk : k < kc S) (h : ∀ I', KR I' a (passK S k) → Same I I' a 6 → K (nI (vapN S k)) I') : f_X3_passMinute a (nI k) I K := by
  have hS0 := hS
  obtain ⟨⟨w1, w2⟩, hc, hv, hz⟩ := hS
  obtain ⟨v1, v2, v3, v4, v5⟩ := hv k hk
  obtain ⟨u1, u2, u3, u4, u5, u6⟩ := w2 k hk
  have b1 : boiN S k ≤ 1 := by unfold boiN; split <;> omega
  have b2 : 40 ≤ tmpN S k ∧ tmpN S k ≤ 200 := by unfold tmpN heatN; split <;> omega
  have fin := fun I' he => KR.pass (I' := I') hS0 hk he
  have part4 : f_X3_passMinute_b94 a (nI k) K (nI (vapN S k)) (up2 (up2 I (a + 3) k (nI (tmpN S k))) (a + 5) k (nI (boiN S k))) := by
    unfold f_X3_passMinute_b94
    simp (disch := omega) only [ix_n, inr_n, wr, up2_nea, v2]
    obtain ⟨f1, f2⟩ := fin _ rfl
    exact ⟨by omega, h _ f1 f2⟩
  have part3 : f_X3_passMinute_b65 a (nI k) K (nI (boiN S k)) (up2 I (a + 3) k (nI (tmpN S k))) := by
    unfold f_X3_passMinute_b65
    simp (disch := omega) only [ix_n, inr_n, wr, up2_nea, up2_same, v2, v4, n_eq0]
    refine ⟨by omega, ?_⟩
    split
    · have e : vapN S k = 0 := by unfold vapN; rw [if_neg (by omega)]
      rw [e] at part4; exact part4
    · rw [min_nI (by omega) (by omega)]
      have e : vapN S k = min (klev S k) (kvol S k) := by unfold vapN; rw [if_pos (by omega)]
      rw [e] at part4; exact part4
  have part2 : f_X3_passMinute_b24 a (nI k) K (nI (tmpN S k)) I := by
    unfold f_X3_passMinute_b24 f_X3_passMinute_b64
    simp (disch := omega) only [ix_n, inr_n, wr, up2_nea, up2_same, v2, v4, n_le0, n_eqP]
    refine ⟨by omega, ?_⟩
    have eb : boiN S k = if 0 < kvol S k ∧ tmpN S k = 200 ∧ 0 < klev S k then 1 else 0 := rfl
    repeat' split
    all_goals first | (rw [if_pos (by omega)] at eb; rw [eb] at part3; exact part3) | (rw [if_neg (by omega)] at eb; rw [eb] at part3; exact part3)
  unfold f_X3_passMinute
  simp (disch := omega) only [ix_n, inr_n, v2, n_eq0]
  refine ⟨by omega, ?_⟩
  have et : tmpN S k = if kvol S k = 0 then 40 else heatN (ktmp S k) (klev S k) := rfl
  split
  · next q => rw [if_pos q] at et; rw [et] at part2; exact part2
  · next q => rw [if_neg q] at et; rw [et] at part2; exact s_heated hS0 hk part2
theorem s_isAhead {K : Int32 → Prop} (hS : KR I a S) {i j : Nat} (hi : i < kc S) (hj : j < kc S) (h : K (if aheadK S i j then nI 1 else nI 0)) : f_X3_isAhead a (nI i) (nI j) I K := by
  obtain ⟨⟨w1, w2⟩, hc, hv, hz⟩ := hS
  obtain ⟨v1, v2, v3, v4, v5⟩ := hv i hi
  obtain ⟨y1, y2, y3, y4, y5⟩ := hv j hj
  have b1 := w2 i hi
  have b2 := w2 j hj
  unfold f_X3_isAhead
  simp (disch := omega) only [ix_n, inr_n, v2, v3, y2, y3, n_eqP, n_leP]
  refine ⟨by omega, by omega, ?_⟩
  repeat' split
  all_goals first | (rw [if_pos (show aheadK S i j by unfold aheadK; omega)] at h; exact h) | (rw [if_neg (show ¬ aheadK S i j by unfold aheadK; omega)] at h; exact h)
theorem s_rankOf {K : Int32 → Prop} (hS : KR I a S) {k : Nat} (hk : k < kc S) (h : K (nI (rankK S k))) : f_X3_rankOf a (nI k) I K := by
  have hc := hS.2.1
  have w1 := hS.1.1
  have loop : ∀ n j, j ≤ kc S → kc S - j < n → f_X3_rankOf_b4 a (nI k) I K n (nI (cntN (fun o => aheadK S o k) j)) (nI j) := by
    intro n
    induction n with
    | zero => intro j _ hn; omega
    | succ n ih =>
      intro j hj hn
      rw [f_X3_rankOf_b4, hc]
      simp (disch := omega) only [n_leP]
      by_cases e : j = kc S
      · rw [if_pos (by omega), e]; exact h
      · rw [if_neg (by omega)]
        refine s_isAhead hS (by omega) hk ?_
        have h1 := ih (j + 1) (by omega) (by omega)
        simp only [cntN] at h1
        simp only [bz_eq0, bnd, nI_add]
        by_cases q : aheadK S j k
        · rw [if_neg (fun z => z q)]; rw [if_pos q] at h1; exact h1
        · rw [if_pos q]; rw [if_neg q] at h1; exact h1
  exact loop 4096 0 (Nat.zero_le _) (by omega)
theorem s_ranked {K : Int32 → Prop} (hS : KR I a S) (x : Int32) (h : K (optI (rankedK S x.toInt))) : f_X3_ranked a x I K := by
  have hc := hS.2.1
  have w1 := hS.1.1
  have loop : ∀ n j, j ≤ kc S → kc S - j < n → (∀ i, i < j → ¬ (rankK S i : Int) = x.toInt) → f_X3_ranked_b2 a x I K n (nI j) := by
    intro n
    induction n with
    | zero => intro j _ hn; omega
    | succ n ih =>
      intro j hj hn hno
      rw [f_X3_ranked_b2, hc]
      simp (disch := omega) only [n_leP]
      by_cases e : j = kc S
      · rw [if_pos (by omega)]
        have e2 : rankedK S x.toInt = none := firstN_none (fun i hi => hno i (by omega))
        rw [e2] at h; exact h
      · rw [if_neg (by omega)]
        refine s_rankOf hS (by omega) ?_
        have hr := cntN_le (fun o => aheadK S o j) (kc S)
        have hr2 : rankK S j ≤ kc S := hr
        by_cases q : (rankK S j : Int) = x.toInt
        · rw [if_pos (by rw [i32_eq, nI_toInt (by omega)]; exact q)]
          have e2 : rankedK S x.toInt = some j := firstN_hit (by omega) q hno
          rw [e2] at h; exact h
        · rw [if_neg (by rw [i32_eq, nI_toInt (by omega)]; exact q)]
          simp only [bnd, nI_add]
          refine ih (j + 1) (by omega) (by omega) (fun i hi => ?_)
          by_cases e3 : i = j
          · rw [e3]; exact q
          · exact hno i (by omega)
  exact loop 4096 0 (Nat.zero_le _) (by omega) (fun i hi => by omega)
theorem s_totalVolume {K : Int32 → Prop} (hS : KR I a S) (h : K (nI (sumN (kvol S) (kc S)))) : f_X3_totalVolume a I K := by
  obtain ⟨⟨w1, w2⟩, hc, hv, hz⟩ := hS
  have loop : ∀ n j, j ≤ kc S → kc S - j < n → f_X3_totalVolume_b4 a I K n (nI (sumN (kvol S) j)) (nI j) := by
    intro n
    induction n with
    | zero => intro j _ hn; omega
    | succ n ih =>
      intro j hj hn
      rw [f_X3_totalVolume_b4, hc]
      simp (disch := omega) only [n_leP]
      by_cases e : j = kc S
      · rw [if_pos (by omega), e]; exact h
      · rw [if_neg (by omega)]
        obtain ⟨v1, v2, v3, v4, v5⟩ := hv j (by omega)
        simp (disch := omega) only [ix_n, inr_n, v2, bnd, nI_add]
        exact ⟨by omega, ih (j + 1) (by omega) (by omega)⟩
  exact loop 4096 0 (Nat.zero_le _) (by omega)
theorem s_turnBurner {K : Int32 → IT → Prop} (hS : KR I a S) {k lev : Nat} (hk : k < kc S) (hl : lev ≤ 5) (h : ∀ I', KR I' a (turnK S k lev) → Same I I' a 6 → K (nI (klev S k)) I') : f_X3_turnBurner a (nI k) (nI lev) I K := by
  obtain ⟨⟨w1, w2⟩, hc, hv, hz⟩ := hS
  obtain ⟨v1, v2, v3, v4, v5⟩ := hv k hk
  unfold f_X3_turnBurner
  simp (disch := omega) only [ix_n, inr_n, wr, bnd, v4]
  refine ⟨by omega, h _ ⟨⟨w1, fun j hj => ?_⟩, by simp (disch := omega) only [up2_nea]; exact hc, fun j hj => ?_, fun j hj => by simp (disch := omega) only [up2_nea]; exact hz j hj⟩ (Same.rf.up (by omega) (by omega))⟩
  · have := w2 j hj
    by_cases e : j = k
    · subst e; simp only [turnK, kc_mk, kcap_mk, kvol_mk, ktmp_mk, klev_mk, kboi_mk, setN_at]; omega
    · simp only [turnK, kc_mk, kcap_mk, kvol_mk, ktmp_mk, klev_mk, kboi_mk, setN_ne e]; omega
  · obtain ⟨z1, z2, z3, z4, z5⟩ := hv j hj
    by_cases e : j = k
    · subst e; simp (disch := omega) only [turnK, kc_mk, kcap_mk, kvol_mk, ktmp_mk, klev_mk, kboi_mk, setN_at, up2_nea, up2_same]; exact ⟨z1, z2, z3, trivial, z5⟩
    · simp (disch := first | omega | assumption) only [turnK, kc_mk, kcap_mk, kvol_mk, ktmp_mk, klev_mk, kboi_mk, setN_ne e, up2_nea, up2_nej]; exact ⟨z1, z2, z3, z4, z5⟩
theorem s_add {K : Int32 → IT → Prop} (hS : KR I a S) {q : Nat} (h4 : 4 ≤ q) (h32 : q ≤ 32) (hc4 : kc S < 4) (h : ∀ I', KR I' a (addK S q) → Same I I' a 6 → K (nI (kc S)) I') : f_X3_add a (nI q) I K := by
  obtain ⟨⟨w1, w2⟩, hc, hv, hz⟩ := hS
  unfold f_X3_add
  simp (disch := omega) only [hc, n_ltP, ix_n, inr_n, wr, bnd, up2_nea, nI_add]
  rw [if_pos hc4]
  refine ⟨hc4, h _ ⟨⟨by simp only [addK, kc_mk]; omega, fun j hj => ?_⟩, by simp only [up2_same]; rfl, fun j hj => ?_, fun j hj => ?_⟩ ?_⟩
  · simp only [addK, kc_mk, kcap_mk, kvol_mk, ktmp_mk, klev_mk, kboi_mk] at hj ⊢
    by_cases e : j = kc S
    · subst e; simp only [setN_at]; omega
    · have := w2 j (by omega); simp only [setN_ne e]; omega
  · simp only [addK, kc_mk, kcap_mk, kvol_mk, ktmp_mk, klev_mk, kboi_mk] at hj ⊢
    by_cases e : j = kc S
    · subst e; simp (disch := omega) only [setN_at, up2_nea, up2_same]; exact ⟨trivial, trivial, trivial, trivial, trivial⟩
    · have := hv j (by omega); simp (disch := first | omega | assumption) only [setN_ne e, up2_nea, up2_nej]; exact this
  · by_cases e : j = kc S
    · subst e; simp (disch := omega) only [up2_nea, up2_same]; exact Or.inl rfl
    · simp (disch := first | omega | assumption) only [up2_nea, up2_nej]; exact hz j hj
  · repeat (first | exact Same.rf | refine Same.up ?_ (by omega) (by omega))
theorem s_pourIn {K : Int32 → IT → Prop} (hS : KR I a S) {k more : Nat} (hk : k < kc S) (hm : 0 < more) (hfit : kvol S k + more ≤ kcap S k) (h : ∀ I', KR I' a (pourK S k more) → Same I I' a 6 → K (nI (ktmp (pourK S k more) k)) I') : f_X3_pourIn a (nI k) (nI more) I K := by
  obtain ⟨⟨w1, w2⟩, hc, hv, hz⟩ := hS
  obtain ⟨v1, v2, v3, v4, v5⟩ := hv k hk
  obtain ⟨u1, u2, u3, u4, u5, u6⟩ := w2 k hk
  have hd : (nI 40 + (nI (ktmp S k) - nI 40) * nI (kvol S k) / nI (kvol S k + more)) = nI (40 + (ktmp S k - 40) * kvol S k / (kvol S k + more)) := by
    rw [n_sub u3, pk_mul, n_div (by have := Nat.mul_le_mul (show ktmp S k - 40 ≤ 160 by omega) (show kvol S k ≤ 32 by omega); omega) (by omega) (by omega), nI_add]
  have ht := pourT_le (v := kvol S k) u3 u4 hm
  unfold f_X3_pourIn f_X3_pourIn_b40
  simp (disch := omega) only [ix_n, inr_n, wr, bnd, v2, v3, nI_add, n_le0, n_eq0, hd, up2_nea, up2_same]
  refine ⟨by omega, ?_⟩
  rw [if_neg (by omega)]
  refine ⟨by omega, by omega, ?_⟩
  have e0 : ktmp (pourK S k more) k = 40 + (ktmp S k - 40) * kvol S k / (kvol S k + more) := by simp only [pourK, ktmp_mk, setN_at]
  rw [e0] at h
  generalize hX : (ktmp S k - 40) * kvol S k / (kvol S k + more) = X at *
  refine h _ ⟨⟨w1, fun j hj => ?_⟩, by simp (disch := omega) only [up2_nea]; exact hc, fun j hj => ?_, fun j hj => by simp (disch := omega) only [up2_nea]; exact hz j hj⟩ ((Same.rf.up (by omega) (by omega)).up (by omega) (by omega))
  · have := w2 j hj
    by_cases e : j = k
    · subst e; simp only [pourK, kc_mk, kcap_mk, kvol_mk, ktmp_mk, klev_mk, kboi_mk, setN_at, hX]; omega
    · simp only [pourK, kc_mk, kcap_mk, kvol_mk, ktmp_mk, klev_mk, kboi_mk, setN_ne e]; omega
  · obtain ⟨z1, z2, z3, z4, z5⟩ := hv j hj
    by_cases e : j = k
    · subst e; simp (disch := omega) only [pourK, kc_mk, kcap_mk, kvol_mk, ktmp_mk, klev_mk, kboi_mk, setN_at, up2_nea, up2_same, hX]; exact ⟨z1, trivial, trivial, z4, z5⟩
    · simp (disch := first | omega | assumption) only [pourK, kc_mk, kcap_mk, kvol_mk, ktmp_mk, klev_mk, kboi_mk, setN_ne e, up2_nea, up2_nej]; exact ⟨z1, z2, z3, z4, z5⟩
theorem s_heatingTime {K : Int32 → Prop} (hS : KR I a S) {k : Nat} (hk : k < kc S) (h : K (optI (htK S k))) : f_X3_heatingTime a (nI k) I K := by
  obtain ⟨⟨w1, w2⟩, hc, hv, hz⟩ := hS
  obtain ⟨v1, v2, v3, v4, v5⟩ := hv k hk
  obtain ⟨u1, u2, u3, u4, u5, u6⟩ := w2 k hk
  unfold f_X3_heatingTime
  refine s_rise (by omega) ?_
  simp (disch := omega) only [ix_n, inr_n, bnd, v2, v3, v4, pk_mul, n_eq0]
  refine ⟨by omega, ?_⟩
  by_cases e1 : kvol S k = 0
  · rw [if_pos e1]
    have e2 : htK S k = none := by unfold htK; rw [if_pos (Or.inl e1)]
    rw [e2] at h; exact h
  · rw [if_neg e1]
    by_cases e3 : klev S k = 0
    · have e2 : htK S k = none := by unfold htK; rw [if_pos (Or.inr e3)]
      rw [e2] at h
      rw [e3, if_neg (by decide)]; exact h
    · have e2 : htK S k = some (max 1 ((200 - ktmp S k + (3 * klev S k - 1) - 1) / (3 * klev S k - 1))) := by unfold htK; rw [if_neg (by omega)]
      rw [e2] at h
      have b : (200 - ktmp S k + (3 * klev S k - 1) - 1) / (3 * klev S k - 1) ≤ 200 := Nat.le_trans (Nat.div_le_self _ _) (by omega)
      simp (disch := omega) only [n_sub, nI_add, n_lt0, n_eq0, n_div, max_nI]
      rw [if_pos (by omega)]
      exact ⟨by omega, h⟩
theorem s_suitable {K : Int32 → Prop} (hS : KR I a S) {cups mn : Nat} (hcu : cups ≤ 100) (hm1 : 1 ≤ mn) (hm2 : mn ≤ 1000) (h : K (optI (suitK S cups mn (kc S)))) : f_X3_suitable a (nI cups) (nI mn) I K := by
  obtain ⟨⟨w1, w2⟩, hc, hv, hz⟩ := hS
  have hT : ∀ n, n ≤ kc S → suitT S cups mn n ≤ 2000 := by
    intro n hn
    unfold suitT
    split
    · omega
    · next b e => have := suitK_lt e; have := w2 b (by omega); omega
  have loop : ∀ n j, j ≤ kc S → kc S - j < n → f_X3_suitable_b12 a (nI cups) (nI mn) I K n (optI (suitK S cups mn j)) (nI (suitT S cups mn j)) (nI j) := by
    intro n
    induction n with
    | zero => intro j _ hn; omega
    | succ n ih =>
      intro j hj hn
      rw [f_X3_suitable_b12, hc]
      simp (disch := omega) only [n_leP]
      by_cases e : j = kc S
      · rw [if_pos (by omega), e]; exact h
      · rw [if_neg (by omega)]
        obtain ⟨v1, v2, v3, v4, v5⟩ := hv j (by omega)
        have b := w2 j (by omega)
        have bt := hT j hj
        have h1 := ih (j + 1) (by omega) (by omega)
        simp (disch := omega) only [ix_n, inr_n, v2, v3, bnd, nI_add, pk_mul, n_ltP, n_leP]
        refine ⟨by omega, ?_⟩
        have es : suitK S cups mn (j + 1) = if 2 * cups ≤ kvol S j ∧ suitT S cups mn j < ktmp S j then some j else suitK S cups mn j := rfl
        have et : suitT S cups mn (j + 1) = if 2 * cups ≤ kvol S j ∧ suitT S cups mn j < ktmp S j then ktmp S j else suitT S cups mn j := by
          by_cases c : 2 * cups ≤ kvol S j ∧ suitT S cups mn j < ktmp S j
          · rw [if_pos c] at es ⊢; unfold suitT; rw [es]
          · rw [if_neg c] at es ⊢; unfold suitT; rw [es]
        repeat' split
        · rw [if_neg (by omega)] at es et; rw [es, et] at h1; exact h1
        · rw [if_neg (by omega)] at es et; rw [es, et] at h1; exact h1
        · rw [if_pos (by omega)] at es et; rw [es, et] at h1; exact h1
  unfold f_X3_suitable
  have h0 := loop 4096 0 (Nat.zero_le _) (by omega)
  have e0 : suitT S cups mn 0 = 2 * mn - 1 := rfl
  rw [e0] at h0
  simp (disch := omega) only [bnd, pk_mul, n_sub, Nat.mul_comm mn 2]
  exact h0
end K
