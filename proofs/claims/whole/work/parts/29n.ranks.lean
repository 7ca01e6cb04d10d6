/-! ===== ranks on the reference's side ===== -/
theorem sub_toInt {a b : Nat} (ha : a < 1073741824) (hb : b < 1073741824) : (nI a - nI b).toInt = (a : Int) - b := by
  rw [Int32.toInt_sub, nI_toInt (by omega), nI_toInt (by omega)]
  exact Int.bmod_eq_of_le (by omega) (by omega)
theorem sub_pos {a b : Nat} (ha : a < 1073741824) (hb : b < 1073741824) : (0 < nI a - nI b) = (b < a) := by
  rw [i32_lt, i32_0, sub_toInt ha hb]
  exact propext ⟨fun _ => by omega, fun _ => by omega⟩
theorem sub_eq0 {a b : Nat} (ha : a < 1073741824) (hb : b < 1073741824) : (nI a - nI b = 0) = (a = b) := by
  rw [i32_eq, i32_0, sub_toInt ha hb]
  exact propext ⟨fun _ => by omega, fun _ => by omega⟩
theorem up2_up2 {f : IT} {a j : Nat} {v w : Int32} : up2 (up2 f a j v) a j w = up2 f a j w := by
  funext a' j'
  unfold up2
  split <;> rfl
theorem m_kbtIn {J : IT} {S : KS} (hM : KM (J 191) S) (w : KW S) (x : Int32) {X : Int32 → Int32 → IT → Prop} {Kx : Int32 → IT → Prop} {j : Nat} (hj : j < kc S) (h : X (nI j) (zb ((rankK S j : Int) = x.toInt)) J) : ∀ m i, i ≤ kc S → kc S - i < m → f_X9_kettleByTemperature_b17 x X Kx m (nI j) (nI (cntN (fun o => aheadK S o j) i)) (nI i) J := by
  have w1 := w.1
  intro m
  induction m with
  | zero => intro i _ hm; omega
  | succ m ih =>
    intro i hi hm
    rw [f_X9_kettleByTemperature_b17, hM.1]
    have g := n_leP (a := kc S) (b := i) (by omega) (by omega)
    have hc := cntN_le (fun o => aheadK S o j) i
    by_cases e : i = kc S
    · rw [if_pos (by rw [g]; omega), e]
      rw [e] at hc
      have er : (nI (cntN (fun o => aheadK S o j) (kc S)) = x) = ((rankK S j : Int) = x.toInt) := by
        rw [i32_eq, nI_toInt (by omega)]; rfl
      by_cases q : (rankK S j : Int) = x.toInt
      · rw [zb_t q] at h; rw [if_pos (by rw [er]; exact q)]; exact h
      · rw [zb_f q] at h; rw [if_neg (by rw [er]; exact q)]; exact h
    · rw [if_neg (by rw [g]; omega)]
      obtain ⟨v1, v2, v3, v4, v5⟩ := hM.2 i (by omega)
      obtain ⟨y1, y2, y3, y4, y5⟩ := hM.2 j hj
      have b1 := w.2 i (by omega)
      have b2 := w.2 j hj
      refine m_k (by omega) (by omega) ?_
      refine m_k (by omega) (by omega) ?_
      rw [bnd_p]
      refine m_k (by omega) (by omega) ?_
      refine m_k (by omega) (by omega) ?_
      rw [bnd_p, v2, v3, y2, y3]
      have h1 := ih (i + 1) (by omega) (by omega)
      simp only [cntN] at h1
      have p1 := sub_pos (a := ktmp S i) (b := ktmp S j) (by omega) (by omega)
      have p2 := sub_eq0 (a := ktmp S i) (b := ktmp S j) (by omega) (by omega)
      have p3 := sub_pos (a := kvol S i) (b := kvol S j) (by omega) (by omega)
      have p4 := sub_eq0 (a := kvol S i) (b := kvol S j) (by omega) (by omega)
      have p5 := n_leP (a := j) (b := i) (by omega) (by omega)
      simp only [p1, p2, p3, p4, p5]
      unfold f_X9_kettleByTemperature_b87 f_X9_kettleByTemperature_b91 f_X9_kettleByTemperature_b92
      simp only [bnd_p, nI_add]
      by_cases q : aheadK S i j
      · rw [if_pos q] at h1
        unfold aheadK at q
        repeat' split
        all_goals first | exact h1 | (exfalso; omega)
      · rw [if_neg q] at h1
        unfold aheadK at q
        repeat' split
        all_goals first | exact h1 | (exfalso; omega)
theorem m_kbt {I : IT} {S : KS} (hM : KM (I 191) S) (w : KW S) (x : Int32) {Kx : Int32 → IT → Prop} (h0 : rankedK S x.toInt = none → Kx (nI 0) (up2 I 190 0 (nI 1))) (h1 : ∀ j, rankedK S x.toInt = some j → Kx (nI j) (up2 I 190 0 (nI 0))) : f_X9_kettleByTemperature x I Kx := by
  have w1 := w.1
  have loop : ∀ n j J, j ≤ kc S → kc S - j < n → (∀ v, up2 J 190 0 v = up2 I 190 0 v) → J 191 = I 191 → (∀ i, i < j → ¬ (rankK S i : Int) = x.toInt) → f_X9_kettleByTemperature_b2 x Kx n (nI j) J := by
    intro n
    induction n with
    | zero => intro j J _ hn; omega
    | succ n ih =>
      intro j J hj hn hJ h191 hno
      rw [f_X9_kettleByTemperature_b2, h191, hM.1]
      have g := n_leP (a := kc S) (b := j) (by omega) (by omega)
      by_cases e : j = kc S
      · rw [if_pos (by rw [g]; omega), wr_p, hJ]
        exact h0 (firstN_none (fun i hi => hno i (by omega)))
      · rw [if_neg (by rw [g]; omega)]
        refine m_kbtIn (S := S) (by rw [h191]; exact hM) w x (by omega) ?_ 4096 0 (Nat.zero_le _) (by omega)
        unfold f_X9_kettleByTemperature_b111
        refine m_isFine ?_
        simp only [zb_eq0, bnd_p, nI_add]
        by_cases q : (rankK S j : Int) = x.toInt
        · rw [if_neg (fun z => z q), if_pos q, hJ]
          exact h1 j (firstN_hit (by omega) q hno)
        · rw [if_pos q, if_neg q]
          refine ih (j + 1) _ (by omega) (by omega) (fun v => by rw [up2_up2]; exact hJ v) (by rw [up2_ne (by decide)]; exact h191) (fun i hi => ?_)
          by_cases e3 : i = j
          · rw [e3]; exact q
          · exact hno i (by omega)
  exact loop 4096 0 I (Nat.zero_le _) (by omega) (fun _ => rfl) rfl (fun i hi => by omega)
theorem m_nbiIn {J : IT} {S : GS} (e13 : J 191 13 = nI (lc S)) (hv : ∀ j, j < lc S → J 191 (19 + j) = nI (lin S j)) (w : LW S) (x : Int32) {X : Int32 → Int32 → IT → Prop} {Kx : Int32 → IT → Prop} {j : Nat} (hj : j < lc S) (h : X (nI j) (zb ((rankL (lin S) (lc S) j : Int) = x.toInt)) J) : ∀ m i, i ≤ lc S → lc S - i < m → f_X9_nightByIncome_b18 x X Kx m (nI j) (nI (cntN (fun o => aheadL (lin S) o j) i)) (nI i) J := by
  have w1 := w.1
  intro m
  induction m with
  | zero => intro i _ hm; omega
  | succ m ih =>
    intro i hi hm
    rw [f_X9_nightByIncome_b18, e13]
    have g := n_leP (a := lc S) (b := i) (by omega) (by omega)
    have hc := cntN_le (fun o => aheadL (lin S) o j) i
    by_cases e : i = lc S
    · rw [if_pos (by rw [g]; omega), e]
      rw [e] at hc
      have er : (nI (cntN (fun o => aheadL (lin S) o j) (lc S)) = x) = ((rankL (lin S) (lc S) j : Int) = x.toInt) := by
        rw [i32_eq, nI_toInt (by omega)]; rfl
      by_cases q : (rankL (lin S) (lc S) j : Int) = x.toInt
      · rw [zb_t q] at h; rw [if_pos (by rw [er]; exact q)]; exact h
      · rw [zb_f q] at h; rw [if_neg (by rw [er]; exact q)]; exact h
    · rw [if_neg (by rw [g]; omega)]
      have b1 := w.in_le (k := i) (by omega)
      have b2 := w.in_le (k := j) hj
      simp only [nI_add]
      rw [inr_n (k := 19 + i) (by omega), inr_n (k := 19 + j) (by omega), ix_n (n := 19 + i) (by omega), ix_n (n := 19 + j) (by omega), hv i (by omega), hv j hj]
      refine ⟨by omega, by omega, ?_⟩
      have h1 := ih (i + 1) (by omega) (by omega)
      simp only [cntN] at h1
      have p1 := n_ltP (a := lin S j) (b := lin S i) (by omega) (by omega)
      have p2 := n_eqP (a := lin S i) (b := lin S j) (by omega) (by omega)
      have p5 := n_leP (a := j) (b := i) (by omega) (by omega)
      simp only [p1, p2, p5]
      unfold f_X9_nightByIncome_b81 f_X9_nightByIncome_b85 f_X9_nightByIncome_b86
      simp only [bnd_p, nI_add]
      by_cases q : aheadL (lin S) i j
      · rw [if_pos q] at h1
        unfold aheadL at q
        repeat' split
        all_goals first | exact h1 | (exfalso; omega)
      · rw [if_neg q] at h1
        unfold aheadL at q
        repeat' split
        all_goals first | exact h1 | (exfalso; omega)
theorem m_nbi {I : IT} {S : GS} (e13 : I 191 13 = nI (lc S)) (hv : ∀ j, j < lc S → I 191 (19 + j) = nI (lin S j)) (w : LW S) (x : Int32) {Kx : Int32 → IT → Prop} (h0 : rankedL (lin S) (lc S) x.toInt = none → Kx (nI 0) (up2 I 190 0 (nI 1))) (h1 : ∀ j, rankedL (lin S) (lc S) x.toInt = some j → Kx (nI j) (up2 I 190 0 (nI 0))) : f_X9_nightByIncome x I Kx := by
  have w1 := w.1
  have loop : ∀ n j J, j ≤ lc S → lc S - j < n → (∀ v, up2 J 190 0 v = up2 I 190 0 v) → J 191 = I 191 → (∀ i, i < j → ¬ (rankL (lin S) (lc S) i : Int) = x.toInt) → f_X9_nightByIncome_b2 x Kx n (nI j) J := by
    intro n
    induction n with
    | zero => intro j J _ hn; omega
    | succ n ih =>
      intro j J hj hn hJ h191 hno
      rw [f_X9_nightByIncome_b2, h191, e13]
      have g := n_leP (a := lc S) (b := j) (by omega) (by omega)
      by_cases e : j = lc S
      · rw [if_pos (by rw [g]; omega), wr_p, hJ]
        exact h0 (firstN_none (fun i hi => hno i (by omega)))
      · rw [if_neg (by rw [g]; omega)]
        refine m_nbiIn (S := S) (by rw [h191]; exact e13) (by rw [h191]; exact hv) w x (by omega) ?_ 4096 0 (Nat.zero_le _) (by omega)
        unfold f_X9_nightByIncome_b105
        refine m_isFine ?_
        simp only [zb_eq0, bnd_p, nI_add]
        by_cases q : (rankL (lin S) (lc S) j : Int) = x.toInt
        · rw [if_neg (fun z => z q), if_pos q, hJ]
          exact h1 j (firstN_hit (by omega) q hno)
        · rw [if_pos q, if_neg q]
          refine ih (j + 1) _ (by omega) (by omega) (fun v => by rw [up2_up2]; exact hJ v) (by rw [up2_ne (by decide)]; exact h191) (fun i hi => ?_)
          by_cases e3 : i = j
          · rw [e3]; exact q
          · exact hno i (by omega)
  exact loop 4096 0 I (Nat.zero_le _) (by omega) (fun _ => rfl) rfl (fun i hi => by omega)
section Law
variable {xs : Nat → Int32} {nn : Nat} {X28 : Int32 → IT → LT → Prop} {K : Int32 → IT → LT → Prop} {p : Nat} {I : IT} {L : LT} {T : TS} {t : Nat}
theorem l_kettleByTemperature (hp : p + 5 ≤ nn) (hn : nn ≤ 2560) (hS : ST I T t) (ht : t ≤ 8000) (hX : NX X28 p t) : f_L_law_b1709 xs nn X28 K (nI p) I L := by
  unfold f_L_law_b1709
  simp only [nI_add]
  rw [inr_n (k := p + 1) (by omega), ix_n (n := p + 1) (by omega)]
  refine ⟨by omega, ?_⟩
  generalize xs (p + 1) = x
  unfold f_L_kettleByTemperature f_X8_kettleByTemperature
  have kw1 := hS.1.1.1.1.1
  refine s_ranked hS.2.1.1.1 x ?_
  refine s_found (fun j q => by have := firstN_lt q; omega) (fun q => ?_) (fun j q => ?_)
  · rw [if_pos rfl]
    refine m_kbt hS.2.2.1.1 hS.1.1.1.1 x (fun _ => ?_) (fun j q2 => by rw [q] at q2; cases q2)
    unfold f_X9_thrown
    dsimp only
    rw [up2_same, if_pos rfl, if_neg (by decide)]
    exact l_3520 hX (hS.th _) (by omega)
  · unfold wrL
    refine m_kbt hS.2.2.1.1 hS.1.1.1.1 x (fun q2 => by rw [q] at q2; cases q2) (fun j2 q2 => ?_)
    rw [q] at q2
    cases q2
    unfold f_X9_thrown
    dsimp only
    rw [up2_same, if_pos rfl, if_pos (by decide)]
    rw [if_pos (by rw [up2_same]; exact lg_self _)]
    exact l_3520 hX (hS.th _) (by omega)
theorem l_nightByIncome (hp : p + 5 ≤ nn) (hn : nn ≤ 2560) (hS : ST I T t) (ht : t ≤ 8000) (hX : NX X28 p t) : f_L_law_b2554 xs nn X28 K (nI p) I L := by
  unfold f_L_law_b2554
  simp only [nI_add]
  rw [inr_n (k := p + 1) (by omega), ix_n (n := p + 1) (by omega)]
  refine ⟨by omega, ?_⟩
  generalize xs (p + 1) = x
  unfold f_L_nightByIncome f_X8_nightByIncome
  have lw1 := hS.1.1.1.2.2.1
  have e2 : I 191 13 = nI (lc T.h.l) := hS.2.2.1.2.2.1.2.1
  have c2 : ∀ j, j < lc T.h.l → I 191 (19 + j) = nI (lin T.h.l j) := hS.2.2.1.2.2.1.2.2.2.2
  refine s_rankedL hS.2.1.1.2.2.1 x ?_
  refine s_found (fun j q => by have := firstN_lt q; omega) (fun q => ?_) (fun j q => ?_)
  · rw [if_pos rfl]
    refine m_nbi e2 c2 hS.1.1.1.2.2 x (fun _ => ?_) (fun j q2 => by rw [q] at q2; cases q2)
    unfold f_X9_thrown
    dsimp only
    rw [up2_same, if_pos rfl, if_neg (by decide)]
    exact l_3520 hX (hS.th _) (by omega)
  · unfold wrL
    refine m_nbi e2 c2 hS.1.1.1.2.2 x (fun q2 => by rw [q] at q2; cases q2) (fun j2 q2 => ?_)
    rw [q] at q2
    cases q2
    unfold f_X9_thrown
    dsimp only
    rw [up2_same, if_pos rfl, if_pos (by decide)]
    rw [if_pos (by rw [up2_same]; exact lg_self _)]
    exact l_3520 hX (hS.th _) (by omega)
end Law
