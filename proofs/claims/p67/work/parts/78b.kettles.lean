/-! ===== the law's checks of the kettles ===== -/
theorem TXT.cg {I I' : IT} {a k : Nat} {l : List Nat} (h : TXT I a k l) (e : I' a = I a) : TXT I' a k l := by
  unfold TXT
  rw [e]
  exact h
theorem str_lt {s : Nat} (h : isStr s) : ∀ j, j < (strT s).length → (strT s).getD j 0 < 128 := by
  obtain ⟨k, rfl, h1, h2⟩ := isStr_k h
  have : ∀ q : Fin 14, ∀ j, j < (strT (1000000 + (53 + q.val))).length → (strT (1000000 + (53 + q.val))).getD j 0 < 128 := by decide +kernel
  have e := this ⟨k - 53, by omega⟩
  rw [show 53 + (k - 53) = k by omega] at e
  exact e
theorem app_lt {l m : List Nat} (h : ∀ j, j < l.length → l.getD j 0 < 128) (h' : ∀ j, j < m.length → m.getD j 0 < 128) : ∀ j, j < (l ++ m).length → (l ++ m).getD j 0 < 128 := by
  intro j hj
  rw [List.length_append] at hj
  by_cases q : j < l.length
  · rw [List.getD_eq_getElem?_getD, List.getElem?_append_left q, ← List.getD_eq_getElem?_getD]; exact h j q
  · rw [List.getD_eq_getElem?_getD, List.getElem?_append_right (by omega), ← List.getD_eq_getElem?_getD]; exact h' _ (by omega)
section Tx
variable {I : IT} {a : Nat} {l : List Nat}
theorem t_new {K : Nat → IT → Prop} (h : ∀ a I', isDy a → free I a → TXT I' a 2 [] → (∀ q, q ≠ a → I' q = I q) → K a I') : f_T_new I K :=
  fun a ha hf => h a _ ha hf (setT_s (by decide) (fun j hj => absurd hj (Nat.not_lt_zero _))) (fun _ hq => setT_n hq)
theorem t_app {K : Nat → IT → Prop} {s : Nat} {m : List Nat} (ta : TXT I a 2 l) (hs : txtV I s m) (hm : ∀ j, j < m.length → m.getD j 0 < 128) (hl : l.length + m.length ≤ 150) (h : ∀ I', TXT I' a 2 (l ++ m) → (∀ q, q ≠ a → I' q = I q) → K a I') : f_T_appS a s I K :=
  ⟨l, m, ta, hs, hl, h _ (setT_s (by rw [List.length_append]; exact hl) (app_lt (fun j hj => (ta.2.2.2 j hj).2) hm)) (fun _ hq => setT_n hq)⟩
theorem t_str {K : Nat → IT → Prop} {s : Nat} {m : List Nat} (ta : TXT I a 2 l) (hs : isStr s) (e : strT s = m) (hl : l.length + m.length ≤ 150) (h : ∀ I', TXT I' a 2 (l ++ m) → (∀ q, q ≠ a → I' q = I q) → K a I') : f_T_appS a s I K := by
  subst e
  exact t_app ta (Or.inl ⟨hs, rfl⟩) (str_lt hs) hl h
theorem t_int {K : Nat → IT → Prop} {x : Nat} (ta : TXT I a 2 l) (hx : x < 2147483648) (hl : l.length + 10 ≤ 150) (h : ∀ I', TXT I' a 2 (l ++ digs 10 x) → (∀ q, q ≠ a → I' q = I q) → K a I') : f_T_appI a (nI x) I K := by
  have hd := dg_le10 hx
  refine ⟨l, ta, by rw [nI_toInt hx]; omega, hl, ?_⟩
  rw [ix_n hx]
  exact h _ (setT_s (by rw [List.length_append]; omega) (app_lt (fun j hj => (ta.2.2.2 j hj).2) (dg_128 10 x))) (fun _ hq => setT_n hq)
theorem t_toS {K : Nat → IT → Prop} (ta : TXT I a 2 l) (h : ∀ s I', isDy s → free I s → TXT I' s 1 l → (∀ q, q ≠ s → I' q = I q) → K s I') : f_T_str a I K :=
  ⟨l, ta, fun s hs hf => h s _ hs hf (setT_s ta.2.2.1 (fun j hj => (ta.2.2.2 j hj).2)) (fun _ hq => setT_n hq)⟩
end Tx
theorem txt_free {I : IT} {a b k : Nat} {l : List Nat} (h : TXT I a k l) (hk : k = 1 ∨ k = 2) (hf : free I b) : a ≠ b := by
  rintro rfl
  exact hf k l hk h
theorem KCR.row {I I' : IT} {T : TS} {a : Nat} (h : KCR I T) (ha : isDy a) (e : ∀ q, q ≠ a → I' q = I q) : KCR I' T := h.same fun q hq => e q (by have := ha.1; omega)
section Ke
variable {xs : Nat → Int32} {nn : Nat} {I : IT} {T : TS} {t : Nat}
theorem l_isLine {K : Int32 → IT → Prop} {s : Nat} (hC : KCR I T) (w : WT t T) (hs : txtV I s T.ln) (h : K (nI 1) I) : f_L_isLine xs nn (nI T.ln.length) s I K := by
  have lw := w.2.2.2.2.2.2.2.2.1
  have loop : ∀ n j, j ≤ T.ln.length → T.ln.length - j < n → f_L_isLine_b12 xs nn (nI T.ln.length) s K n (nI j) I := by
    intro n
    induction n with
    | zero => intro j _ hn; omega
    | succ n ih =>
      intro j hj hf
      rw [f_L_isLine_b12]
      refine ite_i (fun q => h) (fun q => ?_)
      rw [n_leP (by omega) (by omega)] at q
      refine c_chr hC w (by omega) ⟨T.ln, hs, ?_, ?_⟩
      · rw [inr_n (by omega)]; omega
      · dsimp only
        rw [ix_n (by omega), if_pos rfl, bnd_p, nI_add]
        exact ih (j + 1) (by omega) (by omega)
  unfold f_L_isLine
  exact ⟨T.ln, hs, by dsimp only; rw [if_pos rfl]; exact loop 200 0 (Nat.zero_le _) (by omega)⟩
theorem l_eig {K : Int32 → IT → Prop} {v : UInt32} {n : Nat} (hv : Q8 (n : Int) v) (hn : n < 2 ^ 20) (h : K (nI n) I) : f_L_eighths xs nn v I K := by
  have q : Q8 (8 * (n : Int)) (FP.fmul 1090519040 v) := Q8_8.mul hv (by omega) (by omega)
  refine ⟨q.n32, ?_⟩
  rw [q.f2i (by omega)]
  exact h
/-- what the law keeps of a turn: the house, how many can be undone -/
def LSt (I : IT) (H : HS) (c t : Nat) : Prop := ∃ T : TS, (WT t T ∧ KCR I T) ∧ T.h = H ∧ T.pc = c
theorem LSt.of {I' : IT} (w : WT t T) (hC : KCR I' T) {H : HS} {c : Nat} (e1 : T.h = H) (e2 : T.pc = c) : LSt I' H c t := ⟨T, ⟨w, hC⟩, e1, e2⟩
def noI (r : Option Nat) : Int32 := match r with
  | none => -30000
  | some j => nI j
theorem noI_eq {r : Option Nat} (h : ∀ j, r = some j → j < 2147483648) : (noI r = -30000) = (r = none) := by
  cases r with
  | none => simp [noI]
  | some j =>
    have hj := h j rfl
    refine propext ⟨fun q => ?_, fun q => by cases q⟩
    have q : nI j = -30000 := q
    have := congrArg Int32.toInt q
    rw [nI_toInt (by omega)] at this
    have e : (-30000 : Int32).toInt = -30000 := by decide
    omega
variable {v2 v3 v4 v5 v6 : Int32} {v8 : UInt32} {K : Int32 → IT → Prop}
/-- the line of a kettle is as told; those by temperature stand in their order -/
theorem l_386 {X63 : Int32 → Int32 → Int32 → Int32 → Int32 → UInt32 → UInt32 → UInt64 → Int32 → IT → Prop} {v7 : UInt32} {v9 : UInt64} {k a s : Nat} {l m : List Nat} {ln : List Nat} (hln : T.ln = ln) (w : WT t T) (hC : KCR I T) (hk : k < kc T.h.k) (hd : isDy a) (ta : TXT I a 2 l) (hs : txtV I s m) (hm : ∀ j, j < m.length → m.getD j 0 < 128) (hl : l.length + m.length ≤ 150) (e : l ++ m = ln) (hX : ∀ I', KCR I' T → X63 v2 v3 v4 v5 v6 v7 v8 v9 (nI (k + 1)) I') : f_L_law_b386 xs nn X63 K v2 v3 v4 v5 v6 v7 v8 v9 (nI k) (nI ln.length) a s I := by
  subst hln
  have kw := hC.1.1.1
  have k4 := kw.1
  unfold f_L_law_b386
  refine t_app ta hs hm hl fun I1 t1 e1 => ?_
  have c1 := hC.row hd e1
  refine t_toS t1 fun s2 I2 d2 f2 t2 e2 => ?_
  have c2 := c1.row d2 e2
  rw [e] at t2
  refine l_isLine c2 w (Or.inr ⟨d2, t2⟩) ?_
  rw [if_neg (by decide)]
  refine ite_i (fun _ => ?_) (fun q => ?_)
  · rw [bnd_p, nI_add]; exact hX I2 c2
  rw [n_eq0 (by omega)] at q
  have hr1 : ∃ i, i < kc T.h.k ∧ rankK T.h.k i = k - 1 := rankK_onto (by omega)
  have hr2 : ∃ i, i < kc T.h.k ∧ rankK T.h.k i = k := rankK_onto hk
  rw [n_sub (by omega)]
  have rk : ∀ r i, i < kc T.h.k → rankK T.h.k i = r → rankedK T.h.k (r : Int) = some i := fun r i hi hr =>
    firstN_hit hi (by show ((rankK T.h.k i : Nat) : Int) = _; rw [hr]) (fun j hj hq => by
      have hq : ((rankK T.h.k j : Nat) : Int) = (r : Int) := hq
      have := rankK_inj (S := T.h.k) (i := j) (j := i) (by omega) hi (by omega)
      omega)
  obtain ⟨i, hi, ri⟩ := hr1
  obtain ⟨j, hj, rj⟩ := hr2
  have ei := rk _ i hi ri
  have ej := rk _ j hj rj
  refine c_kbt c2 (k - 1) (by omega) (fun z => by rw [ei] at z; cases z) (fun z hz => ?_)
  rw [ei] at hz
  cases hz
  refine c_kbt c2 k (by omega) (fun z => by rw [ej] at z; cases z) (fun z hz => ?_)
  rw [ej] at hz
  cases hz
  have ahead : aheadK T.h.k i j := by
    rcases aheadK_tot T.h.k i j (by rintro rfl; omega) with z | z
    · exact z
    · have := rk_mono (n := kc T.h.k) (lt := aheadK T.h.k) (aheadK_irr T.h.k) (aheadK_tr T.h.k) hj z
      have r1 : rankK T.h.k j < rankK T.h.k i := this
      omega
  have bi := kw.2 i hi
  have bj := kw.2 j hj
  have t1 : Q8 (4 * (ktmp T.h.k i : Int)) (h8 (ktmp T.h.k i)) := Q8.h8 (by omega)
  have t2 : Q8 (4 * (ktmp T.h.k j : Int)) (h8 (ktmp T.h.k j)) := Q8.h8 (by omega)
  have u1 : Q8 (kvol T.h.k i : Int) (e8 (kvol T.h.k i)) := Q8.e8 (by omega)
  have u2 : Q8 (kvol T.h.k j : Int) (e8 (kvol T.h.k j)) := Q8.e8 (by omega)
  have td := t1.sub t2 (by omega)
  have ud := u1.sub u2 (by omega)
  refine c_tmp c2 hi (c_tmp c2 hj ⟨td.n32, c_vol c2 hi (c_vol c2 hj ⟨ud.n32, ?_⟩)⟩)
  have g1 := cg td Q8_0
  have g2 := cl td Q8_0
  have g3 := cg ud Q8_0
  have g4 := cl ud Q8_0
  unfold aheadK at ahead
  refine ite_i (fun z => ?_) (fun _ => ite_i (fun z1 => ite_i (fun z => ?_) (fun _ => ite_i (fun z2 => ite_i (fun _ => ?_) (fun z => ?_)) (fun _ => ?_))) (fun _ => ?_))
  · have := g1.1.mp z; omega
  · have := g3.1.mp z
    have := g2.2.1.mp z1
    omega
  · rw [bnd_p, nI_add]; exact hX I2 c2
  · have := g4.2.1.mp z2
    have := g2.2.1.mp z1
    rw [n_leP (by omega) (by omega)] at z
    omega
  · rw [bnd_p, nI_add]; exact hX I2 c2
  · rw [bnd_p, nI_add]; exact hX I2 c2
theorem l_367 {X63 : Int32 → Int32 → Int32 → Int32 → Int32 → UInt32 → UInt32 → UInt64 → Int32 → IT → Prop} {v7 : UInt32} {v9 : UInt64} {k a s : Nat} {l m : List Nat} {ln : List Nat} (hln : T.ln = ln) (w : WT t T) (hC : KCR I T) (hk : k < kc T.h.k) (hd : isDy a) (ta : TXT I a 2 l) (hs : txtV I s m) (hm : ∀ j, j < m.length → m.getD j 0 < 128) (hl : l.length + m.length ≤ 140) (e : l ++ m ++ (if kboi T.h.k k = 0 then [] else [33]) = ln) (hX : ∀ I', KCR I' T → X63 v2 v3 v4 v5 v6 v7 v8 v9 (nI (k + 1)) I') : f_L_law_b367 xs nn X63 K v2 v3 v4 v5 v6 v7 v8 v9 (nI k) (nI ln.length) a s I := by
  subst hln
  have kw := hC.1.1.1
  have bk := kw.2 k hk
  unfold f_L_law_b367
  refine t_app ta hs hm (by omega) fun I1 t1 e1 => ?_
  have c1 := hC.row hd e1
  refine c_boil c1 hk ?_
  refine ite_i (fun z => ?_) (fun z => ?_)
  · rw [n_eq0 (by omega)] at z
    rw [if_pos z] at e
    exact l_386 rfl w c1 hk hd t1 (s := 1000065) (m := []) (Or.inl ⟨rfl, rfl⟩) (fun j hj => absurd hj (Nat.not_lt_zero _)) (by rw [List.length_append]; simp; omega) e hX
  · rw [n_eq0 (by omega)] at z
    rw [if_neg z] at e
    exact l_386 rfl w c1 hk hd t1 (s := 1000066) (m := [33]) (Or.inl ⟨rfl, rfl⟩) (by decide) (by rw [List.length_append]; simp; omega) e hX
theorem lw_mub {k : Nat} {K : Int32 → IT → Prop} (hC : KCR I T) (hk : k < kc T.h.k) (h : K (noI (htK T.h.k k)) I) : f_L_minutesUntilBoiling xs nn (nI k) I K := by
  unfold f_L_minutesUntilBoiling
  refine c_mub hC hk (fun e => ?_) (fun j e => ?_)
  · rw [e] at h
    rw [if_neg (by decide), if_pos rfl]
    exact h
  · rw [e] at h
    exact h
theorem lw_mubm {k : Nat} {K : Int32 → IT → Prop} (hC : KCR I T) (hk : k < kc T.h.k) (h : ∀ I', Same I I' 50 6 → K (noI (htK T.h.k k)) I') : f_L_minutesUntilBoilingByMinutes xs nn (nI k) I K := by
  unfold f_L_minutesUntilBoilingByMinutes
  refine c_mubm hC hk (fun e I' m => ?_) (fun j e I' m => ?_)
  · have h := h I' m
    rw [e] at h
    rw [if_neg (by decide), if_pos rfl]
    exact h
  · have h := h I' m
    rw [e] at h
    exact h
theorem lin_ln (T : TS) (l : List Nat) : (T.lin l).ln = l := rfl
theorem lin_h (T : TS) (l : List Nat) : (T.lin l).h = T.h := rfl
theorem kText_lt (S : KS) (k : Nat) : ∀ c, c ∈ kText S k → c < 128 := by
  intro c hc
  have d : ∀ x c, c ∈ digs 10 x → c < 128 := fun x c h => by
    obtain ⟨j, hj, e⟩ := List.getElem_of_mem h
    have := dg_128 10 x j hj
    rw [List.getD_eq_getElem?_getD, List.getElem?_eq_getElem hj, Option.getD_some, e] at this
    exact this
  unfold kText at hc
  simp only [List.mem_append, List.mem_cons, List.not_mem_nil, or_false] at hc
  rcases hc with ((((((((((q | q) | q) | q) | q) | q) | q) | q) | q) | q) | q)
  · omega
  · exact d _ _ q
  · omega
  · exact d _ _ q
  · omega
  · exact d _ _ q
  · omega
  · exact d _ _ q
  · omega
  · split at q
    · cases q
    · simp only [List.mem_append, List.mem_cons, List.not_mem_nil, or_false] at q
      rcases q with (q | q) | q
      · omega
      · omega
      · exact d _ _ q
  · split at q
    · cases q
    · have := List.mem_singleton.mp q
      omega
theorem l_244 {X63 : Int32 → Int32 → Int32 → Int32 → Int32 → UInt32 → UInt32 → UInt64 → Int32 → IT → Prop} {v7 : UInt32} {v9 : UInt64} {k : Nat} {H : HS} {c : Nat} (g : LSt I H c t) (hk : k < kc H.k) (hX : ∀ I', LSt I' H c t → X63 v2 v3 v4 v5 v6 v7 v8 v9 (nI (k + 1)) I') : f_L_law_b244 xs nn X63 K v2 v3 v4 v5 v6 v7 v8 v9 (nI k) (e8 (kvol H.k k)) (nI (klev H.k k)) (nI (ktmp H.k k)) (noI (htK H.k k)) I := by
  obtain ⟨T, ⟨w, hC⟩, rfl, rfl⟩ := g
  have kw := hC.1.1.1
  have bk := kw.2 k hk
  have k4 := kw.1
  have dl : ∀ x, x < 2147483648 → (digs 10 x).length ≤ 10 := fun x hx => (dg_le10 hx).2
  have l1 := dl k (by omega)
  have l2 := dl (kvol T.h.k k) (by omega)
  have l3 := dl (kcap T.h.k k) (by omega)
  have l4 := dl (ktmp T.h.k k) (by omega)
  have l5 := dl (klev T.h.k k) (by omega)
  unfold f_L_law_b244
  refine lw_mub hC hk ?_
  rw [if_pos rfl]
  refine lw_mubm hC hk fun I5 m5 => ?_
  rw [if_pos rfl]
  have c5 := hC.cpy m5
  refine c_fmtK c5 hk fun I8 n8 m8 => ?_
  have c8 := c5.lin m8 n8
  have w8 := w.lin (l := kText T.h.k k) n8.2.1 (kText_lt T.h.k k)
  refine t_new fun a J0 hd _ t0 e0 => ?_
  have b0 := c8.row hd e0
  refine t_str t0 (s := 1000060) (m := [75]) rfl rfl (by simp) fun J1 t1 e1 => ?_
  have b1 := b0.row hd e1
  refine t_int t1 (by omega) (by simp) fun J2 t2 e2 => ?_
  have b2 := b1.row hd e2
  refine t_str t2 (s := 1000061) (m := [32]) rfl rfl (by simp; omega) fun J3 t3 e3 => ?_
  have b3 := b2.row hd e3
  refine l_eig (Q8.e8 (n := kvol T.h.k k) (by omega)) (by omega) ?_
  refine t_int t3 (by omega) (by simp; omega) fun J4 t4 e4 => ?_
  have b4 := b3.row hd e4
  refine t_str t4 (s := 1000062) (m := [47]) rfl rfl (by simp; omega) fun J5 t5 e5 => ?_
  have b5 := b4.row hd e5
  refine c_cap b5 hk ?_
  refine l_eig (Q8.e8 (n := kcap T.h.k k) (by omega)) (by omega) ?_
  refine t_int t5 (by omega) (by simp; omega) fun J6 t6 e6 => ?_
  have b6 := b5.row hd e6
  refine t_str t6 (s := 1000061) (m := [32]) rfl rfl (by simp; omega) fun J7 t7 e7 => ?_
  have b7 := b6.row hd e7
  refine t_int t7 (by omega) (by simp; omega) fun J8 t8 e8 => ?_
  have b8 := b7.row hd e8
  refine t_str t8 (s := 1000063) (m := [104]) rfl rfl (by simp; omega) fun J9 t9 e9 => ?_
  have b9 := b8.row hd e9
  have fin : ∀ J, KCR J (T.lin (kText T.h.k k)) → X63 v2 v3 v4 v5 v6 v7 v8 v9 (nI (k + 1)) J := fun J cJ => hX J (LSt.of w8 cJ rfl rfl)
  refine ite_i (fun z => ?_) (fun z => ?_)
  · rw [n_le0 (by omega)] at z
    refine l_367 (T := T.lin (kText T.h.k k)) (ln := kText T.h.k k) (lin_ln _ _) w8 b9 hk hd t9 (s := 1000065) (m := []) (Or.inl ⟨rfl, rfl⟩) (fun j hj => absurd hj (Nat.not_lt_zero _)) (by simp; omega) ?_ fin
    show _ = kText T.h.k k
    unfold kText
    rw [if_pos z]
    simp
  · rw [n_le0 (by omega)] at z
    refine t_new fun a2 L0 hd2 f2 u0 g0 => ?_
    have ne : a ≠ a2 := txt_free t9 (Or.inr rfl) f2
    have d0 := b9.row hd2 g0
    have t10 := t9.cg (g0 a ne)
    refine t_str u0 (s := 1000064) (m := [32, 98]) rfl rfl (by simp) fun L1 u1 g1 => ?_
    have d1 := d0.row hd2 g1
    have t11 := t10.cg (g1 a ne)
    refine t_int u1 (by omega) (by simp) fun L2 u2 g2 => ?_
    have d2 := d1.row hd2 g2
    have t12 := t11.cg (g2 a ne)
    refine t_toS u2 fun s L3 hs f3 u3 g3 => ?_
    have d3 := d2.row hs g3
    have t13 := t12.cg (g3 a (txt_free t12 (Or.inr rfl) f3))
    refine l_367 (T := T.lin (kText T.h.k k)) (ln := kText T.h.k k) (lin_ln _ _) w8 d3 hk hd t13 (s := s) (Or.inr ⟨hs, u3⟩) (fun j hj => (u3.2.2.2 j hj).2) (by simp; omega) ?_ fin
    show _ = kText T.h.k k
    unfold kText
    rw [if_neg z]
    simp
/-- how long it takes, counted -/
theorem l_216 {X244 : Int32 → Int32 → Int32 → Int32 → Int32 → UInt32 → UInt32 → UInt64 → Int32 → UInt32 → Int32 → Int32 → Int32 → IT → Prop} {v7 v12 : UInt32} {v9 : UInt64} {v11 v15 : Int32} {tm lv : Nat} (h1 : 40 ≤ tm) (h2 : tm ≤ 200) (hl0 : 0 < lv) (hl : lv ≤ 5) (hX : X244 v2 v3 v4 v5 v6 v7 v8 v9 v11 v12 (nI lv) v15 (nI (max 1 ((200 - tm + (3 * lv - 1) - 1) / (3 * lv - 1)))) I) : f_L_law_b216 xs nn X244 K 4096 v2 v3 v4 v5 v6 v7 v8 v9 v11 v12 (nI lv) v15 (nI 0) (nI tm) I := by
  have hm := ht_least (t := tm) (r := 3 * lv - 1) h1 h2 (by omega) rfl
  generalize max 1 ((200 - tm + (3 * lv - 1) - 1) / (3 * lv - 1)) = m at hm hX
  generalize hr : 3 * lv - 1 = r at hm
  have loop : ∀ n u h, u < m → m - u < n → h ≤ 200 → h = tm + u * r → f_L_law_b216 xs nn X244 K n v2 v3 v4 v5 v6 v7 v8 v9 v11 v12 (nI lv) v15 (nI u) (nI h) I := by
    intro n
    induction n with
    | zero => intro u h _ hn; omega
    | succ n ih =>
      intro u h hu hf hh he
      rw [f_L_law_b216]
      have e1 : (u + 1) * r = u * r + r := Nat.succ_mul u r
      rw [pk_mul, nI_add, n_sub (by omega), show h + 3 * lv - 1 = tm + (u + 1) * r by omega, nI_add]
      by_cases q : u + 1 = m
      · have b := hm.2.1
        rw [← q] at b
        have e : (if nI (tm + (u + 1) * r) < nI 200 then nI (tm + (u + 1) * r) else nI 200) = nI 200 := by
          by_cases z : tm + (u + 1) * r < 200
          · omega
          · rw [if_neg (fun y => z ((nI_ltI (by omega) (by omega)).mp y))]
        rw [e, bnd_p, bnd_p, if_neg (fun y => by rw [n_ltP (by omega) (by omega)] at y; omega), q]
        exact hX
      · have b := hm.1 (u + 1) (by omega) (by omega)
        have e : (if nI (tm + (u + 1) * r) < nI 200 then nI (tm + (u + 1) * r) else nI 200) = nI (tm + (u + 1) * r) := by
          rw [if_pos ((nI_ltI (by omega) (by omega)).mpr b)]
        rw [e, bnd_p, bnd_p, if_pos (by rw [n_ltP (by omega) (by omega)]; exact b)]
        exact ih (u + 1) _ (by omega) (by omega) (by omega) rfl
  exact loop 4096 0 tm (by omega) (by omega) h2 (by omega)
theorem l_63 {X502 : Int32 → Int32 → Int32 → Int32 → Int32 → UInt32 → UInt32 → UInt64 → Int32 → IT → Prop} {H : HS} {c : Nat} (h3 : kc H.k = 3) (hX : ∀ I' v7, LSt I' H c t → Q8 (sumN (kvol H.k) 3 : Nat) v7 → X502 v2 (nI 3) v4 v5 v6 v7 v8 (hd (sumN (ktmp H.k) 3)) (nI 0) I') : ∀ n k I v7, k ≤ 3 → 3 - k < n → LSt I H c t → Q8 (sumN (kvol H.k) k : Nat) v7 → f_L_law_b63 xs nn X502 K n v2 (nI 3) v4 v5 v6 v7 v8 (hd (sumN (ktmp H.k) k)) (nI k) I := by
  intro n
  induction n with
  | zero => intro k _ _ _ hn; omega
  | succ n ih =>
    intro k I v7 hk3 hf g q7
    rw [f_L_law_b63]
    refine ite_i (fun q => ?_) (fun q => ?_)
    · rw [n_leP (by omega) (by omega)] at q
      have : k = 3 := by omega
      subst this
      exact hX I v7 g q7
    rw [n_leP (by omega) (by omega)] at q
    have hk : k < kc H.k := by omega
    obtain ⟨T, ⟨w, hC⟩, rfl, rfl⟩ := id g
    have kw := hC.1.1.1
    have bk := kw.2 k hk
    have sv : sumN (kvol T.h.k) k ≤ 3 * 32 := by
      have := sumN_le (f := kvol T.h.k) (B := 32) (n := k) (fun i hi => by have := kw.2 i (by omega); omega)
      omega
    have st : sumN (ktmp T.h.k) k ≤ 3 * 200 := by
      have := sumN_le (f := ktmp T.h.k) (B := 200) (n := k) (fun i hi => by have := kw.2 i (by omega); omega)
      omega
    have qv : Q8 (kvol T.h.k k : Int) (e8 (kvol T.h.k k)) := Q8.e8 (by omega)
    have qt : Q8 (4 * (ktmp T.h.k k : Int)) (h8 (ktmp T.h.k k)) := Q8.h8 (by omega)
    have qc : Q8 (kcap T.h.k k : Int) (e8 (kcap T.h.k k)) := Q8.e8 (by omega)
    have q2t : Q8 (8 * (ktmp T.h.k k : Int)) (FP.fmul FP.fconst2 (h8 (ktmp T.h.k k))) := Q8_2.mul qt (by omega) (by omega)
    have qs : Q8 ((sumN (kvol T.h.k) (k + 1) : Nat) : Int) (FP.fadd v7 (e8 (kvol T.h.k k))) := by
      have := q7.add qv (by omega)
      rw [← Int.natCast_add] at this
      exact this
    have ht : FP.f2d (h8 (ktmp T.h.k k)) = hd (ktmp T.h.k k) := hd_half ⟨ktmp T.h.k k, by omega⟩
    have hs : FP.dadd (hd (sumN (ktmp T.h.k) k)) (hd (ktmp T.h.k k)) = hd (sumN (ktmp T.h.k) (k + 1)) := hd_add (by omega) (by omega)
    refine c_vol hC hk (c_tmp hC hk (c_bur hC hk ⟨q2t.n32, ?_⟩))
    rw [q2t.f2i (by omega), bnd_p, ht, hs]
    refine ⟨qs.n32, fl_n64 (hd_nan (by omega)), fl_n64 (hd_nan (by simp only [sumN]; omega)), ?_⟩
    have a1 := cg qv Q8_0
    have a2 := cl qv qc
    have a3 := cg qt Q8_20
    have a4 := cl qt Q8_100
    have a5 := cl qv Q8_0
    refine ite_i (fun z => by have := a1.1.mp z; omega) (fun _ => c_cap hC hk (ite_i (fun z => by have := a2.2.2.2.1.mp z; omega) (fun _ => ite_i (fun z => by have := a3.1.mp z; omega) (fun _ => ite_i (fun z => by have := a4.2.2.2.1.mp z; omega) (fun _ => ?_)))))
    refine ite_i (fun z => by rw [xz_lt, nI_toInt (by omega)] at z; omega) (fun _ => ite_i (fun z => by rw [n_ltP (by omega) (by omega)] at z; omega) (fun _ => ?_))
    refine c_bits hC hk ⟨qt.n32, ?_⟩
    dsimp only
    rw [if_pos rfl]
    refine l_eig qv (by omega) ?_
    rw [← fl_eighth]
    refine ⟨qv.n32, ?_⟩
    have a6 := cl qv qv
    rw [if_pos (a6.2.1.mpr rfl)]
    have nxt : ∀ I', LSt I' T.h T.pc t → f_L_law_b63 xs nn X502 K n v2 (nI 3) v4 v5 v6 (FP.fadd v7 (e8 (kvol T.h.k k))) v8 (hd (sumN (ktmp T.h.k) (k + 1))) (nI (k + 1)) I' := fun I' g' => ih (k + 1) I' _ (by omega) (by omega) g' qs
    refine ite_i (fun z => ?_) (fun z => ite_i (fun z2 => ?_) (fun z2 => ?_))
    · have z := a5.2.2.1.mp z
      have e : noI (htK T.h.k k) = -30000 := by
        unfold htK
        rw [if_pos (Or.inl (by omega))]
        rfl
      rw [← e]
      exact l_244 g hk nxt
    · rw [n_le0 (by omega)] at z2
      have e : noI (htK T.h.k k) = -30000 := by
        unfold htK
        rw [if_pos (Or.inr z2)]
        rfl
      rw [← e]
      exact l_244 g hk nxt
    · rw [n_le0 (by omega)] at z2
      have z : ¬ (kvol T.h.k k : Int) ≤ 0 := fun y => z (a5.2.2.1.mpr y)
      refine l_216 (by omega) (by omega) (by omega) (by omega) ?_
      have e : noI (htK T.h.k k) = nI (max 1 ((200 - ktmp T.h.k k + (3 * klev T.h.k k - 1) - 1) / (3 * klev T.h.k k - 1))) := by
        unfold htK
        rw [if_neg (by omega)]
        rfl
      rw [← e]
      exact l_244 g hk nxt
end Ke
