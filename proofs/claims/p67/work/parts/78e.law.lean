/-! ===== the law, whole ===== -/
theorem isLine_eq {xs : Nat → Int32} {nn : Nat} {I : IT} {T : TS} {t : Nat} {K : Int32 → IT → Prop} {s : Nat} {ln : List Nat} (hln : T.ln = ln) (hC : KCR I T) (w : WT t T) (hs : txtV I s ln) (h : K (nI 1) I) : f_L_isLine xs nn (nI ln.length) s I K := by
  subst hln
  exact l_isLine hC w hs h
theorem lText_lt {f : Nat → Nat} : ∀ n c, c ∈ lText f n → c < 128
  | 0, _, h => by cases h
  | n + 1, c, h => by
    simp only [lText] at h
    rcases List.mem_append.mp h with q | q
    · exact lText_lt n c q
    · split at q
      · have := dig_b _ _ _ q; omega
      · rcases List.mem_cons.mp q with q | q
        · omega
        · have := dig_b _ _ _ q; omega
theorem c_can2 {I : IT} {T : TS} {t : Nat} (w : WT t T) (ht : t ≤ 8000) (hC : KCR I T) {K : Int32 → Prop} (h : K (if canN T.h then nI 1 else nI 0)) : f_X8_canServe I K :=
  c_can w ht hC (fun y => by rw [if_pos y] at h; exact h) (fun y => by rw [if_neg y] at h; exact h)
theorem fself {a : UInt32} (h : FP.fIsNaN a = false) : Op.cmpValue (FP.fcmp a a) .l = 0 := by
  have e : FP.fcmp a a = some .eq := FP.Core.fcmp_refl h
  rw [e]
  rfl
section Lw
variable {xs : Nat → Int32} {nn : Nat} {I : IT} {T : TS} {t : Nat} {K : Int32 → IT → Prop} {v2 v3 v4 v6 v11 : Int32} {v7 : UInt32} {v9 : UInt64} {H : HS} {c : Nat}
theorem l_1109 {X15 : Int32 → IT → Prop} {turn : Nat} (hn : nn < 2147483648) (h3 : kc H.k = 3) (ht : t ≤ 100) (htu : turn < 4) (g : LSt I H c t) (hX : ∀ I' T', G3 I' T' (t + 1) → X15 (nI (turn + 1)) I') : f_L_law_b1109 xs nn X15 K (nI turn) (nI 3) (nI (oc H.o)) (nI (lc H.l)) I := by
  obtain ⟨T, ⟨w, hC⟩, rfl, rfl⟩ := id g
  have w1 := hC.1.2.1.1.1
  have w2 := hC.1.2.2.1.1.1
  have w3 := w.2.1
  unfold f_L_law_b1109 f_L_kettleByTemperature f_L_orderAt f_L_nightByIncome
  have ek : rankedK T.h.k ((3 : Nat) : Int) = none := by rw [← h3]; exact rkdK_no
  refine c_kbt hC 3 (by decide) (fun _ => ?_) (fun z hz => by rw [ek] at hz; cases hz)
  rw [if_pos rfl]
  try dsimp only
  rw [if_pos rfl]
  refine c_oatN hC (Nat.le_refl _) (by omega) ?_
  rw [if_pos rfl]
  try dsimp only
  rw [if_pos rfl]
  refine c_nbi hC (lc T.h.l) (by omega) (fun _ => ?_) (fun z hz => by rw [rkdL_no] at hz; cases hz)
  rw [if_pos rfl]
  try dsimp only
  rw [if_pos rfl]
  refine c_undo hC ?_
  rw [if_pos (by rw [n_leP (by omega) (by omega)]; exact w3), pk_mul, nI_add]
  refine l_acts hn (by omega) ⟨⟨w, hC⟩, h3⟩ (by omega) fun I' T' g' => ?_
  rw [bnd_p, nI_add]
  exact hX I' T' g'
theorem l_954 {X15 : Int32 → IT → Prop} {turn s : Nat} {v8 : UInt32} (hn : nn < 2147483648) (h3 : kc H.k = 3) (ht : t ≤ 100) (htu : turn < 4) (g : LSt I H c t) (q7 : Q8 (sumN (kvol H.k) 3 : Nat) v7) (q8 : Q8 ((lpr H.l + sumN (lin H.l) (lc H.l) : Nat) : Int) v8) (hs : txtV I s (lText (lin H.l) (lc H.l))) (h11 : v11 = if canN H then nI 1 else nI 0) (hX : ∀ I' T', G3 I' T' (t + 1) → X15 (nI (turn + 1)) I') : f_L_law_b954 xs nn X15 K (nI turn) (nI 3) (nI (oc H.o)) (nI (lc H.l)) (nI (H.s 12 + H.s 13)) v7 v8 (hd (sumN (ktmp H.k) 3)) v11 s I := by
  obtain ⟨lw, b1, b2, b3, b4⟩ := g.bd ht
  obtain ⟨T, ⟨w, hC⟩, rfl, rfl⟩ := id g
  have hT := w.1.2
  have t3 := hT.1
  have t4 := hT.2.1
  have t5 := hT.2.2.1
  have t6 := hT.2.2.2.1
  have t7 := hT.2.2.2.2.2.2.2.2.1
  rw [h3] at t5
  have el := lw.2.1
  have kw := hC.1.1.1
  have st : sumN (ktmp T.h.k) 3 ≤ 3 * 200 := sumN_le (fun i hi => by have := kw.2 i (by omega); omega)
  unfold f_L_law_b954 f_L_greatestIncomeBySums
  refine c_grA hC (by decide) (by decide) ?_
  rw [if_pos rfl]
  refine ite_i (fun _ => ?_) (fun y => absurd (by decide +kernel) y)
  refine c_fmtL hC fun J lJ mJ => ?_
  have cJ := hC.lin mJ lJ
  have wJ := w.lin (l := lText (lin T.h.l) (lc T.h.l)) lJ.2.1 (lText_lt _)
  refine isLine_eq (lin_ln _ _) cJ wJ (hs.cg fun hd => mJ s (by have := hd.1; omega)) ?_
  rw [if_neg (by decide)]
  have fin2 : ∀ J', KCR J' (T.lin (lText (lin T.h.l) (lc T.h.l))) → f_L_law_b1109 xs nn X15 K (nI turn) (nI 3) (nI (oc T.h.o)) (nI (lc T.h.l)) J' := fun J' c' => l_1109 hn h3 ht htu (LSt.of wJ c' rfl rfl) hX
  refine c_can2 wJ (by omega) cJ ?_
  rw [lin_h, ← h11, if_pos rfl]
  have qf : Q8 (T.h.s 7 : Int) (e8 (T.h.s 7)) := Q8.e8 (by omega)
  have qp : Q8 (T.h.s 6 : Int) (e8 (T.h.s 6)) := Q8.e8 (by omega)
  have qb : Q8 (T.h.s 5 : Int) (e8 (T.h.s 5)) := Q8.e8 (by omega)
  have qs : Q8 (T.h.s 4 : Int) (e8 (T.h.s 4)) := Q8.e8 (by omega)
  have a1 := q7.add qp (by omega)
  have a2 := a1.add qb (by omega)
  have qi : Q8 ((lcu T.h.l + lst T.h.l : Nat) : Int) (e8 (lcu T.h.l + lst T.h.l)) := Q8.e8 (by omega)
  have ei := (cl qi q8).2.1.mpr (by rw [← el, Nat.add_comm])
  refine c_clean cJ (ite_i (fun z => by rw [xz_lt, lin_h, nI_toInt (by omega)] at z; omega) (fun _ => c_clean cJ (ite_i (fun z => by rw [lin_h, n_ltP (by omega) (by omega)] at z; omega) (fun _ => ?_))))
  refine c_filled cJ (c_poured cJ ⟨a1.n32, c_boiled cJ ⟨a2.n32, ?_⟩⟩)
  rw [if_pos ((cl qf a2).2.1.mpr (by omega))]
  refine c_steam cJ (c_boiled cJ (ite_i (fun z => by have := (cl qs qb).2.2.2.1.mp z; omega) (fun _ => c_steam cJ (ite_i (fun z => by have := (cg qs Q8_0).1.mp z; omega) (fun _ => ?_)))))
  refine c_tot cJ ?_
  rw [if_pos ei]
  refine c_totS cJ ?_
  rw [if_pos ei]
  refine c_bal wJ (by omega) cJ fun J2 m2 => ?_
  have c2 := cJ.cpy m2
  rw [if_neg (by decide)]
  have dn := hd_div (n := sumN (ktmp T.h.k) 3) (c := 3) (by omega) (by decide) (by decide)
  refine c_mean c2 (by show 0 < kc T.h.k; omega) ⟨fl_n64 dn, ?_⟩
  rw [lin_h, h3, if_pos (fl_self dn)]
  refine ite_i (fun _ => fin2 J2 c2) (fun z => ?_)
  rw [n_le0 (by omega)] at z
  have sn := sh_nan (a := T.h.s 13) (b := T.h.s 12 + T.h.s 13) (by omega) (by omega)
  refine c_share c2 (by show 0 < T.h.s 12 + T.h.s 13; omega) (by show T.h.s 12 + T.h.s 13 < _; omega) (c_lost c2 ⟨fl_n32 sn, ?_⟩)
  rw [lin_h, if_pos (fself sn)]
  exact fin2 J2 c2
theorem l_15 (hn : nn < 2147483648) (hK : ∀ I', K (nI 1) I') : ∀ n turn I T, turn ≤ 4 → 4 - turn < n → G3 I T (29 + turn) → f_L_law_b15 xs nn K n (nI turn) I := by
  intro n
  induction n with
  | zero => intro turn _ _ _ hn; omega
  | succ n ih =>
    intro turn I T htu hf g
    rw [f_L_law_b15]
    refine ite_i (fun _ => hK I) (fun q => ?_)
    rw [n_leP (by omega) (by omega)] at q
    obtain ⟨⟨w, hC⟩, h3⟩ := g
    have g0 : LSt I T.h T.pc (29 + turn) := LSt.of w hC rfl rfl
    refine c_kc hC (c_wc hC (c_nc hC (c_heard hC (c_lost hC ?_))))
    rw [bnd_p, nI_add]
    refine c_income hC ?_
    rw [h3]
    obtain ⟨lw, b1, b2, b3, b4⟩ := g0.bd (by omega)
    have nxt : ∀ I' T', G3 I' T' (29 + turn + 1) → f_L_law_b15 xs nn K n (nI (turn + 1)) I' := fun I' T' g' => ih (turn + 1) I' T' (by omega) (by omega) g'
    have tail : ∀ (v11 : Int32), (v11 = if canN T.h then nI 1 else nI 0) → ∀ I' v7, LSt I' T.h T.pc (29 + turn) → Q8 (sumN (kvol T.h.k) 3 : Nat) v7 → f_L_law_b674 xs nn (fun y2_0 y2_1 y2_2 y2_3 y2_4 y2_5 y2_6 y2_7 y2_8 y2_9 y2_10 I2_ => f_L_law_b769 xs nn (fun y3_0 y3_1 y3_2 y3_3 y3_4 y3_5 y3_6 y3_7 y3_8 y3_9 y3_10 I3_ => f_L_law_b829 xs nn (fun y4_0 y4_1 y4_2 y4_3 y4_4 y4_5 y4_6 y4_7 y4_8 y4_9 I4_ => f_L_law_b954 xs nn (fun y5_0 I5_ => f_L_law_b15 xs nn K n y5_0 I5_) K y4_0 y4_1 y4_2 y4_3 y4_4 y4_5 y4_6 y4_7 y4_8 y4_9 I4_) K 20 y3_0 y3_1 y3_2 y3_3 y3_4 y3_5 y3_6 y3_7 y3_8 y3_9 y3_10 I3_) K 20 y2_0 y2_1 y2_2 y2_3 y2_4 y2_5 y2_6 y2_7 y2_8 y2_9 y2_10 I2_) K 20 (nI turn) (nI 3) (nI (oc T.h.o)) (nI (lc T.h.l)) (nI (T.h.s 12 + T.h.s 13)) v7 (e8 (lpr T.h.l)) (hd (sumN (ktmp T.h.k) 3)) v11 (nI 0) I' := by
      intro v11 h11 I' v7 g' q7
      refine l_674 (by omega) (fun I2 v8 g2 q8 => ?_) 20 0 I' (e8 (lpr T.h.l)) (Nat.zero_le _) (by omega) g' (Q8.e8 (n := lpr T.h.l) (by omega))
      refine l_769 (by omega) (fun I3 s g3 tx => ?_) 20 0 I2 1000065 (Nat.zero_le _) (by omega) g2 (Or.inl ⟨rfl, rfl⟩)
      exact l_829 (by omega) g3 (l_954 hn h3 (by omega) (by omega) g3 q7 q8 tx h11 nxt) 20 1 (Nat.le_refl _) (by omega) (by omega)
    have e0 : FP.dconst0 = hd (sumN (ktmp T.h.k) 0) := hd_zero.symm
    rw [e0]
    refine l_63 h3 (fun I' v7 g' q7 => ?_) 8 0 I FP.fconst0 (by omega) (by omega) g0 Q8_0
    refine l_502 (fun nc I2 g2 => ?_) (fun cn I2 g2 => tail _ (by rw [if_pos cn]) I2 v7 g2 q7) 16 0 I' (Nat.zero_le _) (by have := hC.1.2.1.1.1; omega) g'
    unfold f_L_law_b668
    exact tail _ (by rw [if_neg nc]) I2 v7 g2 q7
theorem l_law (hn : nn < 2147483648) (g : GI I T 0) (h0 : kc T.h.k = 0) (hK : ∀ I', K (nI 1) I') : f_L_law xs nn I K := by
  unfold f_L_law
  exact l_build hn g h0 fun I' T' g' => l_15 hn hK 8 0 I' T' (by omega) (by omega) g'
end Lw
