/-! ===== the line, the input, the reference and the class made ===== -/
section Ctor2
variable {l : Launch} {D : DT} {G : GT} {I : IT} {L : LT}
set_option maxRecDepth 100000 in
set_option maxHeartbeats 4000000 in
theorem c_X2_init {a : Nat} (F : Fresh G I L) (ha : G.1 = a + 1) (hsa : G.2.1 a = (5, 0)) (hs : ∀ i, i < 3 → G.2.1 (G.1 + i) = ([(21, 60), (22, 12), (22, 48)] : List (Nat × Nat)).getD i (99, 0)) (hb : G.1 + 10 < 1000000) (h0 : I a = fun _ => 0) : Con l D m_X2_init 2 [.ref a] 3 120 G I L (PG (iG a G) I L) := by
  refine Con.of (by decide +kernel) (by simp [Value.category]) (Nat.le_of_ble_eq_true rfl) (Or.inr (by omega)) (fun X hX hT hI0 => ?_)
  have hX : OK X D cX2_init "TeaHouse$Input" 1 := hX
  have hR := RT.room hT
  have hI1 : InInit X := hI0 rfl
  change J X D 1 0 0 _ _ _ 0 [.ref a] []
  have a0 : a < G.1 := by omega
  have F1 := F.s1 (j := 0) (show a < G.1 + 0 by omega)
  have F2 := F1.s1 (j := 1) (show a < G.1 + 1 by omega)
  have F3 := F2.s1 (j := 2) (show a < G.1 + 2 by omega)
  refine r_aload_n hX dX2_init_0 rfl ?_
  refine r_objInit hX hR oi_X2_3 w_oi1 w_oi2 dX2_init_1 (Nat.le_of_ble_eq_true rfl) (by decide) ?_
  refine r_aload_n hX dX2_init_4 rfl ?_
  refine r_bipush hX dX2_init_5 (v := nI 60) (by decide) ?_
  refine r_newaP (t := 1) hX hR rfl (by decide) (by decide) w_arr_char dX2_init_7 rfl (by decide) (by decide) (by decide) (show G.1 + 0 + 1 < 1000000 by omega) F (hs 0 (by decide)) ?_
  refine r_putF hX hI1 ff_X2_9 rfl dX2_init_9 (show a < G.1 + 0 + 1 by omega) hsa (Or.inr ⟨_, rfl⟩) ?_
  refine r_aload_n hX dX2_init_12 rfl ?_
  refine r_bipush hX dX2_init_13 (v := nI 12) (by decide) ?_
  refine r_newaP (t := 2) hX hR rfl (by decide) (by decide) w_arr_int dX2_init_15 rfl (by decide) (by decide) (by decide) (show G.1 + 1 + 1 < 1000000 by omega) F1 (hs 1 (by decide)) ?_
  refine r_putF hX hI1 ff_X2_15 rfl dX2_init_17 (show a < G.1 + 1 + 1 by omega) hsa (Or.inr ⟨_, rfl⟩) ?_
  refine r_aload_n hX dX2_init_20 rfl ?_
  refine r_bipush hX dX2_init_21 (v := nI 48) (by decide) ?_
  refine r_newaP (t := 2) hX hR rfl (by decide) (by decide) w_arr_int dX2_init_23 rfl (by decide) (by decide) (by decide) (show G.1 + 2 + 1 < 1000000 by omega) F2 (hs 2 (by decide)) ?_
  refine r_putF hX hI1 ff_X2_19 rfl dX2_init_25 (show a < G.1 + 2 + 1 by omega) hsa (Or.inr ⟨_, rfl⟩) ?_
  refine r_aload_n hX dX2_init_28 rfl ?_
  refine r_iconst hX dX2_init_29 (v := nI 0) (by decide) ?_
  refine r_puts hX pf_X2_22 rfl dX2_init_30 (by show a < G.1 + 3; omega) (by exact hsa) (by decide) (by decide) (by rw [h0]; rfl) ?_
  refine r_aload_n hX dX2_init_33 rfl ?_
  refine r_iconst hX dX2_init_34 (v := nI 0) (by decide) ?_
  refine r_puts hX pf_X2_26 rfl dX2_init_35 (by show a < G.1 + 3; omega) (by exact hsa) (by decide) (by decide) (by rw [h0]; rfl) ?_
  refine r_aload_n hX dX2_init_38 rfl ?_
  refine r_iconst hX dX2_init_39 (v := nI 0) (by decide) ?_
  refine r_puts hX pf_X2_29 rfl dX2_init_40 (by show a < G.1 + 3; omega) (by exact hsa) (by decide) (by decide) (by rw [h0]; rfl) ?_
  exact r_vret hX hT dX2_init_43 ⟨rfl, rfl, rfl, rfl⟩ (by decide) (by decide)
set_option maxRecDepth 100000 in
set_option maxHeartbeats 4000000 in
theorem c_J5_init0 {a : Nat} (F : Fresh G I L) (ha : G.1 = a + 1) (hsa : G.2.1 a = (1, 0)) (hs : G.2.1 G.1 = (20, 16)) (hb : G.1 + 10 < 1000000) (h0 : I a = fun _ => 0) : Con l D m_J5_init_d00df 2 [.ref a, .int (nI 16)] 1 16 G I L (PG (stp a 0 G) I L) := by
  refine Con.of (by decide +kernel) (by simp [Value.category]) (Nat.le_of_ble_eq_true rfl) (Or.inr (by omega)) (fun X hX hT hI0 => ?_)
  have hX : OK X D cJ5_init_d00df "java/lang/AbstractStringBuilder" 2 := hX
  have hR := RT.room hT
  have hI1 : InInit X := hI0 rfl
  change J X D 2 0 0 _ _ _ 0 [.ref a, .int (nI 16)] []
  have a0 : a < G.1 := by omega
  refine r_aload_n hX dJ5_init_d00df_0 rfl ?_
  refine r_objInit hX hR oi_J5_3 w_oi1 w_oi2 dJ5_init_d00df_1 (Nat.le_of_ble_eq_true rfl) (by decide) ?_
  refine r_gets hX hq_cs gs_J5_18 dJ5_init_d00df_4 ?_
  refine r_if_eq hX dJ5_init_d00df_7 (tgt := 25) (by decide) (fun h => absurd h one_ne) (fun _ => ?_)
  refine r_aload_n hX dJ5_init_d00df_10 rfl ?_
  refine r_iload_n hX dJ5_init_d00df_11 rfl ?_
  refine r_newaP (t := 0) hX hR rfl (by decide) (by decide) w_arr_byte dJ5_init_d00df_12 rfl (by decide) (by decide) (by decide) (by show G.1 + 1 < 1000000; omega) F hs ?_
  refine r_putR hX pf_J5_15 rfl dJ5_init_d00df_14 (by show a < G.1 + 1; omega) (by exact hsa) (Or.inr ⟨_, rfl⟩) ?_
  refine r_aload_n hX dJ5_init_d00df_17 rfl ?_
  refine r_iconst hX dJ5_init_d00df_18 (v := nI 0) (by decide) ?_
  refine r_puts hX pf_J5_22 rfl dJ5_init_d00df_19 (by show a < G.1 + 1; omega) (by exact hsa) (by decide) (by decide) (by rw [h0]; rfl) ?_
  refine r_goto hX dJ5_init_d00df_22 (tgt := 38) (by decide) ?_
  exact r_vret hX hT dJ5_init_d00df_38 ⟨rfl, rfl, rfl, rfl⟩ (by decide) (by decide)
set_option maxRecDepth 100000 in
set_option maxHeartbeats 4000000 in
theorem c_J4_init0 {a : Nat} (F : Fresh G I L) (ha : G.1 = a + 1) (hsa : G.2.1 a = (1, 0)) (hs : G.2.1 G.1 = (20, 16)) (hb : G.1 + 10 < 1000000) (h0 : I a = fun _ => 0) : Con l D m_J4_init_da8c8 3 [.ref a] 1 16 G I L (PG (stp a 0 G) I L) := by
  refine Con.of (by decide +kernel) (by simp [Value.category]) (Nat.le_of_ble_eq_true rfl) (Or.inr (by omega)) (fun X hX hT hI0 => ?_)
  have hX : OK X D cJ4_init_da8c8 "java/lang/StringBuilder" 1 := hX
  have hR := RT.room hT
  have hI1 : InInit X := hI0 rfl
  change J X D 1 0 0 _ _ _ 0 [.ref a] []
  refine r_aload_n hX dJ4_init_da8c8_0 rfl ?_
  refine r_bipush hX dJ4_init_da8c8_1 (v := nI 16) (by decide) ?_
  refine r_callI (y := yJ5_init_d00df) (bytes := cJ5_init_d00df) (maxL := 2) (As := [.int (nI 16)]) hX hR (c_J5_init0 F ha hsa hs hb h0) PG.quiet lk_J4_1 dJ4_init_da8c8_3 rfl rfl (Nat.le_of_ble_eq_true rfl) (by decide) (by decide) (by decide) ?_
  rintro r G' I' L' ⟨e1, rfl, rfl, rfl⟩
  cases e1
  exact r_vret hX hT dJ4_init_da8c8_6 ⟨rfl, rfl, rfl, rfl⟩ (by decide) (by decide)
end Ctor2
/-! the class itself, from nothing on -/
def shF (k : Nat) : Nat × Nat := if k = 61 then (20, 16) else shT k
def g0 : GT := (1, shF, fun _ _ => none)
def iZ : IT := fun _ _ => 0
def lZ : LT := (fun _ _ => 0, fun _ _ => 0)
/-- a house more, in a cell of what is there -/
def thG (a j : Nat) (G : GT) : GT := gPut (hG G.1 (gS G)) a j (some G.1)
theorem Fresh.th {G : GT} {I : IT} {L : LT} {a j : Nat} (q : Fresh G I L) (ha : a < G.1) : Fresh (thG a j G) (hsI G.1 I) L := ((q.g1.hh (Nat.lt_succ_self _)).hi (by show G.1 < G.1 + 16; omega)).put (by show a < G.1 + 16; omega)
theorem Fresh.si {G : GT} {I : IT} {L : LT} {h j : Nat} (q : Fresh G I L) (hh : h < G.1) : Fresh (subG iG h j G) I L := (q.g1.k3 (Nat.lt_succ_self _)).put (by show h < G.1 + 1 + 3; omega)
def sG (a : Nat) (G : GT) : GT := stp a 0 G
theorem Fresh.ss {G : GT} {I : IT} {L : LT} {h j : Nat} (q : Fresh G I L) (hh : h < G.1) : Fresh (subG sG h j G) I L := (q.g1.s1 (Nat.lt_succ_self _)).put (by show h < G.1 + 1 + 1; omega)
def g1 : GT := thG 0 0 g0
def g2 : GT := thG 0 1 g1
def g3 : GT := thG 0 2 g2
def g4 : GT := stp 0 3 g3
def g5 : GT := subG kG 0 4 g4
def g6 : GT := subG iG 0 5 g5
def g7 : GT := subG sG 0 6 g6
def i1 : IT := hsI 1 iZ
def i2 : IT := hsI 17 i1
def i3 : IT := hsI 33 i2
def i7 : IT := up2 (up2 i3 0 10 (-1)) 0 11 (-1)
def gP : Nat → GT
  | 0 => g7
  | i + 1 => thG 49 i (gP i)
def iP : Nat → IT
  | 0 => i7
  | i + 1 => hsI (gP i).1 (iP i)
theorem F_0 : Fresh g0 iZ lZ := fun _ _ => ⟨rfl, rfl, rfl, rfl⟩
theorem F_1 : Fresh g1 i1 lZ := F_0.th (by decide)
theorem F_2 : Fresh g2 i2 lZ := F_1.th (by decide)
theorem F_3 : Fresh g3 i3 lZ := F_2.th (by decide)
theorem F_4 : Fresh g4 i3 lZ := F_3.s1 (by decide)
theorem F_5 : Fresh g5 i3 lZ := F_4.sk (by decide)
theorem F_6 : Fresh g6 i3 lZ := F_5.si (by decide)
theorem F_7 : Fresh g7 i7 lZ := ((F_6.ss (by decide)).up (by decide)).up (by decide)
theorem gP_n : ∀ i, (gP i).1 = 62 + 16 * i := by
  intro i
  induction i with
  | zero => decide
  | succ i ih =>
    show (gP i).1 + 16 = _
    omega
theorem F_P : ∀ i, Fresh (gP i) (iP i) lZ := by
  intro i
  induction i with
  | zero => exact F_7
  | succ i ih => exact ih.th (by rw [gP_n]; omega)
theorem gP_sh : ∀ i, (gP i).2.1 = shF := by
  intro i
  induction i with
  | zero => rfl
  | succ i ih =>
    simp only [gP, thG, gPut, hG, subG, kG, lG, stp, gS]
    exact ih
theorem gP_past : ∀ i, (gP i).2.2 0 3 = some 49 := by
  intro i
  induction i with
  | zero => decide +kernel
  | succ i ih =>
    have hn := gP_n i
    have e : ∀ {R : Nat → Nat → Option Nat} {a j : Nat} {x : Option Nat}, a ≠ 0 → up2 R a j x 0 3 = R 0 3 := fun h => up2_nea (Ne.symm h)
    refine Eq.trans ?_ ih
    simp only [gP, thG, gPut, hG, subG, kG, lG, stp, gS]
    repeat rw [e (by omega)]
theorem sh_house : ∀ i, i < 8 → shF (62 + 16 * i) = (4, 0) ∧ ∀ j, j < 15 → shF (62 + 16 * i + 1 + j) = shHl.getD (1 + j) (99, 0) := by decide +kernel
section Ctor3
variable {l : Launch} {D : DT}
set_option maxRecDepth 100000 in
set_option maxHeartbeats 8000000 in
theorem j_X8_init {X : XT} (hX : OK X D cX8_init "TeaHouse" 2) (hAO : AOX X) (hI1 : InInit X) (hT : RT X l D none (PG (gP 8) (iP 8) lZ) 4 189 1632) : J X D 2 0 0 g0 iZ lZ 0 [.ref 0, .retAddr 0] [] := by
  have hR := RT.room hT
  have loop : ∀ f i, i + f = 8 → ∀ {c w : Nat}, c + 16 * f ≤ 189 → w + 132 * f ≤ 1632 → J X D 2 c w (gP i) (iP i) lZ 106 [.ref 0, .int (nI i)] [] := by
    intro f
    induction f with
    | zero =>
      intro i hi c w hc hw
      have hi : i = 8 := by omega
      subst hi
      refine r_iload_n hX dX8_init_106 rfl ?_
      refine r_bipush hX dX8_init_107 (v := nI 8) (by decide) ?_
      refine r_icmp_ge hX dX8_init_109 (tgt := 131) (by decide) (fun _ => ?_) (fun h => absurd (nI_le (Nat.le_refl 8) (by decide)) h)
      exact r_vret hX hT dX8_init_131 ⟨rfl, rfl, rfl, rfl⟩ (by omega) (by omega)
    | succ f ih =>
      intro i hi c w hc hw
      have hsh := sh_house i (by omega)
      have hn := gP_n i
      have hS := gP_sh i
      have FF := F_P i
      have q1 : (gP i).2.1 (gP i).1 = (4, 0) := by rw [hS, hn]; exact hsh.1
      have q2 : ∀ j, j < 15 → (gP i).2.1 ((gP i).1 + 1 + j) = shHl.getD (1 + j) (99, 0) := fun j hj => by rw [hS, hn]; exact hsh.2 j hj
      refine r_iload_n hX dX8_init_106 rfl ?_
      refine r_bipush hX dX8_init_107 (v := nI 8) (by decide) ?_
      refine r_icmp_ge hX dX8_init_109 (tgt := 131) (by decide) (fun h => absurd h (nI_ge (by omega) (by decide))) (fun _ => ?_)
      refine r_aload_n hX dX8_init_112 rfl ?_
      refine r_getR (z := 0) hX gf_X8_22 rfl dX8_init_113 (by omega) (by rw [hS]; decide) (gP_past i) ?_
      refine r_iload_n hX dX8_init_116 rfl ?_
      refine r_newP hX hR nw_X8_9 dX8_init_117 (by omega) (by omega) (by omega) FF q1 ?_
      refine r_dup hX dX8_init_120 rfl ?_
      refine r_callN (y := yX1_init) (bytes := cX1_init) (maxL := 1) (As := []) hX hR (c_X1_init FF.g1 rfl q1 q2 (show (gP i).1 + 1 + 30 < 1000000 by omega) (FF _ (Nat.le_refl _)).2.1) PG.quiet lk_X8_11 dX8_init_121 rfl rfl (Nat.le_of_ble_eq_true rfl) (by decide) (by omega) (by omega) ?_
      rintro r G' I' L' ⟨e1, rfl, rfl, rfl⟩
      cases e1
      refine r_aast hX dX8_init_124 (a := 49) (n := 8) (z := 0) (by show 49 < (gP i).1 + 16; omega) (by show (gP i).2.1 49 = _; rw [hS]; decide) (by show (gP i).1 < (gP i).1 + 16; omega) (by exact q1) rfl (by omega) (by decide) ?_
      refine r_iinc hX dX8_init_125 (v := nI (i + 1)) (by decide) rfl (by rw [show Int32.ofInt 1 = nI 1 by decide, nI_add]) rfl ?_
      refine r_goto hX dX8_init_128 (tgt := 106) (by decide) ?_
      exact ih (i + 1) (by omega) (by omega) (by omega)
  refine r_aload_n hX dX8_init_0 rfl ?_
  refine r_objInit hX hR oi_X8_3 w_oi1 w_oi2 dX8_init_1 (Nat.le_of_ble_eq_true rfl) (by decide) ?_
  refine r_aload_n hX dX8_init_4 rfl ?_
  refine r_newP hX hR nw_X8_9 dX8_init_5 (by decide) (by decide) (by decide +kernel) F_0 (by decide +kernel) ?_
  refine r_dup hX dX8_init_8 rfl ?_
  refine r_callN (y := yX1_init) (bytes := cX1_init) (maxL := 1) (As := []) hX hR (c_X1_init F_0.g1 rfl (by decide +kernel) (by decide +kernel) (by decide +kernel) (F_0 _ (Nat.le_refl _)).2.1) PG.quiet lk_X8_11 dX8_init_9 rfl rfl (Nat.le_of_ble_eq_true rfl) (by decide) (by decide) (by decide) ?_
  rintro r G' I' L' ⟨e1, rfl, rfl, rfl⟩
  cases e1
  refine r_putF (z := 0) hX hI1 ff_X8_12 rfl dX8_init_12 (by decide +kernel) (by decide +kernel) (Or.inl ⟨_, rfl⟩) ?_
  change J X D 2 _ _ g1 i1 lZ _ _ _
  refine r_aload_n hX dX8_init_15 rfl ?_
  refine r_newP hX hR nw_X8_9 dX8_init_16 (by decide) (by decide) (by decide +kernel) F_1 (by decide +kernel) ?_
  refine r_dup hX dX8_init_19 rfl ?_
  refine r_callN (y := yX1_init) (bytes := cX1_init) (maxL := 1) (As := []) hX hR (c_X1_init F_1.g1 rfl (by decide +kernel) (by decide +kernel) (by decide +kernel) (F_1 _ (Nat.le_refl _)).2.1) PG.quiet lk_X8_11 dX8_init_20 rfl rfl (Nat.le_of_ble_eq_true rfl) (by decide) (by decide) (by decide) ?_
  rintro r G' I' L' ⟨e1, rfl, rfl, rfl⟩
  cases e1
  refine r_putF (z := 0) hX hI1 ff_X8_16 rfl dX8_init_23 (by decide +kernel) (by decide +kernel) (Or.inl ⟨_, rfl⟩) ?_
  change J X D 2 _ _ g2 i2 lZ _ _ _
  refine r_aload_n hX dX8_init_26 rfl ?_
  refine r_newP hX hR nw_X8_9 dX8_init_27 (by decide) (by decide) (by decide +kernel) F_2 (by decide +kernel) ?_
  refine r_dup hX dX8_init_30 rfl ?_
  refine r_callN (y := yX1_init) (bytes := cX1_init) (maxL := 1) (As := []) hX hR (c_X1_init F_2.g1 rfl (by decide +kernel) (by decide +kernel) (by decide +kernel) (F_2 _ (Nat.le_refl _)).2.1) PG.quiet lk_X8_11 dX8_init_31 rfl rfl (Nat.le_of_ble_eq_true rfl) (by decide) (by decide) (by decide) ?_
  rintro r G' I' L' ⟨e1, rfl, rfl, rfl⟩
  cases e1
  refine r_putF (z := 0) hX hI1 ff_X8_19 rfl dX8_init_34 (by decide +kernel) (by decide +kernel) (Or.inl ⟨_, rfl⟩) ?_
  change J X D 2 _ _ g3 i3 lZ _ _ _
  refine r_aload_n hX dX8_init_37 rfl ?_
  refine r_bipush hX dX8_init_38 (v := nI 8) (by decide) ?_
  refine r_newaA hX hR w_cl9 hAO dX8_init_40 rfl (by decide) (by decide) (by decide) (by decide +kernel) F_3 (by decide +kernel) ?_
  refine r_putF (z := 0) hX hI1 ff_X8_22 rfl dX8_init_43 (by decide +kernel) (by decide +kernel) (Or.inr ⟨_, rfl⟩) ?_
  change J X D 2 _ _ g4 i3 lZ _ _ _
  refine r_aload_n hX dX8_init_46 rfl ?_
  refine r_newP hX hR nw_X8_26 dX8_init_47 (by decide) (by decide) (by decide +kernel) F_4 (by decide +kernel) ?_
  refine r_dup hX dX8_init_50 rfl ?_
  refine r_callN (y := yX3_init) (bytes := cX3_init) (maxL := 1) (As := []) hX hR (c_X3_init F_4.g1 rfl (by decide +kernel) (by decide +kernel) (by decide +kernel) (F_4 _ (Nat.le_refl _)).2.1) PG.quiet lk_X8_28 dX8_init_51 rfl rfl (Nat.le_of_ble_eq_true rfl) (by decide) (by decide) (by decide) ?_
  rintro r G' I' L' ⟨e1, rfl, rfl, rfl⟩
  cases e1
  refine r_putF (z := 0) hX hI1 ff_X8_29 rfl dX8_init_54 (by decide +kernel) (by decide +kernel) (Or.inl ⟨_, rfl⟩) ?_
  change J X D 2 _ _ g5 i3 lZ _ _ _
  refine r_aload_n hX dX8_init_57 rfl ?_
  refine r_newP hX hR nw_X8_33 dX8_init_58 (by decide) (by decide) (by decide +kernel) F_5 (by decide +kernel) ?_
  refine r_dup hX dX8_init_61 rfl ?_
  refine r_callN (y := yX2_init) (bytes := cX2_init) (maxL := 1) (As := []) hX hR (c_X2_init F_5.g1 rfl (by decide +kernel) (by decide +kernel) (by decide +kernel) (F_5 _ (Nat.le_refl _)).2.1) PG.quiet lk_X8_35 dX8_init_62 rfl rfl (Nat.le_of_ble_eq_true rfl) (by decide) (by decide) (by decide) ?_
  rintro r G' I' L' ⟨e1, rfl, rfl, rfl⟩
  cases e1
  refine r_putF (z := 0) hX hI1 ff_X8_36 rfl dX8_init_65 (by decide +kernel) (by decide +kernel) (Or.inl ⟨_, rfl⟩) ?_
  change J X D 2 _ _ g6 i3 lZ _ _ _
  refine r_aload_n hX dX8_init_68 rfl ?_
  refine r_newP hX hR nw_X8_40 dX8_init_69 (by decide) (by decide) (by decide +kernel) F_6 (by decide +kernel) ?_
  refine r_dup hX dX8_init_72 rfl ?_
  refine r_callI (y := yJ4_init_da8c8) (bytes := cJ4_init_da8c8) (maxL := 1) (As := []) hX hR (c_J4_init0 F_6.g1 rfl (by decide +kernel) (by decide +kernel) (by decide +kernel) (F_6 _ (Nat.le_refl _)).2.1) PG.quiet lk_X8_42 dX8_init_73 rfl rfl (Nat.le_of_ble_eq_true rfl) (by decide) (by decide) (by decide) ?_
  rintro r G' I' L' ⟨e1, rfl, rfl, rfl⟩
  cases e1
  refine r_putF (z := 0) hX hI1 ff_X8_43 rfl dX8_init_76 (by decide +kernel) (by decide +kernel) (Or.inl ⟨_, rfl⟩) ?_
  change J X D 2 _ _ g7 i3 lZ _ _ _
  refine r_aload_n hX dX8_init_79 rfl ?_
  refine r_iconst hX dX8_init_80 (v := nI 0) (by decide) ?_
  refine r_puts (z := 0) hX pf_X8_47 rfl dX8_init_81 (by decide +kernel) (by decide +kernel) (by decide) (by decide) (by decide +kernel) ?_
  refine r_aload_n hX dX8_init_84 rfl ?_
  refine r_iconst hX dX8_init_85 (v := nI 0) (by decide) ?_
  refine r_puts (z := 0) hX pf_X8_51 rfl dX8_init_86 (by decide +kernel) (by decide +kernel) (by decide) (by decide) (by decide +kernel) ?_
  refine r_aload_n hX dX8_init_89 rfl ?_
  refine r_iconst hX dX8_init_90 (v := nI 0) (by decide) ?_
  refine r_puts (z := 0) hX pf_X8_55 rfl dX8_init_91 (by decide +kernel) (by decide +kernel) (by decide) (by decide) (by decide +kernel) ?_
  refine r_aload_n hX dX8_init_94 rfl ?_
  refine r_iconst hX dX8_init_95 (v := -1) (by decide) ?_
  refine r_putI (z := 0) hX pf_X8_58 rfl dX8_init_96 (by decide +kernel) (by decide +kernel) (by decide) (by decide) ?_
  refine r_aload_n hX dX8_init_99 rfl ?_
  refine r_iconst hX dX8_init_100 (v := -1) (by decide) ?_
  refine r_putI (z := 0) hX pf_X8_61 rfl dX8_init_101 (by decide +kernel) (by decide +kernel) (by decide) (by decide) ?_
  refine r_iconst hX dX8_init_104 (v := nI 0) (by decide) ?_
  refine r_istore_n hX dX8_init_105 (by decide) rfl ?_
  exact loop 8 0 rfl (by decide) (by decide)
end Ctor3
