/-! ===== TeaHouse$Kettles ===== -/
/-- the cells of a Kettles object at a -/
def KG (G : GT) (a : Nat) : Prop := Ob G a 6 ∧ Ar G (a + 1) 2 4 ∧ Ar G (a + 2) 2 4 ∧ Ar G (a + 3) 2 4 ∧ Ar G (a + 4) 2 4 ∧ Ar G (a + 5) 3 4 ∧ G.2.2 a 0 = some (a + 1) ∧ G.2.2 a 1 = some (a + 2) ∧ G.2.2 a 2 = some (a + 3) ∧ G.2.2 a 3 = some (a + 4) ∧ G.2.2 a 4 = some (a + 5)
/-- count; capacities, volumes, temperatures, levels, boiled, by the number -/
abbrev KS : Type := Nat × (Nat → Nat) × (Nat → Nat) × (Nat → Nat) × (Nat → Nat) × (Nat → Nat)
def kc (S : KS) : Nat := S.1
def kcap (S : KS) : Nat → Nat := S.2.1
def kvol (S : KS) : Nat → Nat := S.2.2.1
def ktmp (S : KS) : Nat → Nat := S.2.2.2.1
def klev (S : KS) : Nat → Nat := S.2.2.2.2.1
def kboi (S : KS) : Nat → Nat := S.2.2.2.2.2
section Kmk
variable {c : Nat} {cap vol tmp lev boi : Nat → Nat}
theorem kc_mk : kc (c, cap, vol, tmp, lev, boi) = c := rfl
theorem kcap_mk : kcap (c, cap, vol, tmp, lev, boi) = cap := rfl
theorem kvol_mk : kvol (c, cap, vol, tmp, lev, boi) = vol := rfl
theorem ktmp_mk : ktmp (c, cap, vol, tmp, lev, boi) = tmp := rfl
theorem klev_mk : klev (c, cap, vol, tmp, lev, boi) = lev := rfl
theorem kboi_mk : kboi (c, cap, vol, tmp, lev, boi) = boi := rfl
end Kmk
def KW (S : KS) : Prop := kc S ≤ 4 ∧ ∀ k, k < kc S → kcap S k ≤ 32 ∧ kvol S k ≤ kcap S k ∧ 40 ≤ ktmp S k ∧ ktmp S k ≤ 200 ∧ klev S k ≤ 5 ∧ kboi S k ≤ 1
def KR (I : IT) (a : Nat) (S : KS) : Prop := KW S ∧ I a 5 = nI (kc S) ∧ ∀ k, k < kc S → I (a + 1) k = nI (kcap S k) ∧ I (a + 2) k = nI (kvol S k) ∧ I (a + 3) k = nI (ktmp S k) ∧ I (a + 4) k = nI (klev S k) ∧ I (a + 5) k = nI (kboi S k)
def setN (f : Nat → Nat) (k v : Nat) : Nat → Nat := fun i => if i = k then v else f i
theorem setN_at (f : Nat → Nat) (k v : Nat) : setN f k v k = v := if_pos rfl
theorem setN_ne {f : Nat → Nat} {k v i : Nat} (h : i ≠ k) : setN f k v i = f i := if_neg h
def heatN (t l : Nat) : Nat := max 40 (min 200 (t + 3 * l - 1))
def tmpN (S : KS) (k : Nat) : Nat := if kvol S k = 0 then 40 else heatN (ktmp S k) (klev S k)
def boiN (S : KS) (k : Nat) : Nat := if 0 < kvol S k ∧ tmpN S k = 200 ∧ 0 < klev S k then 1 else 0
def vapN (S : KS) (k : Nat) : Nat := if boiN S k = 1 then min (klev S k) (kvol S k) else 0
def passK (S : KS) (k : Nat) : KS := (kc S, kcap S, setN (kvol S) k (kvol S k - vapN S k), setN (ktmp S) k (tmpN S k), klev S, setN (kboi S) k (boiN S k))
section K
variable {l : Launch} {D : DT} {G : GT} {I : IT} {L : LT} {a : Nat} {S : KS}
set_option maxRecDepth 100000 in
set_option maxHeartbeats 4000000 in
theorem c_Krise (hG : KG G a) {k : Nat} (hk : k < 4) : Con l D m_X3_rise 1 [.ref a, .int (nI k)] 0 0 G I L (Pq G L fun v I' => v = some (.int (nI 3 * I (a + 4) k - nI 1)) ∧ I' = I) := by
  obtain ⟨⟨h0, s0⟩, ⟨h1, s1⟩, ⟨h2, s2⟩, ⟨h3, s3⟩, ⟨h4, s4⟩, ⟨h5, s5⟩, f0, f1, f2, f3, f4⟩ := hG
  refine Con.of (by decide +kernel) (by simp [Value.category]) (by simp [m_X3_rise]) (Or.inl rfl) (fun X hX hT hI => ?_)
  have hX : OK X D cX3_rise "TeaHouse$Kettles" 2 := hX
  have hR := hT.room
  have hI : yX3_rise.name = "<init>" → InInit X := hI
  change J X D 2 0 0 _ _ _ 0 [_, _] []
  refine r_iconst hX dX3_rise_0 (v := nI 3) (by decide) ?_
  refine r_aload_n hX dX3_rise_1 rfl ?_
  refine r_getR hX gf_X3_21 rfl dX3_rise_2 (by assumption) (by assumption) (by assumption) ?_
  refine r_iload_n hX dX3_rise_5 rfl ?_
  refine r_iald hX dX3_rise_6 (by assumption) (by assumption) rfl (by omega) (by decide) ?_
  refine r_imul hX dX3_rise_7 ?_
  refine r_iconst hX dX3_rise_8 (v := nI 1) (by decide) ?_
  refine r_isub hX dX3_rise_9 ?_
  exact r_iretQ hX hT dX3_rise_10 rfl ⟨rfl, rfl⟩
theorem heat_eq {t l : Nat} (ht : 40 ≤ t) (ht2 : t ≤ 200) (hl : l ≤ 5) : (if nI 40 < (if nI t + (nI 3 * nI l - nI 1) < nI 200 then nI t + (nI 3 * nI l - nI 1) else nI 200) then (if nI t + (nI 3 * nI l - nI 1) < nI 200 then nI t + (nI 3 * nI l - nI 1) else nI 200) else nI 40) = nI (heatN t l) := by
  rw [pk_mul, n_addsub (by omega)]
  unfold heatN
  by_cases h : t + 3 * l - 1 < 200
  · rw [if_pos ((nI_ltI (by omega) (by omega)).mpr h)]
    by_cases h2 : 40 < t + 3 * l - 1
    · rw [if_pos ((nI_ltI (by omega) (by omega)).mpr h2)]
      congr 1; omega
    · rw [if_neg (fun q => h2 ((nI_ltI (by omega) (by omega)).mp q))]
      congr 1; omega
  · rw [if_neg (fun q => h ((nI_ltI (by omega) (by omega)).mp q)), if_pos ((nI_ltI (by omega) (by omega)).mpr (by omega))]
    congr 1; omega
set_option maxRecDepth 100000 in
set_option maxHeartbeats 4000000 in
theorem c_Kheated (hG : KG G a) (hS : KR I a S) {k : Nat} (hk : k < kc S) : Con l D m_X3_heated 2 [.ref a, .int (nI k)] 0 0 G I L (Pq G L fun v I' => v = some (.int (nI (heatN (ktmp S k) (klev S k)))) ∧ I' = I) := by
  have hG0 := hG
  obtain ⟨⟨h0, s0⟩, ⟨h1, s1⟩, ⟨h2, s2⟩, ⟨h3, s3⟩, ⟨h4, s4⟩, ⟨h5, s5⟩, f0, f1, f2, f3, f4⟩ := hG
  obtain ⟨⟨w1, w2⟩, hc, hv⟩ := hS
  obtain ⟨v1, v2, v3, v4, v5⟩ := hv k hk
  obtain ⟨u1, u2, u3, u4, u5, u6⟩ := w2 k hk
  refine Con.of (by decide +kernel) (by simp [Value.category]) (by simp [m_X3_heated]) (Or.inl rfl) (fun X hX hT hI => ?_)
  have hX : OK X D cX3_heated "TeaHouse$Kettles" 2 := hX
  have hR := hT.room
  have hI : yX3_heated.name = "<init>" → InInit X := hI
  change J X D 2 0 0 _ _ _ 0 [_, _] []
  refine r_bipush hX dX3_heated_0 (v := nI 40) (by decide) ?_
  refine r_sipush hX dX3_heated_2 (v := nI 200) (by decide) ?_
  refine r_aload_n hX dX3_heated_5 rfl ?_
  refine r_getR hX gf_X3_18 rfl dX3_heated_6 (by assumption) (by assumption) (by assumption) ?_
  refine r_iload_n hX dX3_heated_9 rfl ?_
  refine r_iald hX dX3_heated_10 (by assumption) (by assumption) rfl (by omega) (by decide) ?_
  refine r_aload_n hX dX3_heated_11 rfl ?_
  refine r_iload_n hX dX3_heated_12 rfl ?_
  refine r_Vq hX hR (c_Krise (I := I) hG0 (k := k) (by omega)) lk_X3_42 (rc_K (by assumption) (by assumption)) dX3_heated_13 rfl rfl (Nat.le_of_ble_eq_true rfl) (by decide) (by omega) (by omega) ?_
  rintro _ _ ⟨rfl, rfl⟩
  refine r_iadd hX dX3_heated_16 ?_
  refine r_min hX hR mm_X3_36 w_min1 w_math w_min2 dX3_heated_17 (Nat.le_of_ble_eq_true rfl) (by omega) (by omega) (by omega) ?_
  refine r_max hX hR mm_X3_45 w_max1 w_math w_max2 dX3_heated_20 (Nat.le_of_ble_eq_true rfl) (by omega) (by omega) (by omega) ?_
  exact r_iretQ hX hT dX3_heated_23 rfl ⟨by rw [v3, v4, heat_eq u3 u4 u5], rfl⟩
set_option maxRecDepth 100000 in
set_option maxHeartbeats 4000000 in
/-- has(x), for any x -/
theorem c_Khas (hG : KG G a) (hS : KR I a S) (x : Int32) : Con l D m_X3_has 1 [.ref a, .int x] 0 0 G I L (Pq G L fun v I' => v = some (.int (if 0 ≤ x.toInt ∧ x.toInt < kc S then nI 1 else nI 0)) ∧ I' = I) := by
  obtain ⟨⟨h0, s0⟩, ⟨h1, s1⟩, ⟨h2, s2⟩, ⟨h3, s3⟩, ⟨h4, s4⟩, ⟨h5, s5⟩, f0, f1, f2, f3, f4⟩ := hG
  obtain ⟨⟨w1, w2⟩, hc, hv⟩ := hS
  refine Con.of (by decide +kernel) (by simp [Value.category]) (by simp [m_X3_has]) (Or.inl rfl) (fun X hX hT hI => ?_)
  have hX : OK X D cX3_has "TeaHouse$Kettles" 2 := hX
  have hR := hT.room
  have hI : yX3_has.name = "<init>" → InInit X := hI
  change J X D 2 0 0 _ _ _ 0 [_, _] []
  refine r_iload_n hX dX3_has_0 rfl ?_
  refine r_if_lt hX dX3_has_1 (tgt := 16) (by decide) (fun q1 => ?_) (fun q1 => ?_)
  · refine r_iconst hX dX3_has_16 (v := nI 0) (by decide) ?_
    rw [xz_lt] at q1
    exact r_iretQ hX hT dX3_has_17 rfl ⟨by rw [if_neg (by omega)], rfl⟩
  · refine r_iload_n hX dX3_has_4 rfl ?_
    refine r_aload_n hX dX3_has_5 rfl ?_
    refine r_getI hX gf_X3_28 rfl dX3_has_6 (by assumption) (by assumption) ?_
    rw [hc]
    refine r_icmp_ge hX dX3_has_9 (tgt := 16) (by decide) (fun q2 => ?_) (fun q2 => ?_)
    · refine r_iconst hX dX3_has_16 (v := nI 0) (by decide) ?_
      rw [nx_le (by omega)] at q2
      exact r_iretQ hX hT dX3_has_17 rfl ⟨by rw [if_neg (by omega)], rfl⟩
    · refine r_iconst hX dX3_has_12 (v := nI 1) (by decide) ?_
      refine r_goto hX dX3_has_13 (tgt := 17) (by decide) ?_
      rw [nx_le (by omega)] at q2
      rw [xz_lt] at q1
      exact r_iretQ hX hT dX3_has_17 rfl ⟨by rw [if_pos (by omega)], rfl⟩
set_option maxRecDepth 100000 in
set_option maxHeartbeats 4000000 in
theorem c_KpassMinute (hG : KG G a) (hS : KR I a S) {k : Nat} (hk : k < kc S) : Con l D m_X3_passMinute 3 [.ref a, .int (nI k)] 0 0 G I L (Pq G L fun v I' => v = some (.int (nI (vapN S k))) ∧ KR I' a (passK S k) ∧ Same I I' a 6) := by
  have hG0 := hG
  have hS0 := hS
  obtain ⟨⟨h0, s0⟩, ⟨h1, s1⟩, ⟨h2, s2⟩, ⟨h3, s3⟩, ⟨h4, s4⟩, ⟨h5, s5⟩, f0, f1, f2, f3, f4⟩ := hG
  obtain ⟨⟨w1, w2⟩, hc, hv⟩ := hS
  obtain ⟨v1, v2, v3, v4, v5⟩ := hv k hk
  obtain ⟨u1, u2, u3, u4, u5, u6⟩ := w2 k hk
  have b1 : boiN S k ≤ 1 := by unfold boiN; split <;> omega
  have b2 : 40 ≤ tmpN S k ∧ tmpN S k ≤ 200 := by unfold tmpN heatN; split <;> omega
  have b3 : vapN S k ≤ kvol S k := by unfold vapN; split <;> omega
  -- the end, with the memory as it is then
  have fin : ∀ I' : IT, I' = up2 (up2 (up2 I (a + 3) k (nI (tmpN S k))) (a + 5) k (nI (boiN S k))) (a + 2) k (nI (kvol S k) - nI (vapN S k)) → KR I' a (passK S k) ∧ Same I I' a 6 := by
    rintro I' rfl
    rw [n_sub b3]
    refine ⟨⟨⟨w1, fun j hj => ?_⟩, by simp (disch := omega) only [up2_nea]; exact hc, fun j hj => ?_⟩, ((Same.rf.up (by omega) (by omega)).up (by omega) (by omega)).up (by omega) (by omega)⟩
    · obtain ⟨z1, z2, z3, z4, z5, z6⟩ := w2 j hj
      by_cases e : j = k
      · subst e; simp only [passK, kc_mk, kcap_mk, kvol_mk, ktmp_mk, klev_mk, kboi_mk, setN_at]; omega
      · simp only [passK, kc_mk, kcap_mk, kvol_mk, ktmp_mk, klev_mk, kboi_mk, setN_ne e]; omega
    · obtain ⟨z1, z2, z3, z4, z5⟩ := hv j hj
      by_cases e : j = k
      · subst e; simp (disch := omega) only [passK, kc_mk, kcap_mk, kvol_mk, ktmp_mk, klev_mk, kboi_mk, setN_at, up2_nea, up2_same]; exact ⟨z1, trivial, trivial, z4, trivial⟩
      · simp (disch := first | omega | assumption) only [passK, kc_mk, kcap_mk, kvol_mk, ktmp_mk, klev_mk, kboi_mk, setN_ne e, up2_nea, up2_nej]; exact ⟨z1, z2, z3, z4, z5⟩
  refine Con.of (by decide +kernel) (by simp [Value.category]) (by simp [m_X3_passMinute]) (Or.inl rfl) (fun X hX hT hI => ?_)
  have hX : OK X D cX3_passMinute "TeaHouse$Kettles" 3 := hX
  have hR := hT.room
  have hI : yX3_passMinute.name = "<init>" → InInit X := hI
  change J X D 3 0 0 _ _ _ 0 [_, _, _] []
  refine r_aload_n hX dX3_passMinute_0 rfl ?_
  refine r_getR hX gf_X3_18 rfl dX3_passMinute_1 (by assumption) (by assumption) (by assumption) ?_
  refine r_iload_n hX dX3_passMinute_4 rfl ?_
  refine r_aload_n hX dX3_passMinute_5 rfl ?_
  refine r_getR hX gf_X3_15 rfl dX3_passMinute_6 (by assumption) (by assumption) (by assumption) ?_
  refine r_iload_n hX dX3_passMinute_9 rfl ?_
  refine r_iald hX dX3_passMinute_10 (by assumption) (by assumption) rfl (by omega) (by decide) ?_
  rw [v2]
  have part2 : J X D 3 0 0 G (up2 I (a + 3) k (nI (tmpN S k))) L 25 [.ref a, .int (nI k), .retAddr 0] [] := by
    refine r_aload_n hX dX3_passMinute_25 rfl ?_
    refine r_getR hX gf_X3_24 rfl dX3_passMinute_26 (by assumption) (by assumption) (by assumption) ?_
    refine r_iload_n hX dX3_passMinute_29 rfl ?_
    refine r_aload_n hX dX3_passMinute_30 rfl ?_
    refine r_getR hX gf_X3_15 rfl dX3_passMinute_31 (by assumption) (by assumption) (by assumption) ?_
    refine r_iload_n hX dX3_passMinute_34 rfl ?_
    refine r_iald hX dX3_passMinute_35 (by assumption) (by assumption) rfl (by omega) (by decide) ?_
    have part3 : J X D 3 0 0 G (up2 I (a + 3) k (nI (tmpN S k))) L 65 [.ref a, .int (nI k), .retAddr 0] [.int (nI (boiN S k)), .int (nI k), .ref (a + 5)] := by
      refine r_zast hX dX3_passMinute_65 (by assumption) (by assumption) rfl (by omega) (by decide) (show vp_nar .boolean (nI (boiN S k)) = nI (boiN S k) by rcases (show boiN S k = 0 ∨ boiN S k = 1 by omega) with e | e <;> rw [e] <;> rfl) ?_
      refine r_aload_n hX dX3_passMinute_66 rfl ?_
      refine r_getR hX gf_X3_24 rfl dX3_passMinute_67 (by assumption) (by assumption) (by assumption) ?_
      refine r_iload_n hX dX3_passMinute_70 rfl ?_
      refine r_zald hX dX3_passMinute_71 (by assumption) (by assumption) rfl (by omega) (by decide) ?_
      rw [up2_same]
      have part4 : J X D 3 0 0 G (up2 (up2 I (a + 3) k (nI (tmpN S k))) (a + 5) k (nI (boiN S k))) L 94 [.ref a, .int (nI k), .retAddr 0] [.int (nI (vapN S k))] := by
        refine r_istore_n hX dX3_passMinute_94 (by decide) (ls' := [_, _, _]) rfl ?_
        refine r_aload_n hX dX3_passMinute_95 rfl ?_
        refine r_getR hX gf_X3_15 rfl dX3_passMinute_96 (by assumption) (by assumption) (by assumption) ?_
        refine r_iload_n hX dX3_passMinute_99 rfl ?_
        refine r_dup2 hX dX3_passMinute_100 rfl rfl ?_
        refine r_iald hX dX3_passMinute_101 (by assumption) (by assumption) rfl (by omega) (by decide) ?_
        refine r_iload_n hX dX3_passMinute_102 rfl ?_
        refine r_isub hX dX3_passMinute_103 ?_
        refine r_iast hX dX3_passMinute_104 (by assumption) (by assumption) rfl (by omega) (by decide) rfl ?_
        simp (disch := omega) only [up2_nea]
        rw [v2]
        refine r_iload_n hX dX3_passMinute_105 rfl ?_
        exact r_iretQ hX hT dX3_passMinute_106 rfl ⟨rfl, fin _ rfl⟩
      refine r_if_eq hX dX3_passMinute_72 (tgt := 93) (by decide) (fun q => ?_) (fun q => ?_)
      · rw [nz_eq (by omega)] at q
        refine r_iconst hX dX3_passMinute_93 (v := nI 0) (by decide) ?_
        have e : vapN S k = 0 := by unfold vapN; rw [if_neg (by omega)]
        rw [e] at part4
        exact part4
      · rw [nz_eq (by omega)] at q
        refine r_aload_n hX dX3_passMinute_75 rfl ?_
        refine r_getR hX gf_X3_21 rfl dX3_passMinute_76 (by assumption) (by assumption) (by assumption) ?_
        refine r_iload_n hX dX3_passMinute_79 rfl ?_
        refine r_iald hX dX3_passMinute_80 (by assumption) (by assumption) rfl (by omega) (by decide) ?_
        refine r_aload_n hX dX3_passMinute_81 rfl ?_
        refine r_getR hX gf_X3_15 rfl dX3_passMinute_82 (by assumption) (by assumption) (by assumption) ?_
        refine r_iload_n hX dX3_passMinute_85 rfl ?_
        refine r_iald hX dX3_passMinute_86 (by assumption) (by assumption) rfl (by omega) (by decide) ?_
        refine r_min hX hR mm_X3_36 w_min1 w_math w_min2 dX3_passMinute_87 (Nat.le_of_ble_eq_true rfl) (by omega) (by omega) (by omega) ?_
        refine r_goto hX dX3_passMinute_90 (tgt := 94) (by decide) ?_
        simp (disch := omega) only [up2_nea]
        rw [v2, v4]
        have e : (if nI (kvol S k) < nI (klev S k) then nI (kvol S k) else nI (klev S k)) = nI (vapN S k) := by
          unfold vapN
          rw [if_pos (show boiN S k = 1 by omega)]
          split
          · next h => rw [nI_ltI (by omega) (by omega)] at h; congr 1; omega
          · next h => rw [nI_ltI (by omega) (by omega)] at h; congr 1; omega
        rw [e]
        exact part4
    simp (disch := omega) only [up2_nea]
    rw [v2]
    refine r_if_le hX dX3_passMinute_36 (tgt := 64) (by decide) (fun q => ?_) (fun q => ?_)
    · rw [nz_le (by omega)] at q
      refine r_iconst hX dX3_passMinute_64 (v := nI 0) (by decide) ?_
      have e : boiN S k = 0 := by unfold boiN; rw [if_neg (by omega)]
      rw [e] at part3
      exact part3
    · rw [nz_le (by omega)] at q
      refine r_aload_n hX dX3_passMinute_39 rfl ?_
      refine r_getR hX gf_X3_18 rfl dX3_passMinute_40 (by assumption) (by assumption) (by assumption) ?_
      refine r_iload_n hX dX3_passMinute_43 rfl ?_
      refine r_iald hX dX3_passMinute_44 (by assumption) (by assumption) rfl (by omega) (by decide) ?_
      refine r_sipush hX dX3_passMinute_45 (v := nI 200) (by decide) ?_
      rw [up2_same]
      refine r_icmp_ne hX dX3_passMinute_48 (tgt := 64) (by decide) (fun q2 => ?_) (fun q2 => ?_)
      · rw [nI_eq (by omega) (by omega)] at q2
        refine r_iconst hX dX3_passMinute_64 (v := nI 0) (by decide) ?_
        have e : boiN S k = 0 := by unfold boiN; rw [if_neg (by omega)]
        rw [e] at part3
        exact part3
      · rw [nI_eq (by omega) (by omega)] at q2
        refine r_aload_n hX dX3_passMinute_51 rfl ?_
        refine r_getR hX gf_X3_21 rfl dX3_passMinute_52 (by assumption) (by assumption) (by assumption) ?_
        refine r_iload_n hX dX3_passMinute_55 rfl ?_
        refine r_iald hX dX3_passMinute_56 (by assumption) (by assumption) rfl (by omega) (by decide) ?_
        simp (disch := omega) only [up2_nea]
        rw [v4]
        refine r_if_le hX dX3_passMinute_57 (tgt := 64) (by decide) (fun q3 => ?_) (fun q3 => ?_)
        · rw [nz_le (by omega)] at q3
          refine r_iconst hX dX3_passMinute_64 (v := nI 0) (by decide) ?_
          have e : boiN S k = 0 := by unfold boiN; rw [if_neg (by omega)]
          rw [e] at part3
          exact part3
        · rw [nz_le (by omega)] at q3
          refine r_iconst hX dX3_passMinute_60 (v := nI 1) (by decide) ?_
          refine r_goto hX dX3_passMinute_61 (tgt := 65) (by decide) ?_
          have e : boiN S k = 1 := by unfold boiN; rw [if_pos (by omega)]
          rw [e] at part3
          exact part3
  refine r_if_ne hX dX3_passMinute_11 (tgt := 19) (by decide) (fun q => ?_) (fun q => ?_)
  · rw [nz_eq (by omega)] at q
    refine r_aload_n hX dX3_passMinute_19 rfl ?_
    refine r_iload_n hX dX3_passMinute_20 rfl ?_
    refine r_Vq hX hR (c_Kheated (I := I) hG0 hS0 hk) lk_X3_32 (rc_K (by assumption) (by assumption)) dX3_passMinute_21 rfl rfl (Nat.le_of_ble_eq_true rfl) (by decide) (by omega) (by omega) ?_
    rintro _ _ ⟨rfl, rfl⟩
    refine r_iast hX dX3_passMinute_24 (by assumption) (by assumption) rfl (by omega) (by decide) rfl ?_
    have e : tmpN S k = heatN (ktmp S k) (klev S k) := by unfold tmpN; rw [if_neg (by omega)]
    rw [e] at part2
    exact part2
  · rw [nz_eq (by omega)] at q
    refine r_bipush hX dX3_passMinute_14 (v := nI 40) (by decide) ?_
    refine r_goto hX dX3_passMinute_16 (tgt := 24) (by decide) ?_
    refine r_iast hX dX3_passMinute_24 (by assumption) (by assumption) rfl (by omega) (by decide) rfl ?_
    have e : tmpN S k = 40 := by unfold tmpN; rw [if_pos (by omega)]
    rw [e] at part2
    exact part2
end K

