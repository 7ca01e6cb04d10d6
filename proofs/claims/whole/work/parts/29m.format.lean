section Law
variable {xs : Nat → Int32} {nn : Nat} {X28 : Int32 → IT → LT → Prop} {K : Int32 → IT → LT → Prop} {p : Nat} {I : IT} {L : LT} {T : TS} {t : Nat}
theorem kText_lt (S : KS) (k : Nat) : ∀ c, c ∈ kText S k → c < 128 := by
  have d := fun n => digs_lt 10 n
  unfold kText
  refine ap_lt (ap_lt (ap_lt (ap_lt (ap_lt (ap_lt (ap_lt (ap_lt (ap_lt (ap_lt (one_lt (by decide)) (d _)) (one_lt (by decide))) (d _)) (one_lt (by decide))) (d _)) (one_lt (by decide))) (d _)) (one_lt (by decide))) ?_) ?_
  · split
    · exact nil_lt
    · exact ap_lt (two_lt (by decide) (by decide)) (d _)
  · split
    · exact nil_lt
    · exact one_lt (by decide)
theorem oText_lt (S : OS) (k : Nat) : ∀ c, c ∈ oText S k → c < 128 := by
  have d := fun n => digs_lt 10 n
  unfold oText
  exact ap_lt (ap_lt (ap_lt (ap_lt (ap_lt (ap_lt (ap_lt (ap_lt (ap_lt (one_lt (by decide)) (d _)) (two_lt (by decide) (by decide))) (d _)) (one_lt (by decide))) (d _)) (one_lt (by decide))) (d _)) (two_lt (by decide) (by decide))) (d _)
theorem lText_lt (f : Nat → Nat) : ∀ n c, c ∈ lText f n → c < 128
  | 0, c, h => by simp [lText] at h
  | n + 1, c, h => by
    unfold lText at h
    rcases List.mem_append.mp h with q | q
    · exact lText_lt f n c q
    · split at q
      · exact digs_lt _ _ c q
      · rcases List.mem_cons.mp q with q | q
        · rw [q]; decide
        · exact digs_lt _ _ c q
theorem w_kettle {J : IT} {S : KS} {Kx : Int32 → IT → Prop} {x : Int32} (hM : KM (J 191) S) (w : KW S) (hx : x = nI (ix x)) (hk : ix x < kc S) (hl : ML J []) (k : ∀ J2, ML J2 (kText S (ix x)) → Mw J J2 → Kx (J2 190 6) J2) : f_X9_writes (nI 75) J (fun I6 => f_X9_writesNumber x I6 (fun I7 => f_X9_writes (nI 32) I7 (fun I8 => f_X9_k x (nI 1) I8 (fun x9 => f_X9_writesNumber x9 I8 (fun I10 => f_X9_writes (nI 47) I10 (fun I11 => f_X9_k x (nI 0) I11 (fun x12 => f_X9_writesNumber x12 I11 (fun I13 => f_X9_writes (nI 32) I13 (fun I14 => f_X9_k x (nI 2) I14 (fun x15 => f_X9_writesNumber x15 I14 (fun I16 => f_X9_writes (nI 104) I16 (fun I17 => f_X9_k x (nI 3) I17 (fun x18 => if x18 ≤ 0 then f_X9_formatKettle_b115 x Kx I17 else f_X9_writes (nI 32) I17 (fun I20 => f_X9_writes (nI 98) I20 (fun I21 => f_X9_k x (nI 3) I21 (fun x22 => f_X9_writesNumber x22 I21 (fun I23 => f_X9_formatKettle_b115 x Kx I23))))))))))))))))) := by
  have w1 := w.1
  obtain ⟨u1, u2, u3, u4, u5, u6⟩ := w.2 (ix x) hk
  obtain ⟨v1, v2, v3, v4, v5⟩ := hM.2 (ix x) hk
  generalize ix x = i at *
  subst hx
  have d1 := digs_len 10 i
  have d2 := digs_len 10 (kvol S i)
  have d3 := digs_len 10 (kcap S i)
  have d4 := digs_len 10 (ktmp S i)
  have d5 := digs_len 10 (klev S i)
  have part : ∀ I' l, ML I' l → Mw J I' → l.length ≤ 100 → kText S i = l ++ (if kboi S i = 0 then [] else [33]) → f_X9_formatKettle_b115 (nI i) Kx I' := by
    intro I' l h1 h2 h3 h4
    unfold f_X9_formatKettle_b115
    refine m_k (by omega) (by omega) ?_
    rw [h2.1 191 (by decide) (by decide), v5]
    rcases (show kboi S i = 0 ∨ kboi S i = 1 by omega) with q | q
    · rw [q, if_neg (by decide)]
      rw [if_pos q, List.append_nil] at h4
      rw [h4] at k
      exact k _ h1 h2
    · rw [q, if_pos rfl]
      rw [if_neg (by omega)] at h4
      rw [h4] at k
      exact w_chr h1 h2 (by decide) (by omega) k
  refine w_chr hl Mw.rf (by decide) (by simp) fun I1 l1 m1 => ?_
  refine w_num l1 m1 (by omega) (by simp) fun I2 l2 m2 => ?_
  refine w_chr l2 m2 (by decide) (by simp; omega) fun I3 l3 m3 => ?_
  refine m_k (by omega) (by omega) ?_
  rw [m3.1 191 (by decide) (by decide), v2]
  refine w_num l3 m3 (by omega) (by simp; omega) fun I4 l4 m4 => ?_
  refine w_chr l4 m4 (by decide) (by simp; omega) fun I5 l5 m5 => ?_
  refine m_k (by omega) (by omega) ?_
  rw [m5.1 191 (by decide) (by decide), Nat.add_zero, v1]
  refine w_num l5 m5 (by omega) (by simp; omega) fun I6 l6 m6 => ?_
  refine w_chr l6 m6 (by decide) (by simp; omega) fun I7 l7 m7 => ?_
  refine m_k (by omega) (by omega) ?_
  rw [m7.1 191 (by decide) (by decide), v3]
  refine w_num l7 m7 (by omega) (by simp; omega) fun I8 l8 m8 => ?_
  refine w_chr l8 m8 (by decide) (by simp; omega) fun I9 l9 m9 => ?_
  refine m_k (by omega) (by omega) ?_
  rw [m9.1 191 (by decide) (by decide), v4]
  have q0 := n_le0 (a := klev S i) (by omega)
  simp only [q0]
  split
  · next q => exact part _ _ l9 m9 (by simp; omega) (by unfold kText; rw [if_pos q]; simp)
  · next q =>
    refine w_chr l9 m9 (by decide) (by simp; omega) fun I10 l10 m10 => ?_
    refine w_chr l10 m10 (by decide) (by simp; omega) fun I11 l11 m11 => ?_
    refine m_k (by omega) (by omega) ?_
    rw [m11.1 191 (by decide) (by decide), v4]
    refine w_num l11 m11 (by omega) (by simp; omega) fun I12 l12 m12 => ?_
    exact part _ _ l12 m12 (by simp; omega) (by unfold kText; rw [if_neg q]; simp)
theorem l_formatKettle (hp : p + 5 ≤ nn) (hn : nn ≤ 2560) (hS : ST I T t) (ht : t ≤ 8000) (hX : NX X28 p t) : f_L_law_b3035 xs nn X28 K (nI p) I L := by
  unfold f_L_law_b3035
  simp only [nI_add]
  rw [inr_n (k := p + 1) (by omega), ix_n (n := p + 1) (by omega)]
  refine ⟨by omega, ?_⟩
  generalize xs (p + 1) = x
  unfold f_L_formatKettle f_X8_formatKettle f_X9_formatKettle
  have kw1 := hS.1.1.1.1.1
  refine s_reqK hS.2.1 x (KT := fun E => if E = "java/lang/IndexOutOfBoundsException" then _ else False) (fun q => ?_) (fun q => ?_)
  · rw [if_pos rfl]
    refine m_isKettle hS.2.2.1 hS.1.1.1 x (m_isFine ?_)
    rw [if_pos (by rw [zb_eq0]; exact q), if_neg q]
    unfold f_X9_thrown
    dsimp only
    rw [up2_same, if_pos rfl, if_neg (by decide)]
    exact l_3520 hX (hS.th _) (by omega)
  · obtain ⟨x1, x2, x3⟩ := x_ix (x := x) (by omega)
    have hk : ix x < kc T.h.k := by omega
    refine s_setLen fun I1 l1 m1 => ?_
    have kr : KR I1 2 T.h.k := hS.2.1.1.1.same fun q a b => m1 q (by omega)
    have e0 : f_X3_describe 2 x I1 = f_X3_describe 2 (nI (ix x)) I1 := by rw [← x1]
    rw [e0]
    refine s_descK kr (by decide) hk l1 fun J lJ mJ => ?_
    unfold f_J4_length_8abf5 wrL
    dsimp only
    have mm : Same I J 60 2 := m1.then mJ
    have hM : HM (J 191) T.h := by rw [mm 191 (by decide)]; exact hS.2.2.1
    refine m_isKettle hM hS.1.1.1 x (m_isFine ?_)
    rw [if_neg (by rw [zb_eq0]; exact fun z => z q), if_pos q, wr_p]
    refine w_kettle (S := T.h.k) ?_ hS.1.1.1.1 x1 hk ⟨up2_same, fun j hj => by cases hj⟩ fun J2 l2 m2 => ?_
    · rw [up2_ne (by decide), up2_ne (by decide)]; exact hM.1
    unfold f_X9_thrown
    dsimp only
    have e : J 60 3 = J2 190 6 := by rw [lJ.1, l2.1]
    rw [show J2 190 0 = nI 0 by rw [m2.2 0 (by decide), up2_nej (by decide), up2_same], if_pos rfl, if_pos (by decide)]
    rw [if_pos (by rw [up2_same, e]; exact lg_self _)]
    exact l_3520 hX (hS.ln mm lJ m2 (fun q a => by rw [up2_ne a, up2_ne a]) (fun j a b => by rw [up2_nej b, up2_nej a]) l2 (kText_lt _ _)) (by omega)
theorem w_order {J : IT} {Q : Nat → Nat → Nat} {i : Nat} {Kz : IT → Prop} (hi : i < 10) (hv : ∀ f, f < 5 → J 191 (53 + 5 * i + f) = nI (Q f i)) (hb : ∀ f, f < 5 → Q f i < 2147483648) {l : List Nat} (el : l = [35] ++ digs 10 (Q 0 i) ++ [32, 116] ++ digs 10 (Q 1 i) ++ [32] ++ digs 10 (Q 2 i) ++ [120] ++ digs 10 (Q 3 i) ++ [32, 112] ++ digs 10 (Q 4 i)) (hl : ML J []) (k : ∀ J2, ML J2 l → Mw J J2 → Kz J2) : f_X9_o (nI i) (nI 0) J (fun x5 => f_X9_writesBehind (nI 35) x5 J (fun I6 => f_X9_writes (nI 32) I6 (fun I7 => f_X9_o (nI i) (nI 1) I7 (fun x8 => f_X9_writesBehind (nI 116) x8 I7 (fun I9 => f_X9_o (nI i) (nI 2) I9 (fun x10 => f_X9_writesBehind (nI 32) x10 I9 (fun I11 => f_X9_o (nI i) (nI 3) I11 (fun x12 => f_X9_writesBehind (nI 120) x12 I11 (fun I13 => f_X9_writes (nI 32) I13 (fun I14 => f_X9_o (nI i) (nI 4) I14 (fun x15 => f_X9_writesBehind (nI 112) x15 I14 (fun I16 => Kz I16)))))))))))) := by
  have d1 := digs_len 10 (Q 0 i)
  have d2 := digs_len 10 (Q 1 i)
  have d3 := digs_len 10 (Q 2 i)
  have d4 := digs_len 10 (Q 3 i)
  have d5 := digs_len 10 (Q 4 i)
  refine m_o (by omega) (by omega) ?_
  rw [hv 0 (by decide)]
  refine w_behind hl Mw.rf (by decide) (hb 0 (by decide)) (by simp) fun I1 l1 m1 => ?_
  refine w_chr l1 m1 (by decide) (by simp; omega) fun I2 l2 m2 => ?_
  refine m_o (by omega) (by omega) ?_
  rw [m2.1 191 (by decide) (by decide), hv 1 (by decide)]
  refine w_behind l2 m2 (by decide) (hb 1 (by decide)) (by simp; omega) fun I3 l3 m3 => ?_
  refine m_o (by omega) (by omega) ?_
  rw [m3.1 191 (by decide) (by decide), hv 2 (by decide)]
  refine w_behind l3 m3 (by decide) (hb 2 (by decide)) (by simp; omega) fun I4 l4 m4 => ?_
  refine m_o (by omega) (by omega) ?_
  rw [m4.1 191 (by decide) (by decide), hv 3 (by decide)]
  refine w_behind l4 m4 (by decide) (hb 3 (by decide)) (by simp; omega) fun I5 l5 m5 => ?_
  refine w_chr l5 m5 (by decide) (by simp; omega) fun I6 l6 m6 => ?_
  refine m_o (by omega) (by omega) ?_
  rw [m6.1 191 (by decide) (by decide), hv 4 (by decide)]
  refine w_behind l6 m6 (by decide) (hb 4 (by decide)) (by simp; omega) fun I7 l7 m7 => ?_
  refine k _ ?_ m7
  rw [el]
  simp only [List.append_assoc, List.cons_append, List.nil_append] at l7 ⊢
  exact l7
theorem l_formatOrder (hp : p + 5 ≤ nn) (hn : nn ≤ 2560) (hS : ST I T t) (ht : t ≤ 8000) (hX : NX X28 p t) : f_L_law_b3091 xs nn X28 K (nI p) I L := by
  unfold f_L_law_b3091
  simp only [nI_add]
  rw [inr_n (k := p + 1) (by omega), ix_n (n := p + 1) (by omega)]
  refine ⟨by omega, ?_⟩
  generalize xs (p + 1) = x
  unfold f_L_formatOrder f_X8_formatOrder f_X9_formatOrder
  have w1 := hS.1.1.1.2.1.1
  have w2 := hS.1.1.1.2.1.2.1
  obtain ⟨Q, hQ, hv, hv0, hb0, hb⟩ := hS.2.2.1.2.1.fa hS.1.1.1.2.1
  have o1 : I 191 2 = nI (oc T.h.o) := hS.2.2.1.2.1.1
  refine s_find hS.2.1.1.2.1 x ?_
  have en := hQ.find hS.1.1.1.2.1 x.toInt
  cases e : fndT Q (oc T.h.o) x.toInt with
  | none =>
    rw [e] at en
    have en : findO T.h.o x.toInt = none := en
    rw [en]
    refine s_found (KT := fun E => if E = "java/util/NoSuchElementException" then _ else False) (fun j q => by cases q) (fun _ => ?_) (fun j q => by cases q)
    rw [if_pos rfl]
    refine m_find o1 w1 hv0 hb0 x ?_
    rw [e, optI_none, if_pos (by decide)]
    unfold f_X9_formatOrder_b16
    refine m_fine0 ?_
    rw [if_pos (by decide)]
    unfold f_X9_thrown
    dsimp only
    rw [up2_same, if_pos rfl, if_neg (by decide)]
    exact l_3520 hX (hS.th _) (by omega)
  | some i =>
    rw [e] at en
    have en : findO T.h.o x.toInt = some (rnkO Q (oc T.h.o) i) := en
    have hi := firstN_lt e
    have hr := hQ.lt hi
    have bd := hQ.bd hS.1.1.1.2.1 hi
    rw [en]
    refine s_found (KT := fun E => if E = "java/util/NoSuchElementException" then _ else False) (fun j q => by cases q; omega) (fun q => by cases q) (fun j q => ?_)
    cases q
    refine s_setLen fun I1 l1 m1 => ?_
    have or1 : OR I1 8 T.h.o := hS.2.1.1.2.1.same fun q a b => m1 q (by omega)
    refine s_descO or1 (by decide) hr l1 fun J lJ mJ => ?_
    unfold f_J4_length_8abf5 wrL
    dsimp only
    have mm : Same I J 60 2 := m1.then mJ
    have j191 : J 191 = I 191 := mm 191 (by decide)
    refine m_find (T := Q) (n := oc T.h.o) (by rw [j191]; exact o1) w1 (by rw [j191]; exact hv0) hb0 x ?_
    have hng := n_neg (a := i) (by omega)
    rw [e, optI_some]
    simp only [hng, if_false]
    unfold f_X9_formatOrder_b16
    refine m_fine1 ?_
    rw [if_neg (by decide), wr_p]
    have h5 := fun f hf => hQ.2 i hi f hf
    refine w_order (Q := Q) (l := oText T.h.o (rnkO Q (oc T.h.o) i)) (by omega) (fun f hf => ?_) (fun f hf => ?_) ?_ ⟨up2_same, fun j hj => by cases hj⟩ fun J2 l2 m2 => ?_
    · rw [up2_ne (by decide), up2_ne (by decide), j191]; exact hv i hi f hf
    · have := hb0 i hi
      rcases (show f = 0 ∨ f = 1 ∨ f = 2 ∨ f = 3 ∨ f = 4 by omega) with rfl | rfl | rfl | rfl | rfl <;> omega
    · unfold oText
      rw [h5 0 (by decide), h5 1 (by decide), h5 2 (by decide), h5 3 (by decide), h5 4 (by decide)]
    unfold f_X9_thrown
    dsimp only
    have e2 : J 60 3 = J2 190 6 := by rw [lJ.1, l2.1]
    rw [show J2 190 0 = nI 0 by rw [m2.2 0 (by decide), up2_nej (by decide), up2_same], if_pos rfl, if_pos (by decide)]
    rw [if_pos (by rw [up2_same, e2]; exact lg_self _)]
    exact l_3520 hX (hS.ln mm lJ m2 (fun q a => by rw [up2_ne a, up2_ne a]) (fun j a b => by rw [up2_nej b, up2_nej a]) l2 (oText_lt _ _)) (by omega)
theorem l_formatLedger (hp : p + 5 ≤ nn) (hn : nn ≤ 2560) (hS : ST I T t) (ht : t ≤ 8000) (hX : NX X28 p t) : f_L_law_b3147 xs nn X28 K (nI p) I L := by
  unfold f_L_law_b3147 f_X8_formatLedger f_X9_formatLedger
  have lw := hS.1.1.1.2.2
  have lw1 := lw.1
  have hin := fun k hk => lw.in_le (k := k) hk
  refine s_setLen fun I1 l1 m1 => ?_
  have lr : LR I1 14 T.h.l := hS.2.1.1.2.2.1.same fun q a b => m1 q (by omega)
  refine s_descL lr (by decide) l1 fun J lJ mJ => ?_
  unfold f_J4_length_8abf5
  dsimp only
  have mm : Same I J 60 2 := m1.then mJ
  have j191 : J 191 = I 191 := mm 191 (by decide)
  have e2 : I 191 13 = nI (lc T.h.l) := hS.2.2.1.2.2.1.2.1
  have c2 : ∀ j, j < lc T.h.l → I 191 (19 + j) = nI (lin T.h.l j) := hS.2.2.1.2.2.1.2.2.2.2
  rw [wr_p, wr_p]
  have k191 : (up2 (up2 J 190 0 (nI 0)) 190 6 (nI 0)) 191 = I 191 := by rw [up2_ne (by decide), up2_ne (by decide), j191]
  have loop : ∀ n j I', j ≤ lc T.h.l → lc T.h.l - j < n → ML I' (lText (lin T.h.l) j) → Mw (up2 (up2 J 190 0 (nI 0)) 190 6 (nI 0)) I' → f_X9_formatLedger_b12 (fun x3 I4 => if J 60 3 = x3 then f_L_law_b3520 xs nn X28 K (nI p) I4 L else K (nI 0) I4 L) n (nI j) I' := by
    intro n
    induction n with
    | zero => intro j I' _ hn; omega
    | succ n ih =>
      intro j I' hj hn hL hm
      have i191 : I' 191 = I 191 := by rw [hm.1 191 (by decide) (by decide), k191]
      rw [f_X9_formatLedger_b12, i191, e2]
      have g := n_leP (a := lc T.h.l) (b := j) (by omega) (by omega)
      by_cases e : j = lc T.h.l
      · rw [if_pos (by rw [g]; omega)]
        subst e
        rw [if_pos (by rw [lJ.1, hL.1])]
        exact l_3520 hX (hS.ln mm lJ hm (fun q a => by rw [up2_ne a, up2_ne a]) (fun j a b => by rw [up2_nej b, up2_nej a]) hL (lText_lt _ _)) (by omega)
      · rw [if_neg (by rw [g]; omega)]
        have t1 := lText_len (f := lin T.h.l) (n := j) (fun i hi => hin i (by omega))
        have bj := hin j (by omega)
        have g0 := n_le0 (a := j) (by omega)
        unfold f_X9_formatLedger_b33
        by_cases q : j = 0
        · rw [if_pos (by rw [g0]; exact q), nI_add, inr_n (by omega), ix_n (by omega), i191, c2 j (by omega)]
          refine ⟨by omega, w_num hL hm (by omega) (by omega) fun I2 l2 m2 => ?_⟩
          rw [bnd_p, nI_add]
          refine ih (j + 1) I2 (by omega) (by omega) ?_ m2
          simp only [lText]; rw [if_pos q]; exact l2
        · rw [if_neg (by rw [g0]; exact q)]
          refine w_chr hL hm (by decide) (by omega) fun I2 l2 m2 => ?_
          rw [nI_add, inr_n (by omega), ix_n (by omega), m2.1 191 (by decide) (by decide), k191, c2 j (by omega)]
          refine ⟨by omega, w_num l2 m2 (by omega) (by simp; omega) fun I3 l3 m3 => ?_⟩
          rw [bnd_p, nI_add]
          refine ih (j + 1) I3 (by omega) (by omega) ?_ m3
          simp only [lText]; rw [if_neg q]
          rw [List.append_assoc] at l3; exact l3
  exact loop 4096 0 _ (Nat.zero_le _) (by omega) ⟨up2_same, fun j hj => by cases hj⟩ Mw.rf
end Law
