/-! ===== what is typed, what is written ===== -/
theorem c16_n {n : Nat} (h : n < 65536) : ((nI n).toUInt32 % 65536).toInt32 = nI n := by
  apply Int32.toInt_inj.mp
  rw [nI_toInt (by omega)]
  have e : (nI n).toUInt32.toNat = n := by
    show (Int32.ofNat n).toUInt32.toNat = n
    rw [show (Int32.ofNat n).toUInt32 = UInt32.ofNat n from rfl, UInt32.toNat_ofNat_of_lt' (by show n < 2 ^ 32; omega)]
  have e2 : ((nI n).toUInt32 % 65536).toNat = n := by rw [UInt32.toNat_mod, e]; exact Nat.mod_eq_of_lt h
  show ((nI n).toUInt32 % 65536).toBitVec.toInt = _
  rw [BitVec.toInt_eq_toNat_of_lt (by show 2 * ((nI n).toUInt32 % 65536).toNat < _; omega)]
  show (((nI n).toUInt32 % 65536).toNat : Int) = n
  rw [e2]
theorem c16_ex (x : Int32) : ∃ c, c < 65536 ∧ (x.toUInt32 % 65536).toInt32 = nI c := by
  have h : (x.toUInt32 % 65536).toNat < 65536 := by rw [UInt32.toNat_mod]; exact Nat.mod_lt _ (by decide)
  refine ⟨(x.toUInt32 % 65536).toNat, h, ?_⟩
  apply Int32.toInt_inj.mp
  rw [nI_toInt (by omega)]
  show (x.toUInt32 % 65536).toBitVec.toInt = _
  rw [BitVec.toInt_eq_toNat_of_lt (by show 2 * (x.toUInt32 % 65536).toNat < _; omega)]
  rfl
theorem KCR.alt {I I' : IT} {T T' : TS} (h : KCR I T) (e : ∀ q, 0 < q → (q < 50 ∨ (62 ≤ q ∧ q < 190)) → I' q = I q) (e0 : ∀ j, 7 ≤ j → j ≤ 9 → I' 0 j = I 0 j) (eh : T'.h = T.h) (ec : T'.pc = T.pc) (ep : T'.p = T.p) (es : T'.sv = T.sv) (h10 : I' 0 10 = optI T'.ma) (h11 : I' 0 11 = optI T'.fa) (hl : LN I' T'.ln) (ht : I' 56 3 = nI T'.tx.length ∧ ∀ j, j < T'.tx.length → I' 57 j = nI (T'.tx.getD j 0)) : KCR I' T' := by
  obtain ⟨a1, ⟨n, n1, n2, n3, n4⟩, a3, a4, a5, a6, a7, a8⟩ := h
  refine ⟨?_, ⟨n, n1, ?_, ?_, fun i hi => ?_⟩, ?_, h10, h11, hl, ht, fun a ha => ?_⟩
  · rw [eh]; exact a1.same fun q x y => e q (by omega) (by omega)
  · rw [e0 9 (by omega) (by omega)]; exact n2
  · rw [e0 8 (by omega) (by omega), ec]; exact n3
  · rw [ep]; rw [ec] at hi; exact (n4 i hi).same fun q x y => e q (by omega) (by omega)
  · rw [es]
    cases c : T.sv with
    | none => rw [c] at a3; show I' 0 7 = nI 0; rw [e0 7 (by omega) (by omega)]; exact a3
    | some S =>
      rw [c] at a3
      exact ⟨by rw [e0 7 (by omega) (by omega)]; exact a3.1, a3.2.same fun q x y => e q (by omega) (by omega)⟩
  · rw [e (a + 15) (by omega) (by rcases ha with q | q | q | ⟨k, q1, q2⟩ <;> omega)]; exact a8 a ha
theorem MR.alt {I I' : IT} {T T' : TS} (h : MR I T) (e : I' 191 = I 191) (e2 : I' 190 2 = I 190 2) (e3 : I' 190 3 = I 190 3) (eh : T'.h = T.h) (ec : T'.pc = T.pc) (ep : T'.p = T.p) (es : T'.sv = T.sv) (h11 : I' 190 11 = optI T'.ma) (h12 : I' 190 12 = optI T'.fa) (hl : I' 190 6 = nI T'.ln.length ∧ ∀ j, j < T'.ln.length → I' 192 j = nI (T'.ln.getD j 0)) (ht : I' 190 8 = nI T'.tx.length ∧ ∀ j, j < T'.tx.length → I' 193 j = nI (T'.tx.getD j 0)) : MR I' T' := by
  have er : row I' = row I := by unfold row; rw [e]
  obtain ⟨a1, a2, a3, a4, a5, a6, a7, a8⟩ := h
  refine ⟨by rw [e, eh]; exact a1, by rw [e2, ec]; exact a2, fun i hi => ?_, ?_, h11, h12, hl, ht⟩
  · rw [er, ec, ep]; rw [ec] at hi; exact a3 i hi
  · rw [es]
    cases c : T.sv with
    | none => rw [c] at a4; show I' 190 3 = nI 0; rw [e3]; exact a4
    | some S =>
      rw [c] at a4
      show I' 190 3 = nI 1 ∧ HM (row I' 9) S
      rw [er]
      exact ⟨by rw [e3]; exact a4.1, a4.2⟩
theorem put_getD {l : List Nat} {c j : Nat} (h : j < l.length) : (l ++ [c]).getD j 0 = l.getD j 0 := by
  simp only [List.getD_eq_getElem?_getD]
  rw [List.getElem?_append_left h]
theorem put_last {l : List Nat} {c : Nat} : (l ++ [c]).getD l.length 0 = c := by simp
def TS.typ (T : TS) (c : Nat) : TS := ⟨T.h, T.pc, T.p, T.sv, T.ma, T.fa, T.tx ++ [c], T.ln⟩
def TS.lin (T : TS) (l : List Nat) : TS := ⟨T.h, T.pc, T.p, T.sv, T.ma, T.fa, T.tx, l⟩
section Law
variable {xs : Nat → Int32} {nn : Nat} {X28 : Int32 → IT → LT → Prop} {K : Int32 → IT → LT → Prop} {p : Nat} {I : IT} {L : LT} {T : TS} {t : Nat}
theorem l_append (hp : p + 5 ≤ nn) (hn : nn ≤ 2560) (hS : ST I T t) (ht : t ≤ 8000) (hX : NX X28 p t) : f_L_law_b3216 xs nn X28 K (nI p) I L := by
  unfold f_L_law_b3216
  simp only [nI_add]
  rw [inr_n (k := p + 1) (by omega), ix_n (n := p + 1) (by omega)]
  refine ⟨by omega, ?_⟩
  obtain ⟨c, hc, hx⟩ := c16_ex (xs (p + 1))
  rw [hx]
  unfold f_L_append f_X8_append f_X9_append f_X8_append_b12
  have hl60 := hS.1.2.2.2.2.2.2.1
  obtain ⟨c1, c2⟩ := hS.2.1.2.2.2.2.2.2.1
  obtain ⟨d1, d2⟩ := hS.2.2.2.2.2.2.2.2.2
  have g1 := n_ltP (a := c) (b := 32) (by omega) (by omega)
  have g2 := n_leP (a := c) (b := 126) (by omega) (by omega)
  have hct : (nI c).toInt = c := nI_toInt (by omega)
  have bad : ¬ (32 ≤ c ∧ c ≤ 126) → f_X9_in (nI c) (nI 32) (nI 126) I (fun x1 => if x1 = 0 then f_X9_append_b30 (nI c) (fun x5 I6 => f_X9_thrown I6 (fun x7 => if x7 = nI 1 then if nI 1 = 0 then if lg_cmp (L.1 195 0) x5.toInt64 = 0 then f_L_law_b3520 xs nn X28 K (nI p) I6 L else K (nI 0) I6 L else f_L_law_b3520 xs nn X28 K (nI p) I6 L else K (nI 0) I6 L)) (nI 1) I else if I 190 8 = nI 60 then f_X9_append_b30 (nI c) (fun x5 I6 => f_X9_thrown I6 (fun x7 => if x7 = nI 1 then if nI 1 = 0 then if lg_cmp (L.1 195 0) x5.toInt64 = 0 then f_L_law_b3520 xs nn X28 K (nI p) I6 L else K (nI 0) I6 L else f_L_law_b3520 xs nn X28 K (nI p) I6 L else K (nI 0) I6 L)) (nI 2) I else f_X9_append_b30 (nI c) (fun x5 I6 => f_X9_thrown I6 (fun x7 => if x7 = nI 1 then if nI 1 = 0 then if lg_cmp (L.1 195 0) x5.toInt64 = 0 then f_L_law_b3520 xs nn X28 K (nI p) I6 L else K (nI 0) I6 L else f_L_law_b3520 xs nn X28 K (nI p) I6 L else K (nI 0) I6 L)) (nI 0) I) := by
    intro q
    refine m_in (by decide) (by decide) ?_
    rw [if_pos (by rw [zb_eq0, hct]; omega)]
    unfold f_X9_append_b30
    rw [wr_p, up2_same, if_neg (by decide)]
    unfold f_X9_thrown
    dsimp only
    rw [up2_same, if_pos rfl, if_neg (by decide)]
    exact l_3520 hX (hS.th _) (by omega)
  by_cases q : 32 ≤ c ∧ c ≤ 126
  · rw [if_neg (by rw [g1]; omega), if_pos (by rw [g2]; omega), c1]
    have g3 := n_ltP (a := T.tx.length) (b := 60) (by omega) (by omega)
    have g4 := n_eqP (a := T.tx.length) (b := 60) (by omega) (by omega)
    have g5 := n_leP (a := 60) (b := T.tx.length) (by omega) (by omega)
    by_cases q2 : T.tx.length = 60
    · rw [if_neg (by rw [g3]; omega)]
      show @ite Prop ("java/lang/IllegalStateException" = "java/lang/IllegalArgumentException") _ _ _
      rw [if_neg (by decide), if_pos rfl]
      refine m_in (by decide) (by decide) ?_
      rw [if_neg (by rw [zb_eq0, hct]; omega), d1, if_pos (by rw [g4]; exact q2)]
      unfold f_X9_append_b30
      rw [wr_p, up2_same, if_neg (by decide)]
      unfold f_X9_thrown
      dsimp only
      rw [up2_same, if_pos rfl, if_neg (by decide)]
      exact l_3520 hX (hS.th _) (by omega)
    · rw [if_pos (by rw [g3]; omega)]
      unfold f_X2_add
      rw [c1, if_neg (by rw [g5]; omega), inr_n (by omega), ix_n (by omega)]
      refine ⟨by omega, ?_⟩
      rw [wr_p, wr_p, up2_nea (show (56 : Nat) ≠ 57 by decide), c1, nI_add]
      dsimp only
      rw [up2_same]
      unfold wrL
      dsimp only
      refine m_in (by decide) (by decide) ?_
      have e0 : ∀ q, q ≠ 56 → q ≠ 57 → (up2 (up2 I 57 T.tx.length (nI c)) 56 3 (nI (T.tx.length + 1))) q = I q := fun q a b => by rw [up2_ne a, up2_ne b]
      have e56 : (up2 (up2 I 57 T.tx.length (nI c)) 56 3 (nI (T.tx.length + 1))) 56 3 = nI (T.tx.length + 1) := up2_same
      have e57 : ∀ j, (up2 (up2 I 57 T.tx.length (nI c)) 56 3 (nI (T.tx.length + 1))) 57 j = up2 I 57 T.tx.length (nI c) 57 j := fun j => up2_nea (by decide)
      generalize up2 (up2 I 57 T.tx.length (nI c)) 56 3 (nI (T.tx.length + 1)) = J at *
      rw [if_neg (by rw [zb_eq0, hct]; omega), e0 190 (by decide) (by decide), d1, if_neg (by rw [g4]; exact q2)]
      unfold f_X9_append_b30
      rw [wr_p, up2_same, if_pos (by decide), up2_nej (show (8 : Nat) ≠ 0 by decide), e0 190 (by decide) (by decide), d1, inr_n (by omega), ix_n (by omega)]
      refine ⟨by omega, ?_⟩
      rw [wr_p, wr_p, up2_nea (show (190 : Nat) ≠ 193 by decide), up2_nej (show (8 : Nat) ≠ 0 by decide), e0 190 (by decide) (by decide), d1, nI_add]
      unfold f_X9_thrown
      dsimp only
      have f0 : ∀ q, q ≠ 190 → q ≠ 193 → (up2 (up2 (up2 J 190 0 (nI 0)) 193 T.tx.length (nI c)) 190 8 (nI (T.tx.length + 1))) q = J q := fun q a b => by rw [up2_ne a, up2_ne b, up2_ne a]
      have f1 : ∀ j, j ≠ 0 → j ≠ 8 → (up2 (up2 (up2 J 190 0 (nI 0)) 193 T.tx.length (nI c)) 190 8 (nI (T.tx.length + 1))) 190 j = J 190 j := fun j a b => by rw [up2_nej b, up2_nea (by decide), up2_nej a]
      have f2 : (up2 (up2 (up2 J 190 0 (nI 0)) 193 T.tx.length (nI c)) 190 8 (nI (T.tx.length + 1))) 190 0 = nI 0 := by rw [up2_nej (by decide), up2_nea (by decide), up2_same]
      have f3 : (up2 (up2 (up2 J 190 0 (nI 0)) 193 T.tx.length (nI c)) 190 8 (nI (T.tx.length + 1))) 190 8 = nI (T.tx.length + 1) := up2_same
      have f4 : ∀ j, (up2 (up2 (up2 J 190 0 (nI 0)) 193 T.tx.length (nI c)) 190 8 (nI (T.tx.length + 1))) 193 j = if j = T.tx.length then nI c else I 193 j := fun j => by
        rw [up2_nea (by decide)]
        by_cases a : j = T.tx.length
        · rw [a, up2_same, if_pos rfl]
        · rw [up2_nej a, up2_nea (by decide), e0 193 (by decide) (by decide), if_neg a]
      generalize up2 (up2 (up2 J 190 0 (nI 0)) 193 T.tx.length (nI c)) 190 8 (nI (T.tx.length + 1)) = J2 at *
      have b : ∀ q, q ≠ 56 → q ≠ 57 → q ≠ 190 → q ≠ 193 → J2 q = I q := fun q a1 a2 a3 a4 => by rw [f0 q a3 a4, e0 q a1 a2]
      have s2 : ST J2 (T.typ c) t := by
        obtain ⟨w, hC, hM⟩ := hS
        refine ⟨?_, ?_, ?_⟩
        · obtain ⟨w1, w2, w3, w4, w5, w6, w7, w8, w9⟩ := w
          refine ⟨w1, w2, w3, w4, w5, w6, ?_, fun k hk => ?_, w9⟩
          · show (T.tx ++ [c]).length ≤ 60
            rw [List.length_append]; show T.tx.length + 1 ≤ 60; omega
          · have hk : k ∈ T.tx ++ [c] := hk
            rcases List.mem_append.mp hk with h | h
            · exact w8 k h
            · rw [List.mem_singleton.mp h]; exact q
        · refine hC.alt (fun q a1 a2 => b q (by omega) (by omega) (by omega) (by omega)) (fun j a1 a2 => by rw [b 0 (by decide) (by decide) (by decide) (by decide)]) rfl rfl rfl rfl ?_ ?_ (hC.2.2.2.2.2.1.same (b 60 (by decide) (by decide) (by decide) (by decide)) (b 61 (by decide) (by decide) (by decide) (by decide))) ⟨?_, fun j hj => ?_⟩
          · rw [b 0 (by decide) (by decide) (by decide) (by decide)]; exact hC.2.2.2.1
          · rw [b 0 (by decide) (by decide) (by decide) (by decide)]; exact hC.2.2.2.2.1
          · show _ = nI (T.tx ++ [c]).length
            rw [f0 56 (by decide) (by decide), e56, List.length_append]; rfl
          · have hj : j < (T.tx ++ [c]).length := hj
            rw [List.length_append] at hj
            have hj : j < T.tx.length + 1 := hj
            show _ = nI ((T.tx ++ [c]).getD j 0)
            rw [f0 57 (by decide) (by decide), e57]
            by_cases a : j = T.tx.length
            · rw [a, up2_same, put_last]
            · rw [up2_nej a, put_getD (by omega)]; exact c2 j (by omega)
        · refine hM.alt (b 191 (by decide) (by decide) (by decide) (by decide)) (by rw [f1 2 (by decide) (by decide), e0 190 (by decide) (by decide)]) (by rw [f1 3 (by decide) (by decide), e0 190 (by decide) (by decide)]) rfl rfl rfl rfl ?_ ?_ ⟨?_, fun j hj => ?_⟩ ⟨?_, fun j hj => ?_⟩
          · rw [f1 11 (by decide) (by decide), e0 190 (by decide) (by decide)]; exact hM.2.2.2.2.1
          · rw [f1 12 (by decide) (by decide), e0 190 (by decide) (by decide)]; exact hM.2.2.2.2.2.1
          · rw [f1 6 (by decide) (by decide), e0 190 (by decide) (by decide)]; exact hM.2.2.2.2.2.2.1.1
          · rw [b 192 (by decide) (by decide) (by decide) (by decide)]; exact hM.2.2.2.2.2.2.1.2 j hj
          · show _ = nI (T.tx ++ [c]).length
            rw [f3, List.length_append]; rfl
          · have hj : j < (T.tx ++ [c]).length := hj
            rw [List.length_append] at hj
            have hj : j < T.tx.length + 1 := hj
            show _ = nI ((T.tx ++ [c]).getD j 0)
            rw [f4]
            by_cases a : j = T.tx.length
            · rw [if_pos a, a, put_last]
            · rw [if_neg a, put_getD (by omega)]; exact d2 j (by omega)
      rw [f2, if_pos rfl, if_pos (by decide)]
      rw [if_pos (by rw [up2_same, f3]; exact lg_self _)]
      exact l_3520 hX s2 (by omega)
  · have fin := bad q
    by_cases q3 : c < 32
    · rw [if_pos (by rw [g1]; exact q3)]
      show @ite Prop ("java/lang/IllegalArgumentException" = "java/lang/IllegalArgumentException") _ _ _
      rw [if_pos rfl]
      exact fin
    · rw [if_neg (by rw [g1]; exact q3), if_neg (by rw [g2]; omega)]
      show @ite Prop ("java/lang/IllegalArgumentException" = "java/lang/IllegalArgumentException") _ _ _
      rw [if_pos rfl]
      exact fin
end Law
