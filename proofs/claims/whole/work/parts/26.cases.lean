/-! ===== the law's cases: the changes that answer with an int ===== -/
theorem unl_T (p : Prop) [Decidable p] : unlN p True = 0 ∨ unlN p True = 2 := by
  by_cases a : p
  · rw [unl_t a, if_neg (fun z => z trivial)]; exact Or.inl rfl
  · rw [unl_f a]; exact Or.inr rfl
theorem unl_S (q : Prop) [Decidable q] : unlN True q = 0 ∨ unlN True q = 3 := by
  rw [unl_t trivial]
  by_cases a : q
  · rw [if_neg (fun z => z a)]; exact Or.inl rfl
  · rw [if_pos a]; exact Or.inr rfl
section Refs
variable (H : HS) (x y z u : Int)
theorem ref0 : refN 0 H x y z u = 0 ∨ refN 0 H x y z u = 2 ∨ refN 0 H x y z u = 3 := unl_v _ _
theorem ref1 : refN 1 H x y z u = 0 ∨ refN 1 H x y z u = 1 ∨ refN 1 H x y z u = 2 ∨ refN 1 H x y z u = 3 := by
  have e : refN 1 H x y z u = if 0 ≤ x ∧ x < kc H.k then unlN (1 ≤ y ∧ y ≤ 16) (kvol H.k x.toNat + 2 * y ≤ kcap H.k x.toNat) else 1 := rfl
  by_cases a : 0 ≤ x ∧ x < kc H.k
  · rw [e, if_pos a]; have := unl_v (1 ≤ y ∧ y ≤ 16) (kvol H.k x.toNat + 2 * y ≤ kcap H.k x.toNat); omega
  · rw [e, if_neg a]; exact Or.inr (Or.inl rfl)
theorem ref2 : refN 2 H x y z u = 0 ∨ refN 2 H x y z u = 1 ∨ refN 2 H x y z u = 2 := by
  have e : refN 2 H x y z u = if 0 ≤ x ∧ x < kc H.k then unlN (0 ≤ y ∧ y ≤ 5) True else 1 := rfl
  by_cases a : 0 ≤ x ∧ x < kc H.k
  · rw [e, if_pos a]; have := unl_T (0 ≤ y ∧ y ≤ 5); omega
  · rw [e, if_neg a]; exact Or.inr (Or.inl rfl)
theorem ref3 : refN 3 H x y z u = 0 ∨ refN 3 H x y z u = 2 ∨ refN 3 H x y z u = 3 := unl_v _ _
theorem ref4 : refN 4 H x y z u = 0 ∨ refN 4 H x y z u = 4 := by
  have e : refN 4 H x y z u = if findO H.o x = none then 4 else 0 := rfl
  by_cases a : findO H.o x = none
  · rw [e, if_pos a]; exact Or.inr rfl
  · rw [e, if_neg a]; exact Or.inl rfl
theorem ref5 : refN 5 H x y z u = 0 ∨ refN 5 H x y z u = 3 := unl_S _
theorem ref6 : refN 6 H x y z u = 0 ∨ refN 6 H x y z u = 2 ∨ refN 6 H x y z u = 3 := unl_v _ _
theorem ref7 : refN 7 H x y z u = 0 ∨ refN 7 H x y z u = 2 ∨ refN 7 H x y z u = 3 := unl_v _ _
theorem ref8 : refN 8 H x y z u = 0 ∨ refN 8 H x y z u = 2 := unl_T _
theorem ref9 : refN 9 H x y z u = 0 ∨ refN 9 H x y z u = 2 := unl_T _
theorem ref10 : refN 10 H x y z u = 0 ∨ refN 10 H x y z u = 2 := unl_T _
theorem ref11 : refN 11 H x y z u = 0 := rfl
theorem ref12 : refN 12 H x y z u = 0 ∨ refN 12 H x y z u = 3 := unl_S _
end Refs
section Law
variable {xs : Nat → Int32} {nn : Nat} {X28 : Int32 → IT → LT → Prop} {K : Int32 → IT → LT → Prop} {p : Nat} {I : IT} {L : LT} {T : TS} {t : Nat}
/-- how the law goes on -/
def NX (X28 : Int32 → IT → LT → Prop) (p t : Nat) : Prop := ∀ I' T' t' L', ST I' T' t' → t' ≤ t + 12 → X28 (nI (p + 5)) I' L'
theorem l_3520 {I' : IT} {T' : TS} {t' : Nat} {L' : LT} (hX : NX X28 p t) (hS : ST I' T' t') (h : t' ≤ t + 12) : f_L_law_b3520 xs nn X28 K (nI p) I' L' := by
  unfold f_L_law_b3520
  rw [bnd_p, nI_add]
  exact hX _ _ _ _ hS h
theorem l_addKettle (hp : p + 5 ≤ nn) (hn : nn ≤ 2560) (hS : ST I T t) (ht : t ≤ 8000) (hX : NX X28 p t) : f_L_law_b316 xs nn X28 K (nI p) I L := by
  unfold f_L_law_b316
  simp only [nI_add]
  rw [inr_n (k := p + 1) (by omega), ix_n (n := p + 1) (by omega)]
  refine ⟨by omega, ?_⟩
  generalize xs (p + 1) = x
  unfold f_L_addKettle f_X8_addKettle f_X9_addKettle
  have he := ref0 T.h x.toInt (nI 0).toInt (nI 0).toInt (nI 0).toInt
  refine j_change (v := 0) (by decide) x (nI 0) (nI 0) (nI 0) hS ht (fun e => by cases e) (V := fun I K => f_X9_adds x I K) (fun I1 K1 hM hk => m_adds hM hS.1.1.1 x _ _ _ hk) 0 1 2 0 (fun r e hr => ?_) (fun e I2 hm => ?_) (fun r e hr hm => ?_)
  · rcases (show r = 2 ∨ r = 3 by omega) with rfl | rfl <;> decide
  · unfold wrL
    refine hm _ fun I6 s6 e6 => ?_
    unfold f_X9_thrown
    dsimp only
    rw [e6, if_pos rfl, if_pos (by decide), if_pos (by rw [up2_same]; exact lg_self _)]
    exact l_3520 hX s6 (by omega)
  · rcases (show r = 2 ∨ r = 3 by omega) with rfl | rfl
    · rw [exc2, if_pos rfl]
      refine hm _ fun I6 s6 e6 => ?_
      unfold f_X9_thrown
      dsimp only
      rw [e6, if_pos (by decide), if_neg (by decide)]
      exact l_3520 hX s6 (by omega)
    · rw [exc3, if_neg (by decide), if_pos rfl]
      refine hm _ fun I6 s6 e6 => ?_
      unfold f_X9_thrown
      dsimp only
      rw [e6, if_pos (by decide), if_neg (by decide)]
      exact l_3520 hX s6 (by omega)
theorem l_setBurner (hp : p + 5 ≤ nn) (hn : nn ≤ 2560) (hS : ST I T t) (ht : t ≤ 8000) (hX : NX X28 p t) : f_L_law_b462 xs nn X28 K (nI p) I L := by
  unfold f_L_law_b462
  simp only [nI_add]
  rw [inr_n (k := p + 1) (by omega), ix_n (n := p + 1) (by omega)]
  rw [inr_n (k := p + 2) (by omega), ix_n (n := p + 2) (by omega)]
  refine ⟨by omega, by omega, ?_⟩
  generalize xs (p + 1) = x
  generalize xs (p + 2) = y
  unfold f_L_setBurner f_X8_setBurner f_X9_setBurner
  have he := ref2 T.h x.toInt y.toInt (nI 0).toInt (nI 0).toInt
  refine j_change (v := 2) (by decide) x y (nI 0) (nI 0) hS ht (fun e => by cases e) (V := fun I K => f_X9_turns x y I K) (fun I1 K1 hM hk => m_turns hM hS.1.1.1 x y _ _ hk) 1 2 0 0 (fun r e hr => ?_) (fun e I2 hm => ?_) (fun r e hr hm => ?_)
  · rcases (show r = 1 ∨ r = 2 by omega) with rfl | rfl <;> decide
  · unfold wrL
    refine hm _ fun I6 s6 e6 => ?_
    unfold f_X9_thrown
    dsimp only
    rw [e6, if_pos rfl, if_pos (by decide), if_pos (by rw [up2_same]; exact lg_self _)]
    exact l_3520 hX s6 (by omega)
  · rcases (show r = 1 ∨ r = 2 by omega) with rfl | rfl
    · rw [exc1, if_pos rfl]
      refine hm _ fun I6 s6 e6 => ?_
      unfold f_X9_thrown
      dsimp only
      rw [e6, if_pos (by decide), if_neg (by decide)]
      exact l_3520 hX s6 (by omega)
    · rw [exc2, if_neg (by decide), if_pos rfl]
      refine hm _ fun I6 s6 e6 => ?_
      unfold f_X9_thrown
      dsimp only
      rw [e6, if_pos (by decide), if_neg (by decide)]
      exact l_3520 hX s6 (by omega)
theorem l_order (hp : p + 5 ≤ nn) (hn : nn ≤ 2560) (hS : ST I T t) (ht : t ≤ 8000) (hX : NX X28 p t) : f_L_law_b530 xs nn X28 K (nI p) I L := by
  unfold f_L_law_b530
  simp only [nI_add]
  rw [inr_n (k := p + 1) (by omega), ix_n (n := p + 1) (by omega)]
  rw [inr_n (k := p + 2) (by omega), ix_n (n := p + 2) (by omega)]
  rw [inr_n (k := p + 3) (by omega), ix_n (n := p + 3) (by omega)]
  rw [inr_n (k := p + 4) (by omega), ix_n (n := p + 4) (by omega)]
  refine ⟨by omega, by omega, by omega, by omega, ?_⟩
  generalize xs (p + 1) = x
  generalize xs (p + 2) = y
  generalize xs (p + 3) = z
  generalize xs (p + 4) = u
  unfold f_L_order f_X8_order f_X9_order
  have he := ref3 T.h x.toInt y.toInt z.toInt u.toInt
  refine j_change (v := 3) (by decide) x y z u hS ht (fun e => by cases e) (V := fun I K => f_X9_accepts x y z u I K) (fun I1 K1 hM hk => m_accepts hM hS.1.1.1 x y z u hk) 0 1 2 0 (fun r e hr => ?_) (fun e I2 hm => ?_) (fun r e hr hm => ?_)
  · rcases (show r = 2 ∨ r = 3 by omega) with rfl | rfl <;> decide
  · unfold wrL
    refine hm _ fun I6 s6 e6 => ?_
    unfold f_X9_thrown
    dsimp only
    rw [e6, if_pos rfl, if_pos (by decide), if_pos (by rw [up2_same]; exact lg_self _)]
    exact l_3520 hX s6 (by omega)
  · rcases (show r = 2 ∨ r = 3 by omega) with rfl | rfl
    · rw [exc2, if_pos rfl]
      refine hm _ fun I6 s6 e6 => ?_
      unfold f_X9_thrown
      dsimp only
      rw [e6, if_pos (by decide), if_neg (by decide)]
      exact l_3520 hX s6 (by omega)
    · rw [exc3, if_neg (by decide), if_pos rfl]
      refine hm _ fun I6 s6 e6 => ?_
      unfold f_X9_thrown
      dsimp only
      rw [e6, if_pos (by decide), if_neg (by decide)]
      exact l_3520 hX s6 (by omega)
theorem l_cancel (hp : p + 5 ≤ nn) (hn : nn ≤ 2560) (hS : ST I T t) (ht : t ≤ 8000) (hX : NX X28 p t) : f_L_law_b622 xs nn X28 K (nI p) I L := by
  unfold f_L_law_b622
  simp only [nI_add]
  rw [inr_n (k := p + 1) (by omega), ix_n (n := p + 1) (by omega)]
  refine ⟨by omega, ?_⟩
  generalize xs (p + 1) = x
  unfold f_L_cancel f_X8_cancel f_X9_cancel
  have he := ref4 T.h x.toInt (nI 0).toInt (nI 0).toInt (nI 0).toInt
  refine j_change (v := 4) (by decide) x (nI 0) (nI 0) (nI 0) hS ht (fun e => by cases e) (V := fun I K => f_X9_cancels x I K) (fun I1 K1 hM hk => m_cancels hM hS.1.1.1 x _ _ _ hk) 0 0 0 1 (fun r e hr => ?_) (fun e I2 hm => ?_) (fun r e hr hm => ?_)
  · obtain rfl : r = 4 := by omega
    decide
  · unfold wrL
    refine hm _ fun I6 s6 e6 => ?_
    unfold f_X9_thrown
    dsimp only
    rw [e6, if_pos rfl, if_pos (by decide), if_pos (by rw [up2_same]; exact lg_self _)]
    exact l_3520 hX s6 (by omega)
  · obtain rfl : r = 4 := by omega
    rw [exc4, if_pos rfl]
    refine hm _ fun I6 s6 e6 => ?_
    unfold f_X9_thrown
    dsimp only
    rw [e6, if_pos (by decide), if_neg (by decide)]
    exact l_3520 hX s6 (by omega)
theorem l_serveNext (hp : p + 5 ≤ nn) (hn : nn ≤ 2560) (hS : ST I T t) (ht : t ≤ 8000) (hX : NX X28 p t) : f_L_law_b678 xs nn X28 K (nI p) I L := by
  unfold f_L_law_b678
  unfold f_L_serveNext f_X8_serveNext f_X9_serveNext
  have he := ref5 T.h (nI 0).toInt (nI 0).toInt (nI 0).toInt (nI 0).toInt
  refine j_change (v := 5) (by decide) (nI 0) (nI 0) (nI 0) (nI 0) hS ht (fun e => by cases e) (V := fun I K => f_X9_serves I K) (fun I1 K1 hM hk => m_serves hM hS.1.1.1 hS.1.1.2 ht _ _ _ _ hk) 0 0 1 0 (fun r e hr => ?_) (fun e I2 hm => ?_) (fun r e hr hm => ?_)
  · obtain rfl : r = 3 := by omega
    decide
  · unfold wrL
    refine hm _ fun I6 s6 e6 => ?_
    unfold f_X9_thrown
    dsimp only
    rw [e6, if_pos rfl, if_pos (by decide), if_pos (by rw [up2_same]; exact lg_self _)]
    exact l_3520 hX s6 (by omega)
  · obtain rfl : r = 3 := by omega
    rw [exc3, if_pos rfl]
    refine hm _ fun I6 s6 e6 => ?_
    unfold f_X9_thrown
    dsimp only
    rw [e6, if_pos (by decide), if_neg (by decide)]
    exact l_3520 hX s6 (by omega)
theorem l_wash (hp : p + 5 ≤ nn) (hn : nn ≤ 2560) (hS : ST I T t) (ht : t ≤ 8000) (hX : NX X28 p t) : f_L_law_b722 xs nn X28 K (nI p) I L := by
  unfold f_L_law_b722
  simp only [nI_add]
  rw [inr_n (k := p + 1) (by omega), ix_n (n := p + 1) (by omega)]
  refine ⟨by omega, ?_⟩
  generalize xs (p + 1) = x
  unfold f_L_wash f_X8_wash f_X9_wash
  have he := ref6 T.h x.toInt (nI 0).toInt (nI 0).toInt (nI 0).toInt
  refine j_change (v := 6) (by decide) x (nI 0) (nI 0) (nI 0) hS ht (fun e => by cases e) (V := fun I K => f_X9_washes x I K) (fun I1 K1 hM hk => m_washes hM hS.1.1.1 hS.1.1.2.1 x _ _ _ hk) 0 1 2 0 (fun r e hr => ?_) (fun e I2 hm => ?_) (fun r e hr hm => ?_)
  · rcases (show r = 2 ∨ r = 3 by omega) with rfl | rfl <;> decide
  · unfold wrL
    refine hm _ fun I6 s6 e6 => ?_
    unfold f_X9_thrown
    dsimp only
    rw [e6, if_pos rfl, if_pos (by decide), if_pos (by rw [up2_same]; exact lg_self _)]
    exact l_3520 hX s6 (by omega)
  · rcases (show r = 2 ∨ r = 3 by omega) with rfl | rfl
    · rw [exc2, if_pos rfl]
      refine hm _ fun I6 s6 e6 => ?_
      unfold f_X9_thrown
      dsimp only
      rw [e6, if_pos (by decide), if_neg (by decide)]
      exact l_3520 hX s6 (by omega)
    · rw [exc3, if_neg (by decide), if_pos rfl]
      refine hm _ fun I6 s6 e6 => ?_
      unfold f_X9_thrown
      dsimp only
      rw [e6, if_pos (by decide), if_neg (by decide)]
      exact l_3520 hX s6 (by omega)
theorem l_pass (hp : p + 5 ≤ nn) (hn : nn ≤ 2560) (hS : ST I T t) (ht : t ≤ 8000) (hX : NX X28 p t) : f_L_law_b1053 xs nn X28 K (nI p) I L := by
  unfold f_L_law_b1053
  simp only [nI_add]
  rw [inr_n (k := p + 1) (by omega), ix_n (n := p + 1) (by omega)]
  refine ⟨by omega, ?_⟩
  generalize xs (p + 1) = x
  unfold f_L_pass f_X8_pass f_X9_pass
  have he := ref8 T.h x.toInt (nI 0).toInt (nI 0).toInt (nI 0).toInt
  refine j_change (v := 8) (by decide) x (nI 0) (nI 0) (nI 0) hS ht (fun e => by cases e) (V := fun I K => f_X9_passes x I K) (fun I1 K1 hM hk => m_passes hM hS.1.1.1 hS.1.1.2.2.2.2.2.2.2.1 x _ _ _ hk) 0 1 0 0 (fun r e hr => ?_) (fun e I2 hm => ?_) (fun r e hr hm => ?_)
  · obtain rfl : r = 2 := by omega
    decide
  · unfold wrL
    refine hm _ fun I6 s6 e6 => ?_
    unfold f_X9_thrown
    dsimp only
    rw [e6, if_pos rfl, if_pos (by decide), if_pos (by rw [up2_same]; exact lg_self _)]
    exact l_3520 hX s6 (by omega)
  · obtain rfl : r = 2 := by omega
    rw [exc2, if_pos rfl]
    refine hm _ fun I6 s6 e6 => ?_
    unfold f_X9_thrown
    dsimp only
    rw [e6, if_pos (by decide), if_neg (by decide)]
    exact l_3520 hX s6 (by omega)
end Law
