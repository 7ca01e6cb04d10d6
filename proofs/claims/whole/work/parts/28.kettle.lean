/-! ===== the law's cases: of a kettle ===== -/
theorem m_isFine {I : IT} {K : Int32 → IT → Prop} {q : Prop} [Decidable q] (h : K (zb q) (up2 I 190 0 (if q then nI 0 else nI 1))) : f_X9_isFine (zb q) I K := by
  unfold f_X9_isFine f_X9_isFine_b10
  simp only [zb_eq0, wr_p]
  by_cases c : q
  · rw [if_neg (fun z => z c)]; rw [if_pos c] at h; exact h
  · rw [if_pos c]; rw [if_neg c] at h; exact h
theorem m_ofKettle {I : IT} {H : HS} {K : Int32 → IT → Prop} (hM : HM (I 191) H) (w : HW H) (x : Int32) {c : Nat} (hc : c < 5) (h0 : ¬ (0 ≤ x.toInt ∧ x.toInt < kc H.k) → K (nI 0) (up2 I 190 0 (nI 1))) (h1 : (0 ≤ x.toInt ∧ x.toInt < kc H.k) → K (I 191 (33 + 5 * ix x + c)) (up2 I 190 0 (nI 0))) : f_X9_ofKettle x (nI c) I K := by
  have kw1 := w.1.1
  unfold f_X9_ofKettle
  refine m_isKettle hM w x (m_isFine ?_)
  simp only [zb_eq0]
  by_cases q : 0 ≤ x.toInt ∧ x.toInt < kc H.k
  · rw [if_neg (fun z => z q), if_pos q]
    obtain ⟨x1, x2, x3⟩ := x_ix (x := x) (by omega)
    have := m_k (I := up2 I 190 0 (nI 0)) (K := fun x5 => K x5 (up2 I 190 0 (nI 0))) (k := ix x) (c := c) (by omega) hc (by rw [up2_nea (by decide)]; exact h1 q)
    rw [← x1] at this
    exact this
  · rw [if_pos q, if_neg q]; exact h0 q
theorem s_reqK {I : IT} {T : TS} {K : Prop} {KT : String → Prop} (hC : KCR I T) (x : Int32) (h0 : ¬ (0 ≤ x.toInt ∧ x.toInt < kc T.h.k) → KT "java/lang/IndexOutOfBoundsException") (h1 : (0 ≤ x.toInt ∧ x.toInt < kc T.h.k) → K) : f_X8_requireKettle x I K KT := by
  unfold f_X8_requireKettle
  refine s_has hC.1.1 x ?_
  simp only [zb_eq0]
  by_cases q : 0 ≤ x.toInt ∧ x.toInt < kc T.h.k
  · rw [if_neg (fun z => z q)]; exact h1 q
  · rw [if_pos q]; exact h0 q
section Law
variable {xs : Nat → Int32} {nn : Nat} {X28 : Int32 → IT → LT → Prop} {K : Int32 → IT → LT → Prop} {p : Nat} {I : IT} {L : LT} {T : TS} {t : Nat}
theorem l_capacity (hp : p + 5 ≤ nn) (hn : nn ≤ 2560) (hS : ST I T t) (ht : t ≤ 8000) (hX : NX X28 p t) : f_L_law_b1188 xs nn X28 K (nI p) I L := by
  unfold f_L_law_b1188
  simp only [nI_add]
  rw [inr_n (k := p + 1) (by omega), ix_n (n := p + 1) (by omega)]
  refine ⟨by omega, ?_⟩
  generalize xs (p + 1) = x
  unfold f_L_capacity f_X8_capacity f_X9_capacity
  have kw1 := hS.1.1.1.1.1
  refine s_reqK hS.2.1 x (fun q => ?_) (fun q => ?_)
  · rw [if_pos rfl]
    refine m_ofKettle hS.2.2.1 hS.1.1.1 x (by decide) (fun _ => ?_) (fun q2 => absurd q2 q)
    unfold f_X9_eighths f_X9_thrown
    dsimp only
    rw [← fl_eighth, up2_same, if_pos rfl, if_neg (by decide)]
    exact ⟨fl_n32 (fl_fin_eighth _), l_3520 hX (hS.th _) (by omega)⟩
  · obtain ⟨x1, x2, x3⟩ := x_ix (x := x) (by omega)
    have e1 : I 3 (ix x) = nI (kcap T.h.k (ix x)) := (hS.2.1.1.kv (k := ix x) (by omega)).1
    have e2 : I 191 (33 + 5 * ix x + 0) = nI (kcap T.h.k (ix x)) := (hS.2.2.1.1.2 (ix x) (by omega)).1
    have hin : inr x 4 := ⟨by omega, by omega⟩
    refine ⟨hin, ?_⟩
    unfold f_X8_eighths
    rw [e1]
    refine ⟨fl_n32 (fl_fin_eighth _), fl_n64 (fl_f2d (fl_fin_eighth _)), ?_⟩
    unfold wrD
    refine m_ofKettle hS.2.2.1 hS.1.1.1 x (by decide) (fun q2 => absurd q q2) (fun _ => ?_)
    unfold f_X9_eighths f_X9_thrown
    dsimp only
    rw [e2, ← fl_eighth, up2_same, if_pos rfl, if_pos (by decide)]
    refine ⟨fl_n32 (fl_fin_eighth _), fl_n64 (fl_f2d (fl_fin_eighth _)), ?_⟩
    rw [if_pos (by rw [up2_same]; exact fl_self (fl_f2d (fl_fin_eighth _)))]
    exact l_3520 hX (hS.th _) (by omega)
theorem l_volume (hp : p + 5 ≤ nn) (hn : nn ≤ 2560) (hS : ST I T t) (ht : t ≤ 8000) (hX : NX X28 p t) : f_L_law_b1266 xs nn X28 K (nI p) I L := by
  unfold f_L_law_b1266
  simp only [nI_add]
  rw [inr_n (k := p + 1) (by omega), ix_n (n := p + 1) (by omega)]
  refine ⟨by omega, ?_⟩
  generalize xs (p + 1) = x
  unfold f_L_volume f_X8_volume f_X9_volume
  have kw1 := hS.1.1.1.1.1
  refine s_reqK hS.2.1 x (fun q => ?_) (fun q => ?_)
  · rw [if_pos rfl]
    refine m_ofKettle hS.2.2.1 hS.1.1.1 x (by decide) (fun _ => ?_) (fun q2 => absurd q2 q)
    unfold f_X9_eighths f_X9_thrown
    dsimp only
    rw [← fl_eighth, up2_same, if_pos rfl, if_neg (by decide)]
    exact ⟨fl_n32 (fl_fin_eighth _), l_3520 hX (hS.th _) (by omega)⟩
  · obtain ⟨x1, x2, x3⟩ := x_ix (x := x) (by omega)
    have e1 : I 4 (ix x) = nI (kvol T.h.k (ix x)) := (hS.2.1.1.kv (k := ix x) (by omega)).2.1
    have e2 : I 191 (33 + 5 * ix x + 1) = nI (kvol T.h.k (ix x)) := (hS.2.2.1.1.2 (ix x) (by omega)).2.1
    have hin : inr x 4 := ⟨by omega, by omega⟩
    refine ⟨hin, ?_⟩
    unfold f_X8_eighths
    rw [e1]
    refine ⟨fl_n32 (fl_fin_eighth _), fl_n64 (fl_f2d (fl_fin_eighth _)), ?_⟩
    unfold wrD
    refine m_ofKettle hS.2.2.1 hS.1.1.1 x (by decide) (fun q2 => absurd q q2) (fun _ => ?_)
    unfold f_X9_eighths f_X9_thrown
    dsimp only
    rw [e2, ← fl_eighth, up2_same, if_pos rfl, if_pos (by decide)]
    refine ⟨fl_n32 (fl_fin_eighth _), fl_n64 (fl_f2d (fl_fin_eighth _)), ?_⟩
    rw [if_pos (by rw [up2_same]; exact fl_self (fl_f2d (fl_fin_eighth _)))]
    exact l_3520 hX (hS.th _) (by omega)
theorem l_temperature (hp : p + 5 ≤ nn) (hn : nn ≤ 2560) (hS : ST I T t) (ht : t ≤ 8000) (hX : NX X28 p t) : f_L_law_b1344 xs nn X28 K (nI p) I L := by
  unfold f_L_law_b1344
  simp only [nI_add]
  rw [inr_n (k := p + 1) (by omega), ix_n (n := p + 1) (by omega)]
  refine ⟨by omega, ?_⟩
  generalize xs (p + 1) = x
  unfold f_L_temperature f_X8_temperature f_X9_temperature
  have kw1 := hS.1.1.1.1.1
  refine s_reqK hS.2.1 x (fun q => ?_) (fun q => ?_)
  · rw [if_pos rfl]
    refine m_ofKettle hS.2.2.1 hS.1.1.1 x (by decide) (fun _ => ?_) (fun q2 => absurd q2 q)
    unfold f_X9_halves f_X9_thrown
    dsimp only
    rw [← fl_half, up2_same, if_pos rfl, if_neg (by decide)]
    exact ⟨fl_n32 (fl_fin_half _), l_3520 hX (hS.th _) (by omega)⟩
  · obtain ⟨x1, x2, x3⟩ := x_ix (x := x) (by omega)
    have e1 : I 5 (ix x) = nI (ktmp T.h.k (ix x)) := (hS.2.1.1.kv (k := ix x) (by omega)).2.2.1
    have e2 : I 191 (33 + 5 * ix x + 2) = nI (ktmp T.h.k (ix x)) := (hS.2.2.1.1.2 (ix x) (by omega)).2.2.1
    have hin : inr x 4 := ⟨by omega, by omega⟩
    refine ⟨hin, ?_⟩
    unfold f_X8_halves
    rw [e1]
    refine ⟨fl_n32 (fl_fin_half _), fl_n64 (fl_f2d (fl_fin_half _)), ?_⟩
    unfold wrD
    refine m_ofKettle hS.2.2.1 hS.1.1.1 x (by decide) (fun q2 => absurd q q2) (fun _ => ?_)
    unfold f_X9_halves f_X9_thrown
    dsimp only
    rw [e2, ← fl_half, up2_same, if_pos rfl, if_pos (by decide)]
    refine ⟨fl_n32 (fl_fin_half _), fl_n64 (fl_f2d (fl_fin_half _)), ?_⟩
    rw [if_pos (by rw [up2_same]; exact fl_self (fl_f2d (fl_fin_half _)))]
    exact l_3520 hX (hS.th _) (by omega)
theorem l_burner (hp : p + 5 ≤ nn) (hn : nn ≤ 2560) (hS : ST I T t) (ht : t ≤ 8000) (hX : NX X28 p t) : f_L_law_b1478 xs nn X28 K (nI p) I L := by
  unfold f_L_law_b1478
  simp only [nI_add]
  rw [inr_n (k := p + 1) (by omega), ix_n (n := p + 1) (by omega)]
  refine ⟨by omega, ?_⟩
  generalize xs (p + 1) = x
  unfold f_L_burner f_X8_burner f_X9_burner
  have kw1 := hS.1.1.1.1.1
  refine s_reqK hS.2.1 x (fun q => ?_) (fun q => ?_)
  · rw [if_pos rfl]
    refine m_ofKettle hS.2.2.1 hS.1.1.1 x (by decide) (fun _ => ?_) (fun q2 => absurd q2 q)
    unfold f_X9_thrown
    dsimp only
    rw [up2_same, if_pos rfl, if_neg (by decide)]
    exact l_3520 hX (hS.th _) (by omega)
  · obtain ⟨x1, x2, x3⟩ := x_ix (x := x) (by omega)
    have e1 : I 6 (ix x) = nI (klev T.h.k (ix x)) := (hS.2.1.1.kv (k := ix x) (by omega)).2.2.2.1
    have e2 : I 191 (33 + 5 * ix x + 3) = nI (klev T.h.k (ix x)) := (hS.2.2.1.1.2 (ix x) (by omega)).2.2.2.1
    have hin : inr x 4 := ⟨by omega, by omega⟩
    refine ⟨hin, ?_⟩
    rw [e1]
    unfold wrL
    refine m_ofKettle hS.2.2.1 hS.1.1.1 x (by decide) (fun q2 => absurd q q2) (fun _ => ?_)
    unfold f_X9_thrown
    dsimp only
    rw [e2, up2_same, if_pos rfl, if_pos (by decide)]
    rw [if_pos (by rw [up2_same]; exact lg_self _)]
    exact l_3520 hX (hS.th _) (by omega)
end Law
