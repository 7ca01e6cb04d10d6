/-! ===== where everything lies when the script begins ===== -/
def HiR (G : GT) : Prop := ∀ k j, 16 ≤ j → G.2.2 k j = none
theorem HiR.gs {G : GT} (h : HiR G) : HiR (gS G) := h
theorem HiR.put {G : GT} {a i : Nat} {x : Option Nat} (h : HiR G) (hi : i < 16) : HiR (gPut G a i x) := fun k j hj => (up2_nej (show j ≠ i by omega)).trans (h k j hj)
theorem HiR.s1 {G : GT} {a i : Nat} (h : HiR G) (hi : i < 16) : HiR (stp a i G) := h.gs.put hi
theorem HiR.k5 {G : GT} {a : Nat} (h : HiR G) : HiR (kG a G) := ((((h.s1 (by decide)).s1 (by decide)).s1 (by decide)).s1 (by decide)).s1 (by decide)
theorem HiR.k2 {G : GT} {a : Nat} (h : HiR G) : HiR (lG a G) := (h.s1 (by decide)).s1 (by decide)
theorem HiR.k3 {G : GT} {a : Nat} (h : HiR G) : HiR (iG a G) := ((h.s1 (by decide)).s1 (by decide)).s1 (by decide)
theorem HiR.hh {G : GT} {a : Nat} (h : HiR G) : HiR (hG a G) := ((((h.gs.k5).put (by decide)).gs.k5.put (by decide)).gs.k2).put (by decide)
theorem HiR.th {G : GT} {a i : Nat} (h : HiR G) (hi : i < 16) : HiR (thG a i G) := h.gs.hh.put hi
theorem HiR_7 : HiR g7 := by
  have h0 : HiR g0 := fun _ _ _ => rfl
  have h3 : HiR g3 := ((h0.th (by decide)).th (by decide)).th (by decide)
  have h4 : HiR g4 := h3.s1 (by decide)
  have h5 : HiR g5 := h4.gs.k5.put (by decide)
  have h6 : HiR g6 := h5.gs.k3.put (by decide)
  exact (h6.gs.s1 (by decide)).put (by decide)
theorem HiR_P : ∀ i, i ≤ 8 → HiR (gP i) := by
  intro i
  induction i with
  | zero => exact fun _ => HiR_7
  | succ i ih => exact fun h => (ih (by omega)).th (by omega)
theorem rfT_hi {k j : Nat} (hj : 16 ≤ j) : rfT k j = none := by
  have e : ∀ l : List (Option Nat), l.length ≤ 16 → l.getD j none = none := fun l h => by
    rw [List.getD_eq_getElem?_getD, List.getElem?_eq_none (by omega)]; rfl
  have hH : ∀ o, rfH o k j = none := by
    intro o
    unfold rfH
    rw [if_neg (show ¬ j = 0 by omega), if_neg (show ¬ j = 1 by omega), if_neg (show ¬ j = 2 by omega), if_neg (show ¬ j < 5 by omega), if_neg (show ¬ j < 2 by omega)]
    repeat' split
    all_goals rfl
  unfold rfT
  rw [e _ (by decide), hH, hH, hH, if_neg (show ¬ j < 8 by omega), if_neg (show ¬ j < 3 by omega)]
  repeat' split
  all_goals rfl
theorem g8_n : (gP 8).1 = 190 := gP_n 8
set_option maxRecDepth 100000 in
theorem g8_r0 : ∀ k, k < 190 → k ≠ 60 → ∀ j, j < 16 → (gP 8).2.2 k j = rfT k j := by decide +kernel
theorem g8_v : (gP 8).2.2 60 0 = some 61 := by decide +kernel
theorem lay_0 : LAY (gP 8) := by
  refine ⟨by rw [g8_n]; decide, fun k hk e => ?_, fun k j hk e => ?_⟩
  · rw [gP_sh]
    exact if_neg e
  · by_cases hj : j < 16
    · exact g8_r0 k hk e j hj
    · rw [rfT_hi (by omega)]
      exact HiR_P 8 (by decide) k j (by omega)
theorem F_8 : Fresh (gP 8) (iP 8) lZ := F_P 8
theorem i8_hi {k : Nat} (h : 190 ≤ k) : iP 8 k = fun _ => 0 := (F_8 k (by rw [g8_n]; exact h)).2.1
theorem tobj_0 {a k : Nat} {l : List Nat} (h : tobj (iP 8) a k l) : a = 60 ∧ k = 2 ∧ l = [] := by
  rcases h with ⟨h1, h2, h3⟩ | ⟨h1, h2, h3⟩
  · refine ⟨h1, h2, ?_⟩
    obtain ⟨q1, q2, -⟩ := h3
    have q0 : iP 8 60 3 = nI 0 := by decide +kernel
    exact List.eq_nil_of_length_eq_zero ((nI_eq (by decide) (by omega)).mp (q0.symm.trans q1)).symm
  · obtain ⟨q1, -⟩ := h3
    rw [i8_hi h1.1] at q1
    rcases h2 with rfl | rfl
    · exact absurd q1 (by decide)
    · exact absurd q1 (by decide)
theorem layb_0 : LAYB (gP 8) (iP 8) (iP 8) := by
  refine ⟨lay_0, fun _ _ _ _ => rfl, ⟨[], by decide +kernel, by decide, fun j hj => absurd hj (Nat.not_lt_zero _)⟩, fun a k l h => ?_, fun a b k k' l l' h h' hne => ?_⟩
  · obtain ⟨rfl, rfl, rfl⟩ := tobj_0 h
    have h16 : ∀ j, j < 16 → iP 8 61 j = 0 := by decide +kernel
    refine ⟨by rw [g8_n]; decide, by rw [gP_sh]; decide, by decide, fun j hj => absurd hj (Nat.not_lt_zero _), 61, 16, g8_v, by rw [g8_n]; decide, Or.inl rfl, by rw [gP_sh]; decide, by decide +kernel, fun _ => by decide +kernel, fun q => absurd q (by decide), Nat.zero_le _, by decide, fun j hj => ?_, fun j hj => absurd hj (Nat.not_lt_zero _)⟩
    rw [h16 j hj]
    decide
  · obtain ⟨rfl, -, -⟩ := tobj_0 h
    obtain ⟨rfl, -, -⟩ := tobj_0 h'
    exact absurd rfl hne
