/-! ===== where everything lies when the script begins ===== -/
def HiR (G : GT) : Prop := ∀ k j, 16 ≤ j → G.2.2 k j = none
theorem HiR.gs {G : GT} (h : HiR G) : HiR (gS G) := h
theorem HiR.put {G : GT} {a i : Nat} {x : Option Nat} (h : HiR G) (hi : i < 16) : HiR (gPut G a i x) := fun k j hj => (up2_nej (show j ≠ i by omega)).trans (h k j hj)
theorem HiR.s1 {G : GT} {a i : Nat} (h : HiR G) (hi : i < 16) : HiR (stp a i G) := h.gs.put hi
theorem HiR.k5 {G : GT} {a : Nat} (h : HiR G) : HiR (kG a G) := ((((h.s1 (by decide)).s1 (by decide)).s1 (by decide)).s1 (by decide)).s1 (by decide)
theorem HiR.k2 {G : GT} {a : Nat} (h : HiR G) : HiR (lG a G) := (h.s1 (by decide)).s1 (by decide)
theorem HiR.k3 {G : GT} {a : Nat} (h : HiR G) : HiR (iG a G) := ((h.s1 (by decide)).s1 (by decide)).s1 (by decide)
theorem HiR.hh {G : GT} {a : Nat} (h : HiR G) : HiR (hG a G) := ((((h.gs.k5).put (by decide)).gs.k5.put (by decide)).gs.k2).put (by decide)
theorem HiR.th {G : GT} {a i : Nat} (h : HiR G) (hi : i < 16) : HiR (thG a i G) := h.gs.hh.put hi
theorem HiR_7 : HiR g7 := by
  have h0 : HiR g0 := fun _ _ _ => rfl
  have h3 : HiR g3 := ((h0.th (by decide)).th (by decide)).th (by decide)
  have h4 : HiR g4 := h3.s1 (by decide)
  have h5 : HiR g5 := h4.gs.k5.put (by decide)
  have h6 : HiR g6 := h5.gs.k3.put (by decide)
  exact (h6.gs.s1 (by decide)).put (by decide)
theorem HiR_P : ∀ i, i ≤ 8 → HiR (gP i) := by
  intro i
  induction i with
  | zero => exact fun _ => HiR_7
  | succ i ih => exact fun h => (ih (by omega)).th (by omega)
theorem HiR_L : HiR gL := by
  have h := HiR_P 8 (by decide)
  unfold gL gM
  generalize gP 8 = G at *
  exact ((((h.gs.s1 (by decide)).s1 (by decide)).s1 (by decide)).s1 (by decide)).gs.gs
theorem rfT_hi {k j : Nat} (hj : 16 ≤ j) : rfT k j = none := by
  have e : ∀ l : List (Option Nat), l.length ≤ 16 → l.getD j none = none := fun l h => by
    rw [List.getD_eq_getElem?_getD, List.getElem?_eq_none (by omega)]; rfl
  have hH : ∀ o, rfH o k j = none := by
    intro o
    unfold rfH
    rw [if_neg (show ¬ j = 0 by omega), if_neg (show ¬ j = 1 by omega), if_neg (show ¬ j = 2 by omega), if_neg (show ¬ j < 5 by omega), if_neg (show ¬ j < 2 by omega)]
    repeat' split
    all_goals rfl
  unfold rfT
  rw [e _ (by decide), hH, hH, hH, if_neg (show ¬ j < 8 by omega), if_neg (show ¬ j < 3 by omega), if_neg (show ¬ j = 1 by omega), if_neg (show ¬ j = 5 by omega), if_neg (show ¬ j = 7 by omega), if_neg (show ¬ j = 13 by omega)]
  repeat' split
  all_goals rfl
theorem gL_n : gL.1 = 197 := by
  have h := gP_n 8
  unfold gL gM
  generalize gP 8 = G at *
  show G.1 + 1 + 4 + 1 + 1 = 197
  omega
theorem gL_sh : gL.2.1 = shF := by
  have h := gP_sh 8
  unfold gL gM
  generalize gP 8 = G at *
  exact h
set_option maxRecDepth 100000 in
theorem gL_r0 : ∀ k, k < 197 → k ≠ 60 → ∀ j, j < 16 → gL.2.2 k j = rfT k j := by decide +kernel
theorem gL_v : gL.2.2 60 0 = some 61 := by decide +kernel
theorem lay_L : LAY gL := by
  refine ⟨by rw [gL_n]; decide, fun k hk e => ?_, fun k j hk e => ?_⟩
  · rw [gL_sh]
    exact if_neg e
  · by_cases hj : j < 16
    · exact gL_r0 k hk e j hj
    · rw [rfT_hi (by omega)]
      exact HiR_L k j (by omega)
