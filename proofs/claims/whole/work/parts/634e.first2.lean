/-! ===== the first state, of both sides ===== -/
theorem hw_0 : HW H0 := by
  refine ⟨⟨by decide, fun k hk => absurd hk (Nat.not_lt_zero _)⟩, ⟨by decide, by decide, fun p hp => absurd hp (Nat.not_lt_zero _), fun p q _ hq => absurd hq (Nat.not_lt_zero _), fun p q hp => absurd hp (Nat.not_lt_zero _)⟩, ⟨by decide, by decide, by decide⟩⟩
theorem ht_0 : HT 0 H0 := by unfold HT; decide
theorem wt_0 : WT 0 T0 := by
  refine ⟨⟨hw_0, ht_0⟩, by decide, fun i hi => absurd hi (Nat.not_lt_zero _), fun S h => (by cases h), fun m h => (by cases h), fun m h => (by cases h), by decide, fun c h => (by cases h), by decide, fun c h => (by cases h)⟩
set_option maxRecDepth 100000 in
theorem hr_0 : HR iL 1 H0 := by
  have hf : ∀ f, f < 14 → 3 ≤ f → iL 1 f = nI (H0.s f) := by decide +kernel
  have hz : ∀ k, k < 4 → iL 7 k = 0 := by decide +kernel
  refine ⟨⟨hw_0.1, ?_, fun k hk => absurd hk (Nat.not_lt_zero _), fun k hk => Or.inl (hz k hk)⟩, ⟨hw_0.2.1, ?_, ?_, fun k hk => absurd hk (Nat.not_lt_zero _)⟩, ⟨hw_0.2.2, ?_, ?_, ?_, ?_, fun k hk => absurd hk (Nat.not_lt_zero _), fun k hk => ?_⟩, fun f h1 h2 => hf f (by omega) h1⟩
  · show iL 2 5 = nI 0; decide +kernel
  · show iL 8 5 = nI 0; decide +kernel
  · show iL 8 6 = nI 0; decide +kernel
  · show iL 14 2 = nI 0; decide +kernel
  · show iL 14 3 = nI 0; decide +kernel
  · show iL 14 4 = nI 0; decide +kernel
  · show iL 14 5 = nI 0; decide +kernel
  · have hk0 : k = 0 := Nat.le_zero.mp hk
    subst hk0
    show iL 16 0 = nI 0; decide +kernel
set_option maxRecDepth 100000 in
theorem kc_0 : KCR iL T0 := by
  have hp : ∀ k, k < 8 → iL (62 + 16 * k + 15) 0 = nI 0 := by decide +kernel
  refine ⟨hr_0, ⟨0, by decide, ?_, ?_, fun i hi => absurd hi (Nat.not_lt_zero _)⟩, ?_, ?_, ?_, ⟨?_, by decide, fun j hj => absurd hj (Nat.not_lt_zero _)⟩, ⟨?_, fun j hj => absurd hj (Nat.not_lt_zero _)⟩, ?_⟩
  · show iL 0 9 = nI 0; decide +kernel
  · show iL 0 8 = nI 0; decide +kernel
  · show iL 0 7 = nI 0; decide +kernel
  · show iL 0 10 = optI none; decide +kernel
  · show iL 0 11 = optI none; decide +kernel
  · show iL 60 3 = nI 0; decide +kernel
  · show iL 56 3 = nI 0; decide +kernel
  · rintro a (rfl | rfl | rfl | ⟨k, hk, rfl⟩)
    · decide +kernel
    · decide +kernel
    · decide +kernel
    · exact hp k hk
set_option maxRecDepth 100000 in
theorem mr_0 : MR iL T0 := by
  have e : ∀ j, j < 19 → iL 191 j = nI (if j = 9 then 12 else if j = 10 then 2 else if j = 11 then 1 else 0) := by decide +kernel
  refine ⟨⟨⟨e 1 (by decide), fun k hk => absurd hk (Nat.not_lt_zero _)⟩, ⟨e 2 (by decide), e 3 (by decide), ?_⟩, ⟨e 12 (by decide), e 13 (by decide), e 17 (by decide), e 18 (by decide), fun k hk => absurd hk (Nat.not_lt_zero _)⟩, e 4 (by decide), e 5 (by decide), e 6 (by decide), e 7 (by decide), e 8 (by decide), e 9 (by decide), e 10 (by decide), e 11 (by decide), e 14 (by decide), e 15 (by decide), e 16 (by decide)⟩, ?_, fun i hi => absurd hi (Nat.not_lt_zero _), ?_, ?_, ?_, ⟨?_, fun j hj => absurd hj (Nat.not_lt_zero _)⟩, ⟨?_, fun j hj => absurd hj (Nat.not_lt_zero _)⟩⟩
  · refine ⟨fun _ _ => 0, ?_, fun i hi => absurd hi (Nat.not_lt_zero _)⟩
    exact ⟨fun i j _ hj => absurd hj (Nat.not_lt_zero _), fun i hi => absurd hi (Nat.not_lt_zero _)⟩
  · show iL 190 2 = nI 0; decide +kernel
  · show iL 190 3 = nI 0; decide +kernel
  · show iL 190 11 = optI none; decide +kernel
  · show iL 190 12 = optI none; decide +kernel
  · show iL 190 6 = nI 0; decide +kernel
  · show iL 190 8 = nI 0; decide +kernel
theorem st_0 : ST iL T0 0 := ⟨wt_0, kc_0, mr_0⟩
set_option maxRecDepth 100000 in
theorem layb_0 : LAYB gL iL iL := by
  refine ⟨lay_L, fun _ _ _ _ => rfl, 61, 16, 0, gL_v, by rw [gL_n]; decide, Or.inl rfl, by rw [gL_sh]; decide, ?_, ?_, ?_, Nat.zero_le _, by decide, by decide, fun j hj => ?_, fun j hj => absurd hj (Nat.not_lt_zero _)⟩
  · show iL 60 1 = 0; decide +kernel
  · show iL 60 3 = nI 0; decide +kernel
  · show iL 60 3 = nI 0; decide +kernel
  · have h : ∀ j, j < 16 → iL 61 j = 0 := by decide +kernel
    rw [h j hj]
    decide
