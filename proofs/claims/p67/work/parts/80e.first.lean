/-! ===== the first state ===== -/
def H0 : HS := ⟨(0, fun _ => 0, fun _ => 0, fun _ => 0, fun _ => 0, fun _ => 0), (0, 0, fun _ _ => 0), (0, 0, 0, 0, fun _ => 0), fun f => if f = 3 then 20 else if f = 8 then 12 else if f = 9 then 2 else if f = 10 then 1 else 0⟩
def T0 : TS := ⟨H0, 0, fun _ => H0, none, none, none, [], []⟩
theorem hw_0 : HW H0 := by
  refine ⟨⟨by decide, fun k hk => absurd hk (Nat.not_lt_zero _)⟩, ⟨by decide, by decide, fun p hp => absurd hp (Nat.not_lt_zero _), fun p q _ hq => absurd hq (Nat.not_lt_zero _), fun p q hp => absurd hp (Nat.not_lt_zero _)⟩, ⟨by decide, by decide, by decide⟩⟩
theorem ht_0 : HT 0 H0 := by unfold HT; decide
theorem wt_00 : WT 0 T0 := by
  refine ⟨⟨hw_0, ht_0⟩, by decide, fun i hi => absurd hi (Nat.not_lt_zero _), fun S h => (by cases h), fun m h => (by cases h), fun m h => (by cases h), by decide, fun c h => (by cases h), by decide, fun c h => (by cases h)⟩
set_option maxRecDepth 100000 in
theorem hr_0 : HR (iP 8) 1 H0 := by
  have hf : ∀ f, f < 14 → 3 ≤ f → (iP 8) 1 f = nI (H0.s f) := by decide +kernel
  have hz : ∀ k, k < 4 → (iP 8) 7 k = 0 := by decide +kernel
  refine ⟨⟨hw_0.1, ?_, fun k hk => absurd hk (Nat.not_lt_zero _), fun k hk => Or.inl (hz k hk)⟩, ⟨hw_0.2.1, ?_, ?_, fun k hk => absurd hk (Nat.not_lt_zero _)⟩, ⟨hw_0.2.2, ?_, ?_, ?_, ?_, fun k hk => absurd hk (Nat.not_lt_zero _), fun k hk => ?_⟩, fun f h1 h2 => hf f (by omega) h1⟩
  · show (iP 8) 2 5 = nI 0; decide +kernel
  · show (iP 8) 8 5 = nI 0; decide +kernel
  · show (iP 8) 8 6 = nI 0; decide +kernel
  · show (iP 8) 14 2 = nI 0; decide +kernel
  · show (iP 8) 14 3 = nI 0; decide +kernel
  · show (iP 8) 14 4 = nI 0; decide +kernel
  · show (iP 8) 14 5 = nI 0; decide +kernel
  · have hk0 : k = 0 := Nat.le_zero.mp hk
    subst hk0
    show (iP 8) 16 0 = nI 0; decide +kernel
set_option maxRecDepth 100000 in
theorem kc_0 : KCR (iP 8) T0 := by
  have hp : ∀ k, k < 8 → (iP 8) (62 + 16 * k + 15) 0 = nI 0 := by decide +kernel
  refine ⟨hr_0, ⟨0, by decide, ?_, ?_, fun i hi => absurd hi (Nat.not_lt_zero _)⟩, ?_, ?_, ?_, ⟨?_, by decide, fun j hj => absurd hj (Nat.not_lt_zero _)⟩, ⟨?_, fun j hj => absurd hj (Nat.not_lt_zero _)⟩, ?_⟩
  · show (iP 8) 0 9 = nI 0; decide +kernel
  · show (iP 8) 0 8 = nI 0; decide +kernel
  · show (iP 8) 0 7 = nI 0; decide +kernel
  · show (iP 8) 0 10 = optI none; decide +kernel
  · show (iP 8) 0 11 = optI none; decide +kernel
  · show (iP 8) 60 3 = nI 0; decide +kernel
  · show (iP 8) 56 3 = nI 0; decide +kernel
  · rintro a (rfl | rfl | rfl | ⟨k, hk, rfl⟩)
    · decide +kernel
    · decide +kernel
    · decide +kernel
    · exact hp k hk
theorem gi_0 : GI (iP 8) T0 0 := ⟨wt_00, kc_0⟩
