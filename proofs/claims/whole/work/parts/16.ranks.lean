/-! ===== comparing ints, ranks ===== -/
/-- one to one on the first n numbers, into them: onto them -/
theorem pigeon : ∀ (n : Nat) (f : Nat → Nat), (∀ i, i < n → f i < n) → (∀ i j, i < n → j < n → f i = f j → i = j) → ∀ r, r < n → ∃ i, i < n ∧ f i = r := by
  intro n
  induction n with
  | zero => intro f _ _ r hr; omega
  | succ n ih =>
    intro f h1 h2 r hr
    have hg1 : ∀ i, i < n → (if f i = n then f n else f i) < n := by
      intro i hi
      have a := h1 i (by omega)
      have b := h1 n (by omega)
      split
      · next e =>
        have : f n ≠ n := fun e2 => by have := h2 i n (by omega) (by omega) (by omega); omega
        omega
      · next e => omega
    have hg2 : ∀ i j, i < n → j < n → (if f i = n then f n else f i) = (if f j = n then f n else f j) → i = j := by
      intro i j hi hj e
      by_cases e1 : f i = n
      · by_cases e2 : f j = n
        · exact h2 i j (by omega) (by omega) (by omega)
        · rw [if_pos e1, if_neg e2] at e
          have := h2 n j (by omega) (by omega) e
          omega
      · by_cases e2 : f j = n
        · rw [if_neg e1, if_pos e2] at e
          have := h2 i n (by omega) (by omega) e
          omega
        · rw [if_neg e1, if_neg e2] at e
          exact h2 i j (by omega) (by omega) e
    by_cases hrn : r = f n
    · exact ⟨n, by omega, hrn.symm⟩
    · by_cases hr2 : r < n
      · obtain ⟨i, hi, e⟩ := ih _ hg1 hg2 r hr2
        by_cases e1 : f i = n
        · rw [if_pos e1] at e; exact absurd e.symm hrn
        · rw [if_neg e1] at e; exact ⟨i, by omega, e⟩
      · have hr3 : r = n := by omega
        -- n is hit by some i < n, else f maps n + 1 numbers below n
        have hfn : f n < n := by have := h1 n (by omega); omega
        obtain ⟨i, hi, e⟩ := ih _ hg1 hg2 (f n) hfn
        by_cases e1 : f i = n
        · exact ⟨i, by omega, by omega⟩
        · rw [if_neg e1] at e
          have := h2 i n (by omega) (by omega) e
          omega
theorem cntN_mono {p q : Nat → Prop} [DecidablePred p] [DecidablePred q] : ∀ {n : Nat}, (∀ i, i < n → p i → q i) → cntN p n ≤ cntN q n
  | 0, _ => Nat.le_refl _
  | n + 1, h => by
    have h1 := cntN_mono (n := n) (fun i hi => h i (by omega))
    have h2 := h n (by omega)
    simp only [cntN]
    by_cases e : p n
    · rw [if_pos e, if_pos (h2 e)]; omega
    · rw [if_neg e]; split <;> omega
theorem cntN_lt {p q : Nat → Prop} [DecidablePred p] [DecidablePred q] : ∀ {n : Nat}, (∀ i, i < n → p i → q i) → ∀ k, k < n → q k → ¬ p k → cntN p n < cntN q n
  | 0, _, k, hk, _, _ => by omega
  | n + 1, h, k, hk, hq, hp => by
    have h2 := h n (by omega)
    simp only [cntN]
    by_cases e : k = n
    · subst e
      have h1 := cntN_mono (n := k) (fun i hi => h i (by omega))
      rw [if_neg hp, if_pos hq]; omega
    · have h1 := cntN_lt (n := n) (fun i hi => h i (by omega)) k (by omega) hq hp
      by_cases e2 : p n
      · rw [if_pos e2, if_pos (h2 e2)]; omega
      · rw [if_neg e2]; split <;> omega
theorem cntN_congr {p q : Nat → Prop} [DecidablePred p] [DecidablePred q] {n : Nat} (h : ∀ i, i < n → (p i ↔ q i)) : cntN p n = cntN q n :=
  Nat.le_antisymm (cntN_mono fun i hi => (h i hi).mp) (cntN_mono fun i hi => (h i hi).mpr)
theorem cntN_all {p : Nat → Prop} [DecidablePred p] : ∀ {n : Nat}, (∀ i, i < n → p i) → cntN p n = n
  | 0, _ => rfl
  | n + 1, h => by simp only [cntN, cntN_all (n := n) (fun i hi => h i (by omega)), if_pos (h n (by omega))]
theorem cntN_none {p : Nat → Prop} [DecidablePred p] : ∀ {n : Nat}, (∀ i, i < n → ¬ p i) → cntN p n = 0
  | 0, _ => rfl
  | n + 1, h => by simp only [cntN, cntN_none (n := n) (fun i hi => h i (by omega)), if_neg (h n (by omega))]
section Rank
variable {lt : Nat → Nat → Prop} {n : Nat}
theorem rk_lt [DecidableRel lt] (hi : ∀ i, ¬ lt i i) {i : Nat} (h : i < n) : cntN (fun o => lt o i) n < n := by
  have h1 := cntN_lt (p := fun o => lt o i) (q := fun _ => True) (n := n) (fun _ _ _ => trivial) i h trivial (hi i)
  rw [cntN_all (p := fun _ => True) (fun _ _ => trivial)] at h1
  exact h1
theorem rk_mono [DecidableRel lt] (hi : ∀ i, ¬ lt i i) (ht : ∀ i j k, lt i j → lt j k → lt i k) {i j : Nat} (h : i < n) (hl : lt i j) : cntN (fun o => lt o i) n < cntN (fun o => lt o j) n :=
  cntN_lt (fun o _ ho => ht o i j ho hl) i h hl (hi i)
theorem rk_inj [DecidableRel lt] (hi : ∀ i, ¬ lt i i) (ht : ∀ i j k, lt i j → lt j k → lt i k) (htot : ∀ i j, i < n → j < n → i ≠ j → lt i j ∨ lt j i) {i j : Nat} (h : i < n) (hj : j < n) (e : cntN (fun o => lt o i) n = cntN (fun o => lt o j) n) : i = j := by
  by_cases e2 : i = j
  · exact e2
  · rcases htot i j h hj e2 with q | q
    · have := rk_mono (n := n) hi ht h q; omega
    · have := rk_mono (n := n) hi ht hj q; omega
theorem rk_onto [DecidableRel lt] (hi : ∀ i, ¬ lt i i) (ht : ∀ i j k, lt i j → lt j k → lt i k) (htot : ∀ i j, i < n → j < n → i ≠ j → lt i j ∨ lt j i) {r : Nat} (hr : r < n) : ∃ i, i < n ∧ cntN (fun o => lt o i) n = r :=
  pigeon n (fun i => cntN (fun o => lt o i) n) (fun i h => rk_lt hi h) (fun i j h1 h2 e => rk_inj hi ht htot h1 h2 e) r hr
end Rank
theorem Same.eq {I I' : IT} {a n q : Nat} (h : Same I I' a n) (hq : q < a ∨ a + n ≤ q) (j : Nat) : I' q j = I q j := by rw [h q hq]
theorem nar_bool {n : Nat} (h : n ≤ 1) : vp_nar .boolean (nI n) = nI n := by
  rcases (show n = 0 ∨ n = 1 by omega) with rfl | rfl <;> rfl
theorem nI_if (p : Prop) [Decidable p] (a b : Nat) : (if p then nI a else nI b) = nI (if p then a else b) := by split <;> rfl
theorem firstN_lt {p : Nat → Prop} [DecidablePred p] {n j : Nat} (h : firstN p n = some j) : j < n := (firstN_some h).1
theorem optI_some (j : Nat) : optI (some j) = nI j := rfl
theorem optI_none : optI none = -1 := rfl
theorem optI_toInt {r : Option Nat} (h : ∀ j, r = some j → j < 2 ^ 31) : (optI r).toInt = (match r with | none => -1 | some j => (j : Int)) := by
  cases r with
  | none => rfl
  | some j => exact nI_toInt (h j rfl)
theorem sumN_congr {f g : Nat → Nat} : ∀ {n : Nat}, (∀ i, i < n → f i = g i) → sumN f n = sumN g n
  | 0, _ => rfl
  | n + 1, h => by simp only [sumN, sumN_congr (n := n) (fun i hi => h i (by omega)), h n (by omega)]

