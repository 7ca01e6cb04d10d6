/-! ===== programs: the pure parser ===== -/
section P
variable (n : Nat) (g : Nat → Nat)
/-- how many letters match -/
def mtL : List Nat → Nat → Nat
  | [], _ => 0
  | c :: w, j => if j < n ∧ g j = c then 1 + mtL w (j + 1) else 0
abbrev dgP (j : Nat) : Prop := j < n ∧ 48 ≤ g j ∧ g j ≤ 57
/-- up to r digits: where they end, the number -/
def dN : Nat → Nat → Nat → Nat × Nat
  | 0, j, v => (j, v)
  | r + 1, j, v => if dgP n g j then dN r (j + 1) (10 * v + (g j - 48)) else (j, v)
/-- a blank and a number; inl: the error position -/
def argP (k j : Nat) : Sum Nat (Nat × Nat) := if j < n ∧ g j = 32 then (if dgP n g (j + 1) then .inr (dN n g k (j + 1) 0) else .inl (j + 1)) else .inl j
def argsP : List Nat → Nat → Sum Nat (Nat × List Nat)
  | [], j => .inr (j, [])
  | k :: ks, j => match argP n g k j with
    | .inl e => .inl e
    | .inr (j', v) => match argsP ks j' with
      | .inl e => .inl e
      | .inr (j'', vs) => .inr (j'', v :: vs)
end P
def wds : List (List Nat) := [[107, 101, 116, 116, 108, 101], [102, 105, 108, 108], [98, 117, 114, 110, 101, 114], [111, 114, 100, 101, 114], [99, 97, 110, 99, 101, 108], [115, 101, 114, 118, 101], [119, 97, 115, 104], [115, 116, 101, 97, 109], [109, 105, 110, 117, 116, 101, 115], [99, 117, 112], [108, 105, 116, 114, 101], [97, 116, 116, 101, 110, 100], [99, 108, 111, 115, 101]]
def wdN (v : Nat) : List Nat := wds.getD v []
def kds : List (List Nat) := [[3], [1, 3], [1, 1], [1, 1, 3, 1], [3], [], [3], [3], [3], [3], [3], [1], []]
def kdN (v : Nat) : List Nat := kds.getD v []
/-- the reference's letter of a verb -/
def ltN (v : Nat) : Nat := ([107, 102, 98, 111, 99, 115, 119, 116, 109, 117, 108, 97, 122] : List Nat).getD v 0
/-- which word it can only be; 13: none -/
def chN (a b : Nat) : Nat :=
  if a = 107 then 0 else if a = 102 then 1 else if a = 98 then 2 else if a = 111 then 3
  else if a = 99 then (if b = 108 then 12 else if b = 117 then 9 else 4)
  else if a = 115 then (if b = 116 then 7 else 5)
  else if a = 119 then 6 else if a = 109 then 8 else if a = 108 then 10 else if a = 97 then 11 else 13
theorem wd_str : ∀ v : Fin 13, strT (wordC (1000000 + v.val)) = wdN v.val := by decide +kernel
theorem kd_str : ∀ v : Fin 13, strT (kindC (1000000 + v.val)) = (kdN v.val).map (fun k => if k = 3 then 110 else 100) := by decide +kernel
theorem kd_13 : ∀ v : Fin 13, (∀ k, k ∈ kdN v.val → k = 1 ∨ k = 3) ∧ (kdN v.val).length ≤ 4 ∧ 5 ≤ (wdN v.val).length + 2 * (kdN v.val).length ∧ 1 ≤ (wdN v.val).length ∧ (wdN v.val).length ≤ 7 := by decide +kernel
section P
variable (n : Nat) (g : Nat → Nat)
/-- a command; inl: the error position -/
def cmdP (j : Nat) : Sum Nat (Nat × Nat × List Nat) :=
  if chN (g j) (g (j + 1)) = 13 then .inl j
  else if mtL n g (wdN (chN (g j) (g (j + 1)))) j = (wdN (chN (g j) (g (j + 1)))).length then
    (match argsP n g (kdN (chN (g j) (g (j + 1)))) (j + (wdN (chN (g j) (g (j + 1)))).length) with
    | .inl e => .inl e
    | .inr (j', vs) => .inr (j', chN (g j) (g (j + 1)), vs))
  else .inl (j + mtL n g (wdN (chN (g j) (g (j + 1)))) j)
def progP : Nat → Nat → Sum Nat (List (Nat × List Nat))
  | 0, j => .inl j
  | r + 1, j => match cmdP n g j with
    | .inl e => .inl e
    | .inr (j', c) => if j' = n then .inr [c] else if g j' = 59 then (match progP r (j' + 1) with
      | .inl e => .inl e
      | .inr cs => .inr (c :: cs)) else .inl j'
variable {n : Nat} {g : Nat → Nat}
theorem mt_le : ∀ (w : List Nat) (j : Nat), mtL n g w j ≤ w.length
  | [], _ => Nat.le_refl _
  | c :: w, j => by
    have := mt_le w (j + 1)
    unfold mtL
    split
    · simp only [List.length_cons]; omega
    · omega
theorem mt_n : ∀ (w : List Nat) (j : Nat), j ≤ n → j + mtL n g w j ≤ n
  | [], j, h => h
  | c :: w, j, h => by
    unfold mtL
    split
    · next q => have := mt_n w (j + 1) (by omega); omega
    · exact h
theorem mt_ne0 {c : Nat} {w : List Nat} {j : Nat} (h : g j ≠ c) : mtL n g (c :: w) j = 0 := by
  unfold mtL; rw [if_neg (fun q => h q.2)]
theorem mt_ne1 {c d : Nat} {w : List Nat} {j : Nat} (h : g (j + 1) ≠ d) : mtL n g (c :: d :: w) j ≤ 1 := by
  unfold mtL
  rw [mt_ne0 h]
  split <;> omega
theorem mt_ge1 {c : Nat} {w : List Nat} {j : Nat} (hn : j < n) (h : g j = c) : mtL n g (c :: w) j = 1 + mtL n g w (j + 1) := by
  rw [mtL, if_pos ⟨hn, h⟩]
theorem ch_le (a b : Nat) : chN a b ≤ 13 := by
  unfold chN
  repeat' split
  all_goals omega
theorem ch_head {a b : Nat} (h : chN a b ≠ 13) : a = (wdN (chN a b)).headD 0 := by
  unfold chN at h ⊢
  by_cases h0 : a = 107
  · rw [if_pos h0]; exact h0
  rw [if_neg h0] at h ⊢
  by_cases h1 : a = 102
  · rw [if_pos h1]; exact h1
  rw [if_neg h1] at h ⊢
  by_cases h2 : a = 98
  · rw [if_pos h2]; exact h2
  rw [if_neg h2] at h ⊢
  by_cases h3 : a = 111
  · rw [if_pos h3]; exact h3
  rw [if_neg h3] at h ⊢
  by_cases h4 : a = 99
  · rw [if_pos h4]
    by_cases k1 : b = 108
    · rw [if_pos k1]; exact h4
    · rw [if_neg k1]
      by_cases k2 : b = 117
      · rw [if_pos k2]; exact h4
      · rw [if_neg k2]; exact h4
  rw [if_neg h4] at h ⊢
  by_cases h5 : a = 115
  · rw [if_pos h5]
    by_cases k1 : b = 116
    · rw [if_pos k1]; exact h5
    · rw [if_neg k1]; exact h5
  rw [if_neg h5] at h ⊢
  by_cases h6 : a = 119
  · rw [if_pos h6]; exact h6
  rw [if_neg h6] at h ⊢
  by_cases h7 : a = 109
  · rw [if_pos h7]; exact h7
  rw [if_neg h7] at h ⊢
  by_cases h8 : a = 108
  · rw [if_pos h8]; exact h8
  rw [if_neg h8] at h ⊢
  by_cases h9 : a = 97
  · rw [if_pos h9]; exact h9
  rw [if_neg h9] at h ⊢
  exact absurd rfl h
theorem ch_h13 : ∀ u : Fin 13, ∀ b, chN ((wdN u.val).headD 0) b ≠ 13 := by
  intro u b
  have h : ∀ u : Fin 13, (wdN u.val).headD 0 = 107 ∨ (wdN u.val).headD 0 = 102 ∨ (wdN u.val).headD 0 = 98 ∨ (wdN u.val).headD 0 = 111 ∨ (wdN u.val).headD 0 = 99 ∨ (wdN u.val).headD 0 = 115 ∨ (wdN u.val).headD 0 = 119 ∨ (wdN u.val).headD 0 = 109 ∨ (wdN u.val).headD 0 = 108 ∨ (wdN u.val).headD 0 = 97 := by decide +kernel
  have k1 : chN 99 b ≠ 13 := by
    show (if b = 108 then 12 else if b = 117 then 9 else 4) ≠ 13
    split
    · decide
    · split <;> decide
  have k2 : chN 115 b ≠ 13 := by
    show (if b = 116 then 7 else 5) ≠ 13
    split <;> decide
  rcases h u with e | e | e | e | e | e | e | e | e | e <;> rw [e]
  · show (0 : Nat) ≠ 13; decide
  · show (1 : Nat) ≠ 13; decide
  · show (2 : Nat) ≠ 13; decide
  · show (3 : Nat) ≠ 13; decide
  · exact k1
  · exact k2
  · show (6 : Nat) ≠ 13; decide
  · show (8 : Nat) ≠ 13; decide
  · show (10 : Nat) ≠ 13; decide
  · show (11 : Nat) ≠ 13; decide
/-- no other word matches as far, or whole -/
theorem ch_best {j : Nat} (hg : ∀ j, n ≤ j → g j = 0) (hv : chN (g j) (g (j + 1)) ≠ 13) : j < n ∧ 1 ≤ mtL n g (wdN (chN (g j) (g (j + 1)))) j ∧ ∀ u, u < 13 → u ≠ chN (g j) (g (j + 1)) → mtL n g (wdN u) j ≤ 1 ∧ mtL n g (wdN u) j < (wdN u).length := by
  have hj : j < n := by
    by_cases q : j < n
    · exact q
    · rw [hg j (by omega)] at hv
      exact absurd rfl hv
  have e : ∀ v, wdN v = wds.getD v [] := fun v => rfl
  have other : ∀ u, u < 13 → (g j ≠ (wdN u).headD 0 ∨ g (j + 1) ≠ (wdN u).tail.headD 0) → mtL n g (wdN u) j ≤ 1 ∧ mtL n g (wdN u) j < (wdN u).length := by
    intro u hu h
    have hl : 2 ≤ (wdN u).length := (show ∀ u : Fin 13, 2 ≤ (wdN u.val).length by decide +kernel) ⟨u, hu⟩
    cases hw : wdN u with
    | nil => rw [hw] at hl; simp at hl
    | cons c w =>
      cases w with
      | nil => rw [hw] at hl; simp at hl
      | cons d w =>
        rw [hw] at h
        have h : g j ≠ c ∨ g (j + 1) ≠ d := h
        have : mtL n g (c :: d :: w) j ≤ 1 := by
          rcases h with h | h
          · rw [mt_ne0 h]; omega
          · exact mt_ne1 h
        exact ⟨this, by simp only [List.length_cons]; omega⟩
  have first : ∀ v, v < 13 → g j = (wdN v).headD 0 → 1 ≤ mtL n g (wdN v) j := by
    intro v hv2 h
    have hl : 2 ≤ (wdN v).length := (show ∀ u : Fin 13, 2 ≤ (wdN u.val).length by decide +kernel) ⟨v, hv2⟩
    cases hw : wdN v with
    | nil => rw [hw] at hl; simp at hl
    | cons c w =>
      rw [hw] at h
      have h : g j = c := h
      rw [mt_ge1 hj h]; omega
  have hv13 := ch_le (g j) (g (j + 1))
  refine ⟨hj, first _ (by omega) ?_, fun u hu hne => other u hu ?_⟩
  · exact ch_head hv
  · by_cases c1 : g j = (wdN u).headD 0
    · by_cases c2 : g (j + 1) = (wdN u).tail.headD 0
      · exfalso
        apply hne
        rw [c1, c2]
        exact (show ∀ u : Fin 13, u.val = chN ((wdN u.val).headD 0) ((wdN u.val).tail.headD 0) by decide +kernel) ⟨u, hu⟩
      · exact Or.inr c2
    · exact Or.inl c1
theorem dN_le : ∀ (r j v : Nat), j ≤ n → j ≤ (dN n g r j v).1 ∧ (dN n g r j v).1 ≤ n
  | 0, j, v, h => ⟨Nat.le_refl _, h⟩
  | r + 1, j, v, h => by
    unfold dN
    split
    · next q => have := dN_le r (j + 1) (10 * v + (g j - 48)) (by omega); omega
    · exact ⟨Nat.le_refl _, h⟩
theorem dN_lt : ∀ (r j v : Nat), (dN n g r j v).2 < (v + 1) * 10 ^ r
  | 0, j, v => by show v < (v + 1) * 1; omega
  | r + 1, j, v => by
    unfold dN
    have hp : 0 < 10 ^ r := Nat.pow_pos (by decide)
    split
    · next q =>
      have := dN_lt r (j + 1) (10 * v + (g j - 48))
      have h2 : (10 * v + (g j - 48) + 1) * 10 ^ r ≤ ((v + 1) * 10) * 10 ^ r := Nat.mul_le_mul_right _ (by omega)
      rw [Nat.pow_succ, Nat.mul_comm (10 ^ r) 10, ← Nat.mul_assoc]
      omega
    · show v < (v + 1) * 10 ^ (r + 1)
      have h2 : (v + 1) * 1 ≤ (v + 1) * 10 ^ (r + 1) := Nat.mul_le_mul_left _ (Nat.pow_pos (by decide))
      omega
theorem argP_inl {k j e : Nat} (hj : j ≤ n) (h : argP n g k j = .inl e) : e ≤ n := by
  unfold argP at h
  split at h
  · split at h
    · cases h
    · cases h; omega
  · cases h; exact hj
theorem argP_inr {k j j' v : Nat} (hk : k = 1 ∨ k = 3) (h : argP n g k j = .inr (j', v)) : j < n ∧ g j = 32 ∧ dgP n g (j + 1) ∧ (j', v) = dN n g k (j + 1) 0 ∧ j + 2 ≤ j' ∧ j' ≤ n ∧ v < 1000 := by
  unfold argP at h
  split at h
  · next q =>
    split at h
    · next q2 =>
      have h := Sum.inr.inj h
      have e1 : j' = (dN n g k (j + 1) 0).1 := by rw [h]
      have e2 : v = (dN n g k (j + 1) 0).2 := by rw [h]
      rw [e1, e2]
      refine ⟨q.1, q.2, q2, rfl, ?_, ?_, ?_⟩
      · rcases hk with rfl | rfl
        · have e : dN n g 1 (j + 1) 0 = dN n g 0 (j + 2) (10 * 0 + (g (j + 1) - 48)) := by
            rw [show dN n g 1 (j + 1) 0 = if dgP n g (j + 1) then dN n g 0 (j + 1 + 1) (10 * 0 + (g (j + 1) - 48)) else (j + 1, 0) from rfl, if_pos q2]
          rw [e]; exact Nat.le_refl _
        · have e : dN n g 3 (j + 1) 0 = dN n g 2 (j + 2) (10 * 0 + (g (j + 1) - 48)) := by
            rw [show dN n g 3 (j + 1) 0 = if dgP n g (j + 1) then dN n g 2 (j + 1 + 1) (10 * 0 + (g (j + 1) - 48)) else (j + 1, 0) from rfl, if_pos q2]
          rw [e]; exact (dN_le 2 (j + 2) _ (by omega)).1
      · exact (dN_le k (j + 1) 0 (by omega)).2
      · have := dN_lt (n := n) (g := g) k (j + 1) 0
        rcases hk with rfl | rfl <;> omega
    · cases h
  · cases h
theorem argsP_inl : ∀ {ks : List Nat} {j e : Nat}, (∀ k, k ∈ ks → k = 1 ∨ k = 3) → j ≤ n → argsP n g ks j = .inl e → e ≤ n
  | [], j, e, _, _, h => by cases h
  | k :: ks, j, e, hk, hj, h => by
    unfold argsP at h
    cases h1 : argP n g k j with
    | inl e1 => rw [h1] at h; cases h; exact argP_inl hj h1
    | inr x =>
      obtain ⟨j', v⟩ := x
      rw [h1] at h
      dsimp only at h
      have := argP_inr (hk k (List.mem_cons_self ..)) h1
      cases h2 : argsP n g ks j' with
      | inl e2 => rw [h2] at h; cases h; exact argsP_inl (fun k hk2 => hk k (List.mem_cons_of_mem _ hk2)) (by omega) h2
      | inr y => rw [h2] at h; cases h
theorem argsP_inr : ∀ {ks : List Nat} {j j' : Nat} {vs : List Nat}, (∀ k, k ∈ ks → k = 1 ∨ k = 3) → j ≤ n → argsP n g ks j = .inr (j', vs) → j + 2 * ks.length ≤ j' ∧ j' ≤ n ∧ vs.length = ks.length ∧ ∀ v, v ∈ vs → v < 1000
  | [], j, j', vs, _, hj, h => by
    cases h
    exact ⟨Nat.le_refl _, hj, rfl, fun v hv => by cases hv⟩
  | k :: ks, j, j', vs, hk, hj, h => by
    unfold argsP at h
    cases h1 : argP n g k j with
    | inl e1 => rw [h1] at h; cases h
    | inr x =>
      obtain ⟨j1, v⟩ := x
      rw [h1] at h
      dsimp only at h
      have a1 := argP_inr (hk k (List.mem_cons_self ..)) h1
      cases h2 : argsP n g ks j1 with
      | inl e2 => rw [h2] at h; cases h
      | inr y =>
        obtain ⟨j2, vs2⟩ := y
        rw [h2] at h
        cases h
        have a2 := argsP_inr (fun k hk2 => hk k (List.mem_cons_of_mem _ hk2)) (by omega) h2
        refine ⟨by simp only [List.length_cons]; omega, a2.2.1, by simp only [List.length_cons]; omega, fun u hu => ?_⟩
        rcases List.mem_cons.mp hu with q | q
        · rw [q]; exact a1.2.2.2.2.2.2
        · exact a2.2.2.2 u q
theorem cmdP_inl {j e : Nat} (hj : j ≤ n) (h : cmdP n g j = .inl e) : e ≤ n := by
  unfold cmdP at h
  split at h
  · cases h; exact hj
  · next q =>
    have hv := ch_le (g j) (g (j + 1))
    split at h
    · next q2 =>
      have hm := mt_n (n := n) (g := g) (wdN (chN (g j) (g (j + 1)))) j hj
      cases h2 : argsP n g (kdN (chN (g j) (g (j + 1)))) (j + (wdN (chN (g j) (g (j + 1)))).length) with
      | inl e2 => rw [h2] at h; cases h; exact argsP_inl (kd_13 ⟨chN (g j) (g (j + 1)), by omega⟩).1 (by omega) h2
      | inr y => rw [h2] at h; cases h
    · cases h
      exact mt_n _ j hj
theorem cmdP_inr {j j' v : Nat} {vs : List Nat} (hj : j ≤ n) (h : cmdP n g j = .inr (j', v, vs)) : v < 13 ∧ j + 5 ≤ j' ∧ j' ≤ n ∧ vs.length = (kdN v).length ∧ (∀ u, u ∈ vs → u < 1000) ∧ v = chN (g j) (g (j + 1)) ∧ mtL n g (wdN v) j = (wdN v).length ∧ argsP n g (kdN v) (j + (wdN v).length) = .inr (j', vs) := by
  unfold cmdP at h
  split at h
  · cases h
  · next q =>
    have hv := ch_le (g j) (g (j + 1))
    split at h
    · next q2 =>
      have hm := mt_n (n := n) (g := g) (wdN (chN (g j) (g (j + 1)))) j hj
      have kd := kd_13 ⟨chN (g j) (g (j + 1)), by omega⟩
      cases h2 : argsP n g (kdN (chN (g j) (g (j + 1)))) (j + (wdN (chN (g j) (g (j + 1)))).length) with
      | inl e2 => rw [h2] at h; cases h
      | inr y =>
        obtain ⟨j2, vs2⟩ := y
        rw [h2] at h
        cases h
        have a := argsP_inr kd.1 (by omega) h2
        dsimp only at kd
        have k5 := kd.2.2.1
        have a1 := a.1
        have a3 := a.2.2.1
        have hv12 : chN (g j) (g (j + 1)) < 13 := by omega
        refine ⟨hv12, ?_, a.2.1, a.2.2.1, a.2.2.2, rfl, q2, h2⟩
        clear a h2 kd q2 hm
        generalize (kdN (chN (g j) (g (j + 1)))).length = kl at *
        generalize (wdN (chN (g j) (g (j + 1)))).length = wl at *
        omega
        -- a.2.2.1, a.2.2.2, rfl, q2, h2⟩
    · cases h
theorem progP_inl : ∀ {r j e : Nat}, j ≤ n → progP n g r j = .inl e → e ≤ n
  | 0, j, e, hj, h => by cases h; exact hj
  | r + 1, j, e, hj, h => by
    unfold progP at h
    cases h1 : cmdP n g j with
    | inl e1 => rw [h1] at h; cases h; exact cmdP_inl hj h1
    | inr x =>
      obtain ⟨j1, v, vs⟩ := x
      rw [h1] at h
      dsimp only at h
      have a := cmdP_inr hj h1
      split at h
      · cases h
      · next q =>
        split at h
        · cases h2 : progP n g r (j1 + 1) with
          | inl e2 => rw [h2] at h; cases h; exact progP_inl (by omega) h2
          | inr y => rw [h2] at h; cases h
        · cases h; exact a.2.2.1
end P
