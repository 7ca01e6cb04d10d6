/-! ===== comparing ints; TeaHouse$Kettles, further methods ===== -/
theorem i32_lt (x y : Int32) : (x < y) = (x.toInt < y.toInt) := propext Int32.lt_iff_toInt_lt
theorem i32_le (x y : Int32) : (x ≤ y) = (x.toInt ≤ y.toInt) := propext Int32.le_iff_toInt_le
theorem i32_eq (x y : Int32) : (x = y) = (x.toInt = y.toInt) := propext Int32.toInt_inj.symm
theorem i32_0 : (0 : Int32).toInt = 0 := rfl
theorem i32_m1 : (-1 : Int32).toInt = -1 := rfl
theorem bz_eq0 (p : Prop) [Decidable p] : ((if p then nI 1 else nI 0) = (0 : Int32)) = ¬ p := by
  by_cases h : p
  · rw [if_pos h]; simp [h]; decide
  · rw [if_neg h]; simp [h]; decide
theorem nI_lt32 {n : Nat} (h : n < 2 ^ 31) : (nI n).toInt < 2147483648 := by rw [nI_toInt h]; omega
/-- going up to N -/
theorem upto {N : Nat} {P : Nat → Prop} (step : ∀ j, j ≤ N → (∀ j', j < j' → j' ≤ N → P j') → P j) : ∀ j, j ≤ N → P j := by
  have h : ∀ n j, j ≤ N → N - j = n → P j := by
    intro n
    induction n using Nat.strongRecOn with
    | _ n ih => intro j hj hn; exact step j hj (fun j' h1 h2 => ih (N - j') (by omega) j' h2 rfl)
  exact fun j hj => h _ j hj rfl
/-- going down -/
theorem dnto {P : Nat → Prop} (step : ∀ j, (∀ j', j' < j → P j') → P j) : ∀ j, P j := fun j => Nat.strongRecOn j step
theorem max_nI {a b : Nat} (ha : a < 2 ^ 31) (hb : b < 2 ^ 31) : (if nI a < nI b then nI b else nI a) = nI (max a b) := by
  by_cases h : a < b
  · rw [if_pos ((nI_ltI ha hb).mpr h)]; congr 1; omega
  · rw [if_neg (fun q => h ((nI_ltI ha hb).mp q))]; congr 1; omega
theorem min_nI {a b : Nat} (ha : a < 2 ^ 31) (hb : b < 2 ^ 31) : (if nI b < nI a then nI b else nI a) = nI (min a b) := by
  by_cases h : b < a
  · rw [if_pos ((nI_ltI hb ha).mpr h)]; congr 1; omega
  · rw [if_neg (fun q => h ((nI_ltI hb ha).mp q))]; congr 1; omega

/-- how many i < n -/
def cntN (p : Nat → Prop) [DecidablePred p] : Nat → Nat
  | 0 => 0
  | n + 1 => cntN p n + if p n then 1 else 0
theorem cntN_le (p : Nat → Prop) [DecidablePred p] : ∀ n, cntN p n ≤ n
  | 0 => Nat.le_refl _
  | n + 1 => by
    have := cntN_le p n
    simp only [cntN]
    split <;> omega
/-- the first i < n -/
def firstN (p : Nat → Prop) [DecidablePred p] : Nat → Option Nat
  | 0 => none
  | n + 1 => match firstN p n with
    | some j => some j
    | none => if p n then some n else none
theorem firstN_none {p : Nat → Prop} [DecidablePred p] : ∀ {n : Nat}, (∀ i, i < n → ¬ p i) → firstN p n = none
  | 0, _ => rfl
  | n + 1, h => by
    have h1 := firstN_none (p := p) (n := n) (fun i hi => h i (by omega))
    have h2 := h n (by omega)
    simp only [firstN]
    rw [h1]
    simp only [if_neg h2]
theorem firstN_hit {p : Nat → Prop} [DecidablePred p] {j : Nat} : ∀ {n : Nat}, j < n → p j → (∀ i, i < j → ¬ p i) → firstN p n = some j
  | 0, h, _, _ => absurd h (Nat.not_lt_zero _)
  | n + 1, h, hp, hn => by
    by_cases e : j = n
    · subst e
      simp only [firstN, firstN_none hn, if_pos hp]
    · simp only [firstN, firstN_hit (n := n) (by omega) hp hn]
theorem firstN_some {p : Nat → Prop} [DecidablePred p] {j : Nat} : ∀ {n : Nat}, firstN p n = some j → j < n ∧ p j ∧ ∀ i, i < j → ¬ p i
  | 0, h => by cases h
  | n + 1, h => by
    simp only [firstN] at h
    cases e : firstN p n with
    | some i =>
      rw [e] at h
      cases h
      obtain ⟨h1, h2, h3⟩ := firstN_some e
      exact ⟨by omega, h2, h3⟩
    | none =>
      rw [e] at h
      dsimp only at h
      split at h
      · next hp =>
        cases h
        refine ⟨by omega, hp, fun i hi hpi => ?_⟩
        -- an earlier hit would have been found
        have : ∀ m, m ≤ j → firstN p m = none → ∀ i, i < m → ¬ p i := by
          intro m
          induction m with
          | zero => intro _ _ i hi; omega
          | succ m ih =>
            intro hm hn i hi
            simp only [firstN] at hn
            cases e2 : firstN p m with
            | some q => rw [e2] at hn; cases hn
            | none =>
              rw [e2] at hn
              dsimp only at hn
              split at hn
              · cases hn
              · next hq =>
                by_cases e3 : i = m
                · rw [e3]; exact hq
                · exact ih (by omega) e2 i (by omega)
        exact this j (Nat.le_refl _) e i hi hpi
      · cases h
theorem firstN_no {p : Nat → Prop} [DecidablePred p] {n : Nat} (h : firstN p n = none) : ∀ i, i < n → ¬ p i := by
  intro i hi hp
  -- the least such
  have : ∃ j, j ≤ i ∧ p j ∧ ∀ q, q < j → ¬ p q := by
    induction i using Nat.strongRecOn with
    | _ i ih =>
      by_cases e : ∃ q, q < i ∧ p q
      · obtain ⟨q, h1, h2⟩ := e
        obtain ⟨j, h3, h4⟩ := ih q h1 (by omega) h2
        exact ⟨j, by omega, h4⟩
      · exact ⟨i, Nat.le_refl _, hp, fun q hq hpq => e ⟨q, hq, hpq⟩⟩
  obtain ⟨j, h1, h2, h3⟩ := this
  rw [firstN_hit (n := n) (by omega) h2 h3] at h
  cases h
/-- the answer of a search: -1 where nothing is found -/
def optI (r : Option Nat) : Int32 := match r with
  | none => -1
  | some j => nI j
def sumN (f : Nat → Nat) : Nat → Nat
  | 0 => 0
  | n + 1 => sumN f n + f n
theorem sumN_le {f : Nat → Nat} {B : Nat} : ∀ {n : Nat}, (∀ i, i < n → f i ≤ B) → sumN f n ≤ n * B
  | 0, _ => by simp [sumN]
  | n + 1, h => by
    have h1 := sumN_le (n := n) (fun i hi => h i (by omega))
    have h2 := h n (by omega)
    simp only [sumN, Nat.succ_mul]
    omega
abbrev aheadK (S : KS) (k o : Nat) : Prop := ktmp S o < ktmp S k ∨ (ktmp S k = ktmp S o ∧ (kvol S o < kvol S k ∨ (kvol S k = kvol S o ∧ k < o)))
def rankK (S : KS) (k : Nat) : Nat := cntN (fun o => aheadK S o k) (kc S)
def rankedK (S : KS) (x : Int) : Option Nat := firstN (fun k => (rankK S k : Int) = x) (kc S)
def htK (S : KS) (k : Nat) : Option Nat := if kvol S k = 0 ∨ klev S k = 0 then none else some (max 1 ((200 - ktmp S k + (3 * klev S k - 1) - 1) / (3 * klev S k - 1)))
def suitK (S : KS) (cups min : Nat) : Nat → Option Nat
  | 0 => none
  | j + 1 => if 2 * cups ≤ kvol S j ∧ (match suitK S cups min j with | none => 2 * min - 1 | some b => ktmp S b) < ktmp S j then some j else suitK S cups min j
theorem suitK_lt {S : KS} {cups min : Nat} : ∀ {n j : Nat}, suitK S cups min n = some j → j < n
  | 0, _, h => by cases h
  | n + 1, j, h => by
    unfold suitK at h
    by_cases e : 2 * cups ≤ kvol S n ∧ (match suitK S cups min n with | none => 2 * min - 1 | some b => ktmp S b) < ktmp S n
    · rw [if_pos e] at h; cases h; omega
    · rw [if_neg e] at h; have := suitK_lt h; omega
def addK (S : KS) (cap : Nat) : KS := (kc S + 1, setN (kcap S) (kc S) cap, setN (kvol S) (kc S) 0, setN (ktmp S) (kc S) 40, setN (klev S) (kc S) 0, setN (kboi S) (kc S) 0)
def pourK (S : KS) (k more : Nat) : KS := (kc S, kcap S, setN (kvol S) k (kvol S k + more), setN (ktmp S) k (40 + (ktmp S k - 40) * kvol S k / (kvol S k + more)), klev S, kboi S)
def turnK (S : KS) (k lev : Nat) : KS := (kc S, kcap S, kvol S, ktmp S, setN (klev S) k lev, kboi S)
section K2
variable {l : Launch} {D : DT} {G : GT} {I : IT} {L : LT} {a : Nat} {S : KS}
set_option maxRecDepth 100000 in
set_option maxHeartbeats 4000000 in
theorem c_KtotalVolume (hG : KG G a) (hS : KR I a S) : Con l D m_X3_totalVolume 1 [.ref a] 0 0 G I L (Pq G L fun v I' => v = some (.int (nI (sumN (kvol S) (kc S)))) ∧ I' = I) := by
  have hG0 := hG
  obtain ⟨⟨h0, s0⟩, ⟨h1, s1⟩, ⟨h2, s2⟩, ⟨h3, s3⟩, ⟨h4, s4⟩, ⟨h5, s5⟩, f0, f1, f2, f3, f4⟩ := hG
  have hS0 := hS
  obtain ⟨⟨w1, w2⟩, hc, hv⟩ := hS
  refine Con.of (by decide +kernel) (by simp [Value.category]) (by simp [m_X3_totalVolume]) (Or.inl rfl) (fun X hX hT hI => ?_)
  have hX : OK X D cX3_totalVolume "TeaHouse$Kettles" 3 := hX
  have hR := hT.room
  have hI : yX3_totalVolume.name = "<init>" → InInit X := hI
  change J X D 3 0 0 _ _ _ 0 [_, _, _] []
  refine r_iconst hX dX3_totalVolume_0 (v := nI 0) (by decide) ?_
  refine r_istore_n hX dX3_totalVolume_1 (by decide) (ls' := [_, _, _]) rfl ?_
  refine r_iconst hX dX3_totalVolume_2 (v := nI 0) (by decide) ?_
  refine r_istore_n hX dX3_totalVolume_3 (by decide) (ls' := [_, _, _]) rfl ?_
  skip
  have loop : ∀ j, j ≤ kc S → J X D 3 0 0 G I L 4 [.ref a, .int (nI (sumN (kvol S) j)), .int (nI j)] [] := by
    refine upto (fun j hj ih => ?_)
    refine r_iload_n hX dX3_totalVolume_4 rfl ?_
    refine r_aload_n hX dX3_totalVolume_5 rfl ?_
    refine r_getI hX gf_X3_28 rfl dX3_totalVolume_6 (by assumption) (by assumption) ?_
    try simp (disch := first | assumption | omega) only [up2_same, up2_nea, up2_nej, nI_add, pk_mul, n_sub, Option.toList_some, Option.toList_none, List.cons_append, List.nil_append, hc]
    refine r_icmp_ge hX dX3_totalVolume_9 (tgt := 27) (by decide) (fun q9 => ?_) (fun q9 => ?_)
    · skip
      try simp (disch := omega) only [i32_lt, i32_le, ↓bz_eq0, i32_eq, nI_toInt, i32_0, i32_m1, Classical.not_not] at q9
      obtain rfl : j = kc S := by omega
      refine r_iload_n hX dX3_totalVolume_27 rfl ?_
      exact r_iretQ hX hT dX3_totalVolume_28 rfl ⟨rfl, rfl⟩
    · skip
      try simp (disch := omega) only [i32_lt, i32_le, ↓bz_eq0, i32_eq, nI_toInt, i32_0, i32_m1, Classical.not_not] at q9
      have z := (hv j (by omega)).2.1
      refine r_iload_n hX dX3_totalVolume_12 rfl ?_
      refine r_aload_n hX dX3_totalVolume_13 rfl ?_
      refine r_getR hX gf_X3_15 rfl dX3_totalVolume_14 (by assumption) (by assumption) (by assumption) ?_
      refine r_iload_n hX dX3_totalVolume_17 rfl ?_
      refine r_iald hX dX3_totalVolume_18 (by assumption) (by assumption) rfl (by omega) (by decide) ?_
      refine r_iadd hX dX3_totalVolume_19 ?_
      refine r_istore_n hX dX3_totalVolume_20 (by decide) (ls' := [_, _, _]) rfl ?_
      (first | refine r_iincN hX dX3_totalVolume_21 (by decide) rfl (ls' := [_, _, _]) rfl ?_ | refine r_iinc hX dX3_totalVolume_21 (by decide) rfl (ls' := [_, _, _]) rfl rfl ?_)
      refine r_goto hX dX3_totalVolume_24 (tgt := 4) (by decide) ?_
      try simp (disch := first | assumption | omega) only [up2_same, up2_nea, up2_nej, nI_add, pk_mul, n_sub, Option.toList_some, Option.toList_none, List.cons_append, List.nil_append, hc, z]
      exact ih (j + 1) (by omega) (by omega)
  exact loop 0 (Nat.zero_le _)
set_option maxRecDepth 100000 in
set_option maxHeartbeats 4000000 in
theorem c_KisAhead (hG : KG G a) (hS : KR I a S) {k o : Nat} (hk : k < kc S) (ho : o < kc S) : Con l D m_X3_isAhead 1 [.ref a, .int (nI k), .int (nI o)] 0 0 G I L (Pq G L fun v I' => v = some (.int (if aheadK S k o then nI 1 else nI 0)) ∧ I' = I) := by
  have hG0 := hG
  obtain ⟨⟨h0, s0⟩, ⟨h1, s1⟩, ⟨h2, s2⟩, ⟨h3, s3⟩, ⟨h4, s4⟩, ⟨h5, s5⟩, f0, f1, f2, f3, f4⟩ := hG
  have hS0 := hS
  obtain ⟨⟨w1, w2⟩, hc, hv⟩ := hS
  obtain ⟨v1, v2, v3, v4, v5⟩ := hv k hk
  obtain ⟨u1, u2, u3, u4, u5, u6⟩ := w2 k hk
  obtain ⟨x1, x2, x3, x4, x5⟩ := hv o ho
  obtain ⟨y1, y2, y3, y4, y5, y6⟩ := w2 o ho
  refine Con.of (by decide +kernel) (by simp [Value.category]) (by simp [m_X3_isAhead]) (Or.inl rfl) (fun X hX hT hI => ?_)
  have hX : OK X D cX3_isAhead "TeaHouse$Kettles" 3 := hX
  have hR := hT.room
  have hI : yX3_isAhead.name = "<init>" → InInit X := hI
  change J X D 3 0 0 _ _ _ 0 [_, _, _] []
  refine r_aload_n hX dX3_isAhead_0 rfl ?_
  refine r_getR hX gf_X3_18 rfl dX3_isAhead_1 (by assumption) (by assumption) (by assumption) ?_
  refine r_iload_n hX dX3_isAhead_4 rfl ?_
  refine r_iald hX dX3_isAhead_5 (by assumption) (by assumption) rfl (by omega) (by decide) ?_
  refine r_aload_n hX dX3_isAhead_6 rfl ?_
  refine r_getR hX gf_X3_18 rfl dX3_isAhead_7 (by assumption) (by assumption) (by assumption) ?_
  refine r_iload_n hX dX3_isAhead_10 rfl ?_
  refine r_iald hX dX3_isAhead_11 (by assumption) (by assumption) rfl (by omega) (by decide) ?_
  try simp (disch := first | assumption | omega) only [up2_same, up2_nea, up2_nej, nI_add, pk_mul, n_sub, Option.toList_some, Option.toList_none, List.cons_append, List.nil_append, v2, v3, x2, x3]
  refine r_icmp_eq hX dX3_isAhead_12 (tgt := 36) (by decide) (fun q12 => ?_) (fun q12 => ?_)
  · skip
    try simp (disch := omega) only [i32_lt, i32_le, ↓bz_eq0, i32_eq, nI_toInt, i32_0, i32_m1, Classical.not_not] at q12
    refine r_aload_n hX dX3_isAhead_36 rfl ?_
    refine r_getR hX gf_X3_15 rfl dX3_isAhead_37 (by assumption) (by assumption) (by assumption) ?_
    refine r_iload_n hX dX3_isAhead_40 rfl ?_
    refine r_iald hX dX3_isAhead_41 (by assumption) (by assumption) rfl (by omega) (by decide) ?_
    refine r_aload_n hX dX3_isAhead_42 rfl ?_
    refine r_getR hX gf_X3_15 rfl dX3_isAhead_43 (by assumption) (by assumption) (by assumption) ?_
    refine r_iload_n hX dX3_isAhead_46 rfl ?_
    refine r_iald hX dX3_isAhead_47 (by assumption) (by assumption) rfl (by omega) (by decide) ?_
    try simp (disch := first | assumption | omega) only [up2_same, up2_nea, up2_nej, nI_add, pk_mul, n_sub, Option.toList_some, Option.toList_none, List.cons_append, List.nil_append, v2, v3, x2, x3]
    refine r_icmp_eq hX dX3_isAhead_48 (tgt := 72) (by decide) (fun q48 => ?_) (fun q48 => ?_)
    · skip
      try simp (disch := omega) only [i32_lt, i32_le, ↓bz_eq0, i32_eq, nI_toInt, i32_0, i32_m1, Classical.not_not] at q48
      refine r_iload_n hX dX3_isAhead_72 rfl ?_
      refine r_iload_n hX dX3_isAhead_73 rfl ?_
      refine r_icmp_ge hX dX3_isAhead_74 (tgt := 81) (by decide) (fun q74 => ?_) (fun q74 => ?_)
      · skip
        try simp (disch := omega) only [i32_lt, i32_le, ↓bz_eq0, i32_eq, nI_toInt, i32_0, i32_m1, Classical.not_not] at q74
        refine r_iconst hX dX3_isAhead_81 (v := nI 0) (by decide) ?_
        exact r_iretQ hX hT dX3_isAhead_82 rfl ⟨by first | rw [if_pos (by unfold aheadK; omega)] | rw [if_neg (by unfold aheadK; omega)], rfl⟩
      · skip
        try simp (disch := omega) only [i32_lt, i32_le, ↓bz_eq0, i32_eq, nI_toInt, i32_0, i32_m1, Classical.not_not] at q74
        refine r_iconst hX dX3_isAhead_77 (v := nI 1) (by decide) ?_
        refine r_goto hX dX3_isAhead_78 (tgt := 82) (by decide) ?_
        exact r_iretQ hX hT dX3_isAhead_82 rfl ⟨by first | rw [if_pos (by unfold aheadK; omega)] | rw [if_neg (by unfold aheadK; omega)], rfl⟩
    · skip
      try simp (disch := omega) only [i32_lt, i32_le, ↓bz_eq0, i32_eq, nI_toInt, i32_0, i32_m1, Classical.not_not] at q48
      refine r_aload_n hX dX3_isAhead_51 rfl ?_
      refine r_getR hX gf_X3_15 rfl dX3_isAhead_52 (by assumption) (by assumption) (by assumption) ?_
      refine r_iload_n hX dX3_isAhead_55 rfl ?_
      refine r_iald hX dX3_isAhead_56 (by assumption) (by assumption) rfl (by omega) (by decide) ?_
      refine r_aload_n hX dX3_isAhead_57 rfl ?_
      refine r_getR hX gf_X3_15 rfl dX3_isAhead_58 (by assumption) (by assumption) (by assumption) ?_
      refine r_iload_n hX dX3_isAhead_61 rfl ?_
      refine r_iald hX dX3_isAhead_62 (by assumption) (by assumption) rfl (by omega) (by decide) ?_
      try simp (disch := first | assumption | omega) only [up2_same, up2_nea, up2_nej, nI_add, pk_mul, n_sub, Option.toList_some, Option.toList_none, List.cons_append, List.nil_append, v2, v3, x2, x3]
      refine r_icmp_le hX dX3_isAhead_63 (tgt := 70) (by decide) (fun q63 => ?_) (fun q63 => ?_)
      · skip
        try simp (disch := omega) only [i32_lt, i32_le, ↓bz_eq0, i32_eq, nI_toInt, i32_0, i32_m1, Classical.not_not] at q63
        refine r_iconst hX dX3_isAhead_70 (v := nI 0) (by decide) ?_
        exact r_iretQ hX hT dX3_isAhead_71 rfl ⟨by first | rw [if_pos (by unfold aheadK; omega)] | rw [if_neg (by unfold aheadK; omega)], rfl⟩
      · skip
        try simp (disch := omega) only [i32_lt, i32_le, ↓bz_eq0, i32_eq, nI_toInt, i32_0, i32_m1, Classical.not_not] at q63
        refine r_iconst hX dX3_isAhead_66 (v := nI 1) (by decide) ?_
        refine r_goto hX dX3_isAhead_67 (tgt := 71) (by decide) ?_
        exact r_iretQ hX hT dX3_isAhead_71 rfl ⟨by first | rw [if_pos (by unfold aheadK; omega)] | rw [if_neg (by unfold aheadK; omega)], rfl⟩
  · skip
    try simp (disch := omega) only [i32_lt, i32_le, ↓bz_eq0, i32_eq, nI_toInt, i32_0, i32_m1, Classical.not_not] at q12
    refine r_aload_n hX dX3_isAhead_15 rfl ?_
    refine r_getR hX gf_X3_18 rfl dX3_isAhead_16 (by assumption) (by assumption) (by assumption) ?_
    refine r_iload_n hX dX3_isAhead_19 rfl ?_
    refine r_iald hX dX3_isAhead_20 (by assumption) (by assumption) rfl (by omega) (by decide) ?_
    refine r_aload_n hX dX3_isAhead_21 rfl ?_
    refine r_getR hX gf_X3_18 rfl dX3_isAhead_22 (by assumption) (by assumption) (by assumption) ?_
    refine r_iload_n hX dX3_isAhead_25 rfl ?_
    refine r_iald hX dX3_isAhead_26 (by assumption) (by assumption) rfl (by omega) (by decide) ?_
    try simp (disch := first | assumption | omega) only [up2_same, up2_nea, up2_nej, nI_add, pk_mul, n_sub, Option.toList_some, Option.toList_none, List.cons_append, List.nil_append, v2, v3, x2, x3]
    refine r_icmp_le hX dX3_isAhead_27 (tgt := 34) (by decide) (fun q27 => ?_) (fun q27 => ?_)
    · skip
      try simp (disch := omega) only [i32_lt, i32_le, ↓bz_eq0, i32_eq, nI_toInt, i32_0, i32_m1, Classical.not_not] at q27
      refine r_iconst hX dX3_isAhead_34 (v := nI 0) (by decide) ?_
      exact r_iretQ hX hT dX3_isAhead_35 rfl ⟨by first | rw [if_pos (by unfold aheadK; omega)] | rw [if_neg (by unfold aheadK; omega)], rfl⟩
    · skip
      try simp (disch := omega) only [i32_lt, i32_le, ↓bz_eq0, i32_eq, nI_toInt, i32_0, i32_m1, Classical.not_not] at q27
      refine r_iconst hX dX3_isAhead_30 (v := nI 1) (by decide) ?_
      refine r_goto hX dX3_isAhead_31 (tgt := 35) (by decide) ?_
      exact r_iretQ hX hT dX3_isAhead_35 rfl ⟨by first | rw [if_pos (by unfold aheadK; omega)] | rw [if_neg (by unfold aheadK; omega)], rfl⟩
set_option maxRecDepth 100000 in
set_option maxHeartbeats 4000000 in
theorem c_KrankOf (hG : KG G a) (hS : KR I a S) {k : Nat} (hk : k < kc S) : Con l D m_X3_rankOf 2 [.ref a, .int (nI k)] 0 0 G I L (Pq G L fun v I' => v = some (.int (nI (rankK S k))) ∧ I' = I) := by
  have hG0 := hG
  obtain ⟨⟨h0, s0⟩, ⟨h1, s1⟩, ⟨h2, s2⟩, ⟨h3, s3⟩, ⟨h4, s4⟩, ⟨h5, s5⟩, f0, f1, f2, f3, f4⟩ := hG
  have hS0 := hS
  obtain ⟨⟨w1, w2⟩, hc, hv⟩ := hS
  refine Con.of (by decide +kernel) (by simp [Value.category]) (by simp [m_X3_rankOf]) (Or.inl rfl) (fun X hX hT hI => ?_)
  have hX : OK X D cX3_rankOf "TeaHouse$Kettles" 4 := hX
  have hR := hT.room
  have hI : yX3_rankOf.name = "<init>" → InInit X := hI
  change J X D 4 0 0 _ _ _ 0 [_, _, _, _] []
  refine r_iconst hX dX3_rankOf_0 (v := nI 0) (by decide) ?_
  refine r_istore_n hX dX3_rankOf_1 (by decide) (ls' := [_, _, _, _]) rfl ?_
  refine r_iconst hX dX3_rankOf_2 (v := nI 0) (by decide) ?_
  refine r_istore_n hX dX3_rankOf_3 (by decide) (ls' := [_, _, _, _]) rfl ?_
  skip
  have loop : ∀ j, j ≤ kc S → J X D 4 0 0 G I L 4 [.ref a, .int (nI k), .int (nI (cntN (fun o => aheadK S o k) j)), .int (nI j)] [] := by
    refine upto (fun j hj ih => ?_)
    refine r_iload_n hX dX3_rankOf_4 rfl ?_
    refine r_aload_n hX dX3_rankOf_5 rfl ?_
    refine r_getI hX gf_X3_28 rfl dX3_rankOf_6 (by assumption) (by assumption) ?_
    try simp (disch := first | assumption | omega) only [up2_same, up2_nea, up2_nej, nI_add, pk_mul, n_sub, Option.toList_some, Option.toList_none, List.cons_append, List.nil_append, hc]
    refine r_icmp_ge hX dX3_rankOf_9 (tgt := 30) (by decide) (fun q9 => ?_) (fun q9 => ?_)
    · skip
      try simp (disch := omega) only [i32_lt, i32_le, ↓bz_eq0, i32_eq, nI_toInt, i32_0, i32_m1, Classical.not_not] at q9
      obtain rfl : j = kc S := by omega
      refine r_iload_n hX dX3_rankOf_30 rfl ?_
      exact r_iretQ hX hT dX3_rankOf_31 rfl ⟨rfl, rfl⟩
    · skip
      try simp (disch := omega) only [i32_lt, i32_le, ↓bz_eq0, i32_eq, nI_toInt, i32_0, i32_m1, Classical.not_not] at q9
      have hj1 := ih (j + 1) (by omega) (by omega)
      simp only [cntN] at hj1
      refine r_aload_n hX dX3_rankOf_12 rfl ?_
      refine r_iload_n hX dX3_rankOf_13 rfl ?_
      refine r_iload_n hX dX3_rankOf_14 rfl ?_
      refine r_Vq hX hR (c_KisAhead (I := I) hG0 hS0 (k := j) (o := k) (by omega) hk) lk_X3_51 (rc_K (by assumption) (by assumption)) dX3_rankOf_15 rfl rfl (Nat.le_of_ble_eq_true rfl) (by decide) (by omega) (by omega) ?_
      rintro _ _ ⟨rfl, rfl⟩
      try simp (disch := first | assumption | omega) only [up2_same, up2_nea, up2_nej, nI_add, pk_mul, n_sub, Option.toList_some, Option.toList_none, List.cons_append, List.nil_append, hc]
      refine r_if_eq hX dX3_rankOf_18 (tgt := 24) (by decide) (fun q18 => ?_) (fun q18 => ?_)
      · skip
        try simp (disch := omega) only [i32_lt, i32_le, ↓bz_eq0, i32_eq, nI_toInt, i32_0, i32_m1, Classical.not_not] at q18
        (first | refine r_iincN hX dX3_rankOf_24 (by decide) rfl (ls' := [_, _, _, _]) rfl ?_ | refine r_iinc hX dX3_rankOf_24 (by decide) rfl (ls' := [_, _, _, _]) rfl rfl ?_)
        refine r_goto hX dX3_rankOf_27 (tgt := 4) (by decide) ?_
        try simp (disch := first | assumption | omega) only [up2_same, up2_nea, up2_nej, nI_add, pk_mul, n_sub, Option.toList_some, Option.toList_none, List.cons_append, List.nil_append, hc]
        first | (rw [if_pos (by assumption)] at hj1; exact hj1) | (rw [if_neg (by assumption)] at hj1; exact hj1)
      · skip
        try simp (disch := omega) only [i32_lt, i32_le, ↓bz_eq0, i32_eq, nI_toInt, i32_0, i32_m1, Classical.not_not] at q18
        (first | refine r_iincN hX dX3_rankOf_21 (by decide) rfl (ls' := [_, _, _, _]) rfl ?_ | refine r_iinc hX dX3_rankOf_21 (by decide) rfl (ls' := [_, _, _, _]) rfl rfl ?_)
        (first | refine r_iincN hX dX3_rankOf_24 (by decide) rfl (ls' := [_, _, _, _]) rfl ?_ | refine r_iinc hX dX3_rankOf_24 (by decide) rfl (ls' := [_, _, _, _]) rfl rfl ?_)
        refine r_goto hX dX3_rankOf_27 (tgt := 4) (by decide) ?_
        try simp (disch := first | assumption | omega) only [up2_same, up2_nea, up2_nej, nI_add, pk_mul, n_sub, Option.toList_some, Option.toList_none, List.cons_append, List.nil_append, hc]
        first | (rw [if_pos (by assumption)] at hj1; exact hj1) | (rw [if_neg (by assumption)] at hj1; exact hj1)
  exact loop 0 (Nat.zero_le _)
set_option maxRecDepth 100000 in
set_option maxHeartbeats 4000000 in
theorem c_Kranked (hG : KG G a) (hS : KR I a S) (x : Int32) : Con l D m_X3_ranked 3 [.ref a, .int x] 0 0 G I L (Pq G L fun v I' => v = some (.int (optI (rankedK S x.toInt))) ∧ I' = I) := by
  have hG0 := hG
  obtain ⟨⟨h0, s0⟩, ⟨h1, s1⟩, ⟨h2, s2⟩, ⟨h3, s3⟩, ⟨h4, s4⟩, ⟨h5, s5⟩, f0, f1, f2, f3, f4⟩ := hG
  have hS0 := hS
  obtain ⟨⟨w1, w2⟩, hc, hv⟩ := hS
  refine Con.of (by decide +kernel) (by simp [Value.category]) (by simp [m_X3_ranked]) (Or.inl rfl) (fun X hX hT hI => ?_)
  have hX : OK X D cX3_ranked "TeaHouse$Kettles" 3 := hX
  have hR := hT.room
  have hI : yX3_ranked.name = "<init>" → InInit X := hI
  change J X D 3 0 0 _ _ _ 0 [_, _, _] []
  refine r_iconst hX dX3_ranked_0 (v := nI 0) (by decide) ?_
  refine r_istore_n hX dX3_ranked_1 (by decide) (ls' := [_, _, _]) rfl ?_
  skip
  have loop : ∀ j, j ≤ kc S → (∀ i, i < j → ¬ (rankK S i : Int) = x.toInt) → J X D 3 0 0 G I L 2 [.ref a, .int x, .int (nI j)] [] := by
    refine upto (fun j hj ih => ?_)
    intro hn
    refine r_iload_n hX dX3_ranked_2 rfl ?_
    refine r_aload_n hX dX3_ranked_3 rfl ?_
    refine r_getI hX gf_X3_28 rfl dX3_ranked_4 (by assumption) (by assumption) ?_
    try simp (disch := first | assumption | omega) only [up2_same, up2_nea, up2_nej, nI_add, pk_mul, n_sub, Option.toList_some, Option.toList_none, List.cons_append, List.nil_append, hc]
    refine r_icmp_ge hX dX3_ranked_7 (tgt := 27) (by decide) (fun q7 => ?_) (fun q7 => ?_)
    · skip
      try simp (disch := omega) only [i32_lt, i32_le, ↓bz_eq0, i32_eq, nI_toInt, i32_0, i32_m1, Classical.not_not] at q7
      have e : rankedK S x.toInt = none := firstN_none (fun i hi => hn i (by omega))
      refine r_iconst hX dX3_ranked_27 (v := (-1)) (by decide) ?_
      exact r_iretQ hX hT dX3_ranked_28 rfl ⟨by rw [e]; rfl, rfl⟩
    · skip
      try simp (disch := omega) only [i32_lt, i32_le, ↓bz_eq0, i32_eq, nI_toInt, i32_0, i32_m1, Classical.not_not] at q7
      refine r_aload_n hX dX3_ranked_10 rfl ?_
      refine r_iload_n hX dX3_ranked_11 rfl ?_
      refine r_Vq hX hR (c_KrankOf (I := I) hG0 hS0 (k := j) (by omega)) lk_X3_48 (rc_K (by assumption) (by assumption)) dX3_ranked_12 rfl rfl (Nat.le_of_ble_eq_true rfl) (by decide) (by omega) (by omega) ?_
      rintro _ _ ⟨rfl, rfl⟩
      have hr : rankK S j ≤ kc S := cntN_le (fun o => aheadK S o j) (kc S)
      refine r_iload_n hX dX3_ranked_15 rfl ?_
      try simp (disch := first | assumption | omega) only [up2_same, up2_nea, up2_nej, nI_add, pk_mul, n_sub, Option.toList_some, Option.toList_none, List.cons_append, List.nil_append, hc]
      refine r_icmp_ne hX dX3_ranked_16 (tgt := 21) (by decide) (fun q16 => ?_) (fun q16 => ?_)
      · skip
        try simp (disch := omega) only [i32_lt, i32_le, ↓bz_eq0, i32_eq, nI_toInt, i32_0, i32_m1, Classical.not_not] at q16
        (first | refine r_iincN hX dX3_ranked_21 (by decide) rfl (ls' := [_, _, _]) rfl ?_ | refine r_iinc hX dX3_ranked_21 (by decide) rfl (ls' := [_, _, _]) rfl rfl ?_)
        refine r_goto hX dX3_ranked_24 (tgt := 2) (by decide) ?_
        try simp (disch := first | assumption | omega) only [up2_same, up2_nea, up2_nej, nI_add, pk_mul, n_sub, Option.toList_some, Option.toList_none, List.cons_append, List.nil_append, hc]
        refine ih (j + 1) (by omega) (by omega) (fun i hi => ?_)
        by_cases e : i = j
        · subst e; omega
        · exact hn i (by omega)
      · skip
        try simp (disch := omega) only [i32_lt, i32_le, ↓bz_eq0, i32_eq, nI_toInt, i32_0, i32_m1, Classical.not_not] at q16
        have e : rankedK S x.toInt = some j := firstN_hit (by omega) (by omega) hn
        refine r_iload_n hX dX3_ranked_19 rfl ?_
        exact r_iretQ hX hT dX3_ranked_20 rfl ⟨by rw [e]; rfl, rfl⟩
  exact loop 0 (Nat.zero_le _) (fun i hi => by omega)
set_option maxRecDepth 100000 in
set_option maxHeartbeats 4000000 in
theorem c_KturnBurner (hG : KG G a) (hS : KR I a S) {k lev : Nat} (hk : k < kc S) (hlev : lev ≤ 5) : Con l D m_X3_turnBurner 1 [.ref a, .int (nI k), .int (nI lev)] 0 0 G I L (Pq G L fun v I' => v = some (.int (nI (klev S k))) ∧ KR I' a (turnK S k lev) ∧ Same I I' a 6) := by
  have hG0 := hG
  obtain ⟨⟨h0, s0⟩, ⟨h1, s1⟩, ⟨h2, s2⟩, ⟨h3, s3⟩, ⟨h4, s4⟩, ⟨h5, s5⟩, f0, f1, f2, f3, f4⟩ := hG
  have hS0 := hS
  obtain ⟨⟨w1, w2⟩, hc, hv⟩ := hS
  have hk4 := (hv k hk).2.2.2.1
  refine Con.of (by decide +kernel) (by simp [Value.category]) (by simp [m_X3_turnBurner]) (Or.inl rfl) (fun X hX hT hI => ?_)
  have hX : OK X D cX3_turnBurner "TeaHouse$Kettles" 4 := hX
  have hR := hT.room
  have hI : yX3_turnBurner.name = "<init>" → InInit X := hI
  change J X D 4 0 0 _ _ _ 0 [_, _, _, _] []
  refine r_aload_n hX dX3_turnBurner_0 rfl ?_
  refine r_getR hX gf_X3_21 rfl dX3_turnBurner_1 (by assumption) (by assumption) (by assumption) ?_
  refine r_iload_n hX dX3_turnBurner_4 rfl ?_
  refine r_iald hX dX3_turnBurner_5 (by assumption) (by assumption) rfl (by omega) (by decide) ?_
  refine r_istore_n hX dX3_turnBurner_6 (by decide) (ls' := [_, _, _, _]) rfl ?_
  refine r_aload_n hX dX3_turnBurner_7 rfl ?_
  refine r_getR hX gf_X3_21 rfl dX3_turnBurner_8 (by assumption) (by assumption) (by assumption) ?_
  refine r_iload_n hX dX3_turnBurner_11 rfl ?_
  refine r_iload_n hX dX3_turnBurner_12 rfl ?_
  refine r_iast hX dX3_turnBurner_13 (by assumption) (by assumption) rfl (by omega) (by decide) rfl ?_
  refine r_iload_n hX dX3_turnBurner_14 rfl ?_
  try simp (disch := first | assumption | omega) only [up2_same, up2_nea, up2_nej, nI_add, pk_mul, n_sub, Option.toList_some, Option.toList_none, List.cons_append, List.nil_append, hk4]
  refine r_iretQ hX hT dX3_turnBurner_15 rfl ⟨rfl, ⟨⟨w1, fun j hj => ?_⟩, by simp (disch := omega) only [up2_nea]; exact hc, fun j hj => ?_⟩, by repeat (first | exact Same.rf | refine Same.up ?_ (by omega) (by omega))⟩
  · obtain ⟨z1, z2, z3, z4, z5, z6⟩ := w2 j hj
    by_cases e : j = k
    · subst e; simp only [turnK, kc_mk, kcap_mk, kvol_mk, ktmp_mk, klev_mk, kboi_mk, setN_at]; omega
    · simp only [turnK, kc_mk, kcap_mk, kvol_mk, ktmp_mk, klev_mk, kboi_mk, setN_ne e]; omega
  · obtain ⟨z1, z2, z3, z4, z5⟩ := hv j hj
    by_cases e : j = k
    · subst e; simp (disch := omega) only [turnK, kc_mk, kcap_mk, kvol_mk, ktmp_mk, klev_mk, kboi_mk, setN_at, up2_nea, up2_same]; exact ⟨z1, z2, z3, trivial, z5⟩
    · simp (disch := first | omega | assumption) only [turnK, kc_mk, kcap_mk, kvol_mk, ktmp_mk, klev_mk, kboi_mk, setN_ne e, up2_nea, up2_nej]; exact ⟨z1, z2, z3, z4, z5⟩
theorem pourT_le {t v m : Nat} (h1 : 40 ≤ t) (h2 : t ≤ 200) (hm : 0 < m) : 40 + (t - 40) * v / (v + m) ≤ 200 := by
  have h1 : (t - 40) * v ≤ 160 * (v + m) := Nat.mul_le_mul (by omega) (by omega)
  have h2 := Nat.div_le_of_le_mul (show (t - 40) * v ≤ (v + m) * 160 by rw [Nat.mul_comm (v + m)]; exact h1)
  omega
set_option maxRecDepth 100000 in
set_option maxHeartbeats 4000000 in
theorem c_KpourIn (hG : KG G a) (hS : KR I a S) {k more : Nat} (hk : k < kc S) (hm : 0 < more) (hfit : kvol S k + more ≤ kcap S k) : Con l D m_X3_pourIn 1 [.ref a, .int (nI k), .int (nI more)] 0 0 G I L (Pq G L fun v I' => v = some (.int (nI (ktmp (pourK S k more) k))) ∧ KR I' a (pourK S k more) ∧ Same I I' a 6) := by
  have hG0 := hG
  obtain ⟨⟨h0, s0⟩, ⟨h1, s1⟩, ⟨h2, s2⟩, ⟨h3, s3⟩, ⟨h4, s4⟩, ⟨h5, s5⟩, f0, f1, f2, f3, f4⟩ := hG
  have hS0 := hS
  obtain ⟨⟨w1, w2⟩, hc, hv⟩ := hS
  obtain ⟨v1, v2, v3, v4, v5⟩ := hv k hk
  obtain ⟨u1, u2, u3, u4, u5, u6⟩ := w2 k hk
  have htb := pourT_le (v := kvol S k) u3 u4 hm
  have hb : (ktmp S k - 40) * kvol S k ≤ 160 * 32 := Nat.mul_le_mul (by omega) (by omega)
  have hdiv : nI ((ktmp S k - 40) * kvol S k) / nI (kvol S k + more) = nI ((ktmp S k - 40) * kvol S k / (kvol S k + more)) := pk_div (by omega) (by omega) (by omega)
  have hsub : nI (ktmp S k) - nI 40 = nI (ktmp S k - 40) := n_sub u3
  refine Con.of (by decide +kernel) (by simp [Value.category]) (by simp [m_X3_pourIn]) (Or.inl rfl) (fun X hX hT hI => ?_)
  have hX : OK X D cX3_pourIn "TeaHouse$Kettles" 5 := hX
  have hR := hT.room
  have hI : yX3_pourIn.name = "<init>" → InInit X := hI
  change J X D 5 0 0 _ _ _ 0 [_, _, _, _, _] []
  refine r_aload_n hX dX3_pourIn_0 rfl ?_
  refine r_getR hX gf_X3_15 rfl dX3_pourIn_1 (by assumption) (by assumption) (by assumption) ?_
  refine r_iload_n hX dX3_pourIn_4 rfl ?_
  refine r_iald hX dX3_pourIn_5 (by assumption) (by assumption) rfl (by omega) (by decide) ?_
  refine r_istore_n hX dX3_pourIn_6 (by decide) (ls' := [_, _, _, _, _]) rfl ?_
  refine r_iload_n hX dX3_pourIn_7 rfl ?_
  refine r_iload_n hX dX3_pourIn_8 rfl ?_
  refine r_iadd hX dX3_pourIn_9 ?_
  refine r_istore hX dX3_pourIn_10 (by decide) (ls' := [_, _, _, _, _]) rfl ?_
  refine r_iload hX dX3_pourIn_12 rfl ?_
  try simp (disch := first | assumption | omega) only [up2_same, up2_nea, up2_nej, nI_add, pk_mul, n_sub, Option.toList_some, Option.toList_none, List.cons_append, List.nil_append, v2, v3, hdiv, hsub]
  refine r_if_le hX dX3_pourIn_14 (tgt := 40) (by decide) (fun q14 => ?_) (fun q14 => ?_)
  · exfalso; (try simp (disch := omega) only [i32_lt, i32_le, ↓bz_eq0, i32_eq, nI_toInt, i32_0, i32_m1, Classical.not_not] at q14) <;> omega
  · skip
    try simp (disch := omega) only [i32_lt, i32_le, ↓bz_eq0, i32_eq, nI_toInt, i32_0, i32_m1, Classical.not_not] at q14
    refine r_aload_n hX dX3_pourIn_17 rfl ?_
    refine r_getR hX gf_X3_18 rfl dX3_pourIn_18 (by assumption) (by assumption) (by assumption) ?_
    refine r_iload_n hX dX3_pourIn_21 rfl ?_
    refine r_bipush hX dX3_pourIn_22 (v := nI 40) (by decide) ?_
    refine r_aload_n hX dX3_pourIn_24 rfl ?_
    refine r_getR hX gf_X3_18 rfl dX3_pourIn_25 (by assumption) (by assumption) (by assumption) ?_
    refine r_iload_n hX dX3_pourIn_28 rfl ?_
    refine r_iald hX dX3_pourIn_29 (by assumption) (by assumption) rfl (by omega) (by decide) ?_
    refine r_bipush hX dX3_pourIn_30 (v := nI 40) (by decide) ?_
    refine r_isub hX dX3_pourIn_32 ?_
    refine r_iload_n hX dX3_pourIn_33 rfl ?_
    refine r_imul hX dX3_pourIn_34 ?_
    refine r_iload hX dX3_pourIn_35 rfl ?_
    try simp (disch := first | assumption | omega) only [up2_same, up2_nea, up2_nej, nI_add, pk_mul, n_sub, Option.toList_some, Option.toList_none, List.cons_append, List.nil_append, v2, v3, hdiv, hsub]
    refine r_idiv hX dX3_pourIn_37 (by assumption) ?_
    refine r_iadd hX dX3_pourIn_38 ?_
    try simp (disch := first | assumption | omega) only [up2_same, up2_nea, up2_nej, nI_add, pk_mul, n_sub, Option.toList_some, Option.toList_none, List.cons_append, List.nil_append, v2, v3, hdiv, hsub]
    refine r_iast hX dX3_pourIn_39 (by assumption) (by assumption) rfl (by omega) (by decide) rfl ?_
    refine r_aload_n hX dX3_pourIn_40 rfl ?_
    refine r_getR hX gf_X3_15 rfl dX3_pourIn_41 (by assumption) (by assumption) (by assumption) ?_
    refine r_iload_n hX dX3_pourIn_44 rfl ?_
    refine r_iload hX dX3_pourIn_45 rfl ?_
    refine r_iast hX dX3_pourIn_47 (by assumption) (by assumption) rfl (by omega) (by decide) rfl ?_
    refine r_aload_n hX dX3_pourIn_48 rfl ?_
    refine r_getR hX gf_X3_18 rfl dX3_pourIn_49 (by assumption) (by assumption) (by assumption) ?_
    refine r_iload_n hX dX3_pourIn_52 rfl ?_
    refine r_iald hX dX3_pourIn_53 (by assumption) (by assumption) rfl (by omega) (by decide) ?_
    try simp (disch := first | assumption | omega) only [up2_same, up2_nea, up2_nej, nI_add, pk_mul, n_sub, Option.toList_some, Option.toList_none, List.cons_append, List.nil_append, v2, v3, hdiv, hsub]
    refine r_iretQ hX hT dX3_pourIn_54 rfl ⟨by simp only [pourK, ktmp_mk, setN_at], ⟨⟨w1, fun j hj => ?_⟩, by simp (disch := omega) only [up2_nea]; exact hc, fun j hj => ?_⟩, by repeat (first | exact Same.rf | refine Same.up ?_ (by omega) (by omega))⟩
  · obtain ⟨z1, z2, z3, z4, z5, z6⟩ := w2 j hj
    by_cases e : j = k
    · subst e; simp only [pourK, kc_mk, kcap_mk, kvol_mk, ktmp_mk, klev_mk, kboi_mk, setN_at]; omega
    · simp only [pourK, kc_mk, kcap_mk, kvol_mk, ktmp_mk, klev_mk, kboi_mk, setN_ne e]; omega
  · obtain ⟨z1, z2, z3, z4, z5⟩ := hv j hj
    by_cases e : j = k
    · subst e; simp (disch := omega) only [pourK, kc_mk, kcap_mk, kvol_mk, ktmp_mk, klev_mk, kboi_mk, setN_at, up2_nea, up2_same]; exact ⟨z1, trivial, trivial, z4, z5⟩
    · simp (disch := first | omega | assumption) only [pourK, kc_mk, kcap_mk, kvol_mk, ktmp_mk, klev_mk, kboi_mk, setN_ne e, up2_nea, up2_nej]; exact ⟨z1, z2, z3, z4, z5⟩
set_option maxRecDepth 100000 in
set_option maxHeartbeats 4000000 in
theorem c_KheatingTime (hG : KG G a) (hS : KR I a S) {k : Nat} (hk : k < kc S) : Con l D m_X3_heatingTime 2 [.ref a, .int (nI k)] 0 0 G I L (Pq G L fun v I' => v = some (.int (optI (htK S k))) ∧ I' = I) := by
  have hG0 := hG
  obtain ⟨⟨h0, s0⟩, ⟨h1, s1⟩, ⟨h2, s2⟩, ⟨h3, s3⟩, ⟨h4, s4⟩, ⟨h5, s5⟩, f0, f1, f2, f3, f4⟩ := hG
  have hS0 := hS
  obtain ⟨⟨w1, w2⟩, hc, hv⟩ := hS
  obtain ⟨v1, v2, v3, v4, v5⟩ := hv k hk
  obtain ⟨u1, u2, u3, u4, u5, u6⟩ := w2 k hk
  have hsub : nI 200 - nI (ktmp S k) = nI (200 - ktmp S k) := n_sub u4
  refine Con.of (by decide +kernel) (by simp [Value.category]) (by simp [m_X3_heatingTime]) (Or.inl rfl) (fun X hX hT hI => ?_)
  have hX : OK X D cX3_heatingTime "TeaHouse$Kettles" 4 := hX
  have hR := hT.room
  have hI : yX3_heatingTime.name = "<init>" → InInit X := hI
  change J X D 4 0 0 _ _ _ 0 [_, _, _, _] []
  by_cases hl0 : klev S k = 0
  · have e : htK S k = none := by unfold htK; rw [if_pos (by omega)]
    have v4' : I (a + 4) k = nI 0 := by rw [v4, hl0]
    refine r_aload_n hX dX3_heatingTime_0 rfl ?_
    refine r_iload_n hX dX3_heatingTime_1 rfl ?_
    refine r_Vq hX hR (c_Krise (I := I) hG0 (k := k) (by omega)) lk_X3_42 (rc_K (by assumption) (by assumption)) dX3_heatingTime_2 rfl rfl (Nat.le_of_ble_eq_true rfl) (by decide) (by omega) (by omega) ?_
    rintro _ _ ⟨rfl, rfl⟩
    refine r_istore_n hX dX3_heatingTime_5 (by decide) (ls' := [_, _, _, _]) rfl ?_
    refine r_aload_n hX dX3_heatingTime_6 rfl ?_
    refine r_getR hX gf_X3_15 rfl dX3_heatingTime_7 (by assumption) (by assumption) (by assumption) ?_
    refine r_iload_n hX dX3_heatingTime_10 rfl ?_
    refine r_iald hX dX3_heatingTime_11 (by assumption) (by assumption) rfl (by omega) (by decide) ?_
    try simp (disch := first | assumption | omega) only [up2_same, up2_nea, up2_nej, nI_add, pk_mul, n_sub, Option.toList_some, Option.toList_none, List.cons_append, List.nil_append, v2, v3, v4']
    refine r_if_eq hX dX3_heatingTime_12 (tgt := 19) (by decide) (fun q12 => ?_) (fun q12 => ?_)
    · skip
      try simp (disch := omega) only [i32_lt, i32_le, ↓bz_eq0, i32_eq, nI_toInt, i32_0, i32_m1, Classical.not_not] at q12
      refine r_iconst hX dX3_heatingTime_19 (v := (-1)) (by decide) ?_
      exact r_iretQ hX hT dX3_heatingTime_20 rfl ⟨by rw [e]; rfl, rfl⟩
    · skip
      try simp (disch := omega) only [i32_lt, i32_le, ↓bz_eq0, i32_eq, nI_toInt, i32_0, i32_m1, Classical.not_not] at q12
      refine r_iload_n hX dX3_heatingTime_15 rfl ?_
      refine r_if_gt hX dX3_heatingTime_16 (tgt := 21) (by decide) (fun q16 => ?_) (fun q16 => ?_)
      · skip
        refine r_sipush hX dX3_heatingTime_21 (v := nI 200) (by decide) ?_
        refine r_aload_n hX dX3_heatingTime_24 rfl ?_
        refine r_getR hX gf_X3_18 rfl dX3_heatingTime_25 (by assumption) (by assumption) (by assumption) ?_
        refine r_iload_n hX dX3_heatingTime_28 rfl ?_
        refine r_iald hX dX3_heatingTime_29 (by assumption) (by assumption) rfl (by omega) (by decide) ?_
        refine r_isub hX dX3_heatingTime_30 ?_
        refine r_istore_n hX dX3_heatingTime_31 (by decide) (ls' := [_, _, _, _]) rfl ?_
        refine r_iconst hX dX3_heatingTime_32 (v := nI 1) (by decide) ?_
        refine r_iload_n hX dX3_heatingTime_33 rfl ?_
        refine r_iload_n hX dX3_heatingTime_34 rfl ?_
        refine r_iadd hX dX3_heatingTime_35 ?_
        refine r_iconst hX dX3_heatingTime_36 (v := nI 1) (by decide) ?_
        refine r_isub hX dX3_heatingTime_37 ?_
        refine r_iload_n hX dX3_heatingTime_38 rfl ?_
        try simp (disch := first | assumption | omega) only [up2_same, up2_nea, up2_nej, nI_add, pk_mul, n_sub, Option.toList_some, Option.toList_none, List.cons_append, List.nil_append, v2, v3, v4']
        refine r_idiv hX dX3_heatingTime_39 (by assumption) ?_
        refine r_max hX hR mm_X3_45 w_max1 w_math w_max2 dX3_heatingTime_40 (Nat.le_of_ble_eq_true rfl) (by omega) (by omega) (by omega) ?_
        try simp (disch := first | assumption | omega) only [up2_same, up2_nea, up2_nej, nI_add, pk_mul, n_sub, Option.toList_some, Option.toList_none, List.cons_append, List.nil_append, v2, v3, v4']
        exact r_iretQ hX hT dX3_heatingTime_43 rfl ⟨by rw [e]; rfl, rfl⟩
      · exact absurd q16 (by decide)
  · have hrs : nI (3 * klev S k) - nI 1 = nI (3 * klev S k - 1) := n_sub (by omega)
    have hs2 : nI (200 - ktmp S k + (3 * klev S k - 1)) - nI 1 = nI (200 - ktmp S k + (3 * klev S k - 1) - 1) := n_sub (by omega)
    have hdiv : nI (200 - ktmp S k + (3 * klev S k - 1) - 1) / nI (3 * klev S k - 1) = nI ((200 - ktmp S k + (3 * klev S k - 1) - 1) / (3 * klev S k - 1)) := pk_div (by omega) (by omega) (by omega)
    have hdb : (200 - ktmp S k + (3 * klev S k - 1) - 1) / (3 * klev S k - 1) ≤ 200 - ktmp S k + (3 * klev S k - 1) - 1 := Nat.div_le_self _ _
    refine r_aload_n hX dX3_heatingTime_0 rfl ?_
    refine r_iload_n hX dX3_heatingTime_1 rfl ?_
    refine r_Vq hX hR (c_Krise (I := I) hG0 (k := k) (by omega)) lk_X3_42 (rc_K (by assumption) (by assumption)) dX3_heatingTime_2 rfl rfl (Nat.le_of_ble_eq_true rfl) (by decide) (by omega) (by omega) ?_
    rintro _ _ ⟨rfl, rfl⟩
    refine r_istore_n hX dX3_heatingTime_5 (by decide) (ls' := [_, _, _, _]) rfl ?_
    refine r_aload_n hX dX3_heatingTime_6 rfl ?_
    refine r_getR hX gf_X3_15 rfl dX3_heatingTime_7 (by assumption) (by assumption) (by assumption) ?_
    refine r_iload_n hX dX3_heatingTime_10 rfl ?_
    refine r_iald hX dX3_heatingTime_11 (by assumption) (by assumption) rfl (by omega) (by decide) ?_
    try simp (disch := first | assumption | omega) only [up2_same, up2_nea, up2_nej, nI_add, pk_mul, n_sub, Option.toList_some, Option.toList_none, List.cons_append, List.nil_append, v2, v3, v4, hsub, hrs, hs2, hdiv]
    refine r_if_eq hX dX3_heatingTime_12 (tgt := 19) (by decide) (fun q12 => ?_) (fun q12 => ?_)
    · skip
      try simp (disch := omega) only [i32_lt, i32_le, ↓bz_eq0, i32_eq, nI_toInt, i32_0, i32_m1, Classical.not_not] at q12
      have e : htK S k = none := by unfold htK; rw [if_pos (by omega)]
      refine r_iconst hX dX3_heatingTime_19 (v := (-1)) (by decide) ?_
      exact r_iretQ hX hT dX3_heatingTime_20 rfl ⟨by rw [e]; rfl, rfl⟩
    · skip
      try simp (disch := omega) only [i32_lt, i32_le, ↓bz_eq0, i32_eq, nI_toInt, i32_0, i32_m1, Classical.not_not] at q12
      refine r_iload_n hX dX3_heatingTime_15 rfl ?_
      refine r_if_gt hX dX3_heatingTime_16 (tgt := 21) (by decide) (fun q16 => ?_) (fun q16 => ?_)
      · skip
        try simp (disch := omega) only [i32_lt, i32_le, ↓bz_eq0, i32_eq, nI_toInt, i32_0, i32_m1, Classical.not_not] at q16
        have e : htK S k = some (max 1 ((200 - ktmp S k + (3 * klev S k - 1) - 1) / (3 * klev S k - 1))) := by unfold htK; rw [if_neg (by omega)]
        refine r_sipush hX dX3_heatingTime_21 (v := nI 200) (by decide) ?_
        refine r_aload_n hX dX3_heatingTime_24 rfl ?_
        refine r_getR hX gf_X3_18 rfl dX3_heatingTime_25 (by assumption) (by assumption) (by assumption) ?_
        refine r_iload_n hX dX3_heatingTime_28 rfl ?_
        refine r_iald hX dX3_heatingTime_29 (by assumption) (by assumption) rfl (by omega) (by decide) ?_
        refine r_isub hX dX3_heatingTime_30 ?_
        refine r_istore_n hX dX3_heatingTime_31 (by decide) (ls' := [_, _, _, _]) rfl ?_
        refine r_iconst hX dX3_heatingTime_32 (v := nI 1) (by decide) ?_
        refine r_iload_n hX dX3_heatingTime_33 rfl ?_
        refine r_iload_n hX dX3_heatingTime_34 rfl ?_
        refine r_iadd hX dX3_heatingTime_35 ?_
        refine r_iconst hX dX3_heatingTime_36 (v := nI 1) (by decide) ?_
        refine r_isub hX dX3_heatingTime_37 ?_
        refine r_iload_n hX dX3_heatingTime_38 rfl ?_
        try simp (disch := first | assumption | omega) only [up2_same, up2_nea, up2_nej, nI_add, pk_mul, n_sub, Option.toList_some, Option.toList_none, List.cons_append, List.nil_append, v2, v3, v4, hsub, hrs, hs2, hdiv]
        refine r_idiv hX dX3_heatingTime_39 (by rw [nz_eq (by omega)]; omega) ?_
        refine r_max hX hR mm_X3_45 w_max1 w_math w_max2 dX3_heatingTime_40 (Nat.le_of_ble_eq_true rfl) (by omega) (by omega) (by omega) ?_
        rw [max_nI (by omega) (by omega)]
        try simp (disch := first | assumption | omega) only [up2_same, up2_nea, up2_nej, nI_add, pk_mul, n_sub, Option.toList_some, Option.toList_none, List.cons_append, List.nil_append, v2, v3, v4, hsub, hrs, hs2, hdiv]
        exact r_iretQ hX hT dX3_heatingTime_43 rfl ⟨by rw [e]; rfl, rfl⟩
      · exfalso; (try simp (disch := omega) only [i32_lt, i32_le, ↓bz_eq0, i32_eq, nI_toInt, i32_0, i32_m1, Classical.not_not] at q16) <;> omega
end K2

