/-! ===== numbers put at the line's end ===== -/
theorem ng_i {a : Nat} (h : a < 2 ^ 31) : (-(nI a)).toInt = -(a : Int) := by
  rw [Int32.toInt_neg, nI_toInt h]
  exact Int.bmod_eq_of_le (by omega) (by omega)
theorem ng_lt {a b : Nat} (ha : a < 2 ^ 31) (hb : b < 2 ^ 31) : -(nI b) < -(nI a) ↔ a < b := by
  rw [Int32.lt_iff_toInt_lt, ng_i ha, ng_i hb]; omega
theorem ng_le {a b : Nat} (ha : a < 2 ^ 31) (hb : b < 2 ^ 31) : -(nI b) ≤ -(nI a) ↔ a ≤ b := by
  rw [Int32.le_iff_toInt_le, ng_i ha, ng_i hb]; omega
theorem ng_div {m : Nat} (h : m < 2 ^ 31) : -(nI m) / nI 100 = -(nI (m / 100)) := by
  apply Int32.toInt_inj.mp
  rw [Int32.toInt_div_of_ne_right _ _ (by decide), ng_i h, ng_i (by omega), nI_toInt (by decide), Int.neg_tdiv, ← Int.ofNat_tdiv]
theorem ng_rem {q m : Nat} (h : q * 100 ≤ m) : -(nI q) * nI 100 - -(nI m) = nI (m - q * 100) := by
  rw [Int32.neg_mul, Int32.sub_neg, pk_mul, Int32.add_comm, ← Int32.sub_eq_add_neg, n_sub h]
theorem dec1 {n : Nat} (h : 1 ≤ n) : nI n + Int32.ofInt (-1) = nI (n - 1) := by
  rw [show Int32.ofInt (-1) = -(nI 1) by decide, ← Int32.sub_eq_add_neg, n_sub h]
theorem ten_m (x : Nat) : nI 10 * -(nI x) = -(nI (10 * x)) := by rw [Int32.mul_neg, pk_mul]
theorem dg_u (f n : Nat) : digs (f + 1) n = if n < 10 then [48 + n] else digs f (n / 10) ++ [48 + n % 10] := rfl
theorem dg_len : ∀ (i f m : Nat), i < f → m < 10 ^ (i + 1) → (i = 0 ∨ 10 ^ i ≤ m) → (digs f m).length = i + 1 := by
  intro i
  induction i with
  | zero =>
    intro f m h1 h2 _
    obtain ⟨g, rfl⟩ : ∃ g, f = g + 1 := ⟨f - 1, by omega⟩
    rw [dg_u, if_pos (by omega)]
    rfl
  | succ i ih =>
    intro f m h1 h2 h3
    obtain ⟨g, rfl⟩ : ∃ g, f = g + 1 := ⟨f - 1, by omega⟩
    have h3 : 10 ^ (i + 1) ≤ m := by rcases h3 with h3 | h3; (exact absurd h3 (by omega)); exact h3
    have p1 : 10 ^ (i + 1) = 10 ^ i * 10 := Nat.pow_succ ..
    have p2 : 10 ^ (i + 1 + 1) = 10 ^ (i + 1) * 10 := Nat.pow_succ ..
    have p0 : 0 < 10 ^ i := Nat.pow_pos (by decide)
    rw [dg_u, if_neg (by omega), List.length_append, ih g (m / 10) (by omega) (by omega) (Or.inr (by omega))]
    rfl
theorem dg_ch : ∀ (f m : Nat) (c : Nat), c ∈ digs f m → c < 58 := by
  intro f
  induction f with
  | zero => intro m c h; simp [digs] at h
  | succ f ih =>
    intro m c h
    rw [dg_u] at h
    split at h
    · simp at h; omega
    · rcases List.mem_append.mp h with h | h
      · exact ih _ _ h
      · simp at h; omega
theorem dg_128 (f m : Nat) : ∀ j, j < (digs f m).length → (digs f m).getD j 0 < 128 := by
  intro j hj
  have h : (digs f m).getD j 0 ∈ digs f m := by
    rw [List.getD_eq_getElem?_getD, List.getElem?_eq_getElem hj]
    exact List.getElem_mem hj
  have := dg_ch f m _ h
  omega
theorem dg_le10 {m : Nat} (hm : m < 2 ^ 31) : 1 ≤ (digs 10 m).length ∧ (digs 10 m).length ≤ 10 := by
  have key : ∀ f m, 1 ≤ f → 1 ≤ (digs f m).length ∧ (digs f m).length ≤ f := by
    intro f
    induction f with
    | zero => intro m h; omega
    | succ f ih =>
      intro m _
      rw [dg_u]
      split
      · simp
      · rcases Nat.eq_zero_or_pos f with rfl | hf
        · simp [digs]
        · have := ih (m / 10) hf
          rw [List.length_append]
          simp only [List.length_cons, List.length_nil]
          omega
  exact key 10 m (by decide)
/-- letters written from a place on -/
def wrp (M : IT) (v p : Nat) (l : List Nat) : IT := fun k j => if k = v ∧ p ≤ j ∧ j < p + l.length then nI (l.getD (j - p) 0) else M k j
theorem wrp_nil {M : IT} {v p : Nat} : wrp M v p [] = M := by
  funext k j
  exact if_neg (fun q => by have h1 := q.2.1; have h2 := q.2.2; simp only [List.length_nil] at h2; omega)
theorem wrp_snoc {M : IT} {v p p1 a : Nat} {l : List Nat} (h : p + l.length = p1) : wrp (up2 M v p1 (nI a)) v p l = wrp M v p (l ++ [a]) := by
  subst h
  have hlen : (l ++ [a]).length = l.length + 1 := by simp
  funext k j
  unfold wrp
  by_cases hk : k = v
  · subst hk
    by_cases h1 : p ≤ j ∧ j < p + l.length
    · rw [if_pos ⟨rfl, h1⟩, if_pos ⟨rfl, h1.1, by omega⟩]
      congr 1
      rw [List.getD_eq_getElem?_getD, List.getD_eq_getElem?_getD, List.getElem?_append_left (by omega)]
    · rw [if_neg (fun q => h1 q.2)]
      by_cases h2 : j = p + l.length
      · subst h2
        rw [up2_same, if_pos ⟨rfl, by omega, by omega⟩]
        congr 1
        rw [show p + l.length - p = l.length by omega, List.getD_eq_getElem?_getD, List.getElem?_append_right (Nat.le_refl _), Nat.sub_self]
        rfl
      · rw [up2_nej h2, if_neg (fun q => by have := q.2; omega)]
  · rw [if_neg (fun q => hk q.1), if_neg (fun q => hk q.1), up2_nea hk]
def onesL : List Value := (List.range 100).map (fun j => Value.int (nI (48 + j % 10)))
def tensL : List Value := (List.range 100).map (fun j => Value.int (nI (48 + j / 10)))
theorem ones_T : (FieldType.byte, 32, 100, onesL) ∈ cT := by decide +kernel
theorem tens_T : (FieldType.byte, 33, 100, tensL) ∈ cT := by decide +kernel
theorem ones_v : ∀ j, j < 100 → vp_V onesL j = .int (nI (48 + j % 10)) := by decide +kernel
theorem tens_v : ∀ j, j < 100 → vp_V tensL j = .int (nI (48 + j / 10)) := by decide +kernel
theorem hq_d1 : ("java/lang/Integer", "DigitOnes", "[B", Value.ref (1000000 + 32)) ∈ cZ := by decide +kernel
theorem hq_d10 : ("java/lang/Integer", "DigitTens", "[B", Value.ref (1000000 + 33)) ∈ cZ := by decide +kernel
theorem r_drop {X : XT} {D : DT} {nL c w : Nat} {G : GT} {I : IT} {L : LT} {pc : Nat} {ls ls' st : List Value} (hs : subL ls' ls) (k : J X D nL c w G I L pc ls' st) : J X D nL c w G I L pc ls st := by
  obtain ⟨p, l, e, R, s, m, args, below, meth, c0, Q⟩ := X
  intro H locs lsA hR hz hlo hL
  refine k H locs lsA hR hz hlo ⟨by rw [hs.len]; exact hL.1, lv_mono hL.2 fun q hq => ?_⟩
  obtain ⟨i, v, h1, h2, rfl⟩ := lprs_of _ _ _ hq
  exact lprs_mem ls 0 i v (hs.get h1 h2) h2
section JdkC
variable {l : Launch} {D : DT} {G : GT} {I0 : ZT} {I : IT} {b : Nat} {L : LT} {v cap n : Nat}
set_option maxRecDepth 100000 in
set_option maxHeartbeats 4000000 in
theorem c_J6_size {m : Nat} (hm : m < 2 ^ 31) : Con l D m_J6_stringSize_0f7a4 1 [.int (nI m)] 0 0 G I L (PqI G I L (nI (digs 10 m).length)) := by
  refine Con.of (by decide +kernel) (by simp [Value.category]) (Nat.le_of_ble_eq_true rfl) (Or.inl rfl) (fun X hX hT _ => ?_)
  have hX : OK X D cJ6_stringSize_0f7a4 "java/lang/Integer" 4 := hX
  have hR := RT.room hT
  change J X D 4 0 0 _ _ _ 0 [.int (nI m), .retAddr 0, .retAddr 0, .retAddr 0] []
  have loop : ∀ f i, i + f = 10 → 1 ≤ i → (i = 1 ∨ 10 ^ (i - 1) ≤ m) → J X D 4 0 0 G I L 16 [.int (-(nI m)), .int (nI 0), .int (-(nI (10 ^ i))), .int (nI i)] [] := by
    intro f
    induction f with
    | zero =>
      intro i hi h1 h2
      have hi : i = 10 := by omega
      subst hi
      have h2 : 10 ^ 9 ≤ m := by rcases h2 with h2 | h2; (exact absurd h2 (by decide)); exact h2
      have hlen : (digs 10 m).length = 9 + 1 := dg_len 9 10 m (by decide) (by omega) (Or.inr h2)
      rw [hlen] at hT
      refine r_iload_n hX dJ6_stringSize_0f7a4_16 rfl ?_
      refine r_bipush hX dJ6_stringSize_0f7a4_17 (v := nI 10) (by decide) ?_
      refine r_icmp_ge hX dJ6_stringSize_0f7a4_19 (tgt := 42) (by decide) (fun _ => ?_) (fun h => absurd (nI_le (Nat.le_refl 10) (by decide)) h)
      refine r_bipush hX dJ6_stringSize_0f7a4_42 (v := nI 10) (by decide) ?_
      refine r_iload_n hX dJ6_stringSize_0f7a4_44 rfl ?_
      refine r_iadd hX dJ6_stringSize_0f7a4_45 ?_
      rw [nI_add]
      exact r_iretI hX hT dJ6_stringSize_0f7a4_46 (by first | rfl | decide) (by decide) (by decide)
    | succ f ih =>
      intro i hi h1 h2
      have hp : 10 ^ i ≤ 10 ^ 9 := Nat.pow_le_pow_right (by decide) (by omega)
      have hp2 : 10 ^ i < 2 ^ 31 := by omega
      refine r_iload_n hX dJ6_stringSize_0f7a4_16 rfl ?_
      refine r_bipush hX dJ6_stringSize_0f7a4_17 (v := nI 10) (by decide) ?_
      refine r_icmp_ge hX dJ6_stringSize_0f7a4_19 (tgt := 42) (by decide) (fun h => absurd h (nI_ge (by omega) (by decide))) (fun _ => ?_)
      refine r_iload_n hX dJ6_stringSize_0f7a4_22 rfl ?_
      refine r_iload_n hX dJ6_stringSize_0f7a4_23 rfl ?_
      refine r_icmp_le hX dJ6_stringSize_0f7a4_24 (tgt := 31) (by decide) (fun h => ?_) (fun h => ?_)
      · have h := (ng_le hp2 hm).mp h
        refine r_bipush hX dJ6_stringSize_0f7a4_31 (v := nI 10) (by decide) ?_
        refine r_iload_n hX dJ6_stringSize_0f7a4_33 rfl ?_
        refine r_imul hX dJ6_stringSize_0f7a4_34 ?_
        rw [ten_m]
        refine r_istore_n hX dJ6_stringSize_0f7a4_35 (by decide) rfl ?_
        refine r_iinc hX dJ6_stringSize_0f7a4_36 (v := nI (i + 1)) (by decide) rfl (by rw [show Int32.ofInt 1 = nI 1 by decide, nI_add]) rfl ?_
        refine r_goto hX dJ6_stringSize_0f7a4_39 (tgt := 16) (by decide) ?_
        have := ih (i + 1) (by omega) (by omega) (Or.inr h)
        rw [Nat.pow_succ, Nat.mul_comm] at this
        exact this
      · have h : m < 10 ^ i := Nat.not_le.mp (fun q => h ((ng_le hp2 hm).mpr q))
        have hlen : (digs 10 m).length = (i - 1) + 1 := dg_len (i - 1) 10 m (by omega) (by rw [Nat.sub_add_cancel h1]; exact h) (by rcases h2 with rfl | h2; (exact Or.inl rfl); exact Or.inr h2)
        rw [hlen, Nat.sub_add_cancel h1] at hT
        refine r_iload_n hX dJ6_stringSize_0f7a4_27 rfl ?_
        refine r_iload_n hX dJ6_stringSize_0f7a4_28 rfl ?_
        refine r_iadd hX dJ6_stringSize_0f7a4_29 ?_
        rw [nI_add]
        exact r_iretI hX hT dJ6_stringSize_0f7a4_30 (by first | rfl | decide) (by decide) (by decide)
  refine r_iconst hX dJ6_stringSize_0f7a4_0 (v := nI 1) (by decide) ?_
  refine r_istore_n hX dJ6_stringSize_0f7a4_1 (by decide) rfl ?_
  refine r_iload_n hX dJ6_stringSize_0f7a4_2 rfl ?_
  refine r_if_lt hX dJ6_stringSize_0f7a4_3 (tgt := 11) (by decide) (fun h => absurd h (nI_pos hm)) (fun _ => ?_)
  refine r_iconst hX dJ6_stringSize_0f7a4_6 (v := nI 0) (by decide) ?_
  refine r_istore_n hX dJ6_stringSize_0f7a4_7 (by decide) rfl ?_
  refine r_iload_n hX dJ6_stringSize_0f7a4_8 rfl ?_
  refine r_ineg hX dJ6_stringSize_0f7a4_9 ?_
  refine r_istore_n hX dJ6_stringSize_0f7a4_10 (by decide) rfl ?_
  refine r_bipush hX dJ6_stringSize_0f7a4_11 (v := -(nI 10)) (by decide) ?_
  refine r_istore_n hX dJ6_stringSize_0f7a4_13 (by decide) rfl ?_
  refine r_iconst hX dJ6_stringSize_0f7a4_14 (v := nI 1) (by decide) ?_
  refine r_istore_n hX dJ6_stringSize_0f7a4_15 (by decide) rfl ?_
  exact loop 9 1 rfl (Nat.le_refl _) (Or.inl rfl)
set_option maxRecDepth 100000 in
set_option maxHeartbeats 4000000 in
theorem c_J6_getChars {m p : Nat} (hm : m < 2 ^ 31) (hv : v < G.1) (hs : G.2.1 v = (20, cap)) (hp : (digs 10 m).length ≤ p) (hpc : p ≤ cap) (hcap : cap ≤ 320) : Con l D m_J6_getChars_ba4f3 1 [.int (nI m), .int (nI p), .ref v] 0 0 G I L (Pq G L fun r I' => (∃ x, r = some (.int x)) ∧ I' = wrp I v (p - (digs 10 m).length) (digs 10 m)) := by
  refine Con.of (by decide +kernel) (by simp [Value.category]) (Nat.le_of_ble_eq_true rfl) (Or.inl rfl) (fun X hX hT _ => ?_)
  have hX : OK X D cJ6_getChars_ba4f3 "java/lang/Integer" 7 := hX
  have hR := RT.room hT
  change J X D 7 0 0 _ _ _ 0 [.int (nI m), .int (nI p), .ref v, .retAddr 0, .retAddr 0, .retAddr 0, .retAddr 0] []
  have fin : ∀ (M : IT) (pos : Nat), M = wrp I v (p - (digs 10 m).length) (digs 10 m) → ∀ x0 : Int32, J X D 7 0 0 G M L 104 [.int x0, .int (nI p), .ref v, .retAddr 0, .retAddr 0, .int (nI pos), .int (nI 0)] [] := by
    intro M pos hM x0
    subst hM
    refine r_iload hX dJ6_getChars_ba4f3_104 rfl ?_
    refine r_if_eq hX dJ6_getChars_ba4f3_106 (tgt := 118) (by decide) (fun _ => ?_) (fun h => absurd nI_0 h)
    refine r_iload hX dJ6_getChars_ba4f3_118 rfl ?_
    exact r_iretQ hX hT dJ6_getChars_ba4f3_120 rfl ⟨⟨_, rfl⟩, rfl⟩ (by decide) (by decide)
  have loop : ∀ (f w pos : Nat) (M : IT), 1 ≤ f → w < 10 ^ f → w < 2 ^ 31 → (digs f w).length ≤ pos → pos ≤ cap → wrp M v (pos - (digs f w).length) (digs f w) = wrp I v (p - (digs 10 m).length) (digs 10 m) → J X D 7 0 0 G M L 22 [.int (-(nI w)), .int (nI p), .ref v, .retAddr 0, .retAddr 0, .int (nI pos), .int (nI 0)] [] := by
    intro f
    induction f using Nat.strongRecOn with
    | _ f ih =>
    intro w pos M hf hw hw2 hl1 hl2 hM
    refine r_iload_n hX dJ6_getChars_ba4f3_22 rfl ?_
    refine r_bipush hX dJ6_getChars_ba4f3_23 (v := -(nI 100)) (by decide) ?_
    refine r_icmp_gt hX dJ6_getChars_ba4f3_25 (tgt := 72) (by decide) (fun h => ?_) (fun h => ?_)
    · have h : w < 100 := (ng_lt hw2 (by decide)).mp h
      have hpos : 1 ≤ pos := by
        obtain ⟨g, rfl⟩ : ∃ g, f = g + 1 := ⟨f - 1, by omega⟩
        rw [dg_u] at hl1
        split at hl1
        · simpa using hl1
        · rw [List.length_append] at hl1
          simp only [List.length_cons, List.length_nil] at hl1
          omega
      refine r_aload_n hX dJ6_getChars_ba4f3_72 rfl ?_
      refine r_iinc hX dJ6_getChars_ba4f3_73 (v := nI (pos - 1)) (by decide) rfl (dec1 (by omega)) rfl ?_
      refine r_iload hX dJ6_getChars_ba4f3_76 rfl ?_
      refine r_gets hX hq_d1 gs_J6_83 dJ6_getChars_ba4f3_78 ?_
      refine r_iload_n hX dJ6_getChars_ba4f3_81 rfl ?_
      refine r_ineg hX dJ6_getChars_ba4f3_82 ?_
      rw [Int32.neg_neg]
      refine r_baldC hX (j := w) ones_T dJ6_getChars_ba4f3_83 rfl (by omega) (by decide) (ones_v _ (by omega)) ?_
      refine r_bast hX dJ6_getChars_ba4f3_84 hv hs rfl (show pos - 1 < cap by omega) (by omega) (y := nI (48 + w % 10)) (by rw [vp_nar_byte]; exact by_b _ (by omega)) ?_
      refine r_iload_n hX dJ6_getChars_ba4f3_85 rfl ?_
      refine r_bipush hX dJ6_getChars_ba4f3_86 (v := -(nI 9)) (by decide) ?_
      refine r_icmp_ge hX dJ6_getChars_ba4f3_88 (tgt := 104) (by decide) (fun h9 => ?_) (fun h9 => ?_)
      · have h9 : w ≤ 9 := (ng_le hw2 (by decide)).mp h9
        refine fin _ (pos - 1) ?_ _
        obtain ⟨g, rfl⟩ : ∃ g, f = g + 1 := ⟨f - 1, by omega⟩
        have e : digs (g + 1) w = [] ++ [48 + w % 10] := by rw [dg_u, if_pos (by omega), show w % 10 = w by omega]; rfl
        rw [← hM, e, ← wrp_snoc (p1 := pos - 1) (by simp), wrp_nil]
      · have h9 : 9 < w := Nat.not_le.mp (fun q => h9 ((ng_le hw2 (by decide)).mpr q))
        obtain ⟨g, rfl⟩ : ∃ g, f = g + 2 := ⟨f - 2, by
          rcases Nat.lt_or_ge f 2 with q | q
          · have : f = 1 := by omega
            subst this
            omega
          · omega⟩
        have e : digs (g + 2) w = ([] ++ [48 + w / 10]) ++ [48 + w % 10] := by rw [dg_u, if_neg (by omega), dg_u, if_pos (by omega)]; rfl
        rw [e] at hl1 hM
        simp only [List.length_append, List.length_cons, List.length_nil] at hl1
        refine r_aload_n hX dJ6_getChars_ba4f3_91 rfl ?_
        refine r_iinc hX dJ6_getChars_ba4f3_92 (v := nI ((pos - 1) - 1)) (by decide) rfl (dec1 (by omega)) rfl ?_
        refine r_iload hX dJ6_getChars_ba4f3_95 rfl ?_
        refine r_gets hX hq_d10 gs_J6_87 dJ6_getChars_ba4f3_97 ?_
        refine r_iload_n hX dJ6_getChars_ba4f3_100 rfl ?_
        refine r_ineg hX dJ6_getChars_ba4f3_101 ?_
        rw [Int32.neg_neg]
        refine r_baldC hX (j := w) tens_T dJ6_getChars_ba4f3_102 rfl (by omega) (by decide) (tens_v _ (by omega)) ?_
        refine r_bast hX dJ6_getChars_ba4f3_103 hv hs rfl (show pos - 1 - 1 < cap by omega) (by omega) (y := nI (48 + w / 10)) (by rw [vp_nar_byte]; exact by_b _ (by omega)) ?_
        refine fin _ (pos - 1 - 1) ?_ _
        rw [← hM, ← wrp_snoc (p1 := pos - 1) (by simp only [List.length_append, List.length_cons, List.length_nil]; omega), ← wrp_snoc (p1 := pos - 1 - 1) (by simp only [List.length_append, List.length_cons, List.length_nil]; omega), wrp_nil]
    · have h : 100 ≤ w := Nat.not_lt.mp (fun q => h ((ng_lt hw2 (by decide)).mpr q))
      obtain ⟨g, rfl⟩ : ∃ g, f = g + 2 := ⟨f - 2, by
        rcases Nat.lt_or_ge f 2 with q | q
        · have : f = 1 := by omega
          subst this
          omega
        · omega⟩
      have hg : 1 ≤ g := by
        rcases Nat.eq_zero_or_pos g with rfl | q
        · omega
        · exact q
      have e : digs (g + 2) w = (digs g (w / 100) ++ [48 + w % 100 / 10]) ++ [48 + w % 100 % 10] := by
        rw [dg_u, if_neg (by omega), dg_u, if_neg (by omega), Nat.div_div_eq_div_mul, show w / 10 % 10 = w % 100 / 10 by omega, show w % 10 = w % 100 % 10 by omega]
      have e2 : ((digs g (w / 100) ++ [48 + w % 100 / 10]) ++ [48 + w % 100 % 10]).length = (digs g (w / 100)).length + 2 := by simp only [List.length_append, List.length_cons, List.length_nil]
      rw [e, e2] at hl1 hM
      have hpw : 10 ^ (g + 2) = 10 ^ g * 100 := by rw [Nat.pow_add]
      have hr : w - w / 100 * 100 = w % 100 := by omega
      refine r_iload_n hX dJ6_getChars_ba4f3_28 rfl ?_
      refine r_bipush hX dJ6_getChars_ba4f3_29 (v := nI 100) (by decide) ?_
      refine r_idiv hX dJ6_getChars_ba4f3_31 (by decide) ?_
      rw [ng_div hw2]
      refine r_istore_n hX dJ6_getChars_ba4f3_32 (by decide) rfl ?_
      refine r_iload_n hX dJ6_getChars_ba4f3_33 rfl ?_
      refine r_bipush hX dJ6_getChars_ba4f3_34 (v := nI 100) (by decide) ?_
      refine r_imul hX dJ6_getChars_ba4f3_36 ?_
      refine r_iload_n hX dJ6_getChars_ba4f3_37 rfl ?_
      refine r_isub hX dJ6_getChars_ba4f3_38 ?_
      rw [ng_rem (by omega), hr]
      refine r_istore hX dJ6_getChars_ba4f3_39 (by decide) rfl ?_
      refine r_iload_n hX dJ6_getChars_ba4f3_41 rfl ?_
      refine r_istore_n hX dJ6_getChars_ba4f3_42 (by decide) rfl ?_
      refine r_aload_n hX dJ6_getChars_ba4f3_43 rfl ?_
      refine r_iinc hX dJ6_getChars_ba4f3_44 (v := nI (pos - 1)) (by decide) rfl (dec1 (by omega)) rfl ?_
      refine r_iload hX dJ6_getChars_ba4f3_47 rfl ?_
      refine r_gets hX hq_d1 gs_J6_83 dJ6_getChars_ba4f3_49 ?_
      refine r_iload hX dJ6_getChars_ba4f3_52 rfl ?_
      refine r_baldC hX (j := w % 100) ones_T dJ6_getChars_ba4f3_54 rfl (by omega) (by decide) (ones_v _ (by omega)) ?_
      refine r_bast hX dJ6_getChars_ba4f3_55 hv hs rfl (show pos - 1 < cap by omega) (by omega) (y := nI (48 + w % 100 % 10)) (by rw [vp_nar_byte]; exact by_b _ (by omega)) ?_
      refine r_aload_n hX dJ6_getChars_ba4f3_56 rfl ?_
      refine r_iinc hX dJ6_getChars_ba4f3_57 (v := nI ((pos - 1) - 1)) (by decide) rfl (dec1 (by omega)) rfl ?_
      refine r_iload hX dJ6_getChars_ba4f3_60 rfl ?_
      refine r_gets hX hq_d10 gs_J6_87 dJ6_getChars_ba4f3_62 ?_
      refine r_iload hX dJ6_getChars_ba4f3_65 rfl ?_
      refine r_baldC hX (j := w % 100) tens_T dJ6_getChars_ba4f3_67 rfl (by omega) (by decide) (tens_v _ (by omega)) ?_
      refine r_bast hX dJ6_getChars_ba4f3_68 hv hs rfl (show pos - 1 - 1 < cap by omega) (by omega) (y := nI (48 + w % 100 / 10)) (by rw [vp_nar_byte]; exact by_b _ (by omega)) ?_
      refine r_goto hX dJ6_getChars_ba4f3_69 (tgt := 22) (by decide) ?_
      refine r_drop (ls' := [.int (-(nI (w / 100))), .int (nI p), .ref v, .retAddr 0, .retAddr 0, .int (nI (pos - 1 - 1)), .int (nI 0)]) ⟨Or.inl rfl, Or.inl rfl, Or.inl rfl, Or.inr rfl, Or.inr rfl, Or.inl rfl, Or.inl rfl, trivial⟩ ?_
      refine ih g (by omega) (w / 100) (pos - 1 - 1) _ hg (by omega) (by omega) (by omega) (by omega) ?_
      rw [wrp_snoc (by omega), wrp_snoc (by simp only [List.length_append, List.length_cons, List.length_nil]; omega), ← hM]
      rw [show pos - 1 - 1 - (digs g (w / 100)).length = pos - ((digs g (w / 100)).length + 2) by omega]
  refine r_iload_n hX dJ6_getChars_ba4f3_0 rfl ?_
  refine r_istore hX dJ6_getChars_ba4f3_1 (by decide) rfl ?_
  refine r_iload_n hX dJ6_getChars_ba4f3_3 rfl ?_
  refine r_if_ge hX dJ6_getChars_ba4f3_4 (tgt := 11) (by decide) (fun _ => ?_) (fun h => absurd (nI_pos' hm) h)
  refine r_iconst hX dJ6_getChars_ba4f3_11 (v := nI 0) (by decide) ?_
  refine r_istore hX dJ6_getChars_ba4f3_12 (by decide) rfl ?_
  refine r_iload hX dJ6_getChars_ba4f3_14 rfl ?_
  refine r_if_ne hX dJ6_getChars_ba4f3_16 (tgt := 22) (by decide) (fun h => absurd nI_0 h) (fun _ => ?_)
  refine r_iload_n hX dJ6_getChars_ba4f3_19 rfl ?_
  refine r_ineg hX dJ6_getChars_ba4f3_20 ?_
  refine r_istore_n hX dJ6_getChars_ba4f3_21 (by decide) rfl ?_
  exact loop 10 m p I (by decide) (by omega) hm hp hpc rfl
set_option maxRecDepth 100000 in
set_option maxHeartbeats 4000000 in
theorem c_J5_appI (hB : LB b G I0 I v cap n) {m : Nat} (hm : m < 2 ^ 31) (hn : n + 10 ≤ 150) (hb : G.1 + 1 < 1000000) : Con l D m_J5_append_c97b9 7 [.ref b, .int (nI m)] 1 320 G I L (APP b I0 L n (digs 10 m)) := by
  refine Con.of (by decide +kernel) (by simp [Value.category]) (Nat.le_of_ble_eq_true rfl) (Or.inr hb) (fun X hX hT _ => ?_)
  have hX : OK X D cJ5_append_c97b9 "java/lang/AbstractStringBuilder" 4 := hX
  have hR := RT.room hT
  change J X D 4 0 0 _ _ _ 0 [.ref b, .int (nI m), .retAddr 0, .retAddr 0] []
  have hd := dg_le10 hm
  refine r_aload_n hX dJ5_append_c97b9_0 rfl ?_
  refine r_getX hX gf_J5_79 rfl dJ5_append_c97b9_1 hB.lt hB.sh hB.cnt ?_
  refine r_istore_n hX dJ5_append_c97b9_4 (by decide) rfl ?_
  refine r_iload_n hX dJ5_append_c97b9_5 rfl ?_
  refine r_iload_n hX dJ5_append_c97b9_6 rfl ?_
  refine r_Si (As := [.int (nI m)]) hX hR (c_J6_size hm) lk_J5_245 dJ5_append_c97b9_7 rfl rfl (Nat.le_of_ble_eq_true rfl) (by decide) (by first | decide | omega) (by first | decide | omega) ?_
  refine r_iadd hX dJ5_append_c97b9_10 ?_
  rw [nI_add]
  refine r_istore_n hX dJ5_append_c97b9_11 (by decide) rfl ?_
  refine r_aload_n hX dJ5_append_c97b9_12 rfl ?_
  refine r_iload_n hX dJ5_append_c97b9_13 rfl ?_
  refine r_callU (As := [.int (nI (n + (digs 10 m).length))]) hX hR (c_J5_ens hB (show n + (digs 10 m).length ≤ 160 by omega) hb) ENS.quiet lk_J5_100 hB.rc dJ5_append_c97b9_14 rfl rfl (Nat.le_of_ble_eq_true rfl) (by decide) (by decide) (by decide) ?_
  rintro r G2 I2 L2 ⟨e1, rfl, v2, cap2, hB2, hcap⟩
  cases e1
  have hv2 := hB2.v60
  have hcp2 := hB2.c320
  refine r_aload_n hX dJ5_append_c97b9_17 rfl ?_
  refine r_Ui (As := []) hX hR (c_J5_isL hB2) lk_J5_83 hB2.rc dJ5_append_c97b9_18 rfl rfl (Nat.le_of_ble_eq_true rfl) (by decide) (by first | decide | omega) (by first | decide | omega) ?_
  refine r_if_eq hX dJ5_append_c97b9_21 (tgt := 37) (by decide) (fun h => absurd h (by decide)) (fun _ => ?_)
  refine r_iload_n hX dJ5_append_c97b9_24 rfl ?_
  refine r_iload_n hX dJ5_append_c97b9_25 rfl ?_
  refine r_aload_n hX dJ5_append_c97b9_26 rfl ?_
  refine r_getR hX gf_J5_15 rfl dJ5_append_c97b9_27 hB2.lt hB2.sh hB2.val ?_
  refine r_Sq (As := [.int (nI m), .int (nI (n + (digs 10 m).length)), .ref v2]) hX hR (c_J6_getChars hm hB2.vlt hB2.vsh (by omega) hcap hcp2) lk_J5_248 dJ5_append_c97b9_30 rfl rfl (Nat.le_of_ble_eq_true rfl) (by decide) (by decide) (by decide) ?_
  rintro r I3 ⟨⟨x, rfl⟩, hI3⟩
  rw [Nat.add_sub_cancel] at hI3
  subst hI3
  refine r_pop hX dJ5_append_c97b9_33 rfl ?_
  refine r_goto hX dJ5_append_c97b9_34 (tgt := 48) (by decide) ?_
  refine r_aload_n hX dJ5_append_c97b9_48 rfl ?_
  refine r_iload_n hX dJ5_append_c97b9_49 rfl ?_
  refine r_putI (x := nI (n + (digs 10 m).length)) hX pf_J5_79 rfl dJ5_append_c97b9_50 hB2.lt hB2.sh rfl rfl ?_
  refine r_aload_n hX dJ5_append_c97b9_53 rfl ?_
  refine r_aret hX hT dJ5_append_c97b9_54 (Or.inl ⟨_, rfl⟩) ⟨rfl, rfl, v2, cap2, hB2.app (digs 10 m) hcap (by omega) (dg_128 10 m) (fun k q1 q2 => ?_) ?_ up2_same (fun j hj => ?_) (fun j hj => ?_) (fun j hj => ?_)⟩ (by decide) (by decide)
  · rw [up2_ne q2]
    funext j
    exact if_neg (fun q => q1 q.1)
  · rw [up2_nej (by decide)]
    exact (if_neg (fun q => hv2 q.1.symm)).trans hB2.cod
  · rw [up2_nea hv2]
    exact if_neg (fun q => by have := q.2; omega)
  · rw [up2_nea hv2]
    refine (if_pos ⟨rfl, by omega, by omega⟩).trans ?_
    rw [show n + j - n = j by omega]
  · rw [up2_nea hv2]
    exact if_neg (fun q => by have := q.2; omega)
end JdkC
