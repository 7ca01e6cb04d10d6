section K
variable {I : IT} {a : Nat} {S : KS}
theorem rankedK_at {k : Nat} (hk : k < kc S) : rankedK S (rankK S k : Int) = some k :=
  firstN_hit hk rfl fun i hi e => by have := rankK_inj (S := S) (i := i) (j := k) (by omega) hk (by omega); omega
theorem rankedK_ex {j : Nat} (hj : j < kc S) : ∃ k, k < kc S ∧ rankedK S (j : Int) = some k := by
  obtain ⟨k, h1, h2⟩ := rankK_onto hj
  exact ⟨k, h1, by rw [← h2]; exact rankedK_at h1⟩
theorem s_isRanked {K : Int32 → Prop} (hS : KR I a S) (h : K (nI 1)) : f_X3_isRankedOnceEach a I K := by
  have hc := hS.2.1
  have w1 := hS.1.1
  have loop : ∀ n j (m : Fin 16), j ≤ kc S → kc S - j < n → (∀ k : Fin 4, (nI m.val &&& (nI 1 <<< (nI k.val &&& 31))) = 0 ↔ ∀ r, r < j → rankedK S (r : Int) ≠ some k.val) → f_X3_isRankedOnceEach_b4 a I K n (nI m.val) (nI j) := by
    intro n
    induction n with
    | zero => intro j m _ hn; omega
    | succ n ih =>
      intro j m hj hn hm
      rw [f_X3_isRankedOnceEach_b4, hc]
      simp (disch := omega) only [n_leP]
      by_cases e : j = kc S
      · rw [if_pos (by omega)]; exact h
      · rw [if_neg (by omega)]
        obtain ⟨k, hk, er⟩ := rankedK_ex (S := S) (j := j) (by omega)
        refine s_ranked hS _ ?_
        rw [nI_toInt (by omega), er, optI_some]
        refine s_has hS _ ?_
        rw [nI_toInt (by omega), zb_t (by omega), if_neg (by rw [one_eq0]; exact id)]
        obtain ⟨m2, e1, e2⟩ := bit4 m ⟨k, by omega⟩
        have e0 := (hm ⟨k, by omega⟩).mpr (fun r hr q => by
          obtain ⟨q1, q2, -⟩ := firstN_some q
          obtain ⟨p1, p2, -⟩ := firstN_some er
          dsimp only at q2
          omega)
        dsimp only at e0 e1
        rw [if_pos e0]
        simp only [bnd, e1, nI_add]
        refine ih (j + 1) m2 (by omega) (by omega) fun k2 => ?_
        rw [e2 k2, hm k2]
        constructor
        · intro ⟨q1, q2⟩ r hr
          by_cases e3 : r = j
          · subst e3; rw [er]; intro q3; exact q2 (Fin.ext (Option.some.inj q3).symm)
          · exact q1 r (by omega)
        · intro q
          refine ⟨fun r hr => q r (by omega), fun q3 => ?_⟩
          have := q j (by omega)
          rw [er, q3] at this
          exact this rfl
  unfold f_X3_isRankedOnceEach
  refine loop 4096 0 0 (Nat.zero_le _) (by omega) fun k => ?_
  constructor
  · intro _ r hr; omega
  · intro _; exact bit0 k
def five (I I' : IT) (a b k : Nat) : Prop := I' (a + 1) k = I (b + 1) k ∧ I' (a + 2) k = I (b + 2) k ∧ I' (a + 3) k = I (b + 3) k ∧ I' (a + 4) k = I (b + 4) k ∧ I' (a + 5) k = I (b + 5) k
theorem KR.copy {I' : IT} {b : Nat} (hS : KR I b S) (h0 : I' a 5 = I b 5) (h5 : ∀ k, k < 4 → five I I' a b k) : KR I' a S := by
  obtain ⟨w, hc, hv, hz⟩ := hS
  have w1 := w.1
  refine ⟨w, by rw [h0]; exact hc, fun k hk => ?_, fun k hk => ?_⟩
  · obtain ⟨f1, f2, f3, f4, f5⟩ := h5 k (by omega)
    rw [f1, f2, f3, f4, f5]; exact hv k hk
  · rw [(h5 k hk).2.2.2.2]; exact hz k hk
theorem s_copyK {K : IT → Prop} {b : Nat} (hS : KR I b S) (hd : a + 6 ≤ b ∨ b + 6 ≤ a) (h : ∀ I', KR I' a S → Same I I' a 6 → K I') : f_X3_copyFrom a b I K := by
  have hz := hS.2.2.2
  have loop : ∀ n j I', j ≤ 4 → 4 - j < n → Same I I' a 6 → I' a 5 = I b 5 → (∀ k, k < j → five I I' a b k) → f_X3_copyFrom_b10 a b K n (nI j) I' := by
    intro n
    induction n with
    | zero => intro j _ _ hn; omega
    | succ n ih =>
      intro j I' hj hn hs h0 h5
      rw [f_X3_copyFrom_b10]
      simp (disch := omega) only [n_leP]
      by_cases e : j = 4
      · rw [if_pos (by omega)]
        refine h I' (KR.copy hS h0 fun k hk => h5 k (by omega)) hs
      · rw [if_neg (by omega)]
        have hz5 : isZ (I' (b + 5) j) := by rw [hs (b + 5) (by omega)]; exact hz j (by omega)
        simp (disch := omega) only [ix_n, inr_n, wr, bnd, nI_add, up2_nea]
        refine ⟨by omega, hz5, ih (j + 1) _ (by omega) (by omega) ?_ ?_ fun k hk => ?_⟩
        · repeat (first | exact hs | refine Same.up ?_ (by omega) (by omega))
        · simp (disch := omega) only [up2_nea]; exact h0
        · have e1 : I' (b + 1) j = I (b + 1) j := by rw [hs (b + 1) (by omega)]
          have e2 : I' (b + 2) j = I (b + 2) j := by rw [hs (b + 2) (by omega)]
          have e3 : I' (b + 3) j = I (b + 3) j := by rw [hs (b + 3) (by omega)]
          have e4 : I' (b + 4) j = I (b + 4) j := by rw [hs (b + 4) (by omega)]
          have e5 : I' (b + 5) j = I (b + 5) j := by rw [hs (b + 5) (by omega)]
          by_cases e6 : k = j
          · subst e6
            unfold five
            simp (disch := omega) only [up2_nea, up2_same, e1, e2, e3, e4, e5]
            exact ⟨trivial, trivial, trivial, trivial, trivial⟩
          · have := h5 k (by omega)
            unfold five
            simp (disch := first | omega | assumption) only [up2_nea, up2_nej]
            exact this
  unfold f_X3_copyFrom
  simp only [wr]
  exact loop 4096 0 _ (by omega) (by omega) (Same.rf.up (by omega) (by omega)) up2_same (fun k hk => by omega)
/-- the text of a kettle -/
def kText (S : KS) (k : Nat) : List Nat := [75] ++ digs 10 k ++ [32] ++ digs 10 (kvol S k) ++ [47] ++ digs 10 (kcap S k) ++ [32] ++ digs 10 (ktmp S k) ++ [104] ++ (if klev S k = 0 then [] else [32, 98] ++ digs 10 (klev S k)) ++ (if kboi S k = 0 then [] else [33])
theorem s_descK {K : IT → Prop} (hS : KR I a S) (ha : a + 6 ≤ 60 ∨ 62 ≤ a) {k : Nat} (hk : k < kc S) (hl : LN I []) (h : ∀ I', LN I' (kText S k) → Same I I' 60 2 → K I') : f_X3_describe a (nI k) I K := by
  obtain ⟨⟨w1, w2⟩, hc, hv, hz⟩ := hS
  obtain ⟨v1, v2, v3, v4, v5⟩ := hv k hk
  obtain ⟨u1, u2, u3, u4, u5, u6⟩ := w2 k hk
  have d1 := digs_len 10 k
  have d2 := digs_len 10 (kvol S k)
  have d3 := digs_len 10 (kcap S k)
  have d4 := digs_len 10 (ktmp S k)
  have d5 := digs_len 10 (klev S k)
  have part : ∀ I' l, LN I' l → Same I I' 60 2 → l.length ≤ 80 → kText S k = l ++ (if kboi S k = 0 then [] else [33]) → f_X3_describe_b87 a (nI k) K I' := by
    intro I' l h1 h2 h3 h4
    unfold f_X3_describe_b87
    have e : I' (a + 5) k = nI (kboi S k) := by rw [h2 (a + 5) (by omega)]; exact v5
    simp (disch := omega) only [ix_n, inr_n, e, n_eq0]
    refine ⟨by omega, ?_⟩
    split
    · next q => rw [if_pos q, List.append_nil] at h4; rw [h4] at h; exact h _ h1 h2
    · next q =>
      rw [if_neg q] at h4
      rw [h4] at h
      exact s_chr h1 h2 (by omega) (by omega) h
  unfold f_X3_describe
  refine s_chr hl Same.rf (by decide) (by simp) fun I1 l1 m1 => ?_
  refine s_num l1 m1 (by omega) (by simp) fun I2 l2 m2 => ?_
  refine s_chr l2 m2 (by decide) (by simp; omega) fun I3 l3 m3 => ?_
  simp (disch := omega) only [inr_n, ix_n]
  refine ⟨by omega, ?_⟩
  rw [m3 (a + 2) (by omega), v2]
  refine s_num l3 m3 (by omega) (by simp; omega) fun I4 l4 m4 => ?_
  refine s_chr l4 m4 (by decide) (by simp; omega) fun I5 l5 m5 => ?_
  rw [m5 (a + 1) (by omega), v1]
  refine s_num l5 m5 (by omega) (by simp; omega) fun I6 l6 m6 => ?_
  refine s_chr l6 m6 (by decide) (by simp; omega) fun I7 l7 m7 => ?_
  rw [m7 (a + 3) (by omega), v3]
  refine s_num l7 m7 (by omega) (by simp; omega) fun I8 l8 m8 => ?_
  refine s_chr l8 m8 (by decide) (by simp; omega) fun I9 l9 m9 => ?_
  rw [m9 (a + 4) (by omega), v4]
  simp (disch := omega) only [n_le0]
  split
  · next q => exact part _ _ l9 m9 (by simp; omega) (by unfold kText; rw [if_pos q]; simp)
  · next q =>
    refine s_str (s := [32, 98]) l9 m9 rfl (by decide) (by simp; omega) fun I10 l10 m10 => ?_
    rw [m10 (a + 4) (by omega), v4]
    refine s_num l10 m10 (by omega) (by simp; omega) fun I11 l11 m11 => ?_
    exact part _ _ l11 m11 (by simp; omega) (by unfold kText; rw [if_neg q]; simp)
end K
