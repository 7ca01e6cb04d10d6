/-! ===== the reference writes ===== -/
def ML (I : IT) (l : List Nat) : Prop := I 190 6 = nI l.length ∧ ∀ j, j < l.length → I 192 j = nI (l.getD j 0)
/-- what writing leaves alone -/
def Mw (I I' : IT) : Prop := (∀ q, q ≠ 190 → q ≠ 192 → I' q = I q) ∧ ∀ j, j ≠ 6 → I' 190 j = I 190 j
theorem Mw.rf {I : IT} : Mw I I := ⟨fun _ _ _ => rfl, fun _ _ => rfl⟩
theorem Mw.tr {I I' I2 : IT} (h : Mw I I') (h' : Mw I' I2) : Mw I I2 := ⟨fun q a b => (h'.1 q a b).trans (h.1 q a b), fun j a => (h'.2 j a).trans (h.2 j a)⟩
section W
variable {I I0 : IT} {l : List Nat} {K : IT → Prop}
theorem w_chr (h : ML I l) (hm : Mw I0 I) {c : Nat} (hc : c < 65536) (hl : l.length + 1 ≤ 240) (k : ∀ I', ML I' (l ++ [c]) → Mw I0 I' → K I') : f_X9_writes (nI c) I K := by
  obtain ⟨h1, h2⟩ := h
  unfold f_X9_writes
  rw [h1, inr_n (by omega), ix_n (by omega), c16_n hc, wr_p, wr_p, up2_nea (show (190 : Nat) ≠ 192 by decide), h1, nI_add]
  refine ⟨by omega, k _ ⟨?_, fun j hj => ?_⟩ (hm.tr ⟨fun q a b => by rw [up2_ne a, up2_ne b], fun j a => by rw [up2_nej a, up2_nea (by decide)]⟩)⟩
  · rw [up2_same, List.length_append]; rfl
  · rw [List.length_append] at hj
    have hj : j < l.length + 1 := hj
    rw [up2_nea (by decide)]
    by_cases a : j = l.length
    · rw [a, up2_same, put_last]
    · rw [up2_nej a, put_getD (by omega)]; exact h2 j (by omega)
theorem w_dig (h : ML I l) (hm : Mw I0 I) {n : Nat} (hn : n < 2147483648) (hl : l.length + 1 ≤ 240) (k : ∀ I', ML I' (l ++ [48 + n % 10]) → Mw I0 I' → K I') : f_X9_writesNumber_b14 (nI n) K I := by
  unfold f_X9_writesNumber_b14
  rw [n_div hn (by decide) (by decide), pk_mul, n_sub (by omega), nI_add, show 48 + (n - n / 10 * 10) = 48 + n % 10 by omega]
  exact w_chr h hm (by omega) hl k
end W
theorem w_numr : ∀ g n f (I I0 : IT) (l : List Nat) (K : IT → Prop), n < 10 ^ (g + 1) → n < 2147483648 → g < f → ML I l → Mw I0 I → l.length + (g + 1) ≤ 240 → (∀ I', ML I' (l ++ digs (g + 1) n) → Mw I0 I' → K I') → f_X9_writesNumber_r f (nI n) I K := by
  intro g
  induction g with
  | zero =>
    intro n f I I0 l K h1 h2 h3 h4 h5 h6 k
    cases f with
    | zero => omega
    | succ f =>
      rw [f_X9_writesNumber_r]
      have q := n_leP (a := n) (b := 9) h2 (by decide)
      have hn : n < 10 := by omega
      rw [if_pos (by rw [q]; omega)]
      refine w_dig h4 h5 h2 (by omega) fun I' a b => k I' ?_ b
      unfold digs
      rw [if_pos hn]
      rw [show n % 10 = n by omega] at a
      exact a
  | succ g ih =>
    intro n f I I0 l K h1 h2 h3 h4 h5 h6 k
    cases f with
    | zero => omega
    | succ f =>
      rw [f_X9_writesNumber_r]
      have q := n_leP (a := n) (b := 9) h2 (by decide)
      by_cases hn : n < 10
      · rw [if_pos (by rw [q]; omega)]
        refine w_dig h4 h5 h2 (by omega) fun I' a b => k I' ?_ b
        unfold digs
        rw [if_pos hn]
        rw [show n % 10 = n by omega] at a
        exact a
      · rw [if_neg (by rw [q]; omega), n_div h2 (by decide) (by decide)]
        have hp : n / 10 < 10 ^ (g + 1) := by rw [Nat.pow_succ] at h1; omega
        refine ih (n / 10) f I I0 l _ hp (by omega) (by omega) h4 h5 (by omega) fun I' a b => ?_
        have hd := digs_len (g + 1) (n / 10)
        refine w_dig a b h2 (by rw [List.length_append]; omega) fun I2 a2 b2 => k I2 ?_ b2
        rw [List.append_assoc] at a2
        have e : digs (g + 1 + 1) n = digs (g + 1) (n / 10) ++ [48 + n % 10] := by
          rw [show digs (g + 1 + 1) n = if n < 10 then [48 + n] else digs (g + 1) (n / 10) ++ [48 + n % 10] from rfl, if_neg hn]
        rw [e]; exact a2
section W
variable {I I0 : IT} {l : List Nat} {K : IT → Prop}
theorem w_num (h : ML I l) (hm : Mw I0 I) {n : Nat} (hn : n < 2147483648) (hl : l.length + 10 ≤ 240) (k : ∀ I', ML I' (l ++ digs 10 n) → Mw I0 I' → K I') : f_X9_writesNumber (nI n) I K := by
  unfold f_X9_writesNumber
  exact w_numr 9 n 12 I I0 l K (Nat.lt_of_lt_of_le hn (by decide)) hn (by decide) h hm hl k
theorem w_behind (h : ML I l) (hm : Mw I0 I) {c n : Nat} (hc : c < 65536) (hn : n < 2147483648) (hl : l.length + 11 ≤ 240) (k : ∀ I', ML I' (l ++ [c] ++ digs 10 n) → Mw I0 I' → K I') : f_X9_writesBehind (nI c) (nI n) I K := by
  unfold f_X9_writesBehind
  refine w_chr h hm hc (by omega) fun I1 l1 m1 => ?_
  exact w_num l1 m1 hn (by simp; omega) k
end W
theorem digs_lt : ∀ (f n c : Nat), c ∈ digs f n → c < 128
  | 0, n, c, h => by simp [digs] at h
  | f + 1, n, c, h => by
    unfold digs at h
    split at h
    · simp at h; omega
    · rcases List.mem_append.mp h with q | q
      · exact digs_lt f _ c q
      · simp at q; omega
theorem ap_lt {l l' : List Nat} (h : ∀ c, c ∈ l → c < 128) (h' : ∀ c, c ∈ l' → c < 128) : ∀ c, c ∈ l ++ l' → c < 128 := fun c hc => by
  rcases List.mem_append.mp hc with q | q
  · exact h c q
  · exact h' c q
theorem one_lt {a : Nat} (h : a < 128) : ∀ c, c ∈ [a] → c < 128 := fun c hc => by rw [List.mem_singleton.mp hc]; exact h
theorem two_lt {a b : Nat} (h : a < 128) (h' : b < 128) : ∀ c, c ∈ [a, b] → c < 128 := fun c hc => by
  rcases List.mem_cons.mp hc with q | q
  · rw [q]; exact h
  · rw [List.mem_singleton.mp q]; exact h'
theorem nil_lt : ∀ c, c ∈ ([] : List Nat) → c < 128 := fun c hc => by cases hc
/-- a new line on both sides -/
theorem ST.ln {I J J0 J2 : IT} {T : TS} {t : Nat} {l : List Nat} (h : ST I T t) (hJ : Same I J 60 2) (hl : LN J l) (m : Mw J0 J2) (h0 : ∀ q, q ≠ 190 → J0 q = J q) (h1 : ∀ j, j ≠ 0 → j ≠ 6 → J0 190 j = J 190 j) (h2 : ML J2 l) (hc : ∀ c, c ∈ l → c < 128) : ST J2 (T.lin l) t := by
  obtain ⟨w, hC, hM⟩ := h
  have b : ∀ q, q ≠ 60 → q ≠ 61 → q ≠ 190 → q ≠ 192 → J2 q = I q := fun q a1 a2 a3 a4 => by rw [m.1 q a3 a4, h0 q a3]; exact hJ q (by omega)
  have b2 : ∀ j, j ≠ 0 → j ≠ 6 → J2 190 j = I 190 j := fun j a1 a2 => by rw [m.2 j a2, h1 j a1 a2, hJ 190 (by decide)]
  refine ⟨?_, ?_, ?_⟩
  · obtain ⟨w1, w2, w3, w4, w5, w6, w7, w8, w9, w10⟩ := w
    exact ⟨w1, w2, w3, w4, w5, w6, w7, w8, hl.2.1, hc⟩
  · refine hC.alt (fun q a1 a2 => b q (by omega) (by omega) (by omega) (by omega)) (fun j a1 a2 => by rw [b 0 (by decide) (by decide) (by decide) (by decide)]) rfl rfl rfl rfl ?_ ?_ (hl.same (by rw [m.1 60 (by decide) (by decide), h0 60 (by decide)]) (by rw [m.1 61 (by decide) (by decide), h0 61 (by decide)])) ⟨?_, fun j hj => ?_⟩
    · rw [b 0 (by decide) (by decide) (by decide) (by decide)]; exact hC.2.2.2.1
    · rw [b 0 (by decide) (by decide) (by decide) (by decide)]; exact hC.2.2.2.2.1
    · rw [b 56 (by decide) (by decide) (by decide) (by decide)]; exact hC.2.2.2.2.2.2.1.1
    · rw [b 57 (by decide) (by decide) (by decide) (by decide)]; exact hC.2.2.2.2.2.2.1.2 j hj
  · refine hM.alt (b 191 (by decide) (by decide) (by decide) (by decide)) (b2 2 (by decide) (by decide)) (b2 3 (by decide) (by decide)) rfl rfl rfl rfl ?_ ?_ h2 ⟨?_, fun j hj => ?_⟩
    · rw [b2 11 (by decide) (by decide)]; exact hM.2.2.2.2.1
    · rw [b2 12 (by decide) (by decide)]; exact hM.2.2.2.2.2.1
    · rw [b2 8 (by decide) (by decide)]; exact hM.2.2.2.2.2.2.2.1
    · rw [b 193 (by decide) (by decide) (by decide) (by decide)]; exact hM.2.2.2.2.2.2.2.2 j hj
