/-! ===== the line as a list of letters ===== -/
def LN (I : IT) (l : List Nat) : Prop := I 60 3 = nI l.length ∧ l.length ≤ 150 ∧ ∀ j, j < l.length → I 61 j = nI (l.getD j 0)
theorem LN.put {I : IT} {l : List Nat} (h : LN I l) {c : Nat} (hl : l.length + 1 ≤ 150) : LN (sbPut I (nI c)) (l ++ [c]) ∧ Same I (sbPut I (nI c)) 60 2 := by
  obtain ⟨h1, h2, h3⟩ := h
  have e : ix (I 60 3) = l.length := by rw [h1]; exact ix_n (by omega)
  unfold sbPut
  rw [e, h1, nI_add]
  refine ⟨⟨by rw [up2_same]; simp, by simp; omega, fun j hj => ?_⟩, (Same.rf.up (by omega) (by omega)).up (by omega) (by omega)⟩
  rw [up2_nea (by decide)]
  simp only [List.length_append, List.length_cons, List.length_nil] at hj
  by_cases e2 : j = l.length
  · subst e2; rw [up2_same]; simp
  · rw [up2_nej e2, h3 j (by omega)]
    simp only [List.getD_eq_getElem?_getD]
    rw [List.getElem?_append_left (by omega)]
theorem LN.app : ∀ (s : List Nat) {I : IT} {l : List Nat}, LN I l → l.length + s.length ≤ 150 → LN (sbApp s I) (l ++ s) ∧ Same I (sbApp s I) 60 2
  | [], I, l, h, _ => by rw [List.append_nil]; exact ⟨h, Same.rf⟩
  | c :: s, I, l, h, hl => by
    simp only [List.length_cons] at hl
    obtain ⟨h1, h2⟩ := h.put (c := c) (by omega)
    obtain ⟨h3, h4⟩ := LN.app s h1 (by simp; omega)
    rw [List.append_assoc] at h3
    exact ⟨h3, h2.tr h4 (by omega) (by omega)⟩
theorem digs_len : ∀ f n, (digs f n).length ≤ f
  | 0, _ => Nat.le_refl _
  | f + 1, n => by
    unfold digs
    split
    · simp
    · have := digs_len f (n / 10)
      simp; omega
theorem digs_len2 : ∀ m f n, n < 10 ^ (m + 1) → (digs f n).length ≤ m + 1
  | _, 0, _, _ => by simp [digs]
  | 0, f + 1, n, h => by
    unfold digs
    rw [if_pos (by omega)]; simp
  | m + 1, f + 1, n, h => by
    unfold digs
    split
    · simp
    · have := digs_len2 m f (n / 10) (by rw [Nat.pow_succ] at h; omega)
      simp; omega
section L
variable {I I0 : IT} {l : List Nat} {K : Nat → IT → Prop}
theorem s_chr (h : LN I l) (hm : Same I0 I 60 2) {c : Nat} (hc : c < 128) (hl : l.length + 1 ≤ 150) (k : ∀ I', LN I' (l ++ [c]) → Same I0 I' 60 2 → K 60 I') : f_J4_append_cf468 (nI c) I K := by
  obtain ⟨h1, h2⟩ := h.put (c := c) hl
  refine ⟨by rw [nI_toInt (by omega)]; omega, ?_, k _ h1 (hm.tr h2 (by omega) (by omega))⟩
  unfold sbRoom; rw [h.1, nI_toInt (by omega)]; omega
theorem s_num (h : LN I l) (hm : Same I0 I 60 2) {n : Nat} (hn : n < 2147483648) (hl : l.length + 10 ≤ 150) (k : ∀ I', LN I' (l ++ digs 10 n) → Same I0 I' 60 2 → K 60 I') : f_J4_append_bf812 (nI n) I K := by
  have hd := digs_len 10 n
  obtain ⟨h1, h2⟩ := LN.app (digs 10 n) h (by omega)
  refine ⟨by rw [nI_toInt (by omega)]; omega, ?_, ?_⟩
  · unfold sbRoom; rw [h.1, nI_toInt (by omega)]; omega
  · rw [ix_n hn]; exact k _ h1 (hm.tr h2 (by omega) (by omega))
theorem s_str (h : LN I l) (hm : Same I0 I 60 2) {v : Nat} {s : List Nat} (hv : strT v = s) (hs : s.length ≤ 2) (hl : l.length + 2 ≤ 150) (k : ∀ I', LN I' (l ++ s) → Same I0 I' 60 2 → K 60 I') : f_J4_append_15ec4 v I K := by
  subst hv
  obtain ⟨h1, h2⟩ := LN.app (strT v) h (by omega)
  refine ⟨?_, hs, k _ h1 (hm.tr h2 (by omega) (by omega))⟩
  unfold sbRoom; rw [h.1, nI_toInt (by omega)]; omega
theorem s_setLen {K : IT → Prop} (k : ∀ I', LN I' [] → Same I I' 60 2 → K I') : f_J4_setLength_d00df (nI 0) I K :=
  ⟨rfl, k _ ⟨up2_same, by simp, fun j hj => by simp at hj⟩ (Same.rf.up (by omega) (by omega))⟩
end L
theorem Same.ne {I I' : IT} {a n : Nat} (h : Same I I' a n) {q : Nat} (hq : q < a ∨ a + n ≤ q) : I' q = I q := h q hq
