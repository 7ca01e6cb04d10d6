/-! ===== programs: the reference's parser ===== -/
/-- what it changes: its fields 9, 10, 14, its row 194 -/
def RS (I0 I : IT) : Prop := (∀ q, q ≠ 190 → q ≠ 194 → I q = I0 q) ∧ ∀ k, k ≠ 9 → k ≠ 10 → k ≠ 14 → I 190 k = I0 190 k
theorem RS.rf {I : IT} : RS I I := ⟨fun _ _ _ => rfl, fun _ _ _ _ => rfl⟩
theorem RS.tr {I I' I2 : IT} (h : RS I I') (h' : RS I' I2) : RS I I2 := ⟨fun q a b => (h'.1 q a b).trans (h.1 q a b), fun k a b c => (h'.2 k a b c).trans (h.2 k a b c)⟩
theorem RS.fld {I0 I : IT} (h : RS I0 I) {k : Nat} (hk : k = 9 ∨ k = 10 ∨ k = 14) (v : Int32) : RS I0 (up2 I 190 k v) := ⟨fun q a b => by rw [up2_ne a]; exact h.1 q a b, fun i a b c => by rw [up2_nej (by omega)]; exact h.2 i a b c⟩
theorem RS.row {I0 I : IT} (h : RS I0 I) (i : Nat) (v : Int32) : RS I0 (up2 I 194 i v) := ⟨fun q a b => by rw [up2_ne b]; exact h.1 q a b, fun k a b c => by rw [up2_nea (by decide)]; exact h.2 k a b c⟩
def RX (I : IT) (n : Nat) (g : Nat → Nat) : Prop := I 190 8 = nI n ∧ n ≤ 60 ∧ (∀ j, j < n → I 193 j = nI (g j)) ∧ ∀ j, g j < 128
theorem RX.rs {I0 I : IT} {n : Nat} {g : Nat → Nat} (h : RX I0 n g) (p : RS I0 I) : RX I n g := ⟨by rw [p.2 8 (by decide) (by decide) (by decide)]; exact h.1, h.2.1, fun j hj => by rw [p.1 193 (by decide) (by decide)]; exact h.2.2.1 j hj, h.2.2.2⟩
/-- here j, no error; an error at e -/
def rOk (I : IT) (j : Nat) : Prop := I 190 9 = nI j ∧ I 190 10 = -1
def rEr (I : IT) (e : Nat) : Prop := I 190 10 = nI e
section R
variable {n : Nat} {g : Nat → Nat} {I : IT}
def sgN (n : Nat) (g : Nat → Nat) (j : Nat) : Int32 := if j < n then nI (g j) else -1
theorem r_sign {K : Int32 → Prop} {j : Nat} (hX : RX I n g) (h9 : I 190 9 = nI j) (hj : j ≤ n) (h : K (sgN n g j)) : f_X9_sign I K := by
  obtain ⟨t1, t2, t3, t4⟩ := hX
  unfold f_X9_sign
  have g1 := n_leP (a := n) (b := j) (by omega) (by omega)
  unfold sgN at h
  rw [t1, h9]
  by_cases q : j < n
  · rw [if_neg (by rw [g1]; omega), inr_n (by omega), ix_n (by omega), t3 j q]
    rw [if_pos q] at h
    exact ⟨by omega, h⟩
  · rw [if_pos (by rw [g1]; omega)]
    rw [if_neg q] at h; exact h
theorem sg_eq {j c : Nat} (t4 : ∀ j, g j < 128) (hc : c < 128) : (sgN n g j = nI c) = (j < n ∧ g j = c) := by
  unfold sgN
  have := t4 j
  by_cases q : j < n
  · rw [if_pos q, n_eqP (by omega) (by omega)]
    exact propext ⟨fun z => ⟨q, z⟩, fun z => z.2⟩
  · rw [if_neg q]
    refine propext ⟨fun z => ?_, fun z => absurd z.1 q⟩
    have := n_m1 (a := c) (by omega)
    rw [← z] at this
    exact absurd this (by intro y; rw [← y])
theorem r_needs {K : IT → Prop} {j c : Nat} (hX : RX I n g) (ho : rOk I j) (hj : j ≤ n) (hc : c < 128) (h1 : j < n → g j = c → K (up2 I 190 9 (nI (j + 1)))) (h0 : ¬ (j < n ∧ g j = c) → K (up2 I 190 10 (nI j))) : f_X9_needs (nI c) I K := by
  unfold f_X9_needs
  rw [ho.2, if_pos (by decide)]
  refine r_sign hX ho.1 hj ?_
  rw [ho.1, wr_p, wr_p, nI_add]
  have e := sg_eq (n := n) (j := j) (c := c) hX.2.2.2 hc
  by_cases q : j < n ∧ g j = c
  · rw [if_pos (by rw [e]; exact q)]; exact h1 q.1 q.2
  · rw [if_neg (by rw [e]; exact q)]; exact h0 q
theorem r_noneed {K : IT → Prop} {e : Nat} {c : Int32} (he : rEr I e) (hb : e < 2147483648) (h : K I) : f_X9_needs c I K := by
  unfold f_X9_needs
  have hn := n_neg (a := e) hb
  rw [he, if_neg (by rw [hn]; exact id)]
  exact h
/-- a chain of letters -/
def ndC : List Nat → IT → (IT → Prop) → Prop
  | [], I, K => K I
  | c :: w, I, K => f_X9_needs (nI c) I (fun I1 => ndC w I1 K)
theorem nd_err : ∀ (w : List Nat) {I : IT} {K : IT → Prop} {e : Nat}, rEr I e → e < 2147483648 → K I → ndC w I K
  | [], _, _, _, _, _, h => h
  | c :: w, _, _, _, he, hb, h => r_noneed he hb (nd_err w he hb h)
theorem nd_ok : ∀ (w : List Nat) {I I0 : IT} {K : IT → Prop} {j : Nat}, RX I n g → rOk I j → j ≤ n → RS I0 I → I 190 14 = I0 190 14 → I 194 = I0 194 → (∀ c, c ∈ w → c < 128) → (mtL n g w j = w.length → ∀ I', RS I0 I' → rOk I' (j + w.length) → I' 190 14 = I0 190 14 → I' 194 = I0 194 → K I') → (mtL n g w j ≠ w.length → ∀ I', RS I0 I' → rEr I' (j + mtL n g w j) → I' 190 14 = I0 190 14 → I' 194 = I0 194 → K I') → ndC w I K
  | [], I, I0, K, j, _, ho, _, hR, h14, h194, _, h1, _ => h1 rfl I hR ho h14 h194
  | c :: w, I, I0, K, j, hX, ho, hj, hR, h14, h194, hc, h1, h0 => by
    have t2 := hX.2.1
    show f_X9_needs (nI c) I (fun I1 => ndC w I1 K)
    refine r_needs hX ho hj (hc c (List.mem_cons_self ..)) (fun q q2 => ?_) (fun q => ?_)
    · have em : mtL n g (c :: w) j = 1 + mtL n g w (j + 1) := mt_ge1 q q2
      refine nd_ok w (I0 := I0) (j := j + 1) (hX.rs (RS.rf.fld (Or.inl rfl) _)) ⟨up2_same, by rw [up2_nej (by decide)]; exact ho.2⟩ (by omega) (hR.fld (Or.inl rfl) _) (by rw [up2_nej (by decide)]; exact h14) (by rw [up2_ne (by decide)]; exact h194) (fun d hd => hc d (List.mem_cons_of_mem _ hd)) (fun z I' a b c d => ?_) (fun z I' a b c d => ?_)
      · refine h1 (by rw [em, z]; simp only [List.length_cons]; omega) I' a ?_ c d
        simp only [List.length_cons]
        rw [show j + (w.length + 1) = j + 1 + w.length by omega]; exact b
      · refine h0 (by rw [em]; simp only [List.length_cons]; omega) I' a ?_ c d
        rw [em, show j + (1 + mtL n g w (j + 1)) = j + 1 + mtL n g w (j + 1) by omega]; exact b
    · have em : mtL n g (c :: w) j = 0 := by rw [mtL, if_neg q]
      refine nd_err w (e := j) up2_same (by omega) ?_
      refine h0 (by rw [em]; simp only [List.length_cons]; omega) _ (hR.fld (Or.inr (Or.inl rfl)) _) ?_ (by rw [up2_nej (by decide)]; exact h14) (by rw [up2_ne (by decide)]; exact h194)
      rw [em]; exact up2_same
/-- the rest of the word, behind its first letter -/
theorem r_word {K : Int32 → IT → Prop} {j v : Nat} (hX : RX I n g) (hg : ∀ j, n ≤ j → g j = 0) (hj : j < n) (ho : rOk I (j + 1)) (hv : v = chN (g j) (g (j + 1))) (hv13 : v < 13) (h1 : mtL n g (wdN v) j = (wdN v).length → ∀ I', RS I I' → rOk I' (j + (wdN v).length) → I' 190 14 = I 190 14 → I' 194 = I 194 → K (nI (ltN v)) I') (h0 : mtL n g (wdN v) j ≠ (wdN v).length → ∀ I', RS I I' → rEr I' (j + mtL n g (wdN v) j) → I' 190 14 = I 190 14 → I' 194 = I 194 → K (nI (ltN v)) I') : f_X9_word (nI (g j)) I K := by
  have hh := ch_head (a := g j) (b := g (j + 1)) (by omega)
  rw [← hv] at hh
  -- the chain of a word's letters
  have go : ∀ c w, wdN v = c :: w → ndC w I (fun I' => K (nI (ltN v)) I') := by
    intro c w hw
    have hc : g j = c := by rw [hh, hw]; rfl
    have em : mtL n g (wdN v) j = 1 + mtL n g w (j + 1) := by rw [hw]; exact mt_ge1 hj hc
    have hl : (wdN v).length = w.length + 1 := by rw [hw]; rfl
    refine nd_ok w (I0 := I) (j := j + 1) hX ho (by omega) RS.rf rfl rfl (fun d hd => wd_lt ⟨v, hv13⟩ d (by dsimp only; rw [hw]; exact List.mem_cons_of_mem _ hd)) (fun z I' a b c2 d => ?_) (fun z I' a b c2 d => ?_)
    · refine h1 (by omega) I' a ?_ c2 d
      rw [hl, show j + (w.length + 1) = j + 1 + w.length by omega]; exact b
    · refine h0 (by omega) I' a ?_ c2 d
      rw [em, show j + (1 + mtL n g w (j + 1)) = j + 1 + mtL n g w (j + 1) by omega]; exact b
  have sg := fun c hc => sg_eq (n := n) (g := g) (j := j + 1) (c := c) hX.2.2.2 hc
  have two : ∀ c, c ≠ 0 → (g (j + 1) = c ↔ (j + 1 < n ∧ g (j + 1) = c)) := fun c hc => ⟨fun z => ⟨by
    by_cases y : j + 1 < n
    · exact y
    · exact absurd (z.symm.trans (hg (j + 1) (by omega))) hc, z⟩, fun z => z.2⟩
  have hgj := hX.2.2.2 j
  generalize hgx : g j = x at *
  generalize hgy : g (j + 1) = y at *
  clear hgj
  rcases (show v = 0 ∨ v = 1 ∨ v = 2 ∨ v = 3 ∨ v = 4 ∨ v = 5 ∨ v = 6 ∨ v = 7 ∨ v = 8 ∨ v = 9 ∨ v = 10 ∨ v = 11 ∨ v = 12 by omega) with rfl | rfl | rfl | rfl | rfl | rfl | rfl | rfl | rfl | rfl | rfl | rfl | rfl
  · have hx : x = 107 := hh
    rw [hx]
    unfold f_X9_word
    iterate 10 rw [if_neg (by decide)]
    rw [if_pos rfl]
    exact go 107 [101, 116, 116, 108, 101] rfl
  · have hx : x = 102 := hh
    rw [hx]
    unfold f_X9_word
    iterate 5 rw [if_neg (by decide)]
    rw [if_pos rfl]
    exact go 102 [105, 108, 108] rfl
  · have hx : x = 98 := hh
    rw [hx]
    unfold f_X9_word
    rw [if_neg (by decide), if_pos rfl]
    exact go 98 [117, 114, 110, 101, 114] rfl
  · have hx : x = 111 := hh
    rw [hx]
    unfold f_X9_word
    iterate 14 rw [if_neg (by decide)]
    rw [if_pos rfl]
    exact go 111 [114, 100, 101, 114] rfl
  · have hx : x = 99 := hh
    rw [hx] at hv ⊢
    have hv : 4 = if y = 108 then 12 else if y = 117 then 9 else 4 := hv
    have y1 : y ≠ 108 := fun z => by rw [if_pos z] at hv; omega
    have y2 : y ≠ 117 := fun z => by rw [if_neg y1, if_pos z] at hv; omega
    unfold f_X9_word f_X9_word_b317
    rw [if_neg (by decide), if_neg (by decide), if_pos rfl]
    refine r_sign hX ho.1 (by omega) ?_
    rw [if_neg (by rw [sg 108 (by decide)]; exact fun z => y1 (hgy ▸ z.2))]
    refine r_sign hX ho.1 (by omega) ?_
    rw [if_neg (by rw [sg 117 (by decide)]; exact fun z => y2 (hgy ▸ z.2))]
    exact go 99 [97, 110, 99, 101, 108] rfl
  · have hx : x = 115 := hh
    rw [hx] at hv ⊢
    have hv : 5 = if y = 116 then 7 else 5 := hv
    have y1 : y ≠ 116 := fun z => by rw [if_pos z] at hv; omega
    unfold f_X9_word
    iterate 18 rw [if_neg (by decide)]
    rw [if_pos rfl]
    refine r_sign hX ho.1 (by omega) ?_
    rw [if_neg (by rw [sg 116 (by decide)]; exact fun z => y1 (hgy ▸ z.2))]
    exact go 115 [101, 114, 118, 101] rfl
  · have hx : x = 119 := hh
    rw [hx]
    unfold f_X9_word
    iterate 22 rw [if_neg (by decide)]
    rw [if_pos rfl]
    exact go 119 [97, 115, 104] rfl
  · have hx : x = 115 := hh
    rw [hx] at hv ⊢
    have hv : 7 = if y = 116 then 7 else 5 := hv
    have y1 : y = 116 := by
      by_cases z : y = 116
      · exact z
      · rw [if_neg z] at hv; omega
    unfold f_X9_word
    iterate 18 rw [if_neg (by decide)]
    rw [if_pos rfl]
    refine r_sign hX ho.1 (by omega) ?_
    rw [if_pos (by rw [sg 116 (by decide)]; exact (two 116 (by decide)).mp y1)]
    exact go 115 [116, 101, 97, 109] rfl
  · have hx : x = 109 := hh
    rw [hx]
    unfold f_X9_word
    iterate 12 rw [if_neg (by decide)]
    rw [if_pos rfl]
    exact go 109 [105, 110, 117, 116, 101, 115] rfl
  · have hx : x = 99 := hh
    rw [hx] at hv ⊢
    have hv : 9 = if y = 108 then 12 else if y = 117 then 9 else 4 := hv
    have y1 : y ≠ 108 := fun z => by rw [if_pos z] at hv; omega
    have y2 : y = 117 := by
      by_cases z : y = 117
      · exact z
      · rw [if_neg y1, if_neg z] at hv; omega
    unfold f_X9_word f_X9_word_b317
    rw [if_neg (by decide), if_neg (by decide), if_pos rfl]
    refine r_sign hX ho.1 (by omega) ?_
    rw [if_neg (by rw [sg 108 (by decide)]; exact fun z => y1 (hgy ▸ z.2))]
    refine r_sign hX ho.1 (by omega) ?_
    rw [if_pos (by rw [sg 117 (by decide)]; exact (two 117 (by decide)).mp y2)]
    exact go 99 [117, 112] rfl
  · have hx : x = 108 := hh
    rw [hx]
    unfold f_X9_word
    iterate 11 rw [if_neg (by decide)]
    rw [if_pos rfl]
    exact go 108 [105, 116, 114, 101] rfl
  · have hx : x = 97 := hh
    rw [hx]
    unfold f_X9_word
    rw [if_pos rfl]
    exact go 97 [116, 116, 101, 110, 100] rfl
  · have hx : x = 99 := hh
    rw [hx] at hv ⊢
    have hv : 12 = if y = 108 then 12 else if y = 117 then 9 else 4 := hv
    have y1 : y = 108 := by
      by_cases z : y = 108
      · exact z
      · rw [if_neg z] at hv
        split at hv <;> omega
    unfold f_X9_word f_X9_word_b317
    rw [if_neg (by decide), if_neg (by decide), if_pos rfl]
    refine r_sign hX ho.1 (by omega) ?_
    rw [if_pos (by rw [sg 108 (by decide)]; exact (two 108 (by decide)).mp y1)]
    exact go 99 [108, 111, 115, 101] rfl
end R
