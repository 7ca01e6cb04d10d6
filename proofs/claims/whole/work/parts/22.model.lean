/-! ===== the reference's row over the state ===== -/
def KM (r : Nat → Int32) (S : KS) : Prop := r 1 = nI (kc S) ∧ ∀ k, k < kc S → r (33 + 5 * k) = nI (kcap S k) ∧ r (33 + 5 * k + 1) = nI (kvol S k) ∧ r (33 + 5 * k + 2) = nI (ktmp S k) ∧ r (33 + 5 * k + 3) = nI (klev S k) ∧ r (33 + 5 * k + 4) = nI (kboi S k)
def OM (r : Nat → Int32) (S : OS) : Prop := r 2 = nI (oc S) ∧ r 3 = nI (onx S) ∧ ∃ T, OT T S ∧ ∀ i, i < oc S → ∀ f, f < 5 → r (53 + 5 * i + f) = nI (T f i)
def LM (r : Nat → Int32) (S : GS) : Prop := r 12 = nI (lpr S) ∧ r 13 = nI (lc S) ∧ r 17 = nI (lcu S) ∧ r 18 = nI (lst S) ∧ ∀ j, j < lc S → r (19 + j) = nI (lin S j)
def SM (r : Nat → Int32) (s : Nat → Nat) : Prop := r 4 = nI (20 - s 3) ∧ r 5 = nI (s 4) ∧ r 6 = nI (s 5) ∧ r 7 = nI (s 6) ∧ r 8 = nI (s 7) ∧ r 9 = nI (s 8) ∧ r 10 = nI (s 9) ∧ r 11 = nI (s 10) ∧ r 14 = nI (s 11) ∧ r 15 = nI (s 12) ∧ r 16 = nI (s 13)
def HM (r : Nat → Int32) (H : HS) : Prop := KM r H.k ∧ OM r H.o ∧ LM r H.l ∧ SM r H.s
def HW (H : HS) : Prop := KW H.k ∧ OW H.o ∧ LW H.l
theorem HR.w {I : IT} {a : Nat} {H : HS} (h : HR I a H) : HW H := ⟨h.1.1, h.2.1.1, h.2.2.1.1⟩
theorem KM.same {r r' : Nat → Int32} {S : KS} (h : KM r S) (w : KW S) (e1 : r' 1 = r 1) (e2 : ∀ j, 33 ≤ j → j < 53 → r' j = r j) : KM r' S := by
  have w1 := w.1
  refine ⟨by rw [e1]; exact h.1, fun k hk => ?_⟩
  rw [e2 _ (by omega) (by omega), e2 _ (by omega) (by omega), e2 _ (by omega) (by omega), e2 _ (by omega) (by omega), e2 _ (by omega) (by omega)]
  exact h.2 k hk
theorem OM.same {r r' : Nat → Int32} {S : OS} (h : OM r S) (w : OW S) (e1 : r' 2 = r 2) (e3 : r' 3 = r 3) (e2 : ∀ j, 53 ≤ j → j < 103 → r' j = r j) : OM r' S := by
  have w1 := w.1
  obtain ⟨h1, h2, T, h3, h4⟩ := h
  refine ⟨by rw [e1]; exact h1, by rw [e3]; exact h2, T, h3, fun i hi f hf => ?_⟩
  rw [e2 _ (by omega) (by omega)]; exact h4 i hi f hf
theorem LM.same {r r' : Nat → Int32} {S : GS} (h : LM r S) (w : LW S) (e1 : r' 12 = r 12) (e2 : ∀ j, 17 ≤ j → j < 33 → r' j = r j) (e3 : r' 13 = r 13) : LM r' S := by
  have w1 := w.1
  obtain ⟨h1, h2, h3, h4, h5⟩ := h
  refine ⟨by rw [e1]; exact h1, by rw [e3]; exact h2, by rw [e2 _ (by omega) (by omega)]; exact h3, by rw [e2 _ (by omega) (by omega)]; exact h4, fun j hj => ?_⟩
  rw [e2 _ (by omega) (by omega)]; exact h5 j hj
theorem SM.same {r r' : Nat → Int32} {s : Nat → Nat} (h : SM r s) (e1 : ∀ j, 4 ≤ j → j < 12 → r' j = r j) (e2 : ∀ j, 14 ≤ j → j < 17 → r' j = r j) : SM r' s := by
  unfold SM
  rw [e1 4 (by omega) (by omega), e1 5 (by omega) (by omega), e1 6 (by omega) (by omega), e1 7 (by omega) (by omega), e1 8 (by omega) (by omega), e1 9 (by omega) (by omega), e1 10 (by omega) (by omega), e1 11 (by omega) (by omega), e2 14 (by omega) (by omega), e2 15 (by omega) (by omega), e2 16 (by omega) (by omega)]
  exact h
/-- what the verbs of the reference leave alone -/
def Mod (I I' : IT) : Prop := (∀ q, q ≠ 190 → q ≠ 191 → I' q = I q) ∧ (∀ j, 103 ≤ j → I' 191 j = I 191 j) ∧ ∀ j, j ≠ 4 → I' 190 j = I 190 j
theorem Mod.rf {I : IT} : Mod I I := ⟨fun _ _ _ => rfl, fun _ _ => rfl, fun _ _ => rfl⟩
theorem Mod.tr {I I' I2 : IT} (h : Mod I I') (h' : Mod I' I2) : Mod I I2 := ⟨fun q a b => (h'.1 q a b).trans (h.1 q a b), fun j a => (h'.2.1 j a).trans (h.2.1 j a), fun j a => (h'.2.2 j a).trans (h.2.2 j a)⟩
theorem Mod.r {I I' : IT} (h : Mod I I') {j : Nat} (hj : j < 103) (v : Int32) : Mod I (up2 I' 191 j v) := ⟨fun q a b => by rw [up2_ne b]; exact h.1 q a b, fun k a => by rw [up2_nej (by omega)]; exact h.2.1 k a, fun k a => by rw [up2_nea (by decide)]; exact h.2.2 k a⟩
theorem Mod.s {I I' : IT} (h : Mod I I') (v : Int32) : Mod I (up2 I' 190 4 v) := ⟨fun q a b => by rw [up2_ne a]; exact h.1 q a b, fun k a => by rw [up2_nea (by decide)]; exact h.2.1 k a, fun k a => by rw [up2_nej a]; exact h.2.2 k a⟩
/-- what a verb does: v of H, refused or not -/
def MK (I : IT) (H : HS) (v : Nat) (x y z u : Int32) (K : Int32 → IT → Prop) : Prop :=
  (refN v H x.toInt y.toInt z.toInt u.toInt ≠ 0 → K (nI (refN v H x.toInt y.toInt z.toInt u.toInt)) I) ∧
  (refN v H x.toInt y.toInt z.toInt u.toInt = 0 → ∀ I', Mod I I' → HM (I' 191) (nxtN v H (ix x) (ix y) (ix z) (ix u)) → I' 190 4 = nI (resN v H (ix x) (ix y) (ix z) (ix u)) → K (nI 0) I')
section M
variable {I : IT} {H : HS}
theorem m_in {K : Int32 → Prop} {x : Int32} {lo hi : Nat} (hlo : lo < 2147483648) (hhi : hi < 2147483648) (h : K (zb ((lo : Int) ≤ x.toInt ∧ x.toInt ≤ hi))) : f_X9_in x (nI lo) (nI hi) I K := by
  unfold f_X9_in
  simp (disch := omega) only [xn_lt, nx_lt]
  repeat' split
  all_goals first | (rw [zb_t (by omega)] at h; exact h) | (rw [zb_f (by omega)] at h; exact h)
theorem m_in2 {K : Int32 → Prop} {x : Int32} {n : Nat} (hn : n < 2147483648) (h : K (zb (0 ≤ x.toInt ∧ x.toInt < n))) : f_X9_in x (nI 0) (nI n - nI 1) I K := by
  by_cases e : n = 0
  · subst e
    have em : nI 0 - nI 1 = (-1 : Int32) := rfl
    rw [em]
    unfold f_X9_in
    rw [zb_f (by omega)] at h
    have z0 : (nI 0).toInt = 0 := rfl
    simp (disch := omega) only [i32_lt, i32_m1, z0]
    repeat' split
    · exact h
    · exact h
    · omega
  · rw [n_sub (by omega)]
    refine m_in (by decide) (by omega) ?_
    by_cases q : 0 ≤ x.toInt ∧ x.toInt < n
    · rw [zb_t q] at h; rw [zb_t (by omega)]; exact h
    · rw [zb_f q] at h; rw [zb_f (by omega)]; exact h
theorem m_k {K : Int32 → Prop} {k c : Nat} (hk : k < 100) (hc : c < 5) (h : K (I 191 (33 + 5 * k + c))) : f_X9_k (nI k) (nI c) I K := by
  unfold f_X9_k
  simp (disch := omega) only [pk_mul, nI_add, inr_n, ix_n]
  exact ⟨by omega, h⟩
theorem m_set {K : IT → Prop} {k c : Nat} {v : Int32} (hk : k < 100) (hc : c < 5) (h : K (up2 I 191 (33 + 5 * k + c) v)) : f_X9_set (nI k) (nI c) v I K := by
  unfold f_X9_set
  simp (disch := omega) only [pk_mul, nI_add, inr_n, ix_n, wr_p]
  exact ⟨by omega, h⟩
theorem m_o {K : Int32 → Prop} {k c : Nat} (hk : k < 100) (hc : c < 5) (h : K (I 191 (53 + 5 * k + c))) : f_X9_o (nI k) (nI c) I K := by
  unfold f_X9_o
  simp (disch := omega) only [pk_mul, nI_add, inr_n, ix_n]
  exact ⟨by omega, h⟩
theorem m_isKettle {K : Int32 → Prop} (hM : HM (I 191) H) (w : HW H) (x : Int32) (h : K (zb (0 ≤ x.toInt ∧ x.toInt < kc H.k))) : f_X9_isKettle x I K := by
  unfold f_X9_isKettle
  rw [hM.1.1]
  have := w.1.1
  exact m_in2 (by omega) h
theorem MK.no {v : Nat} {x y z u : Int32} {K : Int32 → IT → Prop} (h : MK I H v x y z u K) {c : Nat} (e : refN v H x.toInt y.toInt z.toInt u.toInt = c) (hc : c ≠ 0) : K (nI c) I := by
  have := h.1 (by rw [e]; exact hc)
  rw [e] at this; exact this
theorem m_adds {K : Int32 → IT → Prop} (hM : HM (I 191) H) (w : HW H) (x y z u : Int32) (h : MK I H 0 x y z u K) : f_X9_adds x I K := by
  have kw1 := w.1.1
  have e0 : refN 0 H x.toInt y.toInt z.toInt u.toInt = unlN (2 ≤ x.toInt ∧ x.toInt ≤ 16) (kc H.k < 4) := rfl
  have hk1 : I 191 1 = nI (kc H.k) := hM.1.1
  unfold f_X9_adds
  refine m_in (by decide) (by decide) ?_
  simp only [zb_eq0]
  split
  · next q => exact h.no (by rw [e0]; exact unl_f (fun r => q ⟨by omega, by omega⟩)) (by decide)
  · next q =>
    have q' : 2 ≤ x.toInt ∧ x.toInt ≤ 16 := by omega
    rw [hk1]
    simp (disch := omega) only [n_eqP]
    split
    · next r => exact h.no (by rw [e0, unl_t q', if_pos (by omega)]) (by decide)
    · next r =>
      obtain ⟨x1, x2, x3⟩ := x_ix (x := x) (by omega)
      rw [wr_p, wr_p]
      rw [show (up2 I 190 4 (nI (kc H.k))) 191 1 = nI (kc H.k) by rw [up2_nea (by decide)]; exact hk1, nI_add]
      have loop : ∀ n j I', j ≤ 5 → 5 - j < n → Mod I I' → I' 190 4 = nI (kc H.k) → I' 191 1 = nI (kc H.k + 1) → (∀ c, c < j → I' 191 (33 + 5 * kc H.k + c) = nI 0) → (∀ q, q ≠ 1 → (q < 33 + 5 * kc H.k ∨ 33 + 5 * kc H.k + 5 ≤ q) → I' 191 q = I 191 q) → f_X9_adds_b46 x K n (nI j) I' := by
        intro n
        induction n with
        | zero => intro j _ _ hn; omega
        | succ n ih =>
          intro j I' hj hn hm h4 h1 hc hq
          rw [f_X9_adds_b46, h4]
          simp (disch := omega) only [n_leP]
          by_cases e : j = 5
          · rw [if_pos (by omega)]
            refine m_set (by omega) (by omega) ?_
            rw [show (up2 I' 191 (33 + 5 * kc H.k + 0) (nI 2 * x)) 190 4 = nI (kc H.k) by rw [up2_nea (by decide)]; exact h4]
            refine m_set (by omega) (by omega) ?_
            have hx : nI 2 * x = nI (2 * ix x) := by rw [x1, pk_mul, ix_n x3]
            rw [hx]
            refine h.2 (by rw [e0, unl_t q', if_neg (by omega)]) _ ((hm.r (by omega) _).r (by omega) _) ?_ ?_
            · refine ⟨⟨?_, fun k hk => ?_⟩, hM.2.1.same w.2.1 ?_ ?_ (fun q a b => ?_), hM.2.2.1.same w.2.2 ?_ (fun q a b => ?_) ?_, hM.2.2.2.same (fun q a b => ?_) (fun q a b => ?_)⟩
              · rw [up2_nej (by omega), up2_nej (by omega)]; exact h1
              · have hk : k < kc H.k + 1 := hk
                show _ = nI (setN (kcap H.k) (kc H.k) (2 * ix x) k) ∧ _ = nI (setN (kvol H.k) (kc H.k) 0 k) ∧ _ = nI (setN (ktmp H.k) (kc H.k) 40 k) ∧ _ = nI (setN (klev H.k) (kc H.k) 0 k) ∧ _ = nI (setN (kboi H.k) (kc H.k) 0 k)
                by_cases e3 : k = kc H.k
                · subst e3
                  simp only [setN_at]
                  refine ⟨?_, ?_, ?_, ?_, ?_⟩
                  · rw [up2_nej (by omega)]; exact up2_same
                  · rw [up2_nej (by omega), up2_nej (by omega)]; exact hc 1 (by omega)
                  · rw [up2_same]
                  · rw [up2_nej (by omega), up2_nej (by omega)]; exact hc 3 (by omega)
                  · rw [up2_nej (by omega), up2_nej (by omega)]; exact hc 4 (by omega)
                · simp only [setN_ne e3]
                  have := hM.1.2 k (by omega)
                  refine ⟨?_, ?_, ?_, ?_, ?_⟩ <;> rw [up2_nej (by omega), up2_nej (by omega), hq _ (by omega) (by omega)]
                  · exact this.1
                  · exact this.2.1
                  · exact this.2.2.1
                  · exact this.2.2.2.1
                  · exact this.2.2.2.2
              all_goals (rw [up2_nej (by omega), up2_nej (by omega)]; exact hq _ (by omega) (by omega))
            · rw [up2_nea (by decide), up2_nea (by decide)]; exact h4
          · rw [if_neg (by omega)]
            refine m_set (by omega) (by omega) ?_
            rw [bnd_p, nI_add]
            refine ih (j + 1) _ (by omega) (by omega) (hm.r (by omega) _) (by rw [up2_nea (by decide)]; exact h4) (by rw [up2_nej (by omega)]; exact h1) (fun c hc2 => ?_) (fun q a b => ?_)
            · by_cases e4 : c = j
              · subst e4; rw [up2_same]
              · rw [up2_nej (by omega)]; exact hc c (by omega)
            · rw [up2_nej (by omega)]; exact hq q a b
      refine loop 4096 0 _ (by omega) (by omega) ((Mod.rf.s _).r (by omega) _) ?_ ?_ (fun c hc => by omega) (fun q a b => ?_)
      · rw [up2_nea (by decide), up2_same]
      · rw [up2_same]
      · rw [up2_nej a, up2_nea (by decide)]
end M
