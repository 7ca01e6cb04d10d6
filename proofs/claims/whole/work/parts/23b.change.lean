theorem unl_le (p q : Prop) [Decidable p] [Decidable q] : unlN p q ≤ 3 := by unfold unlN; split <;> (try split) <;> omega
theorem ref_le (v : Nat) (H : HS) (x y z u : Int) : refN v H x y z u ≤ 4 := by
  have one : ∀ (c : Prop) [Decidable c] (a b : Nat), a ≤ 4 → b ≤ 4 → (if c then a else b) ≤ 4 := fun c _ a b ha hb => by
    by_cases q : c
    · rw [if_pos q]; exact ha
    · rw [if_neg q]; exact hb
  have un : ∀ (p q : Prop) [Decidable p] [Decidable q], unlN p q ≤ 4 := fun p q _ _ => Nat.le_trans (unl_le p q) (by decide)
  unfold refN
  repeat' (first | exact un _ _ | exact Nat.zero_le _ | decide | refine one _ _ _ ?_ ?_)
section M
variable {I : IT}
theorem m_endsNo {K : Int32 → IT → Prop} {T : TS} {t : Nat} (w : WT t T) {I1 : IT} (hM : MR I T) (h10 : ∀ j, j < 103 → I1 191 (1030 + j) = I 191 j) (hr : ∀ q, 103 ≤ q → (q < 1030 ∨ 1133 ≤ q) → I1 191 q = I 191 q) (hm : Md2 I I1) (h2 : I1 190 2 = I 190 2) {a b c d r : Nat} (hr4 : r ≤ 4) (hr0 : r ≠ 0) (hc : codeN a b c d r ≠ 0 ∧ codeN a b c d r < 100) (k : ∀ I', MR I' T → Md2 I I' → I' 190 0 = nI (codeN a b c d r) → K (nI 0) I') : f_X9_ends (nI r) (nI a) (nI b) (nI c) (nI d) I1 K := by
  have fin : ∀ s : Nat, s = codeN a b c d r → f_X9_ends_b40 (nI r) (nI a) (nI b) (nI c) (nI d) K (nI s) I1 := by
    intro s hs
    unfold f_X9_ends_b40
    rw [wr_p, up2_same]
    have hz := n_eq0 (a := s) (by omega)
    simp only [hz]
    rw [if_neg (by omega)]
    refine m_copies (a := 10) (b := 0) (by decide) (by decide) (by decide) fun I' d1 d2 d3 => ?_
    have d1' : I' 190 = (up2 I1 190 0 (nI s)) 190 := d1 190 (by decide)
    have e191 : ∀ q, (up2 I1 190 0 (nI s)) 191 q = I1 191 q := fun q => up2_nea (by decide)
    have hmd : Md2 I1 I' := ⟨fun q x y => by rw [d1 q y, up2_ne x], fun j x y z => by rw [d1', up2_nej x]⟩
    refine k I' (hM.of (hm.tr hmd) ?_ ?_ (fun i hi => ?_) (fun S hS h9 => ?_) rfl rfl rfl rfl rfl) (hm.tr hmd) (by rw [d1', up2_same, hs])
    · refine hM.1.ext w.1.1 fun j hj => ?_
      have := d2 j hj
      rw [show 103 * 0 + j = j by omega, e191] at this
      rw [this]; exact h10 j hj
    · rw [d1', up2_nej (by decide), h2]; exact hM.2.1
    · have hpc := w.2.1
      refine (hM.2.2.1 i hi).ext (w.2.2.1 i hi).1 fun j hj => ?_
      unfold row
      rw [d3 _ (by omega), e191]; exact hr _ (by omega) (by omega)
    · refine h9.ext (w.2.2.2.1 S hS).1 fun j hj => ?_
      unfold row
      rw [d3 _ (by omega), e191]; exact hr _ (by omega) (by omega)
  unfold f_X9_ends
  rcases (show r = 1 ∨ r = 2 ∨ r = 3 ∨ r = 4 by omega) with rfl | rfl | rfl | rfl
  · rw [if_pos rfl]; exact fin a rfl
  · rw [if_neg (by decide), if_pos rfl]; exact fin b rfl
  · rw [if_neg (by decide), if_neg (by decide), if_pos rfl]; exact fin c rfl
  · rw [if_neg (by decide), if_neg (by decide), if_neg (by decide), if_pos rfl]; exact fin d rfl
theorem m_change {V : IT → (Int32 → IT → Prop) → Prop} {K : Int32 → IT → Prop} {T : TS} {t v : Nat} {x y z u : Int32} (w : WT t T) (hM : MR I T) (hV : ∀ I1 K1, HM (I1 191) T.h → MK I1 T.h v x y z u K1 → V I1 K1) (wn : refN v T.h x.toInt y.toInt z.toInt u.toInt = 0 → HW (nxtN v T.h (ix x) (ix y) (ix z) (ix u))) {a b c d : Nat} (hc : ∀ r, refN v T.h x.toInt y.toInt z.toInt u.toInt = r → r ≠ 0 → codeN a b c d r ≠ 0 ∧ codeN a b c d r < 100) (k1 : refN v T.h x.toInt y.toInt z.toInt u.toInt = 0 → ∀ I', MR I' (T.push (nxtN v T.h (ix x) (ix y) (ix z) (ix u))) → Md2 I I' → I' 190 0 = nI 0 → K (nI (resN v T.h (ix x) (ix y) (ix z) (ix u))) I') (k2 : refN v T.h x.toInt y.toInt z.toInt u.toInt ≠ 0 → ∀ I', MR I' T → Md2 I I' → I' 190 0 = nI (codeN a b c d (refN v T.h x.toInt y.toInt z.toInt u.toInt)) → K (nI 0) I') : f_X9_begins I (fun I1 => V I1 (fun x2 I3 => f_X9_ends x2 (nI a) (nI b) (nI c) (nI d) I3 K)) := by
  refine m_begins fun I1 a1 a2 a3 => ?_
  have hm1 : Md2 I I1 := ⟨fun q _ hq => a1 q hq, fun j _ _ _ => by rw [a1 190 (by decide)]⟩
  have h190 : I1 190 = I 190 := a1 190 (by decide)
  have h0 : HM (I1 191) T.h := hM.1.ext w.1.1 fun j hj => a3 j (by omega)
  refine hV I1 _ h0 ⟨fun q => ?_, fun q I3 b1 b2 b3 => ?_⟩
  · exact m_endsNo w hM a2 (fun p _ hp => a3 p hp) hm1 (by rw [h190]) (ref_le _ _ _ _ _ _) q (hc _ rfl q) (k2 q)
  · have hm3 : Md2 I I3 := hm1.tr ⟨fun p x y => b1.1 p x y, fun j _ _ h4 => b1.2.2 j h4⟩
    refine m_endsOk w (wn q) hM b2 (fun j hj => by rw [b1.2.1 _ (by omega)]; exact a2 j hj) (fun p hp1 hp2 => by rw [b1.2.1 p hp1]; exact a3 p hp2) hm3 (by rw [b1.2.2 2 (by decide), h190]) _ _ _ _ fun I' c1 c2 c3 c4 => ?_
    rw [c4, b3]
    exact k1 q I' c1 c2 c3
end M
