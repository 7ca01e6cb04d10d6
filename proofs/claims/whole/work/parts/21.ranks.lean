/-! ===== the orders as they came, and by their ranks ===== -/
abbrev aheadO (T : Nat → Nat → Nat) (i j : Nat) : Prop := T 4 j < T 4 i ∨ (T 4 i = T 4 j ∧ T 0 i < T 0 j)
def rnkO (T : Nat → Nat → Nat) (n i : Nat) : Nat := cntN (fun o => aheadO T o i) n
def OT (T : Nat → Nat → Nat) (S : OS) : Prop := (∀ i j, i < j → j < oc S → T 0 i < T 0 j) ∧ ∀ i, i < oc S → ∀ f, f < 5 → oF S f (rnkO T (oc S) i) = T f i
theorem aheadO_irr (T : Nat → Nat → Nat) (i : Nat) : ¬ aheadO T i i := by unfold aheadO; omega
theorem aheadO_tr (T : Nat → Nat → Nat) (i j k : Nat) : aheadO T i j → aheadO T j k → aheadO T i k := by unfold aheadO; omega
section R
variable {T : Nat → Nat → Nat} {S : OS}
theorem OT.ne (h : OT T S) {i j : Nat} (hi : i < oc S) (hj : j < oc S) (e : i ≠ j) : T 0 i ≠ T 0 j := by
  rcases Nat.lt_or_gt_of_ne e with q | q
  · have := h.1 i j q hj; omega
  · have := h.1 j i q hi; omega
theorem OT.tot (h : OT T S) : ∀ i j, i < oc S → j < oc S → i ≠ j → aheadO T i j ∨ aheadO T j i := by
  intro i j hi hj e
  have := h.ne hi hj e
  unfold aheadO; omega
theorem OT.lt (_ : OT T S) {i : Nat} (hi : i < oc S) : rnkO T (oc S) i < oc S := rk_lt (lt := aheadO T) (aheadO_irr T) hi
theorem OT.inj (h : OT T S) {i j : Nat} (hi : i < oc S) (hj : j < oc S) (e : rnkO T (oc S) i = rnkO T (oc S) j) : i = j := rk_inj (lt := aheadO T) (aheadO_irr T) (aheadO_tr T) h.tot hi hj e
theorem OT.onto (h : OT T S) {r : Nat} (hr : r < oc S) : ∃ i, i < oc S ∧ rnkO T (oc S) i = r := rk_onto (lt := aheadO T) (aheadO_irr T) (aheadO_tr T) h.tot hr
theorem OT.num (h : OT T S) (w : OW S) {i : Nat} (hi : i < oc S) : T 0 i < onx S := by
  rw [← h.2 i hi 0 (by omega)]; exact (w.2.2.1 _ (h.lt hi)).1
theorem OT.bd (h : OT T S) (w : OW S) {i : Nat} (hi : i < oc S) : T 0 i < onx S ∧ T 1 i ≤ 9 ∧ 1 ≤ T 2 i ∧ T 2 i ≤ 6 ∧ 60 ≤ T 3 i ∧ T 3 i ≤ 100 ∧ 1 ≤ T 4 i ∧ T 4 i ≤ 9 := by
  have := w.2.2.1 _ (h.lt hi)
  rw [h.2 i hi 0 (by omega), h.2 i hi 1 (by omega), h.2 i hi 2 (by omega), h.2 i hi 3 (by omega), h.2 i hi 4 (by omega)] at this
  exact this
/-- found among them as they came -/
def fndT (T : Nat → Nat → Nat) (n : Nat) (x : Int) : Option Nat := firstN (fun i => (T 0 i : Int) = x) n
def rkdT (T : Nat → Nat → Nat) (n : Nat) (x : Int) : Option Nat := firstN (fun i => (rnkO T n i : Int) = x) n
theorem OT.find (h : OT T S) (w : OW S) (x : Int) : findO S x = (fndT T (oc S) x).map (rnkO T (oc S)) := by
  cases e : fndT T (oc S) x with
  | none =>
    have hn := firstN_no e
    refine firstN_none fun p hp q => ?_
    obtain ⟨i, hi, hr⟩ := h.onto hp
    have := h.2 i hi 0 (by omega)
    rw [hr] at this
    exact hn i hi (by omega)
  | some i =>
    obtain ⟨hi, hx, -⟩ := firstN_some e
    have e2 := h.2 i hi 0 (by omega)
    rw [← hx, ← e2]
    exact findO_at w (h.lt hi)
theorem OT.at (h : OT T S) (x : Int) : numO S x = (rkdT T (oc S) x).map (T 0) := by
  unfold numO
  by_cases hx : 0 ≤ x ∧ x < oc S
  · rw [if_pos hx]
    obtain ⟨i, hi, hr⟩ := h.onto (r := x.toNat) (by omega)
    have e : rkdT T (oc S) x = some i := firstN_hit hi (by omega) fun j hj q => by
      have := h.inj (i := j) (j := i) (by omega) hi (by omega)
      omega
    rw [e]
    have := h.2 i hi 0 (by omega)
    rw [hr] at this
    rw [this]; rfl
  · rw [if_neg hx]
    have e : rkdT T (oc S) x = none := firstN_none fun j hj q => by
      have := h.lt hj
      omega
    rw [e]; rfl
theorem OT.first (h : OT T S) (h0 : 0 < oc S) : ∃ i, rkdT T (oc S) 0 = some i ∧ i < oc S ∧ rnkO T (oc S) i = 0 ∧ ∀ f, f < 5 → oF S f 0 = T f i := by
  obtain ⟨i, hi, hr⟩ := h.onto h0
  refine ⟨i, firstN_hit hi (by omega) fun j hj q => ?_, hi, hr, fun f hf => ?_⟩
  · have := h.inj (i := j) (j := i) (by omega) hi (by omega)
    omega
  · have := h.2 i hi f hf
    rw [hr] at this; exact this
def addT (T : Nat → Nat → Nat) (n nx t c m p : Nat) : Nat → Nat → Nat := fun f i => if i = n then (if f = 0 then nx else if f = 1 then t else if f = 2 then c else if f = 3 then m else p) else T f i
theorem OT.add (h : OT T S) (w : OW S) (t c m p : Nat) : OT (addT T (oc S) (onx S) t c m p) (addO S t c m p) := by
  have w4 := w.2.2.2.1
  have hle := insP_le (oF S 4) p (oc S)
  have hlo := fun k => insP_lo (f := oF S 4) (pr := p) (n := oc S) (k := k)
  have hhi : ∀ q, q < insP (oF S 4) p (oc S) → p ≤ oF S 4 q := by
    intro q hq
    have a := insP_hi (f := oF S 4) (pr := p) (n := oc S) (by omega)
    by_cases e : q = insP (oF S 4) p (oc S) - 1
    · rw [e]; exact a
    · have := w4 q (insP (oF S 4) p (oc S) - 1) (by omega) (by omega); omega
  have hF : ∀ f q, oF (addO S t c m p) f q = if q < insP (oF S 4) p (oc S) then oF S f q else if q = insP (oF S 4) p (oc S) then (if f = 0 then onx S else if f = 1 then t else if f = 2 then c else if f = 3 then m else p) else oF S f (q - 1) := fun f q => rfl
  generalize insP (oF S 4) p (oc S) = ip at *
  have hC : oc (addO S t c m p) = oc S + 1 := rfl
  have hT : ∀ f i, i < oc S → addT T (oc S) (onx S) t c m p f i = T f i := fun f i hi => by unfold addT; rw [if_neg (by omega)]
  have hN : ∀ f, addT T (oc S) (onx S) t c m p f (oc S) = (if f = 0 then onx S else if f = 1 then t else if f = 2 then c else if f = 3 then m else p) := fun f => by unfold addT; rw [if_pos rfl]
  have hinc : ∀ i j, i < j → j < oc S + 1 → addT T (oc S) (onx S) t c m p 0 i < addT T (oc S) (onx S) t c m p 0 j := by
    intro i j hij hj
    rw [hT 0 i (by omega)]
    by_cases e : j = oc S
    · rw [e, hN 0]
      exact h.num w (by omega)
    · rw [hT 0 j (by omega)]
      exact h.1 i j hij (by omega)
  -- the ranks of those that were there
  have hrk : ∀ i, i < oc S → rnkO (addT T (oc S) (onx S) t c m p) (oc S + 1) i = if rnkO T (oc S) i < ip then rnkO T (oc S) i else rnkO T (oc S) i + 1 := by
    intro i hi
    have e1 : cntN (fun o => aheadO (addT T (oc S) (onx S) t c m p) o i) (oc S) = rnkO T (oc S) i := by
      refine cntN_congr fun o ho => ?_
      unfold aheadO
      rw [hT 4 o ho, hT 4 i hi, hT 0 o ho, hT 0 i hi]
    have e2 : rnkO (addT T (oc S) (onx S) t c m p) (oc S + 1) i = rnkO T (oc S) i + if aheadO (addT T (oc S) (onx S) t c m p) (oc S) i then 1 else 0 := by
      rw [← e1]; rfl
    have hl := h.lt hi
    have h4 := h.2 i hi 4 (by omega)
    have hn := h.num w hi
    have e3 : aheadO (addT T (oc S) (onx S) t c m p) (oc S) i ↔ T 4 i < p := by
      unfold aheadO
      rw [hT 4 i hi, hT 0 i hi, hN 4, hN 0]
      simp
      omega
    rw [e2]
    by_cases q : rnkO T (oc S) i < ip
    · have := hhi _ q
      rw [if_neg (fun z => by have := e3.mp z; omega), if_pos q]; omega
    · have := hlo (rnkO T (oc S) i) (by omega) hl
      rw [if_pos (e3.mpr (by omega)), if_neg q]
  have hOT : ∀ i j, i < oc S + 1 → j < oc S + 1 → i ≠ j → aheadO (addT T (oc S) (onx S) t c m p) i j ∨ aheadO (addT T (oc S) (onx S) t c m p) j i := by
    intro i j hi hj e
    have : addT T (oc S) (onx S) t c m p 0 i ≠ addT T (oc S) (onx S) t c m p 0 j := by
      rcases Nat.lt_or_gt_of_ne e with q | q
      · have := hinc i j q hj; omega
      · have := hinc j i q hi; omega
    unfold aheadO; omega
  -- the rank of the new one
  have hnew : rnkO (addT T (oc S) (onx S) t c m p) (oc S + 1) (oc S) = ip := by
    have hlt : rnkO (addT T (oc S) (onx S) t c m p) (oc S + 1) (oc S) < oc S + 1 := rk_lt (n := oc S + 1) (lt := aheadO (addT T (oc S) (onx S) t c m p)) (i := oc S) (aheadO_irr _) (by omega)
    have hno : ∀ i, i < oc S → rnkO (addT T (oc S) (onx S) t c m p) (oc S + 1) i ≠ rnkO (addT T (oc S) (onx S) t c m p) (oc S + 1) (oc S) := by
      intro i hi e
      have := rk_inj (lt := aheadO _) (aheadO_irr _) (aheadO_tr _) hOT (i := i) (j := oc S) (by omega) (by omega) e
      omega
    generalize rnkO (addT T (oc S) (onx S) t c m p) (oc S + 1) (oc S) = r at *
    rcases Nat.lt_trichotomy r ip with q | q | q
    · obtain ⟨i, hi, hr⟩ := h.onto (r := r) (by omega)
      have := hno i hi
      rw [hrk i hi, hr, if_pos q] at this
      omega
    · exact q
    · obtain ⟨i, hi, hr⟩ := h.onto (r := r - 1) (by omega)
      have := hno i hi
      rw [hrk i hi, hr, if_neg (by omega)] at this
      omega
  refine ⟨by rw [hC]; exact hinc, fun i hi f hf => ?_⟩
  rw [hC] at hi ⊢
  by_cases e : i = oc S
  · subst e
    rw [hnew, hF, if_neg (by omega), if_pos rfl, hN]
  · rw [hrk i (by omega), hF, hT f i (by omega)]
    have h2 := h.2 i (by omega) f hf
    by_cases q : rnkO T (oc S) i < ip
    · rw [if_pos q, if_pos q]; exact h2
    · rw [if_neg q, if_neg (by omega), if_neg (by omega), Nat.add_sub_cancel]; exact h2
theorem cntN_skip {p : Nat → Prop} [DecidablePred p] {d : Nat} : ∀ {n : Nat}, d ≤ n → cntN (fun o => p (if d ≤ o then o + 1 else o)) n + (if p d then 1 else 0) = cntN p (n + 1)
  | 0, h => by
    have : d = 0 := by omega
    subst this
    simp [cntN]
  | n + 1, h => by
    by_cases e : d = n + 1
    · subst e
      have : cntN (fun o => p (if n + 1 ≤ o then o + 1 else o)) (n + 1) = cntN p (n + 1) := cntN_congr fun i hi => by rw [if_neg (by omega)]
      rw [this]; rfl
    · have ih := cntN_skip (p := p) (d := d) (n := n) (by omega)
      have e1 : cntN (fun o => p (if d ≤ o then o + 1 else o)) (n + 1) = cntN (fun o => p (if d ≤ o then o + 1 else o)) n + if p (n + 1) then 1 else 0 := by
        simp only [cntN, if_pos (show d ≤ n by omega)]
      have e2 : cntN p (n + 1 + 1) = cntN p (n + 1) + if p (n + 1) then 1 else 0 := rfl
      rw [e1, e2, ← ih]; omega
def delT (T : Nat → Nat → Nat) (d : Nat) : Nat → Nat → Nat := fun f i => T f (if d ≤ i then i + 1 else i)
theorem OT.del (h : OT T S) {d : Nat} (hd : d < oc S) : OT (delT T d) (delO S (rnkO T (oc S) d)) := by
  have hC : oc (delO S (rnkO T (oc S) d)) = oc S - 1 := rfl
  have hF : ∀ f q, oF (delO S (rnkO T (oc S) d)) f q = if rnkO T (oc S) d ≤ q then oF S f (q + 1) else oF S f q := fun f q => rfl
  refine ⟨fun i j hij hj => ?_, fun i hi f hf => ?_⟩
  · rw [hC] at hj
    unfold delT
    exact h.1 _ _ (by split <;> split <;> omega) (by split <;> omega)
  · rw [hC] at hi ⊢
    have hi2 : (if d ≤ i then i + 1 else i) < oc S := by split <;> omega
    have hne : (if d ≤ i then i + 1 else i) ≠ d := by split <;> omega
    have e1 := cntN_skip (p := fun o => aheadO T o (if d ≤ i then i + 1 else i)) (d := d) (n := oc S - 1) (by omega)
    rw [show oc S - 1 + 1 = oc S by omega] at e1
    have e2 : rnkO (delT T d) (oc S - 1) i = cntN (fun o => aheadO T (if d ≤ o then o + 1 else o) (if d ≤ i then i + 1 else i)) (oc S - 1) := rfl
    have e3 : rnkO T (oc S) (if d ≤ i then i + 1 else i) = cntN (fun o => aheadO T o (if d ≤ i then i + 1 else i)) (oc S) := rfl
    rw [← e2, ← e3] at e1
    have h2 := h.2 _ hi2 f hf
    have e4 : delT T d f i = T f (if d ≤ i then i + 1 else i) := rfl
    rw [hF, e4]
    generalize (if d ≤ i then i + 1 else i) = s at *
    rcases h.tot d s hd hi2 (fun q => hne q.symm) with q | q
    · have hm := rk_mono (lt := aheadO T) (n := oc S) (aheadO_irr T) (aheadO_tr T) hd q
      have hm2 : rnkO T (oc S) d < rnkO T (oc S) s := hm
      rw [if_pos q] at e1
      rw [if_pos (by omega), show rnkO (delT T d) (oc S - 1) i + 1 = rnkO T (oc S) s by omega]
      exact h2
    · have hm := rk_mono (lt := aheadO T) (n := oc S) (aheadO_irr T) (aheadO_tr T) hi2 q
      have hm2 : rnkO T (oc S) s < rnkO T (oc S) d := hm
      rw [if_neg (fun z => aheadO_irr T d (aheadO_tr T d s d z q))] at e1
      rw [if_neg (by omega), show rnkO (delT T d) (oc S - 1) i = rnkO T (oc S) s by omega]
      exact h2
end R
