/-! ===== the start: the addresses of the constants, and Facts ===== -/
/-- where a constant lies, by its code -/
def adS (args : Array Value) (s : State) (c : Nat) : Nat := if 13 ≤ c ∧ c < 20 then s.heap.size + c else match (tmA c).eval args s none [] s with
  | some (.ref a) => a
  | _ => 0
def tvS (args : Array Value) (s : State) (v : Value) : Value := match v with
  | .ref k => .ref (adS args s (k - 1000000))
  | v => v
theorem eq_ref {args : Array Value} {s : State} {t u : Term} {a : Nat} (h : (Cond.eq t u).before args s = true) (hu : u.eval args s none [] s = some (.ref a)) : t.eval args s none [] s = some (.ref a) := by
  cases hv : t.eval args s none [] s with
  | none => simp [Cond.before, Cond.holds, Cond.value, hv] at h
  | some w =>
    simp only [Cond.before, Cond.holds, Cond.value, hv, hu] at h
    cases w <;> simp_all
section Start
variable {args : Array Value} {s : State}
def KN (args : Array Value) (s : State) (c : Nat) : Prop := (tmA c).eval args s none [] s = some (.ref (adS args s c))
theorem KN.of {c a : Nat} (h : ¬ (13 ≤ c ∧ c < 20)) (e : (tmA c).eval args s none [] s = some (.ref a)) : KN args s c ∧ adS args s c = a := by
  have h1 : adS args s c = a := by
    unfold adS
    rw [if_neg h, e]
  refine ⟨?_, h1⟩
  unfold KN
  rw [h1]
  exact e
theorem x_en (hn : ∀ w ∈ FL, w.before args s = true) {c : Nat} (hc : c ∈ enO) : (Cond.exactly (tmA c) (clA c)).before args s = true := hn _ (subC_mem _ _ s_ex _ (List.mem_map.mpr ⟨c, hc, rfl⟩))
theorem a_st (hn : ∀ w ∈ FL, w.before args s = true) {q : String × Nat × String × Nat} (hq : q ∈ cS) {w : Cond} (hw : w ∈ atS q) : w.before args s = true := hn _ (subC_mem _ _ s_st _ (List.mem_flatMap.mpr ⟨q, hq, hw⟩))
theorem k_ex {c : Nat} {C : String} (h13 : ¬ (13 ≤ c ∧ c < 20)) (h : (Cond.exactly (tmA c) C).before args s = true) : KN args s c ∧ adS args s c < s.heap.size := by
  obtain ⟨a, c', cA, kA, q1, q2, q3, q4, q5, q6, -⟩ := Cond.exactly_spec (args := args) (first := s) (o := none) (s := s) (idx := []) (t := tmA c) (cls := C) h
  obtain ⟨h1, h2⟩ := KN.of h13 q1
  exact ⟨h1, by rw [h2]; exact (Array.getElem?_eq_some_iff.mp q3).1⟩
theorem k_en (hn : ∀ w ∈ FL, w.before args s = true) {c : Nat} (hc : c ∈ enO) : KN args s c ∧ adS args s c < s.heap.size := k_ex (en_no c hc) (x_en hn hc)
theorem x_st (hn : ∀ w ∈ FL, w.before args s = true) {q : String × Nat × String × Nat} (hq : q ∈ cS) : (Cond.exactly (tmA q.2.2.2) "java/lang/String").before args s = true := by
  rw [(tm_st q hq).1]
  exact a_st hn hq (List.mem_append_left _ List.mem_cons_self)
theorem k_st (hn : ∀ w ∈ FL, w.before args s = true) {q : String × Nat × String × Nat} (hq : q ∈ cS) : KN args s q.2.2.2 ∧ adS args s q.2.2.2 < s.heap.size := k_ex (by have := (tm_st q hq).2.2.1; omega) (x_st hn hq)
theorem k_kc (hn : ∀ w ∈ FL, w.before args s = true) {k : Nat} (hk : k ∈ kcs) : KN args s k := by
  rcases kc_st k hk with h | ⟨q, hq, rfl⟩
  · exact (k_en hn h).1
  · exact (k_st hn hq).1
theorem ev_of (hn : ∀ w ∈ FL, w.before args s = true) {t : Term} {v : Value} (h : (Cond.eq t (toT v)).before args s = true) (hv : v = .int (toI v) ∨ ∃ k ∈ kcs, v = .ref (1000000 + k)) : t.eval args s none [] s = some (tvS args s v) := by
  rcases hv with e | ⟨k, hk, rfl⟩
  · rw [e] at h ⊢
    exact va_eqt h
  · have e1 : toT (.ref (1000000 + k)) = tmA k := by
      show tmA (1000000 + k - 1000000) = tmA k
      rw [Nat.add_sub_cancel_left]
    have e2 : tvS args s (.ref (1000000 + k)) = .ref (adS args s k) := by
      show Value.ref (adS args s (1000000 + k - 1000000)) = _
      rw [Nat.add_sub_cancel_left]
    rw [e1] at h
    rw [e2]
    exact eq_ref h (k_kc hn hk)
theorem tv_i {v : Value} (h : v = .int (toI v)) : tvS args s v = .int (toI v) := by
  cases v with
  | int x => rfl
  | _ => cases h
theorem T_of {c N : Nat} {ty : FieldType} {f : Nat → Value} {A : Nat → Prop} (h13 : ¬ (13 ≤ c ∧ c < 20)) (hN : N < 2 ^ 31) (harr : (Cond.arrayOf (tmA c) ty).before args s = true) (hlen : (Cond.eq (.length (tmA c)) (.int (Int32.ofNat N))).before args s = true) (hel : ∀ j : Nat, j < N → (Term.elem (tmA c) (.int (Int32.ofNat j))).eval args s none [] s = some (f j)) (hA : ∀ a : Nat, a < s.heap.size → ¬ A a) : KN args s c ∧ va_T ty (adS args s c) N f A s s.heap := by
  obtain ⟨t, ht, hT⟩ := va_Tof hN harr (va_eqt hlen) hel hA
  obtain ⟨h1, h2⟩ := KN.of h13 ht
  exact ⟨h1, by rw [h2]; exact hT⟩
theorem st_T (hn : ∀ w ∈ FL, w.before args s = true) {A : Nat → Prop} (hA : ∀ a : Nat, a < s.heap.size → ¬ A a) {q : String × Nat × String × Nat} (hq : q ∈ cS) : KN args s (q.2.2.2 + 60) ∧ va_T .byte (adS args s (q.2.2.2 + 60)) (ltC q.2.2.2).length (fun j => tvS args s (vp_V (ltC q.2.2.2) j)) A s s.heap := by
  obtain ⟨-, h2, h3, h4, h5⟩ := tm_st q hq
  refine T_of (by omega) h4 ?_ ?_ (fun j hj => ?_) hA
  · rw [h2]
    exact a_st hn hq (List.mem_append_left _ (List.mem_cons_of_mem _ (List.mem_cons_of_mem _ List.mem_cons_self)))
  · rw [h2]
    exact a_st hn hq (List.mem_append_left _ (List.mem_cons_of_mem _ (List.mem_cons_of_mem _ (List.mem_cons_of_mem _ List.mem_cons_self))))
  · have hg : (ltC q.2.2.2)[j]? = some ((ltC q.2.2.2)[j]'hj) := List.getElem?_eq_getElem hj
    have hv : vp_V (ltC q.2.2.2) j = (ltC q.2.2.2)[j]'hj := by
      show (ltC q.2.2.2).getD j .null = _
      rw [List.getD_eq_getElem?_getD, hg]
      try rfl
    have hi := h5 _ (List.getElem_mem hj)
    have hw : (Term.elem (vlS q) (.int (Int32.ofNat j))).eval args s none [] s = some (.int (toI ((ltC q.2.2.2)[j]'hj))) := va_eqt (a_st hn hq (List.mem_append_right _ (List.mem_map.mpr ⟨((ltC q.2.2.2)[j]'hj, j), List.mk_mem_zipIdx_iff_getElem?.mpr hg, rfl⟩)))
    show (Term.elem (tmA (q.2.2.2 + 60)) (.int (Int32.ofNat j))).eval args s none [] s = some (tvS args s (vp_V (ltC q.2.2.2) j))
    rw [h2, hw, hv, tv_i hi]
theorem k4_T (hn : ∀ w ∈ FL, w.before args s = true) {A : Nat → Prop} (hA : ∀ a : Nat, a < s.heap.size → ¬ A a) {q : FieldType × Nat × Nat × List Value} (hq : q ∈ cT.take 3) (h30 : 30 ≤ q.2.1) (hl : q.2.2.1 = q.2.2.2.length) (hs : q.2.2.1 < 2 ^ 31) (hv : ∀ v ∈ q.2.2.2, v = .int (toI v) ∨ ∃ k ∈ kcs, v = .ref (1000000 + k)) : KN args s q.2.1 ∧ va_T q.1 (adS args s q.2.1) q.2.2.1 (fun j => tvS args s (vp_V q.2.2.2 j)) A s s.heap := by
  have ha : ∀ w ∈ atArr q, w.before args s = true := fun w hw => hn _ (subC_mem _ _ (s_T0 q hq) _ hw)
  rw [hl] at hs ⊢
  refine T_of (by omega) hs ?_ ?_ (fun j hj => ?_) hA
  · exact ha _ (List.mem_append_left _ List.mem_cons_self)
  · exact ha _ (List.mem_append_left _ (List.mem_cons_of_mem _ List.mem_cons_self))
  · have hg : q.2.2.2[j]? = some (q.2.2.2[j]'hj) := List.getElem?_eq_getElem hj
    have hw : vp_V q.2.2.2 j = q.2.2.2[j]'hj := by
      show q.2.2.2.getD j .null = _
      rw [List.getD_eq_getElem?_getD, hg]
      try rfl
    show (Term.elem (tmA q.2.1) (.int (Int32.ofNat j))).eval args s none [] s = some (tvS args s (vp_V q.2.2.2 j))
    rw [hw]
    exact ev_of hn (ha _ (List.mem_append_right _ (List.mem_map.mpr ⟨(q.2.2.2[j]'hj, j), List.mk_mem_zipIdx_iff_getElem?.mpr hg, rfl⟩))) (hv _ (List.getElem_mem hj))
theorem k_T (hn : ∀ w ∈ FL, w.before args s = true) {A : Nat → Prop} (hA : ∀ a : Nat, a < s.heap.size → ¬ A a) {q : FieldType × Nat × Nat × List Value} (hq : q ∈ cT) : KN args s q.2.1 ∧ va_T q.1 (adS args s q.2.1) q.2.2.1 (fun j => tvS args s (vp_V q.2.2.2 j)) A s s.heap := by
  rcases cT_ok q hq with ⟨h1, h2, h3, h4, h5⟩ | ⟨r, hr, h1, h2, h3, h4⟩
  · exact k4_T hn hA h1 h2 h3 h4 h5
  · have h := st_T hn hA hr
    rw [h1, h3, ← h4, ← h2] at h
    exact h
theorem k_arr4 (hn : ∀ w ∈ FL, w.before args s = true) : ∀ c ∈ ([31, 32, 33] : List Nat), KN args s c := by
  have hm : ∀ c ∈ ([31, 32, 33] : List Nat), ∃ q ∈ cT, q.2.1 = c := by decide +kernel
  intro c hc
  obtain ⟨q, hq, rfl⟩ := hm c hc
  exact (k_T hn (A := fun _ => False) (fun _ _ h => h) hq).1
end Start
theorem ta_hi (D : DT) {k : Nat} (h : ¬ k < 1000000) : ta D k = D.2.2.2.2.2 (k - 1000000) := if_neg h
/-- all of the constants, at the start -/
theorem facts_at {args : Array Value} {s : State} {dC : Nat → ClassId} {dI : Nat → Nat → Nat} {dA : Nat → ClassId} (hts : ∀ w ∈ lw_tbl, w.before args s = true) (hn : ∀ w ∈ FL, w.before args s = true) (hK : ∀ (hp : Heap) (ad : Nat → Nat), va_K (dC, dI) vwCl (tysL (s.heap.size, hp, dC, dI, dA, ad)) s) {D : DT} (hD : D = (s.heap.size, s.heap, dC, dI, dA, adS args s)) : Facts D s := by
  have hta : ∀ c, ta D (1000000 + c) = adS args s c := by
    intro c
    rw [ta_hi D (show ¬ 1000000 + c < 1000000 by omega), Nat.add_sub_cancel_left, hD]
  have htv : ∀ v : Value, (v = .int (toI v) ∨ ∃ k, v = .ref (1000000 + k)) → tv D v = tvS args s v := by
    intro v hv
    rcases hv with e | ⟨k, rfl⟩
    · rw [e]
      rfl
    · show Value.ref (ta D (1000000 + k)) = Value.ref (adS args s (1000000 + k - 1000000))
      rw [hta, Nat.add_sub_cancel_left]
  have hA : ∀ a : Nat, a < s.heap.size → ¬ Ad D a := by
    intro a h1 h2
    subst hD
    exact absurd h1 (Nat.not_lt.mpr h2)
  have hH : D.2.1 = s.heap := by rw [hD]
  unfold Facts
  rw [hH]
  refine ⟨by rw [hD]; exact hK _ _, fun q hq => ?_, fun q hq => ?_, fun q hq => ?_, fun q hq => ?_, fun q hq => ?_, ?_, ?_, ?_, ?_⟩
  · obtain ⟨l1, l2⟩ := cZ_l q hq
    rcases cZ_ok q hq with rfl | rfl | ⟨c, hc, e1, e2⟩
    · exact va_Zof (hts _ l1) (hts _ l2) (va_eqi (hn _ (List.mem_of_getElem? (i := 4) (by decide +kernel)))) hA
    · exact va_Zof (hts _ l1) (hts _ l2) (va_eql (hn _ (List.mem_of_getElem? (i := 422) (by decide +kernel)))) hA
    · have kn : KN args s c := by
        rcases List.mem_append.mp hc with h | h
        · exact (k_en hn h).1
        · exact k_arr4 hn c h
      rw [e1]
      show va_Z _ _ _ (.ref (ta D (1000000 + c))) _ _ _
      rw [hta]
      exact va_Zof (hts _ l1) (hts _ l2) (by rw [← e2]; exact kn) hA
  · rw [hta]
    rcases cF_ok q hq with ⟨h1, h2⟩ | ⟨r, hr, h1, h2, h3, h4, h5⟩ | ⟨r, hr, h1, h2, h3, h4, h5⟩
    · have hk : KN args s q.2.2.2.2 := (k_en hn (en_ok _ (by have := enV_lt _ h1; omega) (by have := enV_lt _ h1; omega))).1
      have hw : (atF q).before args s = true := hn _ (subC_mem _ _ s_F _ (List.mem_flatMap.mpr ⟨_, h1, List.mem_map.mpr ⟨q, List.mem_filter.mpr ⟨hq, by simp⟩, rfl⟩⟩))
      rw [htv _ (h2.imp id (fun ⟨k, _, e⟩ => ⟨k, e⟩))]
      exact vk_OFof hk (ev_of hn hw h2) hA
    · have hk := (k_st hn hr).1
      have hw : (Cond.eq (.field (tmA r.2.2.2) "java/lang/String" "coder" "B") (.int 0)).before args s = true := by
        rw [(tm_st r hr).1]
        exact a_st hn hr (List.mem_append_left _ (List.mem_cons_of_mem _ List.mem_cons_self))
      rw [h2, h3, h4, h5, ← h1]
      exact vk_OFof hk (va_eqt hw) hA
    · have hk := (k_st hn hr).1
      have hv := (st_T hn hA hr).1
      rw [h2, h3, h4, h5, ← h1]
      show va_OF _ _ _ (.ref (ta D (1000000 + (r.2.2.2 + 60)))) _ _ _ _
      rw [hta]
      refine vk_OFof hk ?_ hA
      have e : tmA (r.2.2.2 + 60) = .field (tmA r.2.2.2) "java/lang/String" "value" "[B" := by
        rw [(tm_st r hr).2.1, (tm_st r hr).1]
        rfl
      rw [← e]
      exact hv
  · rw [hta]
    rcases cO_ok q hq with ⟨h1, h2⟩ | ⟨r, hr, h1, h2⟩
    · rw [h2]
      exact va_Oof (x_en hn h1) (k_en hn h1).1 hA
    · rw [h2, ← h1]
      exact va_Oof (x_st hn hr) (k_st hn hr).1 hA
  · rw [hta]
    have h := (k_T hn hA hq).2
    have key : ∀ v ∈ q.2.2.2, tv D v = tvS args s v := by
      intro v hv
      rcases cT_ok q hq with ⟨-, -, -, -, h5⟩ | ⟨r, hr, -, -, h3, -⟩
      · exact htv v ((h5 v hv).imp id (fun ⟨k, _, e⟩ => ⟨k, e⟩))
      · exact htv v (Or.inl ((tm_st r hr).2.2.2.2 v (by rw [h3]; exact hv)))
    have e : (fun j => tv D (vp_V q.2.2.2 j)) = (fun j => tvS args s (vp_V q.2.2.2 j)) := by
      funext j
      by_cases hj : j < q.2.2.2.length
      · have hv : vp_V q.2.2.2 j = q.2.2.2[j]'hj := by
          show q.2.2.2.getD j .null = _
          rw [List.getD_eq_getElem?_getD, List.getElem?_eq_getElem hj]
          try rfl
        rw [hv]
        exact key _ (List.getElem_mem hj)
      · have hv : vp_V q.2.2.2 j = .null := by
          show q.2.2.2.getD j .null = _
          rw [List.getD_eq_getElem?_getD, List.getElem?_eq_none (Nat.not_lt.mp hj)]
          try rfl
        rw [hv]
        rfl
    rw [e]
    exact h
  · rw [hta]
    exact vk_R.of (hts _ (subC_mem _ _ s_S _ (List.mem_map.mpr ⟨q, hq, rfl⟩))) (by
      have h := (k_st hn hq).1
      unfold KN at h
      rw [(tm_st q hq).1] at h
      exact h)
  · exact vx_Zqof (hts _ (List.mem_of_getElem? (i := 369) (by decide +kernel))) (hts _ (List.mem_of_getElem? (i := 39) (by decide +kernel))) (hn _ (List.mem_of_getElem? (i := 5) (by decide +kernel))) hA
  · exact vx_Zqof (hts _ (List.mem_of_getElem? (i := 371) (by decide +kernel))) (hts _ (List.mem_of_getElem? (i := 39) (by decide +kernel))) (hn _ (List.mem_of_getElem? (i := 6) (by decide +kernel))) hA
  · intro i hi j hj e
    rw [hta, hta] at e
    have hlt : ∀ c, c < 25 → ¬ (13 ≤ c ∧ c < 20) → adS args s c < s.heap.size := fun c h1 h2 => (k_en hn (en_ok c h1 h2)).2
    have hge : ∀ c, 13 ≤ c ∧ c < 20 → adS args s c = s.heap.size + c := fun c h => by unfold adS; exact if_pos h
    by_cases h1 : 13 ≤ i ∧ i < 20
    · by_cases h2 : 13 ≤ j ∧ j < 20
      · rw [hge i h1, hge j h2] at e
        omega
      · have := hlt j hj h2
        rw [hge i h1] at e
        omega
    · by_cases h2 : 13 ≤ j ∧ j < 20
      · have := hlt i hi h1
        rw [hge j h2] at e
        omega
      · have m1 := en_ok i hi h1
        have m2 := en_ok j hj h2
        by_cases hij : i = j
        · exact hij
        · rcases ne_ok i m1 j m2 hij with h | h
          · exact absurd e (va_neR (hn _ (subC_mem _ _ s_ne _ (List.mem_map.mpr ⟨_, h, rfl⟩))) (k_en hn m1).1 (k_en hn m2).1)
          · exact absurd e.symm (va_neR (hn _ (subC_mem _ _ s_ne _ (List.mem_map.mpr ⟨_, h, rfl⟩))) (k_en hn m2).1 (k_en hn m1).1)
  · have hl : (Cond.laysStatic "jdk/internal/util/Preconditions" "SIOOBE_FORMATTER" "Ljava/util/function/BiFunction;").before args s = true := hts _ (List.mem_of_getElem? (i := 847) (by decide +kernel))
    have hini : (Cond.initialized "jdk/internal/util/Preconditions").before args s = true := hts _ (List.mem_of_getElem? (i := 54) (by decide +kernel))
    have h : (Cond.isRef (.static "jdk/internal/util/Preconditions" "SIOOBE_FORMATTER" "Ljava/util/function/BiFunction;")).before args s = true := hn _ (List.mem_of_getElem? (i := 50) (by decide +kernel))
    have e34 : tmA 34 = .static "jdk/internal/util/Preconditions" "SIOOBE_FORMATTER" "Ljava/util/function/BiFunction;" := by decide +kernel
    have ht : ta D 1000034 = adS args s 34 := hta 34
    rw [ht]
    cases hv : (Term.static "jdk/internal/util/Preconditions" "SIOOBE_FORMATTER" "Ljava/util/function/BiFunction;").eval args s none [] s with
    | none => simp [Cond.before, Cond.holds, Cond.value, hv] at h
    | some w =>
      simp only [Cond.before, Cond.holds, Cond.value, hv] at h
      cases w with
      | null => exact Or.inl (va_Zof hl hini hv hA)
      | ref t =>
        have hk := KN.of (args := args) (s := s) (c := 34) (a := t) (by decide) (by rw [e34]; exact hv)
        rw [hk.2]
        exact Or.inr (va_Zof hl hini hv hA)
      | _ => simp at h
