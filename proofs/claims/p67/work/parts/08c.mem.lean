/-! ===== memory: what a rule reads and writes ===== -/
theorem fval_congr {D : DT} {R R' : Nat → Nat → Option Nat} {I I' : IT} {ci k : Nat} (h1 : R' k = R k) (h2 : I' k = I k) : fval D R' I' ci k = fval D R I ci k := by
  funext j
  simp only [fval, h1, h2]
theorem CR.kept {D : DT} {G G' : GT} {I I' : IT} {L L' : LT} {H H' : Heap} {k : Nat} (h : CR D G I L H k) (e1 : G'.2.1 k = G.2.1 k) (e2 : G'.2.2 k = G.2.2 k) (e3 : I' k = I k) (e4 : L'.1 k = L.1 k) (e5 : L'.2 k = L.2 k) (eH : H'[D.1 + k]? = H[D.1 + k]?) : CR D G' I' L' H' k := by
  unfold CR at h ⊢
  rw [e1]
  split at h
  · next h20 =>
    rw [if_pos h20]
    obtain ⟨r, h1, h2⟩ := h
    refine ⟨r, h1, ?_⟩
    rw [fval_congr (D := D) e2 e3]
    exact h2.kept eH
  · next h20 =>
    rw [if_neg h20]
    split at h
    · next h27 =>
      rw [if_pos h27, eH, h]
      simp only [arrV4, e2, e3, e4, e5]
    · next h27 => rw [if_neg h27]; trivial
theorem CR.ob {D : DT} {G : GT} {I : IT} {L : LT} {H : Heap} {k ci z : Nat} (h : CR D G I L H k) (hs : G.2.1 k = (ci, z)) (hc : ci < 20) : ∃ r, vwCl[ci]? = some r ∧ t_OB (D.1 + k) (D.2.2.1 ci) r.2.2 (D.2.2.2.1 ci) H (fval D G.2.2 I ci k) := by
  unfold CR at h
  rw [hs] at h
  rw [if_pos (show ((ci, z) : Nat × Nat).1 < 20 from hc)] at h
  exact h
theorem CR.ar {D : DT} {G : GT} {I : IT} {L : LT} {H : Heap} {k t n : Nat} (h : CR D G I L H k) (hs : G.2.1 k = (20 + t, n)) (ht : t < 5) : H[D.1 + k]? = some (vp_cell (D.2.2.2.2.1 t) (n, arrV4 D G I L t k)) := by
  unfold CR at h
  rw [hs] at h
  rw [if_neg (show ¬ ((20 + t, n) : Nat × Nat).1 < 20 by show ¬ 20 + t < 20; omega), if_pos (show ((20 + t, n) : Nat × Nat).1 < 25 by show 20 + t < 25; omega)] at h
  rw [show ((20 + t, n) : Nat × Nat).1 - 20 = t by show 20 + t - 20 = t; omega] at h
  exact h
theorem CR.to_ob {D : DT} {G : GT} {I : IT} {L : LT} {H : Heap} {k ci z : Nat} {r : vw_C} (hs : G.2.1 k = (ci, z)) (hc : ci < 20) (hr : vwCl[ci]? = some r) (h : t_OB (D.1 + k) (D.2.2.1 ci) r.2.2 (D.2.2.2.1 ci) H (fval D G.2.2 I ci k)) : CR D G I L H k := by
  unfold CR
  rw [hs]
  rw [if_pos (show ((ci, z) : Nat × Nat).1 < 20 from hc)]
  exact ⟨r, hr, h⟩
theorem CR.to_ar {D : DT} {G : GT} {I : IT} {L : LT} {H : Heap} {k t n : Nat} (hs : G.2.1 k = (20 + t, n)) (ht : t < 5) (h : H[D.1 + k]? = some (vp_cell (D.2.2.2.2.1 t) (n, arrV4 D G I L t k))) : CR D G I L H k := by
  unfold CR
  rw [hs]
  rw [if_neg (show ¬ ((20 + t, n) : Nat × Nat).1 < 20 by show ¬ 20 + t < 20; omega), if_pos (show ((20 + t, n) : Nat × Nat).1 < 25 by show 20 + t < 25; omega)]
  rw [show ((20 + t, n) : Nat × Nat).1 - 20 = t by show 20 + t - 20 = t; omega]
  exact h
/-- cell a alone has changed -/
theorem Rel.set {D : DT} {G G' : GT} {I I' : IT} {L L' : LT} {H H' : Heap} {a : Nat} (h : Rel D G I L H) (hn : G'.1 = G.1) (e1 : G'.2.1 = G.2.1) (e2 : ∀ k, k ≠ a → G'.2.2 k = G.2.2 k) (e3 : ∀ k, k ≠ a → I' k = I k) (e4 : ∀ k, k ≠ a → L'.1 k = L.1 k) (e5 : ∀ k, k ≠ a → L'.2 k = L.2 k) (hz : H'.size = H.size) (ho : ∀ q, q ≠ D.1 + a → H'[q]? = H[q]?) (hc : CR D G' I' L' H' a) : Rel D G' I' L' H' := by
  obtain ⟨h1, h2, h3, h4⟩ := h
  refine ⟨by rw [hz, hn]; exact h1, by rw [hn]; exact h2, fun q hq => (ho q (by omega)).trans (h3 q hq), fun k hk => ?_⟩
  by_cases e : k = a
  · subst e; exact hc
  · exact (h4 k (by rw [← hn]; exact hk)).kept (by rw [e1]) (e2 k e) (e3 k e) (e4 k e) (e5 k e) (ho _ (by omega))
/-- one cell more -/
theorem Rel.push {D : DT} {G G' : GT} {I I' : IT} {L L' : LT} {H H' : Heap} (h : Rel D G I L H) (hn : G'.1 = G.1 + 1) (hb : G.1 + 1 < 1000000) (e1 : ∀ k, k < G.1 → G'.2.1 k = G.2.1 k) (e2 : ∀ k, k < G.1 → G'.2.2 k = G.2.2 k) (e3 : ∀ k, k < G.1 → I' k = I k) (e4 : ∀ k, k < G.1 → L'.1 k = L.1 k) (e5 : ∀ k, k < G.1 → L'.2 k = L.2 k) (hz : H'.size = D.1 + G.1 + 1) (ho : ∀ q, q < D.1 + G.1 → H'[q]? = H[q]?) (hc : CR D G' I' L' H' G.1) : Rel D G' I' L' H' := by
  obtain ⟨h1, h2, h3, h4⟩ := h
  refine ⟨by omega, by omega, fun q hq => (ho q (by omega)).trans (h3 q hq), fun k hk => ?_⟩
  by_cases e : k = G.1
  · rw [e]; exact hc
  · have hk2 : k < G.1 := by omega
    exact (h4 k hk2).kept (e1 k hk2) (e2 k hk2) (e3 k hk2) (e4 k hk2) (e5 k hk2) (ho _ (by omega))
theorem Rel.ta {D : DT} {G : GT} {I : IT} {L : LT} {H : Heap} {a : Nat} (h : Rel D G I L H) (ha : a < G.1) : ta D a = D.1 + a := ta_lt D (Nat.lt_trans ha h.2.1)
theorem Facts.S {D : DT} {s : State} {H : Heap} {G : GT} {I : IT} {L : LT} {locs : List Loc} (h0 : ∀ q, q < D.1 → s.heap[q]? = D.2.1[q]?) (hR : Rel D G I L H) (hz : s.heap.size ≤ H.size) (hl : ∀ q ∈ locs, D.1 ≤ q.base) : va_S (Ad D) s.heap H locs := ⟨hz, fun q _ h => by
  have hq : q < D.1 := Nat.lt_of_not_le h
  rw [hR.2.2.1 q hq, h0 q hq], hl⟩
theorem old_kept {D : DT} {s : State} (h0 : ∀ q, q < D.1 → s.heap[q]? = D.2.1[q]?) : ∀ a : Nat, a < D.2.1.size → ¬ Ad D a → s.heap[a]? = D.2.1[a]? := fun a _ h => h0 a (Nat.lt_of_not_le h)
/-- a field of a class of ours, by its pool entry -/
def GF (own : String) (idx ci j : Nat) : Prop := ∃ r, vwCl[ci]? = some r ∧ ci < 20 ∧ j < r.2.2 ∧ Cond.fieldLink own idx (r.2.1 j).1 (r.2.1 j).2.1 (r.2.1 j).2.2.1 ∈ TW
section Mem
variable {X : XT} {D : DT} {cc : ByteArray} {own : String} {nL c w : Nat} {G : GT} {I : IT} {L : LT} {pc : Nat} {ls st : List Value}
theorem r_getV (hX : OK X D cc own nL) {idx ci j a z : Nat} (gf : GF own idx ci j) (d : decode cc pc = .ok (.getfield idx, 3)) (ha : a < G.1) (hs : G.2.1 a = (ci, z)) {v : Value} (hv : fval D G.2.2 I ci a j = tv D v) (k : J X D nL c w G I L (pc + 3) ls (v :: st)) : J X D nL c w G I L pc ls (.ref a :: st) := by
  obtain ⟨p, l, e, R, s, m, args, below, meth, c0, Q⟩ := X
  intro H locs lsA hR hz hl hL
  obtain ⟨r, hr, hc, hj, hlink⟩ := gf
  obtain ⟨r', hr', hob⟩ := (hR.2.2.2 a ha).ob hs hc
  cases hr.symm.trans hr'
  obtain ⟨hx, hb, -, hown, hts, hF, -⟩ := hX
  obtain ⟨cell, q1, q2, q3, q4⟩ := hob
  obtain ⟨hS, hfc, kC, hkC, hkind⟩ := hF.1.1 ci _ hr
  obtain ⟨cf, kf, fi, f, hi, hsl⟩ := hS j hj
  have ht := hR.ta ha
  show W _ _ _ _ _ _ _ _ _ _ _ _ _ _ _ (F0 m pc lsA (.ref (ta D a) :: st.map (tv D)))
  rw [ht]
  refine W.getf hx hb hown (hts _ hlink) hi (u_facts hfc hkC (u_lays hts (vw_in ci r hr) hj) hi).1 q1 (by rw [q3]; exact fun h => by cases h) (v := tv D v) ?_ rfl rfl d (k H locs lsA hR hz hl hL)
  rw [hsl, q4 j hj, hv]
theorem r_getI (hX : OK X D cc own nL) {idx ci j a z : Nat} (gf : GF own idx ci j) (hr : isR ci j = false) (d : decode cc pc = .ok (.getfield idx, 3)) (ha : a < G.1) (hs : G.2.1 a = (ci, z)) (k : J X D nL c w G I L (pc + 3) ls (.int (I a j) :: st)) : J X D nL c w G I L pc ls (.ref a :: st) := r_getV hX gf d ha hs (by unfold fval; rw [hr]; rfl) k
theorem r_getR (hX : OK X D cc own nL) {idx ci j a z b : Nat} (gf : GF own idx ci j) (hr : isR ci j = true) (d : decode cc pc = .ok (.getfield idx, 3)) (ha : a < G.1) (hs : G.2.1 a = (ci, z)) (hv : G.2.2 a j = some b) (k : J X D nL c w G I L (pc + 3) ls (.ref b :: st)) : J X D nL c w G I L pc ls (.ref a :: st) := r_getV hX gf d ha hs (by unfold fval; rw [hr, if_pos rfl, hv]; rfl) k
/-- a field that isn't final -/
def PF (own : String) (idx ci j : Nat) (ty : FieldType) : Prop := ∃ r, vwCl[ci]? = some r ∧ ci < 20 ∧ j < r.2.2 ∧ Cond.fieldLink own idx (r.2.1 j).1 (r.2.1 j).2.1 (r.2.1 j).2.2.1 ∈ TW ∧ (r.2.1 j).2.2.2 = false ∧ parseFieldDescriptor (r.2.1 j).2.2.1 = some ty
theorem put_ob {D : DT} {G G' : GT} {I I' : IT} {L : LT} {H H' : Heap} {a ci z j : Nat} {r : vw_C} {v : Value} {cell : Cell} (hR : Rel D G I L H) (ha : a < G.1) (hs : G.2.1 a = (ci, z)) (hc : ci < 20) (hr : vwCl[ci]? = some r) (hj : j < r.2.2)
    (hap : ∀ x y, x < r.2.2 → y < r.2.2 → x ≠ y → D.2.2.2.1 ci x ≠ D.2.2.2.1 ci y) (q2 : cell.cls = D.2.2.1 ci) (q3 : cell.vm = .none) (q4 : ∀ k, k < r.2.2 → cell.slots[D.2.2.2.1 ci k]? = some (fval D G.2.2 I ci a k))
    (e1 : H'[D.1 + a]? = some (cell.setSlot (D.2.2.2.1 ci j) v)) (hz : H'.size = H.size) (ho : ∀ q, q ≠ D.1 + a → H'[q]? = H[q]?) (hn : G'.1 = G.1) (g1 : G'.2.1 = G.2.1) (g2 : ∀ k, k ≠ a → G'.2.2 k = G.2.2 k) (g3 : ∀ k, k ≠ a → I' k = I k) (hv : ∀ k, k < r.2.2 → updV (fval D G.2.2 I ci a) j v k = fval D G'.2.2 I' ci a k) : Rel D G' I' L H' := by
  refine hR.set hn g1 g2 g3 (fun _ _ => rfl) (fun _ _ => rfl) hz ho ?_
  refine CR.to_ob (r := r) (by rw [g1]; exact hs) hc hr ?_
  exact t_OB.to (V := updV (fval D G.2.2 I ci a) j v) ⟨_, e1, q2, q3, t_set q4 hap hj v⟩ hv
theorem r_putV (hX : OK X D cc own nL) {idx ci j a z : Nat} {ty : FieldType} (gf : PF own idx ci j ty) (d : decode cc pc = .ok (.putfield idx, 3)) (ha : a < G.1) (hs : G.2.1 a = (ci, z)) {v : Value} (hn : narrow ty (tv D v) = tv D v) (hf : fits ty (tv D v) = true)
    {G' : GT} {I' : IT} (hn2 : G'.1 = G.1) (g1 : G'.2.1 = G.2.1) (g2 : ∀ k, k ≠ a → G'.2.2 k = G.2.2 k) (g3 : ∀ k, k ≠ a → I' k = I k) (hv : ∀ k, updV (fval D G.2.2 I ci a) j (tv D v) k = fval D G'.2.2 I' ci a k) (k : J X D nL c w G' I' L (pc + 3) ls st) : J X D nL c w G I L pc ls (v :: .ref a :: st) := by
  obtain ⟨p, l, e, R, s, m, args, below, meth, c0, Q⟩ := X
  intro H locs lsA hR hz hl hL
  obtain ⟨r, hr, hc, hj, hlink, hfin, hty⟩ := gf
  obtain ⟨r', hr', hob⟩ := (hR.2.2.2 a ha).ob hs hc
  cases hr.symm.trans hr'
  obtain ⟨hx, hb, -, hown, hts, hF, -⟩ := hX
  obtain ⟨cell, q1, q2, q3, q4⟩ := hob
  obtain ⟨ty0, hty0⟩ := vw_ty ci r hr
  have hin := vw_in ci r hr
  have hap := va_apart (own := own) hts hin ty0 hty0 (vw_nm ci r hr) hF.1 hr
  obtain ⟨hS, hfc, kC, hkC, hkind⟩ := hF.1.1 ci _ hr
  obtain ⟨cf, kf, fi, f, hi, hsl⟩ := hS j hj
  have hlay := hts _ (hin _ (u_in_lay hj))
  unfold u_lay at hlay
  rw [if_neg (by rw [hfin]; decide)] at hlay
  have hst := (u_facts hfc hkC (u_lays hts hin hj) hi).1
  have h6 := u_store hfc hkC hkind hlay hi hty hn hf
  have ht := hR.ta ha
  show W _ _ _ _ _ _ _ _ _ _ _ _ _ _ _ (F0 m pc lsA (tv D v :: .ref (ta D a) :: st.map (tv D)))
  rw [ht]
  refine W.putK hx hb (f := f) ⟨hown, hts _ hlink, ⟨_, _, _, hi⟩, hst⟩ (by rw [q2]; exact h6) q1 q3 (by rw [hsl]; exact k2_hasslot (q4 j hj)) rfl rfl d fun H' e1 e2 e3 => ?_
  rw [hsl] at e1 ⊢
  refine k H' _ lsA (put_ob hR ha hs hc hr hj hap q2 q3 q4 e1 e2 e3 hn2 g1 g2 g3 (fun k _ => hv k)) (by rw [e2]; exact hz) (fun q hq => ?_) hL
  rcases List.mem_append.mp hq with h | h
  · exact hl q h
  · rw [List.mem_singleton.mp h]; exact Nat.le_add_right _ _
theorem fval_putI {D : DT} {R : Nat → Nat → Option Nat} {I : IT} {ci a j : Nat} {x : Int32} (hr : isR ci j = false) : ∀ k, updV (fval D R I ci a) j (.int x) k = fval D R (up2 I a j x) ci a k := by
  intro k
  by_cases e : k = j
  · subst e; simp [updV, fval, hr, up2]
  · simp [updV, fval, up2, e]
theorem fval_putR {D : DT} {R : Nat → Nat → Option Nat} {I : IT} {ci a j : Nat} {x : Option Nat} (hr : isR ci j = true) : ∀ k, updV (fval D R I ci a) j (tv D (va_rf x)) k = fval D (up2 R a j x) I ci a k := by
  intro k
  by_cases e : k = j
  · subst e; simp [updV, fval, hr, up2, tv_rf]
  · simp [updV, fval, up2, e]
theorem r_putI (hX : OK X D cc own nL) {idx ci j a z : Nat} {ty : FieldType} (gf : PF own idx ci j ty) (hr : isR ci j = false) (d : decode cc pc = .ok (.putfield idx, 3)) (ha : a < G.1) (hs : G.2.1 a = (ci, z)) {x : Int32} (hn : narrow ty (.int x) = .int x) (hf : fits ty (.int x) = true) (k : J X D nL c w G (up2 I a j x) L (pc + 3) ls st) : J X D nL c w G I L pc ls (.int x :: .ref a :: st) :=
  r_putV hX gf d ha hs (v := .int x) hn hf rfl rfl (fun _ _ => rfl) (fun k h => up2_ne h) (fval_putI hr) k
def gPut (G : GT) (a j : Nat) (x : Option Nat) : GT := (G.1, G.2.1, up2 G.2.2 a j x)
theorem r_putR (hX : OK X D cc own nL) {idx ci j a z b : Nat} {ty : FieldType} (gf : PF own idx ci j ty) (hr : isR ci j = true) (d : decode cc pc = .ok (.putfield idx, 3)) (ha : a < G.1) (hs : G.2.1 a = (ci, z)) (hty : (∃ n, ty = .object n) ∨ ∃ t, ty = .array t) (k : J X D nL c w (gPut G a j (some b)) I L (pc + 3) ls st) : J X D nL c w G I L pc ls (.ref b :: .ref a :: st) :=
  r_putV hX gf d ha hs (v := .ref b) (G' := gPut G a j (some b)) (by rcases hty with ⟨n, rfl⟩ | ⟨t, rfl⟩ <;> rfl) (by rcases hty with ⟨n, rfl⟩ | ⟨t, rfl⟩ <;> rfl) rfl rfl (fun k h => up2_ne h) (fun _ _ => rfl) (fval_putR (x := some b) hr) k
/-- a final field, in the constructor of its own class -/
def FF (own : String) (idx ci j : Nat) (ty : FieldType) : Prop := ∃ r, vwCl[ci]? = some r ∧ ci < 20 ∧ j < r.2.2 ∧ Cond.fieldLink own idx (r.2.1 j).1 (r.2.1 j).2.1 (r.2.1 j).2.2.1 ∈ TW ∧ (r.2.1 j).2.2.2 = true ∧ parseFieldDescriptor (r.2.1 j).2.2.1 = some ty ∧ (r.2.1 j).1 = own
def InInit (X : XT) : Prop := match X with
  | (p, l, e, R, s, m, args, below, meth, c0, Q) => meth.name = "<init>"
theorem r_putF (hX : OK X D cc own nL) (hI : InInit X) {idx ci j a z b : Nat} {ty : FieldType} (gf : FF own idx ci j ty) (hrr : isR ci j = true) (d : decode cc pc = .ok (.putfield idx, 3)) (ha : a < G.1) (hs : G.2.1 a = (ci, z)) (hty2 : (∃ n, ty = .object n) ∨ ∃ t, ty = .array t) (k : J X D nL c w (gPut G a j (some b)) I L (pc + 3) ls st) : J X D nL c w G I L pc ls (.ref b :: .ref a :: st) := by
  obtain ⟨p, l, e, R, s, m, args, below, meth, c0, Q⟩ := X
  intro H locs lsA hR hz hl hL
  obtain ⟨r, hr, hc, hj, hlink, hfin, hty, hdecl⟩ := gf
  obtain ⟨r', hr', hob⟩ := (hR.2.2.2 a ha).ob hs hc
  cases hr.symm.trans hr'
  obtain ⟨hx, hb, -, hown, hts, hF, -⟩ := hX
  obtain ⟨cell, q1, q2, q3, q4⟩ := hob
  obtain ⟨ty0, hty0⟩ := vw_ty ci r hr
  have hin := vw_in ci r hr
  have hap := va_apart (own := own) hts hin ty0 hty0 (vw_nm ci r hr) hF.1 hr
  obtain ⟨hS, hfc, kC, hkC, hkind⟩ := hF.1.1 ci _ hr
  obtain ⟨cf, kf, fi, f, hi, hsl⟩ := hS j hj
  have hlay := hts _ (hin _ (u_in_lay hj))
  unfold u_lay at hlay
  rw [if_pos hfin] at hlay
  have hst := (u_facts hfc hkC (u_lays hts hin hj) hi).1
  have hcf : m.cls = cf := by
    obtain ⟨_, _, c', _, _, _, -, -, hf', -, -, -, hown2, -⟩ := Cond.laysFinal_spec hlay
    have e1 : c' = cf := by have := hi.symm.trans hf'; simp at this; exact this.1.symm
    rw [hdecl] at hown2
    rw [← e1]; exact Option.some.inj (hown.symm.trans hown2)
  have h6 := u_fits hfc hkC hkind (Or.inr hlay) hi hty (v := .ref (ta D b)) (by rcases hty2 with ⟨n, rfl⟩ | ⟨t, rfl⟩ <;> rfl) (by rcases hty2 with ⟨n, rfl⟩ | ⟨t, rfl⟩ <;> rfl)
  have ht := hR.ta ha
  show W _ _ _ _ _ _ _ _ _ _ _ _ _ _ _ (F0 m pc lsA (.ref (ta D b) :: .ref (ta D a) :: st.map (tv D)))
  rw [ht]
  refine W.putFinK hx hb hown (hts _ hlink) hi hst hcf hI (by rw [q2]; exact h6) q1 q3 (by rw [hsl]; exact k2_hasslot (q4 j hj)) rfl rfl d fun H' e1 e2 e3 => ?_
  rw [hsl] at e1 ⊢
  refine k H' _ lsA (put_ob (G' := gPut G a j (some b)) hR ha hs hc hr hj hap q2 q3 q4 e1 e2 e3 rfl rfl (fun k h => up2_ne h) (fun _ _ => rfl) (fun k _ => fval_putR (x := some b) hrr k)) (by rw [e2]; exact hz) (fun q hq => ?_) hL
  rcases List.mem_append.mp hq with h | h
  · exact hl q h
  · rw [List.mem_singleton.mp h]; exact Nat.le_add_right _ _
end Mem
