/-! ===== arrays ===== -/
section Arr
variable {X : XT} {D : DT} {cc : ByteArray} {own : String} {nL c w : Nat} {G : GT} {I : IT} {L : LT} {pc : Nat} {ls st : List Value}
theorem arr_rd {D : DT} {G : GT} {I : IT} {L : LT} {H : Heap} {a t n : Nat} {s : State} (hF : Facts D s) (h : CR D G I L H a) (hs : G.2.1 a = (20 + t, n)) (ht : t < 5) : H[D.1 + a]? = some (vp_cell (D.2.2.2.2.1 t) (n, arrV4 D G I L t a)) ∧ ArrOfT s (D.2.2.2.2.1 t) (arrTy t) := ⟨h.ar hs ht, (hF.1.2 t _ (tysL_at D ht)).1⟩
theorem r_alen (hX : OK X D cc own nL) {a t n : Nat} (d : decode cc pc = .ok (.arraylength, 1)) (ha : a < G.1) (hs : G.2.1 a = (20 + t, n)) (ht : t < 4) (k : J X D nL c w G I L (pc + 1) ls (.int (nI n) :: st)) : J X D nL c w G I L pc ls (.ref a :: st) := by
  obtain ⟨p, l, e, R, s, m, args, below, meth, c0, Q⟩ := X
  intro H locs lsA hR hz hl hL
  obtain ⟨h1, h2⟩ := arr_rd hX.2.2.2.2.2.1 (hR.2.2.2 a ha) hs (by omega : t < 5)
  have hta := hR.ta ha
  show W _ _ _ _ _ _ _ _ _ _ _ _ _ _ _ (F0 m pc lsA (.ref (ta D a) :: st.map (tv D)))
  rw [hta]
  simp only [arrV4, ht, if_true] at h1
  rw [vp_cell_i] at h1
  exact W.alen (n := nI n) hX.1 hX.2.1 h1 (h2 n _) (by rw [arrV_size]; rfl) rfl rfl d (k H locs lsA hR hz hl hL)
theorem r_bald (hX : OK X D cc own nL) {a n j : Nat} {i : Int32} (d : decode cc pc = .ok (.baload, 1)) (ha : a < G.1) (hs : G.2.1 a = (20, n)) (hi : i = nI j) (hj : j < n) (hn : n < 2 ^ 31) (k : J X D nL c w G I L (pc + 1) ls (.int (I a j) :: st)) : J X D nL c w G I L pc ls (.int i :: .ref a :: st) := by
  obtain ⟨p, l, e, R, s, m, args, below, meth, c0, Q⟩ := X
  intro H locs lsA hR hz hl hL
  subst hi
  obtain ⟨h1, h2⟩ := arr_rd (t := 0) hX.2.2.2.2.2.1 (hR.2.2.2 a ha) hs (by omega)
  have hta := hR.ta ha
  show W _ _ _ _ _ _ _ _ _ _ _ _ _ _ _ (F0 m pc lsA (.int (nI j) :: .ref (ta D a) :: st.map (tv D)))
  rw [hta]
  have h1 : H[D.1 + a]? = some (arrV (D.2.2.2.2.1 0) n (fun q => .int (I a q))) := h1
  exact W.bald (v := .int (I a j)) hX.1 hX.2.1 h1 (h2 n _) (fun q => by cases q) (by rw [arrV_size]; exact vp_in_nI hj hn) (by rw [nI_clamp (Nat.lt_trans hj hn), arrV_read _ _ hj]) rfl rfl d (k H locs lsA hR hz hl hL)
theorem r_cald (hX : OK X D cc own nL) {a n j : Nat} {i : Int32} (d : decode cc pc = .ok (.caload, 1)) (ha : a < G.1) (hs : G.2.1 a = (21, n)) (hi : i = nI j) (hj : j < n) (hn : n < 2 ^ 31) (k : J X D nL c w G I L (pc + 1) ls (.int (I a j) :: st)) : J X D nL c w G I L pc ls (.int i :: .ref a :: st) := by
  obtain ⟨p, l, e, R, s, m, args, below, meth, c0, Q⟩ := X
  intro H locs lsA hR hz hl hL
  subst hi
  obtain ⟨h1, h2⟩ := arr_rd (t := 1) hX.2.2.2.2.2.1 (hR.2.2.2 a ha) hs (by omega)
  have hta := hR.ta ha
  show W _ _ _ _ _ _ _ _ _ _ _ _ _ _ _ (F0 m pc lsA (.int (nI j) :: .ref (ta D a) :: st.map (tv D)))
  rw [hta]
  have h1 : H[D.1 + a]? = some (arrV (D.2.2.2.2.1 1) n (fun q => .int (I a q))) := h1
  exact W.cald (v := .int (I a j)) hX.1 hX.2.1 h1 (h2 n _) (fun q => by cases q) (by rw [arrV_size]; exact vp_in_nI hj hn) (by rw [nI_clamp (Nat.lt_trans hj hn), arrV_read _ _ hj]) rfl rfl d (k H locs lsA hR hz hl hL)
theorem r_iald (hX : OK X D cc own nL) {a n j : Nat} {i : Int32} (d : decode cc pc = .ok (.iaload, 1)) (ha : a < G.1) (hs : G.2.1 a = (22, n)) (hi : i = nI j) (hj : j < n) (hn : n < 2 ^ 31) (k : J X D nL c w G I L (pc + 1) ls (.int (I a j) :: st)) : J X D nL c w G I L pc ls (.int i :: .ref a :: st) := by
  obtain ⟨p, l, e, R, s, m, args, below, meth, c0, Q⟩ := X
  intro H locs lsA hR hz hl hL
  subst hi
  obtain ⟨h1, h2⟩ := arr_rd (t := 2) hX.2.2.2.2.2.1 (hR.2.2.2 a ha) hs (by omega)
  have hta := hR.ta ha
  show W _ _ _ _ _ _ _ _ _ _ _ _ _ _ _ (F0 m pc lsA (.int (nI j) :: .ref (ta D a) :: st.map (tv D)))
  rw [hta]
  have h1 : H[D.1 + a]? = some (arrV (D.2.2.2.2.1 2) n (fun q => .int (I a q))) := h1
  exact W.iald (v := .int (I a j)) hX.1 hX.2.1 h1 (h2 n _) (fun q => by cases q) (by rw [arrV_size]; exact vp_in_nI hj hn) (by rw [nI_clamp (Nat.lt_trans hj hn), arrV_read _ _ hj]) rfl rfl d (k H locs lsA hR hz hl hL)
theorem r_zald (hX : OK X D cc own nL) {a n j : Nat} {i : Int32} (d : decode cc pc = .ok (.baload, 1)) (ha : a < G.1) (hs : G.2.1 a = (23, n)) (hi : i = nI j) (hj : j < n) (hn : n < 2 ^ 31) (k : J X D nL c w G I L (pc + 1) ls (.int (I a j) :: st)) : J X D nL c w G I L pc ls (.int i :: .ref a :: st) := by
  obtain ⟨p, l, e, R, s, m, args, below, meth, c0, Q⟩ := X
  intro H locs lsA hR hz hl hL
  subst hi
  obtain ⟨h1, h2⟩ := arr_rd (t := 3) hX.2.2.2.2.2.1 (hR.2.2.2 a ha) hs (by omega)
  have hta := hR.ta ha
  show W _ _ _ _ _ _ _ _ _ _ _ _ _ _ _ (F0 m pc lsA (.int (nI j) :: .ref (ta D a) :: st.map (tv D)))
  rw [hta]
  have h1 : H[D.1 + a]? = some (arrV (D.2.2.2.2.1 3) n (fun q => .int (I a q))) := h1
  exact W.zald (v := .int (I a j)) hX.1 hX.2.1 h1 (h2 n _) (fun q => by cases q) (by rw [arrV_size]; exact vp_in_nI hj hn) (by rw [nI_clamp (Nat.lt_trans hj hn), arrV_read _ _ hj]) rfl rfl d (k H locs lsA hR hz hl hL)
theorem r_bast (hX : OK X D cc own nL) {a n j : Nat} {i x y : Int32} (d : decode cc pc = .ok (.bastore, 1)) (ha : a < G.1) (hs : G.2.1 a = (20, n)) (hi : i = nI j) (hj : j < n) (hn : n < 2 ^ 31) (hy : (vp_nar .byte x) = y) (k : J X D nL c w G (up2 I a j y) L (pc + 1) ls st) : J X D nL c w G I L pc ls (.int x :: .int i :: .ref a :: st) := by
  obtain ⟨p, l, e, R, s, m, args, below, meth, c0, Q⟩ := X
  intro H locs lsA hR hz hl hL
  subst hi
  subst hy
  obtain ⟨h1, h2⟩ := arr_rd (t := 0) hX.2.2.2.2.2.1 (hR.2.2.2 a ha) hs (by omega)
  have hta := hR.ta ha
  show W _ _ _ _ _ _ _ _ _ _ _ _ _ _ _ (F0 m pc lsA (.int x :: .int (nI j) :: .ref (ta D a) :: st.map (tv D)))
  rw [hta]
  have h1 : H[D.1 + a]? = some (arrV (D.2.2.2.2.1 0) n (fun q => .int (I a q))) := h1
  refine W.bast hX.1 hX.2.1 h1 (h2 n _) (fun q => by cases q) (by rw [arrV_size]; exact vp_in_nI hj hn) rfl rfl d fun H1 e1 z1 o1 => ?_
  refine k H1 _ lsA (hR.set rfl rfl (fun _ _ => rfl) (fun k h => up2_ne h) (fun _ _ => rfl) (fun _ _ => rfl) z1 o1 (CR.to_ar (t := 0) hs (by omega) ?_)) (by rw [z1]; exact hz) (fun q hq => ?_) hL
  · rw [e1, nI_clamp (Nat.lt_trans hj hn), arrV_store]
    show some (arrV _ _ _) = some (arrV (D.2.2.2.2.1 0) n (fun q => .int (up2 I a j (vp_nar .byte x) a q)))
    congr 2
    funext q
    by_cases hq : q = j
    · subst hq
      simp [updV, up2, vp_nar]
      try rfl
    · simp [updV, up2, hq]
  · rcases List.mem_append.mp hq with h | h
    · exact hl q h
    · rw [List.mem_singleton.mp h]; exact Nat.le_add_right _ _
theorem r_cast (hX : OK X D cc own nL) {a n j : Nat} {i x y : Int32} (d : decode cc pc = .ok (.castore, 1)) (ha : a < G.1) (hs : G.2.1 a = (21, n)) (hi : i = nI j) (hj : j < n) (hn : n < 2 ^ 31) (hy : (vp_nar .char x) = y) (k : J X D nL c w G (up2 I a j y) L (pc + 1) ls st) : J X D nL c w G I L pc ls (.int x :: .int i :: .ref a :: st) := by
  obtain ⟨p, l, e, R, s, m, args, below, meth, c0, Q⟩ := X
  intro H locs lsA hR hz hl hL
  subst hi
  subst hy
  obtain ⟨h1, h2⟩ := arr_rd (t := 1) hX.2.2.2.2.2.1 (hR.2.2.2 a ha) hs (by omega)
  have hta := hR.ta ha
  show W _ _ _ _ _ _ _ _ _ _ _ _ _ _ _ (F0 m pc lsA (.int x :: .int (nI j) :: .ref (ta D a) :: st.map (tv D)))
  rw [hta]
  have h1 : H[D.1 + a]? = some (arrV (D.2.2.2.2.1 1) n (fun q => .int (I a q))) := h1
  refine W.cast hX.1 hX.2.1 h1 (h2 n _) (fun q => by cases q) (by rw [arrV_size]; exact vp_in_nI hj hn) rfl rfl d fun H1 e1 z1 o1 => ?_
  refine k H1 _ lsA (hR.set rfl rfl (fun _ _ => rfl) (fun k h => up2_ne h) (fun _ _ => rfl) (fun _ _ => rfl) z1 o1 (CR.to_ar (t := 1) hs (by omega) ?_)) (by rw [z1]; exact hz) (fun q hq => ?_) hL
  · rw [e1, nI_clamp (Nat.lt_trans hj hn), arrV_store]
    show some (arrV _ _ _) = some (arrV (D.2.2.2.2.1 1) n (fun q => .int (up2 I a j (vp_nar .char x) a q)))
    congr 2
    funext q
    by_cases hq : q = j
    · subst hq
      simp [updV, up2, vp_nar]
      try rfl
    · simp [updV, up2, hq]
  · rcases List.mem_append.mp hq with h | h
    · exact hl q h
    · rw [List.mem_singleton.mp h]; exact Nat.le_add_right _ _
theorem r_iast (hX : OK X D cc own nL) {a n j : Nat} {i x y : Int32} (d : decode cc pc = .ok (.iastore, 1)) (ha : a < G.1) (hs : G.2.1 a = (22, n)) (hi : i = nI j) (hj : j < n) (hn : n < 2 ^ 31) (hy : x = y) (k : J X D nL c w G (up2 I a j y) L (pc + 1) ls st) : J X D nL c w G I L pc ls (.int x :: .int i :: .ref a :: st) := by
  obtain ⟨p, l, e, R, s, m, args, below, meth, c0, Q⟩ := X
  intro H locs lsA hR hz hl hL
  subst hi
  subst hy
  obtain ⟨h1, h2⟩ := arr_rd (t := 2) hX.2.2.2.2.2.1 (hR.2.2.2 a ha) hs (by omega)
  have hta := hR.ta ha
  show W _ _ _ _ _ _ _ _ _ _ _ _ _ _ _ (F0 m pc lsA (.int x :: .int (nI j) :: .ref (ta D a) :: st.map (tv D)))
  rw [hta]
  have h1 : H[D.1 + a]? = some (arrV (D.2.2.2.2.1 2) n (fun q => .int (I a q))) := h1
  refine W.iast hX.1 hX.2.1 h1 (h2 n _) (fun q => by cases q) (by rw [arrV_size]; exact vp_in_nI hj hn) rfl rfl d fun H1 e1 z1 o1 => ?_
  refine k H1 _ lsA (hR.set rfl rfl (fun _ _ => rfl) (fun k h => up2_ne h) (fun _ _ => rfl) (fun _ _ => rfl) z1 o1 (CR.to_ar (t := 2) hs (by omega) ?_)) (by rw [z1]; exact hz) (fun q hq => ?_) hL
  · rw [e1, nI_clamp (Nat.lt_trans hj hn), arrV_store]
    show some (arrV _ _ _) = some (arrV (D.2.2.2.2.1 2) n (fun q => .int (up2 I a j x a q)))
    congr 2
    funext q
    by_cases hq : q = j
    · subst hq
      simp [updV, up2, vp_nar]
      try rfl
    · simp [updV, up2, hq]
  · rcases List.mem_append.mp hq with h | h
    · exact hl q h
    · rw [List.mem_singleton.mp h]; exact Nat.le_add_right _ _
theorem r_zast (hX : OK X D cc own nL) {a n j : Nat} {i x y : Int32} (d : decode cc pc = .ok (.bastore, 1)) (ha : a < G.1) (hs : G.2.1 a = (23, n)) (hi : i = nI j) (hj : j < n) (hn : n < 2 ^ 31) (hy : (vp_nar .boolean x) = y) (k : J X D nL c w G (up2 I a j y) L (pc + 1) ls st) : J X D nL c w G I L pc ls (.int x :: .int i :: .ref a :: st) := by
  obtain ⟨p, l, e, R, s, m, args, below, meth, c0, Q⟩ := X
  intro H locs lsA hR hz hl hL
  subst hi
  subst hy
  obtain ⟨h1, h2⟩ := arr_rd (t := 3) hX.2.2.2.2.2.1 (hR.2.2.2 a ha) hs (by omega)
  have hta := hR.ta ha
  show W _ _ _ _ _ _ _ _ _ _ _ _ _ _ _ (F0 m pc lsA (.int x :: .int (nI j) :: .ref (ta D a) :: st.map (tv D)))
  rw [hta]
  have h1 : H[D.1 + a]? = some (arrV (D.2.2.2.2.1 3) n (fun q => .int (I a q))) := h1
  refine W.zast hX.1 hX.2.1 h1 (h2 n _) (fun q => by cases q) (by rw [arrV_size]; exact vp_in_nI hj hn) rfl rfl d fun H1 e1 z1 o1 => ?_
  refine k H1 _ lsA (hR.set rfl rfl (fun _ _ => rfl) (fun k h => up2_ne h) (fun _ _ => rfl) (fun _ _ => rfl) z1 o1 (CR.to_ar (t := 3) hs (by omega) ?_)) (by rw [z1]; exact hz) (fun q hq => ?_) hL
  · rw [e1, nI_clamp (Nat.lt_trans hj hn), arrV_store]
    show some (arrV _ _ _) = some (arrV (D.2.2.2.2.1 3) n (fun q => .int (up2 I a j (vp_nar .boolean x) a q)))
    congr 2
    funext q
    by_cases hq : q = j
    · subst hq
      simp [updV, up2, vp_nar]
      try rfl
    · simp [updV, up2, hq]
  · rcases List.mem_append.mp hq with h | h
    · exact hl q h
    · rw [List.mem_singleton.mp h]; exact Nat.le_add_right _ _
theorem r_aald (hX : OK X D cc own nL) {a n j b : Nat} {i : Int32} (d : decode cc pc = .ok (.aaload, 1)) (ha : a < G.1) (hs : G.2.1 a = (24, n)) (hi : i = nI j) (hj : j < n) (hn : n < 2 ^ 31) (hb : G.2.2 a j = some b) (k : J X D nL c w G I L (pc + 1) ls (.ref b :: st)) : J X D nL c w G I L pc ls (.int i :: .ref a :: st) := by
  obtain ⟨p, l, e, R, s, m, args, below, meth, c0, Q⟩ := X
  intro H locs lsA hR hz hl hL
  subst hi
  obtain ⟨h1, h2⟩ := arr_rd (t := 4) hX.2.2.2.2.2.1 (hR.2.2.2 a ha) hs (by omega)
  have hta := hR.ta ha
  show W _ _ _ _ _ _ _ _ _ _ _ _ _ _ _ (F0 m pc lsA (.int (nI j) :: .ref (ta D a) :: st.map (tv D)))
  rw [hta]
  have h1 : H[D.1 + a]? = some (arrV (D.2.2.2.2.1 4) n (fun q => va_rf ((G.2.2 a q).map (ta D)))) := h1
  exact W.aald (v := .ref (ta D b)) (ty := arrTy 4) hX.1 hX.2.1 h1 (h2 n _) rfl (fun q => by cases q) (by rw [arrV_size]; exact vp_in_nI hj hn) (by rw [nI_clamp (Nat.lt_trans hj hn), arrV_read _ _ hj, hb]; rfl) rfl rfl d (k H locs lsA hR hz hl hL)
end Arr
