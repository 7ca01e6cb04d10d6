/-! ===== what the constructors make ===== -/
theorem gNew_e {G : GT} {tag n : Nat} (h1 : G.2.1 G.1 = (tag, n)) (h2 : G.2.2 G.1 = fun _ => none) : gNew G tag n = (G.1 + 1, G.2.1, G.2.2) := by
  unfold gNew
  congr 2
  · funext k
    by_cases e : k = G.1
    · rw [if_pos e, e, h1]
    · rw [if_neg e]
  · funext k
    by_cases e : k = G.1
    · rw [if_pos e, e, h2]
    · rw [if_neg e]
theorem iNew_e {G : GT} {I : IT} (h : I G.1 = fun _ => 0) : iNew G I = I := by
  funext k
  by_cases e : k = G.1
  · rw [iNew, if_pos e, e, h]
  · rw [iNew, if_neg e]
theorem lNew_e {G : GT} {L : LT} (h1 : L.1 G.1 = fun _ => 0) (h2 : L.2 G.1 = fun _ => 0) : lNew G L = L := by
  unfold lNew
  refine Prod.ext ?_ ?_
  · funext k
    by_cases e : k = G.1
    · show (if k = G.1 then (fun _ => 0) else L.1 k) = _
      rw [if_pos e, e, h1]
    · show (if k = G.1 then (fun _ => 0) else L.1 k) = _
      rw [if_neg e]
  · funext k
    by_cases e : k = G.1
    · show (if k = G.1 then (fun _ => 0) else L.2 k) = _
      rw [if_pos e, e, h2]
    · show (if k = G.1 then (fun _ => 0) else L.2 k) = _
      rw [if_neg e]
theorem up2_id {α : Type} {f : Nat → Nat → α} {a j : Nat} {v : α} (h : f a j = v) : up2 f a j v = f := by
  funext k i
  by_cases e : k = a ∧ i = j
  · obtain ⟨rfl, rfl⟩ := e
    rw [up2_same, h]
  · exact if_neg e
/-- nothing lies from here on -/
def Fresh (G : GT) (I : IT) (L : LT) : Prop := ∀ k, G.1 ≤ k → G.2.2 k = (fun _ => none) ∧ I k = (fun _ => 0) ∧ L.1 k = (fun _ => 0) ∧ L.2 k = (fun _ => 0)
def gS (G : GT) : GT := (G.1 + 1, G.2.1, G.2.2)
/-- an array more, in a field of a -/
def stp (a j : Nat) (G : GT) : GT := gPut (gS G) a j (some G.1)
theorem Fresh.g1 {G : GT} {I : IT} {L : LT} (h : Fresh G I L) : Fresh (gS G) I L := fun k hk => h k (Nat.le_of_succ_le hk)
theorem Fresh.put {G : GT} {I : IT} {L : LT} {a j : Nat} {x : Option Nat} (h : Fresh G I L) (ha : a < G.1) : Fresh (gPut G a j x) I L := fun k hk => by
  have hk : G.1 ≤ k := hk
  obtain ⟨h1, h2⟩ := h k hk
  exact ⟨(up2_ne (show k ≠ a by omega)).trans h1, h2⟩
theorem Fresh.up {G : GT} {I : IT} {L : LT} {a j : Nat} {x : Int32} (h : Fresh G I L) (ha : a < G.1) : Fresh G (up2 I a j x) L := fun k hk => by
  obtain ⟨h1, h2, h3⟩ := h k hk
  exact ⟨h1, (up2_ne (show k ≠ a by omega)).trans h2, h3⟩
theorem Fresh.s1 {G : GT} {I : IT} {L : LT} {a j : Nat} (h : Fresh G I L) (ha : a < G.1) : Fresh (stp a j G) I L := h.g1.put (Nat.lt_succ_of_lt ha)
def kG (a : Nat) (G : GT) : GT := stp a 4 (stp a 3 (stp a 2 (stp a 1 (stp a 0 G))))
def lG (a : Nat) (G : GT) : GT := stp a 1 (stp a 0 G)
def iG (a : Nat) (G : GT) : GT := stp a 2 (stp a 1 (stp a 0 G))
theorem Fresh.k5 {G : GT} {I : IT} {L : LT} {a : Nat} (h : Fresh G I L) (ha : a < G.1) : Fresh (kG a G) I L := ((((h.s1 ha).s1 (Nat.lt_succ_of_lt ha)).s1 (by show a < G.1 + 1 + 1; omega)).s1 (by show a < G.1 + 1 + 1 + 1; omega)).s1 (by show a < G.1 + 1 + 1 + 1 + 1; omega)
theorem Fresh.k2 {G : GT} {I : IT} {L : LT} {a : Nat} (h : Fresh G I L) (ha : a < G.1) : Fresh (lG a G) I L := (h.s1 ha).s1 (Nat.lt_succ_of_lt ha)
theorem Fresh.k3 {G : GT} {I : IT} {L : LT} {a : Nat} (h : Fresh G I L) (ha : a < G.1) : Fresh (iG a G) I L := ((h.s1 ha).s1 (Nat.lt_succ_of_lt ha)).s1 (by show a < G.1 + 1 + 1; omega)
/-- an object more with what is its own, in a field of h -/
def subG (f : Nat → GT → GT) (h j : Nat) (G : GT) : GT := gPut (f G.1 (gS G)) h j (some G.1)
def hG (h : Nat) (G : GT) : GT := subG lG h 2 (subG kG h 1 (subG kG h 0 G))
def hsI (h : Nat) (I : IT) : IT := up2 (up2 (up2 (up2 I h 3 (nI 20)) h 8 (nI 12)) h 9 (nI 2)) h 10 (nI 1)
theorem Fresh.sk {G : GT} {I : IT} {L : LT} {h j : Nat} (q : Fresh G I L) (hh : h < G.1) : Fresh (subG kG h j G) I L := (q.g1.k5 (Nat.lt_succ_self _)).put (by show h < G.1 + 1 + 5; omega)
theorem Fresh.sl {G : GT} {I : IT} {L : LT} {h j : Nat} (q : Fresh G I L) (hh : h < G.1) : Fresh (subG lG h j G) I L := (q.g1.k2 (Nat.lt_succ_self _)).put (by show h < G.1 + 1 + 2; omega)
theorem Fresh.hh {G : GT} {I : IT} {L : LT} {h : Nat} (q : Fresh G I L) (hh : h < G.1) : Fresh (hG h G) I L := ((q.sk hh).sk (by show h < G.1 + 6; omega)).sl (by show h < G.1 + 12; omega)
theorem Fresh.hi {G : GT} {I : IT} {L : LT} {h : Nat} (q : Fresh G I L) (hh : h < G.1) : Fresh G (hsI h I) L := (((q.up hh).up hh).up hh).up hh
/-- an array class over the houses, as anewarray finds it -/
def AOX (X : XT) : Prop := match X with
  | (p, l, e, R, s, m, args, below, meth, c, Q) => va_AO "TeaHouse$House" s
section CRules
variable {X : XT} {D : DT} {cc : ByteArray} {own : String} {nL c w : Nat} {G : GT} {I : IT} {L : LT} {pc : Nat} {ls st stk : List Value} {l0 : Launch} {d mc ms d' : Nat}
theorem r_newP (hX : OK X D cc own nL) {idx ci N : Nat} (hroom : Room2 X l0 D d mc ms) (gf : NW own idx ci N) (dd : decode cc pc = .ok (.new idx, 3)) (h1 : c + 1 ≤ mc) (h2 : w + N ≤ ms) (hb : G.1 + 1 < 1000000) (F : Fresh G I L) (hs : G.2.1 G.1 = (ci, 0)) (k : J X D nL (c + 1) (w + N) (gS G) I L (pc + 3) ls (.ref G.1 :: st)) : J X D nL c w G I L pc ls st := by
  obtain ⟨f1, f2, f3, f4⟩ := F _ (Nat.le_refl _)
  refine r_new hX hroom gf dd h1 h2 hb ?_
  rw [gNew_e hs f1, iNew_e f2, lNew_e f3 f4]
  exact k
theorem r_newaP (hX : OK X D cc own nL) {t N : Nat} {atype : ArrayType} {x : Int32} (hroom : Room2 X l0 D d mc ms) (ht : newarray.typeOf atype = arrTy t) (h7 : t < 5) (h4 : t ≠ 4) (hw : Cond.arrayClass (arrTy t) ∈ TW) (dd : decode cc pc = .ok (.newarray atype, 2)) (hx2 : x = nI N) (hN : N < 100000) (h1 : c + 1 ≤ mc) (h2 : w + N ≤ ms) (hb : G.1 + 1 < 1000000) (F : Fresh G I L) (hs : G.2.1 G.1 = (20 + t, N)) (k : J X D nL (c + 1) (w + N) (gS G) I L (pc + 2) ls (.ref G.1 :: st)) : J X D nL c w G I L pc ls (.int x :: st) := by
  obtain ⟨f1, f2, f3, f4⟩ := F _ (Nat.le_refl _)
  refine r_newa hX hroom ht h7 h4 hw dd hx2 hN h1 h2 hb ?_
  rw [gNew_e hs f1, iNew_e f2, lNew_e f3 f4]
  exact k
theorem r_puts (hX : OK X D cc own nL) {idx ci j a z : Nat} {ty : FieldType} (gf : PF own idx ci j ty) (hr : isR ci j = false) (d : decode cc pc = .ok (.putfield idx, 3)) (ha : a < G.1) (hs : G.2.1 a = (ci, z)) {x : Int32} (hn : narrow ty (.int x) = .int x) (hf : fits ty (.int x) = true) (hv : I a j = x) (k : J X D nL c w G I L (pc + 3) ls st) : J X D nL c w G I L pc ls (.int x :: .ref a :: st) :=
  r_putI hX gf hr d ha hs hn hf (by rw [up2_id hv]; exact k)
theorem r_newaA (hX : OK X D cc own nL) (hroom : Room2 X l0 D d mc ms) {idx N : Nat} {x : Int32} (hlink : Cond.classLink own idx "TeaHouse$House" ∈ TW) (hAO : AOX X) (dd : decode cc pc = .ok (.anewarray idx, 3)) (hx2 : x = nI N) (hN : N < 100000) (h1 : c + 1 ≤ mc) (h2 : w + N ≤ ms) (hb : G.1 + 1 < 1000000) (F : Fresh G I L) (hs : G.2.1 G.1 = (24, N)) (k0 : J X D nL (c + 1) (w + N) (gS G) I L (pc + 3) ls (.ref G.1 :: st)) : J X D nL c w G I L pc ls (.int x :: st) := by
  obtain ⟨f1, f2, f3, f4⟩ := F _ (Nat.le_refl _)
  have k : J X D nL (c + 1) (w + N) (gNew G (20 + 4) N) (iNew G I) (lNew G L) (pc + 3) ls (.ref G.1 :: st) := by
    rw [gNew_e hs f1, iNew_e f2, lNew_e f3 f4]
    exact k0
  obtain ⟨p, l, e, R, s, m, args, below, meth, c0, Q⟩ := X
  intro H locs lsA hR hz hl hL
  subst hx2
  obtain ⟨hx, hby, -, hown, hts, hF, -⟩ := hX
  obtain ⟨-, -, -, R1, R2, -⟩ := hroom
  have hcl : (nI N).toNatClampNeg = N := nI_clamp (by omega)
  refine W.anew hx hby hown (hts _ hlink) (va_AO.use hAO) rfl dd rfl (nI_pos (by omega)) (by rw [hcl]; omega) (by omega) (by rw [hcl]; omega) fun cA kA comp q1 q2 q3 q4 => ?_
  have hcA : cA = D.2.2.2.2.1 4 := by
    obtain ⟨kA', comp', -, -, -, q⟩ := (hF.1.2 4 _ (tysL_at D (by omega))).2
    exact Option.some.inj (q1.symm.trans q)
  rw [hcl]
  generalize hH1 : H.push ({ cls := cA, slots := Array.replicate N .null, vm := .none } : Cell) = H1
  have z1 : H1.size = D.1 + G.1 + 1 := by rw [← hH1, Array.size_push, hR.1]
  have e1 : H1[D.1 + G.1]? = some (arrV cA N (fun _ => .null)) := by rw [← hH1, ← hR.1, Array.getElem?_push_size, ← arrV_new]
  have o1 : ∀ q : Nat, q < D.1 + G.1 → H1[q]? = H[q]? := fun q hq => by rw [← hH1, Array.getElem?_push, if_neg (by have := hR.1; omega)]
  have hk := k H1 locs lsA (hR.pushNew hb z1 o1 (CR.to_ar (t := 4) (n := N) (if_pos rfl) (by omega) ?_)) (by have := hR.1; omega) hl hL
  · simp only [List.map_cons] at hk
    have ht : tv D (.ref G.1) = .ref (D.1 + G.1) := by show Value.ref (ta D G.1) = _; rw [ta_lt D hR.2.1]
    rw [ht] at hk
    rw [show H.size = D.1 + G.1 from hR.1]
    exact hk
  · rw [e1, hcA]
    have fin : ∀ (v4 : (Nat → Int32) ⊕ (Nat → Int64) ⊕ (Nat → UInt32) ⊕ (Nat → UInt64) ⊕ (Nat → Option Nat)), arrV4 D (gNew G (20 + 4) N) (iNew G I) (lNew G L) 4 G.1 = v4 → some (arrV (D.2.2.2.2.1 4) N (fun _ => Value.null)) = some (vp_cell (D.2.2.2.2.1 4) (N, v4)) → some (arrV (D.2.2.2.2.1 4) N (fun _ => Value.null)) = some (vp_cell (D.2.2.2.2.1 4) (N, arrV4 D (gNew G (20 + 4) N) (iNew G I) (lNew G L) 4 G.1)) := fun v4 h1 h2 => by rw [h1]; exact h2
    exact fin (.inr (.inr (.inr (.inr (fun _ => none))))) (by simp [arrV4, gNew]) rfl
theorem r_aast (hX : OK X D cc own nL) {a n j b z : Nat} {i : Int32} (d : decode cc pc = .ok (.aastore, 1)) (ha : a < G.1) (hs : G.2.1 a = (24, n)) (hb : b < G.1) (hsb : G.2.1 b = (4, z)) (hi : i = nI j) (hj : j < n) (hn : n < 2 ^ 31) (k : J X D nL c w (gPut G a j (some b)) I L (pc + 1) ls st) : J X D nL c w G I L pc ls (.ref b :: .int i :: .ref a :: st) := by
  obtain ⟨p, l, e, R, s, m, args, below, meth, c0, Q⟩ := X
  intro H locs lsA hR hz hl hL
  subst hi
  obtain ⟨hx, hby, -, hown, hts, hF, -⟩ := hX
  obtain ⟨h1, -⟩ := arr_rd (t := 4) hF (hR.2.2.2 a ha) hs (by omega)
  have h1 : H[D.1 + a]? = some (arrV (D.2.2.2.2.1 4) n (fun q => va_rf ((G.2.2 a q).map (ta D)))) := h1
  obtain ⟨r, hr, cellV, g1, g2, g3, -⟩ := (hR.2.2.2 b hb).ob hsb (by decide)
  cases hr
  have hcls := (hF.1.1 4 _ rfl).2
  obtain ⟨kA, comp, k1, k2, k3, -⟩ := (hF.1.2 4 _ (tysL_at D (by omega))).2
  have hcomp : comp = D.2.2.1 4 := Option.some.inj (k3.symm.trans hcls.1)
  subst hcomp
  obtain ⟨kC, hkC, -⟩ := hcls.2
  have hta := hR.ta ha
  have htb := hR.ta hb
  have hcl : (nI j).toNatClampNeg = j := nI_clamp (by omega)
  show W _ _ _ _ _ _ _ _ _ _ _ _ _ _ _ (F0 m pc lsA (.ref (ta D b) :: .int (nI j) :: .ref (ta D a) :: st.map (tv D)))
  rw [hta, htb]
  refine W.aast hx hby h1 (fun q h => by cases h) (fun h => by cases h) k1 k2 rfl hkC ⟨nI_pos (by omega), by show _ < (arrV _ _ _).slots.size; rw [arrV_size, hcl]; exact hj⟩ g1 (fun q h => by rw [g3] at h; cases h) (by rw [g2]; exact hkC) (by rw [g2]; exact va_assign hcls) rfl rfl d fun H1 e z oq => ?_
  refine k H1 _ lsA (hR.set (G' := gPut G a j (some b)) rfl rfl (fun k h => up2_ne h) (fun _ _ => rfl) (fun _ _ => rfl) (fun _ _ => rfl) z oq (CR.to_ar (t := 4) hs (by omega) ?_)) (by rw [z]; exact hz) (fun q hq => ?_) hL
  · rw [e, hcl, arrV_store]
    show some (arrV _ _ _) = some (arrV (D.2.2.2.2.1 4) n (fun q => va_rf ((up2 G.2.2 a j (some b) a q).map (ta D))))
    congr 2
    funext q
    by_cases hq : q = j
    · subst hq
      simp [updV, up2, va_rf, htb]
    · simp [updV, up2, hq]
  · rcases List.mem_append.mp hq with h | h
    · exact hl q h
    · rw [List.mem_singleton.mp h]; exact Nat.le_add_right _ _
end CRules
def PG (G2 : GT) (I2 : IT) (L : LT) : Res → GT → IT → LT → Prop := fun r G' I' L' => r = .inl none ∧ G' = G2 ∧ I' = I2 ∧ L' = L
theorem PG.quiet {G2 : GT} {I2 : IT} {L : LT} : Quiet (PG G2 I2 L) := fun _ _ _ _ h => by obtain ⟨h, -⟩ := h; cases h
theorem w_cl9 : Cond.classLink "TeaHouse" 9 "TeaHouse$House" ∈ TW := TW_of (i := 66) (by decide +kernel) (by decide +kernel)
section Ctor
variable {l : Launch} {D : DT} {G : GT} {I : IT} {L : LT}
set_option maxRecDepth 100000 in
set_option maxHeartbeats 4000000 in
theorem c_X3_init {a : Nat} (F : Fresh G I L) (ha : G.1 = a + 1) (hsa : G.2.1 a = (6, 0)) (hs : ∀ i, i < 5 → G.2.1 (G.1 + i) = shHl.getD (2 + i) (99, 0)) (hb : G.1 + 10 < 1000000) (h0 : I a = fun _ => 0) : Con l D m_X3_init 2 [.ref a] 5 20 G I L (PG (kG a G) I L) := by
  refine Con.of (by decide +kernel) (by simp [Value.category]) (Nat.le_of_ble_eq_true rfl) (Or.inr (by omega)) (fun X hX hT hI0 => ?_)
  have hX : OK X D cX3_init "TeaHouse$Kettles" 1 := hX
  have hR := RT.room hT
  have hI1 : InInit X := hI0 rfl
  change J X D 1 0 0 _ _ _ 0 [.ref a] []
  have a0 : a < G.1 := by omega
  have F1 := F.s1 (j := 0) (show a < G.1 + 0 by omega)
  have F2 := F1.s1 (j := 1) (show a < G.1 + 1 by omega)
  have F3 := F2.s1 (j := 2) (show a < G.1 + 2 by omega)
  have F4 := F3.s1 (j := 3) (show a < G.1 + 3 by omega)
  have F5 := F4.s1 (j := 4) (show a < G.1 + 4 by omega)
  refine r_aload_n hX dX3_init_0 rfl ?_
  refine r_objInit hX hR oi_X3_3 w_oi1 w_oi2 dX3_init_1 (Nat.le_of_ble_eq_true rfl) (by decide) ?_
  refine r_aload_n hX dX3_init_4 rfl ?_
  refine r_iconst hX dX3_init_5 (v := nI 4) (by decide) ?_
  refine r_newaP (t := 2) hX hR rfl (by decide) (by decide) w_arr_int dX3_init_6 rfl (by decide) (by decide) (by decide) (show G.1 + 0 + 1 < 1000000 by omega) F (hs 0 (by decide)) ?_
  refine r_putF hX hI1 ff_X3_9 rfl dX3_init_8 (show a < G.1 + 0 + 1 by omega) hsa (Or.inr ⟨_, rfl⟩) ?_
  refine r_aload_n hX dX3_init_11 rfl ?_
  refine r_iconst hX dX3_init_12 (v := nI 4) (by decide) ?_
  refine r_newaP (t := 2) hX hR rfl (by decide) (by decide) w_arr_int dX3_init_13 rfl (by decide) (by decide) (by decide) (show G.1 + 1 + 1 < 1000000 by omega) F1 (hs 1 (by decide)) ?_
  refine r_putF hX hI1 ff_X3_15 rfl dX3_init_15 (show a < G.1 + 1 + 1 by omega) hsa (Or.inr ⟨_, rfl⟩) ?_
  refine r_aload_n hX dX3_init_18 rfl ?_
  refine r_iconst hX dX3_init_19 (v := nI 4) (by decide) ?_
  refine r_newaP (t := 2) hX hR rfl (by decide) (by decide) w_arr_int dX3_init_20 rfl (by decide) (by decide) (by decide) (show G.1 + 2 + 1 < 1000000 by omega) F2 (hs 2 (by decide)) ?_
  refine r_putF hX hI1 ff_X3_18 rfl dX3_init_22 (show a < G.1 + 2 + 1 by omega) hsa (Or.inr ⟨_, rfl⟩) ?_
  refine r_aload_n hX dX3_init_25 rfl ?_
  refine r_iconst hX dX3_init_26 (v := nI 4) (by decide) ?_
  refine r_newaP (t := 2) hX hR rfl (by decide) (by decide) w_arr_int dX3_init_27 rfl (by decide) (by decide) (by decide) (show G.1 + 3 + 1 < 1000000 by omega) F3 (hs 3 (by decide)) ?_
  refine r_putF hX hI1 ff_X3_21 rfl dX3_init_29 (show a < G.1 + 3 + 1 by omega) hsa (Or.inr ⟨_, rfl⟩) ?_
  refine r_aload_n hX dX3_init_32 rfl ?_
  refine r_iconst hX dX3_init_33 (v := nI 4) (by decide) ?_
  refine r_newaP (t := 3) hX hR rfl (by decide) (by decide) w_arr_boolean dX3_init_34 rfl (by decide) (by decide) (by decide) (show G.1 + 4 + 1 < 1000000 by omega) F4 (hs 4 (by decide)) ?_
  refine r_putF hX hI1 ff_X3_24 rfl dX3_init_36 (show a < G.1 + 4 + 1 by omega) hsa (Or.inr ⟨_, rfl⟩) ?_
  refine r_aload_n hX dX3_init_39 rfl ?_
  refine r_iconst hX dX3_init_40 (v := nI 0) (by decide) ?_
  refine r_puts hX pf_X3_28 rfl dX3_init_41 (by show a < G.1 + 5; omega) (by exact hsa) (by decide) (by decide) (by rw [h0]; rfl) ?_
  exact r_vret hX hT dX3_init_44 ⟨rfl, rfl, rfl, rfl⟩ (by decide) (by decide)
set_option maxRecDepth 100000 in
set_option maxHeartbeats 4000000 in
theorem c_X5_init {a : Nat} (F : Fresh G I L) (ha : G.1 = a + 1) (hsa : G.2.1 a = (8, 0)) (hs : ∀ i, i < 5 → G.2.1 (G.1 + i) = shHl.getD (8 + i) (99, 0)) (hb : G.1 + 10 < 1000000) (h0 : I a = fun _ => 0) : Con l D m_X5_init 2 [.ref a] 5 50 G I L (PG (kG a G) I L) := by
  refine Con.of (by decide +kernel) (by simp [Value.category]) (Nat.le_of_ble_eq_true rfl) (Or.inr (by omega)) (fun X hX hT hI0 => ?_)
  have hX : OK X D cX5_init "TeaHouse$Orders" 1 := hX
  have hR := RT.room hT
  have hI1 : InInit X := hI0 rfl
  change J X D 1 0 0 _ _ _ 0 [.ref a] []
  have a0 : a < G.1 := by omega
  have F1 := F.s1 (j := 0) (show a < G.1 + 0 by omega)
  have F2 := F1.s1 (j := 1) (show a < G.1 + 1 by omega)
  have F3 := F2.s1 (j := 2) (show a < G.1 + 2 by omega)
  have F4 := F3.s1 (j := 3) (show a < G.1 + 3 by omega)
  have F5 := F4.s1 (j := 4) (show a < G.1 + 4 by omega)
  refine r_aload_n hX dX5_init_0 rfl ?_
  refine r_objInit hX hR oi_X5_3 w_oi1 w_oi2 dX5_init_1 (Nat.le_of_ble_eq_true rfl) (by decide) ?_
  refine r_aload_n hX dX5_init_4 rfl ?_
  refine r_bipush hX dX5_init_5 (v := nI 10) (by decide) ?_
  refine r_newaP (t := 2) hX hR rfl (by decide) (by decide) w_arr_int dX5_init_7 rfl (by decide) (by decide) (by decide) (show G.1 + 0 + 1 < 1000000 by omega) F (hs 0 (by decide)) ?_
  refine r_putF hX hI1 ff_X5_9 rfl dX5_init_9 (show a < G.1 + 0 + 1 by omega) hsa (Or.inr ⟨_, rfl⟩) ?_
  refine r_aload_n hX dX5_init_12 rfl ?_
  refine r_bipush hX dX5_init_13 (v := nI 10) (by decide) ?_
  refine r_newaP (t := 2) hX hR rfl (by decide) (by decide) w_arr_int dX5_init_15 rfl (by decide) (by decide) (by decide) (show G.1 + 1 + 1 < 1000000 by omega) F1 (hs 1 (by decide)) ?_
  refine r_putF hX hI1 ff_X5_15 rfl dX5_init_17 (show a < G.1 + 1 + 1 by omega) hsa (Or.inr ⟨_, rfl⟩) ?_
  refine r_aload_n hX dX5_init_20 rfl ?_
  refine r_bipush hX dX5_init_21 (v := nI 10) (by decide) ?_
  refine r_newaP (t := 2) hX hR rfl (by decide) (by decide) w_arr_int dX5_init_23 rfl (by decide) (by decide) (by decide) (show G.1 + 2 + 1 < 1000000 by omega) F2 (hs 2 (by decide)) ?_
  refine r_putF hX hI1 ff_X5_18 rfl dX5_init_25 (show a < G.1 + 2 + 1 by omega) hsa (Or.inr ⟨_, rfl⟩) ?_
  refine r_aload_n hX dX5_init_28 rfl ?_
  refine r_bipush hX dX5_init_29 (v := nI 10) (by decide) ?_
  refine r_newaP (t := 2) hX hR rfl (by decide) (by decide) w_arr_int dX5_init_31 rfl (by decide) (by decide) (by decide) (show G.1 + 3 + 1 < 1000000 by omega) F3 (hs 3 (by decide)) ?_
  refine r_putF hX hI1 ff_X5_21 rfl dX5_init_33 (show a < G.1 + 3 + 1 by omega) hsa (Or.inr ⟨_, rfl⟩) ?_
  refine r_aload_n hX dX5_init_36 rfl ?_
  refine r_bipush hX dX5_init_37 (v := nI 10) (by decide) ?_
  refine r_newaP (t := 2) hX hR rfl (by decide) (by decide) w_arr_int dX5_init_39 rfl (by decide) (by decide) (by decide) (show G.1 + 4 + 1 < 1000000 by omega) F4 (hs 4 (by decide)) ?_
  refine r_putF hX hI1 ff_X5_24 rfl dX5_init_41 (show a < G.1 + 4 + 1 by omega) hsa (Or.inr ⟨_, rfl⟩) ?_
  refine r_aload_n hX dX5_init_44 rfl ?_
  refine r_iconst hX dX5_init_45 (v := nI 0) (by decide) ?_
  refine r_puts hX pf_X5_27 rfl dX5_init_46 (by show a < G.1 + 5; omega) (by exact hsa) (by decide) (by decide) (by rw [h0]; rfl) ?_
  refine r_aload_n hX dX5_init_49 rfl ?_
  refine r_iconst hX dX5_init_50 (v := nI 0) (by decide) ?_
  refine r_puts hX pf_X5_31 rfl dX5_init_51 (by show a < G.1 + 5; omega) (by exact hsa) (by decide) (by decide) (by rw [h0]; rfl) ?_
  exact r_vret hX hT dX5_init_54 ⟨rfl, rfl, rfl, rfl⟩ (by decide) (by decide)
set_option maxRecDepth 100000 in
set_option maxHeartbeats 4000000 in
theorem c_X4_init {a : Nat} (F : Fresh G I L) (ha : G.1 = a + 1) (hsa : G.2.1 a = (7, 0)) (hs : ∀ i, i < 2 → G.2.1 (G.1 + i) = shHl.getD (14 + i) (99, 0)) (hb : G.1 + 10 < 1000000) (h0 : I a = fun _ => 0) : Con l D m_X4_init 2 [.ref a] 2 29 G I L (PG (lG a G) I L) := by
  refine Con.of (by decide +kernel) (by simp [Value.category]) (Nat.le_of_ble_eq_true rfl) (Or.inr (by omega)) (fun X hX hT hI0 => ?_)
  have hX : OK X D cX4_init "TeaHouse$Ledger" 1 := hX
  have hR := RT.room hT
  have hI1 : InInit X := hI0 rfl
  change J X D 1 0 0 _ _ _ 0 [.ref a] []
  have a0 : a < G.1 := by omega
  have F1 := F.s1 (j := 0) (show a < G.1 + 0 by omega)
  have F2 := F1.s1 (j := 1) (show a < G.1 + 1 by omega)
  refine r_aload_n hX dX4_init_0 rfl ?_
  refine r_objInit hX hR oi_X4_3 w_oi1 w_oi2 dX4_init_1 (Nat.le_of_ble_eq_true rfl) (by decide) ?_
  refine r_aload_n hX dX4_init_4 rfl ?_
  refine r_bipush hX dX4_init_5 (v := nI 14) (by decide) ?_
  refine r_newaP (t := 2) hX hR rfl (by decide) (by decide) w_arr_int dX4_init_7 rfl (by decide) (by decide) (by decide) (show G.1 + 0 + 1 < 1000000 by omega) F (hs 0 (by decide)) ?_
  refine r_putF hX hI1 ff_X4_9 rfl dX4_init_9 (show a < G.1 + 0 + 1 by omega) hsa (Or.inr ⟨_, rfl⟩) ?_
  refine r_aload_n hX dX4_init_12 rfl ?_
  refine r_bipush hX dX4_init_13 (v := nI 15) (by decide) ?_
  refine r_newaP (t := 2) hX hR rfl (by decide) (by decide) w_arr_int dX4_init_15 rfl (by decide) (by decide) (by decide) (show G.1 + 1 + 1 < 1000000 by omega) F1 (hs 1 (by decide)) ?_
  refine r_putF hX hI1 ff_X4_15 rfl dX4_init_17 (show a < G.1 + 1 + 1 by omega) hsa (Or.inr ⟨_, rfl⟩) ?_
  refine r_aload_n hX dX4_init_20 rfl ?_
  refine r_iconst hX dX4_init_21 (v := nI 0) (by decide) ?_
  refine r_puts hX pf_X4_18 rfl dX4_init_22 (by show a < G.1 + 2; omega) (by exact hsa) (by decide) (by decide) (by rw [h0]; rfl) ?_
  refine r_aload_n hX dX4_init_25 rfl ?_
  refine r_iconst hX dX4_init_26 (v := nI 0) (by decide) ?_
  refine r_puts hX pf_X4_22 rfl dX4_init_27 (by show a < G.1 + 2; omega) (by exact hsa) (by decide) (by decide) (by rw [h0]; rfl) ?_
  refine r_aload_n hX dX4_init_30 rfl ?_
  refine r_iconst hX dX4_init_31 (v := nI 0) (by decide) ?_
  refine r_puts hX pf_X4_25 rfl dX4_init_32 (by show a < G.1 + 2; omega) (by exact hsa) (by decide) (by decide) (by rw [h0]; rfl) ?_
  refine r_aload_n hX dX4_init_35 rfl ?_
  refine r_iconst hX dX4_init_36 (v := nI 0) (by decide) ?_
  refine r_puts hX pf_X4_28 rfl dX4_init_37 (by show a < G.1 + 2; omega) (by exact hsa) (by decide) (by decide) (by rw [h0]; rfl) ?_
  exact r_vret hX hT dX4_init_40 ⟨rfl, rfl, rfl, rfl⟩ (by decide) (by decide)
set_option maxRecDepth 100000 in
set_option maxHeartbeats 4000000 in
theorem c_X1_init {h : Nat} (F : Fresh G I L) (hh : G.1 = h + 1) (hsa : G.2.1 h = (4, 0)) (hs : ∀ i, i < 15 → G.2.1 (G.1 + i) = shHl.getD (1 + i) (99, 0)) (hb : G.1 + 30 < 1000000) (h0 : I h = fun _ => 0) : Con l D m_X1_init 3 [.ref h] 15 118 G I L (PG (hG h G) (hsI h I) L) := by
  refine Con.of (by decide +kernel) (by simp [Value.category]) (Nat.le_of_ble_eq_true rfl) (Or.inr (by omega)) (fun X hX hT hI0 => ?_)
  have hX : OK X D cX1_init "TeaHouse$House" 1 := hX
  have hR := RT.room hT
  have hI1 : InInit X := hI0 rfl
  change J X D 1 0 0 _ _ _ 0 [.ref h] []
  have a0 : h < G.1 := by omega
  have F1 := F.sk (j := 0) a0
  have F2 := F1.sk (j := 1) (show h < G.1 + 6 by omega)
  have z1 : I G.1 = fun _ => 0 := (F _ (Nat.le_refl _)).2.1
  have z2 : I (G.1 + 6) = fun _ => 0 := (F _ (by omega)).2.1
  have z3 : I (G.1 + 12) = fun _ => 0 := (F _ (by omega)).2.1
  refine r_aload_n hX dX1_init_0 rfl ?_
  refine r_objInit hX hR oi_X1_3 w_oi1 w_oi2 dX1_init_1 (Nat.le_of_ble_eq_true rfl) (by decide) ?_
  refine r_aload_n hX dX1_init_4 rfl ?_
  refine r_newP hX hR nw_X1_9 dX1_init_5 (by decide) (by decide) (show G.1 + 0 + 1 < 1000000 by omega) F (hs 0 (by decide)) ?_
  refine r_dup hX dX1_init_8 rfl ?_
  refine r_callN (y := yX3_init) (bytes := cX3_init) (maxL := 1) (As := []) hX hR (c_X3_init (a := G.1 + 0) F.g1 rfl (hs 0 (by decide)) (fun i hi => ?_) (show G.1 + 0 + 1 + 10 < 1000000 by omega) z1) PG.quiet lk_X1_11 dX1_init_9 rfl rfl (Nat.le_of_ble_eq_true rfl) (by decide) (by decide) (by decide) ?_
  · have := hs (0 + 1 + i) (by omega)
    rw [show 1 + (0 + 1 + i) = 2 + i by omega] at this
    exact (congrArg G.2.1 (show G.1 + 0 + 1 + i = G.1 + (0 + 1 + i) by omega)).trans this
  rintro r G' I' L' ⟨e1, rfl, rfl, rfl⟩
  cases e1
  refine r_putF hX hI1 ff_X1_12 rfl dX1_init_12 (show h < G.1 + 6 by omega) hsa (Or.inl ⟨_, rfl⟩) ?_
  refine r_aload_n hX dX1_init_15 rfl ?_
  refine r_newP hX hR nw_X1_18 dX1_init_16 (by decide) (by decide) (show G.1 + 6 + 1 < 1000000 by omega) F1 (hs 6 (by decide)) ?_
  refine r_dup hX dX1_init_19 rfl ?_
  refine r_callN (y := yX5_init) (bytes := cX5_init) (maxL := 1) (As := []) hX hR (c_X5_init (a := G.1 + 6) F1.g1 rfl (hs 6 (by decide)) (fun i hi => ?_) (show G.1 + 6 + 1 + 10 < 1000000 by omega) z2) PG.quiet lk_X1_20 dX1_init_20 rfl rfl (Nat.le_of_ble_eq_true rfl) (by decide) (by decide) (by decide) ?_
  · have := hs (6 + 1 + i) (by omega)
    rw [show 1 + (6 + 1 + i) = 8 + i by omega] at this
    exact (congrArg G.2.1 (show G.1 + 6 + 1 + i = G.1 + (6 + 1 + i) by omega)).trans this
  rintro r G' I' L' ⟨e1, rfl, rfl, rfl⟩
  cases e1
  refine r_putF hX hI1 ff_X1_21 rfl dX1_init_23 (show h < G.1 + 12 by omega) hsa (Or.inl ⟨_, rfl⟩) ?_
  refine r_aload_n hX dX1_init_26 rfl ?_
  refine r_newP hX hR nw_X1_25 dX1_init_27 (by decide) (by decide) (show G.1 + 12 + 1 < 1000000 by omega) F2 (hs 12 (by decide)) ?_
  refine r_dup hX dX1_init_30 rfl ?_
  refine r_callN (y := yX4_init) (bytes := cX4_init) (maxL := 1) (As := []) hX hR (c_X4_init (a := G.1 + 12) F2.g1 rfl (hs 12 (by decide)) (fun i hi => ?_) (show G.1 + 12 + 1 + 10 < 1000000 by omega) z3) PG.quiet lk_X1_27 dX1_init_31 rfl rfl (Nat.le_of_ble_eq_true rfl) (by decide) (by decide) (by decide) ?_
  · have := hs (12 + 1 + i) (by omega)
    rw [show 1 + (12 + 1 + i) = 14 + i by omega] at this
    exact (congrArg G.2.1 (show G.1 + 12 + 1 + i = G.1 + (12 + 1 + i) by omega)).trans this
  rintro r G' I' L' ⟨e1, rfl, rfl, rfl⟩
  cases e1
  refine r_putF hX hI1 ff_X1_28 rfl dX1_init_34 (show h < G.1 + 15 by omega) hsa (Or.inl ⟨_, rfl⟩) ?_
  refine r_aload_n hX dX1_init_37 rfl ?_
  refine r_bipush hX dX1_init_38 (v := nI 20) (by decide) ?_
  refine r_putI hX pf_X1_32 rfl dX1_init_40 (by show h < G.1 + 15; omega) (by exact hsa) (by decide) (by decide) ?_
  refine r_aload_n hX dX1_init_43 rfl ?_
  refine r_iconst hX dX1_init_44 (v := nI 0) (by decide) ?_
  refine r_puts hX pf_X1_36 rfl dX1_init_45 (by show h < G.1 + 15; omega) (by exact hsa) (by decide) (by decide) (by simp [up2, h0, nI_0]) ?_
  refine r_aload_n hX dX1_init_48 rfl ?_
  refine r_iconst hX dX1_init_49 (v := nI 0) (by decide) ?_
  refine r_puts hX pf_X1_39 rfl dX1_init_50 (by show h < G.1 + 15; omega) (by exact hsa) (by decide) (by decide) (by simp [up2, h0, nI_0]) ?_
  refine r_aload_n hX dX1_init_53 rfl ?_
  refine r_iconst hX dX1_init_54 (v := nI 0) (by decide) ?_
  refine r_puts hX pf_X1_42 rfl dX1_init_55 (by show h < G.1 + 15; omega) (by exact hsa) (by decide) (by decide) (by simp [up2, h0, nI_0]) ?_
  refine r_aload_n hX dX1_init_58 rfl ?_
  refine r_iconst hX dX1_init_59 (v := nI 0) (by decide) ?_
  refine r_puts hX pf_X1_45 rfl dX1_init_60 (by show h < G.1 + 15; omega) (by exact hsa) (by decide) (by decide) (by simp [up2, h0, nI_0]) ?_
  refine r_aload_n hX dX1_init_63 rfl ?_
  refine r_bipush hX dX1_init_64 (v := nI 12) (by decide) ?_
  refine r_putI hX pf_X1_48 rfl dX1_init_66 (by show h < G.1 + 15; omega) (by exact hsa) (by decide) (by decide) ?_
  refine r_aload_n hX dX1_init_69 rfl ?_
  refine r_iconst hX dX1_init_70 (v := nI 2) (by decide) ?_
  refine r_putI hX pf_X1_51 rfl dX1_init_71 (by show h < G.1 + 15; omega) (by exact hsa) (by decide) (by decide) ?_
  refine r_aload_n hX dX1_init_74 rfl ?_
  refine r_iconst hX dX1_init_75 (v := nI 1) (by decide) ?_
  refine r_putI hX pf_X1_54 rfl dX1_init_76 (by show h < G.1 + 15; omega) (by exact hsa) (by decide) (by decide) ?_
  refine r_aload_n hX dX1_init_79 rfl ?_
  refine r_iconst hX dX1_init_80 (v := nI 0) (by decide) ?_
  refine r_puts hX pf_X1_58 rfl dX1_init_81 (by show h < G.1 + 15; omega) (by exact hsa) (by decide) (by decide) (by simp [up2, h0, nI_0]) ?_
  refine r_aload_n hX dX1_init_84 rfl ?_
  refine r_iconst hX dX1_init_85 (v := nI 0) (by decide) ?_
  refine r_puts hX pf_X1_61 rfl dX1_init_86 (by show h < G.1 + 15; omega) (by exact hsa) (by decide) (by decide) (by simp [up2, h0, nI_0]) ?_
  refine r_aload_n hX dX1_init_89 rfl ?_
  refine r_iconst hX dX1_init_90 (v := nI 0) (by decide) ?_
  refine r_puts hX pf_X1_64 rfl dX1_init_91 (by show h < G.1 + 15; omega) (by exact hsa) (by decide) (by decide) (by simp [up2, h0, nI_0]) ?_
  exact r_vret hX hT dX1_init_94 ⟨rfl, rfl, rfl, rfl⟩ (by decide) (by decide)
end Ctor
