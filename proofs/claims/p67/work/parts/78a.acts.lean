/-! ===== what the script's turns do to the house ===== -/
theorem n_mod {a b : Nat} (ha : a < 2147483648) (hb : b < 2147483648) (h0 : 0 < b) : nI a - nI a / nI b * nI b = nI (a % b) := by
  rw [n_div ha hb h0, pk_mul, n_sub (Nat.div_mul_le_self a b)]
  congr 1
  have := Nat.div_add_mod a b
  rw [Nat.mul_comm] at this
  omega
theorem ushr_ex (x : Int32) : ∃ u, u < 536870912 ∧ ushr3 x = nI u := by
  have h : (x.toUInt32 >>> ((nI 3).toUInt32 &&& Int32.toUInt32 31)).toNat < 536870912 := by
    rw [show (nI 3).toUInt32 &&& Int32.toUInt32 31 = 3 by decide, UInt32.toNat_shiftRight]
    show x.toUInt32.toNat >>> 3 < _
    rw [Nat.shiftRight_eq_div_pow]
    have := x.toUInt32.toNat_lt
    omega
  refine ⟨_, h, ?_⟩
  unfold ushr3
  generalize (x.toUInt32 >>> ((nI 3).toUInt32 &&& Int32.toUInt32 31)) = y at h ⊢
  apply Int32.toInt_inj.mp
  rw [nI_toInt (by omega)]
  show y.toBitVec.toInt = _
  rw [BitVec.toInt_eq_toNat_of_lt (by show 2 * y.toNat < _; omega)]
  rfl
theorem ite_i {c : Prop} {d : Decidable c} {A B : Prop} (h1 : c → A) (h2 : ¬ c → B) : @ite Prop c d A B := by
  by_cases q : c
  · rw [if_pos q]; exact h1 q
  · rw [if_neg q]; exact h2 q
section Acts
variable {xs : Nat → Int32} {nn : Nat} {I : IT} {T : TS} {t : Nat}
theorem l_cell {K : Int32 → IT → Prop} (hn : nn < 2147483648) {k : Nat} (hk : k < 2147483648) (h : ∀ x, K x I) : f_L_cell xs nn (nI k) I K := by
  unfold f_L_cell
  simp only [n_leP hn hk, inr_n hk]
  split
  · exact h _
  · exact ⟨by omega, h _⟩
theorem l_some {K : Int32 → IT → Prop} (hn : nn < 2147483648) {k n : Nat} (hk : k < 2147483648) (h0 : 0 < n) (h1 : n < 2147483648) (h : ∀ m, m < n → K (nI m) I) : f_L_some xs nn (nI k) (nI n) I K := by
  unfold f_L_some
  refine l_cell hn hk fun x => ?_
  obtain ⟨u, hu, e⟩ := ushr_ex x
  rw [e, n_mod (by omega) h1 h0]
  exact ⟨by rw [n_eq0 h1]; omega, h _ (Nat.mod_lt _ h0)⟩
/-- the state at t -/
def GI (I : IT) (T : TS) (t : Nat) : Prop := WT t T ∧ KCR I T
theorem itM_kc : ∀ (m : Nat) (P : HS × Nat), kc (itM m P).1.k = kc P.1.k
  | 0, _ => rfl
  | m + 1, P => by
    show kc (itM m (itK (kc P.1.k) 0 P)).1.k = _
    rw [itM_kc m, itK_kc]
where itK_kc : ∀ {r j : Nat} {P : HS × Nat}, kc (itK r j P).1.k = kc P.1.k
  | 0, _, _ => rfl
  | r + 1, j, P => by
    show kc (itK r (j + 1) (stepH P j)).1.k = _
    rw [itK_kc]
    rfl
theorem kc_nxt {v : Nat} (hv : v ≠ 0) (H : HS) (x y z u : Nat) : kc (nxtN v H x y z u).k = kc H.k := by
  unfold nxtN
  rw [if_neg hv]
  repeat' split
  all_goals first | rfl | exact itM_kc _ _
theorem l_chg {K : Int32 → IT → Prop} {KT : String → IT → Prop} {v : Nat} (hv : v < 13) (x y z u : Int32) (g : GI I T t) (ht : t ≤ 8000) (hx : v = 11 → 0 ≤ x.toInt) (h1 : refN v T.h x.toInt y.toInt z.toInt u.toInt = 0 → ∀ I', GI I' (T.push (nxtN v T.h (ix x) (ix y) (ix z) (ix u))) (t + 1) → K (nI (resN v T.h (ix x) (ix y) (ix z) (ix u))) I') (h2 : ∀ r, refN v T.h x.toInt y.toInt z.toInt u.toInt = r → r ≠ 0 → KT (excN r) I) : f_X8_change (1000000 + v) x y z u I K KT := by
  obtain ⟨w, hC⟩ := g
  refine s_change hv x y z u w ht hC hx (fun e I' c' d' hw => h1 e I' ⟨w.push hw ?_, c'⟩) (fun r e hr => h2 r e hr)
  exact HT.next w.1.2 w.1.1.1 w.1.1.2.1 hv e hx
/-- three kettles -/
def G3 (I : IT) (T : TS) (t : Nat) : Prop := GI I T t ∧ kc T.h.k = 3
theorem G3.mono {t' : Nat} (h : G3 I T t) (ht : t ≤ t') : G3 I T t' := ⟨⟨h.1.1.mono ht, h.1.2⟩, h.2⟩
theorem l_chg3 {K : Int32 → IT → Prop} {KT : String → IT → Prop} {v : Nat} (hv : v < 13) (hv0 : v ≠ 0) (x y z u : Int32) (g : G3 I T t) (ht : t ≤ 8000) (hx : v = 11 → 0 ≤ x.toInt) (h1 : ∀ (r : Nat) I' T', G3 I' T' (t + 1) → K (nI r) I') (h2 : ∀ r, refN v T.h x.toInt y.toInt z.toInt u.toInt = r → r ≠ 0 → KT (excN r) I) : f_X8_change (1000000 + v) x y z u I K KT :=
  l_chg hv x y z u g.1 ht hx (fun _ I' g' => h1 _ I' _ ⟨g', (kc_nxt hv0 _ _ _ _ _).trans g.2⟩) h2
section Ch
variable {a b c d : Int32}
theorem l_fill {K : UInt32 → IT → Prop} (g : G3 I T t) (ht : t ≤ 8000) (h : ∀ y I' T', G3 I' T' (t + 1) → K y I') : f_L_fill xs nn a b I K := by
  have hm : ∀ y, K y I := fun y => h y I T (g.mono (Nat.le_succ t))
  unfold f_L_fill f_X8_fill
  refine l_chg3 (v := 1) (by decide) (by decide) _ _ _ _ g ht (fun q => by cases q) (fun r I' T' g' => c_h8 (h _ I' T' g')) (fun r e hr => ?_)
  have := ref1 T.h a.toInt b.toInt 0 0
  rcases (show r = 1 ∨ r = 2 ∨ r = 3 by have e : refN 1 T.h a.toInt b.toInt 0 0 = r := e; omega) with rfl | rfl | rfl
  · rw [exc1]; simp; exact hm _
  · rw [exc2]; simp; exact hm _
  · rw [exc3]; simp; exact hm _
theorem l_setBurner {K : Int32 → IT → Prop} (g : G3 I T t) (ht : t ≤ 8000) (h : ∀ y I' T', G3 I' T' (t + 1) → K y I') : f_L_setBurner xs nn a b I K := by
  have hm : ∀ y, K y I := fun y => h y I T (g.mono (Nat.le_succ t))
  unfold f_L_setBurner f_X8_setBurner
  refine l_chg3 (v := 2) (by decide) (by decide) _ _ _ _ g ht (fun q => by cases q) (fun r I' T' g' => h _ I' T' g') (fun r e hr => ?_)
  have := ref2 T.h a.toInt b.toInt 0 0
  rcases (show r = 1 ∨ r = 2 by have e : refN 2 T.h a.toInt b.toInt 0 0 = r := e; omega) with rfl | rfl
  · rw [exc1]; simp; exact hm _
  · rw [exc2]; simp; exact hm _
theorem l_order {K : Int32 → IT → Prop} (g : G3 I T t) (ht : t ≤ 8000) (h : ∀ y I' T', G3 I' T' (t + 1) → K y I') : f_L_order xs nn a b c d I K := by
  have hm : ∀ y, K y I := fun y => h y I T (g.mono (Nat.le_succ t))
  unfold f_L_order f_X8_order
  refine l_chg3 (v := 3) (by decide) (by decide) _ _ _ _ g ht (fun q => by cases q) (fun r I' T' g' => h _ I' T' g') (fun r e hr => ?_)
  have := ref3 T.h a.toInt b.toInt c.toInt d.toInt
  rcases (show r = 2 ∨ r = 3 by omega) with rfl | rfl
  · rw [exc2]; simp; exact hm _
  · rw [exc3]; simp; exact hm _
theorem l_cancel {K : Int32 → IT → Prop} (g : G3 I T t) (ht : t ≤ 8000) (h : ∀ y I' T', G3 I' T' (t + 1) → K y I') : f_L_cancel xs nn a I K := by
  have hm : ∀ y, K y I := fun y => h y I T (g.mono (Nat.le_succ t))
  unfold f_L_cancel f_X8_cancel
  refine l_chg3 (v := 4) (by decide) (by decide) _ _ _ _ g ht (fun q => by cases q) (fun r I' T' g' => h _ I' T' g') (fun r e hr => ?_)
  have := ref4 T.h a.toInt 0 0 0
  have e : refN 4 T.h a.toInt 0 0 0 = r := e
  rcases (show r = 4 by omega) with rfl
  rw [exc4]; simp; exact hm _
theorem l_serve {K : Int32 → IT → Prop} (g : G3 I T t) (ht : t ≤ 8000) (h : ∀ y I' T', G3 I' T' (t + 1) → K y I') : f_L_serveNext xs nn I K := by
  have hm : ∀ y, K y I := fun y => h y I T (g.mono (Nat.le_succ t))
  unfold f_L_serveNext f_X8_serveNext
  refine l_chg3 (v := 5) (by decide) (by decide) _ _ _ _ g ht (fun q => by cases q) (fun r I' T' g' => h _ I' T' g') (fun r e hr => ?_)
  have := ref5 T.h 0 0 0 0
  have e : refN 5 T.h 0 0 0 0 = r := e
  rcases (show r = 3 by omega) with rfl
  rw [exc3]; simp; exact hm _
theorem l_wash {K : Int32 → IT → Prop} (g : G3 I T t) (ht : t ≤ 8000) (h : ∀ y I' T', G3 I' T' (t + 1) → K y I') : f_L_wash xs nn a I K := by
  have hm : ∀ y, K y I := fun y => h y I T (g.mono (Nat.le_succ t))
  unfold f_L_wash f_X8_wash
  refine l_chg3 (v := 6) (by decide) (by decide) _ _ _ _ g ht (fun q => by cases q) (fun r I' T' g' => h _ I' T' g') (fun r e hr => ?_)
  have := ref6 T.h a.toInt 0 0 0
  have e : refN 6 T.h a.toInt 0 0 0 = r := e
  rcases (show r = 2 ∨ r = 3 by omega) with rfl | rfl
  · rw [exc2]; simp; exact hm _
  · rw [exc3]; simp; exact hm _
theorem l_sell {K : UInt32 → IT → Prop} (g : G3 I T t) (ht : t ≤ 8000) (h : ∀ y I' T', G3 I' T' (t + 1) → K y I') : f_L_sellSteam xs nn a I K := by
  have hm : ∀ y, K y I := fun y => h y I T (g.mono (Nat.le_succ t))
  unfold f_L_sellSteam f_X8_sellSteam
  refine l_chg3 (v := 7) (by decide) (by decide) _ _ _ _ g ht (fun q => by cases q) (fun r I' T' g' => c_e8 (h _ I' T' g')) (fun r e hr => ?_)
  have := ref7 T.h a.toInt 0 0 0
  have e : refN 7 T.h a.toInt 0 0 0 = r := e
  rcases (show r = 2 ∨ r = 3 by omega) with rfl | rfl
  · rw [exc2]; simp; exact hm _
  · rw [exc3]; simp; exact hm _
theorem l_cupP {K : UInt32 → IT → Prop} (g : G3 I T t) (ht : t ≤ 8000) (h : ∀ y I' T', G3 I' T' (t + 1) → K y I') : f_L_setCupPrice xs nn a I K := by
  have hm : ∀ y, K y I := fun y => h y I T (g.mono (Nat.le_succ t))
  unfold f_L_setCupPrice f_X8_setCupPrice
  refine l_chg3 (v := 9) (by decide) (by decide) _ _ _ _ g ht (fun q => by cases q) (fun r I' T' g' => c_e8 (h _ I' T' g')) (fun r e hr => ?_)
  have := ref9 T.h a.toInt 0 0 0
  have e : refN 9 T.h a.toInt 0 0 0 = r := e
  rcases (show r = 2 by omega) with rfl
  rw [exc2]; simp; exact hm _
theorem l_steamP {K : UInt32 → IT → Prop} (g : G3 I T t) (ht : t ≤ 8000) (h : ∀ y I' T', G3 I' T' (t + 1) → K y I') : f_L_setSteamPrice xs nn a I K := by
  have hm : ∀ y, K y I := fun y => h y I T (g.mono (Nat.le_succ t))
  unfold f_L_setSteamPrice f_X8_setSteamPrice
  refine l_chg3 (v := 10) (by decide) (by decide) _ _ _ _ g ht (fun q => by cases q) (fun r I' T' g' => h _ I' T' g') (fun r e hr => ?_)
  have := ref10 T.h a.toInt 0 0 0
  have e : refN 10 T.h a.toInt 0 0 0 = r := e
  rcases (show r = 2 by omega) with rfl
  rw [exc2]; simp; exact hm _
theorem l_pass {K : Int32 → IT → Prop} (g : G3 I T t) (ht : t ≤ 8000) (h : ∀ y I' T', G3 I' T' (t + 1) → K y I') : f_L_pass xs nn a I K := by
  have hm : ∀ y, K y I := fun y => h y I T (g.mono (Nat.le_succ t))
  unfold f_L_pass f_X8_pass
  refine l_chg3 (v := 8) (by decide) (by decide) _ _ _ _ g ht (fun q => by cases q) (fun r I' T' g' => h _ I' T' g') (fun r e hr => ?_)
  have := ref8 T.h a.toInt 0 0 0
  have e : refN 8 T.h a.toInt 0 0 0 = r := e
  rcases (show r = 2 by omega) with rfl
  rw [exc2]; simp; exact hm _
theorem l_close {K : UInt32 → IT → Prop} (g : G3 I T t) (ht : t ≤ 8000) (h : ∀ y I' T', G3 I' T' (t + 1) → K y I') : f_L_closeNight xs nn I K := by
  have hm : ∀ y, K y I := fun y => h y I T (g.mono (Nat.le_succ t))
  unfold f_L_closeNight f_X8_closeNight
  refine l_chg3 (v := 12) (by decide) (by decide) _ _ _ _ g ht (fun q => by cases q) (fun r I' T' g' => c_e8 (h _ I' T' g')) (fun r e hr => ?_)
  have := ref12 T.h 0 0 0 0
  have e : refN 12 T.h 0 0 0 0 = r := e
  rcases (show r = 3 by omega) with rfl
  rw [exc3]; simp; exact hm _
theorem l_attend {K : Int32 → IT → Prop} {KT : String → IT → Prop} {s : Nat} (hs : s ≤ 1) (g : G3 I T t) (ht : t ≤ 8000) (h : ∀ y I' T', G3 I' T' (t + 1) → K y I') : f_X8_setAttendant (nI s) I K KT := by
  have main : ∀ s : Nat, s ≤ 1 → f_X8_setAttendant_b13 (nI s) K KT (nI s) I := by
    intro s hs
    unfold f_X8_setAttendant_b13
    refine l_chg3 (v := 11) (by decide) (by decide) _ _ _ _ g ht (fun _ => by rw [nI_toInt (by omega)]; omega) (fun r I' T' g' => ?_) (fun r e hr => absurd (e.symm.trans (ref11 _ _ _ _ _)) hr)
    split
    · exact h _ I' T' g'
    · exact h _ I' T' g'
  unfold f_X8_setAttendant
  simp only [n_eq0 (show s < 2147483648 by omega)]
  split
  · next q => subst q; exact main 0 hs
  · next q =>
    have : s = 1 := by omega
    subst this
    exact main 1 hs
end Ch
theorem l_acts {K : IT → Prop} (hn : nn < 2147483648) {k : Nat} (hk : k < 1000000) (g : G3 I T t) (ht : t ≤ 8000) (h : ∀ I' T', G3 I' T' (t + 1) → K I') : f_L_acts xs nn (nI k) I K := by
  have hm : K I := h I T (g.mono (Nat.le_succ t))
  have w1 := g.1.1.1.1.2.1.1
  unfold f_L_acts
  rw [nI_add, nI_add]
  refine l_some hn (by omega) (by decide) (by decide) fun v hv => ?_
  refine c_kc g.1.2 ?_
  rw [g.2]
  refine l_some hn (by omega) (by decide) (by decide) fun p hp => ?_
  refine c_wc g.1.2 ?_
  refine l_some hn (by omega) (by decide) (by decide) fun m hm18 => ?_
  have fb : f_L_acts_b147 xs nn (nI k) K (nI v) (nI p) I := by
    unfold f_L_acts_b147
    exact l_fill g ht fun y I' T' g' => h I' T' g'
  have sb : f_L_acts_b164 xs nn (nI k) K (nI v) (nI p) I := by
    unfold f_L_acts_b164
    exact l_setBurner g ht fun y I' T' g' => h I' T' g'
  have ob : f_L_acts_b179 xs nn (nI k) K (nI v) (nI (oc T.h.o)) I := by
    unfold f_L_acts_b179
    refine ite_i (fun _ => ?_) (fun _ => ?_)
    · exact hm
    · exact l_order g ht fun y I' T' g' => h I' T' g'
  have vb : f_L_acts_b246 xs nn (nI k) K I := by
    unfold f_L_acts_b246
    exact l_serve g ht fun y I' T' g' => h I' T' g'
  refine ite_i (fun _ => ?_) (fun _ => ?_)
  · refine c_kc g.1.2 ?_
    rw [g.2, if_pos (by decide)]
    exact hm
  refine ite_i (fun _ => ?_) (fun _ => ?_)
  · exact fb
  refine ite_i (fun _ => ?_) (fun _ => ?_)
  · exact fb
  refine ite_i (fun _ => ?_) (fun _ => ?_)
  · exact sb
  refine ite_i (fun _ => ?_) (fun _ => ?_)
  · exact sb
  refine ite_i (fun _ => ?_) (fun _ => ?_)
  · exact ob
  refine ite_i (fun _ => ?_) (fun _ => ?_)
  · exact ob
  refine ite_i (fun _ => ?_) (fun _ => ?_)
  · exact ob
  refine ite_i (fun _ => ?_) (fun _ => ?_)
  · refine ite_i (fun _ => hm) (fun e => ?_)
    · refine ⟨fun z => e (by rw [z]; decide), ?_⟩
      have e : oc T.h.o ≠ 0 := fun z => e (by rw [z]; decide)
      rw [n_mod (by omega) (by omega) (by omega)]
      have hp2 : v % oc T.h.o < oc T.h.o := Nat.mod_lt _ (by omega)
      exact c_oat g.1.2 hp2 (l_cancel g ht fun y I' T' g' => h I' T' g')
  refine ite_i (fun _ => ?_) (fun _ => ?_)
  · exact vb
  refine ite_i (fun _ => ?_) (fun _ => ?_)
  · exact vb
  refine ite_i (fun _ => ?_) (fun _ => ?_)
  · exact vb
  refine ite_i (fun _ => ?_) (fun _ => ?_)
  · exact l_wash g ht fun y I' T' g' => h I' T' g'
  refine ite_i (fun _ => ?_) (fun _ => ?_)
  · exact l_sell g ht fun y I' T' g' => h I' T' g'
  refine ite_i (fun _ => ?_) (fun _ => ?_)
  · split
    · exact l_cupP g ht fun y I' T' g' => h I' T' g'
    · exact l_steamP g ht fun y I' T' g' => h I' T' g'
  refine ite_i (fun _ => ?_) (fun _ => ?_)
  · unfold f_L_acts_b330
    refine ite_i (fun _ => ?_) (fun _ => ?_)
    · exact l_attend (s := 1) (by decide) g ht fun y I' T' g' => h I' T' g'
    · exact l_attend (s := 0) (by decide) g ht fun y I' T' g' => h I' T' g'
  refine ite_i (fun _ => ?_) (fun _ => ?_)
  · split
    · exact l_close g ht fun y I' T' g' => h I' T' g'
    · exact hm
  · exact l_pass g ht fun y I' T' g' => h I' T' g'
theorem l_add {K : Int32 → IT → Prop} {q : Nat} (hq : 2 ≤ q) (hq2 : q ≤ 16) (g : GI I T t) (hc : kc T.h.k < 4) (ht : t ≤ 8000) (h : ∀ y I' T', GI I' T' (t + 1) → kc T'.h.k = kc T.h.k + 1 → K y I') : f_L_addKettle xs nn (nI q) I K := by
  have e0 : refN 0 T.h (nI q).toInt (nI 0).toInt (nI 0).toInt (nI 0).toInt = 0 := by
    show unlN (2 ≤ (nI q).toInt ∧ (nI q).toInt ≤ 16) (kc T.h.k < 4) = 0
    rw [nI_toInt (by omega)]
    unfold unlN
    rw [if_neg (fun z => z (by omega)), if_neg (fun z => z hc)]
  unfold f_L_addKettle f_X8_addKettle
  exact l_chg (v := 0) (by decide) _ _ _ _ g ht (fun q => by cases q) (fun _ I' g' => h _ I' _ g' rfl) (fun r e hr => absurd (e.symm.trans e0) hr)
theorem l_build {K : IT → Prop} (hn : nn < 2147483648) (g : GI I T 0) (h0 : kc T.h.k = 0) (h : ∀ I' T', G3 I' T' 29 → K I') : f_L_build xs nn I K := by
  have third : ∀ n j I' T', G3 I' T' (9 + j) → j ≤ 20 → 20 - j < n → f_L_build_b76 xs nn K n (nI j) I' := by
    intro n
    induction n with
    | zero => intro j _ _ _ _ hn; omega
    | succ n ih =>
      intro j I' T' g' hj hf
      rw [f_L_build_b76]
      simp only [n_leP (show 20 < 2147483648 by decide) (show j < 2147483648 by omega)]
      split
      · exact h I' T' (g'.mono (by omega))
      · rw [pk_mul, nI_add]
        refine l_acts hn (by omega) g' (by omega) fun I2 T2 g2 => ?_
        rw [bnd_p, nI_add]
        exact ih (j + 1) I2 T2 g2 (by omega) (by omega)
  have second : ∀ n j I' T', G3 I' T' (3 + 2 * j) → j ≤ 3 → 3 - j < n → f_L_build_b30 xs nn (fun y1_0 I1_ => f_L_build_b76 xs nn K 32 y1_0 I1_) K n (nI j) I' := by
    intro n
    induction n with
    | zero => intro j _ _ _ _ hn; omega
    | succ n ih =>
      intro j I' T' g' hj hf
      rw [f_L_build_b30]
      simp only [n_leP (show 3 < 2147483648 by decide) (show j < 2147483648 by omega)]
      split
      · exact third 32 0 I' T' (g'.mono (by omega)) (by omega) (by omega)
      · rw [nI_add, nI_add]
        refine l_some hn (by omega) (by decide) (by decide) fun m hm => ?_
        refine l_fill g' (by omega) fun y I2 T2 g2 => ?_
        refine l_some hn (by omega) (by decide) (by decide) fun m2 hm2 => ?_
        refine l_setBurner g2 (by omega) fun y I3 T3 g3 => ?_
        rw [bnd_p, nI_add]
        exact ih (j + 1) I3 T3 g3 (by omega) (by omega)
  have first : ∀ n j I' T', GI I' T' j → kc T'.h.k = j → j ≤ 3 → 3 - j < n → f_L_build_b2 xs nn (fun y0_0 I0_ => f_L_build_b30 xs nn (fun y1_0 I1_ => f_L_build_b76 xs nn K 32 y1_0 I1_) K 8 y0_0 I0_) K n (nI j) I' := by
    intro n
    induction n with
    | zero => intro j _ _ _ _ _ hn; omega
    | succ n ih =>
      intro j I' T' g' hc hj hf
      rw [f_L_build_b2]
      simp only [n_leP (show 3 < 2147483648 by decide) (show j < 2147483648 by omega)]
      split
      · have : j = 3 := by omega
        subst this
        exact second 8 0 I' T' ⟨g', hc⟩ (by omega) (by omega)
      · refine l_some hn (by omega) (by decide) (by decide) fun m hm => ?_
        rw [nI_add]
        refine l_add (by omega) (by omega) g' (by omega) (by omega) fun y I2 T2 g2 hc2 => ?_
        rw [bnd_p, nI_add]
        exact ih (j + 1) I2 T2 g2 (by omega) (by omega) (by omega)
  unfold f_L_build
  exact first 8 0 I T g h0 (by omega) (by omega)
end Acts
