/-! ===== the second view of the memory: everything lies where it lies (14.pure0); the line is a row of letters ===== -/
def shHl : List (Nat × Nat) := [(4, 0), (6, 0), (22, 4), (22, 4), (22, 4), (22, 4), (23, 4), (8, 0), (22, 10), (22, 10), (22, 10), (22, 10), (22, 10), (7, 0), (22, 14), (22, 15)]
def shT (k : Nat) : Nat × Nat :=
  if k = 0 then (9, 0) else if k < 49 then shHl.getD ((k - 1) % 16) (99, 0) else if k = 49 then (24, 8) else if k < 56 then shHl.getD (k - 49) (99, 0)
  else if k < 62 then ([(5, 0), (21, 60), (22, 12), (22, 48), (1, 0), (20, 16)] : List (Nat × Nat)).getD (k - 56) (99, 0)
  else if k < 190 then shHl.getD ((k - 62) % 16) (99, 0) else (99, 0)
/-- a reference in a cell of a house -/
def rfH (o k j : Nat) : Option Nat :=
  if o = 0 then (if j = 0 then some (k + 1) else if j = 1 then some (k + 7) else if j = 2 then some (k + 13) else none)
  else if o = 1 ∨ o = 7 then (if j < 5 then some (k + 1 + j) else none) else if o = 13 then (if j < 2 then some (k + 1 + j) else none) else none
def rfT (k j : Nat) : Option Nat :=
  if k = 0 then ([some 1, some 17, some 33, some 49, some 50, some 56, some 60] : List (Option Nat)).getD j none
  else if k < 49 then rfH ((k - 1) % 16) k j else if k = 49 then (if j < 8 then some (62 + 16 * j) else none) else if k < 56 then rfH (k - 49) k j
  else if k = 56 then (if j < 3 then some (57 + j) else none) else if k < 62 then none else if k < 190 then rfH ((k - 62) % 16) k j else none
def atB (a t n : Nat) : Bool := decide (a < 190) && (a != 60 && a != 61) && (shT a == (t, n))
def AT (a t n : Nat) : Prop := atB a t n = true
theorem at_of {a t n : Nat} (h : atB a t n = true) : AT a t n := h
theorem AT.lt {a t n : Nat} (h : AT a t n) : a < 190 := by
  simp only [AT, atB, Bool.and_eq_true, decide_eq_true_eq] at h; exact h.1.1
theorem AT.ne {a t n : Nat} (h : AT a t n) : a ≠ 60 ∧ a ≠ 61 := by
  simp only [AT, atB, Bool.and_eq_true, bne_iff_ne] at h; exact h.1.2
theorem AT.sh {a t n : Nat} (h : AT a t n) : shT a = (t, n) := by
  simp only [AT, atB, Bool.and_eq_true, beq_iff_eq] at h; exact h.2
theorem all_at {L : List Nat} {p : Nat → Bool} (h : L.all p = true) {a : Nat} (m : L.contains a = true) : p a = true := List.all_eq_true.mp h a (List.contains_iff_mem.mp m)
def ketL : List Nat := 50 :: houL.map (· + 1)
theorem ket_c {a : Nat} (h : isKet a) : ketL.contains a = true := by
  simp only [isKet, Bool.or_eq_true, beq_iff_eq] at h
  simp only [ketL, List.contains_cons, Bool.or_eq_true, beq_iff_eq]
  exact h
theorem at_HOU {a : Nat} (h : isHou a) : AT a 4 0 := all_at (p := fun a => atB a 4 0) (show houL.all _ = true by decide +kernel) h
theorem rt_HOU_0 {a : Nat} (h : isHou a) : rfT a 0 = some (a + 1) := of_decide_eq_true (all_at (p := fun a => decide (rfT a 0 = some (a + 1))) (show houL.all _ = true by decide +kernel) h)
theorem rt_HOU_1 {a : Nat} (h : isHou a) : rfT a 1 = some (a + 7) := of_decide_eq_true (all_at (p := fun a => decide (rfT a 1 = some (a + 7))) (show houL.all _ = true by decide +kernel) h)
theorem rt_HOU_2 {a : Nat} (h : isHou a) : rfT a 2 = some (a + 13) := of_decide_eq_true (all_at (p := fun a => decide (rfT a 2 = some (a + 13))) (show houL.all _ = true by decide +kernel) h)
theorem at_KET {a : Nat} (h : isKet a) : AT a 6 0 := all_at (p := fun a => atB a 6 0) (show ketL.all _ = true by decide +kernel) (ket_c h)
theorem rt_KET_0 {a : Nat} (h : isKet a) : rfT a 0 = some (a + 1) := of_decide_eq_true (all_at (p := fun a => decide (rfT a 0 = some (a + 1))) (show ketL.all _ = true by decide +kernel) (ket_c h))
theorem rt_KET_1 {a : Nat} (h : isKet a) : rfT a 1 = some (a + 2) := of_decide_eq_true (all_at (p := fun a => decide (rfT a 1 = some (a + 2))) (show ketL.all _ = true by decide +kernel) (ket_c h))
theorem rt_KET_2 {a : Nat} (h : isKet a) : rfT a 2 = some (a + 3) := of_decide_eq_true (all_at (p := fun a => decide (rfT a 2 = some (a + 3))) (show ketL.all _ = true by decide +kernel) (ket_c h))
theorem rt_KET_3 {a : Nat} (h : isKet a) : rfT a 3 = some (a + 4) := of_decide_eq_true (all_at (p := fun a => decide (rfT a 3 = some (a + 4))) (show ketL.all _ = true by decide +kernel) (ket_c h))
theorem rt_KET_4 {a : Nat} (h : isKet a) : rfT a 4 = some (a + 5) := of_decide_eq_true (all_at (p := fun a => decide (rfT a 4 = some (a + 5))) (show ketL.all _ = true by decide +kernel) (ket_c h))
theorem aa_KET_0 {a : Nat} (h : isKet a) : AT (a + 1) 22 4 := all_at (p := fun a => atB (a + 1) 22 4) (show ketL.all _ = true by decide +kernel) (ket_c h)
theorem aa_KET_1 {a : Nat} (h : isKet a) : AT (a + 2) 22 4 := all_at (p := fun a => atB (a + 2) 22 4) (show ketL.all _ = true by decide +kernel) (ket_c h)
theorem aa_KET_2 {a : Nat} (h : isKet a) : AT (a + 3) 22 4 := all_at (p := fun a => atB (a + 3) 22 4) (show ketL.all _ = true by decide +kernel) (ket_c h)
theorem aa_KET_3 {a : Nat} (h : isKet a) : AT (a + 4) 22 4 := all_at (p := fun a => atB (a + 4) 22 4) (show ketL.all _ = true by decide +kernel) (ket_c h)
theorem aa_KET_4 {a : Nat} (h : isKet a) : AT (a + 5) 23 4 := all_at (p := fun a => atB (a + 5) 23 4) (show ketL.all _ = true by decide +kernel) (ket_c h)
theorem at_ORD {a : Nat} (h : isOrd a) : AT a 8 0 := all_at (p := fun a => atB a 8 0) (show (houL.map (· + 7)).all _ = true by decide +kernel) h
theorem rt_ORD_0 {a : Nat} (h : isOrd a) : rfT a 0 = some (a + 1) := of_decide_eq_true (all_at (p := fun a => decide (rfT a 0 = some (a + 1))) (show (houL.map (· + 7)).all _ = true by decide +kernel) h)
theorem rt_ORD_1 {a : Nat} (h : isOrd a) : rfT a 1 = some (a + 2) := of_decide_eq_true (all_at (p := fun a => decide (rfT a 1 = some (a + 2))) (show (houL.map (· + 7)).all _ = true by decide +kernel) h)
theorem rt_ORD_2 {a : Nat} (h : isOrd a) : rfT a 2 = some (a + 3) := of_decide_eq_true (all_at (p := fun a => decide (rfT a 2 = some (a + 3))) (show (houL.map (· + 7)).all _ = true by decide +kernel) h)
theorem rt_ORD_3 {a : Nat} (h : isOrd a) : rfT a 3 = some (a + 4) := of_decide_eq_true (all_at (p := fun a => decide (rfT a 3 = some (a + 4))) (show (houL.map (· + 7)).all _ = true by decide +kernel) h)
theorem rt_ORD_4 {a : Nat} (h : isOrd a) : rfT a 4 = some (a + 5) := of_decide_eq_true (all_at (p := fun a => decide (rfT a 4 = some (a + 5))) (show (houL.map (· + 7)).all _ = true by decide +kernel) h)
theorem aa_ORD_0 {a : Nat} (h : isOrd a) : AT (a + 1) 22 10 := all_at (p := fun a => atB (a + 1) 22 10) (show (houL.map (· + 7)).all _ = true by decide +kernel) h
theorem aa_ORD_1 {a : Nat} (h : isOrd a) : AT (a + 2) 22 10 := all_at (p := fun a => atB (a + 2) 22 10) (show (houL.map (· + 7)).all _ = true by decide +kernel) h
theorem aa_ORD_2 {a : Nat} (h : isOrd a) : AT (a + 3) 22 10 := all_at (p := fun a => atB (a + 3) 22 10) (show (houL.map (· + 7)).all _ = true by decide +kernel) h
theorem aa_ORD_3 {a : Nat} (h : isOrd a) : AT (a + 4) 22 10 := all_at (p := fun a => atB (a + 4) 22 10) (show (houL.map (· + 7)).all _ = true by decide +kernel) h
theorem aa_ORD_4 {a : Nat} (h : isOrd a) : AT (a + 5) 22 10 := all_at (p := fun a => atB (a + 5) 22 10) (show (houL.map (· + 7)).all _ = true by decide +kernel) h
theorem at_LED {a : Nat} (h : isLed a) : AT a 7 0 := all_at (p := fun a => atB a 7 0) (show (houL.map (· + 13)).all _ = true by decide +kernel) h
theorem rt_LED_0 {a : Nat} (h : isLed a) : rfT a 0 = some (a + 1) := of_decide_eq_true (all_at (p := fun a => decide (rfT a 0 = some (a + 1))) (show (houL.map (· + 13)).all _ = true by decide +kernel) h)
theorem rt_LED_1 {a : Nat} (h : isLed a) : rfT a 1 = some (a + 2) := of_decide_eq_true (all_at (p := fun a => decide (rfT a 1 = some (a + 2))) (show (houL.map (· + 13)).all _ = true by decide +kernel) h)
theorem aa_LED_0 {a : Nat} (h : isLed a) : AT (a + 1) 22 14 := all_at (p := fun a => atB (a + 1) 22 14) (show (houL.map (· + 13)).all _ = true by decide +kernel) h
theorem aa_LED_1 {a : Nat} (h : isLed a) : AT (a + 2) 22 15 := all_at (p := fun a => atB (a + 2) 22 15) (show (houL.map (· + 13)).all _ = true by decide +kernel) h
theorem ket_hou0 {h : Nat} (q : isHou h) : isKet (h + 1) := all_at (p := fun a => (a + 1 == 50 || (houL.map (· + 1)).contains (a + 1))) (by decide +kernel) q
theorem ord_hou1 {h : Nat} (q : isHou h) : isOrd (h + 7) := all_at (p := fun a => ((houL.map (· + 7)).contains (a + 7))) (by decide +kernel) q
theorem led_hou2 {h : Nat} (q : isHou h) : isLed (h + 13) := all_at (p := fun a => ((houL.map (· + 13)).contains (a + 13))) (by decide +kernel) q
theorem inr_e {i : Int32} {n : Nat} (h : inr i n) : i = nI (ix i) := by
  obtain ⟨m, h1, h2⟩ := nI_of (x := i) (by rw [xz_lt]; exact Int.not_lt.mpr h.1)
  rw [h2, ix, nI_clamp h1]
theorem inr_lt {i : Int32} {n : Nat} (h : inr i n) : ix i < n := by
  have e := inr_e h
  have h2 := h.2
  have h3 : ix i < 2 ^ 31 := Int32.toNatClampNeg_lt i
  rw [e, nI_toInt h3] at h2
  exact Int.ofNat_lt.mp h2
theorem hou_past {i : Int32} (h : inr i 8) : isHou (62 + 16 * ix i) := by
  have := inr_lt h
  generalize ix i = j at this
  match j, this with
  | 0, _ => rfl
  | 1, _ => rfl
  | 2, _ => rfl
  | 3, _ => rfl
  | 4, _ => rfl
  | 5, _ => rfl
  | 6, _ => rfl
  | 7, _ => rfl
theorem ver_cases {P : Nat → Prop} (h : ∀ j, j < 13 → P (1000000 + j)) {v : Nat} (hv : isVer v) : P v := by
  obtain ⟨h1, h2⟩ := hv
  have := h (v - 1000000) (by omega)
  rwa [Nat.add_sub_cancel' h1] at this
theorem isC_n {n : Nat} (h : n < 65536) : isC (nI n) := by
  unfold isC
  rw [nI_toInt (by omega)]
  omega
theorem isC_i2c (x : Int32) : isC (x.toUInt32 % 65536).toInt32 := by
  have h : (x.toUInt32 % 65536).toNat < 65536 := by rw [UInt32.toNat_mod]; exact Nat.mod_lt _ (by decide)
  have e : (x.toUInt32 % 65536).toInt32 = nI (x.toUInt32 % 65536).toNat := by
    apply Int32.toInt_inj.mp
    rw [nI_toInt (by omega)]
    show (x.toUInt32 % 65536).toBitVec.toInt = _
    rw [BitVec.toInt_eq_toNat_of_lt (by show 2 * (x.toUInt32 % 65536).toNat < _; omega)]
    rfl
  rw [e]; exact isC_n h
theorem nar_z {x : Int32} (h : isZ x) : narrow .boolean (.int x) = .int x := by rcases h with rfl | rfl <;> rfl
theorem fit_z {x : Int32} (h : isZ x) : fits .boolean (.int x) = true := by rcases h with rfl | rfl <;> rfl
theorem narv_z {x : Int32} (h : isZ x) : vp_nar .boolean x = x := by rcases h with rfl | rfl <;> decide
theorem isC_nat {x : Int32} (h : isC x) : ∃ n, n < 65536 ∧ x = nI n := by
  obtain ⟨n, h1, h2, h3⟩ := x_nat h.1
  exact ⟨n, by have := h.2; omega, h2⟩
theorem narv_c {x : Int32} (h : isC x) : vp_nar .char x = x := by
  obtain ⟨n, h1, rfl⟩ := isC_nat h
  show ((nI n).toUInt32 % 65536).toInt32 = nI n
  apply Int32.toInt_inj.mp
  rw [nI_toInt (by omega)]
  have e : (nI n).toUInt32.toNat = n := by
    show (Int32.ofNat n).toUInt32.toNat = n
    rw [show (Int32.ofNat n).toUInt32 = UInt32.ofNat n from rfl, UInt32.toNat_ofNat_of_lt' (by show n < 2 ^ 32; omega)]
  have e2 : ((nI n).toUInt32 % 65536).toNat = n := by rw [UInt32.toNat_mod, e]; exact Nat.mod_eq_of_lt h1
  show ((nI n).toUInt32 % 65536).toBitVec.toInt = _
  rw [BitVec.toInt_eq_toNat_of_lt (by show 2 * ((nI n).toUInt32 % 65536).toNat < _; omega)]
  show (((nI n).toUInt32 % 65536).toNat : Int) = n
  rw [e2]
theorem nar_c {x : Int32} (h : isC x) : narrow .char (.int x) = .int x := by
  have := narv_c h
  show Value.int _ = Value.int _
  exact congrArg Value.int this
theorem iinc_m (n : Int) {v : Int32} (h : Int32.ofInt n = v) {x : Int32} : x + Int32.ofInt n = x + v := by rw [h]
/-! the two views -/
def LAY (G : GT) : Prop := 190 ≤ G.1 ∧ (∀ k, k < 190 → k ≠ 61 → G.2.1 k = shT k) ∧ ∀ k j, k < 190 → k ≠ 60 → G.2.2 k j = rfT k j
/-- the line's letters -/
def LNB (I : IT) (l : List Nat) : Prop := I 60 3 = nI l.length ∧ l.length ≤ 150 ∧ ∀ j, j < l.length → I 61 j = nI (l.getD j 0) ∧ l.getD j 0 < 128
/-- what is told of texts: the line, and the texts that the law makes -/
def tobj (I : IT) (a k : Nat) (l : List Nat) : Prop := (a = 60 ∧ k = 2 ∧ LNB I l) ∨ (isDy a ∧ (k = 1 ∨ k = 2) ∧ TXT I a k l)
/-- a text as it lies in the memory -/
def OBJ (G : GT) (I : IT) (a k : Nat) (l : List Nat) : Prop := a < G.1 ∧ G.2.1 a = (if k = 1 then (0, 0) else (1, 0)) ∧ l.length ≤ 150 ∧ (∀ j, j < l.length → l.getD j 0 < 128) ∧ ∃ v cap, G.2.2 a 0 = some v ∧ v < G.1 ∧ (v = 61 ∨ 190 ≤ v) ∧ G.2.1 v = (20, cap) ∧ I a 1 = 0 ∧ (k = 2 → I a 3 = nI l.length) ∧ (k = 1 → cap = l.length) ∧ l.length ≤ cap ∧ cap ≤ 320 ∧ (∀ j, j < cap → -128 ≤ (I v j).toInt ∧ (I v j).toInt < 128) ∧ ∀ j, j < l.length → I v j = nI (l.getD j 0)
def LAYB (G : GT) (I I' : IT) : Prop := LAY G ∧ (∀ k, k < 190 → k ≠ 60 → k ≠ 61 → I' k = I k) ∧ (∃ l, LNB I l) ∧ (∀ a k l, tobj I a k l → OBJ G I' a k l) ∧ ∀ a b k k' l l', tobj I a k l → tobj I b k' l' → a ≠ b → G.2.2 a 0 ≠ G.2.2 b 0
theorem tobj.at {I : IT} {a k : Nat} {l : List Nat} (h : tobj I a k l) : a = 60 ∨ 190 ≤ a := by
  rcases h with ⟨h, -⟩ | ⟨h, -⟩
  · exact Or.inl h
  · exact Or.inr h.1
theorem tobj.kk {I : IT} {a k : Nat} {l : List Nat} (h : tobj I a k l) : k = 1 ∨ k = 2 := by
  rcases h with ⟨-, h, -⟩ | ⟨-, h, -⟩
  · exact Or.inr h
  · exact h
theorem tobj.inj {I : IT} {a k k' : Nat} {l m : List Nat} (h : tobj I a k l) (h' : tobj I a k' m) : k = k' ∧ l = m := by
  rcases h with ⟨e, k1, a1, a2, a3⟩ | ⟨d, k1, h1⟩
  · rcases h' with ⟨-, k2, c1, c2, c3⟩ | ⟨d', -, -⟩
    · exact ⟨k1.trans k2.symm, ltr_ext (a1.symm.trans c1) a2 c2 (fun j hj => (a3 j hj).2) (fun j hj => (c3 j hj).2) (fun j h1 h2 => (a3 j h1).1.symm.trans (c3 j h2).1)⟩
    · have := d'.1; omega
  · rcases h' with ⟨e, -⟩ | ⟨-, k2, h2⟩
    · have := d.1; omega
    · exact h1.inj h2 k1 k2
/-- of rows that are the same the same is told -/
theorem tobj.congr {I J : IT} {a k : Nat} {l : List Nat} (h : tobj I a k l) (e : J a = I a) (e1 : a = 60 → J 61 = I 61) : tobj J a k l := by
  rcases h with ⟨h, hk, h3⟩ | ⟨h1, h2, h3⟩
  · subst h
    refine Or.inl ⟨rfl, hk, ?_⟩
    unfold LNB
    rw [e, e1 rfl]
    exact h3
  · refine Or.inr ⟨h1, h2, ?_⟩
    unfold TXT
    rw [e]
    exact h3
/-- a text where its own cells are the same -/
theorem OBJ.congr {G G2 : GT} {I J : IT} {a k : Nat} {l : List Nat} (h : OBJ G I a k l) (hn : G.1 ≤ G2.1) (h1 : G2.2.1 a = G.2.1 a) (h2 : G2.2.2 a 0 = G.2.2 a 0) (e : J a = I a) (hv : ∀ v, G.2.2 a 0 = some v → v < G.1 → (v = 61 ∨ 190 ≤ v) → (∃ n, G.2.1 v = (20, n)) → G2.2.1 v = G.2.1 v ∧ J v = I v) : OBJ G2 J a k l := by
  obtain ⟨a1, a2, a3, a4, v, cap, b1, b2, b3, b4, b5, b6, b7, b8, b9, b10, b11⟩ := h
  obtain ⟨c1, c2⟩ := hv v b1 b2 b3 ⟨cap, b4⟩
  refine ⟨Nat.lt_of_lt_of_le a1 hn, h1.trans a2, a3, a4, v, cap, h2.trans b1, Nat.lt_of_lt_of_le b2 hn, b3, c1.trans b4, ?_, ?_, b7, b8, b9, ?_, ?_⟩
  · rw [e]; exact b5
  · rw [e]; exact b6
  · rw [c2]; exact b10
  · rw [c2]; exact b11
section Lay
variable {G : GT} {I I' : IT} {a t n : Nat}
theorem LAYB.lt (h : LAYB G I I') (q : AT a t n) : a < G.1 := Nat.lt_of_lt_of_le q.lt h.1.1
theorem LAYB.sh (h : LAYB G I I') (q : AT a t n) : G.2.1 a = (t, n) := (h.1.2.1 a q.lt q.ne.2).trans q.sh
theorem LAYB.rf (h : LAYB G I I') (q : AT a t n) (j : Nat) : G.2.2 a j = rfT a j := h.1.2.2 a j q.lt q.ne.1
theorem LAYB.v (h : LAYB G I I') (q : AT a t n) : I' a = I a := h.2.1 a q.lt q.ne.1 q.ne.2
theorem LAYB.up (h : LAYB G I I') (q : AT a t n) (j : Nat) (x : Int32) : LAYB G (up2 I a j x) (up2 I' a j x) := by
  obtain ⟨h1, h2, ⟨l0, h3⟩, h4, h5⟩ := h
  have ne := q.ne
  have lt := q.lt
  have back : ∀ b k l, tobj (up2 I a j x) b k l → tobj I b k l := fun b k l hb => by
    have := hb.at
    exact hb.congr (by rw [up2_ne (by omega)]) (fun _ => by rw [up2_ne (Ne.symm ne.2)])
  refine ⟨h1, fun k hk e1 e2 => ?_, ⟨l0, ?_⟩, fun b k l hb => ?_, fun b b' k k' l l' hb hb' => h5 b b' k k' l l' (back _ _ _ hb) (back _ _ _ hb')⟩
  · funext i
    by_cases e : k = a
    · subst e
      by_cases e3 : i = j
      · subst e3; simp [up2]
      · rw [up2_nej e3, up2_nej e3, h2 k hk e1 e2]
    · rw [up2_nea e, up2_nea e, h2 k hk e1 e2]
  · unfold LNB
    rw [up2_ne (Ne.symm ne.1), up2_ne (Ne.symm ne.2)]
    exact h3
  · have hb1 := hb.at
    refine (h4 b k l (back _ _ _ hb)).congr (Nat.le_refl _) rfl rfl (by rw [up2_ne (by omega)]) (fun v _ _ hv _ => ⟨rfl, by rw [up2_ne (by omega)]⟩)
theorem LAY.grow (h : LAY G) {n : Nat} (hn : G.1 ≤ n) : LAY (gGrow G n) := by
  obtain ⟨h1, h2, h3⟩ := h
  exact ⟨Nat.le_trans h1 hn, fun k hk e => (if_pos (Nat.lt_of_lt_of_le hk h1)).trans (h2 k hk e), h3⟩
theorem LAYB.grow (h : LAYB G I I') {n : Nat} (hn : G.1 ≤ n) : LAYB (gGrow G n) I I' := by
  obtain ⟨h1, h2, h3, h4, h5⟩ := h
  refine ⟨h1.grow hn, h2, h3, fun b k l hb => ?_, h5⟩
  have ho := h4 b k l hb
  exact ho.congr hn (if_pos ho.1) rfl rfl (fun v _ hv _ _ => ⟨if_pos hv, rfl⟩)
end Lay
def J2 (X : XT) (D : DT) (nL : Nat) (c w : Nat) (I : IT) (L : LT) (pc : Nat) (ls st : List Value) : Prop := ∀ (G : GT) (I' : IT), LAYB G I I' → J X D nL c w G I' L pc ls st
def JT2 (X : XT) (D : DT) (nL : Nat) (c w : Nat) (I : IT) (L : LT) (pc : Nat) (ls : List Value) (E : String) : Prop := ∀ (G : GT) (I' : IT), LAYB G I I' → JT X D nL c w G I' L pc ls E
/-- a method's end, over the second view -/
def P2 (P : Res → IT → LT → Prop) : Res → GT → IT → LT → Prop := fun r G I' L => ∃ I, LAYB G I I' ∧ P r I L
def Con2 (l : Launch) (D : DT) (M : MD) (d : Nat) (av : List Value) (mc ms : Nat) (I : IT) (L : LT) (P : Res → IT → LT → Prop) : Prop := ∀ (G : GT) (I' : IT), LAYB G I I' → (mc = 0 ∨ G.1 + mc < 1000000) → Con l D M d av mc ms G I' L (P2 P)
theorem Con2.of {l : Launch} {D : DT} {M : MD} {d mc ms : Nat} {av : List Value} {I : IT} {L : LT} {P : Res → IT → LT → Prop} (hy : plainName M.1.cls = true) (hc : ∀ v ∈ av, v.category = 1) (hn : av.length ≤ M.2.2.1)
    (body : ∀ X : XT, OK X D M.2.1 M.1.cls M.2.2.1 → RT X l D M.2.2.2 (P2 P) d mc ms → J2 X D M.2.2.1 0 0 I L 0 (ent av M.2.2.1) []) : Con2 l D M d av mc ms I L P := by
  intro G I' hl hb
  exact Con.of hy hc hn hb (fun X hX hT _ => body X hX hT G I' hl)
theorem J.bound {X : XT} {l0 : Launch} {D : DT} {nL c w d mc ms k : Nat} {G : GT} {I : IT} {L : LT} {pc : Nat} {ls st : List Value} (hR : Room2 X l0 D d mc ms) (h1 : c + k ≤ mc) (kk : G.1 + k < 1000000 → J X D nL c w G I L pc ls st) : J X D nL c w G I L pc ls st := by
  obtain ⟨p, l, e, R, s, m, args, below, meth, c0, Q⟩ := X
  intro H locs lsA hRel hz hl hL T hT X'
  obtain ⟨-, -, -, R3, -, R5⟩ := hR
  have z := X'.heapSize
  have z2 := hRel.1
  have hT2 : T.heap = H := hT
  rw [hT2] at z
  exact kk (by omega) H locs lsA hRel hz hl hL T hT X'
/-! how a method ends -/
def Pv (L : LT) (K : IT → Prop) : Res → IT → LT → Prop := fun r I' L' => L' = L ∧ r = .inl none ∧ K I'
def Pi (L : LT) (K : Int32 → IT → Prop) : Res → IT → LT → Prop := fun r I' L' => L' = L ∧ ∃ x, r = .inl (some (.int x)) ∧ K x I'
def Pz (L : LT) (K : Int32 → IT → Prop) : Res → IT → LT → Prop := fun r I' L' => L' = L ∧ ∃ x, r = .inl (some (.int x)) ∧ isZ x ∧ K x I'
def Pc (L : LT) (K : Int32 → IT → Prop) : Res → IT → LT → Prop := fun r I' L' => L' = L ∧ ∃ x, r = .inl (some (.int x)) ∧ isC x ∧ K x I'
def Pf (L : LT) (K : UInt32 → IT → Prop) : Res → IT → LT → Prop := fun r I' L' => L' = L ∧ ∃ x, r = .inl (some (.float x)) ∧ K x I'
def Pd (L : LT) (K : UInt64 → IT → Prop) : Res → IT → LT → Prop := fun r I' L' => L' = L ∧ ∃ x, r = .inl (some (.double x)) ∧ K x I'
def Pa (A : Nat → Prop) (L : LT) (K : Nat → IT → Prop) : Res → IT → LT → Prop := fun r I' L' => L' = L ∧ ∃ x, r = .inl (some (.ref x)) ∧ A x ∧ K x I'
def Px (P : Res → IT → LT → Prop) (L : LT) (KT : String → IT → Prop) : Res → IT → LT → Prop := fun r I' L' => P r I' L' ∨ (L' = L ∧ ∃ E, r = .inr E ∧ KT E I')
def subL : List Value → List Value → Prop
  | [], [] => True
  | v' :: l', v :: l => (v' = v ∨ v' = .retAddr 0) ∧ subL l' l
  | _, _ => False
theorem subL.get : ∀ {l' l : List Value}, subL l' l → ∀ {k : Nat} {v : Value}, l'[k]? = some v → (∀ r, v ≠ .retAddr r) → l[k]? = some v := by
  intro l'
  induction l' with
  | nil => intro l _ k v h; simp at h
  | cons a l' ih =>
    intro l h k v hk hv
    cases l with
    | nil => exact h.elim
    | cons b l =>
      obtain ⟨h1, h2⟩ := h
      cases k with
      | zero =>
        simp at hk ⊢
        subst hk
        rcases h1 with rfl | rfl
        · rfl
        · exact absurd rfl (hv 0)
      | succ k => simpa using ih h2 (by simpa using hk) hv
theorem subL.len : ∀ {l' l : List Value}, subL l' l → l'.length = l.length := by
  intro l'
  induction l' with
  | nil => intro l h; cases l with
    | nil => rfl
    | cons b l => exact h.elim
  | cons a l' ih => intro l h; cases l with
    | nil => exact h.elim
    | cons b l => simp [ih h.2]
theorem q_drop {X : XT} {D : DT} {nL c w : Nat} {I : IT} {L : LT} {pc : Nat} {ls ls' st : List Value} (hs : subL ls' ls) (k : J2 X D nL c w I L pc ls' st) : J2 X D nL c w I L pc ls st := by
  obtain ⟨p, l, e, R, s, m, args, below, meth, c0, Q⟩ := X
  intro G I' hl H locs lsA hR hz hlo hL
  refine k G I' hl H locs lsA hR hz hlo ⟨by rw [hs.len]; exact hL.1, lv_mono hL.2 fun q hq => ?_⟩
  obtain ⟨i, v, h1, h2, rfl⟩ := lprs_of _ _ _ hq
  exact lprs_mem ls 0 i v (hs.get h1 h2) h2
theorem q_cas {X : XT} {D : DT} {nL c w : Nat} {I : IT} {L : LT} {pc : Nat} {ls st : List Value} {x k : Int32} (a : x = k → J2 X D nL c w I L pc ls (.int x :: st)) (b : ¬ x = k → J2 X D nL c w I L pc ls (.int x :: st)) : J2 X D nL c w I L pc ls (.int x :: st) := by
  by_cases h : x = k
  · exact a h
  · exact b h
theorem swn {x : Int32} {k : Nat} (h : ¬ x = nI k) (hk : k < 2 ^ 31) : x.toInt ≠ (k : Int) := fun e => h ((xn_eq hk).mpr e)
def lkN : List (Int × Int) → Int → Prop
  | [], _ => True
  | p :: r, x => p.1 ≠ x ∧ lkN r x
theorem lk_miss : ∀ {ps : List (Int × Int)} {df x : Int}, lkN ps x → Op.lookupswitch.offset ps df x = df := by
  intro ps
  induction ps with
  | nil => intro df x _; rfl
  | cons p r ih =>
    intro df x h
    rw [Op.lookupswitch.offset_cons, if_neg h.1]
    exact ih h.2
