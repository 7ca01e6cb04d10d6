/-! ===== what the decompiled methods are made of ===== -/
/-- an index as a natural -/
def ix (i : Int32) : Nat := i.toNatClampNeg
/-- an index inside n -/
def inr (i : Int32) (n : Nat) : Prop := 0 ≤ i.toInt ∧ i.toInt < (n : Int)
def wr (I : IT) (a j : Nat) (v : Int32) (K : IT → Prop) : Prop := K (up2 I a j v)
def bnd (x : Int32) (K : Int32 → Prop) : Prop := K x
def isZ (x : Int32) : Prop := x = 0 ∨ x = 1
def isC (x : Int32) : Prop := 0 ≤ x.toInt ∧ x.toInt < 65536
theorem and_l {A B : Prop} (h : A ∧ B) : A := h.1
theorem and_r {A B : Prop} (h : A ∧ B) : B := h.2
theorem wr_e {I : IT} {a j : Nat} {v : Int32} {K : IT → Prop} (h : wr I a j v K) : K (up2 I a j v) := h
theorem bnd_e {x : Int32} {K : Int32 → Prop} (h : bnd x K) : K x := h
theorem ite_t {c : Prop} {d : Decidable c} {A B : Prop} (q : c) (h : @ite Prop c d A B) : A := by rw [if_pos q] at h; exact h
theorem ite_f {c : Prop} {d : Decidable c} {A B : Prop} (q : ¬ c) (h : @ite Prop c d A B) : B := by rw [if_neg q] at h; exact h
/-! where everything lies behind the constructors: the class's object at 0, three houses at 1, 17, 33, the array of eight at 49, a copy of the kettles at 50, the input at 56, the line at 60 (its letters, seen from here, at 61), the eight houses from 62 on; texts (Strings, StringBuilders of the law) from 190 on, wherever they come to lie -/
def houL : List Nat := [1, 17, 33, 62, 78, 94, 110, 126, 142, 158, 174]
def isHou (a : Nat) : Prop := houL.contains a = true
def isKet (a : Nat) : Prop := (a == 50 || (houL.map (· + 1)).contains a) = true
def isOrd (a : Nat) : Prop := (houL.map (· + 7)).contains a = true
def isLed (a : Nat) : Prop := (houL.map (· + 13)).contains a = true
def isSB (a : Nat) : Prop := a = 60
def isVer (v : Nat) : Prop := 1000000 ≤ v ∧ v < 1000013
def isRfs (v : Nat) : Prop := 1000020 ≤ v ∧ v < 1000025
def isStr (v : Nat) : Prop := (decide (1000053 ≤ v) && decide (v < 1000067)) = true
/-- the places of $SwitchMap -/
def swmC (j : Nat) : Int32 := nI (([1, 2, 3, 4, 5, 6, 7, 8, 9, 10, 11, 13, 12] : List Nat).getD j 0)
/-- the letters of the String constants from code 53 on -/
def strT (v : Nat) : List Nat := if v = 1000053 then [32, 98] else if v = 1000054 then [97, 110, 32, 97, 114, 103, 117, 109, 101, 110, 116, 32, 105, 115, 32, 111, 117, 116, 32, 111, 102, 32, 114, 97, 110, 103, 101] else if v = 1000055 then [116, 104, 101, 32, 116, 101, 97, 32, 104, 111, 117, 115, 101, 32, 100, 111, 101, 115, 32, 110, 111, 116, 32, 97, 108, 108, 111, 119, 32, 116, 104, 105, 115, 32, 110, 111, 119] else if v = 1000056 then [110, 111, 32, 119, 97, 105, 116, 105, 110, 103, 32, 111, 114, 100, 101, 114, 32, 104, 97, 115, 32, 116, 104, 105, 115, 32, 110, 117, 109, 98, 101, 114] else if v = 1000057 then [32, 116] else if v = 1000058 then [32, 112] else if v = 1000059 then [116, 104, 101, 32, 108, 105, 110, 101, 32, 104, 97, 115, 32, 110, 111, 32, 115, 117, 99, 104, 32, 99, 104, 97, 114, 97, 99, 116, 101, 114] else if v = 1000060 then [75] else if v = 1000061 then [32] else if v = 1000062 then [47] else if v = 1000063 then [104] else if v = 1000064 then [32, 98] else if v = 1000065 then [] else if v = 1000066 then [33] else []
/-- a verb's ordinal -/
def ordN (v : Nat) : Nat := if v = 1000000 then 0 else if v = 1000001 then 1 else if v = 1000002 then 2 else if v = 1000003 then 3 else if v = 1000004 then 4 else if v = 1000005 then 5 else if v = 1000006 then 6 else if v = 1000007 then 7 else if v = 1000008 then 8 else if v = 1000009 then 9 else if v = 1000010 then 10 else if v = 1000011 then 11 else if v = 1000012 then 12 else 13
/-! the line, as a row of letters -/
def sbPut (I : IT) (x : Int32) : IT := up2 (up2 I 61 (ix (I 60 3)) x) 60 3 (I 60 3 + nI 1)
def sbApp : List Nat → IT → IT
  | [], I => I
  | c :: l, I => sbApp l (sbPut I (nI c))
/-- the decimal digits -/
def digs : Nat → Nat → List Nat
  | 0, _ => []
  | f + 1, n => if n < 10 then [48 + n] else digs f (n / 10) ++ [48 + n % 10]
def sbRoom (I : IT) (n : Nat) : Prop := 0 ≤ (I 60 3).toInt ∧ (I 60 3).toInt + n ≤ 150
def f_J4_append_cf468 (a1 : Int32) (I : IT) (K : Nat → IT → Prop) : Prop := (0 ≤ a1.toInt ∧ a1.toInt < 128) ∧ sbRoom I 1 ∧ K 60 (sbPut I a1)
def f_J4_append_bf812 (a1 : Int32) (I : IT) (K : Nat → IT → Prop) : Prop := 0 ≤ a1.toInt ∧ sbRoom I 10 ∧ K 60 (sbApp (digs 10 (ix a1)) I)
def f_J4_append_15ec4 (a1 : Nat) (I : IT) (K : Nat → IT → Prop) : Prop := sbRoom I 2 ∧ (strT a1).length ≤ 2 ∧ K 60 (sbApp (strT a1) I)
def f_J4_setLength_d00df (a1 : Int32) (I : IT) (K : IT → Prop) : Prop := a1 = nI 0 ∧ K (up2 I 60 3 (nI 0))
def f_J4_length_8abf5 (I : IT) (K : Int32 → Prop) : Prop := K (I 60 3)
def f_J4_charAt_5068e (a1 : Int32) (I : IT) (K : Int32 → Prop) : Prop := (0 ≤ a1.toInt ∧ a1.toInt < (I 60 3).toInt) ∧ K (I 61 (ix a1))
def f_Jxf58ca_floatToIntBits_5c35a (a0 : UInt32) (_ : IT) (K : Int32 → Prop) : Prop := vf_n32 a0 ∧ K a0.toInt32
/-! texts that the law makes: a row each, at their own address: kind (1 String, 2 StringBuilder), length, letters -/
def TXT (I : IT) (a k : Nat) (l : List Nat) : Prop := I a 0 = nI k ∧ I a 1 = nI l.length ∧ l.length ≤ 150 ∧ ∀ j, j < l.length → I a (2 + j) = nI (l.getD j 0) ∧ l.getD j 0 < 128
def setT (I : IT) (a k : Nat) (l : List Nat) : IT := fun a' j => if a' = a then (if j = 0 then nI k else if j = 1 then nI l.length else nI (l.getD (j - 2) 0)) else I a' j
/-- a text's letters: a constant's, or those of its row -/
def txtV (I : IT) (s : Nat) (l : List Nat) : Prop := (isStr s ∧ l = strT s) ∨ ((190 ≤ s ∧ s < 1000000) ∧ TXT I s 1 l)
def isTx (s : Nat) : Prop := isStr s ∨ (190 ≤ s ∧ s < 1000000)
def isDy (s : Nat) : Prop := 190 ≤ s ∧ s < 1000000
/-- where nothing is told of a -/
def free (I : IT) (a : Nat) : Prop := ∀ k l, k = 1 ∨ k = 2 → ¬ TXT I a k l
def f_T_new (I : IT) (K : Nat → IT → Prop) : Prop := ∀ a, isDy a → free I a → K a (setT I a 2 [])
def f_T_appS (a s : Nat) (I : IT) (K : Nat → IT → Prop) : Prop := ∃ l m, TXT I a 2 l ∧ txtV I s m ∧ l.length + m.length ≤ 150 ∧ K a (setT I a 2 (l ++ m))
def f_T_appI (a : Nat) (x : Int32) (I : IT) (K : Nat → IT → Prop) : Prop := ∃ l, TXT I a 2 l ∧ 0 ≤ x.toInt ∧ l.length + 10 ≤ 150 ∧ K a (setT I a 2 (l ++ digs 10 (ix x)))
def f_T_str (a : Nat) (I : IT) (K : Nat → IT → Prop) : Prop := ∃ l, TXT I a 2 l ∧ ∀ s, isDy s → free I s → K s (setT I s 1 l)
def f_T_length (s : Nat) (I : IT) (K : Int32 → Prop) : Prop := ∃ l, txtV I s l ∧ K (nI l.length)
def f_T_charAt (s : Nat) (x : Int32) (I : IT) (K : Int32 → Prop) : Prop := ∃ l, txtV I s l ∧ inr x l.length ∧ K (nI (l.getD (ix x) 0))
/-- the greater of two floats, neither of them NaN -/
def f_T_maxF (x y : UInt32) (_ : IT) (K : UInt32 → Prop) : Prop := (FP.fIsNaN x = false ∧ FP.fIsNaN y = false) ∧ K (Native.java_lang_Math.nans.pick32 true x y)
def ushr3 (x : Int32) : Int32 := (x.toUInt32 >>> ((nI 3).toUInt32 &&& Int32.toUInt32 31)).toInt32
theorem ltr_ext {l m : List Nat} (h : nI l.length = nI m.length) (b1 : l.length ≤ 150) (b2 : m.length ≤ 150) (c1 : ∀ j, j < l.length → l.getD j 0 < 128) (c2 : ∀ j, j < m.length → m.getD j 0 < 128) (e : ∀ j, j < l.length → j < m.length → nI (l.getD j 0) = nI (m.getD j 0)) : l = m := by
  have hl : l.length = m.length := (nI_eq (by omega) (by omega)).mp h
  refine List.ext_getElem hl fun j h1 h2 => ?_
  have q1 := c1 j h1
  have q2 := c2 j h2
  have q := (nI_eq (by omega) (by omega)).mp (e j h1 h2)
  rw [List.getD_eq_getElem?_getD, List.getD_eq_getElem?_getD, List.getElem?_eq_getElem h1, List.getElem?_eq_getElem h2] at q
  exact q
theorem TXT.inj {I : IT} {a k k' : Nat} {l m : List Nat} (h : TXT I a k l) (h' : TXT I a k' m) (b : k = 1 ∨ k = 2) (b' : k' = 1 ∨ k' = 2) : k = k' ∧ l = m := by
  obtain ⟨a1, a2, a3, a4⟩ := h
  obtain ⟨c1, c2, c3, c4⟩ := h'
  refine ⟨(nI_eq (by omega) (by omega)).mp (a1.symm.trans c1), ltr_ext (a2.symm.trans c2) a3 c3 (fun j hj => (a4 j hj).2) (fun j hj => (c4 j hj).2) (fun j h1 h2 => (a4 j h1).1.symm.trans (c4 j h2).1)⟩
theorem setT_s {I : IT} {a k : Nat} {l : List Nat} (hl : l.length ≤ 150) (hc : ∀ j, j < l.length → l.getD j 0 < 128) : TXT (setT I a k l) a k l := by
  refine ⟨by simp [setT], by simp [setT], hl, fun j hj => ⟨?_, hc j hj⟩⟩
  unfold setT
  rw [if_pos rfl, if_neg (by omega), if_neg (by omega), show 2 + j - 2 = j by omega]
theorem setT_n {I : IT} {a k q : Nat} {l : List Nat} (h : q ≠ a) : setT I a k l q = I q := by
  funext j
  exact if_neg h
