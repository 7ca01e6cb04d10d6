/-! ===== what the decompiled methods are made of ===== -/
/-- an index as a natural -/
def ix (i : Int32) : Nat := i.toNatClampNeg
/-- an index inside n -/
def inr (i : Int32) (n : Nat) : Prop := 0 ≤ i.toInt ∧ i.toInt < (n : Int)
def wr (I : IT) (a j : Nat) (v : Int32) (K : IT → Prop) : Prop := K (up2 I a j v)
def bnd (x : Int32) (K : Int32 → Prop) : Prop := K x
def isZ (x : Int32) : Prop := x = 0 ∨ x = 1
def isC (x : Int32) : Prop := 0 ≤ x.toInt ∧ x.toInt < 65536
theorem and_l {A B : Prop} (h : A ∧ B) : A := h.1
theorem and_r {A B : Prop} (h : A ∧ B) : B := h.2
theorem wr_e {I : IT} {a j : Nat} {v : Int32} {K : IT → Prop} (h : wr I a j v K) : K (up2 I a j v) := h
theorem bnd_e {x : Int32} {K : Int32 → Prop} (h : bnd x K) : K x := h
theorem ite_t {c : Prop} {d : Decidable c} {A B : Prop} (q : c) (h : @ite Prop c d A B) : A := by rw [if_pos q] at h; exact h
theorem ite_f {c : Prop} {d : Decidable c} {A B : Prop} (q : ¬ c) (h : @ite Prop c d A B) : B := by rw [if_neg q] at h; exact h
/-! where everything lies behind the constructors: the class's object at 0, three houses at 1, 17, 33, the array of eight at 49, a copy of the kettles at 50, the input at 56, the line at 60 (its letters, seen from here, at 61), the eight houses from 62 on, the reference at 190, the law's two cells at 195, 196 -/
def houL : List Nat := [1, 17, 33, 62, 78, 94, 110, 126, 142, 158, 174]
def isHou (a : Nat) : Prop := houL.contains a = true
def isKet (a : Nat) : Prop := (a == 50 || (houL.map (· + 1)).contains a) = true
def isOrd (a : Nat) : Prop := (houL.map (· + 7)).contains a = true
def isLed (a : Nat) : Prop := (houL.map (· + 13)).contains a = true
def isSB (a : Nat) : Prop := a = 60
def isVer (v : Nat) : Prop := 1000000 ≤ v ∧ v < 1000013
def isRfs (v : Nat) : Prop := 1000020 ≤ v ∧ v < 1000025
def isStr (v : Nat) : Prop := (decide (1000056 ≤ v) && decide (v < 1000085)) = true
/-- the places of $SwitchMap -/
def swmC (j : Nat) : Int32 := nI (([1, 2, 3, 4, 5, 6, 7, 8, 9, 10, 11, 13, 12] : List Nat).getD j 0)
def wordC (v : Nat) : Nat := if v = 1000000 then 1000070 else if v = 1000001 then 1000072 else if v = 1000002 then 1000074 else if v = 1000003 then 1000076 else if v = 1000004 then 1000078 else if v = 1000005 then 1000068 else if v = 1000006 then 1000079 else if v = 1000007 then 1000080 else if v = 1000008 then 1000083 else if v = 1000009 then 1000081 else if v = 1000010 then 1000082 else if v = 1000011 then 1000066 else if v = 1000012 then 1000084 else 1000084
def kindC (v : Nat) : Nat := if v = 1000000 then 1000071 else if v = 1000001 then 1000073 else if v = 1000002 then 1000075 else if v = 1000003 then 1000077 else if v = 1000004 then 1000071 else if v = 1000005 then 1000069 else if v = 1000006 then 1000071 else if v = 1000007 then 1000071 else if v = 1000008 then 1000071 else if v = 1000009 then 1000071 else if v = 1000010 then 1000071 else if v = 1000011 then 1000067 else if v = 1000012 then 1000069 else 1000069
/-- the letters of the String constants from code 56 on -/
def strT (v : Nat) : List Nat := if v = 1000056 then [32, 98] else if v = 1000057 then [32, 116] else if v = 1000058 then [32, 112] else if v = 1000059 then [116, 104, 101, 32, 108, 105, 110, 101, 32, 104, 97, 115, 32, 110, 111, 32, 115, 117, 99, 104, 32, 99, 104, 97, 114, 97, 99, 116, 101, 114] else if v = 1000060 then [116, 104, 101, 32, 99, 104, 97, 114, 97, 99, 116, 101, 114, 32, 105, 115, 32, 110, 111, 116, 32, 105, 110, 32, 116, 104, 101, 32, 114, 97, 110, 103, 101, 32, 102, 114, 111, 109, 32, 98, 108, 97, 110, 107, 32, 116, 111, 32, 116, 105, 108, 100, 101] else if v = 1000061 then [116, 104, 101, 32, 105, 110, 112, 117, 116, 32, 98, 117, 102, 102, 101, 114, 32, 105, 115, 32, 102, 117, 108, 108] else if v = 1000062 then [116, 104, 101, 32, 112, 114, 111, 103, 114, 97, 109, 32, 105, 115, 32, 109, 97, 108, 102, 111, 114, 109, 101, 100] else if v = 1000063 then [97, 32, 99, 111, 109, 109, 97, 110, 100, 32, 111, 102, 32, 116, 104, 101, 32, 112, 114, 111, 103, 114, 97, 109, 32, 102, 97, 105, 108, 101, 100] else if v = 1000064 then [110, 111, 32, 99, 104, 97, 110, 103, 101, 32, 99, 97, 110, 32, 98, 101, 32, 117, 110, 100, 111, 110, 101] else if v = 1000065 then [116, 104, 101, 114, 101, 32, 105, 115, 32, 110, 111, 32, 115, 97, 118, 101, 100, 32, 99, 111, 112, 121] else if v = 1000066 then [97, 116, 116, 101, 110, 100] else if v = 1000067 then [100] else if v = 1000068 then [115, 101, 114, 118, 101] else if v = 1000069 then [] else if v = 1000070 then [107, 101, 116, 116, 108, 101] else if v = 1000071 then [110] else if v = 1000072 then [102, 105, 108, 108] else if v = 1000073 then [100, 110] else if v = 1000074 then [98, 117, 114, 110, 101, 114] else if v = 1000075 then [100, 100] else if v = 1000076 then [111, 114, 100, 101, 114] else if v = 1000077 then [100, 100, 110, 100] else if v = 1000078 then [99, 97, 110, 99, 101, 108] else if v = 1000079 then [119, 97, 115, 104] else if v = 1000080 then [115, 116, 101, 97, 109] else if v = 1000081 then [99, 117, 112] else if v = 1000082 then [108, 105, 116, 114, 101] else if v = 1000083 then [109, 105, 110, 117, 116, 101, 115] else if v = 1000084 then [99, 108, 111, 115, 101] else []
/-- a verb's ordinal -/
def ordN (v : Nat) : Nat := if v = 1000000 then 0 else if v = 1000001 then 1 else if v = 1000002 then 2 else if v = 1000003 then 3 else if v = 1000004 then 4 else if v = 1000005 then 5 else if v = 1000006 then 6 else if v = 1000007 then 7 else if v = 1000008 then 8 else if v = 1000009 then 9 else if v = 1000010 then 10 else if v = 1000011 then 11 else if v = 1000012 then 12 else 13
def dbl2 : UInt64 := 4611686018427387904
/-! the line, as a row of letters -/
def sbPut (I : IT) (x : Int32) : IT := up2 (up2 I 61 (ix (I 60 3)) x) 60 3 (I 60 3 + nI 1)
def sbApp : List Nat → IT → IT
  | [], I => I
  | c :: l, I => sbApp l (sbPut I (nI c))
/-- the decimal digits -/
def digs : Nat → Nat → List Nat
  | 0, _ => []
  | f + 1, n => if n < 10 then [48 + n] else digs f (n / 10) ++ [48 + n % 10]
def sbRoom (I : IT) (n : Nat) : Prop := 0 ≤ (I 60 3).toInt ∧ (I 60 3).toInt + n ≤ 150
def f_J4_append_cf468 (a1 : Int32) (I : IT) (K : Nat → IT → Prop) : Prop := (0 ≤ a1.toInt ∧ a1.toInt < 128) ∧ sbRoom I 1 ∧ K 60 (sbPut I a1)
def f_J4_append_bf812 (a1 : Int32) (I : IT) (K : Nat → IT → Prop) : Prop := 0 ≤ a1.toInt ∧ sbRoom I 10 ∧ K 60 (sbApp (digs 10 (ix a1)) I)
def f_J4_append_15ec4 (a1 : Nat) (I : IT) (K : Nat → IT → Prop) : Prop := sbRoom I 2 ∧ (strT a1).length ≤ 2 ∧ K 60 (sbApp (strT a1) I)
def f_J4_setLength_d00df (a1 : Int32) (I : IT) (K : IT → Prop) : Prop := a1 = nI 0 ∧ K (up2 I 60 3 (nI 0))
def f_J4_length_8abf5 (I : IT) (K : Int32 → Prop) : Prop := K (I 60 3)
def f_J4_charAt_5068e (a1 : Int32) (I : IT) (K : Int32 → Prop) : Prop := (0 ≤ a1.toInt ∧ a1.toInt < (I 60 3).toInt) ∧ K (I 61 (ix a1))
def f_J0_length_8abf5 (a0 : Nat) (_ : IT) (K : Int32 → Prop) : Prop := K (nI (strT a0).length)
def f_J0_charAt_5068e (a0 : Nat) (a1 : Int32) (_ : IT) (K : Int32 → Prop) : Prop := inr a1 (strT a0).length ∧ K (nI ((strT a0).getD (ix a1) 0))
def f_Jxf58ca_floatToIntBits_5c35a (a0 : UInt32) (_ : IT) (K : Int32 → Prop) : Prop := vf_n32 a0 ∧ K a0.toInt32
/-! the law's own two cells -/
def wrL (L : LT) (v : Int64) (K : LT → Prop) : Prop := K (up2 L.1 195 0 v, L.2)
def wrD (L : LT) (v : UInt64) (K : LT → Prop) : Prop := K (L.1, up2 L.2 196 0 v)
theorem wrL_e {L : LT} {v : Int64} {K : LT → Prop} (h : wrL L v K) : K (up2 L.1 195 0 v, L.2) := h
theorem wrD_e {L : LT} {v : UInt64} {K : LT → Prop} (h : wrD L v K) : K (L.1, up2 L.2 196 0 v) := h
