/-! ===== the start: what the Statement gives of the constants ===== -/
/-- a String constant's letters, by its code -/
def ltC (code : Nat) : List Value := match cT.find? (fun r => r.2.1 == 60 + code) with
  | some r => r.2.2.2
  | none => []
def tmS (q : String × Nat × String × Nat) : Term := .string q.1 q.2.1
def vlS (q : String × Nat × String × Nat) : Term := .field (tmS q) "java/lang/String" "value" "[B"
def toI (v : Value) : Int32 := match v with
  | .int x => x
  | _ => 0
/-- what is said of a String constant -/
def atS (q : String × Nat × String × Nat) : List Cond := [.exactly (tmS q) "java/lang/String", .eq (.field (tmS q) "java/lang/String" "coder" "B") (.int 0), .arrayOf (vlS q) .byte, .eq (.length (vlS q)) (.int (Int32.ofNat (ltC q.2.2.2).length))] ++ (ltC q.2.2.2).zipIdx.map (fun r => .eq (.elem (vlS q) (.int (Int32.ofNat r.2))) (.int (toI r.1)))
def FL : List Cond := Jvm.Free.XT.flat (Jvm.Cond.and given_1 narrow_1)
theorem n_all {args : Array Value} {s : State} (h : (Jvm.Cond.and given_1 narrow_1).before args s = true) : ∀ w ∈ FL, w.before args s = true := flat_of_before _ h
/-- the first list stands in the second, in its order: one pass -/
def subC : List Cond → List Cond → Bool
  | l, [] => l.isEmpty
  | l, b :: m => match l with
    | [] => true
    | a :: r => if a = b then subC r m else subC (a :: r) m
theorem subC_mem : ∀ (m l : List Cond), subC l m = true → ∀ w ∈ l, w ∈ m := by
  intro m
  induction m with
  | nil =>
    intro l h w hw
    cases l with
    | nil => cases hw
    | cons a r => exact absurd h (by simp [subC])
  | cons b m ih =>
    intro l h w hw
    cases l with
    | nil => cases hw
    | cons a r =>
      have h' : (if a = b then subC r m else subC (a :: r) m) = true := h
      by_cases e : a = b
      · rw [if_pos e] at h'
        rcases List.mem_cons.mp hw with h2 | h2
        · exact List.mem_cons.mpr (Or.inl (h2.trans e))
        · exact List.mem_cons_of_mem _ (ih r h' w h2)
      · rw [if_neg e] at h'
        exact List.mem_cons_of_mem _ (ih (a :: r) h' w hw)
def vN : List String := ["KETTLE", "FILL", "BURNER", "ORDER", "CANCEL", "SERVE", "WASH", "STEAM", "MINUTES", "CUP", "LITRE", "ATTEND", "CLOSE"]
def rN : List String := ["NOTHING", "NO_SUCH_KETTLE", "OUT_OF_RANGE", "NOT_NOW", "NO_SUCH_ORDER"]
/-- the term of a constant, by its code -/
def tmA (c : Nat) : Term :=
  if c < 13 then .static "TeaHouse$Verb" (vN.getD c "") "LTeaHouse$Verb;"
  else if c < 20 then .arg 0
  else if c < 25 then .static "TeaHouse$Refusal" (rN.getD (c - 20) "") "LTeaHouse$Refusal;"
  else if c = 31 then .static "TeaHouse$1" "$SwitchMap$TeaHouse$Verb" "[I"
  else if c = 32 then .static "java/lang/Integer" "DigitOnes" "[B"
  else if c = 33 then .static "java/lang/Integer" "DigitTens" "[B"
  else if c = 34 then .static "jdk/internal/util/Preconditions" "SIOOBE_FORMATTER" "Ljava/util/function/BiFunction;"
  else if c < 100 then tmS (cS.getD (c - 40) ("", 0, "", 0))
  else if c < 200 then vlS (cS.getD (c - 100) ("", 0, "", 0))
  else .arg 0
def clA (c : Nat) : String := if c < 13 then "TeaHouse$Verb" else "TeaHouse$Refusal"
def enO : List Nat := [5, 22, 20, 23, 21, 24, 0, 1, 2, 3, 4, 6, 7, 9, 10, 11, 12, 8]
def neO : List (Nat × Nat) := [(5, 22), (5, 20), (22, 20), (5, 23), (22, 23), (20, 23), (5, 21), (22, 21), (20, 21), (23, 21), (5, 24), (22, 24), (20, 24), (23, 24), (21, 24), (5, 0), (22, 0), (20, 0), (23, 0), (21, 0), (24, 0), (5, 1), (22, 1), (20, 1), (23, 1), (21, 1), (24, 1), (0, 1), (5, 2), (22, 2), (20, 2), (23, 2), (21, 2), (24, 2), (0, 2), (1, 2), (5, 3), (22, 3), (20, 3), (23, 3), (21, 3), (24, 3), (0, 3), (1, 3), (2, 3), (5, 4), (22, 4), (20, 4), (23, 4), (21, 4), (24, 4), (0, 4), (1, 4), (2, 4), (3, 4), (5, 6), (22, 6), (20, 6), (23, 6), (21, 6), (24, 6), (0, 6), (1, 6), (2, 6), (3, 6), (4, 6), (5, 7), (22, 7), (20, 7), (23, 7), (21, 7), (24, 7), (0, 7), (1, 7), (2, 7), (3, 7), (4, 7), (6, 7), (5, 9), (22, 9), (20, 9), (23, 9), (21, 9), (24, 9), (0, 9), (1, 9), (2, 9), (3, 9), (4, 9), (6, 9), (7, 9), (5, 10), (22, 10), (20, 10), (23, 10), (21, 10), (24, 10), (0, 10), (1, 10), (2, 10), (3, 10), (4, 10), (6, 10), (7, 10), (9, 10), (5, 11), (22, 11), (20, 11), (23, 11), (21, 11), (24, 11), (0, 11), (1, 11), (2, 11), (3, 11), (4, 11), (6, 11), (7, 11), (9, 11), (10, 11), (5, 12), (22, 12), (20, 12), (23, 12), (21, 12), (24, 12), (0, 12), (1, 12), (2, 12), (3, 12), (4, 12), (6, 12), (7, 12), (9, 12), (10, 12), (11, 12), (5, 8), (22, 8), (20, 8), (23, 8), (21, 8), (24, 8), (0, 8), (1, 8), (2, 8), (3, 8), (4, 8), (6, 8), (7, 8), (9, 8), (10, 8), (11, 8), (12, 8)]
def enV : List Nat := [5, 0, 1, 2, 3, 4, 6, 7, 9, 10, 11, 12, 8]
def ncO : List (String × String) := [("java/lang/IllegalArgumentException", "java/lang/IndexOutOfBoundsException"), ("java/lang/IllegalStateException", "java/lang/IndexOutOfBoundsException"), ("java/util/NoSuchElementException", "java/lang/IndexOutOfBoundsException"), ("java/lang/IndexOutOfBoundsException", "java/util/NoSuchElementException"), ("java/lang/IllegalArgumentException", "java/util/NoSuchElementException"), ("java/lang/IllegalStateException", "java/util/NoSuchElementException"), ("java/lang/IndexOutOfBoundsException", "java/lang/IllegalArgumentException"), ("java/lang/IllegalStateException", "java/lang/IllegalArgumentException"), ("java/util/NoSuchElementException", "java/lang/IllegalArgumentException"), ("java/lang/IndexOutOfBoundsException", "java/lang/IllegalStateException"), ("java/lang/IllegalArgumentException", "java/lang/IllegalStateException"), ("java/util/NoSuchElementException", "java/lang/IllegalStateException")]
def toT (v : Value) : Term := match v with
  | .int x => .int x
  | .ref k => tmA (k - 1000000)
  | _ => .arg 0
def atF (q : String × String × String × Value × Nat) : Cond := .eq (.field (tmA q.2.2.2.2) q.1 q.2.1 q.2.2.1) (toT q.2.2.2.1)
def WF : List Cond := enV.flatMap (fun c => (cF.filter (fun q => q.2.2.2.2 == c)).map atF)
def atArr (q : FieldType × Nat × Nat × List Value) : List Cond := [.arrayOf (tmA q.2.1) q.1, .eq (.length (tmA q.2.1)) (.int (Int32.ofNat q.2.2.2.length))] ++ q.2.2.2.zipIdx.map (fun r => .eq (.elem (tmA q.2.1) (.int (Int32.ofNat r.2))) (toT r.1))
set_option maxRecDepth 100000 in
theorem s_ex : subC (enO.map fun c => Cond.exactly (tmA c) (clA c)) FL = true := by decide +kernel
set_option maxRecDepth 100000 in
theorem s_ne : subC (neO.map fun r => Cond.not (.eq (tmA r.1) (tmA r.2))) FL = true := by decide +kernel
set_option maxRecDepth 100000 in
theorem s_nc : subC (ncO.map fun r => Cond.not (.castable r.1 r.2)) FL = true := by decide +kernel
set_option maxRecDepth 100000 in
theorem s_F : subC WF FL = true := by decide +kernel
set_option maxRecDepth 100000 in
theorem s_T0 : ∀ q ∈ cT.take 3, subC (atArr q) FL = true := by decide +kernel
set_option maxRecDepth 100000 in
theorem s_S : subC (cS.map fun q => Cond.stringRef q.1 q.2.1 q.2.2.1) lw_tbl = true := by decide +kernel
set_option maxRecDepth 100000 in
theorem s_st : subC (cS.flatMap atS) FL = true := by decide +kernel
