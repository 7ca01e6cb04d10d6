/-! ===== the start: what the Statement gives of the constants ===== -/
/-- a String constant's letters, by its code -/
def ltC (code : Nat) : List Value := match cT.find? (fun r => r.2.1 == 60 + code) with
  | some r => r.2.2.2
  | none => []
def tmS (q : String × Nat × String × Nat) : Term := .string q.1 q.2.1
def vlS (q : String × Nat × String × Nat) : Term := .field (tmS q) "java/lang/String" "value" "[B"
def toI (v : Value) : Int32 := match v with
  | .int x => x
  | _ => 0
/-- what is said of a String constant -/
def atS (q : String × Nat × String × Nat) : List Cond := [.exactly (tmS q) "java/lang/String", .eq (.field (tmS q) "java/lang/String" "coder" "B") (.int 0), .arrayOf (vlS q) .byte, .eq (.length (vlS q)) (.int (Int32.ofNat (ltC q.2.2.2).length))] ++ (ltC q.2.2.2).zipIdx.map (fun r => .eq (.elem (vlS q) (.int (Int32.ofNat r.2))) (.int (toI r.1)))
theorem n_all {args : Array Value} {s : State} (h : (Jvm.Cond.and given_1 narrow_1).before args s = true) : ∀ w ∈ Jvm.Free.XT.flat (Jvm.Cond.and given_1 narrow_1), w.before args s = true := flat_of_before _ h
theorem s_one : (Jvm.Free.XT.flat (Jvm.Cond.and given_1 narrow_1))[549]? = some (.exactly (.string "TeaHouse" 383) "java/lang/String") := by decide +kernel
theorem s_two : (.exactly (.string "TeaHouse" 383) "java/lang/String" : Cond) ∈ Jvm.Free.XT.flat (Jvm.Cond.and given_1 narrow_1) := by decide +kernel
