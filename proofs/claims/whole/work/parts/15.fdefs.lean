/-! the methods of the class and of the reference as predicates over what comes behind them: by a program of mine (wip/whole/dec) out of the decode rows -/
def f_X3_copyFrom_b10 (a0 : Nat) (a1 : Nat) (K : IT → Prop) : Nat → Int32 → IT → Prop
  | 0, _, _ => False
  | n + 1, v2, I =>
    if (nI 4) ≤ v2 then (
      K I)
    else (
      inr v2 4 ∧ (
      wr I (a0 + 1) (ix v2) (I (a1 + 1) (ix v2)) fun I3 =>
      wr I3 (a0 + 2) (ix v2) (I3 (a1 + 2) (ix v2)) fun I4 =>
      wr I4 (a0 + 3) (ix v2) (I4 (a1 + 3) (ix v2)) fun I5 =>
      wr I5 (a0 + 4) (ix v2) (I5 (a1 + 4) (ix v2)) fun I6 =>
      isZ (I6 (a1 + 5) (ix v2)) ∧ (
      wr I6 (a0 + 5) (ix v2) (I6 (a1 + 5) (ix v2)) fun I8 =>
      bnd (v2 + nI 1) fun x9 =>
      f_X3_copyFrom_b10 a0 a1 K n x9 I8)))
def f_X3_copyFrom (a0 : Nat) (a1 : Nat) (I : IT) (K : IT → Prop) : Prop :=
  wr I a0 5 (I a1 5) fun I1 =>
  f_X3_copyFrom_b10 a0 a1 K 4096 (nI 0) I1
def f_X4_copyFrom_b34 (a0 : Nat) (a1 : Nat) (K : IT → Prop) : Nat → Int32 → IT → Prop
  | 0, _, _ => False
  | n + 1, v2, I =>
    if (nI 14) ≤ v2 then (
      K I)
    else (
      inr v2 14 ∧ (
      wr I (a0 + 1) (ix v2) (I (a1 + 1) (ix v2)) fun I3 =>
      inr (v2 + (nI 1)) 15 ∧ (
      wr I3 (a0 + 2) (ix (v2 + (nI 1))) (I3 (a1 + 2) (ix (v2 + (nI 1)))) fun I5 =>
      bnd (v2 + nI 1) fun x6 =>
      f_X4_copyFrom_b34 a0 a1 K n x6 I5)))
def f_X4_copyFrom (a0 : Nat) (a1 : Nat) (I : IT) (K : IT → Prop) : Prop :=
  wr I a0 2 (I a1 2) fun I1 =>
  wr I1 a0 3 (I1 a1 3) fun I2 =>
  wr I2 a0 4 (I2 a1 4) fun I3 =>
  wr I3 a0 5 (I3 a1 5) fun I4 =>
  f_X4_copyFrom_b34 a0 a1 K 4096 (nI 0) I4
def f_X5_copyOrder (a0 : Nat) (a1 : Nat) (a2 : Int32) (a3 : Int32) (I : IT) (K : IT → Prop) : Prop :=
  inr a2 10 ∧ (
  inr a3 10 ∧ (
  wr I (a0 + 1) (ix a3) (I (a1 + 1) (ix a2)) fun I3 =>
  wr I3 (a0 + 2) (ix a3) (I3 (a1 + 2) (ix a2)) fun I4 =>
  wr I4 (a0 + 3) (ix a3) (I4 (a1 + 3) (ix a2)) fun I5 =>
  wr I5 (a0 + 4) (ix a3) (I5 (a1 + 4) (ix a2)) fun I6 =>
  wr I6 (a0 + 5) (ix a3) (I6 (a1 + 5) (ix a2)) fun I7 =>
  K I7))
def f_X5_copyFrom_b18 (a0 : Nat) (a1 : Nat) (K : IT → Prop) : Nat → Int32 → IT → Prop
  | 0, _, _ => False
  | n + 1, v2, I =>
    if (nI 10) ≤ v2 then (
      K I)
    else (
      f_X5_copyOrder a0 a1 v2 v2 I (fun I2 =>
      bnd (v2 + nI 1) fun x3 =>
      f_X5_copyFrom_b18 a0 a1 K n x3 I2))
def f_X5_copyFrom (a0 : Nat) (a1 : Nat) (I : IT) (K : IT → Prop) : Prop :=
  wr I a0 5 (I a1 5) fun I1 =>
  wr I1 a0 6 (I1 a1 6) fun I2 =>
  f_X5_copyFrom_b18 a0 a1 K 4096 (nI 0) I2
def f_X1_copyFrom (a0 : Nat) (a1 : Nat) (I : IT) (K : IT → Prop) : Prop :=
  f_X3_copyFrom (a0 + 1) (a1 + 1) I (fun I1 =>
  f_X5_copyFrom (a0 + 7) (a1 + 7) I1 (fun I2 =>
  f_X4_copyFrom (a0 + 13) (a1 + 13) I2 (fun I3 =>
  wr I3 a0 3 (I3 a1 3) fun I4 =>
  wr I4 a0 4 (I4 a1 4) fun I5 =>
  wr I5 a0 5 (I5 a1 5) fun I6 =>
  wr I6 a0 6 (I6 a1 6) fun I7 =>
  wr I7 a0 7 (I7 a1 7) fun I8 =>
  wr I8 a0 8 (I8 a1 8) fun I9 =>
  wr I9 a0 9 (I9 a1 9) fun I10 =>
  isZ (I10 a1 10) ∧ (
  wr I10 a0 10 (I10 a1 10) fun I12 =>
  wr I12 a0 11 (I12 a1 11) fun I13 =>
  wr I13 a0 12 (I13 a1 12) fun I14 =>
  wr I14 a0 13 (I14 a1 13) fun I15 =>
  K I15))))
def f_X3_suitable_b12 (a0 : Nat) (a1 : Int32) (a2 : Int32) (I : IT) (K : Int32 → Prop) : Nat → Int32 → Int32 → Int32 → Prop
  | 0, _, _, _ => False
  | n + 1, v3, v4, v5 =>
    if (I a0 5) ≤ v5 then (
      K v3)
    else (
      inr v5 4 ∧ (
      if (I (a0 + 2) (ix v5)) < (a1 * (nI 2)) then (
        bnd (v5 + nI 1) fun x4 =>
        f_X3_suitable_b12 a0 a1 a2 I K n v3 v4 x4)
      else (
        if (I (a0 + 3) (ix v5)) ≤ v4 then (
          bnd (v5 + nI 1) fun x6 =>
          f_X3_suitable_b12 a0 a1 a2 I K n v3 v4 x6)
        else (
          bnd (I (a0 + 3) (ix v5)) fun x7 =>
          bnd (v5 + nI 1) fun x8 =>
          f_X3_suitable_b12 a0 a1 a2 I K n v5 x7 x8))))
def f_X3_suitable (a0 : Nat) (a1 : Int32) (a2 : Int32) (I : IT) (K : Int32 → Prop) : Prop :=
  bnd ((a2 * (nI 2)) - (nI 1)) fun x1 =>
  f_X3_suitable_b12 a0 a1 a2 I K 4096 (-1) x1 (nI 0)
def f_X1_kettleForFirst (a0 : Nat) (I : IT) (K : Int32 → Prop) : Prop :=
  if (I (a0 + 7) 5) ≤ 0 then (
    K (-1))
  else (
    f_X3_suitable (a0 + 1) (I (a0 + 10) 0) (I (a0 + 11) 0) I (fun x2 =>
    K x2))
def f_X1_firstCanBeServed (a0 : Nat) (I : IT) (K : Int32 → Prop) : Prop :=
  f_X1_kettleForFirst a0 I (fun x1 =>
  if x1 = (-1) then (
    K (nI 0))
  else (
    if (I a0 3) < (I (a0 + 10) 0) then (
      K (nI 0))
    else (
      K (nI 1))))
def f_X1_unless (a0 : Int32) (a1 : Int32) (I : IT) (K : Nat → Prop) : Prop :=
  if a0 = 0 then (
    K 1000022)
  else (
    if a1 = 0 then (
      K 1000023)
    else (
      K 1000020))
def f_X3_has (a0 : Nat) (a1 : Int32) (I : IT) (K : Int32 → Prop) : Prop :=
  if a1 < 0 then (
    K (nI 0))
  else (
    if (I a0 5) ≤ a1 then (
      K (nI 0))
    else (
      K (nI 1)))
def f_X8_isWithin (a0 : Int32) (a1 : Int32) (a2 : Int32) (I : IT) (K : Int32 → Prop) : Prop :=
  if a0 < a1 then (
    K (nI 0))
  else (
    if a2 < a0 then (
      K (nI 0))
    else (
      K (nI 1)))
def f_X1_refusalToFill_b54 (a0 : Nat) (a1 : Int32) (a2 : Int32) (I : IT) (K : Nat → Prop) (s0 : Int32) (s1 : Int32) : Prop :=
  f_X1_unless s0 s1 I (fun x1 =>
  K x1)
def f_X1_refusalToFill (a0 : Nat) (a1 : Int32) (a2 : Int32) (I : IT) (K : Nat → Prop) : Prop :=
  f_X3_has (a0 + 1) a1 I (fun x1 =>
  if x1 = 0 then (
    K 1000021)
  else (
    inr a1 4 ∧ (
    bnd ((I (a0 + 3) (ix a1)) + (a2 * (nI 2))) fun x4 =>
    f_X8_isWithin a2 (nI 1) (nI 16) I (fun x5 =>
    if (I (a0 + 2) (ix a1)) < x4 then (
      f_X1_refusalToFill_b54 a0 a1 a2 I K x5 (nI 0))
    else (
      f_X1_refusalToFill_b54 a0 a1 a2 I K x5 (nI 1))))))
def f_X5_find_b2 (a0 : Nat) (a1 : Int32) (I : IT) (K : Int32 → Prop) : Nat → Int32 → Prop
  | 0, _ => False
  | n + 1, v2 =>
    if (I a0 5) ≤ v2 then (
      K (-1))
    else (
      inr v2 10 ∧ (
      if (I (a0 + 1) (ix v2)) = a1 then (
        K v2)
      else (
        bnd (v2 + nI 1) fun x4 =>
        f_X5_find_b2 a0 a1 I K n x4)))
def f_X5_find (a0 : Nat) (a1 : Int32) (I : IT) (K : Int32 → Prop) : Prop :=
  f_X5_find_b2 a0 a1 I K 4096 (nI 0)
def f_X1_refusal_b95 (a0 : Nat) (a1 : Nat) (a2 : Int32) (a3 : Int32) (a4 : Int32) (a5 : Int32) (I : IT) (K : Nat → Prop) (s0 : Int32) (s1 : Int32) : Prop :=
  f_X1_unless s0 s1 I (fun x1 =>
  K x1)
def f_X1_refusal_b199 (a0 : Nat) (a1 : Nat) (a2 : Int32) (a3 : Int32) (a4 : Int32) (a5 : Int32) (I : IT) (K : Nat → Prop) (s0 : Int32) (s1 : Int32) : Prop :=
  f_X1_unless s0 s1 I (fun x1 =>
  K x1)
def f_X1_refusal_b182 (a0 : Nat) (a1 : Nat) (a2 : Int32) (a3 : Int32) (a4 : Int32) (a5 : Int32) (I : IT) (K : Nat → Prop) (s0 : Int32) : Prop :=
  if (nI 10) ≤ (I (a0 + 7) 5) then (
    f_X1_refusal_b199 a0 a1 a2 a3 a4 a5 I K s0 (nI 0))
  else (
    f_X1_refusal_b199 a0 a1 a2 a3 a4 a5 I K s0 (nI 1))
def f_X1_refusal_b181 (a0 : Nat) (a1 : Nat) (a2 : Int32) (a3 : Int32) (a4 : Int32) (a5 : Int32) (I : IT) (K : Nat → Prop)  : Prop :=
  f_X1_refusal_b182 a0 a1 a2 a3 a4 a5 I K (nI 0)
def f_X1_refusal_b257 (a0 : Nat) (a1 : Nat) (a2 : Int32) (a3 : Int32) (a4 : Int32) (a5 : Int32) (I : IT) (K : Nat → Prop) (s0 : Int32) (s1 : Int32) : Prop :=
  f_X1_unless s0 s1 I (fun x1 =>
  K x1)
def f_X1_refusal_b281 (a0 : Nat) (a1 : Nat) (a2 : Int32) (a3 : Int32) (a4 : Int32) (a5 : Int32) (I : IT) (K : Nat → Prop) (s0 : Int32) (s1 : Int32) : Prop :=
  f_X1_unless s0 s1 I (fun x1 =>
  K x1)
def f_X1_refusal_b297 (a0 : Nat) (a1 : Nat) (a2 : Int32) (a3 : Int32) (a4 : Int32) (a5 : Int32) (I : IT) (K : Nat → Prop)  : Prop :=
  f_X8_isWithin a2 (nI 1) (nI 80) I (fun x1 =>
  f_X1_unless x1 (nI 1) I (fun x2 =>
  K x2))
def f_X1_refusal_b327 (a0 : Nat) (a1 : Nat) (a2 : Int32) (a3 : Int32) (a4 : Int32) (a5 : Int32) (I : IT) (K : Nat → Prop) (s1 : Int32) : Prop :=
  f_X1_unless (nI 1) s1 I (fun x1 =>
  K x1)
def f_X1_refusal (a0 : Nat) (a1 : Nat) (a2 : Int32) (a3 : Int32) (a4 : Int32) (a5 : Int32) (I : IT) (K : Nat → Prop) : Prop :=
  inr (nI (ordN a1)) 13 ∧ (
  if (swmC (ix (nI (ordN a1)))) = (nI 1) then (
    f_X8_isWithin a2 (nI 2) (nI 16) I (fun x2 =>
    if (nI 4) ≤ (I (a0 + 1) 5) then (
      f_X1_refusal_b95 a0 a1 a2 a3 a4 a5 I K x2 (nI 0))
    else (
      f_X1_refusal_b95 a0 a1 a2 a3 a4 a5 I K x2 (nI 1))))
  else (
  if (swmC (ix (nI (ordN a1)))) = (nI 2) then (
    f_X1_refusalToFill a0 a2 a3 I (fun x4 =>
    K x4))
  else (
  if (swmC (ix (nI (ordN a1)))) = (nI 3) then (
    f_X3_has (a0 + 1) a2 I (fun x5 =>
    if x5 = 0 then (
      K 1000021)
    else (
      f_X8_isWithin a3 (nI 0) (nI 5) I (fun x7 =>
      f_X1_unless x7 (nI 1) I (fun x8 =>
      K x8)))))
  else (
  if (swmC (ix (nI (ordN a1)))) = (nI 4) then (
    f_X8_isWithin a2 (nI 0) (nI 9) I (fun x9 =>
    if x9 = 0 then (
      f_X1_refusal_b181 a0 a1 a2 a3 a4 a5 I K)
    else (
      f_X8_isWithin a3 (nI 1) (nI 6) I (fun x11 =>
      if x11 = 0 then (
        f_X1_refusal_b181 a0 a1 a2 a3 a4 a5 I K)
      else (
        f_X8_isWithin a4 (nI 60) (nI 100) I (fun x13 =>
        if x13 = 0 then (
          f_X1_refusal_b181 a0 a1 a2 a3 a4 a5 I K)
        else (
          f_X8_isWithin a5 (nI 1) (nI 9) I (fun x15 =>
          if x15 = 0 then (
            f_X1_refusal_b181 a0 a1 a2 a3 a4 a5 I K)
          else (
            f_X1_refusal_b182 a0 a1 a2 a3 a4 a5 I K (nI 1))))))))))
  else (
  if (swmC (ix (nI (ordN a1)))) = (nI 5) then (
    f_X5_find (a0 + 7) a2 I (fun x17 =>
    if x17 = (-1) then (
      K 1000024)
    else (
      K 1000020)))
  else (
  if (swmC (ix (nI (ordN a1)))) = (nI 6) then (
    f_X1_firstCanBeServed a0 I (fun x19 =>
    f_X1_unless (nI 1) x19 I (fun x20 =>
    K x20)))
  else (
  if (swmC (ix (nI (ordN a1)))) = (nI 7) then (
    f_X8_isWithin a2 (nI 1) (nI 20) I (fun x21 =>
    if ((nI 20) - (I a0 3)) < a2 then (
      f_X1_refusal_b257 a0 a1 a2 a3 a4 a5 I K x21 (nI 0))
    else (
      f_X1_refusal_b257 a0 a1 a2 a3 a4 a5 I K x21 (nI 1))))
  else (
  if (swmC (ix (nI (ordN a1)))) = (nI 8) then (
    f_X8_isWithin a2 (nI 1) (nI 80) I (fun x23 =>
    if (I a0 4) < a2 then (
      f_X1_refusal_b281 a0 a1 a2 a3 a4 a5 I K x23 (nI 0))
    else (
      f_X1_refusal_b281 a0 a1 a2 a3 a4 a5 I K x23 (nI 1))))
  else (
  if (swmC (ix (nI (ordN a1)))) = (nI 9) then (
    f_X8_isWithin a2 (nI 1) (nI 120) I (fun x25 =>
    f_X1_unless x25 (nI 1) I (fun x26 =>
    K x26)))
  else (
  if (swmC (ix (nI (ordN a1)))) = (nI 10) then (
    f_X1_refusal_b297 a0 a1 a2 a3 a4 a5 I K)
  else (
  if (swmC (ix (nI (ordN a1)))) = (nI 11) then (
    f_X1_refusal_b297 a0 a1 a2 a3 a4 a5 I K)
  else (
  if (swmC (ix (nI (ordN a1)))) = (nI 12) then (
    if (nI 14) ≤ (I (a0 + 13) 2) then (
      f_X1_refusal_b327 a0 a1 a2 a3 a4 a5 I K (nI 0))
    else (
      f_X1_refusal_b327 a0 a1 a2 a3 a4 a5 I K (nI 1)))
  else (
    K 1000020)))))))))))))
def f_X1_exchangeAttendant_b12 (a0 : Nat) (a1 : Int32) (K : Int32 → IT → Prop) (s0 : Int32) (I : IT) : Prop :=
  wr I a0 10 a1 fun I1 =>
  K s0 I1
def f_X1_exchangeAttendant (a0 : Nat) (a1 : Int32) (I : IT) (K : Int32 → IT → Prop) : Prop :=
  if (I a0 10) = 0 then (
    f_X1_exchangeAttendant_b12 a0 a1 K (nI 0) I)
  else (
    f_X1_exchangeAttendant_b12 a0 a1 K (nI 1) I)
def f_X1_exchangeCupPrice (a0 : Nat) (a1 : Int32) (I : IT) (K : Int32 → IT → Prop) : Prop :=
  bnd (I a0 8) fun x1 =>
  wr I a0 8 a1 fun I2 =>
  K x1 I2
def f_X1_exchangeSteamPrice (a0 : Nat) (a1 : Int32) (I : IT) (K : Int32 → IT → Prop) : Prop :=
  bnd (I a0 9) fun x1 =>
  wr I a0 9 a1 fun I2 =>
  K x1 I2
def f_X3_rise (a0 : Nat) (a1 : Int32) (I : IT) (K : Int32 → Prop) : Prop :=
  inr a1 4 ∧ (
  K (((nI 3) * (I (a0 + 4) (ix a1))) - (nI 1)))
def f_X3_heated (a0 : Nat) (a1 : Int32) (I : IT) (K : Int32 → Prop) : Prop :=
  inr a1 4 ∧ (
  f_X3_rise a0 a1 I (fun x2 =>
  K (if (nI 40) < (if ((I (a0 + 3) (ix a1)) + x2) < (nI 200) then ((I (a0 + 3) (ix a1)) + x2) else (nI 200)) then (if ((I (a0 + 3) (ix a1)) + x2) < (nI 200) then ((I (a0 + 3) (ix a1)) + x2) else (nI 200)) else (nI 40))))
def f_X3_passMinute_b94 (a0 : Nat) (a1 : Int32) (K : Int32 → IT → Prop) (s0 : Int32) (I : IT) : Prop :=
  inr a1 4 ∧ (
  wr I (a0 + 2) (ix a1) ((I (a0 + 2) (ix a1)) - s0) fun I2 =>
  K s0 I2)
def f_X3_passMinute_b65 (a0 : Nat) (a1 : Int32) (K : Int32 → IT → Prop) (s2 : Int32) (I : IT) : Prop :=
  inr a1 4 ∧ (
  wr I (a0 + 5) (ix a1) s2 fun I2 =>
  if (I2 (a0 + 5) (ix a1)) = 0 then (
    f_X3_passMinute_b94 a0 a1 K (nI 0) I2)
  else (
    f_X3_passMinute_b94 a0 a1 K (if (I2 (a0 + 2) (ix a1)) < (I2 (a0 + 4) (ix a1)) then (I2 (a0 + 2) (ix a1)) else (I2 (a0 + 4) (ix a1))) I2))
def f_X3_passMinute_b64 (a0 : Nat) (a1 : Int32) (K : Int32 → IT → Prop)  (I : IT) : Prop :=
  f_X3_passMinute_b65 a0 a1 K (nI 0) I
def f_X3_passMinute_b24 (a0 : Nat) (a1 : Int32) (K : Int32 → IT → Prop) (s2 : Int32) (I : IT) : Prop :=
  inr a1 4 ∧ (
  wr I (a0 + 3) (ix a1) s2 fun I2 =>
  if (I2 (a0 + 2) (ix a1)) ≤ 0 then (
    f_X3_passMinute_b64 a0 a1 K I2)
  else (
    if (I2 (a0 + 3) (ix a1)) = (nI 200) then (
      if (I2 (a0 + 4) (ix a1)) ≤ 0 then (
        f_X3_passMinute_b64 a0 a1 K I2)
      else (
        f_X3_passMinute_b65 a0 a1 K (nI 1) I2))
    else (
      f_X3_passMinute_b64 a0 a1 K I2)))
def f_X3_passMinute (a0 : Nat) (a1 : Int32) (I : IT) (K : Int32 → IT → Prop) : Prop :=
  inr a1 4 ∧ (
  if (I (a0 + 2) (ix a1)) = 0 then (
    f_X3_passMinute_b24 a0 a1 K (nI 40) I)
  else (
    f_X3_heated a0 a1 I (fun x3 =>
    f_X3_passMinute_b24 a0 a1 K x3 I)))
def f_X1_passMinutes_b12 (a0 : Nat) (a1 : Int32) (X4 : Int32 → Int32 → IT → Prop) (K : Int32 → IT → Prop) : Nat → Int32 → Int32 → Int32 → IT → Prop
  | 0, _, _, _, _ => False
  | n + 1, v2, v3, v4, I =>
    if (I (a0 + 1) 5) ≤ v4 then (
      bnd (v3 + nI 1) fun x2 =>
      X4 v2 x2 I)
    else (
      inr v4 4 ∧ (
      bnd (I (a0 + 6) (ix v4)) fun x4 =>
      f_X3_passMinute (a0 + 1) v4 I (fun x5 I6 =>
      wr I6 a0 4 ((I6 a0 4) + x5) fun I7 =>
      wr I7 a0 5 ((I7 a0 5) + x5) fun I8 =>
      if (I8 (a0 + 6) (ix v4)) = 0 then (
        bnd (v4 + nI 1) fun x10 =>
        f_X1_passMinutes_b12 a0 a1 X4 K n v2 v3 x10 I8)
      else (
        if x4 = 0 then (
          bnd (v2 + nI 1) fun x12 =>
          bnd (v4 + nI 1) fun x13 =>
          f_X1_passMinutes_b12 a0 a1 X4 K n x12 v3 x13 I8)
        else (
          bnd (v4 + nI 1) fun x14 =>
          f_X1_passMinutes_b12 a0 a1 X4 K n v2 v3 x14 I8)))))
def f_X1_passMinutes_b4 (a0 : Nat) (a1 : Int32) (K : Int32 → IT → Prop) : Nat → Int32 → Int32 → IT → Prop
  | 0, _, _, _ => False
  | n + 1, v2, v3, I =>
    if a1 ≤ v3 then (
      if (I a0 10) = 0 then (
        wr I a0 13 ((I a0 13) + v2) fun I3 =>
        K v2 I3)
      else (
        wr I a0 12 ((I a0 12) + v2) fun I4 =>
        K v2 I4))
    else (
      f_X1_passMinutes_b12 a0 a1 (fun y0_0 y0_1 I0_ => f_X1_passMinutes_b4 a0 a1 K n y0_0 y0_1 I0_) K 4096 v2 v3 (nI 0) I)
def f_X1_passMinutes (a0 : Nat) (a1 : Int32) (I : IT) (K : Int32 → IT → Prop) : Prop :=
  f_X1_passMinutes_b4 a0 a1 K 4096 (nI 0) (nI 0) I
def f_X4_enterSteam (a0 : Nat) (a1 : Int32) (I : IT) (K : IT → Prop) : Prop :=
  wr I a0 3 ((I a0 3) + a1) fun I1 =>
  wr I1 a0 5 ((I1 a0 5) + a1) fun I2 =>
  K I2
def f_X1_sell (a0 : Nat) (a1 : Int32) (I : IT) (K : Int32 → IT → Prop) : Prop :=
  bnd (a1 * (I a0 9)) fun x1 =>
  wr I a0 4 ((I a0 4) - a1) fun I2 =>
  f_X4_enterSteam (a0 + 13) x1 I2 (fun I3 =>
  K x1 I3)
def f_X4_enterCups (a0 : Nat) (a1 : Int32) (I : IT) (K : IT → Prop) : Prop :=
  wr I a0 3 ((I a0 3) + a1) fun I1 =>
  wr I1 a0 4 ((I1 a0 4) + a1) fun I2 =>
  K I2
def f_X5_remove_b15 (a0 : Nat) (a1 : Int32) (K : IT → Prop) : Nat → Int32 → IT → Prop
  | 0, _, _ => False
  | n + 1, v2, I =>
    if ((I a0 5) - (nI 1)) ≤ v2 then (
      wr I a0 5 ((I a0 5) - (nI 1)) fun I2 =>
      K I2)
    else (
      f_X5_copyOrder a0 a0 (v2 + (nI 1)) v2 I (fun I3 =>
      bnd (v2 + nI 1) fun x4 =>
      f_X5_remove_b15 a0 a1 K n x4 I3))
def f_X5_remove (a0 : Nat) (a1 : Int32) (I : IT) (K : IT → Prop) : Prop :=
  if a1 < 0 then (
    K I)
  else (
    if a1 < (I a0 5) then (
      f_X5_remove_b15 a0 a1 K 4096 a1 I)
    else (
      K I))
def f_X1_serveFirst (a0 : Nat) (I : IT) (K : Int32 → IT → Prop) : Prop :=
  f_X1_kettleForFirst a0 I (fun x1 =>
  if x1 = (-1) then (
    K (-1) I)
  else (
    bnd (I (a0 + 10) 0) fun x3 =>
    bnd (I (a0 + 8) 0) fun x4 =>
    inr x1 4 ∧ (
    wr I (a0 + 3) (ix x1) ((I (a0 + 3) (ix x1)) - (x3 * (nI 2))) fun I6 =>
    wr I6 a0 6 ((I6 a0 6) + (x3 * (nI 2))) fun I7 =>
    wr I7 a0 3 ((I7 a0 3) - x3) fun I8 =>
    wr I8 a0 11 ((I8 a0 11) + (nI 1)) fun I9 =>
    f_X4_enterCups (a0 + 13) (x3 * (I9 a0 8)) I9 (fun I10 =>
    f_X5_remove (a0 + 7) (nI 0) I10 (fun I11 =>
    K x4 I11)))))
def f_X3_add (a0 : Nat) (a1 : Int32) (I : IT) (K : Int32 → IT → Prop) : Prop :=
  if (I a0 5) < (nI 4) then (
    bnd (I a0 5) fun x2 =>
    inr x2 4 ∧ (
    wr I (a0 + 1) (ix x2) a1 fun I4 =>
    wr I4 (a0 + 2) (ix x2) (nI 0) fun I5 =>
    wr I5 (a0 + 3) (ix x2) (nI 40) fun I6 =>
    wr I6 (a0 + 4) (ix x2) (nI 0) fun I7 =>
    wr I7 (a0 + 5) (ix x2) (nI 0) fun I8 =>
    wr I8 a0 5 ((I8 a0 5) + (nI 1)) fun I9 =>
    K x2 I9))
  else (
    K (-1) I)
def f_X3_pourIn_b40 (a0 : Nat) (a1 : Int32) (a2 : Int32) (K : Int32 → IT → Prop) (v4 : Int32) (I : IT) : Prop :=
  inr a1 4 ∧ (
  wr I (a0 + 2) (ix a1) v4 fun I2 =>
  K (I2 (a0 + 3) (ix a1)) I2)
def f_X3_pourIn (a0 : Nat) (a1 : Int32) (a2 : Int32) (I : IT) (K : Int32 → IT → Prop) : Prop :=
  inr a1 4 ∧ (
  bnd (I (a0 + 2) (ix a1)) fun x2 =>
  bnd (x2 + a2) fun x3 =>
  if x3 ≤ 0 then (
    f_X3_pourIn_b40 a0 a1 a2 K x3 I)
  else (
    ¬ x3 = 0 ∧ (
    wr I (a0 + 3) (ix a1) ((nI 40) + ((((I (a0 + 3) (ix a1)) - (nI 40)) * x2) / x3)) fun I6 =>
    f_X3_pourIn_b40 a0 a1 a2 K x3 I6)))
def f_X3_turnBurner (a0 : Nat) (a1 : Int32) (a2 : Int32) (I : IT) (K : Int32 → IT → Prop) : Prop :=
  inr a1 4 ∧ (
  bnd (I (a0 + 4) (ix a1)) fun x2 =>
  wr I (a0 + 4) (ix a1) a2 fun I3 =>
  K x2 I3)
def f_X4_enterNight (a0 : Nat) (I : IT) (K : Int32 → IT → Prop) : Prop :=
  if (I a0 2) < (nI 14) then (
    bnd (I a0 3) fun x2 =>
    inr (I a0 2) 14 ∧ (
    wr I (a0 + 1) (ix (I a0 2)) x2 fun I4 =>
    inr (I4 a0 2) 15 ∧ (
    inr ((I4 a0 2) + (nI 1)) 15 ∧ (
    wr I4 (a0 + 2) (ix ((I4 a0 2) + (nI 1))) ((I4 (a0 + 2) (ix (I4 a0 2))) + x2) fun I7 =>
    wr I7 a0 2 ((I7 a0 2) + (nI 1)) fun I8 =>
    wr I8 a0 3 (nI 0) fun I9 =>
    K x2 I9))))
  else (
    K (-1) I)
def f_X5_add_b17 (a0 : Nat) (a1 : Int32) (a2 : Int32) (a3 : Int32) (a4 : Int32) (X53 : Int32 → IT → Prop) (K : Int32 → IT → Prop) : Nat → Int32 → IT → Prop
  | 0, _, _ => False
  | n + 1, v5, I =>
    if v5 ≤ 0 then (
      X53 v5 I)
    else (
      inr (v5 - (nI 1)) 10 ∧ (
      if a4 ≤ (I (a0 + 5) (ix (v5 - (nI 1)))) then (
        X53 v5 I)
      else (
        f_X5_copyOrder a0 a0 (v5 - (nI 1)) v5 I (fun I4 =>
        bnd (v5 + (-1)) fun x5 =>
        f_X5_add_b17 a0 a1 a2 a3 a4 X53 K n x5 I4))))
def f_X5_add_b53 (a0 : Nat) (a1 : Int32) (a2 : Int32) (a3 : Int32) (a4 : Int32) (K : Int32 → IT → Prop) (v5 : Int32) (I : IT) : Prop :=
  inr v5 10 ∧ (
  wr I (a0 + 1) (ix v5) (I a0 6) fun I2 =>
  wr I2 (a0 + 2) (ix v5) a1 fun I3 =>
  wr I3 (a0 + 3) (ix v5) a2 fun I4 =>
  wr I4 (a0 + 4) (ix v5) a3 fun I5 =>
  wr I5 (a0 + 5) (ix v5) a4 fun I6 =>
  wr I6 a0 5 ((I6 a0 5) + (nI 1)) fun I7 =>
  wr I7 a0 6 ((I7 a0 6) + (nI 1)) fun I8 =>
  K (I8 (a0 + 1) (ix v5)) I8)
def f_X5_add (a0 : Nat) (a1 : Int32) (a2 : Int32) (a3 : Int32) (a4 : Int32) (I : IT) (K : Int32 → IT → Prop) : Prop :=
  if (I a0 5) < (nI 10) then (
    bnd (I a0 5) fun x2 =>
    f_X5_add_b17 a0 a1 a2 a3 a4 (fun y0_0 I0_ => f_X5_add_b53 a0 a1 a2 a3 a4 K y0_0 I0_) K 4096 x2 I)
  else (
    K (-1) I)
def f_X1_perform_b216 (a0 : Nat) (a1 : Nat) (a2 : Int32) (a3 : Int32) (a4 : Int32) (a5 : Int32) (K : Int32 → IT → Prop)  (I : IT) : Prop :=
  f_X4_enterNight (a0 + 13) I (fun x1 I2 =>
  K x1 I2)
def f_X1_perform_b212 (a0 : Nat) (a1 : Nat) (a2 : Int32) (a3 : Int32) (a4 : Int32) (a5 : Int32) (K : Int32 → IT → Prop) (s1 : Int32) (I : IT) : Prop :=
  f_X1_exchangeAttendant a0 s1 I (fun x1 I2 =>
  K x1 I2)
def f_X1_perform (a0 : Nat) (a1 : Nat) (a2 : Int32) (a3 : Int32) (a4 : Int32) (a5 : Int32) (I : IT) (K : Int32 → IT → Prop) : Prop :=
  inr (nI (ordN a1)) 13 ∧ (
  if (swmC (ix (nI (ordN a1)))) = (nI 1) then (
    f_X3_add (a0 + 1) (a2 * (nI 2)) I (fun x2 I3 =>
    K x2 I3))
  else (
  if (swmC (ix (nI (ordN a1)))) = (nI 2) then (
    wr I a0 7 ((I a0 7) + (a3 * (nI 2))) fun I4 =>
    f_X3_pourIn (a0 + 1) a2 (a3 * (nI 2)) I4 (fun x5 I6 =>
    K x5 I6))
  else (
  if (swmC (ix (nI (ordN a1)))) = (nI 3) then (
    f_X3_turnBurner (a0 + 1) a2 a3 I (fun x7 I8 =>
    K x7 I8))
  else (
  if (swmC (ix (nI (ordN a1)))) = (nI 4) then (
    f_X5_add (a0 + 7) a2 a3 a4 a5 I (fun x9 I10 =>
    K x9 I10))
  else (
  if (swmC (ix (nI (ordN a1)))) = (nI 5) then (
    f_X5_find (a0 + 7) a2 I (fun x11 =>
    f_X5_remove (a0 + 7) x11 I (fun I12 =>
    K (I12 (a0 + 7) 5) I12)))
  else (
  if (swmC (ix (nI (ordN a1)))) = (nI 6) then (
    f_X1_serveFirst a0 I (fun x13 I14 =>
    K x13 I14))
  else (
  if (swmC (ix (nI (ordN a1)))) = (nI 7) then (
    wr I a0 3 ((I a0 3) + a2) fun I15 =>
    K (I15 a0 3) I15)
  else (
  if (swmC (ix (nI (ordN a1)))) = (nI 8) then (
    f_X1_sell a0 a2 I (fun x16 I17 =>
    K x16 I17))
  else (
  if (swmC (ix (nI (ordN a1)))) = (nI 9) then (
    f_X1_passMinutes a0 a2 I (fun x18 I19 =>
    K x18 I19))
  else (
  if (swmC (ix (nI (ordN a1)))) = (nI 10) then (
    f_X1_exchangeCupPrice a0 a2 I (fun x20 I21 =>
    K x20 I21))
  else (
  if (swmC (ix (nI (ordN a1)))) = (nI 11) then (
    f_X1_exchangeSteamPrice a0 a2 I (fun x22 I23 =>
    K x22 I23))
  else (
  if (swmC (ix (nI (ordN a1)))) = (nI 12) then (
    f_X1_perform_b216 a0 a1 a2 a3 a4 a5 K I)
  else (
  if (swmC (ix (nI (ordN a1)))) = (nI 13) then (
    if a2 = 0 then (
      f_X1_perform_b212 a0 a1 a2 a3 a4 a5 K (nI 0) I)
    else (
      f_X1_perform_b212 a0 a1 a2 a3 a4 a5 K (nI 1) I))
  else (
    f_X1_perform_b216 a0 a1 a2 a3 a4 a5 K I))))))))))))))
def f_X2_add (a1 : Int32) (I : IT) (K : IT → Prop) : Prop :=
  if (nI 60) ≤ (I 56 3) then (
    K I)
  else (
    inr (I 56 3) 60 ∧ (
    wr I 57 (ix (I 56 3)) a1 fun I3 =>
    wr I3 56 3 ((I3 56 3) + (nI 1)) fun I4 =>
    K I4))
def f_X2_accept (a1 : Int32) (I : IT) (K : Int32 → IT → Prop) : Prop :=
  if (I 56 3) ≤ (I 56 5) then (
    K (nI 0) I)
  else (
    inr (I 56 5) 60 ∧ (
    if (I 57 (ix (I 56 5))) = a1 then (
      wr I 56 5 ((I 56 5) + (nI 1)) fun I4 =>
      K (nI 1) I4)
    else (
      K (nI 0) I)))
def f_X2_parseDigits_b5 (a1 : Int32) (a2 : Int32) (X85 : Int32 → Int32 → IT → Prop) (K : Int32 → IT → Prop) : Nat → Int32 → Int32 → IT → Prop
  | 0, _, _, _ => False
  | n + 1, v3, v4, I =>
    if a1 ≤ v3 then (
      X85 v3 v4 I)
    else (
      if (I 56 3) ≤ (I 56 5) then (
        X85 v3 v4 I)
      else (
        inr (I 56 5) 60 ∧ (
        if (I 57 (ix (I 56 5))) < (nI 48) then (
          X85 v3 v4 I)
        else (
          if (nI 57) < (I 57 (ix (I 56 5))) then (
            X85 v3 v4 I)
          else (
            bnd ((v4 * (nI 10)) + ((I 57 (ix (I 56 5))) - (nI 48))) fun x6 =>
            wr I 56 5 ((I 56 5) + (nI 1)) fun I7 =>
            bnd (v3 + nI 1) fun x8 =>
            f_X2_parseDigits_b5 a1 a2 X85 K n x8 x6 I7)))))
def f_X2_parseDigits_b85 (a1 : Int32) (a2 : Int32) (K : Int32 → IT → Prop) (v3 : Int32) (v4 : Int32) (I : IT) : Prop :=
  inr a2 48 ∧ (
  wr I 59 (ix a2) v4 fun I2 =>
  if v3 ≤ 0 then (
    K (nI 0) I2)
  else (
    K (nI 1) I2))
def f_X2_parseDigits (a1 : Int32) (a2 : Int32) (I : IT) (K : Int32 → IT → Prop) : Prop :=
  f_X2_parseDigits_b5 a1 a2 (fun y0_0 y0_1 I0_ => f_X2_parseDigits_b85 a1 a2 K y0_0 y0_1 I0_) K 4096 (nI 0) (nI 0) I
def f_X2_matchedLength_b2 (a1 : Nat) (I : IT) (K : Int32 → Prop) : Nat → Int32 → Prop
  | 0, _ => False
  | n + 1, v2 =>
    f_J0_length_8abf5 a1 I (fun x1 =>
    if x1 ≤ v2 then (
      K v2)
    else (
      if (I 56 3) ≤ ((I 56 5) + v2) then (
        K v2)
      else (
        inr ((I 56 5) + v2) 60 ∧ (
        f_J0_charAt_5068e a1 v2 I (fun x5 =>
        if (I 57 (ix ((I 56 5) + v2))) = x5 then (
          bnd (v2 + nI 1) fun x7 =>
          f_X2_matchedLength_b2 a1 I K n x7)
        else (
          K v2))))))
def f_X2_matchedLength (a1 : Nat) (I : IT) (K : Int32 → Prop) : Prop :=
  f_X2_matchedLength_b2 a1 I K 4096 (nI 0)
def f_X2_parseWord_b4 (K : Int32 → IT → Prop) : Nat → Int32 → Int32 → IT → Prop
  | 0, _, _, _ => False
  | n + 1, v1, v2, I =>
    if (nI 13) ≤ v2 then (
      wr I 56 5 ((I 56 5) + v1) fun I2 =>
      K (-1) I2)
    else (
      inr v2 13 ∧ (
      f_X2_matchedLength (wordC (1000000 + ix v2)) I (fun x4 =>
      f_J0_length_8abf5 (wordC (1000000 + ix v2)) I (fun x5 =>
      if x4 = x5 then (
        wr I 56 5 ((I 56 5) + x4) fun I7 =>
        K v2 I7)
      else (
        bnd (if v1 < x4 then x4 else v1) fun x8 =>
        bnd (v2 + nI 1) fun x9 =>
        f_X2_parseWord_b4 K n x8 x9 I)))))
def f_X2_parseWord (I : IT) (K : Int32 → IT → Prop) : Prop :=
  f_X2_parseWord_b4 K 4096 (nI 0) (nI 0) I
def f_X2_parseCommand_b56 (X33 : Nat → Int32 → IT → Prop) (K : Int32 → IT → Prop) (v2 : Nat) (v3 : Int32) (s0 : Int32) (I : IT) : Prop :=
  f_X2_accept (nI 32) I (fun x1 I2 =>
  if x1 = 0 then (
    K (nI 0) I2)
  else (
    f_X2_parseDigits s0 (((I2 56 4) * (nI 4)) + v3) I2 (fun x4 I5 =>
    if x4 = 0 then (
      K (nI 0) I5)
    else (
      bnd (v3 + nI 1) fun x7 =>
      X33 v2 x7 I5))))
def f_X2_parseCommand_b33 (K : Int32 → IT → Prop) : Nat → Nat → Int32 → IT → Prop
  | 0, _, _, _ => False
  | n + 1, v2, v3, I =>
    f_J0_length_8abf5 v2 I (fun x1 =>
    if x1 ≤ v3 then (
      K (nI 1) I)
    else (
      f_J0_charAt_5068e v2 v3 I (fun x3 =>
      if x3 = (nI 110) then (
        f_X2_parseCommand_b56 (fun y0_0 y0_1 I0_ => f_X2_parseCommand_b33 K n y0_0 y0_1 I0_) K v2 v3 (nI 3) I)
      else (
        f_X2_parseCommand_b56 (fun y0_0 y0_1 I0_ => f_X2_parseCommand_b33 K n y0_0 y0_1 I0_) K v2 v3 (nI 1) I))))
def f_X2_parseCommand (I : IT) (K : Int32 → IT → Prop) : Prop :=
  f_X2_parseWord I (fun x1 I2 =>
  if x1 = (-1) then (
    K (nI 0) I2)
  else (
    inr (I2 56 4) 12 ∧ (
    wr I2 58 (ix (I2 56 4)) x1 fun I5 =>
    inr x1 13 ∧ (
    f_X2_parseCommand_b33 K 4096 (kindC (1000000 + ix x1)) (nI 0) I5))))
def f_X2_parse_b10 (K : Int32 → IT → Prop) : Nat → IT → Prop
  | 0, _ => False
  | n + 1, I =>
    if (nI 12) ≤ (I 56 4) then (
      K (nI 0) I)
    else (
      f_X2_parseCommand I (fun x2 I3 =>
      if x2 = 0 then (
        K (nI 0) I3)
      else (
        wr I3 56 4 ((I3 56 4) + (nI 1)) fun I5 =>
        if (I5 56 5) = (I5 56 3) then (
          K (nI 1) I5)
        else (
          f_X2_accept (nI 59) I5 (fun x7 I8 =>
          if x7 = 0 then (
            K (nI 0) I8)
          else (
            f_X2_parse_b10 K n I8))))))
def f_X2_parse (I : IT) (K : Int32 → IT → Prop) : Prop :=
  wr I 56 5 (nI 0) fun I1 =>
  wr I1 56 4 (nI 0) fun I2 =>
  f_X2_parse_b10 K 4096 I2
def f_X2_argument (a1 : Int32) (a2 : Int32) (I : IT) (K : Int32 → Prop) : Prop :=
  inr ((a1 * (nI 4)) + a2) 48 ∧ (
  K (I 59 (ix ((a1 * (nI 4)) + a2))))
def f_X3_heatingTime (a0 : Nat) (a1 : Int32) (I : IT) (K : Int32 → Prop) : Prop :=
  f_X3_rise a0 a1 I (fun x1 =>
  inr a1 4 ∧ (
  if (I (a0 + 2) (ix a1)) = 0 then (
    K (-1))
  else (
    if 0 < x1 then (
      bnd ((nI 200) - (I (a0 + 3) (ix a1))) fun x5 =>
      ¬ x1 = 0 ∧ (
      K (if (nI 1) < (((x5 + x1) - (nI 1)) / x1) then (((x5 + x1) - (nI 1)) / x1) else (nI 1))))
    else (
      K (-1)))))
def f_X3_isAhead (a0 : Nat) (a1 : Int32) (a2 : Int32) (I : IT) (K : Int32 → Prop) : Prop :=
  inr a1 4 ∧ (
  inr a2 4 ∧ (
  if (I (a0 + 3) (ix a1)) = (I (a0 + 3) (ix a2)) then (
    if (I (a0 + 2) (ix a1)) = (I (a0 + 2) (ix a2)) then (
      if a2 ≤ a1 then (
        K (nI 0))
      else (
        K (nI 1)))
    else (
      if (I (a0 + 2) (ix a1)) ≤ (I (a0 + 2) (ix a2)) then (
        K (nI 0))
      else (
        K (nI 1))))
  else (
    if (I (a0 + 3) (ix a1)) ≤ (I (a0 + 3) (ix a2)) then (
      K (nI 0))
    else (
      K (nI 1)))))
def f_X3_rankOf_b4 (a0 : Nat) (a1 : Int32) (I : IT) (K : Int32 → Prop) : Nat → Int32 → Int32 → Prop
  | 0, _, _ => False
  | n + 1, v2, v3 =>
    if (I a0 5) ≤ v3 then (
      K v2)
    else (
      f_X3_isAhead a0 v3 a1 I (fun x2 =>
      if x2 = 0 then (
        bnd (v3 + nI 1) fun x4 =>
        f_X3_rankOf_b4 a0 a1 I K n v2 x4)
      else (
        bnd (v2 + nI 1) fun x5 =>
        bnd (v3 + nI 1) fun x6 =>
        f_X3_rankOf_b4 a0 a1 I K n x5 x6)))
def f_X3_rankOf (a0 : Nat) (a1 : Int32) (I : IT) (K : Int32 → Prop) : Prop :=
  f_X3_rankOf_b4 a0 a1 I K 4096 (nI 0) (nI 0)
def f_X3_ranked_b2 (a0 : Nat) (a1 : Int32) (I : IT) (K : Int32 → Prop) : Nat → Int32 → Prop
  | 0, _ => False
  | n + 1, v2 =>
    if (I a0 5) ≤ v2 then (
      K (-1))
    else (
      f_X3_rankOf a0 v2 I (fun x2 =>
      if x2 = a1 then (
        K v2)
      else (
        bnd (v2 + nI 1) fun x4 =>
        f_X3_ranked_b2 a0 a1 I K n x4)))
def f_X3_ranked (a0 : Nat) (a1 : Int32) (I : IT) (K : Int32 → Prop) : Prop :=
  f_X3_ranked_b2 a0 a1 I K 4096 (nI 0)
def f_X3_isRankedOnceEach_b4 (a0 : Nat) (I : IT) (K : Int32 → Prop) : Nat → Int32 → Int32 → Prop
  | 0, _, _ => False
  | n + 1, v1, v2 =>
    if (I a0 5) ≤ v2 then (
      K (nI 1))
    else (
      f_X3_ranked a0 v2 I (fun x2 =>
      f_X3_has a0 x2 I (fun x3 =>
      if x3 = 0 then (
        K (nI 0))
      else (
        if (v1 &&& ((nI 1) <<< (x2 &&& 31))) = 0 then (
          bnd (v1 ||| ((nI 1) <<< (x2 &&& 31))) fun x6 =>
          bnd (v2 + nI 1) fun x7 =>
          f_X3_isRankedOnceEach_b4 a0 I K n x6 x7)
        else (
          K (nI 0))))))
def f_X3_isRankedOnceEach (a0 : Nat) (I : IT) (K : Int32 → Prop) : Prop :=
  f_X3_isRankedOnceEach_b4 a0 I K 4096 (nI 0) (nI 0)
def f_X3_totalVolume_b4 (a0 : Nat) (I : IT) (K : Int32 → Prop) : Nat → Int32 → Int32 → Prop
  | 0, _, _ => False
  | n + 1, v1, v2 =>
    if (I a0 5) ≤ v2 then (
      K v1)
    else (
      inr v2 4 ∧ (
      bnd (v1 + (I (a0 + 2) (ix v2))) fun x3 =>
      bnd (v2 + nI 1) fun x4 =>
      f_X3_totalVolume_b4 a0 I K n x3 x4))
def f_X3_totalVolume (a0 : Nat) (I : IT) (K : Int32 → Prop) : Prop :=
  f_X3_totalVolume_b4 a0 I K 4096 (nI 0) (nI 0)
def f_X3_describe_b87 (a0 : Nat) (a1 : Int32) (K : IT → Prop)  (I : IT) : Prop :=
  inr a1 4 ∧ (
  if (I (a0 + 5) (ix a1)) = 0 then (
    K I)
  else (
    f_J4_append_cf468 (nI 33) I (fun x3 I4 =>
    K I4)))
def f_X3_describe (a0 : Nat) (a1 : Int32) (I : IT) (K : IT → Prop) : Prop :=
  f_J4_append_cf468 (nI 75) I (fun x1 I2 =>
  f_J4_append_bf812 a1 I2 (fun x3 I4 =>
  f_J4_append_cf468 (nI 32) I4 (fun x5 I6 =>
  inr a1 4 ∧ (
  f_J4_append_bf812 (I6 (a0 + 2) (ix a1)) I6 (fun x8 I9 =>
  f_J4_append_cf468 (nI 47) I9 (fun x10 I11 =>
  f_J4_append_bf812 (I11 (a0 + 1) (ix a1)) I11 (fun x12 I13 =>
  f_J4_append_cf468 (nI 32) I13 (fun x14 I15 =>
  f_J4_append_bf812 (I15 (a0 + 3) (ix a1)) I15 (fun x16 I17 =>
  f_J4_append_cf468 (nI 104) I17 (fun x18 I19 =>
  if (I19 (a0 + 4) (ix a1)) ≤ 0 then (
    f_X3_describe_b87 a0 a1 K I19)
  else (
    f_J4_append_15ec4 1000056 I19 (fun x21 I22 =>
    f_J4_append_bf812 (I22 (a0 + 4) (ix a1)) I22 (fun x23 I24 =>
    f_X3_describe_b87 a0 a1 K I24)))))))))))))
def f_X4_rankOf_b4 (a0 : Nat) (a1 : Int32) (I : IT) (K : Int32 → Prop) : Nat → Int32 → Int32 → Prop
  | 0, _, _ => False
  | n + 1, v2, v3 =>
    if (I a0 2) ≤ v3 then (
      K v2)
    else (
      inr v3 14 ∧ (
      inr a1 14 ∧ (
      if (I (a0 + 1) (ix a1)) < (I (a0 + 1) (ix v3)) then (
        bnd (v2 + nI 1) fun x5 =>
        bnd (v3 + nI 1) fun x6 =>
        f_X4_rankOf_b4 a0 a1 I K n x5 x6)
      else (
        if (I (a0 + 1) (ix v3)) = (I (a0 + 1) (ix a1)) then (
          if a1 ≤ v3 then (
            bnd (v3 + nI 1) fun x9 =>
            f_X4_rankOf_b4 a0 a1 I K n v2 x9)
          else (
            bnd (v2 + nI 1) fun x10 =>
            bnd (v3 + nI 1) fun x11 =>
            f_X4_rankOf_b4 a0 a1 I K n x10 x11))
        else (
          bnd (v3 + nI 1) fun x12 =>
          f_X4_rankOf_b4 a0 a1 I K n v2 x12)))))
def f_X4_rankOf (a0 : Nat) (a1 : Int32) (I : IT) (K : Int32 → Prop) : Prop :=
  f_X4_rankOf_b4 a0 a1 I K 4096 (nI 0) (nI 0)
def f_X4_ranked_b2 (a0 : Nat) (a1 : Int32) (I : IT) (K : Int32 → Prop) : Nat → Int32 → Prop
  | 0, _ => False
  | n + 1, v2 =>
    if (I a0 2) ≤ v2 then (
      K (-1))
    else (
      f_X4_rankOf a0 v2 I (fun x2 =>
      if x2 = a1 then (
        K v2)
      else (
        bnd (v2 + nI 1) fun x4 =>
        f_X4_ranked_b2 a0 a1 I K n x4)))
def f_X4_ranked (a0 : Nat) (a1 : Int32) (I : IT) (K : Int32 → Prop) : Prop :=
  f_X4_ranked_b2 a0 a1 I K 4096 (nI 0)
def f_X4_greatestByAdding_b20 (a0 : Nat) (a1 : Int32) (I : IT) (X4 : Int32 → Int32 → Prop) (K : Int32 → Prop) : Nat → Int32 → Int32 → Int32 → Int32 → Prop
  | 0, _, _, _, _ => False
  | n + 1, v2, v3, v4, v5 =>
    if (v3 + a1) ≤ v5 then (
      bnd (if v2 < v4 then v4 else v2) fun x2 =>
      bnd (v3 + nI 1) fun x3 =>
      X4 x2 x3)
    else (
      inr v5 14 ∧ (
      bnd (v4 + (I (a0 + 1) (ix v5))) fun x5 =>
      bnd (v5 + nI 1) fun x6 =>
      f_X4_greatestByAdding_b20 a0 a1 I X4 K n v2 v3 x5 x6))
def f_X4_greatestByAdding_b4 (a0 : Nat) (a1 : Int32) (I : IT) (K : Int32 → Prop) : Nat → Int32 → Int32 → Prop
  | 0, _, _ => False
  | n + 1, v2, v3 =>
    if ((I a0 2) - a1) < v3 then (
      K v2)
    else (
      f_X4_greatestByAdding_b20 a0 a1 I (fun y0_0 y0_1 => f_X4_greatestByAdding_b4 a0 a1 I K n y0_0 y0_1) K 4096 v2 v3 (nI 0) v3)
def f_X4_greatestByAdding (a0 : Nat) (a1 : Int32) (I : IT) (K : Int32 → Prop) : Prop :=
  f_X4_greatestByAdding_b4 a0 a1 I K 4096 (nI 0) (nI 0)
def f_X4_greatestByDifferences_b4 (a0 : Nat) (a1 : Int32) (I : IT) (K : Int32 → Prop) : Nat → Int32 → Int32 → Prop
  | 0, _, _ => False
  | n + 1, v2, v3 =>
    if ((I a0 2) - a1) < v3 then (
      K v2)
    else (
      inr (v3 + a1) 15 ∧ (
      inr v3 15 ∧ (
      bnd (if v2 < ((I (a0 + 2) (ix (v3 + a1))) - (I (a0 + 2) (ix v3))) then ((I (a0 + 2) (ix (v3 + a1))) - (I (a0 + 2) (ix v3))) else v2) fun x4 =>
      bnd (v3 + nI 1) fun x5 =>
      f_X4_greatestByDifferences_b4 a0 a1 I K n x4 x5)))
def f_X4_greatestByDifferences (a0 : Nat) (a1 : Int32) (I : IT) (K : Int32 → Prop) : Prop :=
  f_X4_greatestByDifferences_b4 a0 a1 I K 4096 (nI 0) (nI 0)
def f_X4_totalOfNights_b7 (a0 : Nat) (I : IT) (K : Int32 → Prop) : Nat → Int32 → Int32 → Prop
  | 0, _, _ => False
  | n + 1, v1, v2 =>
    if (I a0 2) ≤ v2 then (
      K v1)
    else (
      inr v2 14 ∧ (
      bnd (v1 + (I (a0 + 1) (ix v2))) fun x3 =>
      bnd (v2 + nI 1) fun x4 =>
      f_X4_totalOfNights_b7 a0 I K n x3 x4))
def f_X4_totalOfNights (a0 : Nat) (I : IT) (K : Int32 → Prop) : Prop :=
  bnd (I a0 3) fun x1 =>
  f_X4_totalOfNights_b7 a0 I K 4096 x1 (nI 0)
def f_X4_totalOfSales (a0 : Nat) (I : IT) (K : Int32 → Prop) : Prop :=
  K ((I a0 4) + (I a0 5))
def f_X4_isConsistent_b2 (a0 : Nat) (I : IT) (K : Int32 → Prop) : Nat → Int32 → Prop
  | 0, _ => False
  | n + 1, v1 =>
    if (I a0 2) < v1 then (
      f_X4_totalOfNights a0 I (fun x2 =>
      f_X4_totalOfSales a0 I (fun x3 =>
      if x2 = x3 then (
        K (nI 1))
      else (
        K (nI 0)))))
    else (
      f_X4_greatestByAdding a0 v1 I (fun x5 =>
      f_X4_greatestByDifferences a0 v1 I (fun x6 =>
      if x5 = x6 then (
        bnd (v1 + nI 1) fun x8 =>
        f_X4_isConsistent_b2 a0 I K n x8)
      else (
        K (nI 0)))))
def f_X4_isConsistent (a0 : Nat) (I : IT) (K : Int32 → Prop) : Prop :=
  f_X4_isConsistent_b2 a0 I K 4096 (nI 1)
def f_X4_describe_b2 (a0 : Nat) (K : IT → Prop) : Nat → Int32 → IT → Prop
  | 0, _, _ => False
  | n + 1, v2, I =>
    if (I a0 2) ≤ v2 then (
      K I)
    else (
      if v2 ≤ 0 then (
        inr v2 14 ∧ (
        f_J4_append_bf812 (I (a0 + 1) (ix v2)) I (fun x4 I5 =>
        bnd (v2 + nI 1) fun x6 =>
        f_X4_describe_b2 a0 K n x6 I5)))
      else (
        f_J4_append_cf468 (nI 32) I (fun x7 I8 =>
        inr v2 14 ∧ (
        f_J4_append_bf812 (I8 (a0 + 1) (ix v2)) I8 (fun x10 I11 =>
        bnd (v2 + nI 1) fun x12 =>
        f_X4_describe_b2 a0 K n x12 I11)))))
def f_X4_describe (a0 : Nat) (I : IT) (K : IT → Prop) : Prop :=
  f_X4_describe_b2 a0 K 15 (nI 0) I
def f_X5_numberAt (a0 : Nat) (a1 : Int32) (I : IT) (K : Int32 → Prop) : Prop :=
  if a1 < 0 then (
    K (-1))
  else (
    if (I a0 5) ≤ a1 then (
      K (-1))
    else (
      inr a1 10 ∧ (
      K (I (a0 + 1) (ix a1)))))
def f_X5_isConsistent_b2 (a0 : Nat) (I : IT) (K : Int32 → Prop) : Nat → Int32 → Prop
  | 0, _ => False
  | n + 1, v1 =>
    if (I a0 5) ≤ v1 then (
      K (nI 1))
    else (
      f_X5_numberAt a0 v1 I (fun x2 =>
      f_X5_find a0 x2 I (fun x3 =>
      if x3 = v1 then (
        bnd (v1 + nI 1) fun x5 =>
        f_X5_isConsistent_b2 a0 I K n x5)
      else (
        K (nI 0)))))
def f_X5_isConsistent (a0 : Nat) (I : IT) (K : Int32 → Prop) : Prop :=
  f_X5_isConsistent_b2 a0 I K 4096 (nI 0)
def f_X5_describe (a0 : Nat) (a1 : Int32) (I : IT) (K : IT → Prop) : Prop :=
  f_J4_append_cf468 (nI 35) I (fun x1 I2 =>
  inr a1 10 ∧ (
  f_J4_append_bf812 (I2 (a0 + 1) (ix a1)) I2 (fun x4 I5 =>
  f_J4_append_15ec4 1000057 I5 (fun x6 I7 =>
  f_J4_append_bf812 (I7 (a0 + 2) (ix a1)) I7 (fun x8 I9 =>
  f_J4_append_cf468 (nI 32) I9 (fun x10 I11 =>
  f_J4_append_bf812 (I11 (a0 + 3) (ix a1)) I11 (fun x12 I13 =>
  f_J4_append_cf468 (nI 120) I13 (fun x14 I15 =>
  f_J4_append_bf812 (I15 (a0 + 4) (ix a1)) I15 (fun x16 I17 =>
  f_J4_append_15ec4 1000058 I17 (fun x18 I19 =>
  f_J4_append_bf812 (I19 (a0 + 5) (ix a1)) I19 (fun x20 I21 =>
  K I21)))))))))))
def f_X8_remember (I : IT) (K : IT → Prop) : Prop :=
  inr (I 0 9) 8 ∧ (
  f_X1_copyFrom (62 + 16 * ix (I 0 9)) 1 I (fun I2 =>
  wr I2 0 9 (((I2 0 9) + (nI 1)) - ((I2 0 9) + (nI 1)) / (nI 8) * (nI 8)) fun I3 =>
  wr I3 0 8 (if (nI 8) < ((I3 0 8) + (nI 1)) then (nI 8) else ((I3 0 8) + (nI 1))) fun I4 =>
  K I4))
def f_X8_requireAllowed (a0 : Nat) (I : IT) (K : Prop) (KT : String → Prop) : Prop :=
  if a0 = 1000021 then (
    KT "java/lang/IndexOutOfBoundsException")
  else (
    if a0 = 1000022 then (
      KT "java/lang/IllegalArgumentException")
    else (
      if a0 = 1000023 then (
        KT "java/lang/IllegalStateException")
      else (
        if a0 = 1000024 then (
          KT "java/util/NoSuchElementException")
        else (
          K))))
def f_X8_change (a1 : Nat) (a2 : Int32) (a3 : Int32) (a4 : Int32) (a5 : Int32) (I : IT) (K : Int32 → IT → Prop) (KT : String → IT → Prop) : Prop :=
  f_X1_refusal 1 a1 a2 a3 a4 a5 I (fun x1 =>
  f_X8_requireAllowed x1 I (
  f_X8_remember I (fun I2 =>
  f_X1_perform 1 a1 a2 a3 a4 a5 I2 (fun x3 I4 =>
  K x3 I4))) (fun E => KT E I))
def f_X8_addKettle (a1 : Int32) (I : IT) (K : Int32 → IT → Prop) (KT : String → IT → Prop) : Prop :=
  f_X8_change 1000000 a1 (nI 0) (nI 0) (nI 0) I (fun x1 I2 =>
  K x1 I2) KT
def f_X8_halves (a0 : Int32) (I : IT) (K : UInt32 → Prop) : Prop :=
  vf_n32 (FP.fmul (FP.i2f a0) 1056964608) ∧ (
  K (FP.fmul (FP.i2f a0) 1056964608))
def f_X8_fill (a1 : Int32) (a2 : Int32) (I : IT) (K : UInt32 → IT → Prop) (KT : String → IT → Prop) : Prop :=
  f_X8_change 1000001 a1 a2 (nI 0) (nI 0) I (fun x1 I2 =>
  f_X8_halves x1 I2 (fun x3 =>
  K x3 I2)) KT
def f_X8_setBurner (a1 : Int32) (a2 : Int32) (I : IT) (K : Int32 → IT → Prop) (KT : String → IT → Prop) : Prop :=
  f_X8_change 1000002 a1 a2 (nI 0) (nI 0) I (fun x1 I2 =>
  K x1 I2) KT
def f_X8_order (a1 : Int32) (a2 : Int32) (a3 : Int32) (a4 : Int32) (I : IT) (K : Int32 → IT → Prop) (KT : String → IT → Prop) : Prop :=
  f_X8_change 1000003 a1 a2 a3 a4 I (fun x1 I2 =>
  K x1 I2) KT
def f_X8_cancel (a1 : Int32) (I : IT) (K : Int32 → IT → Prop) (KT : String → IT → Prop) : Prop :=
  f_X8_change 1000004 a1 (nI 0) (nI 0) (nI 0) I (fun x1 I2 =>
  K x1 I2) KT
def f_X8_serveNext (I : IT) (K : Int32 → IT → Prop) (KT : String → IT → Prop) : Prop :=
  f_X8_change 1000005 (nI 0) (nI 0) (nI 0) (nI 0) I (fun x1 I2 =>
  K x1 I2) KT
def f_X8_wash (a1 : Int32) (I : IT) (K : Int32 → IT → Prop) (KT : String → IT → Prop) : Prop :=
  f_X8_change 1000006 a1 (nI 0) (nI 0) (nI 0) I (fun x1 I2 =>
  K x1 I2) KT
def f_X8_eighths (a0 : Int32) (I : IT) (K : UInt32 → Prop) : Prop :=
  vf_n32 (FP.fmul (FP.i2f a0) 1040187392) ∧ (
  K (FP.fmul (FP.i2f a0) 1040187392))
def f_X8_sellSteam (a1 : Int32) (I : IT) (K : UInt32 → IT → Prop) (KT : String → IT → Prop) : Prop :=
  f_X8_change 1000007 a1 (nI 0) (nI 0) (nI 0) I (fun x1 I2 =>
  f_X8_eighths x1 I2 (fun x3 =>
  K x3 I2)) KT
def f_X8_setCupPrice (a1 : Int32) (I : IT) (K : UInt32 → IT → Prop) (KT : String → IT → Prop) : Prop :=
  f_X8_change 1000009 a1 (nI 0) (nI 0) (nI 0) I (fun x1 I2 =>
  f_X8_eighths x1 I2 (fun x3 =>
  K x3 I2)) KT
def f_X8_setSteamPrice (a1 : Int32) (I : IT) (K : UInt32 → IT → Prop) (KT : String → IT → Prop) : Prop :=
  f_X8_change 1000010 a1 (nI 0) (nI 0) (nI 0) I (fun x1 I2 =>
  K (FP.i2f x1) I2) KT
def f_X8_setAttendant_b13 (a1 : Int32) (K : Int32 → IT → Prop) (KT : String → IT → Prop) (s2 : Int32) (I : IT) : Prop :=
  f_X8_change 1000011 s2 (nI 0) (nI 0) (nI 0) I (fun x1 I2 =>
  if x1 = 0 then (
    K (nI 0) I2)
  else (
    K (nI 1) I2)) KT
def f_X8_setAttendant (a1 : Int32) (I : IT) (K : Int32 → IT → Prop) (KT : String → IT → Prop) : Prop :=
  if a1 = 0 then (
    f_X8_setAttendant_b13 a1 K KT (nI 0) I)
  else (
    f_X8_setAttendant_b13 a1 K KT (nI 1) I)
def f_X8_pass (a1 : Int32) (I : IT) (K : Int32 → IT → Prop) (KT : String → IT → Prop) : Prop :=
  f_X8_change 1000008 a1 (nI 0) (nI 0) (nI 0) I (fun x1 I2 =>
  K x1 I2) KT
def f_X8_closeNight (I : IT) (K : UInt32 → IT → Prop) (KT : String → IT → Prop) : Prop :=
  f_X8_change 1000012 (nI 0) (nI 0) (nI 0) (nI 0) I (fun x1 I2 =>
  f_X8_eighths x1 I2 (fun x3 =>
  K x3 I2)) KT
def f_X8_kettleCount (I : IT) (K : Int32 → Prop) : Prop :=
  K (I 2 5)
def f_X8_requireKettle (a1 : Int32) (I : IT) (K : Prop) (KT : String → Prop) : Prop :=
  f_X3_has 2 a1 I (fun x1 =>
  if x1 = 0 then (
    KT "java/lang/IndexOutOfBoundsException")
  else (
    K))
def f_X8_capacity (a1 : Int32) (I : IT) (K : UInt32 → Prop) (KT : String → Prop) : Prop :=
  f_X8_requireKettle a1 I (
  inr a1 4 ∧ (
  f_X8_eighths (I 3 (ix a1)) I (fun x2 =>
  K x2))) KT
def f_X8_volume (a1 : Int32) (I : IT) (K : UInt32 → Prop) (KT : String → Prop) : Prop :=
  f_X8_requireKettle a1 I (
  inr a1 4 ∧ (
  f_X8_eighths (I 4 (ix a1)) I (fun x2 =>
  K x2))) KT
def f_X8_temperature (a1 : Int32) (I : IT) (K : UInt32 → Prop) (KT : String → Prop) : Prop :=
  f_X8_requireKettle a1 I (
  inr a1 4 ∧ (
  f_X8_halves (I 5 (ix a1)) I (fun x2 =>
  K x2))) KT
def f_X8_bitsOfHalves_b2 (a0 : Int32) (I : IT) (X22 : Int32 → Prop) (K : Int32 → Prop) : Nat → Int32 → Prop
  | 0, _ => False
  | n + 1, v1 =>
    if (nI 22) ≤ v1 then (
      X22 v1)
    else (
      if (a0 >>> ((v1 + (nI 1)) &&& 31)) = 0 then (
        X22 v1)
      else (
        bnd (v1 + nI 1) fun x3 =>
        f_X8_bitsOfHalves_b2 a0 I X22 K n x3))
def f_X8_bitsOfHalves_b22 (a0 : Int32) (I : IT) (K : Int32 → Prop) (v1 : Int32) : Prop :=
  bnd ((v1 - (nI 1)) + (nI 127)) fun x1 =>
  bnd ((a0 - ((nI 1) <<< (v1 &&& 31))) <<< (((nI 23) - v1) &&& 31)) fun x2 =>
  K ((x1 <<< ((nI 23) &&& 31)) ||| x2)
def f_X8_bitsOfHalves (a0 : Int32) (I : IT) (K : Int32 → Prop) : Prop :=
  f_X8_bitsOfHalves_b2 a0 I (fun y0_0 => f_X8_bitsOfHalves_b22 a0 I K y0_0) K 4096 (nI 0)
def f_X8_temperatureBits (a1 : Int32) (I : IT) (K : Int32 → Prop) (KT : String → Prop) : Prop :=
  f_X8_requireKettle a1 I (
  inr a1 4 ∧ (
  f_X8_bitsOfHalves (I 5 (ix a1)) I (fun x2 =>
  K x2))) KT
def f_X8_burner (a1 : Int32) (I : IT) (K : Int32 → Prop) (KT : String → Prop) : Prop :=
  f_X8_requireKettle a1 I (
  inr a1 4 ∧ (
  K (I 6 (ix a1)))) KT
def f_X8_isBoiling (a1 : Int32) (I : IT) (K : Int32 → Prop) (KT : String → Prop) : Prop :=
  f_X8_requireKettle a1 I (
  inr a1 4 ∧ (
  isZ (I 7 (ix a1)) ∧ (
  K (I 7 (ix a1))))) KT
def f_X8_requireFound (a0 : Int32) (I : IT) (K : Int32 → Prop) (KT : String → Prop) : Prop :=
  if a0 = (-1) then (
    KT "java/util/NoSuchElementException")
  else (
    K a0)
def f_X8_minutesUntilBoiling (a1 : Int32) (I : IT) (K : Int32 → Prop) (KT : String → Prop) : Prop :=
  f_X8_requireKettle a1 I (
  f_X3_heatingTime 2 a1 I (fun x1 =>
  f_X8_requireFound x1 I (fun x2 =>
  K x2) KT)) KT
def f_X8_heatingTimeOnCopy_b16 (a1 : Int32) (K : Int32 → IT → Prop) : Nat → Int32 → IT → Prop
  | 0, _, _ => False
  | n + 1, v2, I =>
    if (nI 120) < v2 then (
      K (-1) I)
    else (
      f_X3_passMinute 50 a1 I (fun x2 I3 =>
      inr a1 4 ∧ (
      if (I3 55 (ix a1)) = 0 then (
        bnd (v2 + nI 1) fun x6 =>
        f_X8_heatingTimeOnCopy_b16 a1 K n x6 I3)
      else (
        K v2 I3))))
def f_X8_heatingTimeOnCopy (a1 : Int32) (I : IT) (K : Int32 → IT → Prop) : Prop :=
  f_X3_copyFrom 50 2 I (fun I1 =>
  f_X8_heatingTimeOnCopy_b16 a1 K 4096 (nI 1) I1)
def f_X8_minutesUntilBoilingByMinutes (a1 : Int32) (I : IT) (K : Int32 → IT → Prop) (KT : String → IT → Prop) : Prop :=
  f_X8_requireKettle a1 I (
  f_X8_heatingTimeOnCopy a1 I (fun x1 I2 =>
  f_X8_requireFound x1 I2 (fun x3 =>
  K x3 I2) (fun E => KT E I2))) (fun E => KT E I)
def f_X8_kettleByTemperature (a1 : Int32) (I : IT) (K : Int32 → Prop) (KT : String → Prop) : Prop :=
  f_X3_ranked 2 a1 I (fun x1 =>
  f_X8_requireFound x1 I (fun x2 =>
  K x2) KT)
def f_X8_waitingCount (I : IT) (K : Int32 → Prop) : Prop :=
  K (I 8 5)
def f_X8_orderAt (a1 : Int32) (I : IT) (K : Int32 → Prop) (KT : String → Prop) : Prop :=
  f_X5_numberAt 8 a1 I (fun x1 =>
  f_X8_requireFound x1 I (fun x2 =>
  K x2) KT)
def f_X8_positionOf (a1 : Int32) (I : IT) (K : Int32 → Prop) (KT : String → Prop) : Prop :=
  f_X5_find 8 a1 I (fun x1 =>
  f_X8_requireFound x1 I (fun x2 =>
  K x2) KT)
def f_X8_cupsOf (a1 : Int32) (I : IT) (K : Int32 → Prop) (KT : String → Prop) : Prop :=
  f_X5_find 8 a1 I (fun x1 =>
  f_X8_requireFound x1 I (fun x2 =>
  inr x2 10 ∧ (
  K (I 11 (ix x2)))) KT)
def f_X8_priceOf (a1 : Int32) (I : IT) (K : UInt32 → Prop) (KT : String → Prop) : Prop :=
  f_X5_find 8 a1 I (fun x1 =>
  f_X8_requireFound x1 I (fun x2 =>
  inr x2 10 ∧ (
  f_X8_eighths ((I 11 (ix x2)) * (I 1 8)) I (fun x4 =>
  K x4))) KT)
def f_X8_kettleFor (a1 : Int32) (I : IT) (K : Int32 → Prop) (KT : String → Prop) : Prop :=
  f_X5_find 8 a1 I (fun x1 =>
  f_X8_requireFound x1 I (fun x2 =>
  inr x2 10 ∧ (
  f_X3_suitable 2 (I 11 (ix x2)) (I 12 (ix x2)) I (fun x4 =>
  f_X8_requireFound x4 I (fun x5 =>
  K x5) KT))) KT)
def f_X8_waitOnCopy_b40 (a1 : Int32) (a2 : Int32) (X16 : Int32 → IT → Prop) (K : Int32 → IT → Prop) : Nat → Int32 → Int32 → IT → Prop
  | 0, _, _, _ => False
  | n + 1, v3, v4, I =>
    if (I 50 5) ≤ v4 then (
      bnd (v3 + nI 1) fun x2 =>
      X16 x2 I)
    else (
      f_X3_passMinute 50 v4 I (fun x3 I4 =>
      bnd (v4 + nI 1) fun x5 =>
      f_X8_waitOnCopy_b40 a1 a2 X16 K n v3 x5 I4))
def f_X8_waitOnCopy_b16 (a1 : Int32) (a2 : Int32) (K : Int32 → IT → Prop) : Nat → Int32 → IT → Prop
  | 0, _, _ => False
  | n + 1, v3, I =>
    if (nI 120) < v3 then (
      K (-1) I)
    else (
      f_X3_suitable 50 a1 a2 I (fun x2 =>
      if x2 = (-1) then (
        f_X8_waitOnCopy_b40 a1 a2 (fun y0_0 I0_ => f_X8_waitOnCopy_b16 a1 a2 K n y0_0 I0_) K 4096 v3 (nI 0) I)
      else (
        K v3 I)))
def f_X8_waitOnCopy (a1 : Int32) (a2 : Int32) (I : IT) (K : Int32 → IT → Prop) : Prop :=
  f_X3_copyFrom 50 2 I (fun I1 =>
  f_X8_waitOnCopy_b16 a1 a2 K 4096 (nI 0) I1)
def f_X8_minutesUntilSuitable (a1 : Int32) (I : IT) (K : Int32 → IT → Prop) (KT : String → IT → Prop) : Prop :=
  f_X5_find 8 a1 I (fun x1 =>
  f_X8_requireFound x1 I (fun x2 =>
  inr x2 10 ∧ (
  f_X8_waitOnCopy (I 11 (ix x2)) (I 12 (ix x2)) I (fun x4 I5 =>
  f_X8_requireFound x4 I5 (fun x6 =>
  K x6 I5) (fun E => KT E I5)))) (fun E => KT E I))
def f_X8_canServe (I : IT) (K : Int32 → Prop) : Prop :=
  f_X1_refusal 1 1000005 (nI 0) (nI 0) (nI 0) (nI 0) I (fun x1 =>
  if x1 = 1000020 then (
    K (nI 1))
  else (
    K (nI 0)))
def f_X8_cleanCups (I : IT) (K : Int32 → Prop) : Prop :=
  K (I 1 3)
def f_X8_steam (I : IT) (K : UInt32 → Prop) : Prop :=
  f_X8_eighths (I 1 4) I (fun x1 =>
  K x1)
def f_X8_boiledTotal (I : IT) (K : UInt32 → Prop) : Prop :=
  f_X8_eighths (I 1 5) I (fun x1 =>
  K x1)
def f_X8_pouredTotal (I : IT) (K : UInt32 → Prop) : Prop :=
  f_X8_eighths (I 1 6) I (fun x1 =>
  K x1)
def f_X8_filledTotal (I : IT) (K : UInt32 → Prop) : Prop :=
  f_X8_eighths (I 1 7) I (fun x1 =>
  K x1)
def f_X8_cupPrice (I : IT) (K : UInt32 → Prop) : Prop :=
  f_X8_eighths (I 1 8) I (fun x1 =>
  K x1)
def f_X8_steamPrice (I : IT) (K : UInt32 → Prop) : Prop :=
  K (FP.i2f (I 1 9))
def f_X8_income (I : IT) (K : UInt32 → Prop) : Prop :=
  f_X8_eighths (I 14 3) I (fun x1 =>
  K x1)
def f_X8_nightCount (I : IT) (K : Int32 → Prop) : Prop :=
  K (I 14 2)
def f_X8_nightIncome_b18 (a1 : Int32) (I : IT) (K : UInt32 → Prop) (KT : String → Prop)  : Prop :=
  KT "java/lang/IndexOutOfBoundsException"
def f_X8_nightIncome (a1 : Int32) (I : IT) (K : UInt32 → Prop) (KT : String → Prop) : Prop :=
  if a1 < 0 then (
    f_X8_nightIncome_b18 a1 I K KT)
  else (
    if a1 < (I 14 2) then (
      inr a1 14 ∧ (
      f_X8_eighths (I 15 (ix a1)) I (fun x4 =>
      K x4)))
    else (
      f_X8_nightIncome_b18 a1 I K KT))
def f_X8_nightByIncome (a1 : Int32) (I : IT) (K : Int32 → Prop) (KT : String → Prop) : Prop :=
  f_X4_ranked 14 a1 I (fun x1 =>
  f_X8_requireFound x1 I (fun x2 =>
  K x2) KT)
def f_X8_requireNights (a1 : Int32) (I : IT) (K : Prop) (KT : String → Prop) : Prop :=
  f_X8_isWithin a1 (nI 1) (nI 14) I (fun x1 =>
  if x1 = 0 then (
    KT "java/lang/IllegalArgumentException")
  else (
    if a1 ≤ (I 14 2) then (
      K)
    else (
      KT "java/util/NoSuchElementException")))
def f_X8_greatestIncome (a1 : Int32) (I : IT) (K : UInt32 → Prop) (KT : String → Prop) : Prop :=
  f_X8_requireNights a1 I (
  f_X4_greatestByAdding 14 a1 I (fun x1 =>
  f_X8_eighths x1 I (fun x2 =>
  K x2))) KT
def f_X8_greatestIncomeBySums (a1 : Int32) (I : IT) (K : UInt32 → Prop) (KT : String → Prop) : Prop :=
  f_X8_requireNights a1 I (
  f_X4_greatestByDifferences 14 a1 I (fun x1 =>
  f_X8_eighths x1 I (fun x2 =>
  K x2))) KT
def f_X8_totalIncome (I : IT) (K : UInt32 → Prop) : Prop :=
  f_X4_totalOfNights 14 I (fun x1 =>
  f_X8_eighths x1 I (fun x2 =>
  K x2))
def f_X8_totalIncomeBySales (I : IT) (K : UInt32 → Prop) : Prop :=
  f_X4_totalOfSales 14 I (fun x1 =>
  f_X8_eighths x1 I (fun x2 =>
  K x2))
def f_X8_servedOrders (I : IT) (K : Int32 → Prop) : Prop :=
  K (I 1 11)
def f_X8_whistlesHeard (I : IT) (K : Int32 → Prop) : Prop :=
  K (I 1 12)
def f_X8_whistlesLost (I : IT) (K : Int32 → Prop) : Prop :=
  K (I 1 13)
def f_X8_meanTemperature_b31 (I : IT) (K : UInt64 → Prop) (KT : String → Prop) : Nat → Int32 → UInt64 → Int32 → Prop
  | 0, _, _, _ => False
  | n + 1, v1, v2, v4 =>
    if v1 ≤ v4 then (
      vf_n64 (FP.ddiv v2 (FP.i2d v1)) ∧ (
      K (FP.ddiv v2 (FP.i2d v1))))
    else (
      inr v4 4 ∧ (
      f_X8_halves (I 5 (ix v4)) I (fun x4 =>
      vf_n64 (FP.f2d x4) ∧ (
      vf_n64 (FP.dadd v2 (FP.f2d x4)) ∧ (
      bnd (v4 + nI 1) fun x7 =>
      f_X8_meanTemperature_b31 I K KT n v1 (FP.dadd v2 (FP.f2d x4)) x7)))))
def f_X8_meanTemperature (I : IT) (K : UInt64 → Prop) (KT : String → Prop) : Prop :=
  bnd (I 2 5) fun x1 =>
  if 0 < x1 then (
    f_X8_meanTemperature_b31 I K KT 4096 x1 FP.dconst0 (nI 0))
  else (
    KT "java/lang/ArithmeticException")
def f_X8_lostShare (I : IT) (K : UInt32 → Prop) (KT : String → Prop) : Prop :=
  bnd ((I 1 12) + (I 1 13)) fun x1 =>
  if 0 < x1 then (
    vf_n32 (FP.fdiv (FP.i2f (I 1 13)) (FP.i2f x1)) ∧ (
    K (FP.fdiv (FP.i2f (I 1 13)) (FP.i2f x1))))
  else (
    KT "java/lang/ArithmeticException")
def f_X8_allHeatingTimesAgree_b2 (K : Int32 → IT → Prop) : Nat → Int32 → IT → Prop
  | 0, _, _ => False
  | n + 1, v1, I =>
    if (I 2 5) ≤ v1 then (
      K (nI 1) I)
    else (
      f_X3_heatingTime 2 v1 I (fun x2 =>
      f_X8_heatingTimeOnCopy v1 I (fun x3 I4 =>
      if x2 = x3 then (
        bnd (v1 + nI 1) fun x6 =>
        f_X8_allHeatingTimesAgree_b2 K n x6 I4)
      else (
        K (nI 0) I4))))
def f_X8_allHeatingTimesAgree (I : IT) (K : Int32 → IT → Prop) : Prop :=
  f_X8_allHeatingTimesAgree_b2 K 4096 (nI 0) I
def f_X8_floatOfBits_b22 (a0 : Int32) (I : IT) (K : UInt32 → Prop) : Nat → UInt32 → Int32 → Int32 → Prop
  | 0, _, _, _ => False
  | n + 1, v1, v2, v3 =>
    if v3 ≤ v2 then (
      K v1)
    else (
      if v3 ≤ 0 then (
        K v1)
      else (
        vf_n32 (FP.fmul v1 1056964608) ∧ (
        bnd (v3 + (-1)) fun x4 =>
        f_X8_floatOfBits_b22 a0 I K n (FP.fmul v1 1056964608) v2 x4)))
def f_X8_floatOfBits (a0 : Int32) (I : IT) (K : UInt32 → Prop) : Prop :=
  bnd ((a0 >>> ((nI 23) &&& 31)) - (nI 127)) fun x1 =>
  f_X8_floatOfBits_b22 a0 I K 4096 (FP.i2f ((a0 &&& (nI 8388607)) ||| (nI 8388608))) x1 (nI 23)
def f_X8_allTemperatureBitsFit_b2 (I : IT) (K : Int32 → Prop) : Nat → Int32 → Prop
  | 0, _ => False
  | n + 1, v1 =>
    if (I 2 5) ≤ v1 then (
      K (nI 1))
    else (
      inr v1 4 ∧ (
      bnd (I 5 (ix v1)) fun x3 =>
      f_X8_bitsOfHalves x3 I (fun x4 =>
      f_X8_floatOfBits x4 I (fun x5 =>
      f_X8_halves x3 I (fun x6 =>
      if (Op.cmpValue (FP.fcmp x5 x6) .l) = 0 then (
        bnd (v1 + nI 1) fun x8 =>
        f_X8_allTemperatureBitsFit_b2 I K n x8)
      else (
        K (nI 0)))))))
def f_X8_allTemperatureBitsFit (I : IT) (K : Int32 → Prop) : Prop :=
  f_X8_allTemperatureBitsFit_b2 I K 4096 (nI 0)
def f_X8_isBalanced (I : IT) (K : Int32 → IT → Prop) : Prop :=
  f_X3_totalVolume 2 I (fun x1 =>
  if (I 1 7) = ((x1 + (I 1 6)) + (I 1 5)) then (
    if (I 1 5) < (I 1 4) then (
      K (nI 0) I)
    else (
      f_X4_isConsistent 14 I (fun x4 =>
      if x4 = 0 then (
        K (nI 0) I)
      else (
        f_X5_isConsistent 8 I (fun x6 =>
        if x6 = 0 then (
          K (nI 0) I)
        else (
          f_X3_isRankedOnceEach 2 I (fun x8 =>
          if x8 = 0 then (
            K (nI 0) I)
          else (
            f_X8_allTemperatureBitsFit I (fun x10 =>
            if x10 = 0 then (
              K (nI 0) I)
            else (
              f_X8_allHeatingTimesAgree I (fun x12 I13 =>
              if x12 = 0 then (
                K (nI 0) I13)
              else (
                K (nI 1) I13))))))))))))
  else (
    K (nI 0) I))
def f_X8_formatKettle (a1 : Int32) (I : IT) (K : Int32 → IT → Prop) (KT : String → IT → Prop) : Prop :=
  f_X8_requireKettle a1 I (
  f_J4_setLength_d00df (nI 0) I (fun I1 =>
  f_X3_describe 2 a1 I1 (fun I2 =>
  f_J4_length_8abf5 I2 (fun x3 =>
  K x3 I2)))) (fun E => KT E I)
def f_X8_formatOrder (a1 : Int32) (I : IT) (K : Int32 → IT → Prop) (KT : String → IT → Prop) : Prop :=
  f_X5_find 8 a1 I (fun x1 =>
  f_X8_requireFound x1 I (fun x2 =>
  f_J4_setLength_d00df (nI 0) I (fun I3 =>
  f_X5_describe 8 x2 I3 (fun I4 =>
  f_J4_length_8abf5 I4 (fun x5 =>
  K x5 I4)))) (fun E => KT E I))
def f_X8_formatLedger (I : IT) (K : Int32 → IT → Prop) : Prop :=
  f_J4_setLength_d00df (nI 0) I (fun I1 =>
  f_X4_describe 14 I1 (fun I2 =>
  f_J4_length_8abf5 I2 (fun x3 =>
  K x3 I2)))
def f_X8_lineChar_b15 (a1 : Int32) (I : IT) (K : Int32 → Prop) (KT : String → Prop)  : Prop :=
  KT "java/lang/IndexOutOfBoundsException"
def f_X8_lineChar (a1 : Int32) (I : IT) (K : Int32 → Prop) (KT : String → Prop) : Prop :=
  if a1 < 0 then (
    f_X8_lineChar_b15 a1 I K KT)
  else (
    f_J4_length_8abf5 I (fun x2 =>
    if a1 < x2 then (
      f_J4_charAt_5068e a1 I (fun x4 =>
      K x4))
    else (
      f_X8_lineChar_b15 a1 I K KT)))
def f_X8_append_b12 (a1 : Int32) (K : Int32 → IT → Prop) (KT : String → IT → Prop)  (I : IT) : Prop :=
  KT "java/lang/IllegalArgumentException" I
def f_X8_append (a1 : Int32) (I : IT) (K : Int32 → IT → Prop) (KT : String → IT → Prop) : Prop :=
  if a1 < (nI 32) then (
    f_X8_append_b12 a1 K KT I)
  else (
    if a1 ≤ (nI 126) then (
      if (I 56 3) < (nI 60) then (
        f_X2_add a1 I (fun I4 =>
        K (I4 56 3) I4))
      else (
        KT "java/lang/IllegalStateException" I))
    else (
      f_X8_append_b12 a1 K KT I))
def f_X8_firstFailureOnTrial_b13 (K : Int32 → IT → Prop) : Nat → Int32 → IT → Prop
  | 0, _, _ => False
  | n + 1, v1, I =>
    if (I 56 4) ≤ v1 then (
      K (-1) I)
    else (
      inr v1 12 ∧ (
      inr (I 58 (ix v1)) 13 ∧ (
      f_X2_argument v1 (nI 0) I (fun x4 =>
      f_X2_argument v1 (nI 1) I (fun x5 =>
      f_X2_argument v1 (nI 2) I (fun x6 =>
      f_X2_argument v1 (nI 3) I (fun x7 =>
      f_X1_refusal 17 (1000000 + ix (I 58 (ix v1))) x4 x5 x6 x7 I (fun x8 =>
      if x8 = 1000020 then (
        f_X1_perform 17 (1000000 + ix (I 58 (ix v1))) x4 x5 x6 x7 I (fun x10 I11 =>
        bnd (v1 + nI 1) fun x12 =>
        f_X8_firstFailureOnTrial_b13 K n x12 I11))
      else (
        K v1 I)))))))))
def f_X8_firstFailureOnTrial (I : IT) (K : Int32 → IT → Prop) : Prop :=
  f_X1_copyFrom 17 1 I (fun I1 =>
  f_X8_firstFailureOnTrial_b13 K 4096 (nI 0) I1)
def f_X8_run (I : IT) (K : Int32 → IT → Prop) (KT : String → IT → Prop) : Prop :=
  f_X2_parse I (fun x1 I2 =>
  wr I2 56 3 (nI 0) fun I3 =>
  if x1 = 0 then (
    wr I3 0 10 (I3 56 5) fun I5 =>
    KT "java/lang/IllegalArgumentException" I5)
  else (
    f_X8_firstFailureOnTrial I3 (fun x6 I7 =>
    if x6 = (-1) then (
      f_X8_remember I7 (fun I9 =>
      f_X1_copyFrom 1 17 I9 (fun I10 =>
      K (I10 56 4) I10)))
    else (
      wr I7 0 11 x6 fun I11 =>
      KT "java/lang/IllegalStateException" I11))))
def f_X8_errorPosition (I : IT) (K : Int32 → Prop) (KT : String → Prop) : Prop :=
  f_X8_requireFound (I 0 10) I (fun x1 =>
  K x1) KT
def f_X8_failedCommand (I : IT) (K : Int32 → Prop) (KT : String → Prop) : Prop :=
  f_X8_requireFound (I 0 11) I (fun x1 =>
  K x1) KT
def f_X8_undoableCount (I : IT) (K : Int32 → Prop) : Prop :=
  K (I 0 8)
def f_X8_undo (I : IT) (K : Int32 → IT → Prop) (KT : String → IT → Prop) : Prop :=
  if 0 < (I 0 8) then (
    wr I 0 9 ((((I 0 9) + (nI 8)) - (nI 1)) - (((I 0 9) + (nI 8)) - (nI 1)) / (nI 8) * (nI 8)) fun I2 =>
    wr I2 0 8 ((I2 0 8) - (nI 1)) fun I3 =>
    inr (I3 0 9) 8 ∧ (
    f_X1_copyFrom 1 (62 + 16 * ix (I3 0 9)) I3 (fun I5 =>
    K (I5 0 8) I5)))
  else (
    KT "java/lang/IllegalStateException" I)
def f_X8_save (I : IT) (K : Int32 → IT → Prop) : Prop :=
  f_X1_copyFrom 33 1 I (fun I1 =>
  wr I1 0 7 (nI 1) fun I2 =>
  K (I2 34 5) I2)
def f_X8_restore (I : IT) (K : Int32 → IT → Prop) (KT : String → IT → Prop) : Prop :=
  if (I 0 7) = 0 then (
    KT "java/lang/IllegalStateException" I)
  else (
    f_X1_copyFrom 1 33 I (fun I2 =>
    wr I2 0 8 (nI 0) fun I3 =>
    K (I3 2 5) I3))
def f_X9_thrown (I : IT) (K : Int32 → Prop) : Prop :=
  K (I 190 0)
def f_X9_in (a0 : Int32) (a1 : Int32) (a2 : Int32) (I : IT) (K : Int32 → Prop) : Prop :=
  if a0 < a1 then (
    K (nI 0))
  else (
    if a2 < a0 then (
      K (nI 0))
    else (
      K (nI 1)))
def f_X9_copies_b2 (a1 : Int32) (a2 : Int32) (K : IT → Prop) : Nat → Int32 → IT → Prop
  | 0, _, _ => False
  | n + 1, v3, I =>
    if (nI 103) ≤ v3 then (
      K I)
    else (
      inr (((nI 103) * a1) + v3) 1236 ∧ (
      inr (((nI 103) * a2) + v3) 1236 ∧ (
      wr I 191 (ix (((nI 103) * a2) + v3)) (I 191 (ix (((nI 103) * a1) + v3))) fun I4 =>
      bnd (v3 + nI 1) fun x5 =>
      f_X9_copies_b2 a1 a2 K n x5 I4)))
def f_X9_copies (a1 : Int32) (a2 : Int32) (I : IT) (K : IT → Prop) : Prop :=
  f_X9_copies_b2 a1 a2 K 4096 (nI 0) I
def f_X9_begins (I : IT) (K : IT → Prop) : Prop :=
  f_X9_copies (nI 0) (nI 10) I (fun I1 =>
  K I1)
def f_X9_ends_b71 (a1 : Int32) (a2 : Int32) (a3 : Int32) (a4 : Int32) (a5 : Int32) (X104 : IT → Prop) (K : Int32 → IT → Prop) : Nat → Int32 → IT → Prop
  | 0, _, _ => False
  | n + 1, v6, I =>
    if (nI 8) ≤ v6 then (
      wr I 190 2 ((I 190 2) - (nI 1)) fun I2 =>
      X104 I2)
    else (
      f_X9_copies (v6 + (nI 1)) v6 I (fun I3 =>
      bnd (v6 + nI 1) fun x4 =>
      f_X9_ends_b71 a1 a2 a3 a4 a5 X104 K n x4 I3))
def f_X9_ends_b104 (a1 : Int32) (a2 : Int32) (a3 : Int32) (a4 : Int32) (a5 : Int32) (K : Int32 → IT → Prop)  (I : IT) : Prop :=
  wr I 190 2 ((I 190 2) + (nI 1)) fun I1 =>
  f_X9_copies (nI 10) (I1 190 2) I1 (fun I2 =>
  K (I2 190 4) I2)
def f_X9_ends_b40 (a1 : Int32) (a2 : Int32) (a3 : Int32) (a4 : Int32) (a5 : Int32) (K : Int32 → IT → Prop) (s1 : Int32) (I : IT) : Prop :=
  wr I 190 0 s1 fun I1 =>
  if (I1 190 0) = 0 then (
    if (I1 190 2) = (nI 8) then (
      f_X9_ends_b71 a1 a2 a3 a4 a5 (fun I0_ => f_X9_ends_b104 a1 a2 a3 a4 a5 K I0_) K 4096 (nI 1) I1)
    else (
      f_X9_ends_b104 a1 a2 a3 a4 a5 K I1))
  else (
    f_X9_copies (nI 10) (nI 0) I1 (fun I4 =>
    K (nI 0) I4))
def f_X9_ends (a1 : Int32) (a2 : Int32) (a3 : Int32) (a4 : Int32) (a5 : Int32) (I : IT) (K : Int32 → IT → Prop) : Prop :=
  if a1 = (nI 1) then (
    f_X9_ends_b40 a1 a2 a3 a4 a5 K a2 I)
  else (
    if a1 = (nI 2) then (
      f_X9_ends_b40 a1 a2 a3 a4 a5 K a3 I)
    else (
      if a1 = (nI 3) then (
        f_X9_ends_b40 a1 a2 a3 a4 a5 K a4 I)
      else (
        if a1 = (nI 4) then (
          f_X9_ends_b40 a1 a2 a3 a4 a5 K a5 I)
        else (
          f_X9_ends_b40 a1 a2 a3 a4 a5 K (nI 0) I))))
def f_X9_isFine_b10 (a1 : Int32) (K : Int32 → IT → Prop) (s1 : Int32) (I : IT) : Prop :=
  wr I 190 0 s1 fun I1 =>
  K a1 I1
def f_X9_isFine (a1 : Int32) (I : IT) (K : Int32 → IT → Prop) : Prop :=
  if a1 = 0 then (
    f_X9_isFine_b10 a1 K (nI 1) I)
  else (
    f_X9_isFine_b10 a1 K (nI 0) I)
def f_X9_eighths (a0 : Int32) (I : IT) (K : UInt32 → Prop) : Prop :=
  vf_n32 (FP.fdiv (FP.i2f a0) 1090519040) ∧ (
  K (FP.fdiv (FP.i2f a0) 1090519040))
def f_X9_halves (a0 : Int32) (I : IT) (K : UInt32 → Prop) : Prop :=
  vf_n32 (FP.fdiv (FP.i2f a0) FP.fconst2) ∧ (
  K (FP.fdiv (FP.i2f a0) FP.fconst2))
def f_X9_k (a1 : Int32) (a2 : Int32) (I : IT) (K : Int32 → Prop) : Prop :=
  inr (((nI 33) + ((nI 5) * a1)) + a2) 1236 ∧ (
  K (I 191 (ix (((nI 33) + ((nI 5) * a1)) + a2))))
def f_X9_set (a1 : Int32) (a2 : Int32) (a3 : Int32) (I : IT) (K : IT → Prop) : Prop :=
  inr (((nI 33) + ((nI 5) * a1)) + a2) 1236 ∧ (
  wr I 191 (ix (((nI 33) + ((nI 5) * a1)) + a2)) a3 fun I2 =>
  K I2)
def f_X9_o (a1 : Int32) (a2 : Int32) (I : IT) (K : Int32 → Prop) : Prop :=
  inr (((nI 53) + ((nI 5) * a1)) + a2) 1236 ∧ (
  K (I 191 (ix (((nI 53) + ((nI 5) * a1)) + a2))))
def f_X9_isKettle (a1 : Int32) (I : IT) (K : Int32 → Prop) : Prop :=
  f_X9_in a1 (nI 0) ((I 191 1) - (nI 1)) I (fun x1 =>
  K x1)
def f_X9_find_b2 (a1 : Int32) (I : IT) (K : Int32 → Prop) : Nat → Int32 → Prop
  | 0, _ => False
  | n + 1, v2 =>
    if (I 191 2) ≤ v2 then (
      K (-1))
    else (
      f_X9_o v2 (nI 0) I (fun x2 =>
      if x2 = a1 then (
        K v2)
      else (
        bnd (v2 + nI 1) fun x4 =>
        f_X9_find_b2 a1 I K n x4)))
def f_X9_find (a1 : Int32) (I : IT) (K : Int32 → Prop) : Prop :=
  f_X9_find_b2 a1 I K 4096 (nI 0)
def f_X9_isAhead (a1 : Int32) (a2 : Int32) (I : IT) (K : Int32 → Prop) : Prop :=
  f_X9_o a1 (nI 4) I (fun x1 =>
  f_X9_o a2 (nI 4) I (fun x2 =>
  if x2 < x1 then (
    K (nI 1))
  else (
    f_X9_o a1 (nI 4) I (fun x4 =>
    f_X9_o a2 (nI 4) I (fun x5 =>
    if x4 = x5 then (
      f_X9_o a1 (nI 0) I (fun x7 =>
      f_X9_o a2 (nI 0) I (fun x8 =>
      if x8 ≤ x7 then (
        K (nI 0))
      else (
        K (nI 1)))))
    else (
      K (nI 0)))))))
def f_X9_rankOf_b29 (a1 : Int32) (I : IT) (X4 : Int32 → Int32 → Prop) (K : Int32 → Prop) (v3 : Int32) (s0 : Int32) (s1 : Int32) : Prop :=
  bnd (s0 + s1) fun x1 =>
  bnd (v3 + nI 1) fun x2 =>
  X4 x1 x2
def f_X9_rankOf_b4 (a1 : Int32) (I : IT) (K : Int32 → Prop) : Nat → Int32 → Int32 → Prop
  | 0, _, _ => False
  | n + 1, v2, v3 =>
    if (I 191 2) ≤ v3 then (
      K v2)
    else (
      f_X9_isAhead v3 a1 I (fun x2 =>
      if x2 = 0 then (
        f_X9_rankOf_b29 a1 I (fun y0_0 y0_1 => f_X9_rankOf_b4 a1 I K n y0_0 y0_1) K v3 v2 (nI 0))
      else (
        f_X9_rankOf_b29 a1 I (fun y0_0 y0_1 => f_X9_rankOf_b4 a1 I K n y0_0 y0_1) K v3 v2 (nI 1))))
def f_X9_rankOf (a1 : Int32) (I : IT) (K : Int32 → Prop) : Prop :=
  f_X9_rankOf_b4 a1 I K 4096 (nI 0) (nI 0)
def f_X9_ranked_b2 (a1 : Int32) (I : IT) (K : Int32 → Prop) : Nat → Int32 → Prop
  | 0, _ => False
  | n + 1, v2 =>
    if (I 191 2) ≤ v2 then (
      K (-1))
    else (
      f_X9_rankOf v2 I (fun x2 =>
      if x2 = a1 then (
        K v2)
      else (
        bnd (v2 + nI 1) fun x4 =>
        f_X9_ranked_b2 a1 I K n x4)))
def f_X9_ranked (a1 : Int32) (I : IT) (K : Int32 → Prop) : Prop :=
  f_X9_ranked_b2 a1 I K 4096 (nI 0)
def f_X9_pourer_b79 (a1 : Int32) (I : IT) (X4 : Int32 → Int32 → Prop) (K : Int32 → Prop) (v3 : Int32) : Prop :=
  bnd (v3 + nI 1) fun x1 =>
  X4 v3 x1
def f_X9_pourer_b83 (a1 : Int32) (I : IT) (X4 : Int32 → Int32 → Prop) (K : Int32 → Prop) (v2 : Int32) (v3 : Int32) : Prop :=
  bnd (v3 + nI 1) fun x1 =>
  X4 v2 x1
def f_X9_pourer_b53 (a1 : Int32) (I : IT) (X4 : Int32 → Int32 → Prop) (K : Int32 → Prop) (v2 : Int32) (v3 : Int32) (s0 : Int32) : Prop :=
  if s0 = 0 then (
    f_X9_pourer_b83 a1 I X4 K v2 v3)
  else (
    if v2 < 0 then (
      f_X9_pourer_b79 a1 I X4 K v3)
    else (
      f_X9_k v3 (nI 2) I (fun x3 =>
      f_X9_k v2 (nI 2) I (fun x4 =>
      if x3 ≤ x4 then (
        f_X9_pourer_b83 a1 I X4 K v2 v3)
      else (
        f_X9_pourer_b79 a1 I X4 K v3)))))
def f_X9_pourer_b52 (a1 : Int32) (I : IT) (X4 : Int32 → Int32 → Prop) (K : Int32 → Prop) (v2 : Int32) (v3 : Int32) : Prop :=
  f_X9_pourer_b53 a1 I X4 K v2 v3 (nI 0)
def f_X9_pourer_b4 (a1 : Int32) (I : IT) (K : Int32 → Prop) : Nat → Int32 → Int32 → Prop
  | 0, _, _ => False
  | n + 1, v2, v3 =>
    if (I 191 1) ≤ v3 then (
      K v2)
    else (
      f_X9_k v3 (nI 1) I (fun x2 =>
      f_X9_o a1 (nI 2) I (fun x3 =>
      if x2 < ((nI 2) * x3) then (
        f_X9_pourer_b52 a1 I (fun y0_0 y0_1 => f_X9_pourer_b4 a1 I K n y0_0 y0_1) K v2 v3)
      else (
        f_X9_k v3 (nI 2) I (fun x5 =>
        f_X9_o a1 (nI 3) I (fun x6 =>
        if x5 < ((nI 2) * x6) then (
          f_X9_pourer_b52 a1 I (fun y0_0 y0_1 => f_X9_pourer_b4 a1 I K n y0_0 y0_1) K v2 v3)
        else (
          f_X9_pourer_b53 a1 I (fun y0_0 y0_1 => f_X9_pourer_b4 a1 I K n y0_0 y0_1) K v2 v3 (nI 1))))))))
def f_X9_pourer (a1 : Int32) (I : IT) (K : Int32 → Prop) : Prop :=
  f_X9_pourer_b4 a1 I K 4096 (-1) (nI 0)
def f_X9_goes_b13 (a1 : Int32) (X48 : Int32 → Int32 → IT → Prop) (K : IT → Prop) : Nat → Int32 → Int32 → IT → Prop
  | 0, _, _, _ => False
  | n + 1, v2, v3, I =>
    if ((nI 5) * v2) ≤ v3 then (
      X48 v2 (nI 0) I)
    else (
      inr (((nI 53) + v3) + (nI 5)) 1236 ∧ (
      inr ((nI 53) + v3) 1236 ∧ (
      wr I 191 (ix ((nI 53) + v3)) (I 191 (ix (((nI 53) + v3) + (nI 5)))) fun I4 =>
      bnd (v3 + nI 1) fun x5 =>
      f_X9_goes_b13 a1 X48 K n v2 x5 I4)))
def f_X9_goes_b48 (a1 : Int32) (K : IT → Prop) : Nat → Int32 → Int32 → IT → Prop
  | 0, _, _, _ => False
  | n + 1, v2, v3, I =>
    if (nI 5) ≤ v3 then (
      wr I 191 2 v2 fun I2 =>
      K I2)
    else (
      inr (((nI 53) + ((nI 5) * v2)) + v3) 1236 ∧ (
      wr I 191 (ix (((nI 53) + ((nI 5) * v2)) + v3)) (nI 0) fun I4 =>
      bnd (v3 + nI 1) fun x5 =>
      f_X9_goes_b48 a1 K n v2 x5 I4))
def f_X9_goes (a1 : Int32) (I : IT) (K : IT → Prop) : Prop :=
  bnd ((I 191 2) - (nI 1)) fun x1 =>
  bnd ((nI 5) * a1) fun x2 =>
  f_X9_goes_b13 a1 (fun y0_0 y0_1 I0_ => f_X9_goes_b48 a1 K 4096 y0_0 y0_1 I0_) K 4096 x1 x2 I
def f_X9_heats_b228 (a1 : Int32) (K : Int32 → IT → Prop) (v5 : Int32) (I : IT) : Prop :=
  if v5 = 0 then (
    K (nI 0) I)
  else (
    K (nI 1) I)
def f_X9_heats_b223 (a1 : Int32) (K : Int32 → IT → Prop) (v5 : Int32) (s1 : Int32) (I : IT) : Prop :=
  inr s1 1236 ∧ (
  wr I 191 (ix s1) ((I 191 (ix s1)) + (nI 1)) fun I2 =>
  f_X9_heats_b228 a1 K v5 I2)
def f_X9_heats_b196 (a1 : Int32) (K : Int32 → IT → Prop) (v5 : Int32) (I : IT) : Prop :=
  if v5 = 0 then (
    f_X9_heats_b228 a1 K v5 I)
  else (
    if (I 191 11) = (nI 1) then (
      f_X9_heats_b223 a1 K v5 (nI 15) I)
    else (
      f_X9_heats_b223 a1 K v5 (nI 16) I))
def f_X9_heats_b156 (a1 : Int32) (K : Int32 → IT → Prop) (v5 : Int32) (s0 : Int32) (I : IT) : Prop :=
  f_X9_k a1 (nI 1) I (fun x1 =>
  f_X9_set a1 (nI 1) (x1 - s0) I (fun I2 =>
  wr I2 191 5 ((I2 191 5) + s0) fun I3 =>
  wr I3 191 6 ((I3 191 6) + s0) fun I4 =>
  f_X9_heats_b196 a1 K v5 I4))
def f_X9_heats_b128 (a1 : Int32) (K : Int32 → IT → Prop) (v2 : Int32) (v4 : Int32) (v5 : Int32) (s3 : Int32) (I : IT) : Prop :=
  f_X9_set a1 (nI 4) s3 I (fun I1 =>
  if v4 = 0 then (
    f_X9_heats_b196 a1 K v5 I1)
  else (
    f_X9_k a1 (nI 1) I1 (fun x3 =>
    if x3 ≤ v2 then (
      f_X9_k a1 (nI 1) I1 (fun x5 =>
      f_X9_heats_b156 a1 K v5 x5 I1))
    else (
      f_X9_heats_b156 a1 K v5 v2 I1))))
def f_X9_heats_b113 (a1 : Int32) (K : Int32 → IT → Prop) (v2 : Int32) (v4 : Int32) (s0 : Int32) (I : IT) : Prop :=
  if v4 = 0 then (
    f_X9_heats_b128 a1 K v2 v4 s0 (nI 0) I)
  else (
    f_X9_heats_b128 a1 K v2 v4 s0 (nI 1) I)
def f_X9_heats_b112 (a1 : Int32) (K : Int32 → IT → Prop) (v2 : Int32) (v4 : Int32) (I : IT) : Prop :=
  f_X9_heats_b113 a1 K v2 v4 (nI 0) I
def f_X9_heats_b92 (a1 : Int32) (K : Int32 → IT → Prop) (v2 : Int32) (s0 : Int32) (I : IT) : Prop :=
  if s0 = 0 then (
    f_X9_heats_b112 a1 K v2 s0 I)
  else (
    f_X9_k a1 (nI 4) I (fun x2 =>
    if x2 = 0 then (
      f_X9_heats_b113 a1 K v2 s0 (nI 1) I)
    else (
      f_X9_heats_b112 a1 K v2 s0 I)))
def f_X9_heats_b91 (a1 : Int32) (K : Int32 → IT → Prop) (v2 : Int32) (I : IT) : Prop :=
  f_X9_heats_b92 a1 K v2 (nI 0) I
def f_X9_heats_b59 (a1 : Int32) (K : Int32 → IT → Prop) (v2 : Int32) (s0 : Int32) (I : IT) : Prop :=
  f_X9_set a1 (nI 2) s0 I (fun I1 =>
  f_X9_k a1 (nI 1) I1 (fun x2 =>
  if x2 ≤ 0 then (
    f_X9_heats_b91 a1 K v2 I1)
  else (
    if s0 = (nI 200) then (
      if v2 ≤ 0 then (
        f_X9_heats_b91 a1 K v2 I1)
      else (
        f_X9_heats_b92 a1 K v2 (nI 1) I1))
    else (
      f_X9_heats_b91 a1 K v2 I1))))
def f_X9_heats_b33 (a1 : Int32) (K : Int32 → IT → Prop) (v2 : Int32) (s0 : Int32) (I : IT) : Prop :=
  if (nI 40) ≤ s0 then (
    if s0 ≤ (nI 200) then (
      f_X9_heats_b59 a1 K v2 s0 I)
    else (
      f_X9_heats_b59 a1 K v2 (nI 200) I))
  else (
    f_X9_heats_b59 a1 K v2 (nI 40) I)
def f_X9_heats (a1 : Int32) (I : IT) (K : Int32 → IT → Prop) : Prop :=
  f_X9_k a1 (nI 3) I (fun x1 =>
  f_X9_k a1 (nI 1) I (fun x2 =>
  if x2 = 0 then (
    f_X9_heats_b33 a1 K x1 (nI 40) I)
  else (
    f_X9_k a1 (nI 2) I (fun x4 =>
    f_X9_heats_b33 a1 K x1 ((x4 + ((nI 3) * x1)) - (nI 1)) I))))
def f_X9_adds_b46 (a1 : Int32) (K : Int32 → IT → Prop) : Nat → Int32 → IT → Prop
  | 0, _, _ => False
  | n + 1, v2, I =>
    if (nI 5) ≤ v2 then (
      f_X9_set (I 190 4) (nI 0) ((nI 2) * a1) I (fun I2 =>
      f_X9_set (I2 190 4) (nI 2) (nI 40) I2 (fun I3 =>
      K (nI 0) I3)))
    else (
      f_X9_set (I 190 4) v2 (nI 0) I (fun I4 =>
      bnd (v2 + nI 1) fun x5 =>
      f_X9_adds_b46 a1 K n x5 I4))
def f_X9_adds (a1 : Int32) (I : IT) (K : Int32 → IT → Prop) : Prop :=
  f_X9_in a1 (nI 2) (nI 16) I (fun x1 =>
  if x1 = 0 then (
    K (nI 2) I)
  else (
    if (I 191 1) = (nI 4) then (
      K (nI 3) I)
    else (
      wr I 190 4 (I 191 1) fun I4 =>
      wr I4 191 1 ((I4 191 1) + (nI 1)) fun I5 =>
      f_X9_adds_b46 a1 K 4096 (nI 0) I5)))
def f_X9_addKettle (a1 : Int32) (I : IT) (K : Int32 → IT → Prop) : Prop :=
  f_X9_begins I (fun I1 =>
  f_X9_adds a1 I1 (fun x2 I3 =>
  f_X9_ends x2 (nI 0) (nI 1) (nI 2) (nI 0) I3 (fun x4 I5 =>
  K x4 I5)))
def f_X9_fills (a1 : Int32) (a2 : Int32) (I : IT) (K : Int32 → IT → Prop) : Prop :=
  f_X9_isKettle a1 I (fun x1 =>
  if x1 = 0 then (
    K (nI 1) I)
  else (
    f_X9_in a2 (nI 1) (nI 16) I (fun x3 =>
    if x3 = 0 then (
      K (nI 2) I)
    else (
      f_X9_k a1 (nI 1) I (fun x5 =>
      bnd ((nI 2) * a2) fun x6 =>
      f_X9_k a1 (nI 0) I (fun x7 =>
      if (x5 + x6) ≤ x7 then (
        f_X9_k a1 (nI 2) I (fun x9 =>
        ¬ (x5 + x6) = 0 ∧ (
        wr I 190 4 ((nI 40) + (((x9 - (nI 40)) * x5) / (x5 + x6))) fun I11 =>
        f_X9_set a1 (nI 2) (I11 190 4) I11 (fun I12 =>
        f_X9_set a1 (nI 1) (x5 + x6) I12 (fun I13 =>
        wr I13 191 8 ((I13 191 8) + x6) fun I14 =>
        K (nI 0) I14)))))
      else (
        K (nI 3) I)))))))
def f_X9_fill (a1 : Int32) (a2 : Int32) (I : IT) (K : UInt32 → IT → Prop) : Prop :=
  f_X9_begins I (fun I1 =>
  f_X9_fills a1 a2 I1 (fun x2 I3 =>
  f_X9_ends x2 (nI 1) (nI 2) (nI 3) (nI 0) I3 (fun x4 I5 =>
  f_X9_halves x4 I5 (fun x6 =>
  K x6 I5))))
def f_X9_turns (a1 : Int32) (a2 : Int32) (I : IT) (K : Int32 → IT → Prop) : Prop :=
  f_X9_isKettle a1 I (fun x1 =>
  if x1 = 0 then (
    K (nI 1) I)
  else (
    f_X9_in a2 (nI 0) (nI 5) I (fun x3 =>
    if x3 = 0 then (
      K (nI 2) I)
    else (
      f_X9_k a1 (nI 3) I (fun x5 =>
      wr I 190 4 x5 fun I6 =>
      f_X9_set a1 (nI 3) a2 I6 (fun I7 =>
      K (nI 0) I7))))))
def f_X9_setBurner (a1 : Int32) (a2 : Int32) (I : IT) (K : Int32 → IT → Prop) : Prop :=
  f_X9_begins I (fun I1 =>
  f_X9_turns a1 a2 I1 (fun x2 I3 =>
  f_X9_ends x2 (nI 1) (nI 2) (nI 0) (nI 0) I3 (fun x4 I5 =>
  K x4 I5)))
def f_X9_accepts (a1 : Int32) (a2 : Int32) (a3 : Int32) (a4 : Int32) (I : IT) (K : Int32 → IT → Prop) : Prop :=
  f_X9_in a1 (nI 0) (nI 9) I (fun x1 =>
  if x1 = 0 then (
    K (nI 2) I)
  else (
    f_X9_in a2 (nI 1) (nI 6) I (fun x3 =>
    if x3 = 0 then (
      K (nI 2) I)
    else (
      f_X9_in a3 (nI 60) (nI 100) I (fun x5 =>
      if x5 = 0 then (
        K (nI 2) I)
      else (
        f_X9_in a4 (nI 1) (nI 9) I (fun x7 =>
        if x7 = 0 then (
          K (nI 2) I)
        else (
          if (I 191 2) = (nI 10) then (
            K (nI 3) I)
          else (
            bnd ((nI 53) + ((nI 5) * (I 191 2))) fun x10 =>
            wr I 190 4 (I 191 3) fun I11 =>
            inr (x10 + (nI 0)) 1236 ∧ (
            wr I11 191 (ix (x10 + (nI 0))) (I11 190 4) fun I13 =>
            inr (x10 + (nI 1)) 1236 ∧ (
            wr I13 191 (ix (x10 + (nI 1))) a1 fun I15 =>
            inr (x10 + (nI 2)) 1236 ∧ (
            wr I15 191 (ix (x10 + (nI 2))) a2 fun I17 =>
            inr (x10 + (nI 3)) 1236 ∧ (
            wr I17 191 (ix (x10 + (nI 3))) a3 fun I19 =>
            inr (x10 + (nI 4)) 1236 ∧ (
            wr I19 191 (ix (x10 + (nI 4))) a4 fun I21 =>
            wr I21 191 2 ((I21 191 2) + (nI 1)) fun I22 =>
            wr I22 191 3 ((I22 191 3) + (nI 1)) fun I23 =>
            K (nI 0) I23))))))))))))))
def f_X9_order (a1 : Int32) (a2 : Int32) (a3 : Int32) (a4 : Int32) (I : IT) (K : Int32 → IT → Prop) : Prop :=
  f_X9_begins I (fun I1 =>
  f_X9_accepts a1 a2 a3 a4 I1 (fun x2 I3 =>
  f_X9_ends x2 (nI 0) (nI 1) (nI 2) (nI 0) I3 (fun x4 I5 =>
  K x4 I5)))
def f_X9_cancels (a1 : Int32) (I : IT) (K : Int32 → IT → Prop) : Prop :=
  f_X9_find a1 I (fun x1 =>
  if 0 ≤ x1 then (
    f_X9_goes x1 I (fun I3 =>
    wr I3 190 4 (I3 191 2) fun I4 =>
    K (nI 0) I4))
  else (
    K (nI 4) I))
def f_X9_cancel (a1 : Int32) (I : IT) (K : Int32 → IT → Prop) : Prop :=
  f_X9_begins I (fun I1 =>
  f_X9_cancels a1 I1 (fun x2 I3 =>
  f_X9_ends x2 (nI 0) (nI 0) (nI 0) (nI 1) I3 (fun x4 I5 =>
  K x4 I5)))
def f_X9_isServable (I : IT) (K : Int32 → Prop) : Prop :=
  f_X9_ranked (nI 0) I (fun x1 =>
  if x1 < 0 then (
    K (nI 0))
  else (
    f_X9_pourer x1 I (fun x3 =>
    if x3 < 0 then (
      K (nI 0))
    else (
      f_X9_o x1 (nI 2) I (fun x5 =>
      if ((nI 20) - (I 191 4)) < x5 then (
        K (nI 0))
      else (
        K (nI 1)))))))
def f_X9_earns (a1 : Int32) (a2 : Int32) (I : IT) (K : IT → Prop) : Prop :=
  wr I 191 12 ((I 191 12) + a2) fun I1 =>
  inr a1 1236 ∧ (
  wr I1 191 (ix a1) ((I1 191 (ix a1)) + a2) fun I3 =>
  K I3)
def f_X9_serves (I : IT) (K : Int32 → IT → Prop) : Prop :=
  f_X9_isServable I (fun x1 =>
  if x1 = 0 then (
    K (nI 3) I)
  else (
    f_X9_ranked (nI 0) I (fun x3 =>
    f_X9_pourer x3 I (fun x4 =>
    f_X9_o x3 (nI 2) I (fun x5 =>
    f_X9_o x3 (nI 0) I (fun x6 =>
    wr I 190 4 x6 fun I7 =>
    f_X9_k x4 (nI 1) I7 (fun x8 =>
    f_X9_set x4 (nI 1) (x8 - ((nI 2) * x5)) I7 (fun I9 =>
    wr I9 191 7 ((I9 191 7) + ((nI 2) * x5)) fun I10 =>
    wr I10 191 4 ((I10 191 4) + x5) fun I11 =>
    wr I11 191 14 ((I11 191 14) + (nI 1)) fun I12 =>
    f_X9_earns (nI 17) (x5 * (I12 191 9)) I12 (fun I13 =>
    f_X9_goes x3 I13 (fun I14 =>
    K (nI 0) I14))))))))))
def f_X9_serveNext (I : IT) (K : Int32 → IT → Prop) : Prop :=
  f_X9_begins I (fun I1 =>
  f_X9_serves I1 (fun x2 I3 =>
  f_X9_ends x2 (nI 0) (nI 0) (nI 1) (nI 0) I3 (fun x4 I5 =>
  K x4 I5)))
def f_X9_washes (a1 : Int32) (I : IT) (K : Int32 → IT → Prop) : Prop :=
  f_X9_in a1 (nI 1) (nI 20) I (fun x1 =>
  if x1 = 0 then (
    K (nI 2) I)
  else (
    if a1 ≤ (I 191 4) then (
      wr I 191 4 ((I 191 4) - a1) fun I4 =>
      wr I4 190 4 ((nI 20) - (I4 191 4)) fun I5 =>
      K (nI 0) I5)
    else (
      K (nI 3) I)))
def f_X9_wash (a1 : Int32) (I : IT) (K : Int32 → IT → Prop) : Prop :=
  f_X9_begins I (fun I1 =>
  f_X9_washes a1 I1 (fun x2 I3 =>
  f_X9_ends x2 (nI 0) (nI 1) (nI 2) (nI 0) I3 (fun x4 I5 =>
  K x4 I5)))
def f_X9_sells (a1 : Int32) (I : IT) (K : Int32 → IT → Prop) : Prop :=
  f_X9_in a1 (nI 1) (nI 80) I (fun x1 =>
  if x1 = 0 then (
    K (nI 2) I)
  else (
    if a1 ≤ (I 191 5) then (
      wr I 191 5 ((I 191 5) - a1) fun I4 =>
      wr I4 190 4 (a1 * (I4 191 10)) fun I5 =>
      f_X9_earns (nI 18) (I5 190 4) I5 (fun I6 =>
      K (nI 0) I6))
    else (
      K (nI 3) I)))
def f_X9_sellSteam (a1 : Int32) (I : IT) (K : UInt32 → IT → Prop) : Prop :=
  f_X9_begins I (fun I1 =>
  f_X9_sells a1 I1 (fun x2 I3 =>
  f_X9_ends x2 (nI 0) (nI 1) (nI 2) (nI 0) I3 (fun x4 I5 =>
  f_X9_eighths x4 I5 (fun x6 =>
  K x6 I5))))
def f_X9_prices (a1 : Int32) (a2 : Int32) (I : IT) (K : Int32 → IT → Prop) : Prop :=
  f_X9_in a2 (nI 1) (nI 80) I (fun x1 =>
  if x1 = 0 then (
    K (nI 2) I)
  else (
    inr a1 1236 ∧ (
    wr I 190 4 (I 191 (ix a1)) fun I4 =>
    wr I4 191 (ix a1) a2 fun I5 =>
    K (nI 0) I5)))
def f_X9_setCupPrice (a1 : Int32) (I : IT) (K : UInt32 → IT → Prop) : Prop :=
  f_X9_begins I (fun I1 =>
  f_X9_prices (nI 9) a1 I1 (fun x2 I3 =>
  f_X9_ends x2 (nI 0) (nI 1) (nI 0) (nI 0) I3 (fun x4 I5 =>
  f_X9_eighths x4 I5 (fun x6 =>
  K x6 I5))))
def f_X9_setSteamPrice (a1 : Int32) (I : IT) (K : UInt32 → IT → Prop) : Prop :=
  f_X9_begins I (fun I1 =>
  f_X9_prices (nI 10) a1 I1 (fun x2 I3 =>
  f_X9_ends x2 (nI 0) (nI 1) (nI 0) (nI 0) I3 (fun x4 I5 =>
  K (FP.i2f x4) I5)))
def f_X9_attends_b26 (a1 : Int32) (K : Int32 → IT → Prop) (s2 : Int32) (I : IT) : Prop :=
  wr I 191 11 s2 fun I1 =>
  K (nI 0) I1
def f_X9_attends (a1 : Int32) (I : IT) (K : Int32 → IT → Prop) : Prop :=
  wr I 190 4 (I 191 11) fun I1 =>
  if a1 ≤ 0 then (
    f_X9_attends_b26 a1 K (nI 0) I1)
  else (
    f_X9_attends_b26 a1 K (nI 1) I1)
def f_X9_setAttendant_b15 (a1 : Int32) (K : Int32 → IT → Prop) (s2 : Int32) (I : IT) : Prop :=
  f_X9_attends s2 I (fun x1 I2 =>
  f_X9_ends x1 (nI 0) (nI 0) (nI 0) (nI 0) I2 (fun x3 I4 =>
  if x3 = (nI 1) then (
    K (nI 1) I4)
  else (
    K (nI 0) I4)))
def f_X9_setAttendant (a1 : Int32) (I : IT) (K : Int32 → IT → Prop) : Prop :=
  f_X9_begins I (fun I1 =>
  if a1 = 0 then (
    f_X9_setAttendant_b15 a1 K (nI 0) I1)
  else (
    f_X9_setAttendant_b15 a1 K (nI 1) I1))
def f_X9_passes_b36 (a1 : Int32) (X19 : Int32 → IT → Prop) (K : Int32 → IT → Prop) : Nat → Int32 → Int32 → IT → Prop
  | 0, _, _, _ => False
  | n + 1, v2, v3, I =>
    if (I 191 1) ≤ v3 then (
      bnd (v2 + nI 1) fun x2 =>
      X19 x2 I)
    else (
      f_X9_heats v3 I (fun x3 I4 =>
      wr I4 190 4 ((I 190 4) + x3) fun I5 =>
      bnd (v3 + nI 1) fun x6 =>
      f_X9_passes_b36 a1 X19 K n v2 x6 I5))
def f_X9_passes_b19 (a1 : Int32) (K : Int32 → IT → Prop) : Nat → Int32 → IT → Prop
  | 0, _, _ => False
  | n + 1, v2, I =>
    if a1 ≤ v2 then (
      K (nI 0) I)
    else (
      wr I 191 0 ((I 191 0) + (nI 1)) fun I2 =>
      f_X9_passes_b36 a1 (fun y0_0 I0_ => f_X9_passes_b19 a1 K n y0_0 I0_) K 4096 v2 (nI 0) I2)
def f_X9_passes (a1 : Int32) (I : IT) (K : Int32 → IT → Prop) : Prop :=
  f_X9_in a1 (nI 1) (nI 120) I (fun x1 =>
  if x1 = 0 then (
    K (nI 2) I)
  else (
    wr I 190 4 (nI 0) fun I3 =>
    f_X9_passes_b19 a1 K 4096 (nI 0) I3))
def f_X9_pass (a1 : Int32) (I : IT) (K : Int32 → IT → Prop) : Prop :=
  f_X9_begins I (fun I1 =>
  f_X9_passes a1 I1 (fun x2 I3 =>
  f_X9_ends x2 (nI 0) (nI 1) (nI 0) (nI 0) I3 (fun x4 I5 =>
  K x4 I5)))
def f_X9_closes (I : IT) (K : Int32 → IT → Prop) : Prop :=
  if (I 191 13) = (nI 14) then (
    K (nI 3) I)
  else (
    wr I 190 4 (I 191 12) fun I2 =>
    inr ((nI 19) + (I2 191 13)) 1236 ∧ (
    wr I2 191 (ix ((nI 19) + (I2 191 13))) (I2 190 4) fun I4 =>
    wr I4 191 13 ((I4 191 13) + (nI 1)) fun I5 =>
    wr I5 191 12 (nI 0) fun I6 =>
    K (nI 0) I6))
def f_X9_closeNight (I : IT) (K : UInt32 → IT → Prop) : Prop :=
  f_X9_begins I (fun I1 =>
  f_X9_closes I1 (fun x2 I3 =>
  f_X9_ends x2 (nI 0) (nI 0) (nI 1) (nI 0) I3 (fun x4 I5 =>
  f_X9_eighths x4 I5 (fun x6 =>
  K x6 I5))))
def f_X9_told (a1 : Int32) (I : IT) (K : Int32 → IT → Prop) : Prop :=
  wr I 190 0 (nI 0) fun I1 =>
  inr a1 1236 ∧ (
  K (I1 191 (ix a1)) I1)
def f_X9_kettleCount (I : IT) (K : Int32 → IT → Prop) : Prop :=
  f_X9_told (nI 1) I (fun x1 I2 =>
  K x1 I2)
def f_X9_ofKettle (a1 : Int32) (a2 : Int32) (I : IT) (K : Int32 → IT → Prop) : Prop :=
  f_X9_isKettle a1 I (fun x1 =>
  f_X9_isFine x1 I (fun x2 I3 =>
  if x2 = 0 then (
    K (nI 0) I3)
  else (
    f_X9_k a1 a2 I3 (fun x5 =>
    K x5 I3))))
def f_X9_capacity (a1 : Int32) (I : IT) (K : UInt32 → IT → Prop) : Prop :=
  f_X9_ofKettle a1 (nI 0) I (fun x1 I2 =>
  f_X9_eighths x1 I2 (fun x3 =>
  K x3 I2))
def f_X9_volume (a1 : Int32) (I : IT) (K : UInt32 → IT → Prop) : Prop :=
  f_X9_ofKettle a1 (nI 1) I (fun x1 I2 =>
  f_X9_eighths x1 I2 (fun x3 =>
  K x3 I2))
def f_X9_temperature (a1 : Int32) (I : IT) (K : UInt32 → IT → Prop) : Prop :=
  f_X9_ofKettle a1 (nI 2) I (fun x1 I2 =>
  f_X9_halves x1 I2 (fun x3 =>
  K x3 I2))
def f_X9_temperatureBits (a1 : Int32) (I : IT) (K : Int32 → IT → Prop) : Prop :=
  f_X9_isKettle a1 I (fun x1 =>
  f_X9_isFine x1 I (fun x2 I3 =>
  if x2 = 0 then (
    K (nI 0) I3)
  else (
    f_X9_k a1 (nI 2) I3 (fun x5 =>
    f_X9_halves x5 I3 (fun x6 =>
    f_Jxf58ca_floatToIntBits_5c35a x6 I3 (fun x7 =>
    K x7 I3))))))
def f_X9_burner (a1 : Int32) (I : IT) (K : Int32 → IT → Prop) : Prop :=
  f_X9_ofKettle a1 (nI 3) I (fun x1 I2 =>
  K x1 I2)
def f_X9_isBoiling (a1 : Int32) (I : IT) (K : Int32 → IT → Prop) : Prop :=
  f_X9_ofKettle a1 (nI 4) I (fun x1 I2 =>
  if x1 = (nI 1) then (
    K (nI 1) I2)
  else (
    K (nI 0) I2))
def f_X9_minutesUntilBoiling_b36 (a1 : Int32) (K : Int32 → IT → Prop) (s1 : Int32) (I : IT) : Prop :=
  wr I 190 0 s1 fun I1 =>
  if (I1 190 0) = 0 then (
    f_X9_k a1 (nI 3) I1 (fun x3 =>
    bnd (((nI 3) * x3) - (nI 1)) fun x4 =>
    f_X9_k a1 (nI 2) I1 (fun x5 =>
    ¬ x4 = 0 ∧ (
    bnd (((((nI 200) - x5) + x4) - (nI 1)) / x4) fun x7 =>
    if (nI 1) ≤ x7 then (
      K x7 I1)
    else (
      K (nI 1) I1)))))
  else (
    K (nI 0) I1)
def f_X9_minutesUntilBoiling_b31 (a1 : Int32) (K : Int32 → IT → Prop)  (I : IT) : Prop :=
  f_X9_minutesUntilBoiling_b36 a1 K (nI 2) I
def f_X9_minutesUntilBoiling (a1 : Int32) (I : IT) (K : Int32 → IT → Prop) : Prop :=
  f_X9_isKettle a1 I (fun x1 =>
  if x1 = 0 then (
    f_X9_minutesUntilBoiling_b36 a1 K (nI 1) I)
  else (
    f_X9_k a1 (nI 1) I (fun x3 =>
    if x3 = 0 then (
      f_X9_minutesUntilBoiling_b31 a1 K I)
    else (
      f_X9_k a1 (nI 3) I (fun x5 =>
      if x5 = 0 then (
        f_X9_minutesUntilBoiling_b31 a1 K I)
      else (
        f_X9_minutesUntilBoiling_b36 a1 K (nI 0) I))))))
def f_X9_minutesUntilBoilingByMinutes (a1 : Int32) (I : IT) (K : Int32 → IT → Prop) : Prop :=
  f_X9_minutesUntilBoiling a1 I (fun x1 I2 =>
  K x1 I2)
def f_X9_kettleByTemperature_b92 (a1 : Int32) (X17 : Int32 → Int32 → Int32 → IT → Prop) (K : Int32 → IT → Prop) (v2 : Int32) (v4 : Int32) (s0 : Int32) (s1 : Int32) (I : IT) : Prop :=
  bnd (s0 + s1) fun x1 =>
  bnd (v4 + nI 1) fun x2 =>
  X17 v2 x1 x2 I
def f_X9_kettleByTemperature_b87 (a1 : Int32) (X17 : Int32 → Int32 → Int32 → IT → Prop) (K : Int32 → IT → Prop) (v2 : Int32) (v4 : Int32) (s0 : Int32) (I : IT) : Prop :=
  f_X9_kettleByTemperature_b92 a1 X17 K v2 v4 s0 (nI 1) I
def f_X9_kettleByTemperature_b91 (a1 : Int32) (X17 : Int32 → Int32 → Int32 → IT → Prop) (K : Int32 → IT → Prop) (v2 : Int32) (v4 : Int32) (s0 : Int32) (I : IT) : Prop :=
  f_X9_kettleByTemperature_b92 a1 X17 K v2 v4 s0 (nI 0) I
def f_X9_kettleByTemperature_b17 (a1 : Int32) (X111 : Int32 → Int32 → IT → Prop) (K : Int32 → IT → Prop) : Nat → Int32 → Int32 → Int32 → IT → Prop
  | 0, _, _, _, _ => False
  | n + 1, v2, v3, v4, I =>
    if (I 191 1) ≤ v4 then (
      if v3 = a1 then (
        X111 v2 (nI 1) I)
      else (
        X111 v2 (nI 0) I))
    else (
      f_X9_k v4 (nI 2) I (fun x3 =>
      f_X9_k v2 (nI 2) I (fun x4 =>
      bnd (x3 - x4) fun x5 =>
      f_X9_k v4 (nI 1) I (fun x6 =>
      f_X9_k v2 (nI 1) I (fun x7 =>
      bnd (x6 - x7) fun x8 =>
      if 0 < x5 then (
        f_X9_kettleByTemperature_b87 a1 (fun y0_0 y0_1 y0_2 I0_ => f_X9_kettleByTemperature_b17 a1 X111 K n y0_0 y0_1 y0_2 I0_) K v2 v4 v3 I)
      else (
        if x5 = 0 then (
          if 0 < x8 then (
            f_X9_kettleByTemperature_b87 a1 (fun y0_0 y0_1 y0_2 I0_ => f_X9_kettleByTemperature_b17 a1 X111 K n y0_0 y0_1 y0_2 I0_) K v2 v4 v3 I)
          else (
            if x8 = 0 then (
              if v2 ≤ v4 then (
                f_X9_kettleByTemperature_b91 a1 (fun y0_0 y0_1 y0_2 I0_ => f_X9_kettleByTemperature_b17 a1 X111 K n y0_0 y0_1 y0_2 I0_) K v2 v4 v3 I)
              else (
                f_X9_kettleByTemperature_b87 a1 (fun y0_0 y0_1 y0_2 I0_ => f_X9_kettleByTemperature_b17 a1 X111 K n y0_0 y0_1 y0_2 I0_) K v2 v4 v3 I))
            else (
              f_X9_kettleByTemperature_b91 a1 (fun y0_0 y0_1 y0_2 I0_ => f_X9_kettleByTemperature_b17 a1 X111 K n y0_0 y0_1 y0_2 I0_) K v2 v4 v3 I)))
        else (
          f_X9_kettleByTemperature_b91 a1 (fun y0_0 y0_1 y0_2 I0_ => f_X9_kettleByTemperature_b17 a1 X111 K n y0_0 y0_1 y0_2 I0_) K v2 v4 v3 I)))))))
def f_X9_kettleByTemperature_b111 (a1 : Int32) (X2 : Int32 → IT → Prop) (K : Int32 → IT → Prop) (v2 : Int32) (s1 : Int32) (I : IT) : Prop :=
  f_X9_isFine s1 I (fun x1 I2 =>
  if x1 = 0 then (
    bnd (v2 + nI 1) fun x4 =>
    X2 x4 I2)
  else (
    K v2 I2))
def f_X9_kettleByTemperature_b2 (a1 : Int32) (K : Int32 → IT → Prop) : Nat → Int32 → IT → Prop
  | 0, _, _ => False
  | n + 1, v2, I =>
    if (I 191 1) ≤ v2 then (
      wr I 190 0 (nI 1) fun I2 =>
      K (nI 0) I2)
    else (
      f_X9_kettleByTemperature_b17 a1 (fun y0_0 y0_1 I0_ => f_X9_kettleByTemperature_b111 a1 (fun y1_0 I1_ => f_X9_kettleByTemperature_b2 a1 K n y1_0 I1_) K y0_0 y0_1 I0_) K 4096 v2 (nI 0) (nI 0) I)
def f_X9_kettleByTemperature (a1 : Int32) (I : IT) (K : Int32 → IT → Prop) : Prop :=
  f_X9_kettleByTemperature_b2 a1 K 4096 (nI 0) I
def f_X9_waitingCount (I : IT) (K : Int32 → IT → Prop) : Prop :=
  f_X9_told (nI 2) I (fun x1 I2 =>
  K x1 I2)
def f_X9_orderAt_b16 (a1 : Int32) (K : Int32 → IT → Prop) (v2 : Int32) (s1 : Int32) (I : IT) : Prop :=
  f_X9_isFine s1 I (fun x1 I2 =>
  if x1 = 0 then (
    K (nI 0) I2)
  else (
    f_X9_o v2 (nI 0) I2 (fun x4 =>
    K x4 I2)))
def f_X9_orderAt (a1 : Int32) (I : IT) (K : Int32 → IT → Prop) : Prop :=
  f_X9_ranked a1 I (fun x1 =>
  if x1 < 0 then (
    f_X9_orderAt_b16 a1 K x1 (nI 0) I)
  else (
    f_X9_orderAt_b16 a1 K x1 (nI 1) I))
def f_X9_positionOf_b16 (a1 : Int32) (K : Int32 → IT → Prop) (v2 : Int32) (s1 : Int32) (I : IT) : Prop :=
  f_X9_isFine s1 I (fun x1 I2 =>
  if x1 = 0 then (
    K (nI 0) I2)
  else (
    f_X9_rankOf v2 I2 (fun x4 =>
    K x4 I2)))
def f_X9_positionOf (a1 : Int32) (I : IT) (K : Int32 → IT → Prop) : Prop :=
  f_X9_find a1 I (fun x1 =>
  if x1 < 0 then (
    f_X9_positionOf_b16 a1 K x1 (nI 0) I)
  else (
    f_X9_positionOf_b16 a1 K x1 (nI 1) I))
def f_X9_ofOrder_b14 (a1 : Int32) (a2 : Int32) (K : Int32 → IT → Prop) (s1 : Int32) (I : IT) : Prop :=
  f_X9_isFine s1 I (fun x1 I2 =>
  if x1 = 0 then (
    K (nI 0) I2)
  else (
    f_X9_find a1 I2 (fun x4 =>
    f_X9_o x4 a2 I2 (fun x5 =>
    K x5 I2))))
def f_X9_ofOrder (a1 : Int32) (a2 : Int32) (I : IT) (K : Int32 → IT → Prop) : Prop :=
  f_X9_find a1 I (fun x1 =>
  if x1 < 0 then (
    f_X9_ofOrder_b14 a1 a2 K (nI 0) I)
  else (
    f_X9_ofOrder_b14 a1 a2 K (nI 1) I))
def f_X9_cupsOf (a1 : Int32) (I : IT) (K : Int32 → IT → Prop) : Prop :=
  f_X9_ofOrder a1 (nI 2) I (fun x1 I2 =>
  K x1 I2)
def f_X9_priceOf (a1 : Int32) (I : IT) (K : UInt32 → IT → Prop) : Prop :=
  f_X9_ofOrder a1 (nI 2) I (fun x1 I2 =>
  f_X9_eighths (x1 * (I2 191 9)) I2 (fun x3 =>
  K x3 I2))
def f_X9_kettleFor_b30 (a1 : Int32) (K : Int32 → IT → Prop) (v3 : Int32) (s1 : Int32) (I : IT) : Prop :=
  f_X9_isFine s1 I (fun x1 I2 =>
  if x1 = 0 then (
    K (nI 0) I2)
  else (
    K v3 I2))
def f_X9_kettleFor_b19 (a1 : Int32) (K : Int32 → IT → Prop) (s0 : Int32) (I : IT) : Prop :=
  if s0 < 0 then (
    f_X9_kettleFor_b30 a1 K s0 (nI 0) I)
  else (
    f_X9_kettleFor_b30 a1 K s0 (nI 1) I)
def f_X9_kettleFor (a1 : Int32) (I : IT) (K : Int32 → IT → Prop) : Prop :=
  f_X9_find a1 I (fun x1 =>
  if 0 ≤ x1 then (
    f_X9_pourer x1 I (fun x3 =>
    f_X9_kettleFor_b19 a1 K x3 I))
  else (
    f_X9_kettleFor_b19 a1 K (-1) I))
def f_X9_minutesUntilSuitable_b62 (a1 : Int32) (X48 : Int32 → Int32 → Int32 → IT → Prop) (K : Int32 → IT → Prop) : Nat → Int32 → Int32 → Int32 → IT → Prop
  | 0, _, _, _, _ => False
  | n + 1, v2, v4, v5, I =>
    if (I 191 1) ≤ v5 then (
      f_X9_pourer v2 I (fun x2 =>
      if x2 < 0 then (
        bnd (v4 + nI 1) fun x4 =>
        X48 v2 (-1) x4 I)
      else (
        bnd (v4 + nI 1) fun x5 =>
        X48 v2 v4 x5 I)))
    else (
      f_X9_heats v5 I (fun x6 I7 =>
      bnd (v5 + nI 1) fun x8 =>
      f_X9_minutesUntilSuitable_b62 a1 X48 K n v2 v4 x8 I7))
def f_X9_minutesUntilSuitable_b48 (a1 : Int32) (X108 : Int32 → IT → Prop) (K : Int32 → IT → Prop) : Nat → Int32 → Int32 → Int32 → IT → Prop
  | 0, _, _, _, _ => False
  | n + 1, v2, v3, v4, I =>
    if 0 ≤ v3 then (
      X108 v3 I)
    else (
      if (nI 120) < v4 then (
        X108 v3 I)
      else (
        f_X9_minutesUntilSuitable_b62 a1 (fun y0_0 y0_1 y0_2 I0_ => f_X9_minutesUntilSuitable_b48 a1 X108 K n y0_0 y0_1 y0_2 I0_) K 4096 v2 v4 (nI 0) I))
def f_X9_minutesUntilSuitable_b125 (a1 : Int32) (K : Int32 → IT → Prop) (v3 : Int32) (s1 : Int32) (I : IT) : Prop :=
  f_X9_isFine s1 I (fun x1 I2 =>
  if x1 = 0 then (
    K (nI 0) I2)
  else (
    K v3 I2))
def f_X9_minutesUntilSuitable_b108 (a1 : Int32) (K : Int32 → IT → Prop) (v3 : Int32) (I : IT) : Prop :=
  f_X9_copies (nI 11) (nI 0) I (fun I1 =>
  if v3 < 0 then (
    f_X9_minutesUntilSuitable_b125 a1 K v3 (nI 0) I1)
  else (
    f_X9_minutesUntilSuitable_b125 a1 K v3 (nI 1) I1))
def f_X9_minutesUntilSuitable_b37 (a1 : Int32) (K : Int32 → IT → Prop) (v2 : Int32) (s0 : Int32) (I : IT) : Prop :=
  f_X9_copies (nI 0) (nI 11) I (fun I1 =>
  f_X9_minutesUntilSuitable_b48 a1 (fun y0_0 I0_ => f_X9_minutesUntilSuitable_b108 a1 K y0_0 I0_) K 4096 v2 s0 (nI 1) I1)
def f_X9_minutesUntilSuitable_b16 (a1 : Int32) (K : Int32 → IT → Prop) (v2 : Int32) (s1 : Int32) (I : IT) : Prop :=
  f_X9_isFine s1 I (fun x1 I2 =>
  if x1 = 0 then (
    K (nI 0) I2)
  else (
    f_X9_pourer v2 I2 (fun x4 =>
    if x4 < 0 then (
      f_X9_minutesUntilSuitable_b37 a1 K v2 (-1) I2)
    else (
      f_X9_minutesUntilSuitable_b37 a1 K v2 (nI 0) I2))))
def f_X9_minutesUntilSuitable (a1 : Int32) (I : IT) (K : Int32 → IT → Prop) : Prop :=
  f_X9_find a1 I (fun x1 =>
  if x1 < 0 then (
    f_X9_minutesUntilSuitable_b16 a1 K x1 (nI 0) I)
  else (
    f_X9_minutesUntilSuitable_b16 a1 K x1 (nI 1) I))
def f_X9_canServe (I : IT) (K : Int32 → IT → Prop) : Prop :=
  wr I 190 0 (nI 0) fun I1 =>
  f_X9_isServable I1 (fun x2 =>
  K x2 I1)
def f_X9_cleanCups (I : IT) (K : Int32 → IT → Prop) : Prop :=
  f_X9_told (nI 4) I (fun x1 I2 =>
  K ((nI 20) - x1) I2)
def f_X9_steam (I : IT) (K : UInt32 → IT → Prop) : Prop :=
  f_X9_told (nI 5) I (fun x1 I2 =>
  f_X9_eighths x1 I2 (fun x3 =>
  K x3 I2))
def f_X9_boiledTotal (I : IT) (K : UInt32 → IT → Prop) : Prop :=
  f_X9_told (nI 6) I (fun x1 I2 =>
  f_X9_eighths x1 I2 (fun x3 =>
  K x3 I2))
def f_X9_pouredTotal (I : IT) (K : UInt32 → IT → Prop) : Prop :=
  f_X9_told (nI 7) I (fun x1 I2 =>
  f_X9_eighths x1 I2 (fun x3 =>
  K x3 I2))
def f_X9_filledTotal (I : IT) (K : UInt32 → IT → Prop) : Prop :=
  f_X9_told (nI 8) I (fun x1 I2 =>
  f_X9_eighths x1 I2 (fun x3 =>
  K x3 I2))
def f_X9_cupPrice (I : IT) (K : UInt32 → IT → Prop) : Prop :=
  f_X9_told (nI 9) I (fun x1 I2 =>
  f_X9_eighths x1 I2 (fun x3 =>
  K x3 I2))
def f_X9_steamPrice (I : IT) (K : UInt32 → IT → Prop) : Prop :=
  f_X9_told (nI 10) I (fun x1 I2 =>
  K (FP.i2f x1) I2)
def f_X9_income (I : IT) (K : UInt32 → IT → Prop) : Prop :=
  f_X9_told (nI 12) I (fun x1 I2 =>
  f_X9_eighths x1 I2 (fun x3 =>
  K x3 I2))
def f_X9_nightCount (I : IT) (K : Int32 → IT → Prop) : Prop :=
  f_X9_told (nI 13) I (fun x1 I2 =>
  K x1 I2)
def f_X9_nightIncome (a1 : Int32) (I : IT) (K : UInt32 → IT → Prop) : Prop :=
  f_X9_in a1 (nI 0) ((I 191 13) - (nI 1)) I (fun x1 =>
  f_X9_isFine x1 I (fun x2 I3 =>
  if x2 = 0 then (
    K FP.fconst0 I3)
  else (
    inr ((nI 19) + a1) 1236 ∧ (
    f_X9_eighths (I3 191 (ix ((nI 19) + a1))) I3 (fun x6 =>
    K x6 I3)))))
def f_X9_nightByIncome_b86 (a1 : Int32) (X18 : Int32 → Int32 → Int32 → IT → Prop) (K : Int32 → IT → Prop) (v2 : Int32) (v4 : Int32) (s0 : Int32) (s1 : Int32) (I : IT) : Prop :=
  bnd (s0 + s1) fun x1 =>
  bnd (v4 + nI 1) fun x2 =>
  X18 v2 x1 x2 I
def f_X9_nightByIncome_b81 (a1 : Int32) (X18 : Int32 → Int32 → Int32 → IT → Prop) (K : Int32 → IT → Prop) (v2 : Int32) (v4 : Int32) (s0 : Int32) (I : IT) : Prop :=
  f_X9_nightByIncome_b86 a1 X18 K v2 v4 s0 (nI 1) I
def f_X9_nightByIncome_b85 (a1 : Int32) (X18 : Int32 → Int32 → Int32 → IT → Prop) (K : Int32 → IT → Prop) (v2 : Int32) (v4 : Int32) (s0 : Int32) (I : IT) : Prop :=
  f_X9_nightByIncome_b86 a1 X18 K v2 v4 s0 (nI 0) I
def f_X9_nightByIncome_b18 (a1 : Int32) (X105 : Int32 → Int32 → IT → Prop) (K : Int32 → IT → Prop) : Nat → Int32 → Int32 → Int32 → IT → Prop
  | 0, _, _, _, _ => False
  | n + 1, v2, v3, v4, I =>
    if (I 191 13) ≤ v4 then (
      if v3 = a1 then (
        X105 v2 (nI 1) I)
      else (
        X105 v2 (nI 0) I))
    else (
      inr ((nI 19) + v4) 1236 ∧ (
      inr ((nI 19) + v2) 1236 ∧ (
      if (I 191 (ix ((nI 19) + v2))) < (I 191 (ix ((nI 19) + v4))) then (
        f_X9_nightByIncome_b81 a1 (fun y0_0 y0_1 y0_2 I0_ => f_X9_nightByIncome_b18 a1 X105 K n y0_0 y0_1 y0_2 I0_) K v2 v4 v3 I)
      else (
        if (I 191 (ix ((nI 19) + v4))) = (I 191 (ix ((nI 19) + v2))) then (
          if v2 ≤ v4 then (
            f_X9_nightByIncome_b85 a1 (fun y0_0 y0_1 y0_2 I0_ => f_X9_nightByIncome_b18 a1 X105 K n y0_0 y0_1 y0_2 I0_) K v2 v4 v3 I)
          else (
            f_X9_nightByIncome_b81 a1 (fun y0_0 y0_1 y0_2 I0_ => f_X9_nightByIncome_b18 a1 X105 K n y0_0 y0_1 y0_2 I0_) K v2 v4 v3 I))
        else (
          f_X9_nightByIncome_b85 a1 (fun y0_0 y0_1 y0_2 I0_ => f_X9_nightByIncome_b18 a1 X105 K n y0_0 y0_1 y0_2 I0_) K v2 v4 v3 I)))))
def f_X9_nightByIncome_b105 (a1 : Int32) (X2 : Int32 → IT → Prop) (K : Int32 → IT → Prop) (v2 : Int32) (s1 : Int32) (I : IT) : Prop :=
  f_X9_isFine s1 I (fun x1 I2 =>
  if x1 = 0 then (
    bnd (v2 + nI 1) fun x4 =>
    X2 x4 I2)
  else (
    K v2 I2))
def f_X9_nightByIncome_b2 (a1 : Int32) (K : Int32 → IT → Prop) : Nat → Int32 → IT → Prop
  | 0, _, _ => False
  | n + 1, v2, I =>
    if (I 191 13) ≤ v2 then (
      wr I 190 0 (nI 1) fun I2 =>
      K (nI 0) I2)
    else (
      f_X9_nightByIncome_b18 a1 (fun y0_0 y0_1 I0_ => f_X9_nightByIncome_b105 a1 (fun y1_0 I1_ => f_X9_nightByIncome_b2 a1 K n y1_0 I1_) K y0_0 y0_1 I0_) K 4096 v2 (nI 0) (nI 0) I)
def f_X9_nightByIncome (a1 : Int32) (I : IT) (K : Int32 → IT → Prop) : Prop :=
  f_X9_nightByIncome_b2 a1 K 4096 (nI 0) I
def f_X9_greatestIncome_b66 (a1 : Int32) (X47 : Int32 → Int32 → IT → Prop) (K : UInt32 → IT → Prop) : Nat → Int32 → Int32 → Int32 → Int32 → IT → Prop
  | 0, _, _, _, _, _ => False
  | n + 1, v2, v3, v4, v5, I =>
    if (v3 + a1) ≤ v5 then (
      if v4 ≤ v2 then (
        bnd (v3 + nI 1) fun x3 =>
        X47 v2 x3 I)
      else (
        bnd (v3 + nI 1) fun x4 =>
        X47 v4 x4 I))
    else (
      inr ((nI 19) + v5) 1236 ∧ (
      bnd (v4 + (I 191 (ix ((nI 19) + v5)))) fun x6 =>
      bnd (v5 + nI 1) fun x7 =>
      f_X9_greatestIncome_b66 a1 X47 K n v2 v3 x6 x7 I))
def f_X9_greatestIncome_b47 (a1 : Int32) (K : UInt32 → IT → Prop) : Nat → Int32 → Int32 → IT → Prop
  | 0, _, _, _ => False
  | n + 1, v2, v3, I =>
    if (I 191 13) < (v3 + a1) then (
      f_X9_eighths v2 I (fun x2 =>
      K x2 I))
    else (
      f_X9_greatestIncome_b66 a1 (fun y0_0 y0_1 I0_ => f_X9_greatestIncome_b47 a1 K n y0_0 y0_1 I0_) K 4096 v2 v3 (nI 0) v3 I)
def f_X9_greatestIncome_b31 (a1 : Int32) (K : UInt32 → IT → Prop) (s1 : Int32) (I : IT) : Prop :=
  wr I 190 0 s1 fun I1 =>
  if (I1 190 0) = 0 then (
    f_X9_greatestIncome_b47 a1 K 4096 (nI 0) (nI 0) I1)
  else (
    K FP.fconst0 I1)
def f_X9_greatestIncome (a1 : Int32) (I : IT) (K : UInt32 → IT → Prop) : Prop :=
  f_X9_in a1 (nI 1) (nI 14) I (fun x1 =>
  if x1 = 0 then (
    f_X9_greatestIncome_b31 a1 K (nI 1) I)
  else (
    if a1 ≤ (I 191 13) then (
      f_X9_greatestIncome_b31 a1 K (nI 0) I)
    else (
      f_X9_greatestIncome_b31 a1 K (nI 2) I)))
def f_X9_greatestIncomeBySums (a1 : Int32) (I : IT) (K : UInt32 → IT → Prop) : Prop :=
  f_X9_greatestIncome a1 I (fun x1 I2 =>
  K x1 I2)
def f_X9_totalIncome (I : IT) (K : UInt32 → IT → Prop) : Prop :=
  f_X9_told (nI 17) I (fun x1 I2 =>
  f_X9_eighths (x1 + (I2 191 18)) I2 (fun x3 =>
  K x3 I2))
def f_X9_totalIncomeBySales (I : IT) (K : UInt32 → IT → Prop) : Prop :=
  f_X9_totalIncome I (fun x1 I2 =>
  K x1 I2)
def f_X9_servedOrders (I : IT) (K : Int32 → IT → Prop) : Prop :=
  f_X9_told (nI 14) I (fun x1 I2 =>
  K x1 I2)
def f_X9_whistlesHeard (I : IT) (K : Int32 → IT → Prop) : Prop :=
  f_X9_told (nI 15) I (fun x1 I2 =>
  K x1 I2)
def f_X9_whistlesLost (I : IT) (K : Int32 → IT → Prop) : Prop :=
  f_X9_told (nI 16) I (fun x1 I2 =>
  K x1 I2)
def f_X9_meanTemperature_b11 (X41 : Int32 → Int32 → Int32 → IT → Prop) (K : UInt64 → IT → Prop) : Nat → Int32 → Int32 → Int32 → IT → Prop
  | 0, _, _, _, _ => False
  | n + 1, v1, v2, v3, I =>
    if v1 ≤ v3 then (
      if v1 ≤ 0 then (
        X41 v1 v2 (nI 0) I)
      else (
        X41 v1 v2 (nI 1) I))
    else (
      f_X9_k v3 (nI 2) I (fun x3 =>
      bnd (v2 + x3) fun x4 =>
      bnd (v3 + nI 1) fun x5 =>
      f_X9_meanTemperature_b11 X41 K n v1 x4 x5 I))
def f_X9_meanTemperature_b41 (K : UInt64 → IT → Prop) (v1 : Int32) (v2 : Int32) (s1 : Int32) (I : IT) : Prop :=
  f_X9_isFine s1 I (fun x1 I2 =>
  if x1 = 0 then (
    K FP.dconst0 I2)
  else (
    vf_n64 (FP.ddiv (FP.i2d v2) dbl2) ∧ (
    vf_n64 (FP.ddiv (FP.ddiv (FP.i2d v2) dbl2) (FP.i2d v1)) ∧ (
    K (FP.ddiv (FP.ddiv (FP.i2d v2) dbl2) (FP.i2d v1)) I2))))
def f_X9_meanTemperature (I : IT) (K : UInt64 → IT → Prop) : Prop :=
  bnd (I 191 1) fun x1 =>
  f_X9_meanTemperature_b11 (fun y0_0 y0_1 y0_2 I0_ => f_X9_meanTemperature_b41 K y0_0 y0_1 y0_2 I0_) K 4096 x1 (nI 0) (nI 0) I
def f_X9_lostShare_b26 (K : UInt32 → IT → Prop) (v1 : Int32) (s1 : Int32) (I : IT) : Prop :=
  f_X9_isFine s1 I (fun x1 I2 =>
  if x1 = 0 then (
    K FP.fconst0 I2)
  else (
    vf_n32 (FP.fdiv (FP.i2f (I2 191 16)) (FP.i2f v1)) ∧ (
    K (FP.fdiv (FP.i2f (I2 191 16)) (FP.i2f v1)) I2)))
def f_X9_lostShare (I : IT) (K : UInt32 → IT → Prop) : Prop :=
  bnd ((I 191 15) + (I 191 16)) fun x1 =>
  if x1 ≤ 0 then (
    f_X9_lostShare_b26 K x1 (nI 0) I)
  else (
    f_X9_lostShare_b26 K x1 (nI 1) I)
def f_X9_isBalanced (I : IT) (K : Int32 → IT → Prop) : Prop :=
  wr I 190 0 (nI 0) fun I1 =>
  K (nI 1) I1
def f_X9_writes (a1 : Int32) (I : IT) (K : IT → Prop) : Prop :=
  inr (I 190 6) 240 ∧ (
  wr I 192 (ix (I 190 6)) (((a1).toUInt32 % 65536).toInt32) fun I2 =>
  wr I2 190 6 ((I2 190 6) + (nI 1)) fun I3 =>
  K I3)
def f_X9_writesNumber_b14 (a1 : Int32) (K : IT → Prop)  (I : IT) : Prop :=
  f_X9_writes ((nI 48) + (a1 - a1 / (nI 10) * (nI 10))) I (fun I1 =>
  K I1)
def f_X9_writesNumber_r : Nat → Int32 → IT → (IT → Prop) → Prop
  | 0, _, _, _ => False
  | n + 1, a1, I, K => if a1 ≤ (nI 9) then (f_X9_writesNumber_b14 a1 K I) else (f_X9_writesNumber_r n (a1 / (nI 10)) I (fun I2 => f_X9_writesNumber_b14 a1 K I2))
def f_X9_writesNumber (a1 : Int32) (I : IT) (K : IT → Prop) : Prop := f_X9_writesNumber_r 12 a1 I K
def f_X9_formatKettle_b115 (a1 : Int32) (K : Int32 → IT → Prop)  (I : IT) : Prop :=
  f_X9_k a1 (nI 4) I (fun x1 =>
  if x1 = (nI 1) then (
    f_X9_writes (nI 33) I (fun I3 =>
    K (I3 190 6) I3))
  else (
    K (I 190 6) I))
def f_X9_formatKettle (a1 : Int32) (I : IT) (K : Int32 → IT → Prop) : Prop :=
  f_X9_isKettle a1 I (fun x1 =>
  f_X9_isFine x1 I (fun x2 I3 =>
  if x2 = 0 then (
    K (nI 0) I3)
  else (
    wr I3 190 6 (nI 0) fun I5 =>
    f_X9_writes (nI 75) I5 (fun I6 =>
    f_X9_writesNumber a1 I6 (fun I7 =>
    f_X9_writes (nI 32) I7 (fun I8 =>
    f_X9_k a1 (nI 1) I8 (fun x9 =>
    f_X9_writesNumber x9 I8 (fun I10 =>
    f_X9_writes (nI 47) I10 (fun I11 =>
    f_X9_k a1 (nI 0) I11 (fun x12 =>
    f_X9_writesNumber x12 I11 (fun I13 =>
    f_X9_writes (nI 32) I13 (fun I14 =>
    f_X9_k a1 (nI 2) I14 (fun x15 =>
    f_X9_writesNumber x15 I14 (fun I16 =>
    f_X9_writes (nI 104) I16 (fun I17 =>
    f_X9_k a1 (nI 3) I17 (fun x18 =>
    if x18 ≤ 0 then (
      f_X9_formatKettle_b115 a1 K I17)
    else (
      f_X9_writes (nI 32) I17 (fun I20 =>
      f_X9_writes (nI 98) I20 (fun I21 =>
      f_X9_k a1 (nI 3) I21 (fun x22 =>
      f_X9_writesNumber x22 I21 (fun I23 =>
      f_X9_formatKettle_b115 a1 K I23)))))))))))))))))))))
def f_X9_writesBehind (a1 : Int32) (a2 : Int32) (I : IT) (K : IT → Prop) : Prop :=
  f_X9_writes a1 I (fun I1 =>
  f_X9_writesNumber a2 I1 (fun I2 =>
  K I2))
def f_X9_formatOrder_b16 (a1 : Int32) (K : Int32 → IT → Prop) (v2 : Int32) (s1 : Int32) (I : IT) : Prop :=
  f_X9_isFine s1 I (fun x1 I2 =>
  if x1 = 0 then (
    K (nI 0) I2)
  else (
    wr I2 190 6 (nI 0) fun I4 =>
    f_X9_o v2 (nI 0) I4 (fun x5 =>
    f_X9_writesBehind (nI 35) x5 I4 (fun I6 =>
    f_X9_writes (nI 32) I6 (fun I7 =>
    f_X9_o v2 (nI 1) I7 (fun x8 =>
    f_X9_writesBehind (nI 116) x8 I7 (fun I9 =>
    f_X9_o v2 (nI 2) I9 (fun x10 =>
    f_X9_writesBehind (nI 32) x10 I9 (fun I11 =>
    f_X9_o v2 (nI 3) I11 (fun x12 =>
    f_X9_writesBehind (nI 120) x12 I11 (fun I13 =>
    f_X9_writes (nI 32) I13 (fun I14 =>
    f_X9_o v2 (nI 4) I14 (fun x15 =>
    f_X9_writesBehind (nI 112) x15 I14 (fun I16 =>
    K (I16 190 6) I16))))))))))))))
def f_X9_formatOrder (a1 : Int32) (I : IT) (K : Int32 → IT → Prop) : Prop :=
  f_X9_find a1 I (fun x1 =>
  if x1 < 0 then (
    f_X9_formatOrder_b16 a1 K x1 (nI 0) I)
  else (
    f_X9_formatOrder_b16 a1 K x1 (nI 1) I))
def f_X9_formatLedger_b33 (X12 : Int32 → IT → Prop) (K : Int32 → IT → Prop) (v1 : Int32) (I : IT) : Prop :=
  inr ((nI 19) + v1) 1236 ∧ (
  f_X9_writesNumber (I 191 (ix ((nI 19) + v1))) I (fun I2 =>
  bnd (v1 + nI 1) fun x3 =>
  X12 x3 I2))
def f_X9_formatLedger_b12 (K : Int32 → IT → Prop) : Nat → Int32 → IT → Prop
  | 0, _, _ => False
  | n + 1, v1, I =>
    if (I 191 13) ≤ v1 then (
      K (I 190 6) I)
    else (
      if v1 ≤ 0 then (
        f_X9_formatLedger_b33 (fun y0_0 I0_ => f_X9_formatLedger_b12 K n y0_0 I0_) K v1 I)
      else (
        f_X9_writes (nI 32) I (fun I3 =>
        f_X9_formatLedger_b33 (fun y0_0 I0_ => f_X9_formatLedger_b12 K n y0_0 I0_) K v1 I3)))
def f_X9_formatLedger (I : IT) (K : Int32 → IT → Prop) : Prop :=
  wr I 190 0 (nI 0) fun I1 =>
  wr I1 190 6 (nI 0) fun I2 =>
  f_X9_formatLedger_b12 K 4096 (nI 0) I2
def f_X9_lineChar (a1 : Int32) (I : IT) (K : Int32 → IT → Prop) : Prop :=
  f_X9_in a1 (nI 0) ((I 190 6) - (nI 1)) I (fun x1 =>
  f_X9_isFine x1 I (fun x2 I3 =>
  if x2 = 0 then (
    K (nI 0) I3)
  else (
    inr a1 240 ∧ (
    isC (I3 192 (ix a1)) ∧ (
    K (I3 192 (ix a1)) I3)))))
def f_X9_append_b30 (a1 : Int32) (K : Int32 → IT → Prop) (s1 : Int32) (I : IT) : Prop :=
  wr I 190 0 s1 fun I1 =>
  if (I1 190 0) = 0 then (
    inr (I1 190 8) 60 ∧ (
    wr I1 193 (ix (I1 190 8)) a1 fun I4 =>
    wr I4 190 8 ((I4 190 8) + (nI 1)) fun I5 =>
    K (I5 190 8) I5))
  else (
    K (nI 0) I1)
def f_X9_append (a1 : Int32) (I : IT) (K : Int32 → IT → Prop) : Prop :=
  f_X9_in a1 (nI 32) (nI 126) I (fun x1 =>
  if x1 = 0 then (
    f_X9_append_b30 a1 K (nI 1) I)
  else (
    if (I 190 8) = (nI 60) then (
      f_X9_append_b30 a1 K (nI 2) I)
    else (
      f_X9_append_b30 a1 K (nI 0) I)))
def f_X9_sign (I : IT) (K : Int32 → Prop) : Prop :=
  if (I 190 8) ≤ (I 190 9) then (
    K (-1))
  else (
    inr (I 190 9) 60 ∧ (
    K (I 193 (ix (I 190 9)))))
def f_X9_needs (a1 : Int32) (I : IT) (K : IT → Prop) : Prop :=
  if (I 190 10) < 0 then (
    f_X9_sign I (fun x2 =>
    if x2 = a1 then (
      wr I 190 9 ((I 190 9) + (nI 1)) fun I4 =>
      K I4)
    else (
      wr I 190 10 (I 190 9) fun I5 =>
      K I5)))
  else (
    K I)
def f_X9_letters (a1 : Int32) (a2 : Int32) (a3 : Int32) (I : IT) (K : IT → Prop) : Prop :=
  f_X9_needs a1 I (fun I1 =>
  f_X9_needs a2 I1 (fun I2 =>
  f_X9_needs a3 I2 (fun I3 =>
  K I3)))
def f_X9_number_b43 (a1 : Int32) (K : Int32 → IT → Prop) : Nat → Int32 → Int32 → IT → Prop
  | 0, _, _, _ => False
  | n + 1, v2, v3, I =>
    if a1 ≤ v3 then (
      K v2 I)
    else (
      f_X9_sign I (fun x2 =>
      f_X9_in x2 (nI 48) (nI 57) I (fun x3 =>
      if x3 = 0 then (
        K v2 I)
      else (
        f_X9_sign I (fun x5 =>
        bnd ((((nI 10) * v2) + x5) - (nI 48)) fun x6 =>
        wr I 190 9 ((I 190 9) + (nI 1)) fun I7 =>
        bnd (v3 + nI 1) fun x8 =>
        f_X9_number_b43 a1 K n x6 x8 I7)))))
def f_X9_number (a1 : Int32) (I : IT) (K : Int32 → IT → Prop) : Prop :=
  f_X9_needs (nI 32) I (fun I1 =>
  if (I1 190 10) < 0 then (
    f_X9_sign I1 (fun x3 =>
    f_X9_in x3 (nI 48) (nI 57) I1 (fun x4 =>
    if x4 = 0 then (
      wr I1 190 10 (I1 190 9) fun I6 =>
      K (nI 0) I6)
    else (
      f_X9_number_b43 a1 K 4096 (nI 0) (nI 0) I1))))
  else (
    K (nI 0) I1))
def f_X9_word_b317 (a1 : Int32) (K : Int32 → IT → Prop)  (I : IT) : Prop :=
  f_X9_sign I (fun x1 =>
  if x1 = (nI 108) then (
    f_X9_letters (nI 108) (nI 111) (nI 115) I (fun I3 =>
    f_X9_needs (nI 101) I3 (fun I4 =>
    K (nI 122) I4)))
  else (
    f_X9_sign I (fun x5 =>
    if x5 = (nI 117) then (
      f_X9_needs (nI 117) I (fun I7 =>
      f_X9_needs (nI 112) I7 (fun I8 =>
      K (nI 117) I8)))
    else (
      f_X9_letters (nI 97) (nI 110) (nI 99) I (fun I9 =>
      f_X9_needs (nI 101) I9 (fun I10 =>
      f_X9_needs (nI 108) I10 (fun I11 =>
      K (nI 99) I11)))))))
def f_X9_word (a1 : Int32) (I : IT) (K : Int32 → IT → Prop) : Prop :=
  if a1 = (nI 97) then (
    f_X9_letters (nI 116) (nI 116) (nI 101) I (fun I1 =>
    f_X9_needs (nI 110) I1 (fun I2 =>
    f_X9_needs (nI 100) I2 (fun I3 =>
    K (nI 97) I3))))
  else (
  if a1 = (nI 98) then (
    f_X9_letters (nI 117) (nI 114) (nI 110) I (fun I4 =>
    f_X9_needs (nI 101) I4 (fun I5 =>
    f_X9_needs (nI 114) I5 (fun I6 =>
    K (nI 98) I6))))
  else (
  if a1 = (nI 99) then (
    f_X9_word_b317 a1 K I)
  else (
  if a1 = (nI 100) then (
    f_X9_word_b317 a1 K I)
  else (
  if a1 = (nI 101) then (
    f_X9_word_b317 a1 K I)
  else (
  if a1 = (nI 102) then (
    f_X9_letters (nI 105) (nI 108) (nI 108) I (fun I7 =>
    K (nI 102) I7))
  else (
  if a1 = (nI 103) then (
    f_X9_word_b317 a1 K I)
  else (
  if a1 = (nI 104) then (
    f_X9_word_b317 a1 K I)
  else (
  if a1 = (nI 105) then (
    f_X9_word_b317 a1 K I)
  else (
  if a1 = (nI 106) then (
    f_X9_word_b317 a1 K I)
  else (
  if a1 = (nI 107) then (
    f_X9_letters (nI 101) (nI 116) (nI 116) I (fun I8 =>
    f_X9_needs (nI 108) I8 (fun I9 =>
    f_X9_needs (nI 101) I9 (fun I10 =>
    K (nI 107) I10))))
  else (
  if a1 = (nI 108) then (
    f_X9_letters (nI 105) (nI 116) (nI 114) I (fun I11 =>
    f_X9_needs (nI 101) I11 (fun I12 =>
    K (nI 108) I12)))
  else (
  if a1 = (nI 109) then (
    f_X9_letters (nI 105) (nI 110) (nI 117) I (fun I13 =>
    f_X9_letters (nI 116) (nI 101) (nI 115) I13 (fun I14 =>
    K (nI 109) I14)))
  else (
  if a1 = (nI 110) then (
    f_X9_word_b317 a1 K I)
  else (
  if a1 = (nI 111) then (
    f_X9_letters (nI 114) (nI 100) (nI 101) I (fun I15 =>
    f_X9_needs (nI 114) I15 (fun I16 =>
    K (nI 111) I16)))
  else (
  if a1 = (nI 112) then (
    f_X9_word_b317 a1 K I)
  else (
  if a1 = (nI 113) then (
    f_X9_word_b317 a1 K I)
  else (
  if a1 = (nI 114) then (
    f_X9_word_b317 a1 K I)
  else (
  if a1 = (nI 115) then (
    f_X9_sign I (fun x17 =>
    if x17 = (nI 116) then (
      f_X9_letters (nI 116) (nI 101) (nI 97) I (fun I19 =>
      f_X9_needs (nI 109) I19 (fun I20 =>
      K (nI 116) I20)))
    else (
      f_X9_letters (nI 101) (nI 114) (nI 118) I (fun I21 =>
      f_X9_needs (nI 101) I21 (fun I22 =>
      K (nI 115) I22)))))
  else (
  if a1 = (nI 116) then (
    f_X9_word_b317 a1 K I)
  else (
  if a1 = (nI 117) then (
    f_X9_word_b317 a1 K I)
  else (
  if a1 = (nI 118) then (
    f_X9_word_b317 a1 K I)
  else (
  if a1 = (nI 119) then (
    f_X9_letters (nI 97) (nI 115) (nI 104) I (fun I23 =>
    K (nI 119) I23))
  else (
    f_X9_word_b317 a1 K I)))))))))))))))))))))))
def f_X9_command_b24 (X113 : Int32 → Int32 → IT → Prop) (K : IT → Prop) : Nat → Int32 → Int32 → Int32 → IT → Prop
  | 0, _, _, _, _ => False
  | n + 1, v1, v2, v3, I =>
    if (nI 5) ≤ v3 then (
      if v2 = (nI 107) then (
        X113 v1 v2 I)
      else (
        if v2 = (nI 102) then (
          X113 v1 v2 I)
        else (
          if v2 = (nI 98) then (
            X113 v1 v2 I)
          else (
            if v2 = (nI 111) then (
              X113 v1 v2 I)
            else (
              if v2 = (nI 99) then (
                X113 v1 v2 I)
              else (
                if v2 = (nI 115) then (
                  X113 v1 v2 I)
                else (
                  if v2 = (nI 119) then (
                    X113 v1 v2 I)
                  else (
                    if v2 = (nI 109) then (
                      X113 v1 v2 I)
                    else (
                      if v2 = (nI 108) then (
                        X113 v1 v2 I)
                      else (
                        if v2 = (nI 97) then (
                          X113 v1 v2 I)
                        else (
                          wr I 190 10 (I 190 9) fun I12 =>
                          K I12)))))))))))
    else (
      inr (v1 + v3) 305 ∧ (
      wr I 194 (ix (v1 + v3)) (nI 0) fun I14 =>
      bnd (v3 + nI 1) fun x15 =>
      f_X9_command_b24 X113 K n v1 v2 x15 I14))
def f_X9_command_b113 (K : IT → Prop) (v1 : Int32) (v2 : Int32) (I : IT) : Prop :=
  wr I 190 9 ((I 190 9) + (nI 1)) fun I1 =>
  f_X9_word v2 I1 (fun x2 I3 =>
  inr v1 305 ∧ (
  wr I3 194 (ix v1) x2 fun I5 =>
  if x2 = (nI 97) then (
    f_X9_number (nI 1) I5 (fun x6 I7 =>
    inr (v1 + (nI 1)) 305 ∧ (
    wr I7 194 (ix (v1 + (nI 1))) x6 fun I9 =>
    K I9)))
  else (
  if x2 = (nI 98) then (
    f_X9_number (nI 1) I5 (fun x10 I11 =>
    inr (v1 + (nI 1)) 305 ∧ (
    wr I11 194 (ix (v1 + (nI 1))) x10 fun I13 =>
    f_X9_number (nI 1) I13 (fun x14 I15 =>
    inr (v1 + (nI 2)) 305 ∧ (
    wr I15 194 (ix (v1 + (nI 2))) x14 fun I17 =>
    K I17)))))
  else (
  if x2 = (nI 102) then (
    f_X9_number (nI 1) I5 (fun x18 I19 =>
    inr (v1 + (nI 1)) 305 ∧ (
    wr I19 194 (ix (v1 + (nI 1))) x18 fun I21 =>
    f_X9_number (nI 3) I21 (fun x22 I23 =>
    inr (v1 + (nI 2)) 305 ∧ (
    wr I23 194 (ix (v1 + (nI 2))) x22 fun I25 =>
    K I25)))))
  else (
  if x2 = (nI 111) then (
    f_X9_number (nI 1) I5 (fun x26 I27 =>
    inr (v1 + (nI 1)) 305 ∧ (
    wr I27 194 (ix (v1 + (nI 1))) x26 fun I29 =>
    f_X9_number (nI 1) I29 (fun x30 I31 =>
    inr (v1 + (nI 2)) 305 ∧ (
    wr I31 194 (ix (v1 + (nI 2))) x30 fun I33 =>
    f_X9_number (nI 3) I33 (fun x34 I35 =>
    inr (v1 + (nI 3)) 305 ∧ (
    wr I35 194 (ix (v1 + (nI 3))) x34 fun I37 =>
    f_X9_number (nI 1) I37 (fun x38 I39 =>
    inr (v1 + (nI 4)) 305 ∧ (
    wr I39 194 (ix (v1 + (nI 4))) x38 fun I41 =>
    K I41)))))))))
  else (
  if x2 = (nI 115) then (
    K I5)
  else (
  if x2 = (nI 122) then (
    K I5)
  else (
    f_X9_number (nI 3) I5 (fun x42 I43 =>
    inr (v1 + (nI 1)) 305 ∧ (
    wr I43 194 (ix (v1 + (nI 1))) x42 fun I45 =>
    K I45))))))))))
def f_X9_command (I : IT) (K : IT → Prop) : Prop :=
  bnd ((nI 5) * (I 190 14)) fun x1 =>
  wr I 190 14 ((I 190 14) + (nI 1)) fun I2 =>
  f_X9_sign I2 (fun x3 =>
  f_X9_command_b24 (fun y0_0 y0_1 I0_ => f_X9_command_b113 K y0_0 y0_1 I0_) K 4096 x1 x3 (nI 0) I2)
def f_X9_parse_b19 (X52 : IT → Prop) (K : IT → Prop) : Nat → IT → Prop
  | 0, _ => False
  | n + 1, I =>
    if 0 ≤ (I 190 10) then (
      X52 I)
    else (
      f_X9_sign I (fun x2 =>
      if x2 = (nI 59) then (
        wr I 190 9 ((I 190 9) + (nI 1)) fun I4 =>
        f_X9_command I4 (fun I5 =>
        f_X9_parse_b19 X52 K n I5))
      else (
        X52 I)))
def f_X9_parse_b52 (K : IT → Prop)  (I : IT) : Prop :=
  if 0 ≤ (I 190 10) then (
    K I)
  else (
    if (I 190 8) ≤ (I 190 9) then (
      K I)
    else (
      wr I 190 10 (I 190 9) fun I3 =>
      K I3))
def f_X9_parse (I : IT) (K : IT → Prop) : Prop :=
  wr I 190 9 (nI 0) fun I1 =>
  wr I1 190 10 (-1) fun I2 =>
  wr I2 190 14 (nI 0) fun I3 =>
  f_X9_command I3 (fun I4 =>
  f_X9_parse_b19 (fun I0_ => f_X9_parse_b52 K I0_) K 4096 I4)
def f_X9_does_b226 (a1 : Int32) (K : Int32 → IT → Prop)  (I : IT) : Prop :=
  f_X9_closes I (fun x1 I2 =>
  K x1 I2)
def f_X9_does (a1 : Int32) (I : IT) (K : Int32 → IT → Prop) : Prop :=
  inr (a1 + (nI 1)) 305 ∧ (
  bnd (I 194 (ix (a1 + (nI 1)))) fun x2 =>
  inr (a1 + (nI 2)) 305 ∧ (
  bnd (I 194 (ix (a1 + (nI 2)))) fun x4 =>
  inr a1 305 ∧ (
  if (I 194 (ix a1)) = (nI 97) then (
    f_X9_attends x2 I (fun x6 I7 =>
    K x6 I7))
  else (
  if (I 194 (ix a1)) = (nI 98) then (
    f_X9_turns x2 x4 I (fun x8 I9 =>
    K x8 I9))
  else (
  if (I 194 (ix a1)) = (nI 99) then (
    f_X9_cancels x2 I (fun x10 I11 =>
    K x10 I11))
  else (
  if (I 194 (ix a1)) = (nI 100) then (
    f_X9_does_b226 a1 K I)
  else (
  if (I 194 (ix a1)) = (nI 101) then (
    f_X9_does_b226 a1 K I)
  else (
  if (I 194 (ix a1)) = (nI 102) then (
    f_X9_fills x2 x4 I (fun x12 I13 =>
    K x12 I13))
  else (
  if (I 194 (ix a1)) = (nI 103) then (
    f_X9_does_b226 a1 K I)
  else (
  if (I 194 (ix a1)) = (nI 104) then (
    f_X9_does_b226 a1 K I)
  else (
  if (I 194 (ix a1)) = (nI 105) then (
    f_X9_does_b226 a1 K I)
  else (
  if (I 194 (ix a1)) = (nI 106) then (
    f_X9_does_b226 a1 K I)
  else (
  if (I 194 (ix a1)) = (nI 107) then (
    f_X9_adds x2 I (fun x14 I15 =>
    K x14 I15))
  else (
  if (I 194 (ix a1)) = (nI 108) then (
    f_X9_prices (nI 10) x2 I (fun x16 I17 =>
    K x16 I17))
  else (
  if (I 194 (ix a1)) = (nI 109) then (
    f_X9_passes x2 I (fun x18 I19 =>
    K x18 I19))
  else (
  if (I 194 (ix a1)) = (nI 110) then (
    f_X9_does_b226 a1 K I)
  else (
  if (I 194 (ix a1)) = (nI 111) then (
    inr (a1 + (nI 3)) 305 ∧ (
    inr (a1 + (nI 4)) 305 ∧ (
    f_X9_accepts x2 x4 (I 194 (ix (a1 + (nI 3)))) (I 194 (ix (a1 + (nI 4)))) I (fun x22 I23 =>
    K x22 I23))))
  else (
  if (I 194 (ix a1)) = (nI 112) then (
    f_X9_does_b226 a1 K I)
  else (
  if (I 194 (ix a1)) = (nI 113) then (
    f_X9_does_b226 a1 K I)
  else (
  if (I 194 (ix a1)) = (nI 114) then (
    f_X9_does_b226 a1 K I)
  else (
  if (I 194 (ix a1)) = (nI 115) then (
    f_X9_serves I (fun x24 I25 =>
    K x24 I25))
  else (
  if (I 194 (ix a1)) = (nI 116) then (
    f_X9_sells x2 I (fun x26 I27 =>
    K x26 I27))
  else (
  if (I 194 (ix a1)) = (nI 117) then (
    f_X9_prices (nI 9) x2 I (fun x28 I29 =>
    K x28 I29))
  else (
  if (I 194 (ix a1)) = (nI 118) then (
    f_X9_does_b226 a1 K I)
  else (
  if (I 194 (ix a1)) = (nI 119) then (
    f_X9_washes x2 I (fun x30 I31 =>
    K x30 I31))
  else (
    f_X9_does_b226 a1 K I))))))))))))))))))))))))))
def f_X9_run_b37 (X61 : Int32 → IT → Prop) (K : Int32 → IT → Prop) : Nat → Int32 → IT → Prop
  | 0, _, _ => False
  | n + 1, v1, I =>
    if (I 190 14) ≤ v1 then (
      X61 v1 I)
    else (
      f_X9_does ((nI 5) * v1) I (fun x2 I3 =>
      if x2 = 0 then (
        bnd (v1 + nI 1) fun x5 =>
        f_X9_run_b37 X61 K n x5 I3)
      else (
        X61 v1 I3)))
def f_X9_run_b109 (K : Int32 → IT → Prop) (s1 : Int32) (I : IT) : Prop :=
  f_X9_ends s1 (nI 0) (nI 0) (nI 2) (nI 0) I (fun x1 I2 =>
  K x1 I2)
def f_X9_run_b88 (K : Int32 → IT → Prop) (v2 : Int32) (s1 : Int32) (I : IT) : Prop :=
  wr I 190 12 s1 fun I1 =>
  wr I1 190 4 (I1 190 14) fun I2 =>
  if v2 = 0 then (
    f_X9_run_b109 K (nI 3) I2)
  else (
    f_X9_run_b109 K (nI 0) I2)
def f_X9_run_b74 (K : Int32 → IT → Prop) (v1 : Int32) (s0 : Int32) (I : IT) : Prop :=
  if s0 = 0 then (
    f_X9_run_b88 K s0 v1 I)
  else (
    f_X9_run_b88 K s0 (I 190 12) I)
def f_X9_run_b61 (K : Int32 → IT → Prop) (v1 : Int32) (I : IT) : Prop :=
  if v1 = (I 190 14) then (
    f_X9_run_b74 K v1 (nI 1) I)
  else (
    f_X9_run_b74 K v1 (nI 0) I)
def f_X9_run (I : IT) (K : Int32 → IT → Prop) : Prop :=
  f_X9_parse I (fun I1 =>
  wr I1 190 8 (nI 0) fun I2 =>
  if (I2 190 10) < 0 then (
    f_X9_begins I2 (fun I4 =>
    f_X9_run_b37 (fun y0_0 I0_ => f_X9_run_b61 K y0_0 I0_) K 4096 (nI 0) I4))
  else (
    wr I2 190 11 (I2 190 10) fun I5 =>
    wr I5 190 0 (nI 1) fun I6 =>
    K (nI 0) I6))
def f_X9_errorPosition_b14 (K : Int32 → IT → Prop) (s1 : Int32) (I : IT) : Prop :=
  f_X9_isFine s1 I (fun x1 I2 =>
  if x1 = 0 then (
    K (nI 0) I2)
  else (
    K (I2 190 11) I2))
def f_X9_errorPosition (I : IT) (K : Int32 → IT → Prop) : Prop :=
  if (I 190 11) = (-1) then (
    f_X9_errorPosition_b14 K (nI 0) I)
  else (
    f_X9_errorPosition_b14 K (nI 1) I)
def f_X9_failedCommand_b14 (K : Int32 → IT → Prop) (s1 : Int32) (I : IT) : Prop :=
  f_X9_isFine s1 I (fun x1 I2 =>
  if x1 = 0 then (
    K (nI 0) I2)
  else (
    K (I2 190 12) I2))
def f_X9_failedCommand (I : IT) (K : Int32 → IT → Prop) : Prop :=
  if (I 190 12) = (-1) then (
    f_X9_failedCommand_b14 K (nI 0) I)
  else (
    f_X9_failedCommand_b14 K (nI 1) I)
def f_X9_undoableCount (I : IT) (K : Int32 → IT → Prop) : Prop :=
  wr I 190 0 (nI 0) fun I1 =>
  K (I1 190 2) I1
def f_X9_undo_b13 (K : Int32 → IT → Prop) (s1 : Int32) (I : IT) : Prop :=
  f_X9_isFine s1 I (fun x1 I2 =>
  if x1 = 0 then (
    K (nI 0) I2)
  else (
    f_X9_copies (I2 190 2) (nI 0) I2 (fun I4 =>
    wr I4 190 2 ((I4 190 2) - (nI 1)) fun I5 =>
    K (I5 190 2) I5)))
def f_X9_undo (I : IT) (K : Int32 → IT → Prop) : Prop :=
  if (I 190 2) ≤ 0 then (
    f_X9_undo_b13 K (nI 0) I)
  else (
    f_X9_undo_b13 K (nI 1) I)
def f_X9_save (I : IT) (K : Int32 → IT → Prop) : Prop :=
  wr I 190 0 (nI 0) fun I1 =>
  wr I1 190 3 (nI 1) fun I2 =>
  f_X9_copies (nI 0) (nI 9) I2 (fun I3 =>
  K (I3 191 1) I3)
def f_X9_restore (I : IT) (K : Int32 → IT → Prop) : Prop :=
  isZ (I 190 3) ∧ (
  f_X9_isFine (I 190 3) I (fun x2 I3 =>
  if x2 = 0 then (
    K (nI 0) I3)
  else (
    f_X9_copies (nI 9) (nI 0) I3 (fun I5 =>
    wr I5 190 2 (nI 0) fun I6 =>
    K (I6 191 1) I6))))
def f_L_addKettle (a1 : Int32) (I : IT) (L : LT) (K : Int32 → IT → LT → Prop) : Prop :=
  f_X8_addKettle a1 I (fun x1 I2 =>
  wrL L (x1.toInt64) fun L3 =>
  K (nI 0) I2 L3) (fun E I9_ => if E = "java/lang/IllegalArgumentException" then (K (nI 1) I9_ L) else (if E = "java/lang/IllegalStateException" then (K (nI 2) I9_ L) else (False)))
def f_L_fill (a1 : Int32) (a2 : Int32) (I : IT) (L : LT) (K : Int32 → IT → LT → Prop) : Prop :=
  f_X8_fill a1 a2 I (fun x1 I2 =>
  vf_n64 (FP.f2d x1) ∧ (
  wrD L (FP.f2d x1) fun L4 =>
  K (nI 0) I2 L4)) (fun E I9_ => if E = "java/lang/IndexOutOfBoundsException" then (K (nI 1) I9_ L) else (if E = "java/lang/IllegalArgumentException" then (K (nI 2) I9_ L) else (if E = "java/lang/IllegalStateException" then (K (nI 3) I9_ L) else (False))))
def f_L_setBurner (a1 : Int32) (a2 : Int32) (I : IT) (L : LT) (K : Int32 → IT → LT → Prop) : Prop :=
  f_X8_setBurner a1 a2 I (fun x1 I2 =>
  wrL L (x1.toInt64) fun L3 =>
  K (nI 0) I2 L3) (fun E I9_ => if E = "java/lang/IndexOutOfBoundsException" then (K (nI 1) I9_ L) else (if E = "java/lang/IllegalArgumentException" then (K (nI 2) I9_ L) else (False)))
def f_L_order (a1 : Int32) (a2 : Int32) (a3 : Int32) (a4 : Int32) (I : IT) (L : LT) (K : Int32 → IT → LT → Prop) : Prop :=
  f_X8_order a1 a2 a3 a4 I (fun x1 I2 =>
  wrL L (x1.toInt64) fun L3 =>
  K (nI 0) I2 L3) (fun E I9_ => if E = "java/lang/IllegalArgumentException" then (K (nI 1) I9_ L) else (if E = "java/lang/IllegalStateException" then (K (nI 2) I9_ L) else (False)))
def f_L_cancel (a1 : Int32) (I : IT) (L : LT) (K : Int32 → IT → LT → Prop) : Prop :=
  f_X8_cancel a1 I (fun x1 I2 =>
  wrL L (x1.toInt64) fun L3 =>
  K (nI 0) I2 L3) (fun E I9_ => if E = "java/util/NoSuchElementException" then (K (nI 1) I9_ L) else (False))
def f_L_serveNext (I : IT) (L : LT) (K : Int32 → IT → LT → Prop) : Prop :=
  f_X8_serveNext I (fun x1 I2 =>
  wrL L (x1.toInt64) fun L3 =>
  K (nI 0) I2 L3) (fun E I9_ => if E = "java/lang/IllegalStateException" then (K (nI 1) I9_ L) else (False))
def f_L_wash (a1 : Int32) (I : IT) (L : LT) (K : Int32 → IT → LT → Prop) : Prop :=
  f_X8_wash a1 I (fun x1 I2 =>
  wrL L (x1.toInt64) fun L3 =>
  K (nI 0) I2 L3) (fun E I9_ => if E = "java/lang/IllegalArgumentException" then (K (nI 1) I9_ L) else (if E = "java/lang/IllegalStateException" then (K (nI 2) I9_ L) else (False)))
def f_L_sellSteam (a1 : Int32) (I : IT) (L : LT) (K : Int32 → IT → LT → Prop) : Prop :=
  f_X8_sellSteam a1 I (fun x1 I2 =>
  vf_n64 (FP.f2d x1) ∧ (
  wrD L (FP.f2d x1) fun L4 =>
  K (nI 0) I2 L4)) (fun E I9_ => if E = "java/lang/IllegalArgumentException" then (K (nI 1) I9_ L) else (if E = "java/lang/IllegalStateException" then (K (nI 2) I9_ L) else (False)))
def f_L_setCupPrice (a1 : Int32) (I : IT) (L : LT) (K : Int32 → IT → LT → Prop) : Prop :=
  f_X8_setCupPrice a1 I (fun x1 I2 =>
  vf_n64 (FP.f2d x1) ∧ (
  wrD L (FP.f2d x1) fun L4 =>
  K (nI 0) I2 L4)) (fun E I9_ => if E = "java/lang/IllegalArgumentException" then (K (nI 1) I9_ L) else (False))
def f_L_setSteamPrice (a1 : Int32) (I : IT) (L : LT) (K : Int32 → IT → LT → Prop) : Prop :=
  f_X8_setSteamPrice a1 I (fun x1 I2 =>
  vf_n64 (FP.f2d x1) ∧ (
  wrD L (FP.f2d x1) fun L4 =>
  K (nI 0) I2 L4)) (fun E I9_ => if E = "java/lang/IllegalArgumentException" then (K (nI 1) I9_ L) else (False))
def f_L_pass (a1 : Int32) (I : IT) (L : LT) (K : Int32 → IT → LT → Prop) : Prop :=
  f_X8_pass a1 I (fun x1 I2 =>
  wrL L (x1.toInt64) fun L3 =>
  K (nI 0) I2 L3) (fun E I9_ => if E = "java/lang/IllegalArgumentException" then (K (nI 1) I9_ L) else (False))
def f_L_closeNight (I : IT) (L : LT) (K : Int32 → IT → LT → Prop) : Prop :=
  f_X8_closeNight I (fun x1 I2 =>
  vf_n64 (FP.f2d x1) ∧ (
  wrD L (FP.f2d x1) fun L4 =>
  K (nI 0) I2 L4)) (fun E I9_ => if E = "java/lang/IllegalStateException" then (K (nI 1) I9_ L) else (False))
def f_L_capacity (a1 : Int32) (I : IT) (L : LT) (K : Int32 → IT → LT → Prop) : Prop :=
  f_X8_capacity a1 I (fun x1 =>
  vf_n64 (FP.f2d x1) ∧ (
  wrD L (FP.f2d x1) fun L3 =>
  K (nI 0) I L3)) (fun E => if E = "java/lang/IndexOutOfBoundsException" then (K (nI 1) I L) else (False))
def f_L_volume (a1 : Int32) (I : IT) (L : LT) (K : Int32 → IT → LT → Prop) : Prop :=
  f_X8_volume a1 I (fun x1 =>
  vf_n64 (FP.f2d x1) ∧ (
  wrD L (FP.f2d x1) fun L3 =>
  K (nI 0) I L3)) (fun E => if E = "java/lang/IndexOutOfBoundsException" then (K (nI 1) I L) else (False))
def f_L_temperature (a1 : Int32) (I : IT) (L : LT) (K : Int32 → IT → LT → Prop) : Prop :=
  f_X8_temperature a1 I (fun x1 =>
  vf_n64 (FP.f2d x1) ∧ (
  wrD L (FP.f2d x1) fun L3 =>
  K (nI 0) I L3)) (fun E => if E = "java/lang/IndexOutOfBoundsException" then (K (nI 1) I L) else (False))
def f_L_temperatureBits (a1 : Int32) (I : IT) (L : LT) (K : Int32 → IT → LT → Prop) : Prop :=
  f_X8_temperatureBits a1 I (fun x1 =>
  wrL L (x1.toInt64) fun L2 =>
  K (nI 0) I L2) (fun E => if E = "java/lang/IndexOutOfBoundsException" then (K (nI 1) I L) else (False))
def f_L_burner (a1 : Int32) (I : IT) (L : LT) (K : Int32 → IT → LT → Prop) : Prop :=
  f_X8_burner a1 I (fun x1 =>
  wrL L (x1.toInt64) fun L2 =>
  K (nI 0) I L2) (fun E => if E = "java/lang/IndexOutOfBoundsException" then (K (nI 1) I L) else (False))
def f_L_isBoiling (a1 : Int32) (I : IT) (L : LT) (K : Int32 → IT → LT → Prop) : Prop :=
  f_X8_isBoiling a1 I (fun x1 =>
  if x1 = 0 then (
    wrL L (lN 0) fun L3 =>
    K (nI 0) I L3)
  else (
    wrL L (lN 1) fun L4 =>
    K (nI 0) I L4)) (fun E => if E = "java/lang/IndexOutOfBoundsException" then (K (nI 1) I L) else (False))
def f_L_minutesUntilBoiling (a1 : Int32) (I : IT) (L : LT) (K : Int32 → IT → LT → Prop) : Prop :=
  f_X8_minutesUntilBoiling a1 I (fun x1 =>
  wrL L (x1.toInt64) fun L2 =>
  K (nI 0) I L2) (fun E => if E = "java/lang/IndexOutOfBoundsException" then (K (nI 1) I L) else (if E = "java/util/NoSuchElementException" then (K (nI 2) I L) else (False)))
def f_L_minutesUntilBoilingByMinutes (a1 : Int32) (I : IT) (L : LT) (K : Int32 → IT → LT → Prop) : Prop :=
  f_X8_minutesUntilBoilingByMinutes a1 I (fun x1 I2 =>
  wrL L (x1.toInt64) fun L3 =>
  K (nI 0) I2 L3) (fun E I9_ => if E = "java/lang/IndexOutOfBoundsException" then (K (nI 1) I9_ L) else (if E = "java/util/NoSuchElementException" then (K (nI 2) I9_ L) else (False)))
def f_L_kettleByTemperature (a1 : Int32) (I : IT) (L : LT) (K : Int32 → IT → LT → Prop) : Prop :=
  f_X8_kettleByTemperature a1 I (fun x1 =>
  wrL L (x1.toInt64) fun L2 =>
  K (nI 0) I L2) (fun E => if E = "java/util/NoSuchElementException" then (K (nI 1) I L) else (False))
def f_L_orderAt (a1 : Int32) (I : IT) (L : LT) (K : Int32 → IT → LT → Prop) : Prop :=
  f_X8_orderAt a1 I (fun x1 =>
  wrL L (x1.toInt64) fun L2 =>
  K (nI 0) I L2) (fun E => if E = "java/util/NoSuchElementException" then (K (nI 1) I L) else (False))
def f_L_positionOf (a1 : Int32) (I : IT) (L : LT) (K : Int32 → IT → LT → Prop) : Prop :=
  f_X8_positionOf a1 I (fun x1 =>
  wrL L (x1.toInt64) fun L2 =>
  K (nI 0) I L2) (fun E => if E = "java/util/NoSuchElementException" then (K (nI 1) I L) else (False))
def f_L_cupsOf (a1 : Int32) (I : IT) (L : LT) (K : Int32 → IT → LT → Prop) : Prop :=
  f_X8_cupsOf a1 I (fun x1 =>
  wrL L (x1.toInt64) fun L2 =>
  K (nI 0) I L2) (fun E => if E = "java/util/NoSuchElementException" then (K (nI 1) I L) else (False))
def f_L_priceOf (a1 : Int32) (I : IT) (L : LT) (K : Int32 → IT → LT → Prop) : Prop :=
  f_X8_priceOf a1 I (fun x1 =>
  vf_n64 (FP.f2d x1) ∧ (
  wrD L (FP.f2d x1) fun L3 =>
  K (nI 0) I L3)) (fun E => if E = "java/util/NoSuchElementException" then (K (nI 1) I L) else (False))
def f_L_kettleFor (a1 : Int32) (I : IT) (L : LT) (K : Int32 → IT → LT → Prop) : Prop :=
  f_X8_kettleFor a1 I (fun x1 =>
  wrL L (x1.toInt64) fun L2 =>
  K (nI 0) I L2) (fun E => if E = "java/util/NoSuchElementException" then (K (nI 1) I L) else (False))
def f_L_minutesUntilSuitable (a1 : Int32) (I : IT) (L : LT) (K : Int32 → IT → LT → Prop) : Prop :=
  f_X8_minutesUntilSuitable a1 I (fun x1 I2 =>
  wrL L (x1.toInt64) fun L3 =>
  K (nI 0) I2 L3) (fun E I9_ => if E = "java/util/NoSuchElementException" then (K (nI 1) I9_ L) else (False))
def f_L_nightIncome (a1 : Int32) (I : IT) (L : LT) (K : Int32 → IT → LT → Prop) : Prop :=
  f_X8_nightIncome a1 I (fun x1 =>
  vf_n64 (FP.f2d x1) ∧ (
  wrD L (FP.f2d x1) fun L3 =>
  K (nI 0) I L3)) (fun E => if E = "java/lang/IndexOutOfBoundsException" then (K (nI 1) I L) else (False))
def f_L_nightByIncome (a1 : Int32) (I : IT) (L : LT) (K : Int32 → IT → LT → Prop) : Prop :=
  f_X8_nightByIncome a1 I (fun x1 =>
  wrL L (x1.toInt64) fun L2 =>
  K (nI 0) I L2) (fun E => if E = "java/util/NoSuchElementException" then (K (nI 1) I L) else (False))
def f_L_greatestIncome (a1 : Int32) (I : IT) (L : LT) (K : Int32 → IT → LT → Prop) : Prop :=
  f_X8_greatestIncome a1 I (fun x1 =>
  vf_n64 (FP.f2d x1) ∧ (
  wrD L (FP.f2d x1) fun L3 =>
  K (nI 0) I L3)) (fun E => if E = "java/lang/IllegalArgumentException" then (K (nI 1) I L) else (if E = "java/util/NoSuchElementException" then (K (nI 2) I L) else (False)))
def f_L_greatestIncomeBySums (a1 : Int32) (I : IT) (L : LT) (K : Int32 → IT → LT → Prop) : Prop :=
  f_X8_greatestIncomeBySums a1 I (fun x1 =>
  vf_n64 (FP.f2d x1) ∧ (
  wrD L (FP.f2d x1) fun L3 =>
  K (nI 0) I L3)) (fun E => if E = "java/lang/IllegalArgumentException" then (K (nI 1) I L) else (if E = "java/util/NoSuchElementException" then (K (nI 2) I L) else (False)))
def f_L_meanTemperature (I : IT) (L : LT) (K : Int32 → IT → LT → Prop) : Prop :=
  f_X8_meanTemperature I (fun x1 =>
  wrD L x1 fun L2 =>
  K (nI 0) I L2) (fun E => if E = "java/lang/ArithmeticException" then (K (nI 1) I L) else (False))
def f_L_lostShare (I : IT) (L : LT) (K : Int32 → IT → LT → Prop) : Prop :=
  f_X8_lostShare I (fun x1 =>
  vf_n64 (FP.f2d x1) ∧ (
  wrD L (FP.f2d x1) fun L3 =>
  K (nI 0) I L3)) (fun E => if E = "java/lang/ArithmeticException" then (K (nI 1) I L) else (False))
def f_L_formatKettle (a1 : Int32) (I : IT) (L : LT) (K : Int32 → IT → LT → Prop) : Prop :=
  f_X8_formatKettle a1 I (fun x1 I2 =>
  wrL L (x1.toInt64) fun L3 =>
  K (nI 0) I2 L3) (fun E I9_ => if E = "java/lang/IndexOutOfBoundsException" then (K (nI 1) I9_ L) else (False))
def f_L_formatOrder (a1 : Int32) (I : IT) (L : LT) (K : Int32 → IT → LT → Prop) : Prop :=
  f_X8_formatOrder a1 I (fun x1 I2 =>
  wrL L (x1.toInt64) fun L3 =>
  K (nI 0) I2 L3) (fun E I9_ => if E = "java/util/NoSuchElementException" then (K (nI 1) I9_ L) else (False))
def f_L_lineChar (a1 : Int32) (I : IT) (L : LT) (K : Int32 → IT → LT → Prop) : Prop :=
  f_X8_lineChar a1 I (fun x1 =>
  wrL L (x1.toInt64) fun L2 =>
  K (nI 0) I L2) (fun E => if E = "java/lang/IndexOutOfBoundsException" then (K (nI 1) I L) else (False))
def f_L_append (a1 : Int32) (I : IT) (L : LT) (K : Int32 → IT → LT → Prop) : Prop :=
  f_X8_append a1 I (fun x1 I2 =>
  wrL L (x1.toInt64) fun L3 =>
  K (nI 0) I2 L3) (fun E I9_ => if E = "java/lang/IllegalArgumentException" then (K (nI 1) I9_ L) else (if E = "java/lang/IllegalStateException" then (K (nI 2) I9_ L) else (False)))
def f_L_run (I : IT) (L : LT) (K : Int32 → IT → LT → Prop) : Prop :=
  f_X8_run I (fun x1 I2 =>
  wrL L (x1.toInt64) fun L3 =>
  K (nI 0) I2 L3) (fun E I9_ => if E = "java/lang/IllegalArgumentException" then (K (nI 1) I9_ L) else (if E = "java/lang/IllegalStateException" then (K (nI 2) I9_ L) else (False)))
def f_L_errorPosition (I : IT) (L : LT) (K : Int32 → IT → LT → Prop) : Prop :=
  f_X8_errorPosition I (fun x1 =>
  wrL L (x1.toInt64) fun L2 =>
  K (nI 0) I L2) (fun E => if E = "java/util/NoSuchElementException" then (K (nI 1) I L) else (False))
def f_L_failedCommand (I : IT) (L : LT) (K : Int32 → IT → LT → Prop) : Prop :=
  f_X8_failedCommand I (fun x1 =>
  wrL L (x1.toInt64) fun L2 =>
  K (nI 0) I L2) (fun E => if E = "java/util/NoSuchElementException" then (K (nI 1) I L) else (False))
def f_L_undo (I : IT) (L : LT) (K : Int32 → IT → LT → Prop) : Prop :=
  f_X8_undo I (fun x1 I2 =>
  wrL L (x1.toInt64) fun L3 =>
  K (nI 0) I2 L3) (fun E I9_ => if E = "java/lang/IllegalStateException" then (K (nI 1) I9_ L) else (False))
def f_L_restore (I : IT) (L : LT) (K : Int32 → IT → LT → Prop) : Prop :=
  f_X8_restore I (fun x1 I2 =>
  wrL L (x1.toInt64) fun L3 =>
  K (nI 0) I2 L3) (fun E I9_ => if E = "java/lang/IllegalStateException" then (K (nI 1) I9_ L) else (False))
def f_L_law_b3520 (xs : Nat → Int32) (nn : Nat) (X28 : Int32 → IT → LT → Prop) (K : Int32 → IT → LT → Prop) (v5 : Int32) (I : IT) (L : LT) : Prop :=
  bnd (v5 + nI 5) fun x1 =>
  X28 x1 I L
def f_L_law_b316 (xs : Nat → Int32) (nn : Nat) (X28 : Int32 → IT → LT → Prop) (K : Int32 → IT → LT → Prop) (v5 : Int32) (I : IT) (L : LT) : Prop :=
  inr (v5 + (nI 1)) nn ∧ (
  f_L_addKettle (xs (ix (v5 + (nI 1)))) I L (fun x2 I3 L4 =>
  f_X9_addKettle (xs (ix (v5 + (nI 1)))) I3 (fun x5 I6 =>
  f_X9_thrown I6 (fun x7 =>
  if x7 = x2 then (
    if x2 = 0 then (
      if (lg_cmp (L4.1 195 0) (x5.toInt64)) = 0 then (
        f_L_law_b3520 xs nn X28 K v5 I6 L4)
      else (
        K (nI 0) I6 L4))
    else (
      f_L_law_b3520 xs nn X28 K v5 I6 L4))
  else (
    K (nI 0) I6 L4)))))
def f_L_law_b372 (xs : Nat → Int32) (nn : Nat) (X28 : Int32 → IT → LT → Prop) (K : Int32 → IT → LT → Prop) (v5 : Int32) (I : IT) (L : LT) : Prop :=
  inr (v5 + (nI 1)) nn ∧ (
  inr (v5 + (nI 2)) nn ∧ (
  f_L_fill (xs (ix (v5 + (nI 1)))) (xs (ix (v5 + (nI 2)))) I L (fun x3 I4 L5 =>
  f_X9_fill (xs (ix (v5 + (nI 1)))) (xs (ix (v5 + (nI 2)))) I4 (fun x6 I7 =>
  f_X9_thrown I7 (fun x8 =>
  if x8 = x3 then (
    if x3 = 0 then (
      vf_n64 (FP.f2d x6) ∧ (
      if (Op.cmpValue (FP.dcmp (L5.2 196 0) (FP.f2d x6)) .l) = 0 then (
        f_L_law_b3520 xs nn X28 K v5 I7 L5)
      else (
        if (Op.cmpValue (FP.dcmp (L5.2 196 0) (L5.2 196 0)) .l) = 0 then (
          K (nI 0) I7 L5)
        else (
          if (Op.cmpValue (FP.fcmp x6 x6) .l) = 0 then (
            K (nI 0) I7 L5)
          else (
            f_L_law_b3520 xs nn X28 K v5 I7 L5)))))
    else (
      f_L_law_b3520 xs nn X28 K v5 I7 L5))
  else (
    K (nI 0) I7 L5))))))
def f_L_law_b462 (xs : Nat → Int32) (nn : Nat) (X28 : Int32 → IT → LT → Prop) (K : Int32 → IT → LT → Prop) (v5 : Int32) (I : IT) (L : LT) : Prop :=
  inr (v5 + (nI 1)) nn ∧ (
  inr (v5 + (nI 2)) nn ∧ (
  f_L_setBurner (xs (ix (v5 + (nI 1)))) (xs (ix (v5 + (nI 2)))) I L (fun x3 I4 L5 =>
  f_X9_setBurner (xs (ix (v5 + (nI 1)))) (xs (ix (v5 + (nI 2)))) I4 (fun x6 I7 =>
  f_X9_thrown I7 (fun x8 =>
  if x8 = x3 then (
    if x3 = 0 then (
      if (lg_cmp (L5.1 195 0) (x6.toInt64)) = 0 then (
        f_L_law_b3520 xs nn X28 K v5 I7 L5)
      else (
        K (nI 0) I7 L5))
    else (
      f_L_law_b3520 xs nn X28 K v5 I7 L5))
  else (
    K (nI 0) I7 L5))))))
def f_L_law_b530 (xs : Nat → Int32) (nn : Nat) (X28 : Int32 → IT → LT → Prop) (K : Int32 → IT → LT → Prop) (v5 : Int32) (I : IT) (L : LT) : Prop :=
  inr (v5 + (nI 1)) nn ∧ (
  inr (v5 + (nI 2)) nn ∧ (
  inr (v5 + (nI 3)) nn ∧ (
  inr (v5 + (nI 4)) nn ∧ (
  f_L_order (xs (ix (v5 + (nI 1)))) (xs (ix (v5 + (nI 2)))) (xs (ix (v5 + (nI 3)))) (xs (ix (v5 + (nI 4)))) I L (fun x5 I6 L7 =>
  f_X9_order (xs (ix (v5 + (nI 1)))) (xs (ix (v5 + (nI 2)))) (xs (ix (v5 + (nI 3)))) (xs (ix (v5 + (nI 4)))) I6 (fun x8 I9 =>
  f_X9_thrown I9 (fun x10 =>
  if x10 = x5 then (
    if x5 = 0 then (
      if (lg_cmp (L7.1 195 0) (x8.toInt64)) = 0 then (
        f_L_law_b3520 xs nn X28 K v5 I9 L7)
      else (
        K (nI 0) I9 L7))
    else (
      f_L_law_b3520 xs nn X28 K v5 I9 L7))
  else (
    K (nI 0) I9 L7))))))))
def f_L_law_b622 (xs : Nat → Int32) (nn : Nat) (X28 : Int32 → IT → LT → Prop) (K : Int32 → IT → LT → Prop) (v5 : Int32) (I : IT) (L : LT) : Prop :=
  inr (v5 + (nI 1)) nn ∧ (
  f_L_cancel (xs (ix (v5 + (nI 1)))) I L (fun x2 I3 L4 =>
  f_X9_cancel (xs (ix (v5 + (nI 1)))) I3 (fun x5 I6 =>
  f_X9_thrown I6 (fun x7 =>
  if x7 = x2 then (
    if x2 = 0 then (
      if (lg_cmp (L4.1 195 0) (x5.toInt64)) = 0 then (
        f_L_law_b3520 xs nn X28 K v5 I6 L4)
      else (
        K (nI 0) I6 L4))
    else (
      f_L_law_b3520 xs nn X28 K v5 I6 L4))
  else (
    K (nI 0) I6 L4)))))
def f_L_law_b678 (xs : Nat → Int32) (nn : Nat) (X28 : Int32 → IT → LT → Prop) (K : Int32 → IT → LT → Prop) (v5 : Int32) (I : IT) (L : LT) : Prop :=
  f_L_serveNext I L (fun x1 I2 L3 =>
  f_X9_serveNext I2 (fun x4 I5 =>
  f_X9_thrown I5 (fun x6 =>
  if x6 = x1 then (
    if x1 = 0 then (
      if (lg_cmp (L3.1 195 0) (x4.toInt64)) = 0 then (
        f_L_law_b3520 xs nn X28 K v5 I5 L3)
      else (
        K (nI 0) I5 L3))
    else (
      f_L_law_b3520 xs nn X28 K v5 I5 L3))
  else (
    K (nI 0) I5 L3))))
def f_L_law_b722 (xs : Nat → Int32) (nn : Nat) (X28 : Int32 → IT → LT → Prop) (K : Int32 → IT → LT → Prop) (v5 : Int32) (I : IT) (L : LT) : Prop :=
  inr (v5 + (nI 1)) nn ∧ (
  f_L_wash (xs (ix (v5 + (nI 1)))) I L (fun x2 I3 L4 =>
  f_X9_wash (xs (ix (v5 + (nI 1)))) I3 (fun x5 I6 =>
  f_X9_thrown I6 (fun x7 =>
  if x7 = x2 then (
    if x2 = 0 then (
      if (lg_cmp (L4.1 195 0) (x5.toInt64)) = 0 then (
        f_L_law_b3520 xs nn X28 K v5 I6 L4)
      else (
        K (nI 0) I6 L4))
    else (
      f_L_law_b3520 xs nn X28 K v5 I6 L4))
  else (
    K (nI 0) I6 L4)))))
def f_L_law_b778 (xs : Nat → Int32) (nn : Nat) (X28 : Int32 → IT → LT → Prop) (K : Int32 → IT → LT → Prop) (v5 : Int32) (I : IT) (L : LT) : Prop :=
  inr (v5 + (nI 1)) nn ∧ (
  f_L_sellSteam (xs (ix (v5 + (nI 1)))) I L (fun x2 I3 L4 =>
  f_X9_sellSteam (xs (ix (v5 + (nI 1)))) I3 (fun x5 I6 =>
  f_X9_thrown I6 (fun x7 =>
  if x7 = x2 then (
    if x2 = 0 then (
      vf_n64 (FP.f2d x5) ∧ (
      if (Op.cmpValue (FP.dcmp (L4.2 196 0) (FP.f2d x5)) .l) = 0 then (
        f_L_law_b3520 xs nn X28 K v5 I6 L4)
      else (
        if (Op.cmpValue (FP.dcmp (L4.2 196 0) (L4.2 196 0)) .l) = 0 then (
          K (nI 0) I6 L4)
        else (
          if (Op.cmpValue (FP.fcmp x5 x5) .l) = 0 then (
            K (nI 0) I6 L4)
          else (
            f_L_law_b3520 xs nn X28 K v5 I6 L4)))))
    else (
      f_L_law_b3520 xs nn X28 K v5 I6 L4))
  else (
    K (nI 0) I6 L4)))))
def f_L_law_b856 (xs : Nat → Int32) (nn : Nat) (X28 : Int32 → IT → LT → Prop) (K : Int32 → IT → LT → Prop) (v5 : Int32) (I : IT) (L : LT) : Prop :=
  inr (v5 + (nI 1)) nn ∧ (
  f_L_setCupPrice (xs (ix (v5 + (nI 1)))) I L (fun x2 I3 L4 =>
  f_X9_setCupPrice (xs (ix (v5 + (nI 1)))) I3 (fun x5 I6 =>
  f_X9_thrown I6 (fun x7 =>
  if x7 = x2 then (
    if x2 = 0 then (
      vf_n64 (FP.f2d x5) ∧ (
      if (Op.cmpValue (FP.dcmp (L4.2 196 0) (FP.f2d x5)) .l) = 0 then (
        f_L_law_b3520 xs nn X28 K v5 I6 L4)
      else (
        if (Op.cmpValue (FP.dcmp (L4.2 196 0) (L4.2 196 0)) .l) = 0 then (
          K (nI 0) I6 L4)
        else (
          if (Op.cmpValue (FP.fcmp x5 x5) .l) = 0 then (
            K (nI 0) I6 L4)
          else (
            f_L_law_b3520 xs nn X28 K v5 I6 L4)))))
    else (
      f_L_law_b3520 xs nn X28 K v5 I6 L4))
  else (
    K (nI 0) I6 L4)))))
def f_L_law_b934 (xs : Nat → Int32) (nn : Nat) (X28 : Int32 → IT → LT → Prop) (K : Int32 → IT → LT → Prop) (v5 : Int32) (I : IT) (L : LT) : Prop :=
  inr (v5 + (nI 1)) nn ∧ (
  f_L_setSteamPrice (xs (ix (v5 + (nI 1)))) I L (fun x2 I3 L4 =>
  f_X9_setSteamPrice (xs (ix (v5 + (nI 1)))) I3 (fun x5 I6 =>
  f_X9_thrown I6 (fun x7 =>
  if x7 = x2 then (
    if x2 = 0 then (
      vf_n64 (FP.f2d x5) ∧ (
      if (Op.cmpValue (FP.dcmp (L4.2 196 0) (FP.f2d x5)) .l) = 0 then (
        f_L_law_b3520 xs nn X28 K v5 I6 L4)
      else (
        if (Op.cmpValue (FP.dcmp (L4.2 196 0) (L4.2 196 0)) .l) = 0 then (
          K (nI 0) I6 L4)
        else (
          if (Op.cmpValue (FP.fcmp x5 x5) .l) = 0 then (
            K (nI 0) I6 L4)
          else (
            f_L_law_b3520 xs nn X28 K v5 I6 L4)))))
    else (
      f_L_law_b3520 xs nn X28 K v5 I6 L4))
  else (
    K (nI 0) I6 L4)))))
def f_L_law_b1045 (xs : Nat → Int32) (nn : Nat) (X28 : Int32 → IT → LT → Prop) (K : Int32 → IT → LT → Prop) (v5 : Int32) (s0 : Int32) (s2 : Int32) (I : IT) (L : LT) : Prop :=
  f_X9_setAttendant s2 I (fun x1 I2 =>
  if s0 = x1 then (
    f_L_law_b3520 xs nn X28 K v5 I2 L)
  else (
    K (nI 0) I2 L))
def f_L_law_b1027 (xs : Nat → Int32) (nn : Nat) (X28 : Int32 → IT → LT → Prop) (K : Int32 → IT → LT → Prop) (v5 : Int32) (s1 : Int32) (I : IT) (L : LT) : Prop :=
  f_X8_setAttendant s1 I (fun x1 I2 =>
  inr (v5 + (nI 1)) nn ∧ (
  if (xs (ix (v5 + (nI 1)))) = 0 then (
    f_L_law_b1045 xs nn X28 K v5 x1 (nI 0) I2 L)
  else (
    f_L_law_b1045 xs nn X28 K v5 x1 (nI 1) I2 L))) (fun E I9_ => False)
def f_L_law_b1012 (xs : Nat → Int32) (nn : Nat) (X28 : Int32 → IT → LT → Prop) (K : Int32 → IT → LT → Prop) (v5 : Int32) (I : IT) (L : LT) : Prop :=
  inr (v5 + (nI 1)) nn ∧ (
  if (xs (ix (v5 + (nI 1)))) = 0 then (
    f_L_law_b1027 xs nn X28 K v5 (nI 0) I L)
  else (
    f_L_law_b1027 xs nn X28 K v5 (nI 1) I L))
def f_L_law_b1053 (xs : Nat → Int32) (nn : Nat) (X28 : Int32 → IT → LT → Prop) (K : Int32 → IT → LT → Prop) (v5 : Int32) (I : IT) (L : LT) : Prop :=
  inr (v5 + (nI 1)) nn ∧ (
  f_L_pass (xs (ix (v5 + (nI 1)))) I L (fun x2 I3 L4 =>
  f_X9_pass (xs (ix (v5 + (nI 1)))) I3 (fun x5 I6 =>
  f_X9_thrown I6 (fun x7 =>
  if x7 = x2 then (
    if x2 = 0 then (
      if (lg_cmp (L4.1 195 0) (x5.toInt64)) = 0 then (
        f_L_law_b3520 xs nn X28 K v5 I6 L4)
      else (
        K (nI 0) I6 L4))
    else (
      f_L_law_b3520 xs nn X28 K v5 I6 L4))
  else (
    K (nI 0) I6 L4)))))
def f_L_law_b1109 (xs : Nat → Int32) (nn : Nat) (X28 : Int32 → IT → LT → Prop) (K : Int32 → IT → LT → Prop) (v5 : Int32) (I : IT) (L : LT) : Prop :=
  f_L_closeNight I L (fun x1 I2 L3 =>
  f_X9_closeNight I2 (fun x4 I5 =>
  f_X9_thrown I5 (fun x6 =>
  if x6 = x1 then (
    if x1 = 0 then (
      vf_n64 (FP.f2d x4) ∧ (
      if (Op.cmpValue (FP.dcmp (L3.2 196 0) (FP.f2d x4)) .l) = 0 then (
        f_L_law_b3520 xs nn X28 K v5 I5 L3)
      else (
        if (Op.cmpValue (FP.dcmp (L3.2 196 0) (L3.2 196 0)) .l) = 0 then (
          K (nI 0) I5 L3)
        else (
          if (Op.cmpValue (FP.fcmp x4 x4) .l) = 0 then (
            K (nI 0) I5 L3)
          else (
            f_L_law_b3520 xs nn X28 K v5 I5 L3)))))
    else (
      f_L_law_b3520 xs nn X28 K v5 I5 L3))
  else (
    K (nI 0) I5 L3))))
def f_L_law_b1175 (xs : Nat → Int32) (nn : Nat) (X28 : Int32 → IT → LT → Prop) (K : Int32 → IT → LT → Prop) (v5 : Int32) (I : IT) (L : LT) : Prop :=
  f_X8_kettleCount I (fun x1 =>
  f_X9_kettleCount I (fun x2 I3 =>
  if x1 = x2 then (
    f_L_law_b3520 xs nn X28 K v5 I3 L)
  else (
    K (nI 0) I3 L)))
def f_L_law_b1188 (xs : Nat → Int32) (nn : Nat) (X28 : Int32 → IT → LT → Prop) (K : Int32 → IT → LT → Prop) (v5 : Int32) (I : IT) (L : LT) : Prop :=
  inr (v5 + (nI 1)) nn ∧ (
  f_L_capacity (xs (ix (v5 + (nI 1)))) I L (fun x2 I3 L4 =>
  f_X9_capacity (xs (ix (v5 + (nI 1)))) I3 (fun x5 I6 =>
  f_X9_thrown I6 (fun x7 =>
  if x7 = x2 then (
    if x2 = 0 then (
      vf_n64 (FP.f2d x5) ∧ (
      if (Op.cmpValue (FP.dcmp (L4.2 196 0) (FP.f2d x5)) .l) = 0 then (
        f_L_law_b3520 xs nn X28 K v5 I6 L4)
      else (
        if (Op.cmpValue (FP.dcmp (L4.2 196 0) (L4.2 196 0)) .l) = 0 then (
          K (nI 0) I6 L4)
        else (
          if (Op.cmpValue (FP.fcmp x5 x5) .l) = 0 then (
            K (nI 0) I6 L4)
          else (
            f_L_law_b3520 xs nn X28 K v5 I6 L4)))))
    else (
      f_L_law_b3520 xs nn X28 K v5 I6 L4))
  else (
    K (nI 0) I6 L4)))))
def f_L_law_b1266 (xs : Nat → Int32) (nn : Nat) (X28 : Int32 → IT → LT → Prop) (K : Int32 → IT → LT → Prop) (v5 : Int32) (I : IT) (L : LT) : Prop :=
  inr (v5 + (nI 1)) nn ∧ (
  f_L_volume (xs (ix (v5 + (nI 1)))) I L (fun x2 I3 L4 =>
  f_X9_volume (xs (ix (v5 + (nI 1)))) I3 (fun x5 I6 =>
  f_X9_thrown I6 (fun x7 =>
  if x7 = x2 then (
    if x2 = 0 then (
      vf_n64 (FP.f2d x5) ∧ (
      if (Op.cmpValue (FP.dcmp (L4.2 196 0) (FP.f2d x5)) .l) = 0 then (
        f_L_law_b3520 xs nn X28 K v5 I6 L4)
      else (
        if (Op.cmpValue (FP.dcmp (L4.2 196 0) (L4.2 196 0)) .l) = 0 then (
          K (nI 0) I6 L4)
        else (
          if (Op.cmpValue (FP.fcmp x5 x5) .l) = 0 then (
            K (nI 0) I6 L4)
          else (
            f_L_law_b3520 xs nn X28 K v5 I6 L4)))))
    else (
      f_L_law_b3520 xs nn X28 K v5 I6 L4))
  else (
    K (nI 0) I6 L4)))))
def f_L_law_b1344 (xs : Nat → Int32) (nn : Nat) (X28 : Int32 → IT → LT → Prop) (K : Int32 → IT → LT → Prop) (v5 : Int32) (I : IT) (L : LT) : Prop :=
  inr (v5 + (nI 1)) nn ∧ (
  f_L_temperature (xs (ix (v5 + (nI 1)))) I L (fun x2 I3 L4 =>
  f_X9_temperature (xs (ix (v5 + (nI 1)))) I3 (fun x5 I6 =>
  f_X9_thrown I6 (fun x7 =>
  if x7 = x2 then (
    if x2 = 0 then (
      vf_n64 (FP.f2d x5) ∧ (
      if (Op.cmpValue (FP.dcmp (L4.2 196 0) (FP.f2d x5)) .l) = 0 then (
        f_L_law_b3520 xs nn X28 K v5 I6 L4)
      else (
        if (Op.cmpValue (FP.dcmp (L4.2 196 0) (L4.2 196 0)) .l) = 0 then (
          K (nI 0) I6 L4)
        else (
          if (Op.cmpValue (FP.fcmp x5 x5) .l) = 0 then (
            K (nI 0) I6 L4)
          else (
            f_L_law_b3520 xs nn X28 K v5 I6 L4)))))
    else (
      f_L_law_b3520 xs nn X28 K v5 I6 L4))
  else (
    K (nI 0) I6 L4)))))
def f_L_law_b1422 (xs : Nat → Int32) (nn : Nat) (X28 : Int32 → IT → LT → Prop) (K : Int32 → IT → LT → Prop) (v5 : Int32) (I : IT) (L : LT) : Prop :=
  inr (v5 + (nI 1)) nn ∧ (
  f_L_temperatureBits (xs (ix (v5 + (nI 1)))) I L (fun x2 I3 L4 =>
  f_X9_temperatureBits (xs (ix (v5 + (nI 1)))) I3 (fun x5 I6 =>
  f_X9_thrown I6 (fun x7 =>
  if x7 = x2 then (
    if x2 = 0 then (
      if (lg_cmp (L4.1 195 0) (x5.toInt64)) = 0 then (
        f_L_law_b3520 xs nn X28 K v5 I6 L4)
      else (
        K (nI 0) I6 L4))
    else (
      f_L_law_b3520 xs nn X28 K v5 I6 L4))
  else (
    K (nI 0) I6 L4)))))
def f_L_law_b1478 (xs : Nat → Int32) (nn : Nat) (X28 : Int32 → IT → LT → Prop) (K : Int32 → IT → LT → Prop) (v5 : Int32) (I : IT) (L : LT) : Prop :=
  inr (v5 + (nI 1)) nn ∧ (
  f_L_burner (xs (ix (v5 + (nI 1)))) I L (fun x2 I3 L4 =>
  f_X9_burner (xs (ix (v5 + (nI 1)))) I3 (fun x5 I6 =>
  f_X9_thrown I6 (fun x7 =>
  if x7 = x2 then (
    if x2 = 0 then (
      if (lg_cmp (L4.1 195 0) (x5.toInt64)) = 0 then (
        f_L_law_b3520 xs nn X28 K v5 I6 L4)
      else (
        K (nI 0) I6 L4))
    else (
      f_L_law_b3520 xs nn X28 K v5 I6 L4))
  else (
    K (nI 0) I6 L4)))))
def f_L_law_b1588 (xs : Nat → Int32) (nn : Nat) (X28 : Int32 → IT → LT → Prop) (K : Int32 → IT → LT → Prop) (v5 : Int32) (s0 : Int64) (s1 : Int64) (I : IT) (L : LT) : Prop :=
  if (lg_cmp s0 s1) = 0 then (
    f_L_law_b3520 xs nn X28 K v5 I L)
  else (
    K (nI 0) I L)
def f_L_law_b1534 (xs : Nat → Int32) (nn : Nat) (X28 : Int32 → IT → LT → Prop) (K : Int32 → IT → LT → Prop) (v5 : Int32) (I : IT) (L : LT) : Prop :=
  inr (v5 + (nI 1)) nn ∧ (
  f_L_isBoiling (xs (ix (v5 + (nI 1)))) I L (fun x2 I3 L4 =>
  f_X9_isBoiling (xs (ix (v5 + (nI 1)))) I3 (fun x5 I6 =>
  f_X9_thrown I6 (fun x7 =>
  if x7 = x2 then (
    if x2 = 0 then (
      if x5 = 0 then (
        f_L_law_b1588 xs nn X28 K v5 (L4.1 195 0) (lN 0) I6 L4)
      else (
        f_L_law_b1588 xs nn X28 K v5 (L4.1 195 0) (lN 1) I6 L4))
    else (
      f_L_law_b3520 xs nn X28 K v5 I6 L4))
  else (
    K (nI 0) I6 L4)))))
def f_L_law_b1597 (xs : Nat → Int32) (nn : Nat) (X28 : Int32 → IT → LT → Prop) (K : Int32 → IT → LT → Prop) (v5 : Int32) (I : IT) (L : LT) : Prop :=
  inr (v5 + (nI 1)) nn ∧ (
  f_L_minutesUntilBoiling (xs (ix (v5 + (nI 1)))) I L (fun x2 I3 L4 =>
  f_X9_minutesUntilBoiling (xs (ix (v5 + (nI 1)))) I3 (fun x5 I6 =>
  f_X9_thrown I6 (fun x7 =>
  if x7 = x2 then (
    if x2 = 0 then (
      if (lg_cmp (L4.1 195 0) (x5.toInt64)) = 0 then (
        f_L_law_b3520 xs nn X28 K v5 I6 L4)
      else (
        K (nI 0) I6 L4))
    else (
      f_L_law_b3520 xs nn X28 K v5 I6 L4))
  else (
    K (nI 0) I6 L4)))))
def f_L_law_b1653 (xs : Nat → Int32) (nn : Nat) (X28 : Int32 → IT → LT → Prop) (K : Int32 → IT → LT → Prop) (v5 : Int32) (I : IT) (L : LT) : Prop :=
  inr (v5 + (nI 1)) nn ∧ (
  f_L_minutesUntilBoilingByMinutes (xs (ix (v5 + (nI 1)))) I L (fun x2 I3 L4 =>
  f_X9_minutesUntilBoilingByMinutes (xs (ix (v5 + (nI 1)))) I3 (fun x5 I6 =>
  f_X9_thrown I6 (fun x7 =>
  if x7 = x2 then (
    if x2 = 0 then (
      if (lg_cmp (L4.1 195 0) (x5.toInt64)) = 0 then (
        f_L_law_b3520 xs nn X28 K v5 I6 L4)
      else (
        K (nI 0) I6 L4))
    else (
      f_L_law_b3520 xs nn X28 K v5 I6 L4))
  else (
    K (nI 0) I6 L4)))))
def f_L_law_b1709 (xs : Nat → Int32) (nn : Nat) (X28 : Int32 → IT → LT → Prop) (K : Int32 → IT → LT → Prop) (v5 : Int32) (I : IT) (L : LT) : Prop :=
  inr (v5 + (nI 1)) nn ∧ (
  f_L_kettleByTemperature (xs (ix (v5 + (nI 1)))) I L (fun x2 I3 L4 =>
  f_X9_kettleByTemperature (xs (ix (v5 + (nI 1)))) I3 (fun x5 I6 =>
  f_X9_thrown I6 (fun x7 =>
  if x7 = x2 then (
    if x2 = 0 then (
      if (lg_cmp (L4.1 195 0) (x5.toInt64)) = 0 then (
        f_L_law_b3520 xs nn X28 K v5 I6 L4)
      else (
        K (nI 0) I6 L4))
    else (
      f_L_law_b3520 xs nn X28 K v5 I6 L4))
  else (
    K (nI 0) I6 L4)))))
def f_L_law_b1765 (xs : Nat → Int32) (nn : Nat) (X28 : Int32 → IT → LT → Prop) (K : Int32 → IT → LT → Prop) (v5 : Int32) (I : IT) (L : LT) : Prop :=
  f_X8_waitingCount I (fun x1 =>
  f_X9_waitingCount I (fun x2 I3 =>
  if x1 = x2 then (
    f_L_law_b3520 xs nn X28 K v5 I3 L)
  else (
    K (nI 0) I3 L)))
def f_L_law_b1778 (xs : Nat → Int32) (nn : Nat) (X28 : Int32 → IT → LT → Prop) (K : Int32 → IT → LT → Prop) (v5 : Int32) (I : IT) (L : LT) : Prop :=
  inr (v5 + (nI 1)) nn ∧ (
  f_L_orderAt (xs (ix (v5 + (nI 1)))) I L (fun x2 I3 L4 =>
  f_X9_orderAt (xs (ix (v5 + (nI 1)))) I3 (fun x5 I6 =>
  f_X9_thrown I6 (fun x7 =>
  if x7 = x2 then (
    if x2 = 0 then (
      if (lg_cmp (L4.1 195 0) (x5.toInt64)) = 0 then (
        f_L_law_b3520 xs nn X28 K v5 I6 L4)
      else (
        K (nI 0) I6 L4))
    else (
      f_L_law_b3520 xs nn X28 K v5 I6 L4))
  else (
    K (nI 0) I6 L4)))))
def f_L_law_b1834 (xs : Nat → Int32) (nn : Nat) (X28 : Int32 → IT → LT → Prop) (K : Int32 → IT → LT → Prop) (v5 : Int32) (I : IT) (L : LT) : Prop :=
  inr (v5 + (nI 1)) nn ∧ (
  f_L_positionOf (xs (ix (v5 + (nI 1)))) I L (fun x2 I3 L4 =>
  f_X9_positionOf (xs (ix (v5 + (nI 1)))) I3 (fun x5 I6 =>
  f_X9_thrown I6 (fun x7 =>
  if x7 = x2 then (
    if x2 = 0 then (
      if (lg_cmp (L4.1 195 0) (x5.toInt64)) = 0 then (
        f_L_law_b3520 xs nn X28 K v5 I6 L4)
      else (
        K (nI 0) I6 L4))
    else (
      f_L_law_b3520 xs nn X28 K v5 I6 L4))
  else (
    K (nI 0) I6 L4)))))
def f_L_law_b1890 (xs : Nat → Int32) (nn : Nat) (X28 : Int32 → IT → LT → Prop) (K : Int32 → IT → LT → Prop) (v5 : Int32) (I : IT) (L : LT) : Prop :=
  inr (v5 + (nI 1)) nn ∧ (
  f_L_cupsOf (xs (ix (v5 + (nI 1)))) I L (fun x2 I3 L4 =>
  f_X9_cupsOf (xs (ix (v5 + (nI 1)))) I3 (fun x5 I6 =>
  f_X9_thrown I6 (fun x7 =>
  if x7 = x2 then (
    if x2 = 0 then (
      if (lg_cmp (L4.1 195 0) (x5.toInt64)) = 0 then (
        f_L_law_b3520 xs nn X28 K v5 I6 L4)
      else (
        K (nI 0) I6 L4))
    else (
      f_L_law_b3520 xs nn X28 K v5 I6 L4))
  else (
    K (nI 0) I6 L4)))))
def f_L_law_b1946 (xs : Nat → Int32) (nn : Nat) (X28 : Int32 → IT → LT → Prop) (K : Int32 → IT → LT → Prop) (v5 : Int32) (I : IT) (L : LT) : Prop :=
  inr (v5 + (nI 1)) nn ∧ (
  f_L_priceOf (xs (ix (v5 + (nI 1)))) I L (fun x2 I3 L4 =>
  f_X9_priceOf (xs (ix (v5 + (nI 1)))) I3 (fun x5 I6 =>
  f_X9_thrown I6 (fun x7 =>
  if x7 = x2 then (
    if x2 = 0 then (
      vf_n64 (FP.f2d x5) ∧ (
      if (Op.cmpValue (FP.dcmp (L4.2 196 0) (FP.f2d x5)) .l) = 0 then (
        f_L_law_b3520 xs nn X28 K v5 I6 L4)
      else (
        if (Op.cmpValue (FP.dcmp (L4.2 196 0) (L4.2 196 0)) .l) = 0 then (
          K (nI 0) I6 L4)
        else (
          if (Op.cmpValue (FP.fcmp x5 x5) .l) = 0 then (
            K (nI 0) I6 L4)
          else (
            f_L_law_b3520 xs nn X28 K v5 I6 L4)))))
    else (
      f_L_law_b3520 xs nn X28 K v5 I6 L4))
  else (
    K (nI 0) I6 L4)))))
def f_L_law_b2024 (xs : Nat → Int32) (nn : Nat) (X28 : Int32 → IT → LT → Prop) (K : Int32 → IT → LT → Prop) (v5 : Int32) (I : IT) (L : LT) : Prop :=
  inr (v5 + (nI 1)) nn ∧ (
  f_L_kettleFor (xs (ix (v5 + (nI 1)))) I L (fun x2 I3 L4 =>
  f_X9_kettleFor (xs (ix (v5 + (nI 1)))) I3 (fun x5 I6 =>
  f_X9_thrown I6 (fun x7 =>
  if x7 = x2 then (
    if x2 = 0 then (
      if (lg_cmp (L4.1 195 0) (x5.toInt64)) = 0 then (
        f_L_law_b3520 xs nn X28 K v5 I6 L4)
      else (
        K (nI 0) I6 L4))
    else (
      f_L_law_b3520 xs nn X28 K v5 I6 L4))
  else (
    K (nI 0) I6 L4)))))
def f_L_law_b2080 (xs : Nat → Int32) (nn : Nat) (X28 : Int32 → IT → LT → Prop) (K : Int32 → IT → LT → Prop) (v5 : Int32) (I : IT) (L : LT) : Prop :=
  inr (v5 + (nI 1)) nn ∧ (
  f_L_minutesUntilSuitable (xs (ix (v5 + (nI 1)))) I L (fun x2 I3 L4 =>
  f_X9_minutesUntilSuitable (xs (ix (v5 + (nI 1)))) I3 (fun x5 I6 =>
  f_X9_thrown I6 (fun x7 =>
  if x7 = x2 then (
    if x2 = 0 then (
      if (lg_cmp (L4.1 195 0) (x5.toInt64)) = 0 then (
        f_L_law_b3520 xs nn X28 K v5 I6 L4)
      else (
        K (nI 0) I6 L4))
    else (
      f_L_law_b3520 xs nn X28 K v5 I6 L4))
  else (
    K (nI 0) I6 L4)))))
def f_L_law_b2136 (xs : Nat → Int32) (nn : Nat) (X28 : Int32 → IT → LT → Prop) (K : Int32 → IT → LT → Prop) (v5 : Int32) (I : IT) (L : LT) : Prop :=
  f_X8_canServe I (fun x1 =>
  f_X9_canServe I (fun x2 I3 =>
  if x1 = x2 then (
    f_L_law_b3520 xs nn X28 K v5 I3 L)
  else (
    K (nI 0) I3 L)))
def f_L_law_b2149 (xs : Nat → Int32) (nn : Nat) (X28 : Int32 → IT → LT → Prop) (K : Int32 → IT → LT → Prop) (v5 : Int32) (I : IT) (L : LT) : Prop :=
  f_X8_cleanCups I (fun x1 =>
  f_X9_cleanCups I (fun x2 I3 =>
  if x1 = x2 then (
    f_L_law_b3520 xs nn X28 K v5 I3 L)
  else (
    K (nI 0) I3 L)))
def f_L_law_b2162 (xs : Nat → Int32) (nn : Nat) (X28 : Int32 → IT → LT → Prop) (K : Int32 → IT → LT → Prop) (v5 : Int32) (I : IT) (L : LT) : Prop :=
  f_X8_steam I (fun x1 =>
  vf_n64 (FP.f2d x1) ∧ (
  f_X9_steam I (fun x3 I4 =>
  vf_n64 (FP.f2d x3) ∧ (
  if (Op.cmpValue (FP.dcmp (FP.f2d x1) (FP.f2d x3)) .l) = 0 then (
    f_L_law_b3520 xs nn X28 K v5 I4 L)
  else (
    if (Op.cmpValue (FP.dcmp (FP.f2d x1) (FP.f2d x1)) .l) = 0 then (
      K (nI 0) I4 L)
    else (
      if (Op.cmpValue (FP.dcmp (FP.f2d x3) (FP.f2d x3)) .l) = 0 then (
        K (nI 0) I4 L)
      else (
        f_L_law_b3520 xs nn X28 K v5 I4 L)))))))
def f_L_law_b2205 (xs : Nat → Int32) (nn : Nat) (X28 : Int32 → IT → LT → Prop) (K : Int32 → IT → LT → Prop) (v5 : Int32) (I : IT) (L : LT) : Prop :=
  f_X8_boiledTotal I (fun x1 =>
  vf_n64 (FP.f2d x1) ∧ (
  f_X9_boiledTotal I (fun x3 I4 =>
  vf_n64 (FP.f2d x3) ∧ (
  if (Op.cmpValue (FP.dcmp (FP.f2d x1) (FP.f2d x3)) .l) = 0 then (
    f_L_law_b3520 xs nn X28 K v5 I4 L)
  else (
    if (Op.cmpValue (FP.dcmp (FP.f2d x1) (FP.f2d x1)) .l) = 0 then (
      K (nI 0) I4 L)
    else (
      if (Op.cmpValue (FP.dcmp (FP.f2d x3) (FP.f2d x3)) .l) = 0 then (
        K (nI 0) I4 L)
      else (
        f_L_law_b3520 xs nn X28 K v5 I4 L)))))))
def f_L_law_b2248 (xs : Nat → Int32) (nn : Nat) (X28 : Int32 → IT → LT → Prop) (K : Int32 → IT → LT → Prop) (v5 : Int32) (I : IT) (L : LT) : Prop :=
  f_X8_pouredTotal I (fun x1 =>
  vf_n64 (FP.f2d x1) ∧ (
  f_X9_pouredTotal I (fun x3 I4 =>
  vf_n64 (FP.f2d x3) ∧ (
  if (Op.cmpValue (FP.dcmp (FP.f2d x1) (FP.f2d x3)) .l) = 0 then (
    f_L_law_b3520 xs nn X28 K v5 I4 L)
  else (
    if (Op.cmpValue (FP.dcmp (FP.f2d x1) (FP.f2d x1)) .l) = 0 then (
      K (nI 0) I4 L)
    else (
      if (Op.cmpValue (FP.dcmp (FP.f2d x3) (FP.f2d x3)) .l) = 0 then (
        K (nI 0) I4 L)
      else (
        f_L_law_b3520 xs nn X28 K v5 I4 L)))))))
def f_L_law_b2291 (xs : Nat → Int32) (nn : Nat) (X28 : Int32 → IT → LT → Prop) (K : Int32 → IT → LT → Prop) (v5 : Int32) (I : IT) (L : LT) : Prop :=
  f_X8_filledTotal I (fun x1 =>
  vf_n64 (FP.f2d x1) ∧ (
  f_X9_filledTotal I (fun x3 I4 =>
  vf_n64 (FP.f2d x3) ∧ (
  if (Op.cmpValue (FP.dcmp (FP.f2d x1) (FP.f2d x3)) .l) = 0 then (
    f_L_law_b3520 xs nn X28 K v5 I4 L)
  else (
    if (Op.cmpValue (FP.dcmp (FP.f2d x1) (FP.f2d x1)) .l) = 0 then (
      K (nI 0) I4 L)
    else (
      if (Op.cmpValue (FP.dcmp (FP.f2d x3) (FP.f2d x3)) .l) = 0 then (
        K (nI 0) I4 L)
      else (
        f_L_law_b3520 xs nn X28 K v5 I4 L)))))))
def f_L_law_b2334 (xs : Nat → Int32) (nn : Nat) (X28 : Int32 → IT → LT → Prop) (K : Int32 → IT → LT → Prop) (v5 : Int32) (I : IT) (L : LT) : Prop :=
  f_X8_cupPrice I (fun x1 =>
  vf_n64 (FP.f2d x1) ∧ (
  f_X9_cupPrice I (fun x3 I4 =>
  vf_n64 (FP.f2d x3) ∧ (
  if (Op.cmpValue (FP.dcmp (FP.f2d x1) (FP.f2d x3)) .l) = 0 then (
    f_L_law_b3520 xs nn X28 K v5 I4 L)
  else (
    if (Op.cmpValue (FP.dcmp (FP.f2d x1) (FP.f2d x1)) .l) = 0 then (
      K (nI 0) I4 L)
    else (
      if (Op.cmpValue (FP.dcmp (FP.f2d x3) (FP.f2d x3)) .l) = 0 then (
        K (nI 0) I4 L)
      else (
        f_L_law_b3520 xs nn X28 K v5 I4 L)))))))
def f_L_law_b2377 (xs : Nat → Int32) (nn : Nat) (X28 : Int32 → IT → LT → Prop) (K : Int32 → IT → LT → Prop) (v5 : Int32) (I : IT) (L : LT) : Prop :=
  f_X8_steamPrice I (fun x1 =>
  vf_n64 (FP.f2d x1) ∧ (
  f_X9_steamPrice I (fun x3 I4 =>
  vf_n64 (FP.f2d x3) ∧ (
  if (Op.cmpValue (FP.dcmp (FP.f2d x1) (FP.f2d x3)) .l) = 0 then (
    f_L_law_b3520 xs nn X28 K v5 I4 L)
  else (
    if (Op.cmpValue (FP.dcmp (FP.f2d x1) (FP.f2d x1)) .l) = 0 then (
      K (nI 0) I4 L)
    else (
      if (Op.cmpValue (FP.dcmp (FP.f2d x3) (FP.f2d x3)) .l) = 0 then (
        K (nI 0) I4 L)
      else (
        f_L_law_b3520 xs nn X28 K v5 I4 L)))))))
def f_L_law_b2420 (xs : Nat → Int32) (nn : Nat) (X28 : Int32 → IT → LT → Prop) (K : Int32 → IT → LT → Prop) (v5 : Int32) (I : IT) (L : LT) : Prop :=
  f_X8_income I (fun x1 =>
  vf_n64 (FP.f2d x1) ∧ (
  f_X9_income I (fun x3 I4 =>
  vf_n64 (FP.f2d x3) ∧ (
  if (Op.cmpValue (FP.dcmp (FP.f2d x1) (FP.f2d x3)) .l) = 0 then (
    f_L_law_b3520 xs nn X28 K v5 I4 L)
  else (
    if (Op.cmpValue (FP.dcmp (FP.f2d x1) (FP.f2d x1)) .l) = 0 then (
      K (nI 0) I4 L)
    else (
      if (Op.cmpValue (FP.dcmp (FP.f2d x3) (FP.f2d x3)) .l) = 0 then (
        K (nI 0) I4 L)
      else (
        f_L_law_b3520 xs nn X28 K v5 I4 L)))))))
def f_L_law_b2463 (xs : Nat → Int32) (nn : Nat) (X28 : Int32 → IT → LT → Prop) (K : Int32 → IT → LT → Prop) (v5 : Int32) (I : IT) (L : LT) : Prop :=
  f_X8_nightCount I (fun x1 =>
  f_X9_nightCount I (fun x2 I3 =>
  if x1 = x2 then (
    f_L_law_b3520 xs nn X28 K v5 I3 L)
  else (
    K (nI 0) I3 L)))
def f_L_law_b2476 (xs : Nat → Int32) (nn : Nat) (X28 : Int32 → IT → LT → Prop) (K : Int32 → IT → LT → Prop) (v5 : Int32) (I : IT) (L : LT) : Prop :=
  inr (v5 + (nI 1)) nn ∧ (
  f_L_nightIncome (xs (ix (v5 + (nI 1)))) I L (fun x2 I3 L4 =>
  f_X9_nightIncome (xs (ix (v5 + (nI 1)))) I3 (fun x5 I6 =>
  f_X9_thrown I6 (fun x7 =>
  if x7 = x2 then (
    if x2 = 0 then (
      vf_n64 (FP.f2d x5) ∧ (
      if (Op.cmpValue (FP.dcmp (L4.2 196 0) (FP.f2d x5)) .l) = 0 then (
        f_L_law_b3520 xs nn X28 K v5 I6 L4)
      else (
        if (Op.cmpValue (FP.dcmp (L4.2 196 0) (L4.2 196 0)) .l) = 0 then (
          K (nI 0) I6 L4)
        else (
          if (Op.cmpValue (FP.fcmp x5 x5) .l) = 0 then (
            K (nI 0) I6 L4)
          else (
            f_L_law_b3520 xs nn X28 K v5 I6 L4)))))
    else (
      f_L_law_b3520 xs nn X28 K v5 I6 L4))
  else (
    K (nI 0) I6 L4)))))
def f_L_law_b2554 (xs : Nat → Int32) (nn : Nat) (X28 : Int32 → IT → LT → Prop) (K : Int32 → IT → LT → Prop) (v5 : Int32) (I : IT) (L : LT) : Prop :=
  inr (v5 + (nI 1)) nn ∧ (
  f_L_nightByIncome (xs (ix (v5 + (nI 1)))) I L (fun x2 I3 L4 =>
  f_X9_nightByIncome (xs (ix (v5 + (nI 1)))) I3 (fun x5 I6 =>
  f_X9_thrown I6 (fun x7 =>
  if x7 = x2 then (
    if x2 = 0 then (
      if (lg_cmp (L4.1 195 0) (x5.toInt64)) = 0 then (
        f_L_law_b3520 xs nn X28 K v5 I6 L4)
      else (
        K (nI 0) I6 L4))
    else (
      f_L_law_b3520 xs nn X28 K v5 I6 L4))
  else (
    K (nI 0) I6 L4)))))
def f_L_law_b2610 (xs : Nat → Int32) (nn : Nat) (X28 : Int32 → IT → LT → Prop) (K : Int32 → IT → LT → Prop) (v5 : Int32) (I : IT) (L : LT) : Prop :=
  inr (v5 + (nI 1)) nn ∧ (
  f_L_greatestIncome (xs (ix (v5 + (nI 1)))) I L (fun x2 I3 L4 =>
  f_X9_greatestIncome (xs (ix (v5 + (nI 1)))) I3 (fun x5 I6 =>
  f_X9_thrown I6 (fun x7 =>
  if x7 = x2 then (
    if x2 = 0 then (
      vf_n64 (FP.f2d x5) ∧ (
      if (Op.cmpValue (FP.dcmp (L4.2 196 0) (FP.f2d x5)) .l) = 0 then (
        f_L_law_b3520 xs nn X28 K v5 I6 L4)
      else (
        if (Op.cmpValue (FP.dcmp (L4.2 196 0) (L4.2 196 0)) .l) = 0 then (
          K (nI 0) I6 L4)
        else (
          if (Op.cmpValue (FP.fcmp x5 x5) .l) = 0 then (
            K (nI 0) I6 L4)
          else (
            f_L_law_b3520 xs nn X28 K v5 I6 L4)))))
    else (
      f_L_law_b3520 xs nn X28 K v5 I6 L4))
  else (
    K (nI 0) I6 L4)))))
def f_L_law_b2688 (xs : Nat → Int32) (nn : Nat) (X28 : Int32 → IT → LT → Prop) (K : Int32 → IT → LT → Prop) (v5 : Int32) (I : IT) (L : LT) : Prop :=
  inr (v5 + (nI 1)) nn ∧ (
  f_L_greatestIncomeBySums (xs (ix (v5 + (nI 1)))) I L (fun x2 I3 L4 =>
  f_X9_greatestIncomeBySums (xs (ix (v5 + (nI 1)))) I3 (fun x5 I6 =>
  f_X9_thrown I6 (fun x7 =>
  if x7 = x2 then (
    if x2 = 0 then (
      vf_n64 (FP.f2d x5) ∧ (
      if (Op.cmpValue (FP.dcmp (L4.2 196 0) (FP.f2d x5)) .l) = 0 then (
        f_L_law_b3520 xs nn X28 K v5 I6 L4)
      else (
        if (Op.cmpValue (FP.dcmp (L4.2 196 0) (L4.2 196 0)) .l) = 0 then (
          K (nI 0) I6 L4)
        else (
          if (Op.cmpValue (FP.fcmp x5 x5) .l) = 0 then (
            K (nI 0) I6 L4)
          else (
            f_L_law_b3520 xs nn X28 K v5 I6 L4)))))
    else (
      f_L_law_b3520 xs nn X28 K v5 I6 L4))
  else (
    K (nI 0) I6 L4)))))
def f_L_law_b2766 (xs : Nat → Int32) (nn : Nat) (X28 : Int32 → IT → LT → Prop) (K : Int32 → IT → LT → Prop) (v5 : Int32) (I : IT) (L : LT) : Prop :=
  f_X8_totalIncome I (fun x1 =>
  vf_n64 (FP.f2d x1) ∧ (
  f_X9_totalIncome I (fun x3 I4 =>
  vf_n64 (FP.f2d x3) ∧ (
  if (Op.cmpValue (FP.dcmp (FP.f2d x1) (FP.f2d x3)) .l) = 0 then (
    f_L_law_b3520 xs nn X28 K v5 I4 L)
  else (
    if (Op.cmpValue (FP.dcmp (FP.f2d x1) (FP.f2d x1)) .l) = 0 then (
      K (nI 0) I4 L)
    else (
      if (Op.cmpValue (FP.dcmp (FP.f2d x3) (FP.f2d x3)) .l) = 0 then (
        K (nI 0) I4 L)
      else (
        f_L_law_b3520 xs nn X28 K v5 I4 L)))))))
def f_L_law_b2809 (xs : Nat → Int32) (nn : Nat) (X28 : Int32 → IT → LT → Prop) (K : Int32 → IT → LT → Prop) (v5 : Int32) (I : IT) (L : LT) : Prop :=
  f_X8_totalIncomeBySales I (fun x1 =>
  vf_n64 (FP.f2d x1) ∧ (
  f_X9_totalIncomeBySales I (fun x3 I4 =>
  vf_n64 (FP.f2d x3) ∧ (
  if (Op.cmpValue (FP.dcmp (FP.f2d x1) (FP.f2d x3)) .l) = 0 then (
    f_L_law_b3520 xs nn X28 K v5 I4 L)
  else (
    if (Op.cmpValue (FP.dcmp (FP.f2d x1) (FP.f2d x1)) .l) = 0 then (
      K (nI 0) I4 L)
    else (
      if (Op.cmpValue (FP.dcmp (FP.f2d x3) (FP.f2d x3)) .l) = 0 then (
        K (nI 0) I4 L)
      else (
        f_L_law_b3520 xs nn X28 K v5 I4 L)))))))
def f_L_law_b2852 (xs : Nat → Int32) (nn : Nat) (X28 : Int32 → IT → LT → Prop) (K : Int32 → IT → LT → Prop) (v5 : Int32) (I : IT) (L : LT) : Prop :=
  f_X8_servedOrders I (fun x1 =>
  f_X9_servedOrders I (fun x2 I3 =>
  if x1 = x2 then (
    f_L_law_b3520 xs nn X28 K v5 I3 L)
  else (
    K (nI 0) I3 L)))
def f_L_law_b2865 (xs : Nat → Int32) (nn : Nat) (X28 : Int32 → IT → LT → Prop) (K : Int32 → IT → LT → Prop) (v5 : Int32) (I : IT) (L : LT) : Prop :=
  f_X8_whistlesHeard I (fun x1 =>
  f_X9_whistlesHeard I (fun x2 I3 =>
  if x1 = x2 then (
    f_L_law_b3520 xs nn X28 K v5 I3 L)
  else (
    K (nI 0) I3 L)))
def f_L_law_b2878 (xs : Nat → Int32) (nn : Nat) (X28 : Int32 → IT → LT → Prop) (K : Int32 → IT → LT → Prop) (v5 : Int32) (I : IT) (L : LT) : Prop :=
  f_X8_whistlesLost I (fun x1 =>
  f_X9_whistlesLost I (fun x2 I3 =>
  if x1 = x2 then (
    f_L_law_b3520 xs nn X28 K v5 I3 L)
  else (
    K (nI 0) I3 L)))
def f_L_law_b2891 (xs : Nat → Int32) (nn : Nat) (X28 : Int32 → IT → LT → Prop) (K : Int32 → IT → LT → Prop) (v5 : Int32) (I : IT) (L : LT) : Prop :=
  f_L_meanTemperature I L (fun x1 I2 L3 =>
  f_X9_meanTemperature I2 (fun x4 I5 =>
  f_X9_thrown I5 (fun x6 =>
  if x6 = x1 then (
    if x1 = 0 then (
      if (Op.cmpValue (FP.dcmp (L3.2 196 0) x4) .l) = 0 then (
        f_L_law_b3520 xs nn X28 K v5 I5 L3)
      else (
        if (Op.cmpValue (FP.dcmp (L3.2 196 0) (L3.2 196 0)) .l) = 0 then (
          K (nI 0) I5 L3)
        else (
          if (Op.cmpValue (FP.dcmp x4 x4) .l) = 0 then (
            K (nI 0) I5 L3)
          else (
            f_L_law_b3520 xs nn X28 K v5 I5 L3))))
    else (
      f_L_law_b3520 xs nn X28 K v5 I5 L3))
  else (
    K (nI 0) I5 L3))))
def f_L_law_b2956 (xs : Nat → Int32) (nn : Nat) (X28 : Int32 → IT → LT → Prop) (K : Int32 → IT → LT → Prop) (v5 : Int32) (I : IT) (L : LT) : Prop :=
  f_L_lostShare I L (fun x1 I2 L3 =>
  f_X9_lostShare I2 (fun x4 I5 =>
  f_X9_thrown I5 (fun x6 =>
  if x6 = x1 then (
    if x1 = 0 then (
      vf_n64 (FP.f2d x4) ∧ (
      if (Op.cmpValue (FP.dcmp (L3.2 196 0) (FP.f2d x4)) .l) = 0 then (
        f_L_law_b3520 xs nn X28 K v5 I5 L3)
      else (
        if (Op.cmpValue (FP.dcmp (L3.2 196 0) (L3.2 196 0)) .l) = 0 then (
          K (nI 0) I5 L3)
        else (
          if (Op.cmpValue (FP.fcmp x4 x4) .l) = 0 then (
            K (nI 0) I5 L3)
          else (
            f_L_law_b3520 xs nn X28 K v5 I5 L3)))))
    else (
      f_L_law_b3520 xs nn X28 K v5 I5 L3))
  else (
    K (nI 0) I5 L3))))
def f_L_law_b3022 (xs : Nat → Int32) (nn : Nat) (X28 : Int32 → IT → LT → Prop) (K : Int32 → IT → LT → Prop) (v5 : Int32) (I : IT) (L : LT) : Prop :=
  f_X8_isBalanced I (fun x1 I2 =>
  f_X9_isBalanced I2 (fun x3 I4 =>
  if x1 = x3 then (
    f_L_law_b3520 xs nn X28 K v5 I4 L)
  else (
    K (nI 0) I4 L)))
def f_L_law_b3035 (xs : Nat → Int32) (nn : Nat) (X28 : Int32 → IT → LT → Prop) (K : Int32 → IT → LT → Prop) (v5 : Int32) (I : IT) (L : LT) : Prop :=
  inr (v5 + (nI 1)) nn ∧ (
  f_L_formatKettle (xs (ix (v5 + (nI 1)))) I L (fun x2 I3 L4 =>
  f_X9_formatKettle (xs (ix (v5 + (nI 1)))) I3 (fun x5 I6 =>
  f_X9_thrown I6 (fun x7 =>
  if x7 = x2 then (
    if x2 = 0 then (
      if (lg_cmp (L4.1 195 0) (x5.toInt64)) = 0 then (
        f_L_law_b3520 xs nn X28 K v5 I6 L4)
      else (
        K (nI 0) I6 L4))
    else (
      f_L_law_b3520 xs nn X28 K v5 I6 L4))
  else (
    K (nI 0) I6 L4)))))
def f_L_law_b3091 (xs : Nat → Int32) (nn : Nat) (X28 : Int32 → IT → LT → Prop) (K : Int32 → IT → LT → Prop) (v5 : Int32) (I : IT) (L : LT) : Prop :=
  inr (v5 + (nI 1)) nn ∧ (
  f_L_formatOrder (xs (ix (v5 + (nI 1)))) I L (fun x2 I3 L4 =>
  f_X9_formatOrder (xs (ix (v5 + (nI 1)))) I3 (fun x5 I6 =>
  f_X9_thrown I6 (fun x7 =>
  if x7 = x2 then (
    if x2 = 0 then (
      if (lg_cmp (L4.1 195 0) (x5.toInt64)) = 0 then (
        f_L_law_b3520 xs nn X28 K v5 I6 L4)
      else (
        K (nI 0) I6 L4))
    else (
      f_L_law_b3520 xs nn X28 K v5 I6 L4))
  else (
    K (nI 0) I6 L4)))))
def f_L_law_b3147 (xs : Nat → Int32) (nn : Nat) (X28 : Int32 → IT → LT → Prop) (K : Int32 → IT → LT → Prop) (v5 : Int32) (I : IT) (L : LT) : Prop :=
  f_X8_formatLedger I (fun x1 I2 =>
  f_X9_formatLedger I2 (fun x3 I4 =>
  if x1 = x3 then (
    f_L_law_b3520 xs nn X28 K v5 I4 L)
  else (
    K (nI 0) I4 L)))
def f_L_law_b3160 (xs : Nat → Int32) (nn : Nat) (X28 : Int32 → IT → LT → Prop) (K : Int32 → IT → LT → Prop) (v5 : Int32) (I : IT) (L : LT) : Prop :=
  inr (v5 + (nI 1)) nn ∧ (
  f_L_lineChar (xs (ix (v5 + (nI 1)))) I L (fun x2 I3 L4 =>
  f_X9_lineChar (xs (ix (v5 + (nI 1)))) I3 (fun x5 I6 =>
  f_X9_thrown I6 (fun x7 =>
  if x7 = x2 then (
    if x2 = 0 then (
      if (lg_cmp (L4.1 195 0) (x5.toInt64)) = 0 then (
        f_L_law_b3520 xs nn X28 K v5 I6 L4)
      else (
        K (nI 0) I6 L4))
    else (
      f_L_law_b3520 xs nn X28 K v5 I6 L4))
  else (
    K (nI 0) I6 L4)))))
def f_L_law_b3216 (xs : Nat → Int32) (nn : Nat) (X28 : Int32 → IT → LT → Prop) (K : Int32 → IT → LT → Prop) (v5 : Int32) (I : IT) (L : LT) : Prop :=
  inr (v5 + (nI 1)) nn ∧ (
  f_L_append ((((xs (ix (v5 + (nI 1))))).toUInt32 % 65536).toInt32) I L (fun x2 I3 L4 =>
  f_X9_append ((((xs (ix (v5 + (nI 1))))).toUInt32 % 65536).toInt32) I3 (fun x5 I6 =>
  f_X9_thrown I6 (fun x7 =>
  if x7 = x2 then (
    if x2 = 0 then (
      if (lg_cmp (L4.1 195 0) (x5.toInt64)) = 0 then (
        f_L_law_b3520 xs nn X28 K v5 I6 L4)
      else (
        K (nI 0) I6 L4))
    else (
      f_L_law_b3520 xs nn X28 K v5 I6 L4))
  else (
    K (nI 0) I6 L4)))))
def f_L_law_b3274 (xs : Nat → Int32) (nn : Nat) (X28 : Int32 → IT → LT → Prop) (K : Int32 → IT → LT → Prop) (v5 : Int32) (I : IT) (L : LT) : Prop :=
  f_L_run I L (fun x1 I2 L3 =>
  f_X9_run I2 (fun x4 I5 =>
  f_X9_thrown I5 (fun x6 =>
  if x6 = x1 then (
    if x1 = 0 then (
      if (lg_cmp (L3.1 195 0) (x4.toInt64)) = 0 then (
        f_L_law_b3520 xs nn X28 K v5 I5 L3)
      else (
        K (nI 0) I5 L3))
    else (
      f_L_law_b3520 xs nn X28 K v5 I5 L3))
  else (
    K (nI 0) I5 L3))))
def f_L_law_b3318 (xs : Nat → Int32) (nn : Nat) (X28 : Int32 → IT → LT → Prop) (K : Int32 → IT → LT → Prop) (v5 : Int32) (I : IT) (L : LT) : Prop :=
  f_L_errorPosition I L (fun x1 I2 L3 =>
  f_X9_errorPosition I2 (fun x4 I5 =>
  f_X9_thrown I5 (fun x6 =>
  if x6 = x1 then (
    if x1 = 0 then (
      if (lg_cmp (L3.1 195 0) (x4.toInt64)) = 0 then (
        f_L_law_b3520 xs nn X28 K v5 I5 L3)
      else (
        K (nI 0) I5 L3))
    else (
      f_L_law_b3520 xs nn X28 K v5 I5 L3))
  else (
    K (nI 0) I5 L3))))
def f_L_law_b3362 (xs : Nat → Int32) (nn : Nat) (X28 : Int32 → IT → LT → Prop) (K : Int32 → IT → LT → Prop) (v5 : Int32) (I : IT) (L : LT) : Prop :=
  f_L_failedCommand I L (fun x1 I2 L3 =>
  f_X9_failedCommand I2 (fun x4 I5 =>
  f_X9_thrown I5 (fun x6 =>
  if x6 = x1 then (
    if x1 = 0 then (
      if (lg_cmp (L3.1 195 0) (x4.toInt64)) = 0 then (
        f_L_law_b3520 xs nn X28 K v5 I5 L3)
      else (
        K (nI 0) I5 L3))
    else (
      f_L_law_b3520 xs nn X28 K v5 I5 L3))
  else (
    K (nI 0) I5 L3))))
def f_L_law_b3406 (xs : Nat → Int32) (nn : Nat) (X28 : Int32 → IT → LT → Prop) (K : Int32 → IT → LT → Prop) (v5 : Int32) (I : IT) (L : LT) : Prop :=
  f_X8_undoableCount I (fun x1 =>
  f_X9_undoableCount I (fun x2 I3 =>
  if x1 = x2 then (
    f_L_law_b3520 xs nn X28 K v5 I3 L)
  else (
    K (nI 0) I3 L)))
def f_L_law_b3419 (xs : Nat → Int32) (nn : Nat) (X28 : Int32 → IT → LT → Prop) (K : Int32 → IT → LT → Prop) (v5 : Int32) (I : IT) (L : LT) : Prop :=
  f_L_undo I L (fun x1 I2 L3 =>
  f_X9_undo I2 (fun x4 I5 =>
  f_X9_thrown I5 (fun x6 =>
  if x6 = x1 then (
    if x1 = 0 then (
      if (lg_cmp (L3.1 195 0) (x4.toInt64)) = 0 then (
        f_L_law_b3520 xs nn X28 K v5 I5 L3)
      else (
        K (nI 0) I5 L3))
    else (
      f_L_law_b3520 xs nn X28 K v5 I5 L3))
  else (
    K (nI 0) I5 L3))))
def f_L_law_b3463 (xs : Nat → Int32) (nn : Nat) (X28 : Int32 → IT → LT → Prop) (K : Int32 → IT → LT → Prop) (v5 : Int32) (I : IT) (L : LT) : Prop :=
  f_X8_save I (fun x1 I2 =>
  f_X9_save I2 (fun x3 I4 =>
  if x1 = x3 then (
    f_L_law_b3520 xs nn X28 K v5 I4 L)
  else (
    K (nI 0) I4 L)))
def f_L_law_b3476 (xs : Nat → Int32) (nn : Nat) (X28 : Int32 → IT → LT → Prop) (K : Int32 → IT → LT → Prop) (v5 : Int32) (I : IT) (L : LT) : Prop :=
  f_L_restore I L (fun x1 I2 L3 =>
  f_X9_restore I2 (fun x4 I5 =>
  f_X9_thrown I5 (fun x6 =>
  if x6 = x1 then (
    if x1 = 0 then (
      if (lg_cmp (L3.1 195 0) (x4.toInt64)) = 0 then (
        f_L_law_b3520 xs nn X28 K v5 I5 L3)
      else (
        K (nI 0) I5 L3))
    else (
      f_L_law_b3520 xs nn X28 K v5 I5 L3))
  else (
    K (nI 0) I5 L3))))
def f_L_law_b28 (xs : Nat → Int32) (nn : Nat) (K : Int32 → IT → LT → Prop) : Nat → Int32 → IT → LT → Prop
  | 0, _, _, _ => False
  | n + 1, v5, I, L =>
    if ((nI nn) - (nI 5)) < v5 then (
      K (nI 1) I L)
    else (
      inr v5 nn ∧ (
      if ((xs (ix v5)) &&& (nI 63)) = (nI 0) then (
        f_L_law_b316 xs nn (fun y0_0 I0_ L0_ => f_L_law_b28 xs nn K n y0_0 I0_ L0_) K v5 I L)
      else (
      if ((xs (ix v5)) &&& (nI 63)) = (nI 1) then (
        f_L_law_b372 xs nn (fun y0_0 I0_ L0_ => f_L_law_b28 xs nn K n y0_0 I0_ L0_) K v5 I L)
      else (
      if ((xs (ix v5)) &&& (nI 63)) = (nI 2) then (
        f_L_law_b462 xs nn (fun y0_0 I0_ L0_ => f_L_law_b28 xs nn K n y0_0 I0_ L0_) K v5 I L)
      else (
      if ((xs (ix v5)) &&& (nI 63)) = (nI 3) then (
        f_L_law_b530 xs nn (fun y0_0 I0_ L0_ => f_L_law_b28 xs nn K n y0_0 I0_ L0_) K v5 I L)
      else (
      if ((xs (ix v5)) &&& (nI 63)) = (nI 4) then (
        f_L_law_b622 xs nn (fun y0_0 I0_ L0_ => f_L_law_b28 xs nn K n y0_0 I0_ L0_) K v5 I L)
      else (
      if ((xs (ix v5)) &&& (nI 63)) = (nI 5) then (
        f_L_law_b678 xs nn (fun y0_0 I0_ L0_ => f_L_law_b28 xs nn K n y0_0 I0_ L0_) K v5 I L)
      else (
      if ((xs (ix v5)) &&& (nI 63)) = (nI 6) then (
        f_L_law_b722 xs nn (fun y0_0 I0_ L0_ => f_L_law_b28 xs nn K n y0_0 I0_ L0_) K v5 I L)
      else (
      if ((xs (ix v5)) &&& (nI 63)) = (nI 7) then (
        f_L_law_b778 xs nn (fun y0_0 I0_ L0_ => f_L_law_b28 xs nn K n y0_0 I0_ L0_) K v5 I L)
      else (
      if ((xs (ix v5)) &&& (nI 63)) = (nI 8) then (
        f_L_law_b856 xs nn (fun y0_0 I0_ L0_ => f_L_law_b28 xs nn K n y0_0 I0_ L0_) K v5 I L)
      else (
      if ((xs (ix v5)) &&& (nI 63)) = (nI 9) then (
        f_L_law_b934 xs nn (fun y0_0 I0_ L0_ => f_L_law_b28 xs nn K n y0_0 I0_ L0_) K v5 I L)
      else (
      if ((xs (ix v5)) &&& (nI 63)) = (nI 10) then (
        f_L_law_b1012 xs nn (fun y0_0 I0_ L0_ => f_L_law_b28 xs nn K n y0_0 I0_ L0_) K v5 I L)
      else (
      if ((xs (ix v5)) &&& (nI 63)) = (nI 11) then (
        f_L_law_b1053 xs nn (fun y0_0 I0_ L0_ => f_L_law_b28 xs nn K n y0_0 I0_ L0_) K v5 I L)
      else (
      if ((xs (ix v5)) &&& (nI 63)) = (nI 12) then (
        f_L_law_b1109 xs nn (fun y0_0 I0_ L0_ => f_L_law_b28 xs nn K n y0_0 I0_ L0_) K v5 I L)
      else (
      if ((xs (ix v5)) &&& (nI 63)) = (nI 13) then (
        f_L_law_b1175 xs nn (fun y0_0 I0_ L0_ => f_L_law_b28 xs nn K n y0_0 I0_ L0_) K v5 I L)
      else (
      if ((xs (ix v5)) &&& (nI 63)) = (nI 14) then (
        f_L_law_b1188 xs nn (fun y0_0 I0_ L0_ => f_L_law_b28 xs nn K n y0_0 I0_ L0_) K v5 I L)
      else (
      if ((xs (ix v5)) &&& (nI 63)) = (nI 15) then (
        f_L_law_b1266 xs nn (fun y0_0 I0_ L0_ => f_L_law_b28 xs nn K n y0_0 I0_ L0_) K v5 I L)
      else (
      if ((xs (ix v5)) &&& (nI 63)) = (nI 16) then (
        f_L_law_b1344 xs nn (fun y0_0 I0_ L0_ => f_L_law_b28 xs nn K n y0_0 I0_ L0_) K v5 I L)
      else (
      if ((xs (ix v5)) &&& (nI 63)) = (nI 17) then (
        f_L_law_b1422 xs nn (fun y0_0 I0_ L0_ => f_L_law_b28 xs nn K n y0_0 I0_ L0_) K v5 I L)
      else (
      if ((xs (ix v5)) &&& (nI 63)) = (nI 18) then (
        f_L_law_b1478 xs nn (fun y0_0 I0_ L0_ => f_L_law_b28 xs nn K n y0_0 I0_ L0_) K v5 I L)
      else (
      if ((xs (ix v5)) &&& (nI 63)) = (nI 19) then (
        f_L_law_b1534 xs nn (fun y0_0 I0_ L0_ => f_L_law_b28 xs nn K n y0_0 I0_ L0_) K v5 I L)
      else (
      if ((xs (ix v5)) &&& (nI 63)) = (nI 20) then (
        f_L_law_b1597 xs nn (fun y0_0 I0_ L0_ => f_L_law_b28 xs nn K n y0_0 I0_ L0_) K v5 I L)
      else (
      if ((xs (ix v5)) &&& (nI 63)) = (nI 21) then (
        f_L_law_b1653 xs nn (fun y0_0 I0_ L0_ => f_L_law_b28 xs nn K n y0_0 I0_ L0_) K v5 I L)
      else (
      if ((xs (ix v5)) &&& (nI 63)) = (nI 22) then (
        f_L_law_b1709 xs nn (fun y0_0 I0_ L0_ => f_L_law_b28 xs nn K n y0_0 I0_ L0_) K v5 I L)
      else (
      if ((xs (ix v5)) &&& (nI 63)) = (nI 23) then (
        f_L_law_b1765 xs nn (fun y0_0 I0_ L0_ => f_L_law_b28 xs nn K n y0_0 I0_ L0_) K v5 I L)
      else (
      if ((xs (ix v5)) &&& (nI 63)) = (nI 24) then (
        f_L_law_b1778 xs nn (fun y0_0 I0_ L0_ => f_L_law_b28 xs nn K n y0_0 I0_ L0_) K v5 I L)
      else (
      if ((xs (ix v5)) &&& (nI 63)) = (nI 25) then (
        f_L_law_b1834 xs nn (fun y0_0 I0_ L0_ => f_L_law_b28 xs nn K n y0_0 I0_ L0_) K v5 I L)
      else (
      if ((xs (ix v5)) &&& (nI 63)) = (nI 26) then (
        f_L_law_b1890 xs nn (fun y0_0 I0_ L0_ => f_L_law_b28 xs nn K n y0_0 I0_ L0_) K v5 I L)
      else (
      if ((xs (ix v5)) &&& (nI 63)) = (nI 27) then (
        f_L_law_b1946 xs nn (fun y0_0 I0_ L0_ => f_L_law_b28 xs nn K n y0_0 I0_ L0_) K v5 I L)
      else (
      if ((xs (ix v5)) &&& (nI 63)) = (nI 28) then (
        f_L_law_b2024 xs nn (fun y0_0 I0_ L0_ => f_L_law_b28 xs nn K n y0_0 I0_ L0_) K v5 I L)
      else (
      if ((xs (ix v5)) &&& (nI 63)) = (nI 29) then (
        f_L_law_b2080 xs nn (fun y0_0 I0_ L0_ => f_L_law_b28 xs nn K n y0_0 I0_ L0_) K v5 I L)
      else (
      if ((xs (ix v5)) &&& (nI 63)) = (nI 30) then (
        f_L_law_b2136 xs nn (fun y0_0 I0_ L0_ => f_L_law_b28 xs nn K n y0_0 I0_ L0_) K v5 I L)
      else (
      if ((xs (ix v5)) &&& (nI 63)) = (nI 31) then (
        f_L_law_b2149 xs nn (fun y0_0 I0_ L0_ => f_L_law_b28 xs nn K n y0_0 I0_ L0_) K v5 I L)
      else (
      if ((xs (ix v5)) &&& (nI 63)) = (nI 32) then (
        f_L_law_b2162 xs nn (fun y0_0 I0_ L0_ => f_L_law_b28 xs nn K n y0_0 I0_ L0_) K v5 I L)
      else (
      if ((xs (ix v5)) &&& (nI 63)) = (nI 33) then (
        f_L_law_b2205 xs nn (fun y0_0 I0_ L0_ => f_L_law_b28 xs nn K n y0_0 I0_ L0_) K v5 I L)
      else (
      if ((xs (ix v5)) &&& (nI 63)) = (nI 34) then (
        f_L_law_b2248 xs nn (fun y0_0 I0_ L0_ => f_L_law_b28 xs nn K n y0_0 I0_ L0_) K v5 I L)
      else (
      if ((xs (ix v5)) &&& (nI 63)) = (nI 35) then (
        f_L_law_b2291 xs nn (fun y0_0 I0_ L0_ => f_L_law_b28 xs nn K n y0_0 I0_ L0_) K v5 I L)
      else (
      if ((xs (ix v5)) &&& (nI 63)) = (nI 36) then (
        f_L_law_b2334 xs nn (fun y0_0 I0_ L0_ => f_L_law_b28 xs nn K n y0_0 I0_ L0_) K v5 I L)
      else (
      if ((xs (ix v5)) &&& (nI 63)) = (nI 37) then (
        f_L_law_b2377 xs nn (fun y0_0 I0_ L0_ => f_L_law_b28 xs nn K n y0_0 I0_ L0_) K v5 I L)
      else (
      if ((xs (ix v5)) &&& (nI 63)) = (nI 38) then (
        f_L_law_b2420 xs nn (fun y0_0 I0_ L0_ => f_L_law_b28 xs nn K n y0_0 I0_ L0_) K v5 I L)
      else (
      if ((xs (ix v5)) &&& (nI 63)) = (nI 39) then (
        f_L_law_b2463 xs nn (fun y0_0 I0_ L0_ => f_L_law_b28 xs nn K n y0_0 I0_ L0_) K v5 I L)
      else (
      if ((xs (ix v5)) &&& (nI 63)) = (nI 40) then (
        f_L_law_b2476 xs nn (fun y0_0 I0_ L0_ => f_L_law_b28 xs nn K n y0_0 I0_ L0_) K v5 I L)
      else (
      if ((xs (ix v5)) &&& (nI 63)) = (nI 41) then (
        f_L_law_b2554 xs nn (fun y0_0 I0_ L0_ => f_L_law_b28 xs nn K n y0_0 I0_ L0_) K v5 I L)
      else (
      if ((xs (ix v5)) &&& (nI 63)) = (nI 42) then (
        f_L_law_b2610 xs nn (fun y0_0 I0_ L0_ => f_L_law_b28 xs nn K n y0_0 I0_ L0_) K v5 I L)
      else (
      if ((xs (ix v5)) &&& (nI 63)) = (nI 43) then (
        f_L_law_b2688 xs nn (fun y0_0 I0_ L0_ => f_L_law_b28 xs nn K n y0_0 I0_ L0_) K v5 I L)
      else (
      if ((xs (ix v5)) &&& (nI 63)) = (nI 44) then (
        f_L_law_b2766 xs nn (fun y0_0 I0_ L0_ => f_L_law_b28 xs nn K n y0_0 I0_ L0_) K v5 I L)
      else (
      if ((xs (ix v5)) &&& (nI 63)) = (nI 45) then (
        f_L_law_b2809 xs nn (fun y0_0 I0_ L0_ => f_L_law_b28 xs nn K n y0_0 I0_ L0_) K v5 I L)
      else (
      if ((xs (ix v5)) &&& (nI 63)) = (nI 46) then (
        f_L_law_b2852 xs nn (fun y0_0 I0_ L0_ => f_L_law_b28 xs nn K n y0_0 I0_ L0_) K v5 I L)
      else (
      if ((xs (ix v5)) &&& (nI 63)) = (nI 47) then (
        f_L_law_b2865 xs nn (fun y0_0 I0_ L0_ => f_L_law_b28 xs nn K n y0_0 I0_ L0_) K v5 I L)
      else (
      if ((xs (ix v5)) &&& (nI 63)) = (nI 48) then (
        f_L_law_b2878 xs nn (fun y0_0 I0_ L0_ => f_L_law_b28 xs nn K n y0_0 I0_ L0_) K v5 I L)
      else (
      if ((xs (ix v5)) &&& (nI 63)) = (nI 49) then (
        f_L_law_b2891 xs nn (fun y0_0 I0_ L0_ => f_L_law_b28 xs nn K n y0_0 I0_ L0_) K v5 I L)
      else (
      if ((xs (ix v5)) &&& (nI 63)) = (nI 50) then (
        f_L_law_b2956 xs nn (fun y0_0 I0_ L0_ => f_L_law_b28 xs nn K n y0_0 I0_ L0_) K v5 I L)
      else (
      if ((xs (ix v5)) &&& (nI 63)) = (nI 51) then (
        f_L_law_b3022 xs nn (fun y0_0 I0_ L0_ => f_L_law_b28 xs nn K n y0_0 I0_ L0_) K v5 I L)
      else (
      if ((xs (ix v5)) &&& (nI 63)) = (nI 52) then (
        f_L_law_b3035 xs nn (fun y0_0 I0_ L0_ => f_L_law_b28 xs nn K n y0_0 I0_ L0_) K v5 I L)
      else (
      if ((xs (ix v5)) &&& (nI 63)) = (nI 53) then (
        f_L_law_b3091 xs nn (fun y0_0 I0_ L0_ => f_L_law_b28 xs nn K n y0_0 I0_ L0_) K v5 I L)
      else (
      if ((xs (ix v5)) &&& (nI 63)) = (nI 54) then (
        f_L_law_b3147 xs nn (fun y0_0 I0_ L0_ => f_L_law_b28 xs nn K n y0_0 I0_ L0_) K v5 I L)
      else (
      if ((xs (ix v5)) &&& (nI 63)) = (nI 55) then (
        f_L_law_b3160 xs nn (fun y0_0 I0_ L0_ => f_L_law_b28 xs nn K n y0_0 I0_ L0_) K v5 I L)
      else (
      if ((xs (ix v5)) &&& (nI 63)) = (nI 56) then (
        f_L_law_b3216 xs nn (fun y0_0 I0_ L0_ => f_L_law_b28 xs nn K n y0_0 I0_ L0_) K v5 I L)
      else (
      if ((xs (ix v5)) &&& (nI 63)) = (nI 57) then (
        f_L_law_b3274 xs nn (fun y0_0 I0_ L0_ => f_L_law_b28 xs nn K n y0_0 I0_ L0_) K v5 I L)
      else (
      if ((xs (ix v5)) &&& (nI 63)) = (nI 58) then (
        f_L_law_b3318 xs nn (fun y0_0 I0_ L0_ => f_L_law_b28 xs nn K n y0_0 I0_ L0_) K v5 I L)
      else (
      if ((xs (ix v5)) &&& (nI 63)) = (nI 59) then (
        f_L_law_b3362 xs nn (fun y0_0 I0_ L0_ => f_L_law_b28 xs nn K n y0_0 I0_ L0_) K v5 I L)
      else (
      if ((xs (ix v5)) &&& (nI 63)) = (nI 60) then (
        f_L_law_b3406 xs nn (fun y0_0 I0_ L0_ => f_L_law_b28 xs nn K n y0_0 I0_ L0_) K v5 I L)
      else (
      if ((xs (ix v5)) &&& (nI 63)) = (nI 61) then (
        f_L_law_b3419 xs nn (fun y0_0 I0_ L0_ => f_L_law_b28 xs nn K n y0_0 I0_ L0_) K v5 I L)
      else (
      if ((xs (ix v5)) &&& (nI 63)) = (nI 62) then (
        f_L_law_b3463 xs nn (fun y0_0 I0_ L0_ => f_L_law_b28 xs nn K n y0_0 I0_ L0_) K v5 I L)
      else (
      if ((xs (ix v5)) &&& (nI 63)) = (nI 63) then (
        f_L_law_b3476 xs nn (fun y0_0 I0_ L0_ => f_L_law_b28 xs nn K n y0_0 I0_ L0_) K v5 I L)
      else (
        f_L_law_b3520 xs nn (fun y0_0 I0_ L0_ => f_L_law_b28 xs nn K n y0_0 I0_ L0_) K v5 I L))))))))))))))))))))))))))))))))))))))))))))))))))))))))))))))))))
def f_L_law (xs : Nat → Int32) (nn : Nat) (I : IT) (L : LT) (K : Int32 → IT → LT → Prop) : Prop :=
  f_L_law_b28 xs nn K 514 (nI 0) I L
