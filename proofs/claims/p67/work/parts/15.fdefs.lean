/-! the methods of the class as predicates over what comes behind them: by a program of mine (wip/p67/dec) out of the decode rows -/
def f_X3_copyFrom_b10 (a0 : Nat) (a1 : Nat) (K : IT → Prop) : Nat → Int32 → IT → Prop
  | 0, _, _ => False
  | n + 1, v2, I =>
    if (nI 4) ≤ v2 then (
      K I)
    else (
      inr v2 4 ∧ (
      wr I (a0 + 1) (ix v2) (I (a1 + 1) (ix v2)) fun I3 =>
      wr I3 (a0 + 2) (ix v2) (I3 (a1 + 2) (ix v2)) fun I4 =>
      wr I4 (a0 + 3) (ix v2) (I4 (a1 + 3) (ix v2)) fun I5 =>
      wr I5 (a0 + 4) (ix v2) (I5 (a1 + 4) (ix v2)) fun I6 =>
      isZ (I6 (a1 + 5) (ix v2)) ∧ (
      wr I6 (a0 + 5) (ix v2) (I6 (a1 + 5) (ix v2)) fun I8 =>
      bnd (v2 + nI 1) fun x9 =>
      f_X3_copyFrom_b10 a0 a1 K n x9 I8)))
def f_X3_copyFrom (a0 : Nat) (a1 : Nat) (I : IT) (K : IT → Prop) : Prop :=
  wr I a0 5 (I a1 5) fun I1 =>
  f_X3_copyFrom_b10 a0 a1 K 4096 (nI 0) I1
def f_X4_copyFrom_b34 (a0 : Nat) (a1 : Nat) (K : IT → Prop) : Nat → Int32 → IT → Prop
  | 0, _, _ => False
  | n + 1, v2, I =>
    if (nI 14) ≤ v2 then (
      K I)
    else (
      inr v2 14 ∧ (
      wr I (a0 + 1) (ix v2) (I (a1 + 1) (ix v2)) fun I3 =>
      inr (v2 + (nI 1)) 15 ∧ (
      wr I3 (a0 + 2) (ix (v2 + (nI 1))) (I3 (a1 + 2) (ix (v2 + (nI 1)))) fun I5 =>
      bnd (v2 + nI 1) fun x6 =>
      f_X4_copyFrom_b34 a0 a1 K n x6 I5)))
def f_X4_copyFrom (a0 : Nat) (a1 : Nat) (I : IT) (K : IT → Prop) : Prop :=
  wr I a0 2 (I a1 2) fun I1 =>
  wr I1 a0 3 (I1 a1 3) fun I2 =>
  wr I2 a0 4 (I2 a1 4) fun I3 =>
  wr I3 a0 5 (I3 a1 5) fun I4 =>
  f_X4_copyFrom_b34 a0 a1 K 4096 (nI 0) I4
def f_X5_copyOrder (a0 : Nat) (a1 : Nat) (a2 : Int32) (a3 : Int32) (I : IT) (K : IT → Prop) : Prop :=
  inr a2 10 ∧ (
  inr a3 10 ∧ (
  wr I (a0 + 1) (ix a3) (I (a1 + 1) (ix a2)) fun I3 =>
  wr I3 (a0 + 2) (ix a3) (I3 (a1 + 2) (ix a2)) fun I4 =>
  wr I4 (a0 + 3) (ix a3) (I4 (a1 + 3) (ix a2)) fun I5 =>
  wr I5 (a0 + 4) (ix a3) (I5 (a1 + 4) (ix a2)) fun I6 =>
  wr I6 (a0 + 5) (ix a3) (I6 (a1 + 5) (ix a2)) fun I7 =>
  K I7))
def f_X5_copyFrom_b18 (a0 : Nat) (a1 : Nat) (K : IT → Prop) : Nat → Int32 → IT → Prop
  | 0, _, _ => False
  | n + 1, v2, I =>
    if (nI 10) ≤ v2 then (
      K I)
    else (
      f_X5_copyOrder a0 a1 v2 v2 I (fun I2 =>
      bnd (v2 + nI 1) fun x3 =>
      f_X5_copyFrom_b18 a0 a1 K n x3 I2))
def f_X5_copyFrom (a0 : Nat) (a1 : Nat) (I : IT) (K : IT → Prop) : Prop :=
  wr I a0 5 (I a1 5) fun I1 =>
  wr I1 a0 6 (I1 a1 6) fun I2 =>
  f_X5_copyFrom_b18 a0 a1 K 4096 (nI 0) I2
def f_X1_copyFrom (a0 : Nat) (a1 : Nat) (I : IT) (K : IT → Prop) : Prop :=
  f_X3_copyFrom (a0 + 1) (a1 + 1) I (fun I1 =>
  f_X5_copyFrom (a0 + 7) (a1 + 7) I1 (fun I2 =>
  f_X4_copyFrom (a0 + 13) (a1 + 13) I2 (fun I3 =>
  wr I3 a0 3 (I3 a1 3) fun I4 =>
  wr I4 a0 4 (I4 a1 4) fun I5 =>
  wr I5 a0 5 (I5 a1 5) fun I6 =>
  wr I6 a0 6 (I6 a1 6) fun I7 =>
  wr I7 a0 7 (I7 a1 7) fun I8 =>
  wr I8 a0 8 (I8 a1 8) fun I9 =>
  wr I9 a0 9 (I9 a1 9) fun I10 =>
  isZ (I10 a1 10) ∧ (
  wr I10 a0 10 (I10 a1 10) fun I12 =>
  wr I12 a0 11 (I12 a1 11) fun I13 =>
  wr I13 a0 12 (I13 a1 12) fun I14 =>
  wr I14 a0 13 (I14 a1 13) fun I15 =>
  K I15))))
def f_X3_suitable_b12 (a0 : Nat) (a1 : Int32) (a2 : Int32) (I : IT) (K : Int32 → Prop) : Nat → Int32 → Int32 → Int32 → Prop
  | 0, _, _, _ => False
  | n + 1, v3, v4, v5 =>
    if (I a0 5) ≤ v5 then (
      K v3)
    else (
      inr v5 4 ∧ (
      if (I (a0 + 2) (ix v5)) < (a1 * (nI 2)) then (
        bnd (v5 + nI 1) fun x4 =>
        f_X3_suitable_b12 a0 a1 a2 I K n v3 v4 x4)
      else (
        if (I (a0 + 3) (ix v5)) ≤ v4 then (
          bnd (v5 + nI 1) fun x6 =>
          f_X3_suitable_b12 a0 a1 a2 I K n v3 v4 x6)
        else (
          bnd (I (a0 + 3) (ix v5)) fun x7 =>
          bnd (v5 + nI 1) fun x8 =>
          f_X3_suitable_b12 a0 a1 a2 I K n v5 x7 x8))))
def f_X3_suitable (a0 : Nat) (a1 : Int32) (a2 : Int32) (I : IT) (K : Int32 → Prop) : Prop :=
  bnd ((a2 * (nI 2)) - (nI 1)) fun x1 =>
  f_X3_suitable_b12 a0 a1 a2 I K 4096 (-1) x1 (nI 0)
def f_X1_kettleForFirst (a0 : Nat) (I : IT) (K : Int32 → Prop) : Prop :=
  if (I (a0 + 7) 5) ≤ 0 then (
    K (-1))
  else (
    f_X3_suitable (a0 + 1) (I (a0 + 10) 0) (I (a0 + 11) 0) I (fun x2 =>
    K x2))
def f_X1_firstCanBeServed (a0 : Nat) (I : IT) (K : Int32 → Prop) : Prop :=
  f_X1_kettleForFirst a0 I (fun x1 =>
  if x1 = (-1) then (
    K (nI 0))
  else (
    if (I a0 3) < (I (a0 + 10) 0) then (
      K (nI 0))
    else (
      K (nI 1))))
def f_X1_unless (a0 : Int32) (a1 : Int32) (I : IT) (K : Nat → Prop) : Prop :=
  if a0 = 0 then (
    K 1000022)
  else (
    if a1 = 0 then (
      K 1000023)
    else (
      K 1000020))
def f_X3_has (a0 : Nat) (a1 : Int32) (I : IT) (K : Int32 → Prop) : Prop :=
  if a1 < 0 then (
    K (nI 0))
  else (
    if (I a0 5) ≤ a1 then (
      K (nI 0))
    else (
      K (nI 1)))
def f_X8_isWithin (a0 : Int32) (a1 : Int32) (a2 : Int32) (I : IT) (K : Int32 → Prop) : Prop :=
  if a0 < a1 then (
    K (nI 0))
  else (
    if a2 < a0 then (
      K (nI 0))
    else (
      K (nI 1)))
def f_X1_refusalToFill_b54 (a0 : Nat) (a1 : Int32) (a2 : Int32) (I : IT) (K : Nat → Prop) (s0 : Int32) (s1 : Int32) : Prop :=
  f_X1_unless s0 s1 I (fun x1 =>
  K x1)
def f_X1_refusalToFill (a0 : Nat) (a1 : Int32) (a2 : Int32) (I : IT) (K : Nat → Prop) : Prop :=
  f_X3_has (a0 + 1) a1 I (fun x1 =>
  if x1 = 0 then (
    K 1000021)
  else (
    inr a1 4 ∧ (
    bnd ((I (a0 + 3) (ix a1)) + (a2 * (nI 2))) fun x4 =>
    f_X8_isWithin a2 (nI 1) (nI 16) I (fun x5 =>
    if (I (a0 + 2) (ix a1)) < x4 then (
      f_X1_refusalToFill_b54 a0 a1 a2 I K x5 (nI 0))
    else (
      f_X1_refusalToFill_b54 a0 a1 a2 I K x5 (nI 1))))))
def f_X5_find_b2 (a0 : Nat) (a1 : Int32) (I : IT) (K : Int32 → Prop) : Nat → Int32 → Prop
  | 0, _ => False
  | n + 1, v2 =>
    if (I a0 5) ≤ v2 then (
      K (-1))
    else (
      inr v2 10 ∧ (
      if (I (a0 + 1) (ix v2)) = a1 then (
        K v2)
      else (
        bnd (v2 + nI 1) fun x4 =>
        f_X5_find_b2 a0 a1 I K n x4)))
def f_X5_find (a0 : Nat) (a1 : Int32) (I : IT) (K : Int32 → Prop) : Prop :=
  f_X5_find_b2 a0 a1 I K 4096 (nI 0)
def f_X1_refusal_b95 (a0 : Nat) (a1 : Nat) (a2 : Int32) (a3 : Int32) (a4 : Int32) (a5 : Int32) (I : IT) (K : Nat → Prop) (s0 : Int32) (s1 : Int32) : Prop :=
  f_X1_unless s0 s1 I (fun x1 =>
  K x1)
def f_X1_refusal_b199 (a0 : Nat) (a1 : Nat) (a2 : Int32) (a3 : Int32) (a4 : Int32) (a5 : Int32) (I : IT) (K : Nat → Prop) (s0 : Int32) (s1 : Int32) : Prop :=
  f_X1_unless s0 s1 I (fun x1 =>
  K x1)
def f_X1_refusal_b182 (a0 : Nat) (a1 : Nat) (a2 : Int32) (a3 : Int32) (a4 : Int32) (a5 : Int32) (I : IT) (K : Nat → Prop) (s0 : Int32) : Prop :=
  if (nI 10) ≤ (I (a0 + 7) 5) then (
    f_X1_refusal_b199 a0 a1 a2 a3 a4 a5 I K s0 (nI 0))
  else (
    f_X1_refusal_b199 a0 a1 a2 a3 a4 a5 I K s0 (nI 1))
def f_X1_refusal_b181 (a0 : Nat) (a1 : Nat) (a2 : Int32) (a3 : Int32) (a4 : Int32) (a5 : Int32) (I : IT) (K : Nat → Prop)  : Prop :=
  f_X1_refusal_b182 a0 a1 a2 a3 a4 a5 I K (nI 0)
def f_X1_refusal_b257 (a0 : Nat) (a1 : Nat) (a2 : Int32) (a3 : Int32) (a4 : Int32) (a5 : Int32) (I : IT) (K : Nat → Prop) (s0 : Int32) (s1 : Int32) : Prop :=
  f_X1_unless s0 s1 I (fun x1 =>
  K x1)
def f_X1_refusal_b281 (a0 : Nat) (a1 : Nat) (a2 : Int32) (a3 : Int32) (a4 : Int32) (a5 : Int32) (I : IT) (K : Nat → Prop) (s0 : Int32) (s1 : Int32) : Prop :=
  f_X1_unless s0 s1 I (fun x1 =>
  K x1)
def f_X1_refusal_b297 (a0 : Nat) (a1 : Nat) (a2 : Int32) (a3 : Int32) (a4 : Int32) (a5 : Int32) (I : IT) (K : Nat → Prop)  : Prop :=
  f_X8_isWithin a2 (nI 1) (nI 80) I (fun x1 =>
  f_X1_unless x1 (nI 1) I (fun x2 =>
  K x2))
def f_X1_refusal_b327 (a0 : Nat) (a1 : Nat) (a2 : Int32) (a3 : Int32) (a4 : Int32) (a5 : Int32) (I : IT) (K : Nat → Prop) (s1 : Int32) : Prop :=
  f_X1_unless (nI 1) s1 I (fun x1 =>
  K x1)
def f_X1_refusal (a0 : Nat) (a1 : Nat) (a2 : Int32) (a3 : Int32) (a4 : Int32) (a5 : Int32) (I : IT) (K : Nat → Prop) : Prop :=
  inr (nI (ordN a1)) 13 ∧ (
  if (swmC (ix (nI (ordN a1)))) = (nI 1) then (
    f_X8_isWithin a2 (nI 2) (nI 16) I (fun x2 =>
    if (nI 4) ≤ (I (a0 + 1) 5) then (
      f_X1_refusal_b95 a0 a1 a2 a3 a4 a5 I K x2 (nI 0))
    else (
      f_X1_refusal_b95 a0 a1 a2 a3 a4 a5 I K x2 (nI 1))))
  else (
  if (swmC (ix (nI (ordN a1)))) = (nI 2) then (
    f_X1_refusalToFill a0 a2 a3 I (fun x4 =>
    K x4))
  else (
  if (swmC (ix (nI (ordN a1)))) = (nI 3) then (
    f_X3_has (a0 + 1) a2 I (fun x5 =>
    if x5 = 0 then (
      K 1000021)
    else (
      f_X8_isWithin a3 (nI 0) (nI 5) I (fun x7 =>
      f_X1_unless x7 (nI 1) I (fun x8 =>
      K x8)))))
  else (
  if (swmC (ix (nI (ordN a1)))) = (nI 4) then (
    f_X8_isWithin a2 (nI 0) (nI 9) I (fun x9 =>
    if x9 = 0 then (
      f_X1_refusal_b181 a0 a1 a2 a3 a4 a5 I K)
    else (
      f_X8_isWithin a3 (nI 1) (nI 6) I (fun x11 =>
      if x11 = 0 then (
        f_X1_refusal_b181 a0 a1 a2 a3 a4 a5 I K)
      else (
        f_X8_isWithin a4 (nI 60) (nI 100) I (fun x13 =>
        if x13 = 0 then (
          f_X1_refusal_b181 a0 a1 a2 a3 a4 a5 I K)
        else (
          f_X8_isWithin a5 (nI 1) (nI 9) I (fun x15 =>
          if x15 = 0 then (
            f_X1_refusal_b181 a0 a1 a2 a3 a4 a5 I K)
          else (
            f_X1_refusal_b182 a0 a1 a2 a3 a4 a5 I K (nI 1))))))))))
  else (
  if (swmC (ix (nI (ordN a1)))) = (nI 5) then (
    f_X5_find (a0 + 7) a2 I (fun x17 =>
    if x17 = (-1) then (
      K 1000024)
    else (
      K 1000020)))
  else (
  if (swmC (ix (nI (ordN a1)))) = (nI 6) then (
    f_X1_firstCanBeServed a0 I (fun x19 =>
    f_X1_unless (nI 1) x19 I (fun x20 =>
    K x20)))
  else (
  if (swmC (ix (nI (ordN a1)))) = (nI 7) then (
    f_X8_isWithin a2 (nI 1) (nI 20) I (fun x21 =>
    if ((nI 20) - (I a0 3)) < a2 then (
      f_X1_refusal_b257 a0 a1 a2 a3 a4 a5 I K x21 (nI 0))
    else (
      f_X1_refusal_b257 a0 a1 a2 a3 a4 a5 I K x21 (nI 1))))
  else (
  if (swmC (ix (nI (ordN a1)))) = (nI 8) then (
    f_X8_isWithin a2 (nI 1) (nI 80) I (fun x23 =>
    if (I a0 4) < a2 then (
      f_X1_refusal_b281 a0 a1 a2 a3 a4 a5 I K x23 (nI 0))
    else (
      f_X1_refusal_b281 a0 a1 a2 a3 a4 a5 I K x23 (nI 1))))
  else (
  if (swmC (ix (nI (ordN a1)))) = (nI 9) then (
    f_X8_isWithin a2 (nI 1) (nI 120) I (fun x25 =>
    f_X1_unless x25 (nI 1) I (fun x26 =>
    K x26)))
  else (
  if (swmC (ix (nI (ordN a1)))) = (nI 10) then (
    f_X1_refusal_b297 a0 a1 a2 a3 a4 a5 I K)
  else (
  if (swmC (ix (nI (ordN a1)))) = (nI 11) then (
    f_X1_refusal_b297 a0 a1 a2 a3 a4 a5 I K)
  else (
  if (swmC (ix (nI (ordN a1)))) = (nI 12) then (
    if (nI 14) ≤ (I (a0 + 13) 2) then (
      f_X1_refusal_b327 a0 a1 a2 a3 a4 a5 I K (nI 0))
    else (
      f_X1_refusal_b327 a0 a1 a2 a3 a4 a5 I K (nI 1)))
  else (
    K 1000020)))))))))))))
def f_X1_exchangeAttendant_b12 (a0 : Nat) (a1 : Int32) (K : Int32 → IT → Prop) (s0 : Int32) (I : IT) : Prop :=
  wr I a0 10 a1 fun I1 =>
  K s0 I1
def f_X1_exchangeAttendant (a0 : Nat) (a1 : Int32) (I : IT) (K : Int32 → IT → Prop) : Prop :=
  if (I a0 10) = 0 then (
    f_X1_exchangeAttendant_b12 a0 a1 K (nI 0) I)
  else (
    f_X1_exchangeAttendant_b12 a0 a1 K (nI 1) I)
def f_X1_exchangeCupPrice (a0 : Nat) (a1 : Int32) (I : IT) (K : Int32 → IT → Prop) : Prop :=
  bnd (I a0 8) fun x1 =>
  wr I a0 8 a1 fun I2 =>
  K x1 I2
def f_X1_exchangeSteamPrice (a0 : Nat) (a1 : Int32) (I : IT) (K : Int32 → IT → Prop) : Prop :=
  bnd (I a0 9) fun x1 =>
  wr I a0 9 a1 fun I2 =>
  K x1 I2
def f_X3_rise (a0 : Nat) (a1 : Int32) (I : IT) (K : Int32 → Prop) : Prop :=
  inr a1 4 ∧ (
  K (((nI 3) * (I (a0 + 4) (ix a1))) - (nI 1)))
def f_X3_heated (a0 : Nat) (a1 : Int32) (I : IT) (K : Int32 → Prop) : Prop :=
  inr a1 4 ∧ (
  f_X3_rise a0 a1 I (fun x2 =>
  K (if (nI 40) < (if ((I (a0 + 3) (ix a1)) + x2) < (nI 200) then ((I (a0 + 3) (ix a1)) + x2) else (nI 200)) then (if ((I (a0 + 3) (ix a1)) + x2) < (nI 200) then ((I (a0 + 3) (ix a1)) + x2) else (nI 200)) else (nI 40))))
def f_X3_passMinute_b94 (a0 : Nat) (a1 : Int32) (K : Int32 → IT → Prop) (s0 : Int32) (I : IT) : Prop :=
  inr a1 4 ∧ (
  wr I (a0 + 2) (ix a1) ((I (a0 + 2) (ix a1)) - s0) fun I2 =>
  K s0 I2)
def f_X3_passMinute_b65 (a0 : Nat) (a1 : Int32) (K : Int32 → IT → Prop) (s2 : Int32) (I : IT) : Prop :=
  inr a1 4 ∧ (
  wr I (a0 + 5) (ix a1) s2 fun I2 =>
  if (I2 (a0 + 5) (ix a1)) = 0 then (
    f_X3_passMinute_b94 a0 a1 K (nI 0) I2)
  else (
    f_X3_passMinute_b94 a0 a1 K (if (I2 (a0 + 2) (ix a1)) < (I2 (a0 + 4) (ix a1)) then (I2 (a0 + 2) (ix a1)) else (I2 (a0 + 4) (ix a1))) I2))
def f_X3_passMinute_b64 (a0 : Nat) (a1 : Int32) (K : Int32 → IT → Prop)  (I : IT) : Prop :=
  f_X3_passMinute_b65 a0 a1 K (nI 0) I
def f_X3_passMinute_b24 (a0 : Nat) (a1 : Int32) (K : Int32 → IT → Prop) (s2 : Int32) (I : IT) : Prop :=
  inr a1 4 ∧ (
  wr I (a0 + 3) (ix a1) s2 fun I2 =>
  if (I2 (a0 + 2) (ix a1)) ≤ 0 then (
    f_X3_passMinute_b64 a0 a1 K I2)
  else (
    if (I2 (a0 + 3) (ix a1)) = (nI 200) then (
      if (I2 (a0 + 4) (ix a1)) ≤ 0 then (
        f_X3_passMinute_b64 a0 a1 K I2)
      else (
        f_X3_passMinute_b65 a0 a1 K (nI 1) I2))
    else (
      f_X3_passMinute_b64 a0 a1 K I2)))
def f_X3_passMinute (a0 : Nat) (a1 : Int32) (I : IT) (K : Int32 → IT → Prop) : Prop :=
  inr a1 4 ∧ (
  if (I (a0 + 2) (ix a1)) = 0 then (
    f_X3_passMinute_b24 a0 a1 K (nI 40) I)
  else (
    f_X3_heated a0 a1 I (fun x3 =>
    f_X3_passMinute_b24 a0 a1 K x3 I)))
def f_X1_passMinutes_b12 (a0 : Nat) (a1 : Int32) (X4 : Int32 → Int32 → IT → Prop) (K : Int32 → IT → Prop) : Nat → Int32 → Int32 → Int32 → IT → Prop
  | 0, _, _, _, _ => False
  | n + 1, v2, v3, v4, I =>
    if (I (a0 + 1) 5) ≤ v4 then (
      bnd (v3 + nI 1) fun x2 =>
      X4 v2 x2 I)
    else (
      inr v4 4 ∧ (
      bnd (I (a0 + 6) (ix v4)) fun x4 =>
      f_X3_passMinute (a0 + 1) v4 I (fun x5 I6 =>
      wr I6 a0 4 ((I6 a0 4) + x5) fun I7 =>
      wr I7 a0 5 ((I7 a0 5) + x5) fun I8 =>
      if (I8 (a0 + 6) (ix v4)) = 0 then (
        bnd (v4 + nI 1) fun x10 =>
        f_X1_passMinutes_b12 a0 a1 X4 K n v2 v3 x10 I8)
      else (
        if x4 = 0 then (
          bnd (v2 + nI 1) fun x12 =>
          bnd (v4 + nI 1) fun x13 =>
          f_X1_passMinutes_b12 a0 a1 X4 K n x12 v3 x13 I8)
        else (
          bnd (v4 + nI 1) fun x14 =>
          f_X1_passMinutes_b12 a0 a1 X4 K n v2 v3 x14 I8)))))
def f_X1_passMinutes_b4 (a0 : Nat) (a1 : Int32) (K : Int32 → IT → Prop) : Nat → Int32 → Int32 → IT → Prop
  | 0, _, _, _ => False
  | n + 1, v2, v3, I =>
    if a1 ≤ v3 then (
      if (I a0 10) = 0 then (
        wr I a0 13 ((I a0 13) + v2) fun I3 =>
        K v2 I3)
      else (
        wr I a0 12 ((I a0 12) + v2) fun I4 =>
        K v2 I4))
    else (
      f_X1_passMinutes_b12 a0 a1 (fun y0_0 y0_1 I0_ => f_X1_passMinutes_b4 a0 a1 K n y0_0 y0_1 I0_) K 4096 v2 v3 (nI 0) I)
def f_X1_passMinutes (a0 : Nat) (a1 : Int32) (I : IT) (K : Int32 → IT → Prop) : Prop :=
  f_X1_passMinutes_b4 a0 a1 K 4096 (nI 0) (nI 0) I
def f_X4_enterSteam (a0 : Nat) (a1 : Int32) (I : IT) (K : IT → Prop) : Prop :=
  wr I a0 3 ((I a0 3) + a1) fun I1 =>
  wr I1 a0 5 ((I1 a0 5) + a1) fun I2 =>
  K I2
def f_X1_sell (a0 : Nat) (a1 : Int32) (I : IT) (K : Int32 → IT → Prop) : Prop :=
  bnd (a1 * (I a0 9)) fun x1 =>
  wr I a0 4 ((I a0 4) - a1) fun I2 =>
  f_X4_enterSteam (a0 + 13) x1 I2 (fun I3 =>
  K x1 I3)
def f_X4_enterCups (a0 : Nat) (a1 : Int32) (I : IT) (K : IT → Prop) : Prop :=
  wr I a0 3 ((I a0 3) + a1) fun I1 =>
  wr I1 a0 4 ((I1 a0 4) + a1) fun I2 =>
  K I2
def f_X5_remove_b15 (a0 : Nat) (a1 : Int32) (K : IT → Prop) : Nat → Int32 → IT → Prop
  | 0, _, _ => False
  | n + 1, v2, I =>
    if ((I a0 5) - (nI 1)) ≤ v2 then (
      wr I a0 5 ((I a0 5) - (nI 1)) fun I2 =>
      K I2)
    else (
      f_X5_copyOrder a0 a0 (v2 + (nI 1)) v2 I (fun I3 =>
      bnd (v2 + nI 1) fun x4 =>
      f_X5_remove_b15 a0 a1 K n x4 I3))
def f_X5_remove (a0 : Nat) (a1 : Int32) (I : IT) (K : IT → Prop) : Prop :=
  if a1 < 0 then (
    K I)
  else (
    if a1 < (I a0 5) then (
      f_X5_remove_b15 a0 a1 K 4096 a1 I)
    else (
      K I))
def f_X1_serveFirst (a0 : Nat) (I : IT) (K : Int32 → IT → Prop) : Prop :=
  f_X1_kettleForFirst a0 I (fun x1 =>
  if x1 = (-1) then (
    K (-1) I)
  else (
    bnd (I (a0 + 10) 0) fun x3 =>
    bnd (I (a0 + 8) 0) fun x4 =>
    inr x1 4 ∧ (
    wr I (a0 + 3) (ix x1) ((I (a0 + 3) (ix x1)) - (x3 * (nI 2))) fun I6 =>
    wr I6 a0 6 ((I6 a0 6) + (x3 * (nI 2))) fun I7 =>
    wr I7 a0 3 ((I7 a0 3) - x3) fun I8 =>
    wr I8 a0 11 ((I8 a0 11) + (nI 1)) fun I9 =>
    f_X4_enterCups (a0 + 13) (x3 * (I9 a0 8)) I9 (fun I10 =>
    f_X5_remove (a0 + 7) (nI 0) I10 (fun I11 =>
    K x4 I11)))))
def f_X3_add (a0 : Nat) (a1 : Int32) (I : IT) (K : Int32 → IT → Prop) : Prop :=
  if (I a0 5) < (nI 4) then (
    bnd (I a0 5) fun x2 =>
    inr x2 4 ∧ (
    wr I (a0 + 1) (ix x2) a1 fun I4 =>
    wr I4 (a0 + 2) (ix x2) (nI 0) fun I5 =>
    wr I5 (a0 + 3) (ix x2) (nI 40) fun I6 =>
    wr I6 (a0 + 4) (ix x2) (nI 0) fun I7 =>
    wr I7 (a0 + 5) (ix x2) (nI 0) fun I8 =>
    wr I8 a0 5 ((I8 a0 5) + (nI 1)) fun I9 =>
    K x2 I9))
  else (
    K (-1) I)
def f_X3_pourIn_b40 (a0 : Nat) (a1 : Int32) (a2 : Int32) (K : Int32 → IT → Prop) (v4 : Int32) (I : IT) : Prop :=
  inr a1 4 ∧ (
  wr I (a0 + 2) (ix a1) v4 fun I2 =>
  K (I2 (a0 + 3) (ix a1)) I2)
def f_X3_pourIn (a0 : Nat) (a1 : Int32) (a2 : Int32) (I : IT) (K : Int32 → IT → Prop) : Prop :=
  inr a1 4 ∧ (
  bnd (I (a0 + 2) (ix a1)) fun x2 =>
  bnd (x2 + a2) fun x3 =>
  if x3 ≤ 0 then (
    f_X3_pourIn_b40 a0 a1 a2 K x3 I)
  else (
    ¬ x3 = 0 ∧ (
    wr I (a0 + 3) (ix a1) ((nI 40) + ((((I (a0 + 3) (ix a1)) - (nI 40)) * x2) / x3)) fun I6 =>
    f_X3_pourIn_b40 a0 a1 a2 K x3 I6)))
def f_X3_turnBurner (a0 : Nat) (a1 : Int32) (a2 : Int32) (I : IT) (K : Int32 → IT → Prop) : Prop :=
  inr a1 4 ∧ (
  bnd (I (a0 + 4) (ix a1)) fun x2 =>
  wr I (a0 + 4) (ix a1) a2 fun I3 =>
  K x2 I3)
def f_X4_enterNight (a0 : Nat) (I : IT) (K : Int32 → IT → Prop) : Prop :=
  if (I a0 2) < (nI 14) then (
    bnd (I a0 3) fun x2 =>
    inr (I a0 2) 14 ∧ (
    wr I (a0 + 1) (ix (I a0 2)) x2 fun I4 =>
    inr (I4 a0 2) 15 ∧ (
    inr ((I4 a0 2) + (nI 1)) 15 ∧ (
    wr I4 (a0 + 2) (ix ((I4 a0 2) + (nI 1))) ((I4 (a0 + 2) (ix (I4 a0 2))) + x2) fun I7 =>
    wr I7 a0 2 ((I7 a0 2) + (nI 1)) fun I8 =>
    wr I8 a0 3 (nI 0) fun I9 =>
    K x2 I9))))
  else (
    K (-1) I)
def f_X5_add_b17 (a0 : Nat) (a1 : Int32) (a2 : Int32) (a3 : Int32) (a4 : Int32) (X53 : Int32 → IT → Prop) (K : Int32 → IT → Prop) : Nat → Int32 → IT → Prop
  | 0, _, _ => False
  | n + 1, v5, I =>
    if v5 ≤ 0 then (
      X53 v5 I)
    else (
      inr (v5 - (nI 1)) 10 ∧ (
      if a4 ≤ (I (a0 + 5) (ix (v5 - (nI 1)))) then (
        X53 v5 I)
      else (
        f_X5_copyOrder a0 a0 (v5 - (nI 1)) v5 I (fun I4 =>
        bnd (v5 + (-1)) fun x5 =>
        f_X5_add_b17 a0 a1 a2 a3 a4 X53 K n x5 I4))))
def f_X5_add_b53 (a0 : Nat) (a1 : Int32) (a2 : Int32) (a3 : Int32) (a4 : Int32) (K : Int32 → IT → Prop) (v5 : Int32) (I : IT) : Prop :=
  inr v5 10 ∧ (
  wr I (a0 + 1) (ix v5) (I a0 6) fun I2 =>
  wr I2 (a0 + 2) (ix v5) a1 fun I3 =>
  wr I3 (a0 + 3) (ix v5) a2 fun I4 =>
  wr I4 (a0 + 4) (ix v5) a3 fun I5 =>
  wr I5 (a0 + 5) (ix v5) a4 fun I6 =>
  wr I6 a0 5 ((I6 a0 5) + (nI 1)) fun I7 =>
  wr I7 a0 6 ((I7 a0 6) + (nI 1)) fun I8 =>
  K (I8 (a0 + 1) (ix v5)) I8)
def f_X5_add (a0 : Nat) (a1 : Int32) (a2 : Int32) (a3 : Int32) (a4 : Int32) (I : IT) (K : Int32 → IT → Prop) : Prop :=
  if (I a0 5) < (nI 10) then (
    bnd (I a0 5) fun x2 =>
    f_X5_add_b17 a0 a1 a2 a3 a4 (fun y0_0 I0_ => f_X5_add_b53 a0 a1 a2 a3 a4 K y0_0 I0_) K 4096 x2 I)
  else (
    K (-1) I)
def f_X1_perform_b216 (a0 : Nat) (a1 : Nat) (a2 : Int32) (a3 : Int32) (a4 : Int32) (a5 : Int32) (K : Int32 → IT → Prop)  (I : IT) : Prop :=
  f_X4_enterNight (a0 + 13) I (fun x1 I2 =>
  K x1 I2)
def f_X1_perform_b212 (a0 : Nat) (a1 : Nat) (a2 : Int32) (a3 : Int32) (a4 : Int32) (a5 : Int32) (K : Int32 → IT → Prop) (s1 : Int32) (I : IT) : Prop :=
  f_X1_exchangeAttendant a0 s1 I (fun x1 I2 =>
  K x1 I2)
def f_X1_perform (a0 : Nat) (a1 : Nat) (a2 : Int32) (a3 : Int32) (a4 : Int32) (a5 : Int32) (I : IT) (K : Int32 → IT → Prop) : Prop :=
  inr (nI (ordN a1)) 13 ∧ (
  if (swmC (ix (nI (ordN a1)))) = (nI 1) then (
    f_X3_add (a0 + 1) (a2 * (nI 2)) I (fun x2 I3 =>
    K x2 I3))
  else (
  if (swmC (ix (nI (ordN a1)))) = (nI 2) then (
    wr I a0 7 ((I a0 7) + (a3 * (nI 2))) fun I4 =>
    f_X3_pourIn (a0 + 1) a2 (a3 * (nI 2)) I4 (fun x5 I6 =>
    K x5 I6))
  else (
  if (swmC (ix (nI (ordN a1)))) = (nI 3) then (
    f_X3_turnBurner (a0 + 1) a2 a3 I (fun x7 I8 =>
    K x7 I8))
  else (
  if (swmC (ix (nI (ordN a1)))) = (nI 4) then (
    f_X5_add (a0 + 7) a2 a3 a4 a5 I (fun x9 I10 =>
    K x9 I10))
  else (
  if (swmC (ix (nI (ordN a1)))) = (nI 5) then (
    f_X5_find (a0 + 7) a2 I (fun x11 =>
    f_X5_remove (a0 + 7) x11 I (fun I12 =>
    K (I12 (a0 + 7) 5) I12)))
  else (
  if (swmC (ix (nI (ordN a1)))) = (nI 6) then (
    f_X1_serveFirst a0 I (fun x13 I14 =>
    K x13 I14))
  else (
  if (swmC (ix (nI (ordN a1)))) = (nI 7) then (
    wr I a0 3 ((I a0 3) + a2) fun I15 =>
    K (I15 a0 3) I15)
  else (
  if (swmC (ix (nI (ordN a1)))) = (nI 8) then (
    f_X1_sell a0 a2 I (fun x16 I17 =>
    K x16 I17))
  else (
  if (swmC (ix (nI (ordN a1)))) = (nI 9) then (
    f_X1_passMinutes a0 a2 I (fun x18 I19 =>
    K x18 I19))
  else (
  if (swmC (ix (nI (ordN a1)))) = (nI 10) then (
    f_X1_exchangeCupPrice a0 a2 I (fun x20 I21 =>
    K x20 I21))
  else (
  if (swmC (ix (nI (ordN a1)))) = (nI 11) then (
    f_X1_exchangeSteamPrice a0 a2 I (fun x22 I23 =>
    K x22 I23))
  else (
  if (swmC (ix (nI (ordN a1)))) = (nI 12) then (
    f_X1_perform_b216 a0 a1 a2 a3 a4 a5 K I)
  else (
  if (swmC (ix (nI (ordN a1)))) = (nI 13) then (
    if a2 = 0 then (
      f_X1_perform_b212 a0 a1 a2 a3 a4 a5 K (nI 0) I)
    else (
      f_X1_perform_b212 a0 a1 a2 a3 a4 a5 K (nI 1) I))
  else (
    f_X1_perform_b216 a0 a1 a2 a3 a4 a5 K I))))))))))))))
def f_X3_heatingTime (a0 : Nat) (a1 : Int32) (I : IT) (K : Int32 → Prop) : Prop :=
  f_X3_rise a0 a1 I (fun x1 =>
  inr a1 4 ∧ (
  if (I (a0 + 2) (ix a1)) = 0 then (
    K (-1))
  else (
    if 0 < x1 then (
      bnd ((nI 200) - (I (a0 + 3) (ix a1))) fun x5 =>
      ¬ x1 = 0 ∧ (
      K (if (nI 1) < (((x5 + x1) - (nI 1)) / x1) then (((x5 + x1) - (nI 1)) / x1) else (nI 1))))
    else (
      K (-1)))))
def f_X3_isAhead (a0 : Nat) (a1 : Int32) (a2 : Int32) (I : IT) (K : Int32 → Prop) : Prop :=
  inr a1 4 ∧ (
  inr a2 4 ∧ (
  if (I (a0 + 3) (ix a1)) = (I (a0 + 3) (ix a2)) then (
    if (I (a0 + 2) (ix a1)) = (I (a0 + 2) (ix a2)) then (
      if a2 ≤ a1 then (
        K (nI 0))
      else (
        K (nI 1)))
    else (
      if (I (a0 + 2) (ix a1)) ≤ (I (a0 + 2) (ix a2)) then (
        K (nI 0))
      else (
        K (nI 1))))
  else (
    if (I (a0 + 3) (ix a1)) ≤ (I (a0 + 3) (ix a2)) then (
      K (nI 0))
    else (
      K (nI 1)))))
def f_X3_rankOf_b4 (a0 : Nat) (a1 : Int32) (I : IT) (K : Int32 → Prop) : Nat → Int32 → Int32 → Prop
  | 0, _, _ => False
  | n + 1, v2, v3 =>
    if (I a0 5) ≤ v3 then (
      K v2)
    else (
      f_X3_isAhead a0 v3 a1 I (fun x2 =>
      if x2 = 0 then (
        bnd (v3 + nI 1) fun x4 =>
        f_X3_rankOf_b4 a0 a1 I K n v2 x4)
      else (
        bnd (v2 + nI 1) fun x5 =>
        bnd (v3 + nI 1) fun x6 =>
        f_X3_rankOf_b4 a0 a1 I K n x5 x6)))
def f_X3_rankOf (a0 : Nat) (a1 : Int32) (I : IT) (K : Int32 → Prop) : Prop :=
  f_X3_rankOf_b4 a0 a1 I K 4096 (nI 0) (nI 0)
def f_X3_ranked_b2 (a0 : Nat) (a1 : Int32) (I : IT) (K : Int32 → Prop) : Nat → Int32 → Prop
  | 0, _ => False
  | n + 1, v2 =>
    if (I a0 5) ≤ v2 then (
      K (-1))
    else (
      f_X3_rankOf a0 v2 I (fun x2 =>
      if x2 = a1 then (
        K v2)
      else (
        bnd (v2 + nI 1) fun x4 =>
        f_X3_ranked_b2 a0 a1 I K n x4)))
def f_X3_ranked (a0 : Nat) (a1 : Int32) (I : IT) (K : Int32 → Prop) : Prop :=
  f_X3_ranked_b2 a0 a1 I K 4096 (nI 0)
def f_X3_isRankedOnceEach_b4 (a0 : Nat) (I : IT) (K : Int32 → Prop) : Nat → Int32 → Int32 → Prop
  | 0, _, _ => False
  | n + 1, v1, v2 =>
    if (I a0 5) ≤ v2 then (
      K (nI 1))
    else (
      f_X3_ranked a0 v2 I (fun x2 =>
      f_X3_has a0 x2 I (fun x3 =>
      if x3 = 0 then (
        K (nI 0))
      else (
        if (v1 &&& ((nI 1) <<< (x2 &&& 31))) = 0 then (
          bnd (v1 ||| ((nI 1) <<< (x2 &&& 31))) fun x6 =>
          bnd (v2 + nI 1) fun x7 =>
          f_X3_isRankedOnceEach_b4 a0 I K n x6 x7)
        else (
          K (nI 0))))))
def f_X3_isRankedOnceEach (a0 : Nat) (I : IT) (K : Int32 → Prop) : Prop :=
  f_X3_isRankedOnceEach_b4 a0 I K 4096 (nI 0) (nI 0)
def f_X3_totalVolume_b4 (a0 : Nat) (I : IT) (K : Int32 → Prop) : Nat → Int32 → Int32 → Prop
  | 0, _, _ => False
  | n + 1, v1, v2 =>
    if (I a0 5) ≤ v2 then (
      K v1)
    else (
      inr v2 4 ∧ (
      bnd (v1 + (I (a0 + 2) (ix v2))) fun x3 =>
      bnd (v2 + nI 1) fun x4 =>
      f_X3_totalVolume_b4 a0 I K n x3 x4))
def f_X3_totalVolume (a0 : Nat) (I : IT) (K : Int32 → Prop) : Prop :=
  f_X3_totalVolume_b4 a0 I K 4096 (nI 0) (nI 0)
def f_X3_describe_b87 (a0 : Nat) (a1 : Int32) (K : IT → Prop)  (I : IT) : Prop :=
  inr a1 4 ∧ (
  if (I (a0 + 5) (ix a1)) = 0 then (
    K I)
  else (
    f_J4_append_cf468 (nI 33) I (fun x3 I4 =>
    K I4)))
def f_X3_describe (a0 : Nat) (a1 : Int32) (I : IT) (K : IT → Prop) : Prop :=
  f_J4_append_cf468 (nI 75) I (fun x1 I2 =>
  f_J4_append_bf812 a1 I2 (fun x3 I4 =>
  f_J4_append_cf468 (nI 32) I4 (fun x5 I6 =>
  inr a1 4 ∧ (
  f_J4_append_bf812 (I6 (a0 + 2) (ix a1)) I6 (fun x8 I9 =>
  f_J4_append_cf468 (nI 47) I9 (fun x10 I11 =>
  f_J4_append_bf812 (I11 (a0 + 1) (ix a1)) I11 (fun x12 I13 =>
  f_J4_append_cf468 (nI 32) I13 (fun x14 I15 =>
  f_J4_append_bf812 (I15 (a0 + 3) (ix a1)) I15 (fun x16 I17 =>
  f_J4_append_cf468 (nI 104) I17 (fun x18 I19 =>
  if (I19 (a0 + 4) (ix a1)) ≤ 0 then (
    f_X3_describe_b87 a0 a1 K I19)
  else (
    f_J4_append_15ec4 1000053 I19 (fun x21 I22 =>
    f_J4_append_bf812 (I22 (a0 + 4) (ix a1)) I22 (fun x23 I24 =>
    f_X3_describe_b87 a0 a1 K I24)))))))))))))
def f_X4_rankOf_b4 (a0 : Nat) (a1 : Int32) (I : IT) (K : Int32 → Prop) : Nat → Int32 → Int32 → Prop
  | 0, _, _ => False
  | n + 1, v2, v3 =>
    if (I a0 2) ≤ v3 then (
      K v2)
    else (
      inr v3 14 ∧ (
      inr a1 14 ∧ (
      if (I (a0 + 1) (ix a1)) < (I (a0 + 1) (ix v3)) then (
        bnd (v2 + nI 1) fun x5 =>
        bnd (v3 + nI 1) fun x6 =>
        f_X4_rankOf_b4 a0 a1 I K n x5 x6)
      else (
        if (I (a0 + 1) (ix v3)) = (I (a0 + 1) (ix a1)) then (
          if a1 ≤ v3 then (
            bnd (v3 + nI 1) fun x9 =>
            f_X4_rankOf_b4 a0 a1 I K n v2 x9)
          else (
            bnd (v2 + nI 1) fun x10 =>
            bnd (v3 + nI 1) fun x11 =>
            f_X4_rankOf_b4 a0 a1 I K n x10 x11))
        else (
          bnd (v3 + nI 1) fun x12 =>
          f_X4_rankOf_b4 a0 a1 I K n v2 x12)))))
def f_X4_rankOf (a0 : Nat) (a1 : Int32) (I : IT) (K : Int32 → Prop) : Prop :=
  f_X4_rankOf_b4 a0 a1 I K 4096 (nI 0) (nI 0)
def f_X4_ranked_b2 (a0 : Nat) (a1 : Int32) (I : IT) (K : Int32 → Prop) : Nat → Int32 → Prop
  | 0, _ => False
  | n + 1, v2 =>
    if (I a0 2) ≤ v2 then (
      K (-1))
    else (
      f_X4_rankOf a0 v2 I (fun x2 =>
      if x2 = a1 then (
        K v2)
      else (
        bnd (v2 + nI 1) fun x4 =>
        f_X4_ranked_b2 a0 a1 I K n x4)))
def f_X4_ranked (a0 : Nat) (a1 : Int32) (I : IT) (K : Int32 → Prop) : Prop :=
  f_X4_ranked_b2 a0 a1 I K 4096 (nI 0)
def f_X4_greatestByAdding_b20 (a0 : Nat) (a1 : Int32) (I : IT) (X4 : Int32 → Int32 → Prop) (K : Int32 → Prop) : Nat → Int32 → Int32 → Int32 → Int32 → Prop
  | 0, _, _, _, _ => False
  | n + 1, v2, v3, v4, v5 =>
    if (v3 + a1) ≤ v5 then (
      bnd (if v2 < v4 then v4 else v2) fun x2 =>
      bnd (v3 + nI 1) fun x3 =>
      X4 x2 x3)
    else (
      inr v5 14 ∧ (
      bnd (v4 + (I (a0 + 1) (ix v5))) fun x5 =>
      bnd (v5 + nI 1) fun x6 =>
      f_X4_greatestByAdding_b20 a0 a1 I X4 K n v2 v3 x5 x6))
def f_X4_greatestByAdding_b4 (a0 : Nat) (a1 : Int32) (I : IT) (K : Int32 → Prop) : Nat → Int32 → Int32 → Prop
  | 0, _, _ => False
  | n + 1, v2, v3 =>
    if ((I a0 2) - a1) < v3 then (
      K v2)
    else (
      f_X4_greatestByAdding_b20 a0 a1 I (fun y0_0 y0_1 => f_X4_greatestByAdding_b4 a0 a1 I K n y0_0 y0_1) K 4096 v2 v3 (nI 0) v3)
def f_X4_greatestByAdding (a0 : Nat) (a1 : Int32) (I : IT) (K : Int32 → Prop) : Prop :=
  f_X4_greatestByAdding_b4 a0 a1 I K 4096 (nI 0) (nI 0)
def f_X4_greatestByDifferences_b4 (a0 : Nat) (a1 : Int32) (I : IT) (K : Int32 → Prop) : Nat → Int32 → Int32 → Prop
  | 0, _, _ => False
  | n + 1, v2, v3 =>
    if ((I a0 2) - a1) < v3 then (
      K v2)
    else (
      inr (v3 + a1) 15 ∧ (
      inr v3 15 ∧ (
      bnd (if v2 < ((I (a0 + 2) (ix (v3 + a1))) - (I (a0 + 2) (ix v3))) then ((I (a0 + 2) (ix (v3 + a1))) - (I (a0 + 2) (ix v3))) else v2) fun x4 =>
      bnd (v3 + nI 1) fun x5 =>
      f_X4_greatestByDifferences_b4 a0 a1 I K n x4 x5)))
def f_X4_greatestByDifferences (a0 : Nat) (a1 : Int32) (I : IT) (K : Int32 → Prop) : Prop :=
  f_X4_greatestByDifferences_b4 a0 a1 I K 4096 (nI 0) (nI 0)
def f_X4_totalOfNights_b7 (a0 : Nat) (I : IT) (K : Int32 → Prop) : Nat → Int32 → Int32 → Prop
  | 0, _, _ => False
  | n + 1, v1, v2 =>
    if (I a0 2) ≤ v2 then (
      K v1)
    else (
      inr v2 14 ∧ (
      bnd (v1 + (I (a0 + 1) (ix v2))) fun x3 =>
      bnd (v2 + nI 1) fun x4 =>
      f_X4_totalOfNights_b7 a0 I K n x3 x4))
def f_X4_totalOfNights (a0 : Nat) (I : IT) (K : Int32 → Prop) : Prop :=
  bnd (I a0 3) fun x1 =>
  f_X4_totalOfNights_b7 a0 I K 4096 x1 (nI 0)
def f_X4_totalOfSales (a0 : Nat) (I : IT) (K : Int32 → Prop) : Prop :=
  K ((I a0 4) + (I a0 5))
def f_X4_isConsistent_b2 (a0 : Nat) (I : IT) (K : Int32 → Prop) : Nat → Int32 → Prop
  | 0, _ => False
  | n + 1, v1 =>
    if (I a0 2) < v1 then (
      f_X4_totalOfNights a0 I (fun x2 =>
      f_X4_totalOfSales a0 I (fun x3 =>
      if x2 = x3 then (
        K (nI 1))
      else (
        K (nI 0)))))
    else (
      f_X4_greatestByAdding a0 v1 I (fun x5 =>
      f_X4_greatestByDifferences a0 v1 I (fun x6 =>
      if x5 = x6 then (
        bnd (v1 + nI 1) fun x8 =>
        f_X4_isConsistent_b2 a0 I K n x8)
      else (
        K (nI 0)))))
def f_X4_isConsistent (a0 : Nat) (I : IT) (K : Int32 → Prop) : Prop :=
  f_X4_isConsistent_b2 a0 I K 4096 (nI 1)
def f_X4_describe_b2 (a0 : Nat) (K : IT → Prop) : Nat → Int32 → IT → Prop
  | 0, _, _ => False
  | n + 1, v2, I =>
    if (I a0 2) ≤ v2 then (
      K I)
    else (
      if v2 ≤ 0 then (
        inr v2 14 ∧ (
        f_J4_append_bf812 (I (a0 + 1) (ix v2)) I (fun x4 I5 =>
        bnd (v2 + nI 1) fun x6 =>
        f_X4_describe_b2 a0 K n x6 I5)))
      else (
        f_J4_append_cf468 (nI 32) I (fun x7 I8 =>
        inr v2 14 ∧ (
        f_J4_append_bf812 (I8 (a0 + 1) (ix v2)) I8 (fun x10 I11 =>
        bnd (v2 + nI 1) fun x12 =>
        f_X4_describe_b2 a0 K n x12 I11)))))
def f_X4_describe (a0 : Nat) (I : IT) (K : IT → Prop) : Prop :=
  f_X4_describe_b2 a0 K 15 (nI 0) I
def f_X5_numberAt (a0 : Nat) (a1 : Int32) (I : IT) (K : Int32 → Prop) : Prop :=
  if a1 < 0 then (
    K (-1))
  else (
    if (I a0 5) ≤ a1 then (
      K (-1))
    else (
      inr a1 10 ∧ (
      K (I (a0 + 1) (ix a1)))))
def f_X5_isConsistent_b2 (a0 : Nat) (I : IT) (K : Int32 → Prop) : Nat → Int32 → Prop
  | 0, _ => False
  | n + 1, v1 =>
    if (I a0 5) ≤ v1 then (
      K (nI 1))
    else (
      f_X5_numberAt a0 v1 I (fun x2 =>
      f_X5_find a0 x2 I (fun x3 =>
      if x3 = v1 then (
        bnd (v1 + nI 1) fun x5 =>
        f_X5_isConsistent_b2 a0 I K n x5)
      else (
        K (nI 0)))))
def f_X5_isConsistent (a0 : Nat) (I : IT) (K : Int32 → Prop) : Prop :=
  f_X5_isConsistent_b2 a0 I K 4096 (nI 0)
def f_X5_describe (a0 : Nat) (a1 : Int32) (I : IT) (K : IT → Prop) : Prop :=
  f_J4_append_cf468 (nI 35) I (fun x1 I2 =>
  inr a1 10 ∧ (
  f_J4_append_bf812 (I2 (a0 + 1) (ix a1)) I2 (fun x4 I5 =>
  f_J4_append_15ec4 1000057 I5 (fun x6 I7 =>
  f_J4_append_bf812 (I7 (a0 + 2) (ix a1)) I7 (fun x8 I9 =>
  f_J4_append_cf468 (nI 32) I9 (fun x10 I11 =>
  f_J4_append_bf812 (I11 (a0 + 3) (ix a1)) I11 (fun x12 I13 =>
  f_J4_append_cf468 (nI 120) I13 (fun x14 I15 =>
  f_J4_append_bf812 (I15 (a0 + 4) (ix a1)) I15 (fun x16 I17 =>
  f_J4_append_15ec4 1000058 I17 (fun x18 I19 =>
  f_J4_append_bf812 (I19 (a0 + 5) (ix a1)) I19 (fun x20 I21 =>
  K I21)))))))))))
def f_X8_remember (I : IT) (K : IT → Prop) : Prop :=
  inr (I 0 9) 8 ∧ (
  f_X1_copyFrom (62 + 16 * ix (I 0 9)) 1 I (fun I2 =>
  wr I2 0 9 (((I2 0 9) + (nI 1)) - ((I2 0 9) + (nI 1)) / (nI 8) * (nI 8)) fun I3 =>
  wr I3 0 8 (if (nI 8) < ((I3 0 8) + (nI 1)) then (nI 8) else ((I3 0 8) + (nI 1))) fun I4 =>
  K I4))
def f_X8_requireAllowed (a0 : Nat) (I : IT) (K : Prop) (KT : String → Prop) : Prop :=
  if a0 = 1000021 then (
    KT "java/lang/IndexOutOfBoundsException")
  else (
    if a0 = 1000022 then (
      KT "java/lang/IllegalArgumentException")
    else (
      if a0 = 1000023 then (
        KT "java/lang/IllegalStateException")
      else (
        if a0 = 1000024 then (
          KT "java/util/NoSuchElementException")
        else (
          K))))
def f_X8_change (a1 : Nat) (a2 : Int32) (a3 : Int32) (a4 : Int32) (a5 : Int32) (I : IT) (K : Int32 → IT → Prop) (KT : String → IT → Prop) : Prop :=
  f_X1_refusal 1 a1 a2 a3 a4 a5 I (fun x1 =>
  f_X8_requireAllowed x1 I (
  f_X8_remember I (fun I2 =>
  f_X1_perform 1 a1 a2 a3 a4 a5 I2 (fun x3 I4 =>
  K x3 I4))) (fun E => KT E I))
def f_X8_addKettle (a1 : Int32) (I : IT) (K : Int32 → IT → Prop) (KT : String → IT → Prop) : Prop :=
  f_X8_change 1000000 a1 (nI 0) (nI 0) (nI 0) I (fun x1 I2 =>
  K x1 I2) KT
def f_X8_halves (a0 : Int32) (I : IT) (K : UInt32 → Prop) : Prop :=
  vf_n32 (FP.fmul (FP.i2f a0) 1056964608) ∧ (
  K (FP.fmul (FP.i2f a0) 1056964608))
def f_X8_fill (a1 : Int32) (a2 : Int32) (I : IT) (K : UInt32 → IT → Prop) (KT : String → IT → Prop) : Prop :=
  f_X8_change 1000001 a1 a2 (nI 0) (nI 0) I (fun x1 I2 =>
  f_X8_halves x1 I2 (fun x3 =>
  K x3 I2)) KT
def f_X8_setBurner (a1 : Int32) (a2 : Int32) (I : IT) (K : Int32 → IT → Prop) (KT : String → IT → Prop) : Prop :=
  f_X8_change 1000002 a1 a2 (nI 0) (nI 0) I (fun x1 I2 =>
  K x1 I2) KT
def f_X8_order (a1 : Int32) (a2 : Int32) (a3 : Int32) (a4 : Int32) (I : IT) (K : Int32 → IT → Prop) (KT : String → IT → Prop) : Prop :=
  f_X8_change 1000003 a1 a2 a3 a4 I (fun x1 I2 =>
  K x1 I2) KT
def f_X8_cancel (a1 : Int32) (I : IT) (K : Int32 → IT → Prop) (KT : String → IT → Prop) : Prop :=
  f_X8_change 1000004 a1 (nI 0) (nI 0) (nI 0) I (fun x1 I2 =>
  K x1 I2) KT
def f_X8_serveNext (I : IT) (K : Int32 → IT → Prop) (KT : String → IT → Prop) : Prop :=
  f_X8_change 1000005 (nI 0) (nI 0) (nI 0) (nI 0) I (fun x1 I2 =>
  K x1 I2) KT
def f_X8_wash (a1 : Int32) (I : IT) (K : Int32 → IT → Prop) (KT : String → IT → Prop) : Prop :=
  f_X8_change 1000006 a1 (nI 0) (nI 0) (nI 0) I (fun x1 I2 =>
  K x1 I2) KT
def f_X8_eighths (a0 : Int32) (I : IT) (K : UInt32 → Prop) : Prop :=
  vf_n32 (FP.fmul (FP.i2f a0) 1040187392) ∧ (
  K (FP.fmul (FP.i2f a0) 1040187392))
def f_X8_sellSteam (a1 : Int32) (I : IT) (K : UInt32 → IT → Prop) (KT : String → IT → Prop) : Prop :=
  f_X8_change 1000007 a1 (nI 0) (nI 0) (nI 0) I (fun x1 I2 =>
  f_X8_eighths x1 I2 (fun x3 =>
  K x3 I2)) KT
def f_X8_setCupPrice (a1 : Int32) (I : IT) (K : UInt32 → IT → Prop) (KT : String → IT → Prop) : Prop :=
  f_X8_change 1000009 a1 (nI 0) (nI 0) (nI 0) I (fun x1 I2 =>
  f_X8_eighths x1 I2 (fun x3 =>
  K x3 I2)) KT
def f_X8_setSteamPrice (a1 : Int32) (I : IT) (K : UInt32 → IT → Prop) (KT : String → IT → Prop) : Prop :=
  f_X8_change 1000010 a1 (nI 0) (nI 0) (nI 0) I (fun x1 I2 =>
  K (FP.i2f x1) I2) KT
def f_X8_setAttendant_b13 (a1 : Int32) (K : Int32 → IT → Prop) (KT : String → IT → Prop) (s2 : Int32) (I : IT) : Prop :=
  f_X8_change 1000011 s2 (nI 0) (nI 0) (nI 0) I (fun x1 I2 =>
  if x1 = 0 then (
    K (nI 0) I2)
  else (
    K (nI 1) I2)) KT
def f_X8_setAttendant (a1 : Int32) (I : IT) (K : Int32 → IT → Prop) (KT : String → IT → Prop) : Prop :=
  if a1 = 0 then (
    f_X8_setAttendant_b13 a1 K KT (nI 0) I)
  else (
    f_X8_setAttendant_b13 a1 K KT (nI 1) I)
def f_X8_pass (a1 : Int32) (I : IT) (K : Int32 → IT → Prop) (KT : String → IT → Prop) : Prop :=
  f_X8_change 1000008 a1 (nI 0) (nI 0) (nI 0) I (fun x1 I2 =>
  K x1 I2) KT
def f_X8_closeNight (I : IT) (K : UInt32 → IT → Prop) (KT : String → IT → Prop) : Prop :=
  f_X8_change 1000012 (nI 0) (nI 0) (nI 0) (nI 0) I (fun x1 I2 =>
  f_X8_eighths x1 I2 (fun x3 =>
  K x3 I2)) KT
def f_X8_kettleCount (I : IT) (K : Int32 → Prop) : Prop :=
  K (I 2 5)
def f_X8_requireKettle (a1 : Int32) (I : IT) (K : Prop) (KT : String → Prop) : Prop :=
  f_X3_has 2 a1 I (fun x1 =>
  if x1 = 0 then (
    KT "java/lang/IndexOutOfBoundsException")
  else (
    K))
def f_X8_capacity (a1 : Int32) (I : IT) (K : UInt32 → Prop) (KT : String → Prop) : Prop :=
  f_X8_requireKettle a1 I (
  inr a1 4 ∧ (
  f_X8_eighths (I 3 (ix a1)) I (fun x2 =>
  K x2))) KT
def f_X8_volume (a1 : Int32) (I : IT) (K : UInt32 → Prop) (KT : String → Prop) : Prop :=
  f_X8_requireKettle a1 I (
  inr a1 4 ∧ (
  f_X8_eighths (I 4 (ix a1)) I (fun x2 =>
  K x2))) KT
def f_X8_temperature (a1 : Int32) (I : IT) (K : UInt32 → Prop) (KT : String → Prop) : Prop :=
  f_X8_requireKettle a1 I (
  inr a1 4 ∧ (
  f_X8_halves (I 5 (ix a1)) I (fun x2 =>
  K x2))) KT
def f_X8_bitsOfHalves_b2 (a0 : Int32) (I : IT) (X22 : Int32 → Prop) (K : Int32 → Prop) : Nat → Int32 → Prop
  | 0, _ => False
  | n + 1, v1 =>
    if (nI 22) ≤ v1 then (
      X22 v1)
    else (
      if (a0 >>> ((v1 + (nI 1)) &&& 31)) = 0 then (
        X22 v1)
      else (
        bnd (v1 + nI 1) fun x3 =>
        f_X8_bitsOfHalves_b2 a0 I X22 K n x3))
def f_X8_bitsOfHalves_b22 (a0 : Int32) (I : IT) (K : Int32 → Prop) (v1 : Int32) : Prop :=
  bnd ((v1 - (nI 1)) + (nI 127)) fun x1 =>
  bnd ((a0 - ((nI 1) <<< (v1 &&& 31))) <<< (((nI 23) - v1) &&& 31)) fun x2 =>
  K ((x1 <<< ((nI 23) &&& 31)) ||| x2)
def f_X8_bitsOfHalves (a0 : Int32) (I : IT) (K : Int32 → Prop) : Prop :=
  f_X8_bitsOfHalves_b2 a0 I (fun y0_0 => f_X8_bitsOfHalves_b22 a0 I K y0_0) K 4096 (nI 0)
def f_X8_temperatureBits (a1 : Int32) (I : IT) (K : Int32 → Prop) (KT : String → Prop) : Prop :=
  f_X8_requireKettle a1 I (
  inr a1 4 ∧ (
  f_X8_bitsOfHalves (I 5 (ix a1)) I (fun x2 =>
  K x2))) KT
def f_X8_burner (a1 : Int32) (I : IT) (K : Int32 → Prop) (KT : String → Prop) : Prop :=
  f_X8_requireKettle a1 I (
  inr a1 4 ∧ (
  K (I 6 (ix a1)))) KT
def f_X8_isBoiling (a1 : Int32) (I : IT) (K : Int32 → Prop) (KT : String → Prop) : Prop :=
  f_X8_requireKettle a1 I (
  inr a1 4 ∧ (
  isZ (I 7 (ix a1)) ∧ (
  K (I 7 (ix a1))))) KT
def f_X8_requireFound (a0 : Int32) (I : IT) (K : Int32 → Prop) (KT : String → Prop) : Prop :=
  if a0 = (-1) then (
    KT "java/util/NoSuchElementException")
  else (
    K a0)
def f_X8_minutesUntilBoiling (a1 : Int32) (I : IT) (K : Int32 → Prop) (KT : String → Prop) : Prop :=
  f_X8_requireKettle a1 I (
  f_X3_heatingTime 2 a1 I (fun x1 =>
  f_X8_requireFound x1 I (fun x2 =>
  K x2) KT)) KT
def f_X8_heatingTimeOnCopy_b16 (a1 : Int32) (K : Int32 → IT → Prop) : Nat → Int32 → IT → Prop
  | 0, _, _ => False
  | n + 1, v2, I =>
    if (nI 120) < v2 then (
      K (-1) I)
    else (
      f_X3_passMinute 50 a1 I (fun x2 I3 =>
      inr a1 4 ∧ (
      if (I3 55 (ix a1)) = 0 then (
        bnd (v2 + nI 1) fun x6 =>
        f_X8_heatingTimeOnCopy_b16 a1 K n x6 I3)
      else (
        K v2 I3))))
def f_X8_heatingTimeOnCopy (a1 : Int32) (I : IT) (K : Int32 → IT → Prop) : Prop :=
  f_X3_copyFrom 50 2 I (fun I1 =>
  f_X8_heatingTimeOnCopy_b16 a1 K 4096 (nI 1) I1)
def f_X8_minutesUntilBoilingByMinutes (a1 : Int32) (I : IT) (K : Int32 → IT → Prop) (KT : String → IT → Prop) : Prop :=
  f_X8_requireKettle a1 I (
  f_X8_heatingTimeOnCopy a1 I (fun x1 I2 =>
  f_X8_requireFound x1 I2 (fun x3 =>
  K x3 I2) (fun E => KT E I2))) (fun E => KT E I)
def f_X8_kettleByTemperature (a1 : Int32) (I : IT) (K : Int32 → Prop) (KT : String → Prop) : Prop :=
  f_X3_ranked 2 a1 I (fun x1 =>
  f_X8_requireFound x1 I (fun x2 =>
  K x2) KT)
def f_X8_waitingCount (I : IT) (K : Int32 → Prop) : Prop :=
  K (I 8 5)
def f_X8_orderAt (a1 : Int32) (I : IT) (K : Int32 → Prop) (KT : String → Prop) : Prop :=
  f_X5_numberAt 8 a1 I (fun x1 =>
  f_X8_requireFound x1 I (fun x2 =>
  K x2) KT)
def f_X8_positionOf (a1 : Int32) (I : IT) (K : Int32 → Prop) (KT : String → Prop) : Prop :=
  f_X5_find 8 a1 I (fun x1 =>
  f_X8_requireFound x1 I (fun x2 =>
  K x2) KT)
def f_X8_cupsOf (a1 : Int32) (I : IT) (K : Int32 → Prop) (KT : String → Prop) : Prop :=
  f_X5_find 8 a1 I (fun x1 =>
  f_X8_requireFound x1 I (fun x2 =>
  inr x2 10 ∧ (
  K (I 11 (ix x2)))) KT)
def f_X8_priceOf (a1 : Int32) (I : IT) (K : UInt32 → Prop) (KT : String → Prop) : Prop :=
  f_X5_find 8 a1 I (fun x1 =>
  f_X8_requireFound x1 I (fun x2 =>
  inr x2 10 ∧ (
  f_X8_eighths ((I 11 (ix x2)) * (I 1 8)) I (fun x4 =>
  K x4))) KT)
def f_X8_kettleFor (a1 : Int32) (I : IT) (K : Int32 → Prop) (KT : String → Prop) : Prop :=
  f_X5_find 8 a1 I (fun x1 =>
  f_X8_requireFound x1 I (fun x2 =>
  inr x2 10 ∧ (
  f_X3_suitable 2 (I 11 (ix x2)) (I 12 (ix x2)) I (fun x4 =>
  f_X8_requireFound x4 I (fun x5 =>
  K x5) KT))) KT)
def f_X8_waitOnCopy_b40 (a1 : Int32) (a2 : Int32) (X16 : Int32 → IT → Prop) (K : Int32 → IT → Prop) : Nat → Int32 → Int32 → IT → Prop
  | 0, _, _, _ => False
  | n + 1, v3, v4, I =>
    if (I 50 5) ≤ v4 then (
      bnd (v3 + nI 1) fun x2 =>
      X16 x2 I)
    else (
      f_X3_passMinute 50 v4 I (fun x3 I4 =>
      bnd (v4 + nI 1) fun x5 =>
      f_X8_waitOnCopy_b40 a1 a2 X16 K n v3 x5 I4))
def f_X8_waitOnCopy_b16 (a1 : Int32) (a2 : Int32) (K : Int32 → IT → Prop) : Nat → Int32 → IT → Prop
  | 0, _, _ => False
  | n + 1, v3, I =>
    if (nI 120) < v3 then (
      K (-1) I)
    else (
      f_X3_suitable 50 a1 a2 I (fun x2 =>
      if x2 = (-1) then (
        f_X8_waitOnCopy_b40 a1 a2 (fun y0_0 I0_ => f_X8_waitOnCopy_b16 a1 a2 K n y0_0 I0_) K 4096 v3 (nI 0) I)
      else (
        K v3 I)))
def f_X8_waitOnCopy (a1 : Int32) (a2 : Int32) (I : IT) (K : Int32 → IT → Prop) : Prop :=
  f_X3_copyFrom 50 2 I (fun I1 =>
  f_X8_waitOnCopy_b16 a1 a2 K 4096 (nI 0) I1)
def f_X8_minutesUntilSuitable (a1 : Int32) (I : IT) (K : Int32 → IT → Prop) (KT : String → IT → Prop) : Prop :=
  f_X5_find 8 a1 I (fun x1 =>
  f_X8_requireFound x1 I (fun x2 =>
  inr x2 10 ∧ (
  f_X8_waitOnCopy (I 11 (ix x2)) (I 12 (ix x2)) I (fun x4 I5 =>
  f_X8_requireFound x4 I5 (fun x6 =>
  K x6 I5) (fun E => KT E I5)))) (fun E => KT E I))
def f_X8_canServe (I : IT) (K : Int32 → Prop) : Prop :=
  f_X1_refusal 1 1000005 (nI 0) (nI 0) (nI 0) (nI 0) I (fun x1 =>
  if x1 = 1000020 then (
    K (nI 1))
  else (
    K (nI 0)))
def f_X8_cleanCups (I : IT) (K : Int32 → Prop) : Prop :=
  K (I 1 3)
def f_X8_steam (I : IT) (K : UInt32 → Prop) : Prop :=
  f_X8_eighths (I 1 4) I (fun x1 =>
  K x1)
def f_X8_boiledTotal (I : IT) (K : UInt32 → Prop) : Prop :=
  f_X8_eighths (I 1 5) I (fun x1 =>
  K x1)
def f_X8_pouredTotal (I : IT) (K : UInt32 → Prop) : Prop :=
  f_X8_eighths (I 1 6) I (fun x1 =>
  K x1)
def f_X8_filledTotal (I : IT) (K : UInt32 → Prop) : Prop :=
  f_X8_eighths (I 1 7) I (fun x1 =>
  K x1)
def f_X8_cupPrice (I : IT) (K : UInt32 → Prop) : Prop :=
  f_X8_eighths (I 1 8) I (fun x1 =>
  K x1)
def f_X8_income (I : IT) (K : UInt32 → Prop) : Prop :=
  f_X8_eighths (I 14 3) I (fun x1 =>
  K x1)
def f_X8_nightCount (I : IT) (K : Int32 → Prop) : Prop :=
  K (I 14 2)
def f_X8_nightIncome_b18 (a1 : Int32) (I : IT) (K : UInt32 → Prop) (KT : String → Prop)  : Prop :=
  KT "java/lang/IndexOutOfBoundsException"
def f_X8_nightIncome (a1 : Int32) (I : IT) (K : UInt32 → Prop) (KT : String → Prop) : Prop :=
  if a1 < 0 then (
    f_X8_nightIncome_b18 a1 I K KT)
  else (
    if a1 < (I 14 2) then (
      inr a1 14 ∧ (
      f_X8_eighths (I 15 (ix a1)) I (fun x4 =>
      K x4)))
    else (
      f_X8_nightIncome_b18 a1 I K KT))
def f_X8_nightByIncome (a1 : Int32) (I : IT) (K : Int32 → Prop) (KT : String → Prop) : Prop :=
  f_X4_ranked 14 a1 I (fun x1 =>
  f_X8_requireFound x1 I (fun x2 =>
  K x2) KT)
def f_X8_requireNights (a1 : Int32) (I : IT) (K : Prop) (KT : String → Prop) : Prop :=
  f_X8_isWithin a1 (nI 1) (nI 14) I (fun x1 =>
  if x1 = 0 then (
    KT "java/lang/IllegalArgumentException")
  else (
    if a1 ≤ (I 14 2) then (
      K)
    else (
      KT "java/util/NoSuchElementException")))
def f_X8_greatestIncome (a1 : Int32) (I : IT) (K : UInt32 → Prop) (KT : String → Prop) : Prop :=
  f_X8_requireNights a1 I (
  f_X4_greatestByAdding 14 a1 I (fun x1 =>
  f_X8_eighths x1 I (fun x2 =>
  K x2))) KT
def f_X8_greatestIncomeBySums (a1 : Int32) (I : IT) (K : UInt32 → Prop) (KT : String → Prop) : Prop :=
  f_X8_requireNights a1 I (
  f_X4_greatestByDifferences 14 a1 I (fun x1 =>
  f_X8_eighths x1 I (fun x2 =>
  K x2))) KT
def f_X8_totalIncome (I : IT) (K : UInt32 → Prop) : Prop :=
  f_X4_totalOfNights 14 I (fun x1 =>
  f_X8_eighths x1 I (fun x2 =>
  K x2))
def f_X8_totalIncomeBySales (I : IT) (K : UInt32 → Prop) : Prop :=
  f_X4_totalOfSales 14 I (fun x1 =>
  f_X8_eighths x1 I (fun x2 =>
  K x2))
def f_X8_whistlesHeard (I : IT) (K : Int32 → Prop) : Prop :=
  K (I 1 12)
def f_X8_whistlesLost (I : IT) (K : Int32 → Prop) : Prop :=
  K (I 1 13)
def f_X8_meanTemperature_b31 (I : IT) (K : UInt64 → Prop) (KT : String → Prop) : Nat → Int32 → UInt64 → Int32 → Prop
  | 0, _, _, _ => False
  | n + 1, v1, v2, v4 =>
    if v1 ≤ v4 then (
      vf_n64 (FP.ddiv v2 (FP.i2d v1)) ∧ (
      K (FP.ddiv v2 (FP.i2d v1))))
    else (
      inr v4 4 ∧ (
      f_X8_halves (I 5 (ix v4)) I (fun x4 =>
      vf_n64 (FP.f2d x4) ∧ (
      vf_n64 (FP.dadd v2 (FP.f2d x4)) ∧ (
      bnd (v4 + nI 1) fun x7 =>
      f_X8_meanTemperature_b31 I K KT n v1 (FP.dadd v2 (FP.f2d x4)) x7)))))
def f_X8_meanTemperature (I : IT) (K : UInt64 → Prop) (KT : String → Prop) : Prop :=
  bnd (I 2 5) fun x1 =>
  if 0 < x1 then (
    f_X8_meanTemperature_b31 I K KT 4096 x1 FP.dconst0 (nI 0))
  else (
    KT "java/lang/ArithmeticException")
def f_X8_lostShare (I : IT) (K : UInt32 → Prop) (KT : String → Prop) : Prop :=
  bnd ((I 1 12) + (I 1 13)) fun x1 =>
  if 0 < x1 then (
    vf_n32 (FP.fdiv (FP.i2f (I 1 13)) (FP.i2f x1)) ∧ (
    K (FP.fdiv (FP.i2f (I 1 13)) (FP.i2f x1))))
  else (
    KT "java/lang/ArithmeticException")
def f_X8_allHeatingTimesAgree_b2 (K : Int32 → IT → Prop) : Nat → Int32 → IT → Prop
  | 0, _, _ => False
  | n + 1, v1, I =>
    if (I 2 5) ≤ v1 then (
      K (nI 1) I)
    else (
      f_X3_heatingTime 2 v1 I (fun x2 =>
      f_X8_heatingTimeOnCopy v1 I (fun x3 I4 =>
      if x2 = x3 then (
        bnd (v1 + nI 1) fun x6 =>
        f_X8_allHeatingTimesAgree_b2 K n x6 I4)
      else (
        K (nI 0) I4))))
def f_X8_allHeatingTimesAgree (I : IT) (K : Int32 → IT → Prop) : Prop :=
  f_X8_allHeatingTimesAgree_b2 K 4096 (nI 0) I
def f_X8_floatOfBits_b22 (a0 : Int32) (I : IT) (K : UInt32 → Prop) : Nat → UInt32 → Int32 → Int32 → Prop
  | 0, _, _, _ => False
  | n + 1, v1, v2, v3 =>
    if v3 ≤ v2 then (
      K v1)
    else (
      if v3 ≤ 0 then (
        K v1)
      else (
        vf_n32 (FP.fmul v1 1056964608) ∧ (
        bnd (v3 + (-1)) fun x4 =>
        f_X8_floatOfBits_b22 a0 I K n (FP.fmul v1 1056964608) v2 x4)))
def f_X8_floatOfBits (a0 : Int32) (I : IT) (K : UInt32 → Prop) : Prop :=
  bnd ((a0 >>> ((nI 23) &&& 31)) - (nI 127)) fun x1 =>
  f_X8_floatOfBits_b22 a0 I K 4096 (FP.i2f ((a0 &&& (nI 8388607)) ||| (nI 8388608))) x1 (nI 23)
def f_X8_allTemperatureBitsFit_b2 (I : IT) (K : Int32 → Prop) : Nat → Int32 → Prop
  | 0, _ => False
  | n + 1, v1 =>
    if (I 2 5) ≤ v1 then (
      K (nI 1))
    else (
      inr v1 4 ∧ (
      bnd (I 5 (ix v1)) fun x3 =>
      f_X8_bitsOfHalves x3 I (fun x4 =>
      f_X8_floatOfBits x4 I (fun x5 =>
      f_X8_halves x3 I (fun x6 =>
      if (Op.cmpValue (FP.fcmp x5 x6) .l) = 0 then (
        bnd (v1 + nI 1) fun x8 =>
        f_X8_allTemperatureBitsFit_b2 I K n x8)
      else (
        K (nI 0)))))))
def f_X8_allTemperatureBitsFit (I : IT) (K : Int32 → Prop) : Prop :=
  f_X8_allTemperatureBitsFit_b2 I K 4096 (nI 0)
def f_X8_isBalanced (I : IT) (K : Int32 → IT → Prop) : Prop :=
  f_X3_totalVolume 2 I (fun x1 =>
  if (I 1 7) = ((x1 + (I 1 6)) + (I 1 5)) then (
    if (I 1 5) < (I 1 4) then (
      K (nI 0) I)
    else (
      f_X4_isConsistent 14 I (fun x4 =>
      if x4 = 0 then (
        K (nI 0) I)
      else (
        f_X5_isConsistent 8 I (fun x6 =>
        if x6 = 0 then (
          K (nI 0) I)
        else (
          f_X3_isRankedOnceEach 2 I (fun x8 =>
          if x8 = 0 then (
            K (nI 0) I)
          else (
            f_X8_allTemperatureBitsFit I (fun x10 =>
            if x10 = 0 then (
              K (nI 0) I)
            else (
              f_X8_allHeatingTimesAgree I (fun x12 I13 =>
              if x12 = 0 then (
                K (nI 0) I13)
              else (
                K (nI 1) I13))))))))))))
  else (
    K (nI 0) I))
def f_X8_formatKettle (a1 : Int32) (I : IT) (K : Int32 → IT → Prop) (KT : String → IT → Prop) : Prop :=
  f_X8_requireKettle a1 I (
  f_J4_setLength_d00df (nI 0) I (fun I1 =>
  f_X3_describe 2 a1 I1 (fun I2 =>
  f_J4_length_8abf5 I2 (fun x3 =>
  K x3 I2)))) (fun E => KT E I)
def f_X8_formatOrder (a1 : Int32) (I : IT) (K : Int32 → IT → Prop) (KT : String → IT → Prop) : Prop :=
  f_X5_find 8 a1 I (fun x1 =>
  f_X8_requireFound x1 I (fun x2 =>
  f_J4_setLength_d00df (nI 0) I (fun I3 =>
  f_X5_describe 8 x2 I3 (fun I4 =>
  f_J4_length_8abf5 I4 (fun x5 =>
  K x5 I4)))) (fun E => KT E I))
def f_X8_formatLedger (I : IT) (K : Int32 → IT → Prop) : Prop :=
  f_J4_setLength_d00df (nI 0) I (fun I1 =>
  f_X4_describe 14 I1 (fun I2 =>
  f_J4_length_8abf5 I2 (fun x3 =>
  K x3 I2)))
def f_X8_lineChar_b15 (a1 : Int32) (I : IT) (K : Int32 → Prop) (KT : String → Prop)  : Prop :=
  KT "java/lang/IndexOutOfBoundsException"
def f_X8_lineChar (a1 : Int32) (I : IT) (K : Int32 → Prop) (KT : String → Prop) : Prop :=
  if a1 < 0 then (
    f_X8_lineChar_b15 a1 I K KT)
  else (
    f_J4_length_8abf5 I (fun x2 =>
    if a1 < x2 then (
      f_J4_charAt_5068e a1 I (fun x4 =>
      K x4))
    else (
      f_X8_lineChar_b15 a1 I K KT)))
def f_X8_undoableCount (I : IT) (K : Int32 → Prop) : Prop :=
  K (I 0 8)
