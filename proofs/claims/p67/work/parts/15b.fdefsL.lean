/-! the methods of the law as predicates over what comes behind them: by a program of mine (wip/p67/dec) out of the decode rows -/
def f_L_cell (xs : Nat → Int32) (nn : Nat) (a1 : Int32) (I : IT) (K : Int32 → IT → Prop) : Prop :=
  if (nI nn) ≤ a1 then (
    K (((nI 7919) * a1) + (nI 12)) I)
  else (
    inr a1 nn ∧ (
    K (xs (ix a1)) I))
def f_L_some (xs : Nat → Int32) (nn : Nat) (a1 : Int32) (a2 : Int32) (I : IT) (K : Int32 → IT → Prop) : Prop :=
  f_L_cell xs nn a1 I (fun x1 I2 =>
  ¬ a2 = 0 ∧ (
  K ((ushr3 x1) - (ushr3 x1) / a2 * a2) I2))
def f_L_addKettle (xs : Nat → Int32) (nn : Nat) (a1 : Int32) (I : IT) (K : Int32 → IT → Prop) : Prop :=
  f_X8_addKettle a1 I (fun x1 I2 =>
  K x1 I2) (fun E I9_ => if E = "java/lang/IllegalArgumentException" then (K (-20000) I9_) else (if E = "java/lang/IllegalStateException" then (K (-10000) I9_) else (False)))
def f_L_fill (xs : Nat → Int32) (nn : Nat) (a1 : Int32) (a2 : Int32) (I : IT) (K : UInt32 → IT → Prop) : Prop :=
  f_X8_fill a1 a2 I (fun x1 I2 =>
  K x1 I2) (fun E I9_ => if E = "java/lang/IndexOutOfBoundsException" then (K 3334688768 I9_) else (if E = "java/lang/IllegalArgumentException" then (K 3332128768 I9_) else (if E = "java/lang/IllegalStateException" then (K 3323740160 I9_) else (False))))
def f_L_setBurner (xs : Nat → Int32) (nn : Nat) (a1 : Int32) (a2 : Int32) (I : IT) (K : Int32 → IT → Prop) : Prop :=
  f_X8_setBurner a1 a2 I (fun x1 I2 =>
  K x1 I2) (fun E I9_ => if E = "java/lang/IndexOutOfBoundsException" then (K (-25000) I9_) else (if E = "java/lang/IllegalArgumentException" then (K (-20000) I9_) else (False)))
def f_L_order (xs : Nat → Int32) (nn : Nat) (a1 : Int32) (a2 : Int32) (a3 : Int32) (a4 : Int32) (I : IT) (K : Int32 → IT → Prop) : Prop :=
  f_X8_order a1 a2 a3 a4 I (fun x1 I2 =>
  K x1 I2) (fun E I9_ => if E = "java/lang/IllegalArgumentException" then (K (-20000) I9_) else (if E = "java/lang/IllegalStateException" then (K (-10000) I9_) else (False)))
def f_L_cancel (xs : Nat → Int32) (nn : Nat) (a1 : Int32) (I : IT) (K : Int32 → IT → Prop) : Prop :=
  f_X8_cancel a1 I (fun x1 I2 =>
  K x1 I2) (fun E I9_ => if E = "java/util/NoSuchElementException" then (K (-30000) I9_) else (False))
def f_L_serveNext (xs : Nat → Int32) (nn : Nat)  (I : IT) (K : Int32 → IT → Prop) : Prop :=
  f_X8_serveNext I (fun x1 I2 =>
  K x1 I2) (fun E I9_ => if E = "java/lang/IllegalStateException" then (K (-10000) I9_) else (False))
def f_L_wash (xs : Nat → Int32) (nn : Nat) (a1 : Int32) (I : IT) (K : Int32 → IT → Prop) : Prop :=
  f_X8_wash a1 I (fun x1 I2 =>
  K x1 I2) (fun E I9_ => if E = "java/lang/IllegalArgumentException" then (K (-20000) I9_) else (if E = "java/lang/IllegalStateException" then (K (-10000) I9_) else (False)))
def f_L_sellSteam (xs : Nat → Int32) (nn : Nat) (a1 : Int32) (I : IT) (K : UInt32 → IT → Prop) : Prop :=
  f_X8_sellSteam a1 I (fun x1 I2 =>
  K x1 I2) (fun E I9_ => if E = "java/lang/IllegalArgumentException" then (K 3332128768 I9_) else (if E = "java/lang/IllegalStateException" then (K 3323740160 I9_) else (False)))
def f_L_setCupPrice (xs : Nat → Int32) (nn : Nat) (a1 : Int32) (I : IT) (K : UInt32 → IT → Prop) : Prop :=
  f_X8_setCupPrice a1 I (fun x1 I2 =>
  K x1 I2) (fun E I9_ => if E = "java/lang/IllegalArgumentException" then (K 3332128768 I9_) else (False))
def f_L_setSteamPrice (xs : Nat → Int32) (nn : Nat) (a1 : Int32) (I : IT) (K : UInt32 → IT → Prop) : Prop :=
  f_X8_setSteamPrice a1 I (fun x1 I2 =>
  K x1 I2) (fun E I9_ => if E = "java/lang/IllegalArgumentException" then (K 3332128768 I9_) else (False))
def f_L_pass (xs : Nat → Int32) (nn : Nat) (a1 : Int32) (I : IT) (K : Int32 → IT → Prop) : Prop :=
  f_X8_pass a1 I (fun x1 I2 =>
  K x1 I2) (fun E I9_ => if E = "java/lang/IllegalArgumentException" then (K (-20000) I9_) else (False))
def f_L_closeNight (xs : Nat → Int32) (nn : Nat)  (I : IT) (K : UInt32 → IT → Prop) : Prop :=
  f_X8_closeNight I (fun x1 I2 =>
  K x1 I2) (fun E I9_ => if E = "java/lang/IllegalStateException" then (K 3323740160 I9_) else (False))
def f_L_minutesUntilBoiling (xs : Nat → Int32) (nn : Nat) (a1 : Int32) (I : IT) (K : Int32 → IT → Prop) : Prop :=
  f_X8_minutesUntilBoiling a1 I (fun x1 =>
  K x1 I) (fun E => if E = "java/lang/IndexOutOfBoundsException" then (K (-25000) I) else (if E = "java/util/NoSuchElementException" then (K (-30000) I) else (False)))
def f_L_minutesUntilBoilingByMinutes (xs : Nat → Int32) (nn : Nat) (a1 : Int32) (I : IT) (K : Int32 → IT → Prop) : Prop :=
  f_X8_minutesUntilBoilingByMinutes a1 I (fun x1 I2 =>
  K x1 I2) (fun E I9_ => if E = "java/lang/IndexOutOfBoundsException" then (K (-25000) I9_) else (if E = "java/util/NoSuchElementException" then (K (-30000) I9_) else (False)))
def f_L_kettleByTemperature (xs : Nat → Int32) (nn : Nat) (a1 : Int32) (I : IT) (K : Int32 → IT → Prop) : Prop :=
  f_X8_kettleByTemperature a1 I (fun x1 =>
  K x1 I) (fun E => if E = "java/util/NoSuchElementException" then (K (-30000) I) else (False))
def f_L_orderAt (xs : Nat → Int32) (nn : Nat) (a1 : Int32) (I : IT) (K : Int32 → IT → Prop) : Prop :=
  f_X8_orderAt a1 I (fun x1 =>
  K x1 I) (fun E => if E = "java/util/NoSuchElementException" then (K (-30000) I) else (False))
def f_L_kettleFor (xs : Nat → Int32) (nn : Nat) (a1 : Int32) (I : IT) (K : Int32 → IT → Prop) : Prop :=
  f_X8_kettleFor a1 I (fun x1 =>
  K x1 I) (fun E => if E = "java/util/NoSuchElementException" then (K (-30000) I) else (False))
def f_L_nightByIncome (xs : Nat → Int32) (nn : Nat) (a1 : Int32) (I : IT) (K : Int32 → IT → Prop) : Prop :=
  f_X8_nightByIncome a1 I (fun x1 =>
  K x1 I) (fun E => if E = "java/util/NoSuchElementException" then (K (-30000) I) else (False))
def f_L_minutesUntilSuitable (xs : Nat → Int32) (nn : Nat) (a1 : Int32) (I : IT) (K : Int32 → IT → Prop) : Prop :=
  f_X8_minutesUntilSuitable a1 I (fun x1 I2 =>
  K x1 I2) (fun E I9_ => if E = "java/util/NoSuchElementException" then (K (-30000) I9_) else (False))
def f_L_greatestIncome (xs : Nat → Int32) (nn : Nat) (a1 : Int32) (I : IT) (K : UInt32 → IT → Prop) : Prop :=
  f_X8_greatestIncome a1 I (fun x1 =>
  K x1 I) (fun E => if E = "java/lang/IllegalArgumentException" then (K 3332128768 I) else (if E = "java/util/NoSuchElementException" then (K 3337248768 I) else (False)))
def f_L_greatestIncomeBySums (xs : Nat → Int32) (nn : Nat) (a1 : Int32) (I : IT) (K : UInt32 → IT → Prop) : Prop :=
  f_X8_greatestIncomeBySums a1 I (fun x1 =>
  K x1 I) (fun E => if E = "java/lang/IllegalArgumentException" then (K 3332128768 I) else (if E = "java/util/NoSuchElementException" then (K 3337248768 I) else (False)))
def f_L_acts_b147 (xs : Nat → Int32) (nn : Nat) (a2 : Int32) (K : IT → Prop) (v3 : Int32) (v4 : Int32) (I : IT) : Prop :=
  f_L_fill xs nn v4 ((nI 1) + (v3 - v3 / (nI 6) * (nI 6))) I (fun x1 I2 =>
  K I2)
def f_L_acts_b164 (xs : Nat → Int32) (nn : Nat) (a2 : Int32) (K : IT → Prop) (v3 : Int32) (v4 : Int32) (I : IT) : Prop :=
  f_L_setBurner xs nn v4 (v3 - v3 / (nI 6) * (nI 6)) I (fun x1 I2 =>
  K I2)
def f_L_acts_b179 (xs : Nat → Int32) (nn : Nat) (a2 : Int32) (K : IT → Prop) (v3 : Int32) (v5 : Int32) (I : IT) : Prop :=
  if (nI 9) ≤ v5 then (
    K I)
  else (
    f_L_order xs nn (v3 - v3 / (nI 10) * (nI 10)) ((nI 1) + (v3 - v3 / (nI 4) * (nI 4))) ((nI 60) + (v3 - v3 / (nI 41) * (nI 41))) ((nI 1) + (v3 - v3 / (nI 3) * (nI 3))) I (fun x2 I3 =>
    K I3))
def f_L_acts_b246 (xs : Nat → Int32) (nn : Nat) (a2 : Int32) (K : IT → Prop)  (I : IT) : Prop :=
  f_L_serveNext xs nn I (fun x1 I2 =>
  K I2)
def f_L_acts_b330 (xs : Nat → Int32) (nn : Nat) (a2 : Int32) (K : IT → Prop) (s1 : Int32) (I : IT) : Prop :=
  f_X8_setAttendant s1 I (fun x1 I2 =>
  K I2) (fun E I9_ => False)
def f_L_acts (xs : Nat → Int32) (nn : Nat) (a2 : Int32) (I : IT) (K : IT → Prop) : Prop :=
  f_L_some xs nn (a2 + (nI 1)) (nI 120) I (fun x1 I2 =>
  f_X8_kettleCount I2 (fun x3 =>
  f_L_some xs nn (a2 + (nI 2)) x3 I2 (fun x4 I5 =>
  f_X8_waitingCount I5 (fun x6 =>
  f_L_some xs nn a2 (nI 18) I5 (fun x7 I8 =>
  if x7 = (nI 0) then (
    f_X8_kettleCount I8 (fun x9 =>
    if (nI 3) ≤ x9 then (
      K I8)
    else (
      f_L_addKettle xs nn ((nI 2) + (x1 - x1 / (nI 15) * (nI 15))) I8 (fun x11 I12 =>
      K I12))))
  else (
  if x7 = (nI 1) then (
    f_L_acts_b147 xs nn a2 K x1 x4 I8)
  else (
  if x7 = (nI 2) then (
    f_L_acts_b147 xs nn a2 K x1 x4 I8)
  else (
  if x7 = (nI 3) then (
    f_L_acts_b164 xs nn a2 K x1 x4 I8)
  else (
  if x7 = (nI 4) then (
    f_L_acts_b164 xs nn a2 K x1 x4 I8)
  else (
  if x7 = (nI 5) then (
    f_L_acts_b179 xs nn a2 K x1 x6 I8)
  else (
  if x7 = (nI 6) then (
    f_L_acts_b179 xs nn a2 K x1 x6 I8)
  else (
  if x7 = (nI 7) then (
    f_L_acts_b179 xs nn a2 K x1 x6 I8)
  else (
  if x7 = (nI 8) then (
    if x6 ≤ 0 then (
      K I8)
    else (
      ¬ x6 = 0 ∧ (
      f_X8_orderAt (x1 - x1 / x6 * x6) I8 (fun x15 =>
      f_L_cancel xs nn x15 I8 (fun x16 I17 =>
      K I17)) (fun E => False))))
  else (
  if x7 = (nI 9) then (
    f_L_acts_b246 xs nn a2 K I8)
  else (
  if x7 = (nI 10) then (
    f_L_acts_b246 xs nn a2 K I8)
  else (
  if x7 = (nI 11) then (
    f_L_acts_b246 xs nn a2 K I8)
  else (
  if x7 = (nI 12) then (
    f_L_wash xs nn ((nI 1) + (x1 - x1 / (nI 5) * (nI 5))) I8 (fun x18 I19 =>
    K I19))
  else (
  if x7 = (nI 13) then (
    f_L_sellSteam xs nn ((nI 1) + (x1 - x1 / (nI 9) * (nI 9))) I8 (fun x20 I21 =>
    K I21))
  else (
  if x7 = (nI 14) then (
    if (x1 - x1 / (nI 2) * (nI 2)) = 0 then (
      f_L_setCupPrice xs nn ((nI 1) + (x1 - x1 / (nI 80) * (nI 80))) I8 (fun x23 I24 =>
      K I24))
    else (
      f_L_setSteamPrice xs nn ((nI 1) + (x1 - x1 / (nI 80) * (nI 80))) I8 (fun x25 I26 =>
      K I26)))
  else (
  if x7 = (nI 15) then (
    if (x1 - x1 / (nI 2) * (nI 2)) = 0 then (
      f_L_acts_b330 xs nn a2 K (nI 1) I8)
    else (
      f_L_acts_b330 xs nn a2 K (nI 0) I8))
  else (
  if x7 = (nI 16) then (
    if (x1 - x1 / (nI 4) * (nI 4)) = 0 then (
      f_L_closeNight xs nn I8 (fun x29 I30 =>
      K I30))
    else (
      K I8))
  else (
    f_L_pass xs nn ((nI 1) + (x1 - x1 / (nI 25) * (nI 25))) I8 (fun x31 I32 =>
    K I32)))))))))))))))))))))))
def f_L_build_b2 (xs : Nat → Int32) (nn : Nat)  (X30 : Int32 → IT → Prop) (K : IT → Prop) : Nat → Int32 → IT → Prop
  | 0, _, _ => False
  | n + 1, v3, I =>
    if (nI 3) ≤ v3 then (
      X30 (nI 0) I)
    else (
      f_L_some xs nn v3 (nI 11) I (fun x2 I3 =>
      f_L_addKettle xs nn ((nI 6) + x2) I3 (fun x4 I5 =>
      bnd (v3 + nI 1) fun x6 =>
      f_L_build_b2 xs nn X30 K n x6 I5)))
def f_L_build_b30 (xs : Nat → Int32) (nn : Nat)  (X76 : Int32 → IT → Prop) (K : IT → Prop) : Nat → Int32 → IT → Prop
  | 0, _, _ => False
  | n + 1, v3, I =>
    if (nI 3) ≤ v3 then (
      X76 (nI 0) I)
    else (
      f_L_some xs nn ((nI 4) + v3) (nI 5) I (fun x2 I3 =>
      f_L_fill xs nn v3 ((nI 2) + x2) I3 (fun x4 I5 =>
      f_L_some xs nn ((nI 8) + v3) (nI 6) I5 (fun x6 I7 =>
      f_L_setBurner xs nn v3 x6 I7 (fun x8 I9 =>
      bnd (v3 + nI 1) fun x10 =>
      f_L_build_b30 xs nn X76 K n x10 I9)))))
def f_L_build_b76 (xs : Nat → Int32) (nn : Nat)  (K : IT → Prop) : Nat → Int32 → IT → Prop
  | 0, _, _ => False
  | n + 1, v3, I =>
    if (nI 20) ≤ v3 then (
      K I)
    else (
      f_L_acts xs nn ((nI 12) + ((nI 4) * v3)) I (fun I2 =>
      bnd (v3 + nI 1) fun x3 =>
      f_L_build_b76 xs nn K n x3 I2))
def f_L_build (xs : Nat → Int32) (nn : Nat)  (I : IT) (K : IT → Prop) : Prop :=
  f_L_build_b2 xs nn (fun y0_0 I0_ => f_L_build_b30 xs nn (fun y1_0 I1_ => f_L_build_b76 xs nn K 32 y1_0 I1_) K 8 y0_0 I0_) K 8 (nI 0) I
def f_L_eighths (xs : Nat → Int32) (nn : Nat) (a0 : UInt32) (I : IT) (K : Int32 → IT → Prop) : Prop :=
  vf_n32 (FP.fmul 1090519040 a0) ∧ (
  K (FP.f2i (FP.fmul 1090519040 a0)) I)
def f_L_least_b11 (xs : Nat → Int32) (nn : Nat) (a1 : Int32) (X30 : Int32 → Int32 → Int32 → IT → Prop) (K : Int32 → IT → Prop) : Nat → Int32 → Int32 → IT → Prop
  | 0, _, _, _ => False
  | n + 1, v2, v3, I =>
    f_X8_lineChar v3 I (fun x1 =>
    if x1 = (nI 120) then (
      bnd (v3 + nI 1) fun x3 =>
      X30 v2 x3 (nI 0) I)
    else (
      bnd (v3 + nI 1) fun x4 =>
      f_L_least_b11 xs nn a1 X30 K n v2 x4 I)) (fun E => False)
def f_L_least_b30 (xs : Nat → Int32) (nn : Nat) (a1 : Int32) (K : Int32 → IT → Prop) : Nat → Int32 → Int32 → Int32 → IT → Prop
  | 0, _, _, _, _ => False
  | n + 1, v2, v3, v4, I =>
    f_X8_lineChar v3 I (fun x1 =>
    if x1 = (nI 32) then (
      if v2 ≤ v3 then (
        K (-30000) I)
      else (
        K v4 I))
    else (
      f_X8_lineChar v3 I (fun x4 =>
      bnd ((((nI 10) * v4) + x4) - (nI 48)) fun x5 =>
      bnd (v3 + nI 1) fun x6 =>
      f_L_least_b30 xs nn a1 K n v2 x6 x5 I) (fun E => False))) (fun E => False)
def f_L_least (xs : Nat → Int32) (nn : Nat) (a1 : Int32) (I : IT) (K : Int32 → IT → Prop) : Prop :=
  f_X8_formatOrder a1 I (fun x1 I2 =>
  f_L_least_b11 xs nn a1 (fun y0_0 y0_1 y0_2 I0_ => f_L_least_b30 xs nn a1 K 200 y0_0 y0_1 y0_2 I0_) K 200 x1 (nI 0) I2) (fun E I9_ => False)
def f_L_pours_b68 (xs : Nat → Int32) (nn : Nat) (a1 : Int32) (a2 : Int32) (X7 : Int32 → Int32 → IT → Prop) (K : Int32 → IT → Prop) (v4 : Int32) (I : IT) : Prop :=
  bnd (v4 + nI 1) fun x1 =>
  X7 v4 x1 I
def f_L_pours_b7 (xs : Nat → Int32) (nn : Nat) (a1 : Int32) (a2 : Int32) (K : Int32 → IT → Prop) : Nat → Int32 → Int32 → IT → Prop
  | 0, _, _, _ => False
  | n + 1, v3, v4, I =>
    f_X8_kettleCount I (fun x1 =>
    if x1 ≤ v4 then (
      K v3 I)
    else (
      f_X8_volume v4 I (fun x3 =>
      vf_n32 (FP.fmul 1048576000 (FP.i2f a1)) ∧ (
      if (Op.cmpValue (FP.fcmp x3 (FP.fmul 1048576000 (FP.i2f a1))) .g) < 0 then (
        bnd (v4 + nI 1) fun x6 =>
        f_L_pours_b7 xs nn a1 a2 K n v3 x6 I)
      else (
        f_X8_temperature v4 I (fun x7 =>
        if 0 ≤ (Op.cmpValue (FP.fcmp x7 (FP.i2f a2)) .g) then (
          if v3 = (-30000) then (
            f_L_pours_b68 xs nn a1 a2 (fun y0_0 y0_1 I0_ => f_L_pours_b7 xs nn a1 a2 K n y0_0 y0_1 I0_) K v4 I)
          else (
            f_X8_temperature v4 I (fun x10 =>
            f_X8_temperature v3 I (fun x11 =>
            if (Op.cmpValue (FP.fcmp x10 x11) .l) ≤ 0 then (
              bnd (v4 + nI 1) fun x13 =>
              f_L_pours_b7 xs nn a1 a2 K n v3 x13 I)
            else (
              f_L_pours_b68 xs nn a1 a2 (fun y0_0 y0_1 I0_ => f_L_pours_b7 xs nn a1 a2 K n y0_0 y0_1 I0_) K v4 I)) (fun E => False)) (fun E => False)))
        else (
          bnd (v4 + nI 1) fun x14 =>
          f_L_pours_b7 xs nn a1 a2 K n v3 x14 I)) (fun E => False)))) (fun E => False)))
def f_L_pours (xs : Nat → Int32) (nn : Nat) (a1 : Int32) (a2 : Int32) (I : IT) (K : Int32 → IT → Prop) : Prop :=
  f_L_pours_b7 xs nn a1 a2 K 8 (-30000) (nI 0) I
def f_L_isLine_b12 (xs : Nat → Int32) (nn : Nat) (a1 : Int32) (a2 : Nat) (K : Int32 → IT → Prop) : Nat → Int32 → IT → Prop
  | 0, _, _ => False
  | n + 1, v3, I =>
    if a1 ≤ v3 then (
      K (nI 1) I)
    else (
      f_X8_lineChar v3 I (fun x2 =>
      f_T_charAt a2 v3 I (fun x3 =>
      if x2 = x3 then (
        bnd (v3 + nI 1) fun x5 =>
        f_L_isLine_b12 xs nn a1 a2 K n x5 I)
      else (
        K (nI 0) I))) (fun E => False))
def f_L_isLine (xs : Nat → Int32) (nn : Nat) (a1 : Int32) (a2 : Nat) (I : IT) (K : Int32 → IT → Prop) : Prop :=
  f_T_length a2 I (fun x1 =>
  if a1 = x1 then (
    f_L_isLine_b12 xs nn a1 a2 K 200 (nI 0) I)
  else (
    K (nI 0) I))
def f_L_law_b216 (xs : Nat → Int32) (nn : Nat) (X244 : Int32 → Int32 → Int32 → Int32 → Int32 → UInt32 → UInt32 → UInt64 → Int32 → UInt32 → Int32 → Int32 → Int32 → IT → Prop) (K : Int32 → IT → Prop) : Nat → Int32 → Int32 → Int32 → Int32 → Int32 → UInt32 → UInt32 → UInt64 → Int32 → UInt32 → Int32 → Int32 → Int32 → Int32 → IT → Prop
  | 0, _, _, _, _, _, _, _, _, _, _, _, _, _, _, _ => False
  | n + 1, v2, v3, v4, v5, v6, v7, v8, v9, v11, v12, v14, v15, v16, v17, I =>
    bnd (if ((v17 + ((nI 3) * v14)) - (nI 1)) < (nI 200) then ((v17 + ((nI 3) * v14)) - (nI 1)) else (nI 200)) fun x1 =>
    bnd (v16 + nI 1) fun x2 =>
    if x1 < (nI 200) then (
      f_L_law_b216 xs nn X244 K n v2 v3 v4 v5 v6 v7 v8 v9 v11 v12 v14 v15 x2 x1 I)
    else (
      X244 v2 v3 v4 v5 v6 v7 v8 v9 v11 v12 v14 v15 x2 I)
def f_L_law_b386 (xs : Nat → Int32) (nn : Nat) (X63 : Int32 → Int32 → Int32 → Int32 → Int32 → UInt32 → UInt32 → UInt64 → Int32 → IT → Prop) (K : Int32 → IT → Prop) (v2 : Int32) (v3 : Int32) (v4 : Int32) (v5 : Int32) (v6 : Int32) (v7 : UInt32) (v8 : UInt32) (v9 : UInt64) (v11 : Int32) (s1 : Int32) (s2 : Nat) (s3 : Nat) (I : IT) : Prop :=
  f_T_appS s2 s3 I (fun _ I1 =>
  f_T_str s2 I1 (fun x3 I2 =>
  f_L_isLine xs nn s1 x3 I2 (fun x4 I5 =>
  if x4 = 0 then (
    K (nI 0) I5)
  else (
    if v11 = 0 then (
      bnd (v11 + nI 1) fun x8 =>
      X63 v2 v3 v4 v5 v6 v7 v8 v9 x8 I5)
    else (
      f_X8_kettleByTemperature (v11 - (nI 1)) I5 (fun x9 =>
      f_X8_kettleByTemperature v11 I5 (fun x10 =>
      f_X8_temperature x9 I5 (fun x11 =>
      f_X8_temperature x10 I5 (fun x12 =>
      vf_n32 (FP.fsub x11 x12) ∧ (
      f_X8_volume x9 I5 (fun x14 =>
      f_X8_volume x10 I5 (fun x15 =>
      vf_n32 (FP.fsub x14 x15) ∧ (
      if (Op.cmpValue (FP.fcmp (FP.fsub x11 x12) FP.fconst0) .g) < 0 then (
        K (nI 0) I5)
      else (
        if (Op.cmpValue (FP.fcmp (FP.fsub x11 x12) FP.fconst0) .l) = 0 then (
          if (Op.cmpValue (FP.fcmp (FP.fsub x14 x15) FP.fconst0) .g) < 0 then (
            K (nI 0) I5)
          else (
            if (Op.cmpValue (FP.fcmp (FP.fsub x14 x15) FP.fconst0) .l) = 0 then (
              if x9 ≤ x10 then (
                bnd (v11 + nI 1) fun x22 =>
                X63 v2 v3 v4 v5 v6 v7 v8 v9 x22 I5)
              else (
                K (nI 0) I5))
            else (
              bnd (v11 + nI 1) fun x23 =>
              X63 v2 v3 v4 v5 v6 v7 v8 v9 x23 I5)))
        else (
          bnd (v11 + nI 1) fun x24 =>
          X63 v2 v3 v4 v5 v6 v7 v8 v9 x24 I5)))) (fun E => False)) (fun E => False))) (fun E => False)) (fun E => False)) (fun E => False)) (fun E => False))))))
def f_L_law_b367 (xs : Nat → Int32) (nn : Nat) (X63 : Int32 → Int32 → Int32 → Int32 → Int32 → UInt32 → UInt32 → UInt64 → Int32 → IT → Prop) (K : Int32 → IT → Prop) (v2 : Int32) (v3 : Int32) (v4 : Int32) (v5 : Int32) (v6 : Int32) (v7 : UInt32) (v8 : UInt32) (v9 : UInt64) (v11 : Int32) (s1 : Int32) (s2 : Nat) (s3 : Nat) (I : IT) : Prop :=
  f_T_appS s2 s3 I (fun _ I1 =>
  f_X8_isBoiling v11 I1 (fun x2 =>
  if x2 = 0 then (
    f_L_law_b386 xs nn X63 K v2 v3 v4 v5 v6 v7 v8 v9 v11 s1 s2 1000065 I1)
  else (
    f_L_law_b386 xs nn X63 K v2 v3 v4 v5 v6 v7 v8 v9 v11 s1 s2 1000066 I1)) (fun E => False))
def f_L_law_b244 (xs : Nat → Int32) (nn : Nat) (X63 : Int32 → Int32 → Int32 → Int32 → Int32 → UInt32 → UInt32 → UInt64 → Int32 → IT → Prop) (K : Int32 → IT → Prop) (v2 : Int32) (v3 : Int32) (v4 : Int32) (v5 : Int32) (v6 : Int32) (v7 : UInt32) (v8 : UInt32) (v9 : UInt64) (v11 : Int32) (v12 : UInt32) (v14 : Int32) (v15 : Int32) (v16 : Int32) (I : IT) : Prop :=
  f_L_minutesUntilBoiling xs nn v11 I (fun x1 I2 =>
  if x1 = v16 then (
    f_L_minutesUntilBoilingByMinutes xs nn v11 I2 (fun x4 I5 =>
    if x4 = v16 then (
      f_X8_formatKettle v11 I5 (fun x7 I8 =>
      f_T_new I8 (fun a9 I10 =>
      f_T_appS a9 1000060 I10 (fun _ I11 =>
      f_T_appI a9 v11 I11 (fun _ I12 =>
      f_T_appS a9 1000061 I12 (fun _ I13 =>
      f_L_eighths xs nn v12 I13 (fun x14 I15 =>
      f_T_appI a9 x14 I15 (fun _ I16 =>
      f_T_appS a9 1000062 I16 (fun _ I17 =>
      f_X8_capacity v11 I17 (fun x18 =>
      f_L_eighths xs nn x18 I17 (fun x19 I20 =>
      f_T_appI a9 x19 I20 (fun _ I21 =>
      f_T_appS a9 1000061 I21 (fun _ I22 =>
      f_T_appI a9 v15 I22 (fun _ I23 =>
      f_T_appS a9 1000063 I23 (fun _ I24 =>
      if v14 ≤ 0 then (
        f_L_law_b367 xs nn X63 K v2 v3 v4 v5 v6 v7 v8 v9 v11 x7 a9 1000065 I24)
      else (
        f_T_new I24 (fun a26 I27 =>
        f_T_appS a26 1000064 I27 (fun _ I28 =>
        f_T_appI a26 v14 I28 (fun _ I29 =>
        f_T_str a26 I29 (fun x31 I30 =>
        f_L_law_b367 xs nn X63 K v2 v3 v4 v5 v6 v7 v8 v9 v11 x7 a9 x31 I30))))))))))) (fun E => False))))))))) (fun E I9_ => False))
    else (
      K (nI 0) I5)))
  else (
    K (nI 0) I2))
def f_L_law_b63 (xs : Nat → Int32) (nn : Nat) (X502 : Int32 → Int32 → Int32 → Int32 → Int32 → UInt32 → UInt32 → UInt64 → Int32 → IT → Prop) (K : Int32 → IT → Prop) : Nat → Int32 → Int32 → Int32 → Int32 → Int32 → UInt32 → UInt32 → UInt64 → Int32 → IT → Prop
  | 0, _, _, _, _, _, _, _, _, _, _ => False
  | n + 1, v2, v3, v4, v5, v6, v7, v8, v9, v11, I =>
    if v3 ≤ v11 then (
      X502 v2 v3 v4 v5 v6 v7 v8 v9 (nI 0) I)
    else (
      f_X8_volume v11 I (fun x2 =>
      f_X8_temperature v11 I (fun x3 =>
      f_X8_burner v11 I (fun x4 =>
      vf_n32 (FP.fmul FP.fconst2 x3) ∧ (
      bnd (FP.f2i (FP.fmul FP.fconst2 x3)) fun x6 =>
      vf_n32 (FP.fadd v7 x2) ∧ (
      vf_n64 (FP.f2d x3) ∧ (
      vf_n64 (FP.dadd v9 (FP.f2d x3)) ∧ (
      if (Op.cmpValue (FP.fcmp x2 FP.fconst0) .g) < 0 then (
        K (nI 0) I)
      else (
        f_X8_capacity v11 I (fun x11 =>
        if 0 < (Op.cmpValue (FP.fcmp x2 x11) .l) then (
          K (nI 0) I)
        else (
          if (Op.cmpValue (FP.fcmp x3 1101004800) .g) < 0 then (
            K (nI 0) I)
          else (
            if 0 < (Op.cmpValue (FP.fcmp x3 1120403456) .l) then (
              K (nI 0) I)
            else (
              if x4 < 0 then (
                K (nI 0) I)
              else (
                if (nI 5) < x4 then (
                  K (nI 0) I)
                else (
                  f_X8_temperatureBits v11 I (fun x17 =>
                  f_Jxf58ca_floatToIntBits_5c35a x3 I (fun x18 =>
                  if x17 = x18 then (
                    f_L_eighths xs nn x2 I (fun x20 I21 =>
                    vf_n32 (FP.fdiv (FP.i2f x20) 1090519040) ∧ (
                    if (Op.cmpValue (FP.fcmp (FP.fdiv (FP.i2f x20) 1090519040) x2) .l) = 0 then (
                      if (Op.cmpValue (FP.fcmp x2 FP.fconst0) .l) ≤ 0 then (
                        f_L_law_b244 xs nn (fun y0_0 y0_1 y0_2 y0_3 y0_4 y0_5 y0_6 y0_7 y0_8 I0_ => f_L_law_b63 xs nn X502 K n y0_0 y0_1 y0_2 y0_3 y0_4 y0_5 y0_6 y0_7 y0_8 I0_) K v2 v3 v4 v5 v6 (FP.fadd v7 x2) v8 (FP.dadd v9 (FP.f2d x3)) v11 x2 x4 x6 (-30000) I21)
                      else (
                        if x4 ≤ 0 then (
                          f_L_law_b244 xs nn (fun y0_0 y0_1 y0_2 y0_3 y0_4 y0_5 y0_6 y0_7 y0_8 I0_ => f_L_law_b63 xs nn X502 K n y0_0 y0_1 y0_2 y0_3 y0_4 y0_5 y0_6 y0_7 y0_8 I0_) K v2 v3 v4 v5 v6 (FP.fadd v7 x2) v8 (FP.dadd v9 (FP.f2d x3)) v11 x2 x4 x6 (-30000) I21)
                        else (
                          f_L_law_b216 xs nn (fun y0_0 y0_1 y0_2 y0_3 y0_4 y0_5 y0_6 y0_7 y0_8 y0_9 y0_10 y0_11 y0_12 I0_ => f_L_law_b244 xs nn (fun y1_0 y1_1 y1_2 y1_3 y1_4 y1_5 y1_6 y1_7 y1_8 I1_ => f_L_law_b63 xs nn X502 K n y1_0 y1_1 y1_2 y1_3 y1_4 y1_5 y1_6 y1_7 y1_8 I1_) K y0_0 y0_1 y0_2 y0_3 y0_4 y0_5 y0_6 y0_7 y0_8 y0_9 y0_10 y0_11 y0_12 I0_) K 4096 v2 v3 v4 v5 v6 (FP.fadd v7 x2) v8 (FP.dadd v9 (FP.f2d x3)) v11 x2 x4 x6 (nI 0) x6 I21)))
                    else (
                      K (nI 0) I21))))
                  else (
                    K (nI 0) I))) (fun E => False))))))) (fun E => False))))))) (fun E => False)) (fun E => False)) (fun E => False))
def f_L_law_b606 (xs : Nat → Int32) (nn : Nat) (X502 : Int32 → Int32 → Int32 → Int32 → Int32 → UInt32 → UInt32 → UInt64 → Int32 → IT → Prop) (K : Int32 → IT → Prop) (v2 : Int32) (v3 : Int32) (v4 : Int32) (v5 : Int32) (v6 : Int32) (v7 : UInt32) (v8 : UInt32) (v9 : UInt64) (v11 : Int32) (v12 : Int32) (s0 : Int32) (s1 : Int32) (I : IT) : Prop :=
  if s0 = s1 then (
    f_L_minutesUntilSuitable xs nn v12 I (fun x2 I3 =>
    if x2 ≤ (nI 120) then (
      bnd (v11 + nI 1) fun x5 =>
      X502 v2 v3 v4 v5 v6 v7 v8 v9 x5 I3)
    else (
      K (nI 0) I3)))
  else (
    K (nI 0) I)
def f_L_law_b589 (xs : Nat → Int32) (nn : Nat) (X502 : Int32 → Int32 → Int32 → Int32 → Int32 → UInt32 → UInt32 → UInt64 → Int32 → IT → Prop) (K : Int32 → IT → Prop) (v2 : Int32) (v3 : Int32) (v4 : Int32) (v5 : Int32) (v6 : Int32) (v7 : UInt32) (v8 : UInt32) (v9 : UInt64) (v11 : Int32) (v12 : Int32) (s0 : Int32) (I : IT) : Prop :=
  f_L_kettleFor xs nn v12 I (fun x1 I2 =>
  if x1 = (-30000) then (
    f_L_law_b606 xs nn X502 K v2 v3 v4 v5 v6 v7 v8 v9 v11 v12 s0 (nI 0) I2)
  else (
    f_L_law_b606 xs nn X502 K v2 v3 v4 v5 v6 v7 v8 v9 v11 v12 s0 (nI 1) I2))
def f_L_law_b502 (xs : Nat → Int32) (nn : Nat) (X668 : Int32 → Int32 → Int32 → Int32 → Int32 → UInt32 → UInt32 → UInt64 → IT → Prop) (X674 : Int32 → Int32 → Int32 → Int32 → Int32 → UInt32 → UInt32 → UInt64 → Int32 → Int32 → IT → Prop) (K : Int32 → IT → Prop) : Nat → Int32 → Int32 → Int32 → Int32 → Int32 → UInt32 → UInt32 → UInt64 → Int32 → IT → Prop
  | 0, _, _, _, _, _, _, _, _, _, _ => False
  | n + 1, v2, v3, v4, v5, v6, v7, v8, v9, v11, I =>
    if v4 ≤ v11 then (
      if v4 ≤ 0 then (
        X668 v2 v3 v4 v5 v6 v7 v8 v9 I)
      else (
        f_X8_orderAt (nI 0) I (fun x3 =>
        f_L_kettleFor xs nn x3 I (fun x4 I5 =>
        if x4 = (-30000) then (
          X668 v2 v3 v4 v5 v6 v7 v8 v9 I5)
        else (
          f_X8_cleanCups I5 (fun x7 =>
          f_X8_orderAt (nI 0) I5 (fun x8 =>
          f_X8_cupsOf x8 I5 (fun x9 =>
          if x7 < x9 then (
            X668 v2 v3 v4 v5 v6 v7 v8 v9 I5)
          else (
            X674 v2 v3 v4 v5 v6 v7 v8 v9 (nI 1) (nI 0) I5)) (fun E => False)) (fun E => False))))) (fun E => False)))
    else (
      f_X8_orderAt v11 I (fun x11 =>
      f_X8_positionOf x11 I (fun x12 =>
      if x12 = v11 then (
        f_X8_priceOf x11 I (fun x14 =>
        f_X8_cupsOf x11 I (fun x15 =>
        f_X8_cupPrice I (fun x16 =>
        vf_n32 (FP.fmul (FP.i2f x15) x16) ∧ (
        if (Op.cmpValue (FP.fcmp x14 (FP.fmul (FP.i2f x15) x16)) .l) = 0 then (
          f_L_kettleFor xs nn x11 I (fun x19 I20 =>
          f_X8_cupsOf x11 I20 (fun x21 =>
          f_L_least xs nn x11 I20 (fun x22 I23 =>
          f_L_pours xs nn x21 x22 I23 (fun x24 I25 =>
          if x19 = x24 then (
            f_L_minutesUntilSuitable xs nn x11 I25 (fun x27 I28 =>
            if x27 = 0 then (
              f_L_law_b589 xs nn (fun y0_0 y0_1 y0_2 y0_3 y0_4 y0_5 y0_6 y0_7 y0_8 I0_ => f_L_law_b502 xs nn X668 X674 K n y0_0 y0_1 y0_2 y0_3 y0_4 y0_5 y0_6 y0_7 y0_8 I0_) K v2 v3 v4 v5 v6 v7 v8 v9 v11 x11 (nI 1) I28)
            else (
              f_L_law_b589 xs nn (fun y0_0 y0_1 y0_2 y0_3 y0_4 y0_5 y0_6 y0_7 y0_8 I0_ => f_L_law_b502 xs nn X668 X674 K n y0_0 y0_1 y0_2 y0_3 y0_4 y0_5 y0_6 y0_7 y0_8 I0_) K v2 v3 v4 v5 v6 v7 v8 v9 v11 x11 (nI 0) I28)))
          else (
            K (nI 0) I25)))) (fun E => False)))
        else (
          K (nI 0) I)))) (fun E => False)) (fun E => False))
      else (
        K (nI 0) I)) (fun E => False)) (fun E => False))
def f_L_law_b674 (xs : Nat → Int32) (nn : Nat) (X769 : Int32 → Int32 → Int32 → Int32 → Int32 → UInt32 → UInt32 → UInt64 → Int32 → Nat → Int32 → IT → Prop) (K : Int32 → IT → Prop) : Nat → Int32 → Int32 → Int32 → Int32 → Int32 → UInt32 → UInt32 → UInt64 → Int32 → Int32 → IT → Prop
  | 0, _, _, _, _, _, _, _, _, _, _, _ => False
  | n + 1, v2, v3, v4, v5, v6, v7, v8, v9, v11, v12, I =>
    if v5 ≤ v12 then (
      X769 v2 v3 v4 v5 v6 v7 v8 v9 v11 1000065 (nI 0) I)
    else (
      f_X8_nightIncome v12 I (fun x2 =>
      vf_n32 (FP.fadd v8 x2) ∧ (
      if v12 = 0 then (
        bnd (v12 + nI 1) fun x5 =>
        f_L_law_b674 xs nn X769 K n v2 v3 v4 v5 v6 v7 (FP.fadd v8 x2) v9 v11 x5 I)
      else (
        f_X8_nightByIncome (v12 - (nI 1)) I (fun x6 =>
        f_X8_nightByIncome v12 I (fun x7 =>
        f_X8_nightIncome x6 I (fun x8 =>
        f_X8_nightIncome x7 I (fun x9 =>
        vf_n32 (FP.fsub x8 x9) ∧ (
        if (Op.cmpValue (FP.fcmp (FP.fsub x8 x9) FP.fconst0) .g) < 0 then (
          K (nI 0) I)
        else (
          if (Op.cmpValue (FP.fcmp (FP.fsub x8 x9) FP.fconst0) .l) = 0 then (
            if x6 ≤ x7 then (
              bnd (v12 + nI 1) fun x14 =>
              f_L_law_b674 xs nn X769 K n v2 v3 v4 v5 v6 v7 (FP.fadd v8 x2) v9 v11 x14 I)
            else (
              K (nI 0) I))
          else (
            bnd (v12 + nI 1) fun x15 =>
            f_L_law_b674 xs nn X769 K n v2 v3 v4 v5 v6 v7 (FP.fadd v8 x2) v9 v11 x15 I)))) (fun E => False)) (fun E => False)) (fun E => False)) (fun E => False)))) (fun E => False))
def f_L_law_b800 (xs : Nat → Int32) (nn : Nat) (X769 : Int32 → Int32 → Int32 → Int32 → Int32 → UInt32 → UInt32 → UInt64 → Int32 → Nat → Int32 → IT → Prop) (K : Int32 → IT → Prop) (v2 : Int32) (v3 : Int32) (v4 : Int32) (v5 : Int32) (v6 : Int32) (v7 : UInt32) (v8 : UInt32) (v9 : UInt64) (v11 : Int32) (v13 : Int32) (s0 : Nat) (s1 : Nat) (I : IT) : Prop :=
  f_T_appS s0 s1 I (fun _ I1 =>
  f_X8_nightIncome v13 I1 (fun x2 =>
  f_L_eighths xs nn x2 I1 (fun x3 I4 =>
  f_T_appI s0 x3 I4 (fun _ I5 =>
  f_T_str s0 I5 (fun x7 I6 =>
  bnd (v13 + nI 1) fun x8 =>
  X769 v2 v3 v4 v5 v6 v7 v8 v9 v11 x7 x8 I6)))) (fun E => False))
def f_L_law_b769 (xs : Nat → Int32) (nn : Nat) (X829 : Int32 → Int32 → Int32 → Int32 → Int32 → UInt32 → UInt32 → UInt64 → Int32 → Nat → Int32 → IT → Prop) (K : Int32 → IT → Prop) : Nat → Int32 → Int32 → Int32 → Int32 → Int32 → UInt32 → UInt32 → UInt64 → Int32 → Nat → Int32 → IT → Prop
  | 0, _, _, _, _, _, _, _, _, _, _, _, _ => False
  | n + 1, v2, v3, v4, v5, v6, v7, v8, v9, v11, v12, v13, I =>
    if v5 ≤ v13 then (
      X829 v2 v3 v4 v5 v6 v7 v8 v9 v11 v12 (nI 1) I)
    else (
      f_T_new I (fun a2 I3 =>
      f_T_appS a2 v12 I3 (fun _ I4 =>
      if v13 ≤ 0 then (
        f_L_law_b800 xs nn (fun y0_0 y0_1 y0_2 y0_3 y0_4 y0_5 y0_6 y0_7 y0_8 y0_9 y0_10 I0_ => f_L_law_b769 xs nn X829 K n y0_0 y0_1 y0_2 y0_3 y0_4 y0_5 y0_6 y0_7 y0_8 y0_9 y0_10 I0_) K v2 v3 v4 v5 v6 v7 v8 v9 v11 v13 a2 1000065 I4)
      else (
        f_L_law_b800 xs nn (fun y0_0 y0_1 y0_2 y0_3 y0_4 y0_5 y0_6 y0_7 y0_8 y0_9 y0_10 I0_ => f_L_law_b769 xs nn X829 K n y0_0 y0_1 y0_2 y0_3 y0_4 y0_5 y0_6 y0_7 y0_8 y0_9 y0_10 I0_) K v2 v3 v4 v5 v6 v7 v8 v9 v11 v13 a2 1000061 I4))))
def f_L_law_b859 (xs : Nat → Int32) (nn : Nat) (X842 : Int32 → Int32 → Int32 → Int32 → Int32 → UInt32 → UInt32 → UInt64 → Int32 → Nat → Int32 → UInt32 → Int32 → IT → Prop) (K : Int32 → IT → Prop) : Nat → Int32 → Int32 → Int32 → Int32 → Int32 → UInt32 → UInt32 → UInt64 → Int32 → Nat → Int32 → UInt32 → Int32 → UInt32 → Int32 → IT → Prop
  | 0, _, _, _, _, _, _, _, _, _, _, _, _, _, _, _, _ => False
  | n + 1, v2, v3, v4, v5, v6, v7, v8, v9, v11, v12, v13, v14, v15, v16, v17, I =>
    if (v15 + v13) ≤ v17 then (
      f_T_maxF v14 v16 I (fun x2 =>
      bnd (v15 + nI 1) fun x3 =>
      X842 v2 v3 v4 v5 v6 v7 v8 v9 v11 v12 v13 x2 x3 I))
    else (
      f_X8_nightIncome v17 I (fun x4 =>
      vf_n32 (FP.fadd v16 x4) ∧ (
      bnd (v17 + nI 1) fun x6 =>
      f_L_law_b859 xs nn X842 K n v2 v3 v4 v5 v6 v7 v8 v9 v11 v12 v13 v14 v15 (FP.fadd v16 x4) x6 I)) (fun E => False))
def f_L_law_b842 (xs : Nat → Int32) (nn : Nat) (X829 : Int32 → Int32 → Int32 → Int32 → Int32 → UInt32 → UInt32 → UInt64 → Int32 → Nat → Int32 → IT → Prop) (K : Int32 → IT → Prop) : Nat → Int32 → Int32 → Int32 → Int32 → Int32 → UInt32 → UInt32 → UInt64 → Int32 → Nat → Int32 → UInt32 → Int32 → IT → Prop
  | 0, _, _, _, _, _, _, _, _, _, _, _, _, _, _ => False
  | n + 1, v2, v3, v4, v5, v6, v7, v8, v9, v11, v12, v13, v14, v15, I =>
    if v5 < (v15 + v13) then (
      f_X8_greatestIncome v13 I (fun x2 =>
      if (Op.cmpValue (FP.fcmp x2 v14) .l) = 0 then (
        f_X8_greatestIncomeBySums v13 I (fun x4 =>
        if (Op.cmpValue (FP.fcmp x4 v14) .l) = 0 then (
          bnd (v13 + nI 1) fun x6 =>
          X829 v2 v3 v4 v5 v6 v7 v8 v9 v11 v12 x6 I)
        else (
          K (nI 0) I)) (fun E => False))
      else (
        K (nI 0) I)) (fun E => False))
    else (
      f_L_law_b859 xs nn (fun y0_0 y0_1 y0_2 y0_3 y0_4 y0_5 y0_6 y0_7 y0_8 y0_9 y0_10 y0_11 y0_12 I0_ => f_L_law_b842 xs nn X829 K n y0_0 y0_1 y0_2 y0_3 y0_4 y0_5 y0_6 y0_7 y0_8 y0_9 y0_10 y0_11 y0_12 I0_) K 20 v2 v3 v4 v5 v6 v7 v8 v9 v11 v12 v13 v14 v15 FP.fconst0 v15 I)
def f_L_law_b829 (xs : Nat → Int32) (nn : Nat) (X954 : Int32 → Int32 → Int32 → Int32 → Int32 → UInt32 → UInt32 → UInt64 → Int32 → Nat → IT → Prop) (K : Int32 → IT → Prop) : Nat → Int32 → Int32 → Int32 → Int32 → Int32 → UInt32 → UInt32 → UInt64 → Int32 → Nat → Int32 → IT → Prop
  | 0, _, _, _, _, _, _, _, _, _, _, _, _ => False
  | n + 1, v2, v3, v4, v5, v6, v7, v8, v9, v11, v12, v13, I =>
    if v5 < v13 then (
      if (nI 14) ≤ v5 then (
        X954 v2 v3 v4 v5 v6 v7 v8 v9 v11 v12 I)
      else (
        f_L_greatestIncome xs nn (v5 + (nI 1)) I (fun x3 I4 =>
        if (Op.cmpValue (FP.fcmp x3 3337248768) .l) = 0 then (
          X954 v2 v3 v4 v5 v6 v7 v8 v9 v11 v12 I4)
        else (
          K (nI 0) I4))))
    else (
      f_L_law_b842 xs nn (fun y0_0 y0_1 y0_2 y0_3 y0_4 y0_5 y0_6 y0_7 y0_8 y0_9 y0_10 I0_ => f_L_law_b829 xs nn X954 K n y0_0 y0_1 y0_2 y0_3 y0_4 y0_5 y0_6 y0_7 y0_8 y0_9 y0_10 I0_) K 20 v2 v3 v4 v5 v6 v7 v8 v9 v11 v12 v13 FP.fconst0 (nI 0) I)
def f_L_law_b1109 (xs : Nat → Int32) (nn : Nat) (X15 : Int32 → IT → Prop) (K : Int32 → IT → Prop) (v2 : Int32) (v3 : Int32) (v4 : Int32) (v5 : Int32) (I : IT) : Prop :=
  f_L_kettleByTemperature xs nn v3 I (fun x1 I2 =>
  if x1 = (-30000) then (
    f_L_orderAt xs nn v4 I2 (fun x4 I5 =>
    if x4 = (-30000) then (
      f_L_nightByIncome xs nn v5 I5 (fun x7 I8 =>
      if x7 = (-30000) then (
        f_X8_undoableCount I8 (fun x10 =>
        if x10 ≤ (nI 8) then (
          f_L_acts xs nn ((nI 96) + ((nI 4) * v2)) I8 (fun I12 =>
          bnd (v2 + nI 1) fun x13 =>
          X15 x13 I12))
        else (
          K (nI 0) I8)))
      else (
        K (nI 0) I8)))
    else (
      K (nI 0) I5)))
  else (
    K (nI 0) I2))
def f_L_law_b954 (xs : Nat → Int32) (nn : Nat) (X15 : Int32 → IT → Prop) (K : Int32 → IT → Prop) (v2 : Int32) (v3 : Int32) (v4 : Int32) (v5 : Int32) (v6 : Int32) (v7 : UInt32) (v8 : UInt32) (v9 : UInt64) (v11 : Int32) (v12 : Nat) (I : IT) : Prop :=
  f_L_greatestIncomeBySums xs nn (nI 15) I (fun x1 I2 =>
  if (Op.cmpValue (FP.fcmp x1 3332128768) .l) = 0 then (
    f_X8_formatLedger I2 (fun x4 I5 =>
    f_L_isLine xs nn x4 v12 I5 (fun x6 I7 =>
    if x6 = 0 then (
      K (nI 0) I7)
    else (
      f_X8_canServe I7 (fun x9 =>
      if x9 = v11 then (
        f_X8_cleanCups I7 (fun x11 =>
        if x11 < 0 then (
          K (nI 0) I7)
        else (
          f_X8_cleanCups I7 (fun x13 =>
          if (nI 20) < x13 then (
            K (nI 0) I7)
          else (
            f_X8_filledTotal I7 (fun x15 =>
            f_X8_pouredTotal I7 (fun x16 =>
            vf_n32 (FP.fadd v7 x16) ∧ (
            f_X8_boiledTotal I7 (fun x18 =>
            vf_n32 (FP.fadd (FP.fadd v7 x16) x18) ∧ (
            if (Op.cmpValue (FP.fcmp x15 (FP.fadd (FP.fadd v7 x16) x18)) .l) = 0 then (
              f_X8_steam I7 (fun x21 =>
              f_X8_boiledTotal I7 (fun x22 =>
              if 0 < (Op.cmpValue (FP.fcmp x21 x22) .l) then (
                K (nI 0) I7)
              else (
                f_X8_steam I7 (fun x24 =>
                if (Op.cmpValue (FP.fcmp x24 FP.fconst0) .g) < 0 then (
                  K (nI 0) I7)
                else (
                  f_X8_totalIncome I7 (fun x26 =>
                  if (Op.cmpValue (FP.fcmp x26 v8) .l) = 0 then (
                    f_X8_totalIncomeBySales I7 (fun x28 =>
                    if (Op.cmpValue (FP.fcmp x28 v8) .l) = 0 then (
                      f_X8_isBalanced I7 (fun x30 I31 =>
                      if x30 = 0 then (
                        K (nI 0) I31)
                      else (
                        f_X8_meanTemperature I31 (fun x33 =>
                        vf_n64 (FP.ddiv v9 (FP.i2d v3)) ∧ (
                        if (Op.cmpValue (FP.dcmp x33 (FP.ddiv v9 (FP.i2d v3))) .l) = 0 then (
                          if v6 ≤ 0 then (
                            f_L_law_b1109 xs nn X15 K v2 v3 v4 v5 I31)
                          else (
                            f_X8_lostShare I31 (fun x37 =>
                            f_X8_whistlesLost I31 (fun x38 =>
                            vf_n32 (FP.fdiv (FP.i2f x38) (FP.i2f v6)) ∧ (
                            if (Op.cmpValue (FP.fcmp x37 (FP.fdiv (FP.i2f x38) (FP.i2f v6))) .l) = 0 then (
                              f_L_law_b1109 xs nn X15 K v2 v3 v4 v5 I31)
                            else (
                              K (nI 0) I31)))) (fun E => False)))
                        else (
                          K (nI 0) I31))) (fun E => False))))
                    else (
                      K (nI 0) I7)))
                  else (
                    K (nI 0) I7))))))))
            else (
              K (nI 0) I7)))))))))))
      else (
        K (nI 0) I7))))))
  else (
    K (nI 0) I2))
def f_L_law_b668 (xs : Nat → Int32) (nn : Nat) (X15 : Int32 → IT → Prop) (K : Int32 → IT → Prop) (v2 : Int32) (v3 : Int32) (v4 : Int32) (v5 : Int32) (v6 : Int32) (v7 : UInt32) (v8 : UInt32) (v9 : UInt64) (I : IT) : Prop :=
  f_L_law_b674 xs nn (fun y0_0 y0_1 y0_2 y0_3 y0_4 y0_5 y0_6 y0_7 y0_8 y0_9 y0_10 I0_ => f_L_law_b769 xs nn (fun y1_0 y1_1 y1_2 y1_3 y1_4 y1_5 y1_6 y1_7 y1_8 y1_9 y1_10 I1_ => f_L_law_b829 xs nn (fun y2_0 y2_1 y2_2 y2_3 y2_4 y2_5 y2_6 y2_7 y2_8 y2_9 I2_ => f_L_law_b954 xs nn X15 K y2_0 y2_1 y2_2 y2_3 y2_4 y2_5 y2_6 y2_7 y2_8 y2_9 I2_) K 20 y1_0 y1_1 y1_2 y1_3 y1_4 y1_5 y1_6 y1_7 y1_8 y1_9 y1_10 I1_) K 20 y0_0 y0_1 y0_2 y0_3 y0_4 y0_5 y0_6 y0_7 y0_8 y0_9 y0_10 I0_) K 20 v2 v3 v4 v5 v6 v7 v8 v9 (nI 0) (nI 0) I
def f_L_law_b15 (xs : Nat → Int32) (nn : Nat) (K : Int32 → IT → Prop) : Nat → Int32 → IT → Prop
  | 0, _, _ => False
  | n + 1, v2, I =>
    if (nI 4) ≤ v2 then (
      K (nI 1) I)
    else (
      f_X8_kettleCount I (fun x2 =>
      f_X8_waitingCount I (fun x3 =>
      f_X8_nightCount I (fun x4 =>
      f_X8_whistlesHeard I (fun x5 =>
      f_X8_whistlesLost I (fun x6 =>
      bnd (x5 + x6) fun x7 =>
      f_X8_income I (fun x8 =>
      f_L_law_b63 xs nn (fun y0_0 y0_1 y0_2 y0_3 y0_4 y0_5 y0_6 y0_7 y0_8 I0_ => f_L_law_b502 xs nn (fun y1_0 y1_1 y1_2 y1_3 y1_4 y1_5 y1_6 y1_7 I1_ => f_L_law_b668 xs nn (fun y2_0 I2_ => f_L_law_b15 xs nn K n y2_0 I2_) K y1_0 y1_1 y1_2 y1_3 y1_4 y1_5 y1_6 y1_7 I1_) (fun y1_0 y1_1 y1_2 y1_3 y1_4 y1_5 y1_6 y1_7 y1_8 y1_9 I1_ => f_L_law_b674 xs nn (fun y2_0 y2_1 y2_2 y2_3 y2_4 y2_5 y2_6 y2_7 y2_8 y2_9 y2_10 I2_ => f_L_law_b769 xs nn (fun y3_0 y3_1 y3_2 y3_3 y3_4 y3_5 y3_6 y3_7 y3_8 y3_9 y3_10 I3_ => f_L_law_b829 xs nn (fun y4_0 y4_1 y4_2 y4_3 y4_4 y4_5 y4_6 y4_7 y4_8 y4_9 I4_ => f_L_law_b954 xs nn (fun y5_0 I5_ => f_L_law_b15 xs nn K n y5_0 I5_) K y4_0 y4_1 y4_2 y4_3 y4_4 y4_5 y4_6 y4_7 y4_8 y4_9 I4_) K 20 y3_0 y3_1 y3_2 y3_3 y3_4 y3_5 y3_6 y3_7 y3_8 y3_9 y3_10 I3_) K 20 y2_0 y2_1 y2_2 y2_3 y2_4 y2_5 y2_6 y2_7 y2_8 y2_9 y2_10 I2_) K 20 y1_0 y1_1 y1_2 y1_3 y1_4 y1_5 y1_6 y1_7 y1_8 y1_9 I1_) K 16 y0_0 y0_1 y0_2 y0_3 y0_4 y0_5 y0_6 y0_7 y0_8 I0_) K 8 v2 x2 x3 x4 x7 FP.fconst0 x8 FP.dconst0 (nI 0) I)))))))
def f_L_law (xs : Nat → Int32) (nn : Nat) (I : IT) (K : Int32 → IT → Prop) : Prop :=
  f_L_build xs nn I (fun I1 =>
  f_L_law_b15 xs nn K 8 (nI 0) I1)
