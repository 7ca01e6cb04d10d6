/-! ===== the law: all calls ===== -/
theorem law_step {xs : Nat → Int32} {nn : Nat} {K : Int32 → IT → LT → Prop} {f p t : Nat} {I : IT} {L : LT} {T : TS} (hn : nn ≤ 2560) (hp : p + 5 ≤ nn) (hS : ST I T t) (ht : t ≤ 7000) (hX : NX (fun y I L => f_L_law_b28 xs nn K f y I L) p t) : f_L_law_b28 xs nn K (f + 1) (nI p) I L := by
  rw [f_L_law_b28]
  have hlt : ¬ (nI nn - nI 5) < nI p := by rw [n_sub (by omega), n_ltP (by omega) (by omega)]; omega
  rw [if_neg hlt, inr_n (by omega), ix_n (by omega)]
  refine ⟨by omega, ?_⟩
  have ht8 : t ≤ 8000 := by omega
  generalize xs p &&& nI 63 = y
  refine dite (y = nI 0) (fun q => by rw [if_pos q]; exact l_addKettle hp hn hS ht8 hX) (fun q => ?_)
  rw [if_neg q]
  clear q
  refine dite (y = nI 1) (fun q => by rw [if_pos q]; exact l_fill hp hn hS ht8 hX) (fun q => ?_)
  rw [if_neg q]
  clear q
  refine dite (y = nI 2) (fun q => by rw [if_pos q]; exact l_setBurner hp hn hS ht8 hX) (fun q => ?_)
  rw [if_neg q]
  clear q
  refine dite (y = nI 3) (fun q => by rw [if_pos q]; exact l_order hp hn hS ht8 hX) (fun q => ?_)
  rw [if_neg q]
  clear q
  refine dite (y = nI 4) (fun q => by rw [if_pos q]; exact l_cancel hp hn hS ht8 hX) (fun q => ?_)
  rw [if_neg q]
  clear q
  refine dite (y = nI 5) (fun q => by rw [if_pos q]; exact l_serveNext hp hn hS ht8 hX) (fun q => ?_)
  rw [if_neg q]
  clear q
  refine dite (y = nI 6) (fun q => by rw [if_pos q]; exact l_wash hp hn hS ht8 hX) (fun q => ?_)
  rw [if_neg q]
  clear q
  refine dite (y = nI 7) (fun q => by rw [if_pos q]; exact l_sellSteam hp hn hS ht8 hX) (fun q => ?_)
  rw [if_neg q]
  clear q
  refine dite (y = nI 8) (fun q => by rw [if_pos q]; exact l_setCupPrice hp hn hS ht8 hX) (fun q => ?_)
  rw [if_neg q]
  clear q
  refine dite (y = nI 9) (fun q => by rw [if_pos q]; exact l_setSteamPrice hp hn hS ht8 hX) (fun q => ?_)
  rw [if_neg q]
  clear q
  refine dite (y = nI 10) (fun q => by rw [if_pos q]; exact l_setAttendant hp hn hS ht8 hX) (fun q => ?_)
  rw [if_neg q]
  clear q
  refine dite (y = nI 11) (fun q => by rw [if_pos q]; exact l_pass hp hn hS ht8 hX) (fun q => ?_)
  rw [if_neg q]
  clear q
  refine dite (y = nI 12) (fun q => by rw [if_pos q]; exact l_closeNight hp hn hS ht8 hX) (fun q => ?_)
  rw [if_neg q]
  clear q
  refine dite (y = nI 13) (fun q => by rw [if_pos q]; exact l_kettleCount hp hn hS ht8 hX) (fun q => ?_)
  rw [if_neg q]
  clear q
  refine dite (y = nI 14) (fun q => by rw [if_pos q]; exact l_capacity hp hn hS ht8 hX) (fun q => ?_)
  rw [if_neg q]
  clear q
  refine dite (y = nI 15) (fun q => by rw [if_pos q]; exact l_volume hp hn hS ht8 hX) (fun q => ?_)
  rw [if_neg q]
  clear q
  refine dite (y = nI 16) (fun q => by rw [if_pos q]; exact l_temperature hp hn hS ht8 hX) (fun q => ?_)
  rw [if_neg q]
  clear q
  refine dite (y = nI 17) (fun q => by rw [if_pos q]; exact l_temperatureBits hp hn hS ht8 hX) (fun q => ?_)
  rw [if_neg q]
  clear q
  refine dite (y = nI 18) (fun q => by rw [if_pos q]; exact l_burner hp hn hS ht8 hX) (fun q => ?_)
  rw [if_neg q]
  clear q
  refine dite (y = nI 19) (fun q => by rw [if_pos q]; exact l_isBoiling hp hn hS ht8 hX) (fun q => ?_)
  rw [if_neg q]
  clear q
  refine dite (y = nI 20) (fun q => by rw [if_pos q]; exact l_minutesUntilBoiling hp hn hS ht8 hX) (fun q => ?_)
  rw [if_neg q]
  clear q
  refine dite (y = nI 21) (fun q => by rw [if_pos q]; exact l_minutesUntilBoilingByMinutes hp hn hS ht8 hX) (fun q => ?_)
  rw [if_neg q]
  clear q
  refine dite (y = nI 22) (fun q => by rw [if_pos q]; exact l_kettleByTemperature hp hn hS ht8 hX) (fun q => ?_)
  rw [if_neg q]
  clear q
  refine dite (y = nI 23) (fun q => by rw [if_pos q]; exact l_waitingCount hp hn hS ht8 hX) (fun q => ?_)
  rw [if_neg q]
  clear q
  refine dite (y = nI 24) (fun q => by rw [if_pos q]; exact l_orderAt hp hn hS ht8 hX) (fun q => ?_)
  rw [if_neg q]
  clear q
  refine dite (y = nI 25) (fun q => by rw [if_pos q]; exact l_positionOf hp hn hS ht8 hX) (fun q => ?_)
  rw [if_neg q]
  clear q
  refine dite (y = nI 26) (fun q => by rw [if_pos q]; exact l_cupsOf hp hn hS ht8 hX) (fun q => ?_)
  rw [if_neg q]
  clear q
  refine dite (y = nI 27) (fun q => by rw [if_pos q]; exact l_priceOf hp hn hS ht8 hX) (fun q => ?_)
  rw [if_neg q]
  clear q
  refine dite (y = nI 28) (fun q => by rw [if_pos q]; exact l_kettleFor hp hn hS ht8 hX) (fun q => ?_)
  rw [if_neg q]
  clear q
  refine dite (y = nI 29) (fun q => by rw [if_pos q]; exact l_minutesUntilSuitable hp hn hS ht8 hX) (fun q => ?_)
  rw [if_neg q]
  clear q
  refine dite (y = nI 30) (fun q => by rw [if_pos q]; exact l_canServe hp hn hS ht8 hX) (fun q => ?_)
  rw [if_neg q]
  clear q
  refine dite (y = nI 31) (fun q => by rw [if_pos q]; exact l_cleanCups hp hn hS ht8 hX) (fun q => ?_)
  rw [if_neg q]
  clear q
  refine dite (y = nI 32) (fun q => by rw [if_pos q]; exact l_steam hp hn hS ht8 hX) (fun q => ?_)
  rw [if_neg q]
  clear q
  refine dite (y = nI 33) (fun q => by rw [if_pos q]; exact l_boiledTotal hp hn hS ht8 hX) (fun q => ?_)
  rw [if_neg q]
  clear q
  refine dite (y = nI 34) (fun q => by rw [if_pos q]; exact l_pouredTotal hp hn hS ht8 hX) (fun q => ?_)
  rw [if_neg q]
  clear q
  refine dite (y = nI 35) (fun q => by rw [if_pos q]; exact l_filledTotal hp hn hS ht8 hX) (fun q => ?_)
  rw [if_neg q]
  clear q
  refine dite (y = nI 36) (fun q => by rw [if_pos q]; exact l_cupPrice hp hn hS ht8 hX) (fun q => ?_)
  rw [if_neg q]
  clear q
  refine dite (y = nI 37) (fun q => by rw [if_pos q]; exact l_steamPrice hp hn hS ht8 hX) (fun q => ?_)
  rw [if_neg q]
  clear q
  refine dite (y = nI 38) (fun q => by rw [if_pos q]; exact l_income hp hn hS ht8 hX) (fun q => ?_)
  rw [if_neg q]
  clear q
  refine dite (y = nI 39) (fun q => by rw [if_pos q]; exact l_nightCount hp hn hS ht8 hX) (fun q => ?_)
  rw [if_neg q]
  clear q
  refine dite (y = nI 40) (fun q => by rw [if_pos q]; exact l_nightIncome hp hn hS ht8 hX) (fun q => ?_)
  rw [if_neg q]
  clear q
  refine dite (y = nI 41) (fun q => by rw [if_pos q]; exact l_nightByIncome hp hn hS ht8 hX) (fun q => ?_)
  rw [if_neg q]
  clear q
  refine dite (y = nI 42) (fun q => by rw [if_pos q]; exact l_greatestIncome hp hn hS ht8 hX) (fun q => ?_)
  rw [if_neg q]
  clear q
  refine dite (y = nI 43) (fun q => by rw [if_pos q]; exact l_greatestIncomeBySums hp hn hS ht8 hX) (fun q => ?_)
  rw [if_neg q]
  clear q
  refine dite (y = nI 44) (fun q => by rw [if_pos q]; exact l_totalIncome hp hn hS ht8 hX) (fun q => ?_)
  rw [if_neg q]
  clear q
  refine dite (y = nI 45) (fun q => by rw [if_pos q]; exact l_totalIncomeBySales hp hn hS ht8 hX) (fun q => ?_)
  rw [if_neg q]
  clear q
  refine dite (y = nI 46) (fun q => by rw [if_pos q]; exact l_servedOrders hp hn hS ht8 hX) (fun q => ?_)
  rw [if_neg q]
  clear q
  refine dite (y = nI 47) (fun q => by rw [if_pos q]; exact l_whistlesHeard hp hn hS ht8 hX) (fun q => ?_)
  rw [if_neg q]
  clear q
  refine dite (y = nI 48) (fun q => by rw [if_pos q]; exact l_whistlesLost hp hn hS ht8 hX) (fun q => ?_)
  rw [if_neg q]
  clear q
  refine dite (y = nI 49) (fun q => by rw [if_pos q]; exact l_meanTemperature hp hn hS ht8 hX) (fun q => ?_)
  rw [if_neg q]
  clear q
  refine dite (y = nI 50) (fun q => by rw [if_pos q]; exact l_lostShare hp hn hS ht8 hX) (fun q => ?_)
  rw [if_neg q]
  clear q
  refine dite (y = nI 51) (fun q => by rw [if_pos q]; exact l_isBalanced hp hn hS ht8 hX) (fun q => ?_)
  rw [if_neg q]
  clear q
  refine dite (y = nI 52) (fun q => by rw [if_pos q]; exact l_formatKettle hp hn hS ht8 hX) (fun q => ?_)
  rw [if_neg q]
  clear q
  refine dite (y = nI 53) (fun q => by rw [if_pos q]; exact l_formatOrder hp hn hS ht8 hX) (fun q => ?_)
  rw [if_neg q]
  clear q
  refine dite (y = nI 54) (fun q => by rw [if_pos q]; exact l_formatLedger hp hn hS ht8 hX) (fun q => ?_)
  rw [if_neg q]
  clear q
  refine dite (y = nI 55) (fun q => by rw [if_pos q]; exact l_lineChar hp hn hS ht8 hX) (fun q => ?_)
  rw [if_neg q]
  clear q
  refine dite (y = nI 56) (fun q => by rw [if_pos q]; exact l_append hp hn hS ht8 hX) (fun q => ?_)
  rw [if_neg q]
  clear q
  refine dite (y = nI 57) (fun q => by rw [if_pos q]; exact l_run hp hn hS ht hX) (fun q => ?_)
  rw [if_neg q]
  clear q
  refine dite (y = nI 58) (fun q => by rw [if_pos q]; exact l_errorPosition hp hn hS ht8 hX) (fun q => ?_)
  rw [if_neg q]
  clear q
  refine dite (y = nI 59) (fun q => by rw [if_pos q]; exact l_failedCommand hp hn hS ht8 hX) (fun q => ?_)
  rw [if_neg q]
  clear q
  refine dite (y = nI 60) (fun q => by rw [if_pos q]; exact l_undoableCount hp hn hS ht8 hX) (fun q => ?_)
  rw [if_neg q]
  clear q
  refine dite (y = nI 61) (fun q => by rw [if_pos q]; exact l_undo hp hn hS ht8 hX) (fun q => ?_)
  rw [if_neg q]
  clear q
  refine dite (y = nI 62) (fun q => by rw [if_pos q]; exact l_save hp hn hS ht8 hX) (fun q => ?_)
  rw [if_neg q]
  clear q
  refine dite (y = nI 63) (fun q => by rw [if_pos q]; exact l_restore hp hn hS ht8 hX) (fun q => ?_)
  rw [if_neg q]
  clear q
  exact l_3520 hX hS (by omega)
theorem law_all {xs : Nat → Int32} {nn : Nat} {K : Int32 → IT → LT → Prop} (hn : nn ≤ 2560) (hK : ∀ I L, K (nI 1) I L) : ∀ f c I L T t, 514 ≤ f + c → 5 * c ≤ nn → ST I T t → t ≤ 12 * c → f_L_law_b28 xs nn K f (nI (5 * c)) I L := by
  intro f
  induction f with
  | zero => intro c _ _ _ _ h1 h2; omega
  | succ f ih =>
    intro c I L T t h1 h2 hS ht
    by_cases q : 5 * c + 5 ≤ nn
    · refine law_step hn q hS (by omega) fun I' T' t' L' hS' ht' => ?_
      rw [show 5 * c + 5 = 5 * (c + 1) by omega]
      exact ih (c + 1) I' L' T' t' (by omega) (by omega) hS' (by omega)
    · rw [f_L_law_b28]
      have hlt : (nI nn - nI 5) < nI (5 * c) := by
        rw [i32_lt, sub_toInt (by omega) (by omega), nI_toInt (by omega)]; omega
      rw [if_pos hlt]
      exact hK I L
/-- the first state -/
def H0 : HS := ⟨(0, fun _ => 0, fun _ => 0, fun _ => 0, fun _ => 0, fun _ => 0), (0, 0, fun _ _ => 0), (0, 0, 0, 0, fun _ => 0), fun f => if f = 3 then 20 else if f = 8 then 12 else if f = 9 then 2 else if f = 10 then 1 else 0⟩
def T0 : TS := ⟨H0, 0, fun _ => H0, none, none, none, [], []⟩
theorem w_law0 {xs : Nat → Int32} {nn : Nat} {K : Int32 → IT → LT → Prop} (hn : nn ≤ 2560) (hK : ∀ I L, K (nI 1) I L) {I : IT} {L : LT} (hS : ST I T0 0) : f_L_law xs nn I L K := by
  unfold f_L_law
  exact law_all hn hK 514 0 I L T0 0 (by decide) (Nat.zero_le _) hS (Nat.le_refl _)
