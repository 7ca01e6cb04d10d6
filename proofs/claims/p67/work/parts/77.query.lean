/-! ===== what the class answers ===== -/
abbrev TS.lin (T : TS) (l : List Nat) : TS := ⟨T.h, T.pc, T.p, T.sv, T.ma, T.fa, T.tx, l⟩
section Qy
variable {I : IT} {T : TS} {t : Nat}
theorem KCR.lin (h : KCR I T) {I' : IT} {l : List Nat} (m : Same I I' 60 2) (hl : LN I' l) : KCR I' (T.lin l) := by
  obtain ⟨a1, ⟨n, n1, n2, n3, n4⟩, a3, a4, a5, a6, a7, a8⟩ := h
  refine ⟨a1.same fun q x y => m q (by omega), ⟨n, n1, by rw [m 0 (by omega)]; exact n2, by rw [m 0 (by omega)]; exact n3, fun i hi => (n4 i hi).same fun q x y => m q (by omega)⟩, ?_, by rw [m 0 (by omega)]; exact a4, by rw [m 0 (by omega)]; exact a5, hl, by rw [m 56 (by omega), m 57 (by omega)]; exact a7, fun a ha => by rw [m (a + 15) (by rcases ha with q | q | q | ⟨k, q1, q2⟩ <;> omega)]; exact a8 a ha⟩
  show (match T.sv with | none => I' 0 7 = nI 0 | some S => I' 0 7 = nI 1 ∧ HR I' 33 S)
  cases c : T.sv with
  | none => rw [c] at a3; show I' 0 7 = nI 0; rw [m 0 (by omega)]; exact a3
  | some S =>
    rw [c] at a3
    exact ⟨by rw [m 0 (by omega)]; exact a3.1, a3.2.same fun q x y => m q (by omega)⟩
theorem WT.lin (h : WT t T) {l : List Nat} (h1 : l.length ≤ 150) (h2 : ∀ c, c ∈ l → c < 128) : WT t (T.lin l) := by
  obtain ⟨a1, a2, a3, a4, a5, a6, a7, a8, a9, a10⟩ := h
  exact ⟨a1, a2, a3, a4, a5, a6, a7, a8, h1, h2⟩
theorem KCR.cpy (h : KCR I T) {I' : IT} (m : Same I I' 50 6) : KCR I' T := by
  obtain ⟨a1, ⟨n, n1, n2, n3, n4⟩, a3, a4, a5, a6, a7, a8⟩ := h
  refine ⟨a1.same fun q x y => m q (by omega), ⟨n, n1, by rw [m 0 (by omega)]; exact n2, by rw [m 0 (by omega)]; exact n3, fun i hi => (n4 i hi).same fun q x y => m q (by omega)⟩, ?_, by rw [m 0 (by omega)]; exact a4, by rw [m 0 (by omega)]; exact a5, a6.same (m 60 (by omega)) (m 61 (by omega)), by rw [m 56 (by omega), m 57 (by omega)]; exact a7, fun a ha => by rw [m (a + 15) (by rcases ha with q | q | q | ⟨k, q1, q2⟩ <;> omega)]; exact a8 a ha⟩
  cases c : T.sv with
  | none => rw [c] at a3; show I' 0 7 = nI 0; rw [m 0 (by omega)]; exact a3
  | some S =>
    rw [c] at a3
    exact ⟨by rw [m 0 (by omega)]; exact a3.1, a3.2.same fun q x y => m q (by omega)⟩
theorem c_e8 {n : Nat} {K : UInt32 → Prop} (h : K (e8 n)) : f_X8_eighths (nI n) I K := ⟨fl_n32 (fl_fin_eighth _), h⟩
theorem c_h8 {n : Nat} {K : UInt32 → Prop} (h : K (h8 n)) : f_X8_halves (nI n) I K := ⟨fl_n32 (fl_fin_half _), h⟩
theorem c_kc (hC : KCR I T) {K : Int32 → Prop} (h : K (nI (kc T.h.k))) : f_X8_kettleCount I K := by
  have e : I 2 5 = nI (kc T.h.k) := hC.1.kc
  unfold f_X8_kettleCount
  rw [e]; exact h
theorem c_wc (hC : KCR I T) {K : Int32 → Prop} (h : K (nI (oc T.h.o))) : f_X8_waitingCount I K := by
  have e : I 8 5 = nI (oc T.h.o) := hC.1.oc
  unfold f_X8_waitingCount
  rw [e]; exact h
theorem c_nc (hC : KCR I T) {K : Int32 → Prop} (h : K (nI (lc T.h.l))) : f_X8_nightCount I K := by
  have e : I 14 2 = nI (lc T.h.l) := hC.1.lc
  unfold f_X8_nightCount
  rw [e]; exact h
theorem c_heard (hC : KCR I T) {K : Int32 → Prop} (h : K (nI (T.h.s 12))) : f_X8_whistlesHeard I K := by
  have e : I 1 12 = nI (T.h.s 12) := hC.1.sc 12
  unfold f_X8_whistlesHeard
  rw [e]; exact h
theorem c_lost (hC : KCR I T) {K : Int32 → Prop} (h : K (nI (T.h.s 13))) : f_X8_whistlesLost I K := by
  have e : I 1 13 = nI (T.h.s 13) := hC.1.sc 13
  unfold f_X8_whistlesLost
  rw [e]; exact h
theorem c_undo (hC : KCR I T) {K : Int32 → Prop} (h : K (nI T.pc)) : f_X8_undoableCount I K := by
  obtain ⟨n, n1, n2, n3, n4⟩ := hC.2.1
  unfold f_X8_undoableCount
  rw [n3]; exact h
theorem c_clean (hC : KCR I T) {K : Int32 → Prop} (h : K (nI (T.h.s 3))) : f_X8_cleanCups I K := by
  have e : I 1 3 = nI (T.h.s 3) := hC.1.sc 3
  unfold f_X8_cleanCups
  rw [e]; exact h
theorem c_steam (hC : KCR I T) {K : UInt32 → Prop} (h : K (e8 (T.h.s 4))) : f_X8_steam I K := by
  have e : I 1 4 = nI (T.h.s 4) := hC.1.sc 4
  unfold f_X8_steam
  rw [e]; exact c_e8 h
theorem c_boiled (hC : KCR I T) {K : UInt32 → Prop} (h : K (e8 (T.h.s 5))) : f_X8_boiledTotal I K := by
  have e : I 1 5 = nI (T.h.s 5) := hC.1.sc 5
  unfold f_X8_boiledTotal
  rw [e]; exact c_e8 h
theorem c_poured (hC : KCR I T) {K : UInt32 → Prop} (h : K (e8 (T.h.s 6))) : f_X8_pouredTotal I K := by
  have e : I 1 6 = nI (T.h.s 6) := hC.1.sc 6
  unfold f_X8_pouredTotal
  rw [e]; exact c_e8 h
theorem c_filled (hC : KCR I T) {K : UInt32 → Prop} (h : K (e8 (T.h.s 7))) : f_X8_filledTotal I K := by
  have e : I 1 7 = nI (T.h.s 7) := hC.1.sc 7
  unfold f_X8_filledTotal
  rw [e]; exact c_e8 h
theorem c_cupPrice (hC : KCR I T) {K : UInt32 → Prop} (h : K (e8 (T.h.s 8))) : f_X8_cupPrice I K := by
  have e : I 1 8 = nI (T.h.s 8) := hC.1.sc 8
  unfold f_X8_cupPrice
  rw [e]; exact c_e8 h
theorem c_income (hC : KCR I T) {K : UInt32 → Prop} (h : K (e8 (lpr T.h.l))) : f_X8_income I K := by
  have e : I 14 3 = nI (lpr T.h.l) := hC.1.2.2.1.2.2.1
  unfold f_X8_income
  rw [e]; exact c_e8 h
theorem c_tot (hC : KCR I T) {K : UInt32 → Prop} (h : K (e8 (lcu T.h.l + lst T.h.l))) : f_X8_totalIncome I K := by
  unfold f_X8_totalIncome
  exact s_totNights hC.1.2.2.1 (c_e8 h)
theorem c_totS (hC : KCR I T) {K : UInt32 → Prop} (h : K (e8 (lcu T.h.l + lst T.h.l))) : f_X8_totalIncomeBySales I K := by
  unfold f_X8_totalIncomeBySales
  exact s_totSales hC.1.2.2.1 (c_e8 h)
/-! of a kettle -/
section Ke
variable {k : Nat}
theorem c_req (hC : KCR I T) (hk : k < kc T.h.k) {K : Prop} {KT : String → Prop} (h : K) : f_X8_requireKettle (nI k) I K KT := by
  have kw := hC.1.1.1.1
  refine s_reqK hC _ (fun q => absurd ?_ q) (fun _ => h)
  rw [nI_toInt (by omega)]
  omega
theorem c_cap (hC : KCR I T) (hk : k < kc T.h.k) {K : UInt32 → Prop} {KT : String → Prop} (h : K (e8 (kcap T.h.k k))) : f_X8_capacity (nI k) I K KT := by
  have kw := hC.1.1.1.1
  have e : I 3 k = nI (kcap T.h.k k) := (hC.1.kv hk).1
  unfold f_X8_capacity
  rw [inr_n (by omega), ix_n (by omega), e]
  exact c_req hC hk ⟨by omega, c_e8 h⟩
theorem c_vol (hC : KCR I T) (hk : k < kc T.h.k) {K : UInt32 → Prop} {KT : String → Prop} (h : K (e8 (kvol T.h.k k))) : f_X8_volume (nI k) I K KT := by
  have kw := hC.1.1.1.1
  have e : I 4 k = nI (kvol T.h.k k) := (hC.1.kv hk).2.1
  unfold f_X8_volume
  rw [inr_n (by omega), ix_n (by omega), e]
  exact c_req hC hk ⟨by omega, c_e8 h⟩
theorem c_tmp (hC : KCR I T) (hk : k < kc T.h.k) {K : UInt32 → Prop} {KT : String → Prop} (h : K (h8 (ktmp T.h.k k))) : f_X8_temperature (nI k) I K KT := by
  have kw := hC.1.1.1.1
  have e : I 5 k = nI (ktmp T.h.k k) := (hC.1.kv hk).2.2.1
  unfold f_X8_temperature
  rw [inr_n (by omega), ix_n (by omega), e]
  exact c_req hC hk ⟨by omega, c_h8 h⟩
theorem c_bur (hC : KCR I T) (hk : k < kc T.h.k) {K : Int32 → Prop} {KT : String → Prop} (h : K (nI (klev T.h.k k))) : f_X8_burner (nI k) I K KT := by
  have kw := hC.1.1.1.1
  have e : I 6 k = nI (klev T.h.k k) := (hC.1.kv hk).2.2.2.1
  unfold f_X8_burner
  rw [inr_n (by omega), ix_n (by omega), e]
  exact c_req hC hk ⟨by omega, h⟩
theorem c_boil (hC : KCR I T) (hk : k < kc T.h.k) {K : Int32 → Prop} {KT : String → Prop} (h : K (nI (kboi T.h.k k))) : f_X8_isBoiling (nI k) I K KT := by
  have kw := hC.1.1.1.1
  have e : I 7 k = nI (kboi T.h.k k) := (hC.1.kv hk).2.2.2.2
  have b := (hC.1.1.1.2 k hk).2.2.2.2.2
  unfold f_X8_isBoiling
  rw [inr_n (by omega), ix_n (by omega), e]
  exact c_req hC hk ⟨by omega, isZ_n b, h⟩
theorem c_bits (hC : KCR I T) (hk : k < kc T.h.k) {K : Int32 → Prop} {KT : String → Prop} (h : K (h8 (ktmp T.h.k k)).toInt32) : f_X8_temperatureBits (nI k) I K KT := by
  have kw := hC.1.1.1.1
  have e : I 5 k = nI (ktmp T.h.k k) := (hC.1.kv hk).2.2.1
  have b := hC.1.1.1.2 k hk
  unfold f_X8_temperatureBits
  rw [inr_n (by omega), ix_n (by omega), e]
  exact c_req hC hk ⟨by omega, s_bits (by omega) (by omega) h⟩
theorem htK_lt {S : KS} (w : KW S) (hk : k < kc S) {j : Nat} (h : htK S k = some j) : j < 2147483648 := by
  have b := w.2 k hk
  unfold htK at h
  split at h
  · cases h
  · cases h
    have : (200 - ktmp S k + (3 * klev S k - 1) - 1) / (3 * klev S k - 1) ≤ 200 - ktmp S k + (3 * klev S k - 1) - 1 := Nat.div_le_self _ _
    omega
theorem c_mub (hC : KCR I T) (hk : k < kc T.h.k) {K : Int32 → Prop} {KT : String → Prop} (h0 : htK T.h.k k = none → KT "java/util/NoSuchElementException") (h1 : ∀ j, htK T.h.k k = some j → K (nI j)) : f_X8_minutesUntilBoiling (nI k) I K KT := by
  unfold f_X8_minutesUntilBoiling
  exact c_req hC hk (s_heatingTime hC.1.1 hk (s_found (fun j q => htK_lt hC.1.1.1 hk q) h0 h1))
theorem c_mubm (hC : KCR I T) (hk : k < kc T.h.k) {K : Int32 → IT → Prop} {KT : String → IT → Prop} (h0 : htK T.h.k k = none → ∀ I', Same I I' 50 6 → KT "java/util/NoSuchElementException" I') (h1 : ∀ j, htK T.h.k k = some j → ∀ I', Same I I' 50 6 → K (nI j) I') : f_X8_minutesUntilBoilingByMinutes (nI k) I K KT := by
  unfold f_X8_minutesUntilBoilingByMinutes
  exact c_req hC hk (s_hotCopy hC.1.1 hk (fun I' m => s_found (fun j q => htK_lt hC.1.1.1 hk q) (fun q => h0 q I' m) (fun j q => h1 j q I' m)))
theorem c_kbt (hC : KCR I T) (x : Nat) (hx : x < 2147483648) {K : Int32 → Prop} {KT : String → Prop} (h0 : rankedK T.h.k x = none → KT "java/util/NoSuchElementException") (h1 : ∀ j, rankedK T.h.k x = some j → K (nI j)) : f_X8_kettleByTemperature (nI x) I K KT := by
  have kw := hC.1.1.1.1
  unfold f_X8_kettleByTemperature
  refine s_ranked hC.1.1 _ ?_
  rw [nI_toInt hx]
  exact s_found (fun j q => by have := firstN_lt q; omega) h0 h1
end Ke
/-! of orders -/
section Or
variable {p : Nat}
theorem find_at {S : OS} (w : OW S) (hp : p < oc S) : findO S (oF S 0 p) = some p :=
  firstN_hit hp rfl (fun i hi e => by
    have e : ((oF S 0 i : Nat) : Int) = ((oF S 0 p : Nat) : Int) := e
    have := w.2.2.2.2 i p (by omega) hp (by omega)
    omega)
theorem c_oat (hC : KCR I T) (hp : p < oc T.h.o) {K : Int32 → Prop} {KT : String → Prop} (h : K (nI (oF T.h.o 0 p))) : f_X8_orderAt (nI p) I K KT := by
  have w := hC.1.2.1.1
  have b := w.2.2.1 p hp
  have w1 := w.1
  have w2 := w.2.1
  unfold f_X8_orderAt
  refine s_numberAt hC.1.2.1 _ ?_
  have e : numO T.h.o (nI p).toInt = some (oF T.h.o 0 p) := by
    rw [nI_toInt (by omega)]
    unfold numO
    rw [if_pos (by omega)]
    rfl
  rw [e]
  exact s_found (fun j q => by cases q; omega) (fun q => by cases q) (fun j q => by cases q; exact h)
theorem c_oatN (hC : KCR I T) (hp : oc T.h.o ≤ p) (hp2 : p < 2147483648) {K : Int32 → Prop} {KT : String → Prop} (h : KT "java/util/NoSuchElementException") : f_X8_orderAt (nI p) I K KT := by
  unfold f_X8_orderAt
  refine s_numberAt hC.1.2.1 _ ?_
  have e : numO T.h.o (nI p).toInt = none := by
    rw [nI_toInt (by omega)]
    unfold numO
    rw [if_neg (by omega)]
  rw [e]
  exact s_found (fun j q => by cases q) (fun _ => h) (fun j q => by cases q)
theorem c_find (hC : KCR I T) (hp : p < oc T.h.o) {K : Int32 → Prop} (h : K (optI (some p))) : f_X5_find 8 (nI (oF T.h.o 0 p)) I K := by
  have w := hC.1.2.1.1
  have b := w.2.2.1 p hp
  have w2 := w.2.1
  refine s_find hC.1.2.1 _ ?_
  rw [nI_toInt (by omega), find_at w hp]
  exact h
theorem c_fnd {K : Int32 → Prop} {KT : String → Prop} (hp : p < 2147483648) (h : K (nI p)) : f_X8_requireFound (optI (some p)) I K KT :=
  s_found (fun j q => by cases q; exact hp) (fun q => by cases q) (fun j q => by cases q; exact h)
theorem c_pos (hC : KCR I T) (hp : p < oc T.h.o) {K : Int32 → Prop} {KT : String → Prop} (h : K (nI p)) : f_X8_positionOf (nI (oF T.h.o 0 p)) I K KT := by
  have w1 := hC.1.2.1.1.1
  unfold f_X8_positionOf
  exact c_find hC hp (c_fnd (by omega) h)
theorem c_cups (hC : KCR I T) (hp : p < oc T.h.o) {K : Int32 → Prop} {KT : String → Prop} (h : K (nI (oF T.h.o 2 p))) : f_X8_cupsOf (nI (oF T.h.o 0 p)) I K KT := by
  have w1 := hC.1.2.1.1.1
  have e : I 11 p = nI (oF T.h.o 2 p) := (hC.1.ov hp).2.2.1
  unfold f_X8_cupsOf
  refine c_find hC hp (c_fnd (by omega) ?_)
  rw [inr_n (by omega), ix_n (by omega), e]
  refine ⟨by omega, h⟩
theorem c_price (hC : KCR I T) (hp : p < oc T.h.o) {K : UInt32 → Prop} {KT : String → Prop} (h : K (e8 (oF T.h.o 2 p * T.h.s 8))) : f_X8_priceOf (nI (oF T.h.o 0 p)) I K KT := by
  have w1 := hC.1.2.1.1.1
  have e : I 11 p = nI (oF T.h.o 2 p) := (hC.1.ov hp).2.2.1
  have e2 : I 1 8 = nI (T.h.s 8) := hC.1.sc 8
  unfold f_X8_priceOf
  refine c_find hC hp (c_fnd (by omega) ?_)
  rw [inr_n (by omega), ix_n (by omega), e, e2, pk_mul]
  refine ⟨by omega, c_e8 h⟩
theorem c_kfor (hC : KCR I T) (hp : p < oc T.h.o) {K : Int32 → Prop} {KT : String → Prop} (h0 : suitK T.h.k (oF T.h.o 2 p) (oF T.h.o 3 p) (kc T.h.k) = none → KT "java/util/NoSuchElementException") (h1 : ∀ j, suitK T.h.k (oF T.h.o 2 p) (oF T.h.o 3 p) (kc T.h.k) = some j → K (nI j)) : f_X8_kettleFor (nI (oF T.h.o 0 p)) I K KT := by
  have w := hC.1.2.1.1
  have b := w.2.2.1 p hp
  have w1 := w.1
  have kw := hC.1.1.1.1
  have e : I 11 p = nI (oF T.h.o 2 p) := (hC.1.ov hp).2.2.1
  have e2 : I 12 p = nI (oF T.h.o 3 p) := (hC.1.ov hp).2.2.2.1
  unfold f_X8_kettleFor
  refine c_find hC hp (c_fnd (by omega) ?_)
  rw [inr_n (by omega), ix_n (by omega), e, e2]
  exact ⟨by omega, s_suitable hC.1.1 (by omega) (by omega) (by omega) (s_found (fun j q => by have := suitK_lt q; omega) h0 h1)⟩
theorem wtK_lt {S : KS} {c m j : Nat} (h : wtK S c m = some j) : j ≤ 120 := by
  have := firstN_lt h
  omega
theorem c_mus (hC : KCR I T) (hp : p < oc T.h.o) {K : Int32 → IT → Prop} {KT : String → IT → Prop} (h0 : wtK T.h.k (oF T.h.o 2 p) (oF T.h.o 3 p) = none → ∀ I', Same I I' 50 6 → KT "java/util/NoSuchElementException" I') (h1 : ∀ j, wtK T.h.k (oF T.h.o 2 p) (oF T.h.o 3 p) = some j → ∀ I', Same I I' 50 6 → K (nI j) I') : f_X8_minutesUntilSuitable (nI (oF T.h.o 0 p)) I K KT := by
  have w := hC.1.2.1.1
  have b := w.2.2.1 p hp
  have w1 := w.1
  have e : I 11 p = nI (oF T.h.o 2 p) := (hC.1.ov hp).2.2.1
  have e2 : I 12 p = nI (oF T.h.o 3 p) := (hC.1.ov hp).2.2.2.1
  unfold f_X8_minutesUntilSuitable
  refine c_find hC hp (c_fnd (by omega) ?_)
  rw [inr_n (by omega), ix_n (by omega), e, e2]
  exact ⟨by omega, s_wait hC.1.1 (by omega) (by omega) (by omega) (fun I' m => s_found (fun j q => by have := wtK_lt q; omega) (fun q => h0 q I' m) (fun j q => h1 j q I' m))⟩
theorem c_can (w : WT t T) (ht : t ≤ 8000) (hC : KCR I T) {K : Int32 → Prop} (h1 : canN T.h → K (nI 1)) (h0 : ¬ canN T.h → K (nI 0)) : f_X8_canServe I K := by
  unfold f_X8_canServe
  refine s_refusal (v := 5) hC.1 w.1.2 ht (by decide) (nI 0) (nI 0) (nI 0) (nI 0) ?_
  have e0 : refN 5 T.h (nI 0).toInt (nI 0).toInt (nI 0).toInt (nI 0).toInt = unlN True (canN T.h) := rfl
  rw [e0]
  by_cases c : canN T.h
  · have eu : unlN True (canN T.h) = 0 := by rw [unl_t trivial, if_neg (fun z => z c)]
    rw [eu, if_pos rfl]
    exact h1 c
  · have eu : unlN True (canN T.h) = 3 := by rw [unl_t trivial, if_pos c]
    rw [eu, if_neg (by decide)]
    exact h0 c
end Or
/-! of nights -/
section Ni
variable {k : Nat}
theorem c_nin (hC : KCR I T) (hk : k < lc T.h.l) {K : UInt32 → Prop} {KT : String → Prop} (h : K (e8 (lin T.h.l k))) : f_X8_nightIncome (nI k) I K KT := by
  have w1 := hC.1.2.2.1.1.1
  have e1 : I 14 2 = nI (lc T.h.l) := hC.1.lc
  have c1 : I 15 k = nI (lin T.h.l k) := hC.1.2.2.1.2.2.2.2.2.1 k hk
  unfold f_X8_nightIncome
  rw [e1, if_neg (by rw [xz_lt, nI_toInt (by omega)]; omega), if_pos (by rw [n_ltP (by omega) (by omega)]; exact hk), inr_n (by omega), ix_n (by omega), c1]
  exact ⟨by omega, c_e8 h⟩
theorem c_nbi (hC : KCR I T) (x : Nat) (hx : x < 2147483648) {K : Int32 → Prop} {KT : String → Prop} (h0 : rankedL (lin T.h.l) (lc T.h.l) x = none → KT "java/util/NoSuchElementException") (h1 : ∀ j, rankedL (lin T.h.l) (lc T.h.l) x = some j → K (nI j)) : f_X8_nightByIncome (nI x) I K KT := by
  have w1 := hC.1.2.2.1.1.1
  unfold f_X8_nightByIncome
  refine s_rankedL hC.1.2.2.1 _ ?_
  rw [nI_toInt hx]
  exact s_found (fun j q => by have := firstN_lt q; omega) h0 h1
theorem c_gr (hC : KCR I T) (h1 : 1 ≤ k) (h2 : k ≤ lc T.h.l) {K : UInt32 → Prop} {KT : String → Prop} (h : K (e8 (grN (lin T.h.l) k (lc T.h.l + 1 - k)))) : f_X8_greatestIncome (nI k) I K KT := by
  have w1 := hC.1.2.2.1.1.1
  have e := nI_toInt (show k < 2 ^ 31 by omega)
  unfold f_X8_greatestIncome
  exact s_reqN hC _ (fun q => absurd (by omega) q) (fun _ q => by omega) (fun _ _ => s_grAdd hC.1.2.2.1 h1 h2 (c_e8 h))
theorem c_grS (hC : KCR I T) (h1 : 1 ≤ k) (h2 : k ≤ lc T.h.l) {K : UInt32 → Prop} {KT : String → Prop} (h : K (e8 (grN (lin T.h.l) k (lc T.h.l + 1 - k)))) : f_X8_greatestIncomeBySums (nI k) I K KT := by
  have w1 := hC.1.2.2.1.1.1
  have e := nI_toInt (show k < 2 ^ 31 by omega)
  unfold f_X8_greatestIncomeBySums
  exact s_reqN hC _ (fun q => absurd (by omega) q) (fun _ q => by omega) (fun _ _ => s_grDiff hC.1.2.2.1 h1 h2 (c_e8 h))
theorem c_grN (hC : KCR I T) (h1 : lc T.h.l < k) (h2 : k ≤ 14) {K : UInt32 → Prop} {KT : String → Prop} (h : KT "java/util/NoSuchElementException") : f_X8_greatestIncome (nI k) I K KT := by
  have e := nI_toInt (show k < 2 ^ 31 by omega)
  unfold f_X8_greatestIncome
  exact s_reqN hC _ (fun q => absurd (by omega) q) (fun _ _ => h) (fun _ q => by omega)
theorem c_grA (hC : KCR I T) (h1 : 14 < k) (h2 : k < 2147483648) {K : UInt32 → Prop} {KT : String → Prop} (h : KT "java/lang/IllegalArgumentException") : f_X8_greatestIncomeBySums (nI k) I K KT := by
  have w1 := hC.1.2.2.1.1.1
  have e := nI_toInt (show k < 2 ^ 31 by omega)
  unfold f_X8_greatestIncomeBySums
  exact s_reqN hC _ (fun _ => h) (fun q _ => by omega) (fun _ q => by omega)
end Ni
theorem c_bal (w : WT t T) (ht : t ≤ 8000) (hC : KCR I T) {K : Int32 → IT → Prop} (h : ∀ I', Same I I' 50 6 → K (nI 1) I') : f_X8_isBalanced I K := by
  unfold f_X8_isBalanced
  have c4 : I 1 4 = nI (T.h.s 4) := hC.1.sc 4
  have c5 : I 1 5 = nI (T.h.s 5) := hC.1.sc 5
  have c6 : I 1 6 = nI (T.h.s 6) := hC.1.sc 6
  have c7 : I 1 7 = nI (T.h.s 7) := hC.1.sc 7
  have b1 := w.1.2.2.1
  have b2 := w.1.2.2.2.1
  have b3 := w.1.2.2.2.2.1
  refine s_totalVolume hC.1.1 ?_
  have g := n_ltP (a := T.h.s 5) (b := T.h.s 4) (by omega) (by omega)
  rw [c7, c6, c5, c4, nI_add, nI_add, if_pos (by rw [b2]), if_neg (by rw [g]; omega)]
  refine s_consistL hC.1.2.2.1 ?_
  rw [if_neg (by decide)]
  refine s_consistO hC.1.2.1 ?_
  rw [if_neg (by decide)]
  refine s_isRanked hC.1.1 ?_
  rw [if_neg (by decide)]
  refine s_allBits hC.1.1 ?_
  rw [if_neg (by decide)]
  refine s_allHot hC.1.1 fun I2 m2 => ?_
  rw [if_neg (by decide)]
  exact h I2 m2
theorem c_mean (hC : KCR I T) (h0 : 0 < kc T.h.k) {K : UInt64 → Prop} {KT : String → Prop} (h : K (FP.ddiv (hd (sumN (ktmp T.h.k) (kc T.h.k))) (FP.i2d (nI (kc T.h.k))))) : f_X8_meanTemperature I K KT :=
  s_mean hC.1.1 (fun q => by omega) (fun _ => h)
theorem sh_nan {a b : Nat} (hb : 0 < b) (hb2 : b < 2147483648) : FP.fIsNaN (FP.fdiv (FP.i2f (nI a)) (FP.i2f (nI b))) = false := by
  have hz : ¬ FP.Core.FZero (FP.i2f (nI b)) := fun q => FP.Core.i2f_ne_zero (v := nI b) (by intro e; have := (nz_eq hb2).mp e; omega) ((FP.Core.zero_bits232 _).mp q)
  exact FP.Core.fdiv_out (FP.Core.FFin.notNaN (FP.Core.i2f_fin _)) (FP.Core.i2f_fin _) hz
theorem c_share (hC : KCR I T) (h0 : 0 < T.h.s 12 + T.h.s 13) (h1 : T.h.s 12 + T.h.s 13 < 2147483648) {K : UInt32 → Prop} {KT : String → Prop} (h : K (FP.fdiv (FP.i2f (nI (T.h.s 13))) (FP.i2f (nI (T.h.s 12 + T.h.s 13))))) : f_X8_lostShare I K KT := by
  have e1 : I 1 12 = nI (T.h.s 12) := hC.1.sc 12
  have e2 : I 1 13 = nI (T.h.s 13) := hC.1.sc 13
  unfold f_X8_lostShare
  rw [e1, e2, bnd_p, nI_add, if_pos (by rw [n_lt0 (by omega)]; exact h0)]
  exact ⟨fl_n32 (sh_nan h0 h1), h⟩
/-! the line -/
theorem c_chr (hC : KCR I T) (w : WT t T) {j : Nat} (hj : j < T.ln.length) {K : Int32 → Prop} {KT : String → Prop} (h : K (nI (T.ln.getD j 0))) : f_X8_lineChar (nI j) I K KT := by
  have lw := w.2.2.2.2.2.2.2.2.1
  have lc := w.2.2.2.2.2.2.2.2.2
  obtain ⟨l1, l2, l3⟩ := hC.2.2.2.2.2.1
  unfold f_X8_lineChar f_J4_length_8abf5
  rw [if_neg (by rw [xz_lt, nI_toInt (by omega)]; omega)]
  dsimp only
  rw [l1, if_pos (by rw [n_ltP (by omega) (by omega)]; exact hj)]
  unfold f_J4_charAt_5068e
  rw [l1, nI_toInt (by omega), nI_toInt (by omega), ix_n (by omega), l3 j hj]
  exact ⟨⟨by omega, by omega⟩, h⟩
theorem c_fmtK (hC : KCR I T) {k : Nat} (hk : k < kc T.h.k) {K : Int32 → IT → Prop} {KT : String → IT → Prop} (h : ∀ I', LN I' (kText T.h.k k) → Same I I' 60 2 → K (nI (kText T.h.k k).length) I') : f_X8_formatKettle (nI k) I K KT := by
  unfold f_X8_formatKettle
  refine c_req hC hk (s_setLen fun I1 l1 m1 => ?_)
  have kr : KR I1 2 T.h.k := hC.1.1.same fun q a b => m1 q (by omega)
  refine s_descK kr (by decide) hk l1 fun J lJ mJ => ?_
  unfold f_J4_length_8abf5
  dsimp only
  rw [lJ.1]
  exact h J lJ (m1.then mJ)
theorem c_fmtO (hC : KCR I T) {p : Nat} (hp : p < oc T.h.o) {K : Int32 → IT → Prop} {KT : String → IT → Prop} (h : ∀ I', LN I' (oText T.h.o p) → Same I I' 60 2 → K (nI (oText T.h.o p).length) I') : f_X8_formatOrder (nI (oF T.h.o 0 p)) I K KT := by
  have w1 := hC.1.2.1.1.1
  unfold f_X8_formatOrder
  refine c_find hC hp (c_fnd (by omega) (s_setLen fun I1 l1 m1 => ?_))
  have or : OR I1 8 T.h.o := hC.1.2.1.same fun q a b => m1 q (by omega)
  refine s_descO or (by decide) hp l1 fun J lJ mJ => ?_
  unfold f_J4_length_8abf5
  dsimp only
  rw [lJ.1]
  exact h J lJ (m1.then mJ)
theorem c_fmtL (hC : KCR I T) {K : Int32 → IT → Prop} (h : ∀ I', LN I' (lText (lin T.h.l) (lc T.h.l)) → Same I I' 60 2 → K (nI (lText (lin T.h.l) (lc T.h.l)).length) I') : f_X8_formatLedger I K := by
  unfold f_X8_formatLedger
  refine s_setLen fun I1 l1 m1 => ?_
  have lr : LR I1 14 T.h.l := hC.1.2.2.1.same fun q a b => m1 q (by omega)
  refine s_descL lr (by decide) l1 fun J lJ mJ => ?_
  unfold f_J4_length_8abf5
  dsimp only
  rw [lJ.1]
  exact h J lJ (m1.then mJ)
end Qy
