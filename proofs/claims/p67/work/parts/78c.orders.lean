/-! ===== the law's checks of the orders ===== -/
/-- what a row of digits tells, behind v -/
def valD : Nat → List Nat → Nat
  | v, [] => v
  | v, d :: l => valD (10 * v + d - 48) l
theorem valD_app : ∀ (l : List Nat) (v c : Nat), valD v (l ++ [c]) = 10 * valD v l + c - 48
  | [], _, _ => rfl
  | d :: l, v, c => valD_app l (10 * v + d - 48) c
theorem valD_digs : ∀ f n, n < 10 ^ f → valD 0 (digs f n) = n
  | 0, n, h => by
    have : n = 0 := by simpa using h
    subst this
    rfl
  | f + 1, n, h => by
    rw [digs]
    split
    · show 10 * 0 + (48 + n) - 48 = n
      omega
    · rw [valD_app, valD_digs f (n / 10) (by rw [Nat.pow_succ] at h; omega)]
      omega
theorem dig_b : ∀ f n c, c ∈ digs f n → 48 ≤ c ∧ c < 58
  | 0, _, _, h => by cases h
  | f + 1, n, c, h => by
    rw [digs] at h
    split at h
    · have := List.mem_singleton.mp h
      omega
    · rcases List.mem_append.mp h with q | q
      · exact dig_b f _ c q
      · have := List.mem_singleton.mp q
        omega
theorem getD_mid (l m : List Nat) (d : Nat) : (l ++ d :: m).getD l.length 0 = d := by
  rw [List.getD_eq_getElem?_getD, List.getElem?_append_right (Nat.le_refl _), Nat.sub_self]
  rfl
theorem suitK_min {S : KS} {cu mn : Nat} : ∀ {n b : Nat}, suitK S cu mn n = some b → 2 * mn - 1 < ktmp S b
  | 0, _, h => by cases h
  | n + 1, b, h => by
    unfold suitK at h
    by_cases q : 2 * cu ≤ kvol S n ∧ suitT S cu mn n < ktmp S n
    · have h' : some n = some b := (if_pos q).symm.trans h
      have e2 : n = b := Option.some.inj h'
      subst e2
      have q2 := q.2
      unfold suitT at q2
      cases e : suitK S cu mn n with
      | none => rw [e] at q2; exact q2
      | some j =>
        rw [e] at q2
        have := suitK_min e
        have q2 : ktmp S j < ktmp S n := q2
        omega
    · have h' : suitK S cu mn n = some b := (if_neg q).symm.trans h
      exact suitK_min h'
theorem wt_0 {S : KS} {cu mn : Nat} : wtK S cu mn = some 0 ↔ suitK S cu mn (kc S) ≠ none := by
  constructor
  · intro h
    exact (firstN_some h).2.1
  · intro h
    exact firstN_hit (by decide) h (fun i hi => absurd hi (Nat.not_lt_zero _))
section Or
variable {xs : Nat → Int32} {nn : Nat} {I : IT} {T : TS} {t : Nat} {K : Int32 → IT → Prop}
theorem lw_kfor {p : Nat} (hC : KCR I T) (hp : p < oc T.h.o) (h : K (noI (suitK T.h.k (oF T.h.o 2 p) (oF T.h.o 3 p) (kc T.h.k))) I) : f_L_kettleFor xs nn (nI (oF T.h.o 0 p)) I K := by
  unfold f_L_kettleFor
  refine c_kfor hC hp (fun e => ?_) (fun j e => ?_)
  · rw [e] at h
    rw [if_pos rfl]
    exact h
  · rw [e] at h
    exact h
theorem lw_mus {p : Nat} (hC : KCR I T) (hp : p < oc T.h.o) (h : ∀ I', Same I I' 50 6 → K (noI (wtK T.h.k (oF T.h.o 2 p) (oF T.h.o 3 p))) I') : f_L_minutesUntilSuitable xs nn (nI (oF T.h.o 0 p)) I K := by
  unfold f_L_minutesUntilSuitable
  refine c_mus hC hp (fun e I' m => ?_) (fun j e I' m => ?_)
  · have h := h I' m
    rw [e] at h
    rw [if_pos rfl]
    exact h
  · have h := h I' m
    rw [e] at h
    exact h
/-- the minimum, off the line -/
theorem l_least30 (w : WT t T) (hC : KCR I T) (rest : List Nat) (hX : ∀ v : Nat, True) : ∀ (ds pre : List Nat) (n v : Nat) (a1 : Int32), (∀ c, c ∈ ds → 48 ≤ c ∧ c < 58) → T.ln = pre ++ (ds ++ 32 :: rest) → ds.length < n → K (nI (valD v ds)) I → f_L_least_b30 xs nn a1 K n (nI T.ln.length) (nI pre.length) (nI v) I := by
  have lw := w.2.2.2.2.2.2.2.2.1
  intro ds
  induction ds with
  | nil =>
    intro pre n v a1 _ e hn hK
    cases n with
    | zero => exact absurd hn (Nat.not_lt_zero _)
    | succ n =>
      have le : T.ln.length = pre.length + (1 + rest.length) := by rw [e]; simp; omega
      rw [f_L_least_b30]
      refine c_chr hC w (by omega) ?_
      rw [show T.ln.getD pre.length 0 = 32 by rw [e]; exact getD_mid pre rest 32, if_pos rfl, if_neg (by rw [n_leP (by omega) (by omega)]; omega)]
      exact hK
  | cons d ds ih =>
    intro pre n v a1 hd e hn hK
    cases n with
    | zero => exact absurd hn (Nat.not_lt_zero _)
    | succ n =>
      have le : T.ln.length = pre.length + (1 + (ds.length + (1 + rest.length))) := by rw [e]; simp; omega
      have ed : T.ln.getD pre.length 0 = d := by rw [e]; exact getD_mid pre _ d
      have bd := hd d List.mem_cons_self
      rw [f_L_least_b30]
      refine c_chr hC w (by omega) ?_
      rw [ed, if_neg (by rw [n_eqP (by omega) (by omega)]; omega)]
      refine c_chr hC w (by omega) ?_
      rw [ed, bnd_p, bnd_p, pk_mul, nI_add, nI_add, n_sub (by omega)]
      have := ih (pre ++ [d]) n (10 * v + d - 48) a1 (fun c hc => hd c (List.mem_cons_of_mem _ hc)) (by rw [e]; simp) (by simpa using hn) hK
      rw [List.length_append] at this
      exact this
theorem l_least11 (w : WT t T) (hC : KCR I T) (ds rest : List Nat) (hds : ∀ c, c ∈ ds → 48 ≤ c ∧ c < 58) (hl : ds.length < 200) (a1 : Int32) (hK : K (nI (valD 0 ds)) I) : ∀ (q pre : List Nat) (n : Nat), (∀ c, c ∈ q → c ≠ 120) → T.ln = pre ++ (q ++ 120 :: (ds ++ 32 :: rest)) → q.length < n → f_L_least_b11 xs nn a1 (fun y0_0 y0_1 y0_2 I0_ => f_L_least_b30 xs nn a1 K 200 y0_0 y0_1 y0_2 I0_) K n (nI T.ln.length) (nI pre.length) I := by
  have lw := w.2.2.2.2.2.2.2.2.1
  have lc := w.2.2.2.2.2.2.2.2.2
  intro q
  induction q with
  | nil =>
    intro pre n _ e hn
    cases n with
    | zero => exact absurd hn (Nat.not_lt_zero _)
    | succ n =>
      have le : T.ln.length = pre.length + (1 + (ds.length + (1 + rest.length))) := by rw [e]; simp; omega
      rw [f_L_least_b11]
      refine c_chr hC w (by omega) ?_
      rw [show T.ln.getD pre.length 0 = 120 by rw [e]; exact getD_mid pre _ 120, if_pos rfl, bnd_p, nI_add]
      have := l_least30 (xs := xs) (nn := nn) w hC rest (fun _ => trivial) ds (pre ++ [120]) 200 0 a1 hds (by rw [e]; simp) hl hK
      rw [List.length_append] at this
      exact this
  | cons d q ih =>
    intro pre n hq e hn
    cases n with
    | zero => exact absurd hn (Nat.not_lt_zero _)
    | succ n =>
      have le : T.ln.length = pre.length + (1 + (q.length + (1 + (ds.length + (1 + rest.length))))) := by rw [e]; simp; omega
      have ed : T.ln.getD pre.length 0 = d := by rw [e]; exact getD_mid pre _ d
      have b1 : d < 128 := lc d (by rw [e]; simp)
      rw [f_L_least_b11]
      refine c_chr hC w (by omega) ?_
      rw [ed, if_neg (by rw [n_eqP (by omega) (by omega)]; exact hq d List.mem_cons_self), bnd_p, nI_add]
      have := ih (pre ++ [d]) n (fun c hc => hq c (List.mem_cons_of_mem _ hc)) (by rw [e]; simp) (by simpa using hn)
      rw [List.length_append] at this
      exact this
theorem oText_lt (S : OS) (p : Nat) : ∀ c, c ∈ oText S p → c < 128 := by
  intro c hc
  unfold oText at hc
  simp only [List.mem_append, List.mem_cons, List.not_mem_nil, or_false] at hc
  rcases hc with (((((((((q | q) | q) | q) | q) | q) | q) | q) | q) | q)
  · omega
  · have := dig_b _ _ _ q; omega
  · omega
  · have := dig_b _ _ _ q; omega
  · omega
  · have := dig_b _ _ _ q; omega
  · omega
  · have := dig_b _ _ _ q; omega
  · omega
  · have := dig_b _ _ _ q; omega
theorem l_least {p : Nat} {H : HS} {c : Nat} (g : LSt I H c t) (hp : p < oc H.o) (h : ∀ I', LSt I' H c t → K (nI (oF H.o 3 p)) I') : f_L_least xs nn (nI (oF H.o 0 p)) I K := by
  obtain ⟨T, ⟨w, hC⟩, rfl, rfl⟩ := g
  have ow := hC.1.2.1.1
  have b := ow.2.2.1 p hp
  unfold f_L_least
  refine c_fmtO hC hp fun J lJ mJ => ?_
  have cJ := hC.lin mJ lJ
  have wJ := w.lin (l := oText T.h.o p) lJ.2.1 (oText_lt _ _)
  have hK : K (nI (valD 0 (digs 10 (oF T.h.o 3 p)))) J := by
    rw [valD_digs 10 _ (by omega)]
    exact h J (LSt.of wJ cJ rfl rfl)
  have l3 := (dg_le10 (m := oF T.h.o 3 p) (by omega)).2
  have lo : (oText T.h.o p).length ≤ 150 := lJ.2.1
  have e : (T.lin (oText T.h.o p)).ln = [] ++ (([35] ++ digs 10 (oF T.h.o 0 p) ++ [32, 116] ++ digs 10 (oF T.h.o 1 p) ++ [32] ++ digs 10 (oF T.h.o 2 p)) ++ 120 :: (digs 10 (oF T.h.o 3 p) ++ 32 :: ([112] ++ digs 10 (oF T.h.o 4 p)))) := by
    rw [lin_ln]
    unfold oText
    simp
  have e2 : oText T.h.o p = [] ++ (([35] ++ digs 10 (oF T.h.o 0 p) ++ [32, 116] ++ digs 10 (oF T.h.o 1 p) ++ [32] ++ digs 10 (oF T.h.o 2 p)) ++ 120 :: (digs 10 (oF T.h.o 3 p) ++ 32 :: ([112] ++ digs 10 (oF T.h.o 4 p)))) := by rw [← e, lin_ln]
  have hl : ([35] ++ digs 10 (oF T.h.o 0 p) ++ [32, 116] ++ digs 10 (oF T.h.o 1 p) ++ [32] ++ digs 10 (oF T.h.o 2 p)).length < 200 := by
    have := congrArg List.length e2
    rw [List.length_append, List.length_append, List.length_nil] at this
    omega
  have := l_least11 (xs := xs) (nn := nn) wJ cJ (digs 10 (oF T.h.o 3 p)) ([112] ++ digs 10 (oF T.h.o 4 p)) (dig_b 10 _) (by omega) (nI (oF T.h.o 0 p)) hK _ [] 200 (fun c hc => ?_) e hl
  · rw [lin_ln] at this
    exact this
  · simp only [List.mem_append, List.mem_cons, List.not_mem_nil, or_false] at hc
    rcases hc with (((((q | q) | q) | q) | q) | q)
    · omega
    · have := dig_b _ _ _ q; omega
    · omega
    · have := dig_b _ _ _ q; omega
    · omega
    · have := dig_b _ _ _ q; omega
/-- the kettle from which cups would be poured -/
theorem l_pours {cu mn : Nat} (hC : KCR I T) (hcu : cu ≤ 100) (hm1 : 1 ≤ mn) (hm2 : mn ≤ 1000) (h : K (noI (suitK T.h.k cu mn (kc T.h.k))) I) : f_L_pours xs nn (nI cu) (nI mn) I K := by
  have kw := hC.1.1.1
  have k4 := kw.1
  have qc : Q8 (2 * (cu : Int)) (FP.fmul 1048576000 (FP.i2f (nI cu))) := Q8_q.mul (Q8.i2f (by omega)) (by omega) (by omega)
  have qm : Q8 (8 * (mn : Int)) (FP.i2f (nI mn)) := Q8.i2f (by omega)
  have loop : ∀ n k, k ≤ kc T.h.k → kc T.h.k - k < n → f_L_pours_b7 xs nn (nI cu) (nI mn) K n (noI (suitK T.h.k cu mn k)) (nI k) I := by
    intro n
    induction n with
    | zero => intro k _ hn; omega
    | succ n ih =>
      intro k hk hf
      rw [f_L_pours_b7]
      refine c_kc hC (ite_i (fun q => ?_) (fun q => ?_))
      · rw [n_leP (by omega) (by omega)] at q
        have : k = kc T.h.k := by omega
        rw [this]
        exact h
      rw [n_leP (by omega) (by omega)] at q
      have hk2 : k < kc T.h.k := by omega
      have bk := kw.2 k hk2
      have qv : Q8 (kvol T.h.k k : Int) (e8 (kvol T.h.k k)) := Q8.e8 (by omega)
      have qt : Q8 (4 * (ktmp T.h.k k : Int)) (h8 (ktmp T.h.k k)) := Q8.h8 (by omega)
      have nxt : ∀ r, suitK T.h.k cu mn (k + 1) = r → f_L_pours_b7 xs nn (nI cu) (nI mn) K n (noI r) (nI (k + 1)) I := fun r e => by rw [← e]; exact ih (k + 1) (by omega) (by omega)
      have es : suitK T.h.k cu mn (k + 1) = if 2 * cu ≤ kvol T.h.k k ∧ (match suitK T.h.k cu mn k with | none => 2 * mn - 1 | some b => ktmp T.h.k b) < ktmp T.h.k k then some k else suitK T.h.k cu mn k := rfl
      have a1 := cg qv qc
      have a2 := cg qt qm
      refine c_vol hC hk2 ⟨qc.n32, ite_i (fun z => ?_) (fun z => ?_)⟩
      · have z := a1.1.mp z
        rw [bnd_p, nI_add]
        exact nxt _ (by rw [es, if_neg (by omega)])
      have z : ¬ (kvol T.h.k k : Int) < 2 * cu := fun y => z (a1.1.mpr y)
      refine c_tmp hC hk2 (ite_i (fun y => ?_) (fun y => ?_))
      · have y := a2.2.2.2.2.mp y
        cases e : suitK T.h.k cu mn k with
        | none =>
          have e9 : noI none = -30000 := rfl
          rw [if_pos e9]
          unfold f_L_pours_b68
          rw [bnd_p, nI_add]
          exact nxt (some k) (by rw [es, e]; exact if_pos ⟨by omega, by show 2 * mn - 1 < _; omega⟩)
        | some b =>
          have hb := suitK_lt e
          have bb := kw.2 b (by omega)
          have qb : Q8 (4 * (ktmp T.h.k b : Int)) (h8 (ktmp T.h.k b)) := Q8.h8 (by omega)
          have ne : ¬ noI (some b) = -30000 := by
            rw [noI_eq (fun j hj => by cases hj; omega)]
            exact fun q => by cases q
          rw [if_neg ne]
          have a3 := cl qt qb
          refine c_tmp hC hk2 (c_tmp hC (k := b) (by omega) (ite_i (fun x => ?_) (fun x => ?_)))
          · have x := a3.2.2.1.mp x
            rw [bnd_p, nI_add]
            exact nxt (some b) (by rw [es, e]; exact if_neg (fun q => by have q2 : ktmp T.h.k b < ktmp T.h.k k := q.2; omega))
          · have x : ¬ (4 * (ktmp T.h.k k : Int) ≤ 4 * (ktmp T.h.k b : Int)) := fun y => x (a3.2.2.1.mpr y)
            unfold f_L_pours_b68
            rw [bnd_p, nI_add]
            exact nxt (some k) (by rw [es, e]; exact if_pos ⟨by omega, by show ktmp T.h.k b < _; omega⟩)
      · have y : ¬ (8 * (mn : Int) ≤ 4 * (ktmp T.h.k k : Int)) := fun x => y (a2.2.2.2.2.mpr x)
        rw [bnd_p, nI_add]
        refine nxt _ ?_
        rw [es, if_neg]
        intro q
        cases e : suitK T.h.k cu mn k with
        | none =>
          rw [e] at q
          have q2 : 2 * mn - 1 < ktmp T.h.k k := q.2
          omega
        | some b =>
          rw [e] at q
          have q2 : ktmp T.h.k b < ktmp T.h.k k := q.2
          have := suitK_min e
          omega
  unfold f_L_pours
  exact loop 8 0 (Nat.zero_le _) (by omega)
section L5
variable {v2 v3 v5 v6 : Int32} {v7 v8 : UInt32} {v9 : UInt64} {H : HS} {c : Nat}
theorem l_502 {X668 : Int32 → Int32 → Int32 → Int32 → Int32 → UInt32 → UInt32 → UInt64 → IT → Prop} {X674 : Int32 → Int32 → Int32 → Int32 → Int32 → UInt32 → UInt32 → UInt64 → Int32 → Int32 → IT → Prop} (h0 : ¬ canN H → ∀ I', LSt I' H c t → X668 v2 v3 (nI (oc H.o)) v5 v6 v7 v8 v9 I') (h1 : canN H → ∀ I', LSt I' H c t → X674 v2 v3 (nI (oc H.o)) v5 v6 v7 v8 v9 (nI 1) (nI 0) I') : ∀ n p I, p ≤ oc H.o → oc H.o - p < n → LSt I H c t → f_L_law_b502 xs nn X668 X674 K n v2 v3 (nI (oc H.o)) v5 v6 v7 v8 v9 (nI p) I := by
  intro n
  induction n with
  | zero => intro p _ _ hn; omega
  | succ n ih =>
    intro p I hp hf g
    obtain ⟨T, ⟨w, hC⟩, rfl, rfl⟩ := id g
    have ow := hC.1.2.1.1
    have w1 := ow.1
    have ht := w.1.2
    have h3 := ht.1
    have h8p := ht.2.2.2.2.1
    rw [f_L_law_b502]
    refine ite_i (fun q => ?_) (fun q => ?_)
    · rw [n_leP (by omega) (by omega)] at q
      refine ite_i (fun z => ?_) (fun z => ?_)
      · rw [n_le0 (by omega)] at z
        refine h0 (fun y => y.1 ?_) I g
        unfold kffN
        rw [if_pos z]
      · rw [n_le0 (by omega)] at z
        have hz : 0 < oc T.h.o := by omega
        have b := ow.2.2.1 0 hz
        have ek : kffN T.h = suitK T.h.k (oF T.h.o 2 0) (oF T.h.o 3 0) (kc T.h.k) := by
          unfold kffN
          rw [if_neg z]
        refine c_oat hC hz (lw_kfor hC hz (ite_i (fun y => ?_) (fun y => ?_)))
        · rw [noI_eq (fun j hj => by have := suitK_lt hj; have := hC.1.1.1.1; omega)] at y
          exact h0 (fun x => x.1 (ek.trans y)) I g
        · rw [noI_eq (fun j hj => by have := suitK_lt hj; have := hC.1.1.1.1; omega)] at y
          refine c_clean hC (c_oat hC hz (c_cups hC hz (ite_i (fun x => ?_) (fun x => ?_))))
          · rw [n_ltP (by omega) (by omega)] at x
            exact h0 (fun u => by have := u.2; omega) I g
          · rw [n_ltP (by omega) (by omega)] at x
            exact h1 ⟨fun u => y (ek.symm.trans u), by omega⟩ I g
    rw [n_leP (by omega) (by omega)] at q
    have hp2 : p < oc T.h.o := by omega
    have b := ow.2.2.1 p hp2
    have kw := hC.1.1.1
    have qp : Q8 (T.h.s 8 : Int) (e8 (T.h.s 8)) := Q8.e8 (by omega)
    have hb : oF T.h.o 2 p * T.h.s 8 ≤ 6 * 80 := Nat.mul_le_mul (by omega) (by omega)
    have qa : Q8 ((oF T.h.o 2 p * T.h.s 8 : Nat) : Int) (e8 (oF T.h.o 2 p * T.h.s 8)) := Q8.e8 (by omega)
    have qm : Q8 ((oF T.h.o 2 p * T.h.s 8 : Nat) : Int) (FP.fmul (FP.i2f (nI (oF T.h.o 2 p))) (e8 (T.h.s 8))) := (Q8.i2f (n := oF T.h.o 2 p) (by omega)).mul qp (by rw [Int.natCast_mul, Int.mul_assoc]) (by omega)
    have lt1 : ∀ j, suitK T.h.k (oF T.h.o 2 p) (oF T.h.o 3 p) (kc T.h.k) = some j → j < 2147483648 := fun j hj => by have := suitK_lt hj; have := kw.1; omega
    refine c_oat hC hp2 (c_pos hC hp2 ?_)
    rw [if_pos rfl]
    refine c_price hC hp2 (c_cups hC hp2 (c_cupPrice hC ⟨qm.n32, ?_⟩))
    rw [if_pos ((cl qa qm).2.1.mpr rfl)]
    refine lw_kfor hC hp2 (c_cups hC hp2 (l_least g hp2 fun I2 g2 => ?_))
    obtain ⟨T2, ⟨w2, hC2⟩, e1, e2⟩ := id g2
    rw [← e1] at hp2 b ⊢
    refine l_pours hC2 (by omega) (by omega) (by omega) ?_
    rw [if_pos rfl]
    refine lw_mus hC2 hp2 fun I3 m3 => ?_
    have hC3 := hC2.cpy m3
    have g3 : LSt I3 T.h T.pc t := LSt.of w2 hC3 e1 e2
    have e0 : (noI (wtK T2.h.k (oF T2.h.o 2 p) (oF T2.h.o 3 p)) = 0) = (wtK T2.h.k (oF T2.h.o 2 p) (oF T2.h.o 3 p) = some 0) := by
      cases e : wtK T2.h.k (oF T2.h.o 2 p) (oF T2.h.o 3 p) with
      | none => simp [noI]
      | some j =>
        have := wtK_lt e
        show (nI j = 0) = (some j = some 0)
        rw [n_eq0 (by omega)]
        simp
    have le : noI (wtK T2.h.k (oF T2.h.o 2 p) (oF T2.h.o 3 p)) ≤ nI 120 := by
      cases e : wtK T2.h.k (oF T2.h.o 2 p) (oF T2.h.o 3 p) with
      | none => decide
      | some j =>
        have := wtK_lt e
        show nI j ≤ nI 120
        rw [n_leP (by omega) (by omega)]
        omega
    have fin : ∀ s I', LSt I' T.h T.pc t → KCR I' T2 → (s = if suitK T2.h.k (oF T2.h.o 2 p) (oF T2.h.o 3 p) (kc T2.h.k) = none then nI 0 else nI 1) → f_L_law_b589 xs nn (fun y0_0 y0_1 y0_2 y0_3 y0_4 y0_5 y0_6 y0_7 y0_8 I0_ => f_L_law_b502 xs nn X668 X674 K n y0_0 y0_1 y0_2 y0_3 y0_4 y0_5 y0_6 y0_7 y0_8 I0_) K v2 v3 (nI (oc T2.h.o)) v5 v6 v7 v8 v9 (nI p) (nI (oF T2.h.o 0 p)) s I' := by
      intro s I' g' c' hs
      have tail : f_L_law_b606 xs nn (fun y0_0 y0_1 y0_2 y0_3 y0_4 y0_5 y0_6 y0_7 y0_8 I0_ => f_L_law_b502 xs nn X668 X674 K n y0_0 y0_1 y0_2 y0_3 y0_4 y0_5 y0_6 y0_7 y0_8 I0_) K v2 v3 (nI (oc T2.h.o)) v5 v6 v7 v8 v9 (nI p) (nI (oF T2.h.o 0 p)) s s I' := by
        unfold f_L_law_b606
        rw [if_pos rfl]
        refine lw_mus c' hp2 fun I5 m5 => ?_
        rw [if_pos le, bnd_p, nI_add]
        have hf2 : oc T2.h.o - p < n + 1 := by rw [e1]; exact hf
        have := ih (p + 1) I5 (by rw [← e1]; omega) (by rw [← e1]; omega) (LSt.of w2 (c'.cpy m5) e1 e2)
        rw [← e1] at this
        exact this
      unfold f_L_law_b589
      refine lw_kfor c' hp2 (ite_i (fun y => ?_) (fun y => ?_))
      · rw [noI_eq (by rw [e1]; exact lt1)] at y
        rw [if_pos y] at hs
        rw [← hs]; exact tail
      · rw [noI_eq (by rw [e1]; exact lt1)] at y
        rw [if_neg y] at hs
        rw [← hs]; exact tail
    refine ite_i (fun y => ?_) (fun y => ?_)
    · rw [e0] at y
      exact fin _ I3 g3 hC3 (by rw [if_neg (wt_0.mp y)])
    · rw [e0] at y
      refine fin _ I3 g3 hC3 ?_
      rw [if_pos]
      exact Classical.byContradiction fun z => y (wt_0.mpr z)
end L5
end Or
