/-! ===== the minutes until a kettle suits ===== -/
/-- r kettles' minutes, from kettle j on -/
def kM : Nat → Nat → KS → KS
  | 0, _, S => S
  | r + 1, j, S => kM r (j + 1) (passK S j)
def kI (S : KS) : Nat → KS
  | 0 => S
  | m + 1 => kM (kc (kI S m)) 0 (kI S m)
def hI (P : HS × Nat) : Nat → HS × Nat
  | 0 => P
  | m + 1 => itK (kc (hI P m).1.k) 0 (hI P m)
theorem kM_kc : ∀ r j S, kc (kM r j S) = kc S
  | 0, _, _ => rfl
  | r + 1, j, S => kM_kc r (j + 1) (passK S j)
theorem kI_kc (S : KS) : ∀ m, kc (kI S m) = kc S
  | 0 => rfl
  | m + 1 => by show kc (kM _ _ _) = _; rw [kM_kc]; exact kI_kc S m
theorem itK_k : ∀ r j P, (itK r j P).1.k = kM r j P.1.k
  | 0, _, _ => rfl
  | r + 1, j, P => itK_k r (j + 1) (stepH P j)
theorem hI_k (P : HS × Nat) : ∀ m, (hI P m).1.k = kI P.1.k m
  | 0 => rfl
  | m + 1 => by show (itK _ _ _).1.k = kM _ _ _; rw [itK_k, hI_k P m]
abbrev suM (S : KS) (cups mn m : Nat) : Option Nat := suitK (kI S m) cups mn (kc S)
/-- the first minute, of 121, in which one suits -/
def wtK (S : KS) (cups mn : Nat) : Option Nat := firstN (fun m => suM S cups mn m ≠ none) 121
section K
variable {I : IT} {S : KS}
theorem s_waitIn {X : Int32 → IT → Prop} {K : Int32 → IT → Prop} (a1 a2 v3 : Int32) : ∀ f r j I' S', KR I' 50 S' → kc S' = j + r → r < f → (∀ I2, KR I2 50 (kM r j S') → Same I' I2 50 6 → X (v3 + nI 1) I2) → f_X8_waitOnCopy_b40 a1 a2 X K f v3 (nI j) I' := by
  intro f
  induction f with
  | zero => intro r _ _ _ _ _ hn; omega
  | succ f ih =>
    intro r j I' S' hR hc hf hX
    have w1 := hR.1.1
    have e5 : I' 50 5 = nI (kc S') := hR.2.1
    rw [f_X8_waitOnCopy_b40, e5]
    have g := n_leP (a := kc S') (b := j) (by omega) (by omega)
    cases r with
    | zero => rw [if_pos (by rw [g]; omega), bnd_p]; exact hX I' hR Same.rf
    | succ r =>
      rw [if_neg (by rw [g]; omega)]
      refine s_passMinute hR (by omega) fun I2 r2 m2 => ?_
      rw [bnd_p, nI_add]
      exact ih r (j + 1) I2 (passK S' j) r2 (show kc S' = j + 1 + r by omega) (by omega) fun I3 r3 m3 => hX I3 r3 (m2.then m3)
theorem s_wait {K : Int32 → IT → Prop} (hS : KR I 2 S) {cups mn : Nat} (hcu : cups ≤ 100) (hm1 : 1 ≤ mn) (hm2 : mn ≤ 1000) (h : ∀ I', Same I I' 50 6 → K (optI (wtK S cups mn)) I') : f_X8_waitOnCopy (nI cups) (nI mn) I K := by
  have main : ∀ f j I', j ≤ 121 → 121 - j < f → KR I' 50 (kI S j) → Same I I' 50 6 → (∀ i, i < j → ¬ suM S cups mn i ≠ none) → f_X8_waitOnCopy_b16 (nI cups) (nI mn) K f (nI j) I' := by
    intro f
    induction f with
    | zero => intro j I' _ hf; omega
    | succ f ih =>
      intro j I' hj hf hR hm hno
      have w1 := hR.1.1
      rw [f_X8_waitOnCopy_b16]
      have g := n_ltP (a := 120) (b := j) (by omega) (by omega)
      by_cases e : j = 121
      · rw [if_pos (by rw [g]; omega)]
        have ew : wtK S cups mn = none := firstN_none fun i hi => hno i (by omega)
        rw [ew] at h; exact h I' hm
      · rw [if_neg (by rw [g]; omega)]
        refine s_suitable hR hcu hm1 hm2 ?_
        rw [kI_kc]
        have em := optI_m1 (r := suM S cups mn j) (fun b hb => by have := suitK_lt hb; rw [kI_kc] at w1; omega)
        show @ite Prop (optI (suM S cups mn j) = -1) _ _ _
        simp only [em]
        by_cases q : suM S cups mn j = none
        · rw [if_pos q]
          refine s_waitIn _ _ _ 4096 (kc (kI S j)) 0 I' (kI S j) hR (by omega) (by omega) fun I2 r2 m2 => ?_
          rw [nI_add]
          refine ih (j + 1) I2 (by omega) (by omega) r2 (hm.then m2) (fun i hi => ?_)
          by_cases e3 : i = j
          · rw [e3]; exact fun z => z q
          · exact hno i (by omega)
        · rw [if_neg q]
          have ew : wtK S cups mn = some j := firstN_hit (by omega) q hno
          rw [ew] at h; exact h I' hm
  unfold f_X8_waitOnCopy
  refine s_copyK (a := 50) hS (by omega) fun I1 k1 m1 => ?_
  exact main 4096 0 I1 (by omega) (by omega) k1 m1 (fun i hi => by omega)
end K
section M
variable {I : IT}
theorem m_susIn {X : Int32 → Int32 → Int32 → IT → Prop} {K : Int32 → IT → Prop} {a1 v2 v4 : Int32} : ∀ f r j I' P, HM (I' 191) (withW P) → HW P.1 → P.1.s 10 ≤ 1 → kc P.1.k = j + r → r < f → (∀ I2, HM (I2 191) (withW (itK r j P)) → HW (itK r j P).1 → (itK r j P).1.s 10 ≤ 1 → (∀ q, q ≠ 191 → I2 q = I' q) → (∀ q, 53 ≤ q → I2 191 q = I' 191 q) → f_X9_pourer v2 I2 (fun x2 => if x2 < 0 then X v2 (-1) (v4 + nI 1) I2 else X v2 v4 (v4 + nI 1) I2)) → f_X9_minutesUntilSuitable_b62 a1 X K f v2 v4 (nI j) I' := by
  intro f
  induction f with
  | zero => intro r _ _ _ _ _ _ _ hn; omega
  | succ f ih =>
    intro r j I' P c1 c2 c3 c5 hf hX
    have kw1 := c2.1.1
    rw [f_X9_minutesUntilSuitable_b62]
    rw [show I' 191 1 = nI (kc P.1.k) from c1.1.1]
    have g := n_leP (a := kc P.1.k) (b := j) (by omega) (by omega)
    cases r with
    | zero =>
      rw [if_pos (by rw [g]; omega)]
      simp only [bnd_p]
      exact hX I' c1 c2 c3 (fun _ _ => rfl) (fun _ _ => rfl)
    | succ r =>
      rw [if_neg (by rw [g]; omega)]
      refine m_heats c1 c2 c3 (by omega) fun I4 d1 d2 d3 => ?_
      rw [bnd_p, nI_add]
      exact ih r (j + 1) I4 (stepH P j) d1 c2.step c3 (show kc P.1.k = j + 1 + r by omega) (by omega) fun I2 f1 f2 f3 f4 f5 => hX I2 f1 f2 f3 (fun q a => by rw [f4 q a]; exact d2 q a) (fun q a => by rw [f5 q a]; exact d3 q a)
theorem m_mus {T : TS} {t : Nat} (w : WT t T) (hM : MR I T) (x : Int32) {Kx : Int32 → IT → Prop} {Q : Nat → Nat → Nat} (hQ : OT Q T.h.o) (hv : ∀ i, i < oc T.h.o → ∀ f, f < 5 → I 191 (53 + 5 * i + f) = nI (Q f i)) (h0 : fndT Q (oc T.h.o) x.toInt = none → ∀ I', MR I' T → Md2 I I' → I' 190 0 = nI 1 → Kx (nI 0) I') (h1 : ∀ i, fndT Q (oc T.h.o) x.toInt = some i → wtK T.h.k (Q 2 i) (Q 3 i) = none → ∀ I', MR I' T → Md2 I I' → I' 190 0 = nI 1 → Kx (nI 0) I') (h2 : ∀ i m, fndT Q (oc T.h.o) x.toInt = some i → wtK T.h.k (Q 2 i) (Q 3 i) = some m → ∀ I', MR I' T → Md2 I I' → I' 190 0 = nI 0 → Kx (nI m) I') : f_X9_minutesUntilSuitable x I Kx := by
  have w1 := w.1.1.2.1.1
  have w2 := w.1.1.2.1.2.1
  have kw1 := w.1.1.1.1
  have o1 : I 191 2 = nI (oc T.h.o) := hM.1.2.1.1
  have th : ∀ v, MR (up2 I 190 0 v) T ∧ Md2 I (up2 I 190 0 v) := fun v => by
    have hm : Md2 I (up2 I 190 0 v) := ⟨fun q a b => up2_ne a, fun j a b c => up2_nej a⟩
    have e : (up2 I 190 0 v) 191 = I 191 := up2_ne (by decide)
    have er : row (up2 I 190 0 v) = row I := by unfold row; rw [e]
    exact ⟨hM.of hm (by rw [e]; exact hM.1) (by rw [up2_nej (by decide)]; exact hM.2.1) (fun i hi => by rw [er]; exact hM.2.2.1 i hi) (fun S hS h9 => by rw [er]; exact h9) rfl rfl rfl rfl rfl, hm⟩
  have hb0 : ∀ i, i < oc T.h.o → Q 0 i < 2147483648 := fun i hi => by have := hQ.bd w.1.1.2.1 hi; omega
  unfold f_X9_minutesUntilSuitable
  refine m_find o1 w1 (fun i hi => hv i hi 0 (by decide)) hb0 x ?_
  cases e : fndT Q (oc T.h.o) x.toInt with
  | none =>
    rw [optI_none, if_pos (by decide)]
    unfold f_X9_minutesUntilSuitable_b16
    refine m_fine0 ?_
    rw [if_pos (by decide)]
    exact h0 e _ (th _).1 (th _).2 up2_same
  | some i =>
    have hi := firstN_lt e
    have bd := hQ.bd w.1.1.2.1 hi
    have hng := n_neg (a := i) (by omega)
    have h1 := h1 i e
    have h2 := fun m => h2 i m e
    rw [optI_some]
    simp only [hng, if_false]
    unfold f_X9_minutesUntilSuitable_b16
    refine m_fine1 ?_
    rw [if_neg (by decide)]
    have e191 : (up2 I 190 0 (nI 0)) 191 = I 191 := up2_ne (by decide)
    refine m_pourer (T := Q) (S := T.h.k) (by rw [e191]; exact hM.1.1) w.1.1.1 (by omega) (by rw [e191]; exact hv i hi) (by omega) (by omega) ?_
    -- the answer, where the search has ended
    have fin : ∀ J v, (∀ q, q ≠ 191 → J q = (up2 I 190 0 (nI 0)) q) → (∀ q, 103 ≤ q → q < 1133 → J 191 q = I 191 q) → (∀ j, j < 103 → J 191 (1133 + j) = I 191 j) → (v = none ∨ ∃ m, v = some m ∧ m ≤ 120) → wtK T.h.k (Q 2 i) (Q 3 i) = v → f_X9_minutesUntilSuitable_b108 x Kx (optI v) J := by
      intro J v j1 j2 j3 hv2 ev
      unfold f_X9_minutesUntilSuitable_b108
      refine m_copies (a := 11) (b := 0) (by decide) (by decide) (by decide) fun I' g1 g2 g3 => ?_
      have back : ∀ q, q < 1133 → I' 191 q = I 191 q := fun q hq => by
        by_cases c : q < 103
        · have := g2 q c
          rw [show 103 * 0 + q = q by omega, show 103 * 11 + q = 1133 + q by omega] at this
          rw [this]; exact j3 q c
        · rw [g3 q (by omega)]; exact j2 q (by omega) hq
      have res : ∀ u, MR (up2 I' 190 0 u) T ∧ Md2 I (up2 I' 190 0 u) := fun u => by
        have e190 : I' 190 = (up2 I 190 0 (nI 0)) 190 := by rw [g1 190 (by decide)]; exact j1 190 (by decide)
        have hm : Md2 I (up2 I' 190 0 u) := ⟨fun q a b => by rw [up2_ne a, g1 q b, j1 q b, up2_ne a], fun j a b c => by rw [up2_nej a, e190, up2_nej a]⟩
        have r191 : (up2 I' 190 0 u) 191 = I' 191 := up2_ne (by decide)
        have er : row (up2 I' 190 0 u) = row I' := by unfold row; rw [r191]
        refine ⟨hM.of hm ?_ ?_ (fun i2 hi2 => ?_) (fun S hS h9 => ?_) rfl rfl rfl rfl rfl, hm⟩
        · rw [r191]; exact hM.1.ext w.1.1 fun j hj => back j (by omega)
        · rw [up2_nej (by decide), e190, up2_nej (by decide)]; exact hM.2.1
        · have hpc := w.2.1
          rw [er]
          exact (hM.2.2.1 i2 hi2).ext (w.2.2.1 i2 hi2).1 fun j hj => by unfold row; exact back _ (by omega)
        · rw [er]
          exact h9.ext (w.2.2.2.1 S hS).1 fun j hj => by unfold row; exact back _ (by omega)
      rcases hv2 with c | ⟨m, c, cm⟩
      · rw [c, optI_none, if_pos (by decide)]
        unfold f_X9_minutesUntilSuitable_b125
        refine m_fine0 ?_
        rw [if_pos (by decide)]
        exact h1 (by rw [ev, c]) _ (res _).1 (res _).2 up2_same
      · have hn := n_neg (a := m) (by omega)
        rw [c, optI_some, if_neg (by rw [hn]; exact id)]
        unfold f_X9_minutesUntilSuitable_b125
        refine m_fine1 ?_
        rw [if_neg (by decide)]
        exact h2 m (by rw [ev, c]) _ (res _).1 (res _).2 up2_same
    have main : ∀ f m J, m ≤ 120 → 120 - m < f → HM (J 191) (withW (hI (T.h, 0) m)) → HW (hI (T.h, 0) m).1 → (hI (T.h, 0) m).1.s 10 ≤ 1 → (∀ q, q ≠ 191 → J q = (up2 I 190 0 (nI 0)) q) → (∀ q, 103 ≤ q → q < 1133 → J 191 q = I 191 q) → (∀ j, j < 103 → J 191 (1133 + j) = I 191 j) → (∀ f, f < 5 → J 191 (53 + 5 * i + f) = nI (Q f i)) → (∀ i2, i2 < m → ¬ suM T.h.k (Q 2 i) (Q 3 i) i2 ≠ none) → f_X9_minutesUntilSuitable_b48 x (fun y0_0 I0_ => f_X9_minutesUntilSuitable_b108 x Kx y0_0 I0_) Kx f (nI i) (if suM T.h.k (Q 2 i) (Q 3 i) m = none then -1 else nI m) (nI (m + 1)) J := by
      intro f
      induction f with
      | zero => intro m J _ hf; omega
      | succ f ih =>
        intro m J hm hf c1 c2 c3 j1 j2 j3 j4 hno
        rw [f_X9_minutesUntilSuitable_b48]
        by_cases q : suM T.h.k (Q 2 i) (Q 3 i) m = none
        · rw [if_pos q, if_neg (by decide)]
          have g := n_ltP (a := 120) (b := m + 1) (by omega) (by omega)
          have hno' : ∀ i2, i2 < m + 1 → ¬ suM T.h.k (Q 2 i) (Q 3 i) i2 ≠ none := fun i2 hi2 => by
            by_cases e3 : i2 = m
            · rw [e3]; exact fun z => z q
            · exact hno i2 (by omega)
          by_cases e2 : m = 120
          · rw [if_pos (by rw [g]; omega)]
            exact fin J none j1 j2 j3 (Or.inl rfl) (firstN_none fun i2 hi2 => hno' i2 (by omega))
          · rw [if_neg (by rw [g]; omega)]
            have kwh := c2.1.1
            refine m_susIn 4096 (kc (hI (T.h, 0) m).1.k) 0 J (hI (T.h, 0) m) c1 c2 c3 (by omega) (by omega) fun I2 f1 f2 f3 f4 f5 => ?_
            have ek : (itK (kc (hI (T.h, 0) m).1.k) 0 (hI (T.h, 0) m)).1.k = kI T.h.k (m + 1) := hI_k (T.h, 0) (m + 1)
            refine m_pourer (T := Q) (S := kI T.h.k (m + 1)) (by rw [← ek]; exact f1.1) (by rw [← ek]; exact f2.1) (by omega) (fun f hf => by rw [f5 _ (by omega)]; exact j4 f hf) (by omega) (by omega) ?_
            rw [kI_kc]
            have nx := ih (m + 1) I2 (by omega) (by omega) f1 f2 f3 (fun q a => by rw [f4 q a]; exact j1 q a) (fun q a b => by rw [f5 q (by omega)]; exact j2 q a b) (fun j hj => by rw [f5 _ (by omega)]; exact j3 j hj) (fun f hf => by rw [f5 _ (by omega)]; exact j4 f hf) hno'
            rw [nI_add]
            show @ite Prop (optI (suM T.h.k (Q 2 i) (Q 3 i) (m + 1)) < 0) _ _ _
            cases e4 : suM T.h.k (Q 2 i) (Q 3 i) (m + 1) with
            | none =>
              rw [if_pos e4] at nx
              rw [optI_none, if_pos (by decide)]; exact nx
            | some b =>
              have hb := suitK_lt e4
              have hn := n_neg (a := b) (by omega)
              rw [if_neg (by rw [e4]; intro z; cases z)] at nx
              rw [optI_some, if_neg (by rw [hn]; exact id)]; exact nx
        · have hg := n_ge0 (a := m) (by omega)
          rw [if_neg q, if_pos (by rw [hg]; trivial)]
          exact fin J (some m) j1 j2 j3 (Or.inr ⟨m, rfl, hm⟩) (firstN_hit (by omega) q hno)
    have start : f_X9_minutesUntilSuitable_b37 x Kx (nI i) (if suM T.h.k (Q 2 i) (Q 3 i) 0 = none then -1 else nI 0) (up2 I 190 0 (nI 0)) := by
      unfold f_X9_minutesUntilSuitable_b37
      refine m_copies (a := 0) (b := 11) (by decide) (by decide) (by decide) fun J g1 g2 g3 => ?_
      rw [e191] at g2 g3
      refine main 4096 0 J (by omega) (by omega) ?_ w.1.1 w.1.2.2.2.2.2.2.2.1 g1 (fun q a b => g3 q (by omega)) (fun j hj => ?_) (fun f hf => by rw [g3 _ (by omega)]; exact hv i hi f hf) (fun i2 hi2 => by omega)
      · show HM (J 191) (withW (T.h, 0))
        rw [withW0]
        exact hM.1.ext w.1.1 fun j hj => g3 j (by omega)
      · have := g2 j hj
        rw [show 103 * 0 + j = j by omega, show 103 * 11 + j = 1133 + j by omega] at this
        exact this
    show @ite Prop (optI (suM T.h.k (Q 2 i) (Q 3 i) 0) < 0) _ _ _
    cases e4 : suM T.h.k (Q 2 i) (Q 3 i) 0 with
    | none =>
      rw [if_pos e4] at start
      rw [optI_none, if_pos (by decide)]; exact start
    | some b =>
      have hb := suitK_lt e4
      have hn := n_neg (a := b) (by omega)
      rw [if_neg (by rw [e4]; intro z; cases z)] at start
      rw [optI_some, if_neg (by rw [hn]; exact id)]; exact start
end M
section Law
variable {xs : Nat → Int32} {nn : Nat} {X28 : Int32 → IT → LT → Prop} {K : Int32 → IT → LT → Prop} {p : Nat} {I : IT} {L : LT} {T : TS} {t : Nat}
theorem l_minutesUntilSuitable (hp : p + 5 ≤ nn) (hn : nn ≤ 2560) (hS : ST I T t) (ht : t ≤ 8000) (hX : NX X28 p t) : f_L_law_b2080 xs nn X28 K (nI p) I L := by
  unfold f_L_law_b2080
  simp only [nI_add]
  rw [inr_n (k := p + 1) (by omega), ix_n (n := p + 1) (by omega)]
  refine ⟨by omega, ?_⟩
  generalize xs (p + 1) = x
  unfold f_L_minutesUntilSuitable f_X8_minutesUntilSuitable
  have w1 := hS.1.1.1.2.1.1
  obtain ⟨Q, hQ, hv, hv0, hb0, hb⟩ := hS.2.2.1.2.1.fa hS.1.1.1.2.1
  have bye : ∀ J, ST J T t → ∀ I', MR I' T → Md2 J I' → ST I' T t := fun J hJ I' m d => ⟨hJ.1, hJ.2.1.same fun q hq => d.1 q (by omega) (by omega), m⟩
  refine s_find hS.2.1.1.2.1 x ?_
  have en := hQ.find hS.1.1.1.2.1 x.toInt
  cases e : fndT Q (oc T.h.o) x.toInt with
  | none =>
    rw [e] at en
    have en : findO T.h.o x.toInt = none := en
    rw [en]
    refine s_found (fun j q => by cases q) (fun _ => ?_) (fun j q => by cases q)
    show @ite Prop ("java/util/NoSuchElementException" = "java/util/NoSuchElementException") _ _ _
    rw [if_pos rfl]
    refine m_mus hS.1 hS.2.2 x hQ hv (fun _ I' m d z => ?_) (fun i z => by rw [e] at z; cases z) (fun i m z => by rw [e] at z; cases z)
    unfold f_X9_thrown
    dsimp only
    rw [z, if_pos rfl, if_neg (by decide)]
    exact l_3520 hX (bye I hS I' m d) (by omega)
  | some i =>
    rw [e] at en
    have en : findO T.h.o x.toInt = some (rnkO Q (oc T.h.o) i) := en
    have hi := firstN_lt e
    have hr := hQ.lt hi
    have bd := hQ.bd hS.1.1.1.2.1 hi
    have h2 := hQ.2 i hi 2 (by omega)
    have h3 := hQ.2 i hi 3 (by omega)
    have c2 : I 11 (rnkO Q (oc T.h.o) i) = nI (Q 2 i) := by rw [← h2]; exact (hS.2.1.1.ov hr).2.2.1
    have c3 : I 12 (rnkO Q (oc T.h.o) i) = nI (Q 3 i) := by rw [← h3]; exact (hS.2.1.1.ov hr).2.2.2.1
    rw [en]
    refine s_found (fun j q => by cases q; omega) (fun q => by cases q) (fun j q => ?_)
    cases q
    rw [inr_n (by omega), ix_n (by omega), c2, c3]
    refine ⟨by omega, s_wait hS.2.1.1.1 (by omega) (by omega) (by omega) fun J m2 => ?_⟩
    have hJ := hS.cpy m2
    have hv' : ∀ i, i < oc T.h.o → ∀ f, f < 5 → J 191 (53 + 5 * i + f) = nI (Q f i) := fun i hi f hf => by rw [m2 191 (by omega)]; exact hv i hi f hf
    refine s_found (fun j z => by have := firstN_lt z; omega) (fun z => ?_) (fun j z => ?_)
    · show @ite Prop ("java/util/NoSuchElementException" = "java/util/NoSuchElementException") _ _ _
      rw [if_pos rfl]
      refine m_mus hJ.1 hJ.2.2 x hQ hv' (fun y => by rw [e] at y; cases y) (fun i2 y _ I' m d z2 => ?_) (fun i2 m y y2 => by rw [e] at y; cases y; rw [z] at y2; cases y2)
      unfold f_X9_thrown
      dsimp only
      rw [z2, if_pos rfl, if_neg (by decide)]
      exact l_3520 hX (bye J hJ I' m d) (by omega)
    · unfold wrL
      dsimp only
      refine m_mus hJ.1 hJ.2.2 x hQ hv' (fun y => by rw [e] at y; cases y) (fun i2 y y2 => by rw [e] at y; cases y; rw [z] at y2; cases y2) (fun i2 m y y2 I' mm d z2 => ?_)
      rw [e] at y
      cases y
      rw [z] at y2
      cases y2
      unfold f_X9_thrown
      dsimp only
      rw [z2, if_pos rfl, if_pos (by decide)]
      rw [if_pos (by rw [up2_same]; exact lg_self _)]
      exact l_3520 hX (bye J hJ I' mm d) (by omega)
end Law
