/-! ===== the law's checks of the nights ===== -/
theorem aheadL_irr (f : Nat → Nat) (i : Nat) : ¬ aheadL f i i := by unfold aheadL; omega
theorem aheadL_tr (f : Nat → Nat) (i j k : Nat) : aheadL f i j → aheadL f j k → aheadL f i k := by unfold aheadL; omega
theorem aheadL_tot (f : Nat → Nat) (i j : Nat) (h : i ≠ j) : aheadL f i j ∨ aheadL f j i := by unfold aheadL; omega
theorem rankL_lt {f : Nat → Nat} {n k : Nat} (h : k < n) : rankL f n k < n := rk_lt (lt := aheadL f) (aheadL_irr f) h
theorem rankL_inj {f : Nat → Nat} {n i j : Nat} (h : i < n) (hj : j < n) (e : rankL f n i = rankL f n j) : i = j := rk_inj (lt := aheadL f) (aheadL_irr f) (aheadL_tr f) (fun i j _ _ h => aheadL_tot f i j h) h hj e
theorem rankL_onto {f : Nat → Nat} {n r : Nat} (h : r < n) : ∃ k, k < n ∧ rankL f n k = r := rk_onto (lt := aheadL f) (aheadL_irr f) (aheadL_tr f) (fun i j _ _ h => aheadL_tot f i j h) h
theorem rkdL {f : Nat → Nat} {n r i : Nat} (hi : i < n) (hr : rankL f n i = r) : rankedL f n (r : Int) = some i :=
  firstN_hit hi (by show ((rankL f n i : Nat) : Int) = _; rw [hr]) (fun j hj hq => by
    have hq : ((rankL f n j : Nat) : Int) = (r : Int) := hq
    have := rankL_inj (f := f) (n := n) (i := j) (j := i) (by omega) hi (by omega)
    omega)
theorem rkdL_no {f : Nat → Nat} {n : Nat} : rankedL f n (n : Int) = none :=
  firstN_none fun i hi hq => by
    have hq : ((rankL f n i : Nat) : Int) = (n : Int) := hq
    have := rankL_lt (f := f) hi
    omega
theorem rkdK_no {S : KS} : rankedK S (kc S : Int) = none :=
  firstN_none fun i hi hq => by
    have hq : ((rankK S i : Nat) : Int) = (kc S : Int) := hq
    have := rankK_lt (S := S) hi
    omega
theorem txtV.cg {I I' : IT} {s : Nat} {l : List Nat} (h : txtV I s l) (e : isDy s → I' s = I s) : txtV I' s l := by
  rcases h with h | ⟨h1, h2⟩
  · exact Or.inl h
  · exact Or.inr ⟨h1, h2.cg (e h1)⟩
theorem txtV.new {I I' : IT} {s a : Nat} {l : List Nat} (h : txtV I s l) (hf : free I a) (e : ∀ q, q ≠ a → I' q = I q) : txtV I' s l := by
  rcases h with h | ⟨h1, h2⟩
  · exact Or.inl h
  · exact Or.inr ⟨h1, h2.cg (e s (txt_free h2 (Or.inl rfl) hf))⟩
theorem txtV.lt {I : IT} {s : Nat} {l : List Nat} (h : txtV I s l) : ∀ j, j < l.length → l.getD j 0 < 128 := by
  rcases h with ⟨h, rfl⟩ | ⟨h1, h2⟩
  · exact str_lt h
  · exact fun j hj => (h2.2.2.2 j hj).2
section Ni
variable {xs : Nat → Int32} {nn : Nat} {I : IT} {T : TS} {t : Nat} {K : Int32 → IT → Prop} {v2 v3 v4 v6 v11 : Int32} {v7 : UInt32} {v9 : UInt64} {H : HS} {c : Nat}
/-- what the numbers are at most -/
theorem LSt.bd (g : LSt I H c t) (ht : t ≤ 100) : LW H.l ∧ lcu H.l + lst H.l ≤ 640000 ∧ lc H.l ≤ 14 ∧ lpr H.l ≤ 640000 ∧ ∀ k, k ≤ lc H.l → sumN (lin H.l) k ≤ 640000 := by
  obtain ⟨T, ⟨w, hC⟩, rfl, rfl⟩ := g
  have lw := hC.1.2.2.1.1
  have b := w.1.2.2.2.2.2.2.2.2.2.2.1
  have e := lw.2.1
  refine ⟨lw, by omega, lw.1, by omega, fun k hk => ?_⟩
  have := sumN_mono (f := lin T.h.l) hk
  omega
theorem l_674 {X769 : Int32 → Int32 → Int32 → Int32 → Int32 → UInt32 → UInt32 → UInt64 → Int32 → Nat → Int32 → IT → Prop} (ht : t ≤ 100) (hX : ∀ I' v8, LSt I' H c t → Q8 ((lpr H.l + sumN (lin H.l) (lc H.l) : Nat) : Int) v8 → X769 v2 v3 v4 (nI (lc H.l)) v6 v7 v8 v9 v11 1000065 (nI 0) I') : ∀ n k I v8, k ≤ lc H.l → lc H.l - k < n → LSt I H c t → Q8 ((lpr H.l + sumN (lin H.l) k : Nat) : Int) v8 → f_L_law_b674 xs nn X769 K n v2 v3 v4 (nI (lc H.l)) v6 v7 v8 v9 v11 (nI k) I := by
  intro n
  induction n with
  | zero => intro k _ _ _ hn; omega
  | succ n ih =>
    intro k I v8 hk hf g q8
    obtain ⟨lw, b1, b2, b3, b4⟩ := g.bd ht
    obtain ⟨T, ⟨w, hC⟩, rfl, rfl⟩ := id g
    rw [f_L_law_b674]
    refine ite_i (fun q => ?_) (fun q => ?_)
    · rw [n_leP (by omega) (by omega)] at q
      have : k = lc T.h.l := by omega
      subst this
      exact hX I v8 g q8
    rw [n_leP (by omega) (by omega)] at q
    have hk2 : k < lc T.h.l := by omega
    have bl : ∀ i, i < lc T.h.l → lin T.h.l i ≤ 640000 := fun i hi => by
      have := b4 (i + 1) (by omega)
      simp only [sumN] at this
      omega
    have qe : ∀ i, i < lc T.h.l → Q8 (lin T.h.l i : Int) (e8 (lin T.h.l i)) := fun i hi => Q8.e8 (by have := bl i hi; omega)
    have b5 := b4 (k + 1) (by omega)
    have qa : Q8 ((lpr T.h.l + sumN (lin T.h.l) (k + 1) : Nat) : Int) (FP.fadd v8 (e8 (lin T.h.l k))) := by
      have h0 : lpr T.h.l + sumN (lin T.h.l) (k + 1) = lpr T.h.l + sumN (lin T.h.l) k + lin T.h.l k := by simp only [sumN]; omega
      rw [h0, Int.natCast_add]
      exact q8.add (qe k hk2) (by rw [← Int.natCast_add, ← h0]; omega)
    have nxt : f_L_law_b674 xs nn X769 K n v2 v3 v4 (nI (lc T.h.l)) v6 v7 (FP.fadd v8 (e8 (lin T.h.l k))) v9 v11 (nI (k + 1)) I := ih (k + 1) I _ (by omega) (by omega) g qa
    refine c_nin hC hk2 ⟨qa.n32, ite_i (fun z => ?_) (fun z => ?_)⟩
    · rw [bnd_p, nI_add]; exact nxt
    rw [n_eq0 (by omega)] at z
    rw [n_sub (by omega)]
    obtain ⟨i, hi, ri⟩ := rankL_onto (f := lin T.h.l) (n := lc T.h.l) (r := k - 1) (by omega)
    obtain ⟨j, hj, rj⟩ := rankL_onto (f := lin T.h.l) (n := lc T.h.l) (r := k) hk2
    have ei := rkdL hi ri
    have ej := rkdL hj rj
    refine c_nbi hC (k - 1) (by omega) (fun z => by rw [ei] at z; cases z) (fun z hz => ?_)
    rw [ei] at hz
    cases hz
    refine c_nbi hC k (by omega) (fun z => by rw [ej] at z; cases z) (fun z hz => ?_)
    rw [ej] at hz
    cases hz
    have ahead : aheadL (lin T.h.l) i j := by
      rcases aheadL_tot (lin T.h.l) i j (by rintro rfl; omega) with z | z
      · exact z
      · have := rk_mono (n := lc T.h.l) (lt := aheadL (lin T.h.l)) (aheadL_irr _) (aheadL_tr _) hj z
        have r1 : rankL (lin T.h.l) (lc T.h.l) j < rankL (lin T.h.l) (lc T.h.l) i := this
        omega
    have bi := bl i hi
    have bj := bl j hj
    have qd := (qe i hi).sub (qe j hj) (by omega)
    have g1 := cg qd Q8_0
    have g2 := cl qd Q8_0
    unfold aheadL at ahead
    refine c_nin hC hi (c_nin hC hj ⟨qd.n32, ite_i (fun y => ?_) (fun _ => ite_i (fun y => ite_i (fun _ => ?_) (fun x => ?_)) (fun _ => ?_))⟩)
    · have := g1.1.mp y; omega
    · rw [bnd_p, nI_add]; exact nxt
    · have := g2.2.1.mp y
      rw [n_leP (by omega) (by omega)] at x
      omega
    · rw [bnd_p, nI_add]; exact nxt
/-- the ledger's text -/
theorem l_769 {X829 : Int32 → Int32 → Int32 → Int32 → Int32 → UInt32 → UInt32 → UInt64 → Int32 → Nat → Int32 → IT → Prop} {v8 : UInt32} (ht : t ≤ 100) (hX : ∀ I' s, LSt I' H c t → txtV I' s (lText (lin H.l) (lc H.l)) → X829 v2 v3 v4 (nI (lc H.l)) v6 v7 v8 v9 v11 s (nI 1) I') : ∀ n k I s, k ≤ lc H.l → lc H.l - k < n → LSt I H c t → txtV I s (lText (lin H.l) k) → f_L_law_b769 xs nn X829 K n v2 v3 v4 (nI (lc H.l)) v6 v7 v8 v9 v11 s (nI k) I := by
  intro n
  induction n with
  | zero => intro k _ _ _ hn; omega
  | succ n ih =>
    intro k I s hk hf g tx
    obtain ⟨lw, b1, b2, b3, b4⟩ := g.bd ht
    obtain ⟨T, ⟨w, hC⟩, rfl, rfl⟩ := id g
    rw [f_L_law_b769]
    refine ite_i (fun q => ?_) (fun q => ?_)
    · rw [n_leP (by omega) (by omega)] at q
      have : k = lc T.h.l := by omega
      subst this
      exact hX I s g tx
    rw [n_leP (by omega) (by omega)] at q
    have hk2 : k < lc T.h.l := by omega
    have bl : ∀ i, i < lc T.h.l → lin T.h.l i ≤ 640000 := fun i hi => by
      have := b4 (i + 1) (by omega)
      simp only [sumN] at this
      omega
    have len := lText_len (f := lin T.h.l) (n := k) (fun i hi => by have := bl i (by omega); omega)
    have bk := bl k hk2
    refine t_new fun a J0 hd hfr t0 e0 => ?_
    have c0 := hC.row hd e0
    refine t_app t0 (tx.new hfr e0) tx.lt (by simp; omega) fun J1 t1 e1 => ?_
    have c1 := c0.row hd e1
    have tail : ∀ (s1 : Nat) (m : List Nat), isStr s1 → strT s1 = m → m.length ≤ 1 → lText (lin T.h.l) k ++ m ++ digs 10 (lin T.h.l k) = lText (lin T.h.l) (k + 1) → f_L_law_b800 xs nn (fun y0_0 y0_1 y0_2 y0_3 y0_4 y0_5 y0_6 y0_7 y0_8 y0_9 y0_10 I0_ => f_L_law_b769 xs nn X829 K n y0_0 y0_1 y0_2 y0_3 y0_4 y0_5 y0_6 y0_7 y0_8 y0_9 y0_10 I0_) K v2 v3 v4 (nI (lc T.h.l)) v6 v7 v8 v9 v11 (nI k) a s1 J1 := by
      intro s1 m h1 h2 h3 h4
      unfold f_L_law_b800
      refine t_str t1 h1 h2 (by simp; omega) fun J2 t2 e2 => ?_
      have c2 := c1.row hd e2
      refine c_nin c2 hk2 (l_eig (Q8.e8 (by omega)) (by omega) ?_)
      refine t_int t2 (by omega) (by simp; omega) fun J3 t3 e3 => ?_
      have c3 := c2.row hd e3
      refine t_toS t3 fun s2 J4 hs2 hf2 t4 e4 => ?_
      have c4 := c3.row hs2 e4
      rw [bnd_p, nI_add]
      refine ih (k + 1) J4 s2 (by omega) (by omega) (LSt.of w c4 rfl rfl) (Or.inr ⟨hs2, ?_⟩)
      rw [← h4]
      simpa using t4
    refine ite_i (fun z => ?_) (fun z => ?_)
    · rw [n_le0 (by omega)] at z
      exact tail 1000065 [] rfl rfl (by decide) (by simp [lText, z])
    · rw [n_le0 (by omega)] at z
      exact tail 1000061 [32] rfl rfl (by decide) (by simp [lText, z])
/-- the greatest incomes -/
theorem l_829 {X954 : Int32 → Int32 → Int32 → Int32 → Int32 → UInt32 → UInt32 → UInt64 → Int32 → Nat → IT → Prop} {v8 : UInt32} {s : Nat} (ht : t ≤ 100) (g : LSt I H c t) (hX : X954 v2 v3 v4 (nI (lc H.l)) v6 v7 v8 v9 v11 s I) : ∀ n m, 1 ≤ m → m ≤ lc H.l + 1 → lc H.l + 1 - m < n → f_L_law_b829 xs nn X954 K n v2 v3 v4 (nI (lc H.l)) v6 v7 v8 v9 v11 s (nI m) I := by
  obtain ⟨lw, b1, b2, b3, b4⟩ := g.bd ht
  obtain ⟨T, ⟨w, hC⟩, rfl, rfl⟩ := id g
  have bl : ∀ i, i < lc T.h.l → lin T.h.l i ≤ 640000 := fun i hi => by
    have := b4 (i + 1) (by omega)
    simp only [sumN] at this
    omega
  have sh : ∀ k r, k + r ≤ lc T.h.l → sumN (lin T.h.l) k + sumN (fun i => lin T.h.l (k + i)) r = sumN (lin T.h.l) (k + r) := by
    intro k r
    induction r with
    | zero => intro _; rfl
    | succ r ih2 =>
      intro h
      have := ih2 (by omega)
      show sumN (lin T.h.l) k + (sumN (fun i => lin T.h.l (k + i)) r + lin T.h.l (k + r)) = sumN (lin T.h.l) (k + r) + lin T.h.l (k + r)
      omega
  have sb : ∀ k r, k + r ≤ lc T.h.l → sumN (fun i => lin T.h.l (k + i)) r ≤ 640000 := fun k r h => by
    have := sh k r h
    have := b4 (k + r) h
    omega
  have gb : ∀ m k, k + m ≤ lc T.h.l + 1 → grN (lin T.h.l) m k ≤ 640000 := by
    intro m k
    induction k with
    | zero => intro _; exact Nat.zero_le _
    | succ k ih2 =>
      intro h
      have := ih2 (by omega)
      have := sb k m (by omega)
      show max (grN (lin T.h.l) m k) (sumN (fun i => lin T.h.l (k + i)) m) ≤ _
      omega
  intro n
  induction n with
  | zero => intro m _ _ hn; omega
  | succ n ih =>
    intro m hm1 hm hf
    rw [f_L_law_b829]
    refine ite_i (fun q => ?_) (fun q => ?_)
    · rw [n_ltP (by omega) (by omega)] at q
      refine ite_i (fun z => hX) (fun z => ?_)
      rw [n_leP (by omega) (by omega)] at z
      unfold f_L_greatestIncome
      rw [nI_add]
      refine c_grN hC (by omega) (by omega) ?_
      rw [if_neg (by decide), if_pos rfl]
      exact ite_i (fun _ => hX) (fun y => absurd (by decide +kernel) y)
    rw [n_ltP (by omega) (by omega)] at q
    have nxt := ih (m + 1) (by omega) (by omega) (by omega)
    have loop : ∀ f k v14, k + m ≤ lc T.h.l + 1 → lc T.h.l + 1 - m - k < f → Q8 ((grN (lin T.h.l) m k : Nat) : Int) v14 → f_L_law_b842 xs nn (fun y0_0 y0_1 y0_2 y0_3 y0_4 y0_5 y0_6 y0_7 y0_8 y0_9 y0_10 I0_ => f_L_law_b829 xs nn X954 K n y0_0 y0_1 y0_2 y0_3 y0_4 y0_5 y0_6 y0_7 y0_8 y0_9 y0_10 I0_) K f v2 v3 v4 (nI (lc T.h.l)) v6 v7 v8 v9 v11 s (nI m) v14 (nI k) I := by
      intro f
      induction f with
      | zero => intro k _ _ hn; omega
      | succ f ih3 =>
        intro k v14 hk hf2 q14
        rw [f_L_law_b842, nI_add]
        refine ite_i (fun z => ?_) (fun z => ?_)
        · rw [n_ltP (by omega) (by omega)] at z
          have ek : k = lc T.h.l + 1 - m := by omega
          subst ek
          have qg : Q8 ((grN (lin T.h.l) m (lc T.h.l + 1 - m) : Nat) : Int) (e8 (grN (lin T.h.l) m (lc T.h.l + 1 - m))) := Q8.e8 (by have := gb m (lc T.h.l + 1 - m) (by omega); omega)
          have ec := (cl qg q14).2.1.mpr rfl
          refine c_gr hC hm1 (by omega) ?_
          rw [if_pos ec]
          refine c_grS hC hm1 (by omega) ?_
          rw [if_pos ec, bnd_p, nI_add]
          exact nxt
        rw [n_ltP (by omega) (by omega)] at z
        have inner : ∀ f2 j v16, k ≤ j → j ≤ k + m → k + m - j < f2 → Q8 ((sumN (fun i => lin T.h.l (k + i)) (j - k) : Nat) : Int) v16 → f_L_law_b859 xs nn (fun y0_0 y0_1 y0_2 y0_3 y0_4 y0_5 y0_6 y0_7 y0_8 y0_9 y0_10 y0_11 y0_12 I0_ => f_L_law_b842 xs nn (fun y0_0 y0_1 y0_2 y0_3 y0_4 y0_5 y0_6 y0_7 y0_8 y0_9 y0_10 I0_ => f_L_law_b829 xs nn X954 K n y0_0 y0_1 y0_2 y0_3 y0_4 y0_5 y0_6 y0_7 y0_8 y0_9 y0_10 I0_) K f y0_0 y0_1 y0_2 y0_3 y0_4 y0_5 y0_6 y0_7 y0_8 y0_9 y0_10 y0_11 y0_12 I0_) K f2 v2 v3 v4 (nI (lc T.h.l)) v6 v7 v8 v9 v11 s (nI m) v14 (nI k) v16 (nI j) I := by
          intro f2
          induction f2 with
          | zero => intro j _ _ _ hn; omega
          | succ f2 ih4 =>
            intro j v16 hj1 hj2 hf3 q16
            rw [f_L_law_b859, nI_add]
            refine ite_i (fun y => ?_) (fun y => ?_)
            · rw [n_leP (by omega) (by omega)] at y
              have ej : j - k = m := by omega
              rw [ej] at q16
              refine ⟨⟨q14.nan, q16.nan⟩, ?_⟩
              dsimp only
              rw [bnd_p, nI_add]
              exact ih3 (k + 1) _ (by omega) (by omega) (q14.mxf q16)
            rw [n_leP (by omega) (by omega)] at y
            have hj : j < lc T.h.l := by omega
            have bj := bl j hj
            have e1 : sumN (fun i => lin T.h.l (k + i)) (j + 1 - k) = sumN (fun i => lin T.h.l (k + i)) (j - k) + lin T.h.l j := by
              rw [show j + 1 - k = (j - k) + 1 by omega]
              show _ + lin T.h.l (k + (j - k)) = _
              rw [show k + (j - k) = j by omega]
            have b6 := sb k (j - k) (by omega)
            have qa : Q8 ((sumN (fun i => lin T.h.l (k + i)) (j + 1 - k) : Nat) : Int) (FP.fadd v16 (e8 (lin T.h.l j))) := by
              rw [e1, Int.natCast_add]
              exact q16.add (Q8.e8 (by omega)) (by omega)
            refine c_nin hC hj ⟨qa.n32, ?_⟩
            rw [bnd_p, nI_add]
            exact ih4 (j + 1) _ (by omega) (by omega) (by omega) qa
        exact inner 20 k FP.fconst0 (Nat.le_refl _) (by omega) (by omega) (by rw [Nat.sub_self]; exact Q8_0)
    exact loop 20 0 FP.fconst0 (by omega) (by omega) Q8_0
end Ni
