/-! ===== the law's case: run ===== -/
theorem KCR.alt2 {I I' : IT} {T T' : TS} (h : KCR I T) (e : ∀ q, 0 < q → (q < 17 ∨ (33 ≤ q ∧ q < 50) ∨ (62 ≤ q ∧ q < 190)) → I' q = I q) (e32 : I' 32 0 = nI 0) (e0 : ∀ j, 7 ≤ j → j ≤ 9 → I' 0 j = I 0 j) (eh : T'.h = T.h) (ec : T'.pc = T.pc) (ep : T'.p = T.p) (es : T'.sv = T.sv) (h10 : I' 0 10 = optI T'.ma) (h11 : I' 0 11 = optI T'.fa) (hl : LN I' T'.ln) (ht : I' 56 3 = nI T'.tx.length ∧ ∀ j, j < T'.tx.length → I' 57 j = nI (T'.tx.getD j 0)) : KCR I' T' := by
  obtain ⟨a1, ⟨n, n1, n2, n3, n4⟩, a3, a4, a5, a6, a7, a8⟩ := h
  refine ⟨?_, ⟨n, n1, ?_, ?_, fun i hi => ?_⟩, ?_, h10, h11, hl, ht, fun a ha => ?_⟩
  · rw [eh]; exact a1.same fun q x y => e q (by omega) (by omega)
  · rw [e0 9 (by omega) (by omega)]; exact n2
  · rw [e0 8 (by omega) (by omega), ec]; exact n3
  · rw [ep]; rw [ec] at hi; exact (n4 i hi).same fun q x y => e q (by omega) (by omega)
  · rw [es]
    cases c : T.sv with
    | none => rw [c] at a3; show I' 0 7 = nI 0; rw [e0 7 (by omega) (by omega)]; exact a3
    | some S =>
      rw [c] at a3
      exact ⟨by rw [e0 7 (by omega) (by omega)]; exact a3.1, a3.2.same fun q x y => e q (by omega) (by omega)⟩
  · by_cases q : a = 17
    · rw [q]; exact e32
    · rw [e (a + 15) (by omega) (by rcases ha with q | q | q | ⟨k, q1, q2⟩ <;> omega)]; exact a8 a ha
/-- the text taken; malformed at e; failed at k -/
def TS.cut (T : TS) : TS := ⟨T.h, T.pc, T.p, T.sv, T.ma, T.fa, [], T.ln⟩
def TS.mal (T : TS) (e : Nat) : TS := ⟨T.h, T.pc, T.p, T.sv, some e, T.fa, [], T.ln⟩
def TS.fail (T : TS) (k : Nat) : TS := ⟨T.h, T.pc, T.p, T.sv, T.ma, some k, [], T.ln⟩
theorem WT.cut {t : Nat} {T : TS} (h : WT t T) : WT t T.cut := by
  obtain ⟨w1, w2, w3, w4, w5, w6, w7, w8, w9⟩ := h
  exact ⟨w1, w2, w3, w4, w5, w6, Nat.zero_le _, fun c hc => (by cases hc), w9⟩
theorem WT.mal {t e : Nat} {T : TS} (h : WT t T) (he : e < 100) : WT t (T.mal e) := by
  obtain ⟨w1, w2, w3, w4, w5, w6, w7, w8, w9⟩ := h
  exact ⟨w1, w2, w3, w4, fun m hm => (by cases hm; exact he), w6, Nat.zero_le _, fun c hc => (by cases hc), w9⟩
theorem WT.fail {t k : Nat} {T : TS} (h : WT t T) (hk : k < 100) : WT t (T.fail k) := by
  obtain ⟨w1, w2, w3, w4, w5, w6, w7, w8, w9⟩ := h
  exact ⟨w1, w2, w3, w4, w5, fun m hm => (by cases hm; exact hk), Nat.zero_le _, fun c hc => (by cases hc), w9⟩
section Run
variable {I : IT} {T : TS} {t : Nat}
/-- the class's run; what holds of the commands stays for the reference -/
theorem s_run {K : Int32 → IT → Prop} {KT : String → IT → Prop} {g : Nat → Nat} (hg : ∀ j, T.tx.length ≤ j → g j = 0) (hg2 : ∀ j, g j < 128) (hgx : ∀ j, j < T.tx.length → g j = T.tx.getD j 0) (w : WT t T) (ht : t ≤ 7000) (hC : KCR I T)
    (k0 : ∀ e, progP T.tx.length g 11 0 = .inl e → ∀ I2, KCR I2 (T.mal e) → Cd I I2 → KT "java/lang/IllegalArgumentException" I2)
    (k1 : ∀ cs k, progP T.tx.length g 11 0 = .inr cs → k < cs.length → goN cs T.h t k → refC (stN cs T.h k) (cs.getD k (13, [])) ≠ 0 → ∀ I2, KCR I2 (T.fail k) → Cd I I2 → KT "java/lang/IllegalStateException" I2)
    (k2 : ∀ cs, progP T.tx.length g 11 0 = .inr cs → goN cs T.h t cs.length → ∀ I2, KCR I2 (T.cut.push (stN cs T.h cs.length)) → Cd I I2 → K (nI cs.length) I2) : f_X8_run I K KT := by
  have hl60 := w.2.2.2.2.2.2.1
  have hx : TX I T.tx.length g := ⟨hC.2.2.2.2.2.2.1.1, hl60, fun j hj => by rw [hC.2.2.2.2.2.2.1.2 j hj, hgx j hj], hg2⟩
  unfold f_X8_run
  refine c_parse hx hg (fun e I2 he hp h5 => ?_) (fun cs I2 he hp h4 hSC => ?_)
  · have eb := progP_inl (Nat.zero_le _) he
    rw [wr_p, if_pos (by decide), wr_p, up2_nej (show (5 : Nat) ≠ 3 by decide), h5]
    have far : ∀ q, q ≠ 0 → q ≠ 56 → q ≠ 58 → q ≠ 59 → (up2 (up2 I2 56 3 (nI 0)) 0 10 (nI e)) q = I q := fun q a b c d => by rw [up2_ne a, up2_ne b]; exact hp.1 q b c d
    have f0 : ∀ j, j ≠ 10 → (up2 (up2 I2 56 3 (nI 0)) 0 10 (nI e)) 0 j = I 0 j := fun j hj => by rw [up2_nej hj, up2_nea (by decide), hp.1 0 (by decide) (by decide) (by decide)]
    refine k0 e he _ ?_ (fun q hq => far q (by omega) (by omega) (by omega) (by omega))
    refine hC.alt (fun q a b => far q (by omega) (by omega) (by omega) (by omega)) (fun j a b => f0 j (by omega)) rfl rfl rfl rfl up2_same (by rw [f0 11 (by decide)]; exact hC.2.2.2.2.1) (hC.2.2.2.2.2.1.same (far 60 (by decide) (by decide) (by decide) (by decide)) (far 61 (by decide) (by decide) (by decide) (by decide))) ⟨by rw [up2_nea (by decide), up2_same]; rfl, fun j hj => by cases hj⟩
  · obtain ⟨c1, c2, c3⟩ := progP_inr (Nat.zero_le _) he
    have hlen : cs.length ≤ 10 := by omega
    rw [wr_p, if_neg (by decide)]
    have far : ∀ q, q ≠ 56 → q ≠ 58 → q ≠ 59 → (up2 I2 56 3 (nI 0)) q = I q := fun q b c d => by rw [up2_ne b]; exact hp.1 q b c d
    have e563 : (up2 I2 56 3 (nI 0)) 56 3 = nI 0 := up2_same
    have e564 : (up2 I2 56 3 (nI 0)) 56 4 = nI cs.length := by rw [up2_nej (by decide)]; exact h4
    have hS3 : SC (up2 I2 56 3 (nI 0)) cs := fun i hi => by
      rw [up2_nea (by decide)]
      obtain ⟨s1, s2⟩ := hSC i hi
      exact ⟨s1, fun a ha => by rw [up2_nea (by decide)]; exact s2 a ha⟩
    generalize up2 I2 56 3 (nI 0) = J at *
    have hR : HR J 1 T.h := hC.1.same fun q a b => far q (by omega) (by omega) (by omega)
    have hz : J 32 0 = nI 0 := by rw [far 32 (by decide) (by decide) (by decide)]; exact hC.2.2.2.2.2.2.2 17 (by omega)
    have base : ∀ I7, Same J I7 17 16 → I7 32 0 = nI 0 → KCR I7 T.cut := fun I7 m7 z7 => by
      have far7 : ∀ q, (q < 17 ∨ 33 ≤ q) → q ≠ 56 → q ≠ 58 → q ≠ 59 → I7 q = I q := fun q a b c d => by rw [m7 q (by omega)]; exact far q b c d
      refine hC.alt2 (fun q a b => far7 q (by omega) (by omega) (by omega) (by omega)) z7 (fun j a b => by rw [far7 0 (by decide) (by decide) (by decide) (by decide)]) rfl rfl rfl rfl ?_ ?_ (hC.2.2.2.2.2.1.same (far7 60 (by decide) (by decide) (by decide) (by decide)) (far7 61 (by decide) (by decide) (by decide) (by decide))) ⟨by rw [m7 56 (by decide), e563]; rfl, fun j hj => by cases hj⟩
      · rw [far7 0 (by decide) (by decide) (by decide) (by decide)]; exact hC.2.2.2.1
      · rw [far7 0 (by decide) (by decide) (by decide) (by decide)]; exact hC.2.2.2.2.1
    refine s_trial c3 hlen ht hR w.1.2 hz hS3 e564 (fun hgo I7 r7 m7 z7 => ?_) (fun k hk hgo hne I7 m7 z7 => ?_)
    · rw [if_pos rfl]
      have hend := hgo.1 cs.length (Nat.le_refl _)
      refine s_remember w.cut (base I7 m7 z7) fun I9 c9 d9 n9 => ?_
      have r17 : HR I9 17 (stN cs T.h cs.length) := r7.same fun q a b => n9 q (by omega) (by omega)
      refine s_copyH (a := 1) (b := 17) r17 hend.2.2.2.2.2.2.2.1 (by omega) (c9.2.2.2.2.2.2.2 1 (by omega)) fun I10 r10 m10 z10 => ?_
      rw [m10 56 (by decide), n9 56 (by decide) (by decide), m7 56 (by decide), e564]
      refine k2 cs he hgo I10 ?_ (fun q hq => by rw [m10 q (by omega), d9 q hq, m7 q (by omega)]; exact far q (by omega) (by omega) (by omega))
      obtain ⟨n, n1, n2, n3, n4⟩ := c9.2.1
      refine c9.of (T' := T.cut.push (stN cs T.h cs.length)) r10 ⟨n, n1, by rw [m10 0 (by decide)]; exact n2, by rw [m10 0 (by decide)]; exact n3, fun i hi => (n4 i hi).same fun q a b => m10 q (by omega)⟩ (fun q a b => m10 q (by omega)) (fun j hj => by rw [m10 0 (by decide)]) (fun a ha => ?_) rfl rfl rfl rfl rfl
      by_cases e2 : a = 1
      · subst e2; exact z10
      · rw [m10 (a + 15) (by rcases ha with q | q | q | ⟨k, q1, q2⟩ <;> omega)]
        exact c9.2.2.2.2.2.2.2 a ha
    · have hnm := n_m1 (a := k) (by omega)
      rw [if_neg (by rw [hnm]; exact id), wr_p]
      have b7 := base I7 m7 z7
      have far8 : ∀ q, q ≠ 0 → (up2 I7 0 11 (nI k)) q = I7 q := fun q a => up2_ne a
      have f8 : ∀ j, j ≠ 11 → (up2 I7 0 11 (nI k)) 0 j = I7 0 j := fun j hj => up2_nej hj
      refine k1 cs k he hk hgo hne _ ?_ (fun q hq => by rw [far8 q (by omega), m7 q (by omega)]; exact far q (by omega) (by omega) (by omega))
      refine b7.alt2 (fun q a b => far8 q (by omega)) (by rw [far8 32 (by decide)]; exact z7) (fun j a b => f8 j (by omega)) rfl rfl rfl rfl (by rw [f8 10 (by decide)]; exact b7.2.2.2.1) up2_same (b7.2.2.2.2.2.1.same (far8 60 (by decide)) (far8 61 (by decide))) ⟨by rw [far8 56 (by decide)]; exact b7.2.2.2.2.2.2.1.1, fun j hj => by cases hj⟩
/-- what a run of the reference leaves alone -/
def Rd (I I' : IT) : Prop := ∀ q, q < 190 → I' q = I q
theorem m_run {K : Int32 → IT → Prop} {g : Nat → Nat} (hg : ∀ j, T.tx.length ≤ j → g j = 0) (hg2 : ∀ j, g j < 128) (hgx : ∀ j, j < T.tx.length → g j = T.tx.getD j 0) (w : WT t T) (ht : t ≤ 7000) (hM : MR I T)
    (hk : ∀ e, progP T.tx.length g 11 0 = .inl e → ∀ I2, MR I2 (T.mal e) → Rd I I2 → I2 190 0 = nI 1 → K (nI 0) I2)
    (e : Nat) (hgo : ∀ cs, progP T.tx.length g 11 0 = .inr cs → e ≤ cs.length ∧ goN cs T.h t e ∧ (e < cs.length → refC (stN cs T.h e) (cs.getD e (13, [])) ≠ 0))
    (k1 : ∀ cs, progP T.tx.length g 11 0 = .inr cs → e < cs.length → ∀ I2, MR I2 (T.fail e) → Rd I I2 → I2 190 0 = nI 2 → K (nI 0) I2)
    (k2 : ∀ cs, progP T.tx.length g 11 0 = .inr cs → e = cs.length → ∀ I2, MR I2 (T.cut.push (stN cs T.h cs.length)) → Rd I I2 → I2 190 0 = nI 0 → K (nI cs.length) I2) : f_X9_run I K := by
  have hl60 := w.2.2.2.2.2.2.1
  have hx : RX I T.tx.length g := ⟨hM.2.2.2.2.2.2.2.1, hl60, fun j hj => by rw [hM.2.2.2.2.2.2.2.2 j hj, hgx j hj], hg2⟩
  unfold f_X9_run
  refine r_parse hx hg (fun er I2 he hp h10 => ?_) (fun cs I2 he hp h10 h14 hSR => ?_)
  · have eb := progP_inl (Nat.zero_le _) he
    have h10 : I2 190 10 = nI er := h10
    have hn := n_neg (a := er) (by omega)
    rw [wr_p, up2_nej (show (10 : Nat) ≠ 8 by decide), h10, if_neg (by rw [hn]; exact id), wr_p, wr_p]
    have far : ∀ q, q ≠ 190 → q ≠ 194 → (up2 (up2 (up2 I2 190 8 (nI 0)) 190 11 (nI er)) 190 0 (nI 1)) q = I q := fun q a b => by rw [up2_ne a, up2_ne a, up2_ne a]; exact hp.1 q a b
    have f0 : ∀ j, j ≠ 0 → j ≠ 8 → j ≠ 9 → j ≠ 10 → j ≠ 11 → j ≠ 14 → (up2 (up2 (up2 I2 190 8 (nI 0)) 190 11 (nI er)) 190 0 (nI 1)) 190 j = I 190 j := fun j a b c d e f => by rw [up2_nej a, up2_nej e, up2_nej b]; exact hp.2 j c d f
    refine hk er he _ ?_ (fun q hq => far q (by omega) (by omega)) up2_same
    refine hM.alt (far 191 (by decide) (by decide)) (f0 2 (by decide) (by decide) (by decide) (by decide) (by decide) (by decide)) (f0 3 (by decide) (by decide) (by decide) (by decide) (by decide) (by decide)) rfl rfl rfl rfl (by rw [up2_nej (by decide), up2_same]; rfl) (by rw [f0 12 (by decide) (by decide) (by decide) (by decide) (by decide) (by decide)]; exact hM.2.2.2.2.2.1) ⟨?_, fun j hj => ?_⟩ ⟨by rw [up2_nej (by decide), up2_nej (by decide), up2_same]; rfl, fun j hj => by cases hj⟩
    · rw [f0 6 (by decide) (by decide) (by decide) (by decide) (by decide) (by decide)]; exact hM.2.2.2.2.2.2.1.1
    · rw [far 192 (by decide) (by decide)]; exact hM.2.2.2.2.2.2.1.2 j hj
  · obtain ⟨c1, c2, c3⟩ := progP_inr (Nat.zero_le _) he
    have hlen : cs.length ≤ 10 := by omega
    obtain ⟨g1, g2, g3⟩ := hgo cs he
    rw [wr_p, up2_nej (show (10 : Nat) ≠ 8 by decide), h10, if_pos (by decide)]
    have far : ∀ q, q ≠ 190 → q ≠ 194 → (up2 I2 190 8 (nI 0)) q = I q := fun q a b => by rw [up2_ne a]; exact hp.1 q a b
    have f0 : ∀ j, j ≠ 8 → j ≠ 9 → j ≠ 10 → j ≠ 14 → (up2 I2 190 8 (nI 0)) 190 j = I 190 j := fun j b c d f => by rw [up2_nej b]; exact hp.2 j c d f
    have f8 : (up2 I2 190 8 (nI 0)) 190 8 = nI 0 := up2_same
    have f14 : (up2 I2 190 8 (nI 0)) 190 14 = nI cs.length := by rw [up2_nej (by decide)]; exact h14
    have hS3 : SR (up2 I2 190 8 (nI 0)) cs := fun i hi => by
      rw [up2_nea (by decide)]
      obtain ⟨s1, s2⟩ := hSR i hi
      exact ⟨s1, fun a ha => by rw [up2_nea (by decide)]; exact s2 a ha⟩
    have hM3 : MR (up2 I2 190 8 (nI 0)) T.cut := by
      refine hM.alt (far 191 (by decide) (by decide)) (f0 2 (by decide) (by decide) (by decide) (by decide)) (f0 3 (by decide) (by decide) (by decide) (by decide)) rfl rfl rfl rfl (by rw [f0 11 (by decide) (by decide) (by decide) (by decide)]; exact hM.2.2.2.2.1) (by rw [f0 12 (by decide) (by decide) (by decide) (by decide)]; exact hM.2.2.2.2.2.1) ⟨?_, fun j hj => ?_⟩ ⟨f8, fun j hj => by cases hj⟩
      · rw [f0 6 (by decide) (by decide) (by decide) (by decide)]; exact hM.2.2.2.2.2.2.1.1
      · rw [far 192 (by decide) (by decide)]; exact hM.2.2.2.2.2.2.1.2 j hj
    generalize up2 I2 190 8 (nI 0) = J at *
    refine m_begins fun I4 a1 a2 a3 => ?_
    have h190 : I4 190 = J 190 := a1 190 (by decide)
    have hm4 : Md2 J I4 := ⟨fun q _ hq => a1 q hq, fun j _ _ _ => by rw [h190]⟩
    have h0 : HM (I4 191) T.h := hM.1.ext w.1.1 fun j hj => by rw [a3 j (by omega), far 191 (by decide) (by decide)]
    have hS4 : SR I4 cs := fun i hi => by rw [a1 194 (by decide)]; exact hS3 i hi
    refine m_exec (H := T.h) (t := t) (e := e) c3 hlen ht g1 g2 (fun eq I6 h6 m6 => ?_) (fun lt hne I6 m6 => ?_) g3 hS4 (by rw [h190]; exact f14) 4096 0 I4 (Nat.zero_le _) (by omega) h0 Mod.rf
    · have m14 : I6 190 14 = nI cs.length := by rw [m6.2.2 14 (by decide), h190]; exact f14
      unfold f_X9_run_b61
      rw [m14, if_pos (by rw [eq])]
      unfold f_X9_run_b74
      rw [if_neg (by decide)]
      unfold f_X9_run_b88
      rw [wr_p, wr_p, up2_nej (show (14 : Nat) ≠ 12 by decide), m14, if_neg (by decide)]
      unfold f_X9_run_b109
      have hwH := (g2.1 e (Nat.le_refl _)).1
      have e191 : (up2 (up2 I6 190 12 (I6 190 12)) 190 4 (nI cs.length)) 191 = I6 191 := by rw [up2_ne (by decide), up2_ne (by decide)]
      have e190 : ∀ j, j ≠ 4 → (up2 (up2 I6 190 12 (I6 190 12)) 190 4 (nI cs.length)) 190 j = I6 190 j := fun j hj => by
        rw [up2_nej hj]
        by_cases y : j = 12
        · rw [y, up2_same]
        · rw [up2_nej y]
      have hmd : Md2 J (up2 (up2 I6 190 12 (I6 190 12)) 190 4 (nI cs.length)) := ⟨fun q a b => by rw [up2_ne a, up2_ne a, m6.1 q a b]; exact a1 q b, fun j _ _ h4 => by rw [e190 j h4, m6.2.2 j h4, h190]⟩
      refine m_endsOk (H' := stN cs T.h cs.length) w.cut (by rw [← eq]; exact hwH) hM3 (by rw [e191, ← eq]; exact h6) (fun j hj => by rw [e191, m6.2.1 _ (by omega)]; exact a2 j hj) (fun q b1 b2 => by rw [e191, m6.2.1 q b1]; exact a3 q b2) hmd (by rw [e190 2 (by decide), m6.2.2 2 (by decide), h190]) _ _ _ _ fun I8 d1 d2 d3 d4 => ?_
      rw [d4, up2_same]
      exact k2 cs he eq I8 d1 (fun q hq => by rw [d2.1 q (by omega) (by omega)]; exact far q (by omega) (by omega)) d3
    · have m14 : I6 190 14 = nI cs.length := by rw [m6.2.2 14 (by decide), h190]; exact f14
      have ge := n_eqP (a := e) (b := cs.length) (by omega) (by omega)
      unfold f_X9_run_b61
      rw [m14, if_neg (by rw [ge]; omega)]
      unfold f_X9_run_b74
      rw [if_pos (by decide)]
      unfold f_X9_run_b88
      rw [wr_p, wr_p, up2_nej (show (14 : Nat) ≠ 12 by decide), m14, if_pos (by decide)]
      unfold f_X9_run_b109
      -- with the failed command noted ahead
      have hMf : MR (up2 J 190 12 (nI e)) (T.fail e) := by
        refine hM3.alt (up2_ne (by decide)) (up2_nej (by decide)) (up2_nej (by decide)) rfl rfl rfl rfl (by rw [up2_nej (by decide)]; exact hM3.2.2.2.2.1) up2_same ⟨?_, fun j hj => ?_⟩ ⟨by rw [up2_nej (by decide)]; exact f8, fun j hj => by cases hj⟩
        · rw [up2_nej (by decide)]; exact hM3.2.2.2.2.2.2.1.1
        · rw [up2_nea (by decide)]; exact hM3.2.2.2.2.2.2.1.2 j hj
      have e191 : (up2 (up2 I6 190 12 (nI e)) 190 4 (nI cs.length)) 191 = I6 191 := by rw [up2_ne (by decide), up2_ne (by decide)]
      have j191 : (up2 J 190 12 (nI e)) 191 = J 191 := up2_ne (by decide)
      have hmd : Md2 (up2 J 190 12 (nI e)) (up2 (up2 I6 190 12 (nI e)) 190 4 (nI cs.length)) := ⟨fun q a b => by rw [up2_ne a, up2_ne a, up2_ne a, m6.1 q a b]; exact a1 q b, fun j _ _ h4 => by
        rw [up2_nej h4]
        by_cases y : j = 12
        · rw [y, up2_same, up2_same]
        · rw [up2_nej y, up2_nej y, m6.2.2 j h4, h190]⟩
      refine m_endsNo (t := t) (w.fail (by omega)) hMf (r := 3) (fun j hj => by rw [e191, j191, m6.2.1 _ (by omega)]; exact a2 j hj) (fun q b1 b2 => by rw [e191, j191, m6.2.1 q b1]; exact a3 q b2) hmd (by rw [up2_nej (by decide), up2_nej (by decide), up2_nej (by decide), m6.2.2 2 (by decide), h190]) (by decide) (by decide) (by decide) fun I8 d1 d2 d3 => ?_
      exact k1 cs he lt I8 d1 (fun q hq => by rw [d2.1 q (by omega) (by omega), up2_ne (by omega)]; exact far q (by omega) (by omega)) d3
end Run
