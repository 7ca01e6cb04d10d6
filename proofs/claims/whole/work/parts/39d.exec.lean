/-! ===== programs run ===== -/
def ag (c : Nat × List Nat) (i : Nat) : Nat := c.2.getD i 0
def refC (H : HS) (c : Nat × List Nat) : Nat := refN c.1 H (ag c 0 : Nat) (ag c 1 : Nat) (ag c 2 : Nat) (ag c 3 : Nat)
def nxC (H : HS) (c : Nat × List Nat) : HS := nxtN c.1 H (ag c 0) (ag c 1) (ag c 2) (ag c 3)
/-- the house behind i commands -/
def stN (cs : List (Nat × List Nat)) (H : HS) : Nat → HS
  | 0 => H
  | i + 1 => nxC (stN cs H i) (cs.getD i (13, []))
theorem ag_lt {c : Nat × List Nat} (h : okC c) (i : Nat) : ag c i < 1000 := by
  unfold ag
  by_cases q : i < c.2.length
  · exact h.2.2 _ (by
      rw [List.getD_eq_getElem?_getD, List.getElem?_eq_getElem q, Option.getD_some]
      exact List.getElem_mem q)
  · rw [List.getD_eq_getElem?_getD, List.getElem?_eq_none (by omega), Option.getD_none]; omega
/-- what isn't an argument doesn't matter -/
theorem cmd_ind {c : Nat × List Nat} (hc : okC c) (H : HS) {x y z u : Int32} (hx : 0 < c.2.length → x = nI (ag c 0)) (hy : 1 < c.2.length → y = nI (ag c 1)) (hz : 2 < c.2.length → z = nI (ag c 2)) (hu : 3 < c.2.length → u = nI (ag c 3)) : refN c.1 H x.toInt y.toInt z.toInt u.toInt = refC H c ∧ (refC H c = 0 → nxtN c.1 H (ix x) (ix y) (ix z) (ix u) = nxC H c) ∧ (c.1 = 11 → 0 ≤ x.toInt) := by
  have b0 := ag_lt hc 0
  have b1 := ag_lt hc 1
  have b2 := ag_lt hc 2
  have b3 := ag_lt hc 3
  obtain ⟨hv, hl, hb⟩ := hc
  obtain ⟨v, vs⟩ := c
  dsimp only at hv hl hx hy hz hu
  have t0 : (nI (ag (v, vs) 0)).toInt = (ag (v, vs) 0 : Nat) := nI_toInt (by omega)
  have t1 : (nI (ag (v, vs) 1)).toInt = (ag (v, vs) 1 : Nat) := nI_toInt (by omega)
  have t2 : (nI (ag (v, vs) 2)).toInt = (ag (v, vs) 2 : Nat) := nI_toInt (by omega)
  have t3 : (nI (ag (v, vs) 3)).toInt = (ag (v, vs) 3 : Nat) := nI_toInt (by omega)
  have i0 : ix (nI (ag (v, vs) 0)) = ag (v, vs) 0 := ix_n (by omega)
  have i1 : ix (nI (ag (v, vs) 1)) = ag (v, vs) 1 := ix_n (by omega)
  have i2 : ix (nI (ag (v, vs) 2)) = ag (v, vs) 2 := ix_n (by omega)
  have i3 : ix (nI (ag (v, vs) 3)) = ag (v, vs) 3 := ix_n (by omega)
  unfold refC nxC
  dsimp only
  generalize ag (v, vs) 0 = p0 at *
  generalize ag (v, vs) 1 = p1 at *
  generalize ag (v, vs) 2 = p2 at *
  generalize ag (v, vs) 3 = p3 at *
  rcases (show v = 0 ∨ v = 1 ∨ v = 2 ∨ v = 3 ∨ v = 4 ∨ v = 5 ∨ v = 6 ∨ v = 7 ∨ v = 8 ∨ v = 9 ∨ v = 10 ∨ v = 11 ∨ v = 12 by omega) with rfl | rfl | rfl | rfl | rfl | rfl | rfl | rfl | rfl | rfl | rfl | rfl | rfl
  · have hl : vs.length = 1 := hl
    rw [hx (by omega), t0, i0]
    exact ⟨rfl, fun _ => rfl, fun _ => by omega⟩
  · have hl : vs.length = 2 := hl
    rw [hx (by omega), hy (by omega), t0, i0, t1, i1]
    exact ⟨rfl, fun _ => rfl, fun _ => by omega⟩
  · have hl : vs.length = 2 := hl
    rw [hx (by omega), hy (by omega), t0, i0, t1, i1]
    exact ⟨rfl, fun _ => rfl, fun _ => by omega⟩
  · have hl : vs.length = 4 := hl
    rw [hx (by omega), hy (by omega), hz (by omega), hu (by omega), t0, i0, t1, i1, t2, i2, t3, i3]
    exact ⟨rfl, fun _ => rfl, fun _ => by omega⟩
  · have hl : vs.length = 1 := hl
    rw [hx (by omega), t0, i0]
    exact ⟨rfl, fun _ => rfl, fun _ => by omega⟩
  · exact ⟨rfl, fun _ => rfl, fun z => by omega⟩
  · have hl : vs.length = 1 := hl
    rw [hx (by omega), t0, i0]
    exact ⟨rfl, fun _ => rfl, fun _ => by omega⟩
  · have hl : vs.length = 1 := hl
    rw [hx (by omega), t0, i0]
    exact ⟨rfl, fun _ => rfl, fun _ => by omega⟩
  · have hl : vs.length = 1 := hl
    rw [hx (by omega), t0, i0]
    exact ⟨rfl, fun _ => rfl, fun _ => by omega⟩
  · have hl : vs.length = 1 := hl
    rw [hx (by omega), t0, i0]
    exact ⟨rfl, fun _ => rfl, fun _ => by omega⟩
  · have hl : vs.length = 1 := hl
    rw [hx (by omega), t0, i0]
    exact ⟨rfl, fun _ => rfl, fun _ => by omega⟩
  · have hl : vs.length = 1 := hl
    rw [hx (by omega), t0, i0]
    exact ⟨rfl, fun _ => rfl, fun _ => by omega⟩
  · exact ⟨rfl, fun _ => rfl, fun z => by omega⟩
/-- the first k commands go through -/
def goN (cs : List (Nat × List Nat)) (H : HS) (t k : Nat) : Prop := (∀ i, i ≤ k → HW (stN cs H i) ∧ HT (t + i) (stN cs H i)) ∧ ∀ i, i < k → refC (stN cs H i) (cs.getD i (13, [])) = 0
section C
variable {I : IT}
theorem s_trial {K : Int32 → IT → Prop} {cs : List (Nat × List Nat)} {H : HS} {t : Nat} (hok : ∀ c, c ∈ cs → okC c) (hlen : cs.length ≤ 10) (ht : t ≤ 7000) (hR : HR I 1 H) (hT : HT t H) (hz : I 32 0 = nI 0) (hS : SC I cs) (h4 : I 56 4 = nI cs.length) (k1 : goN cs H t cs.length → ∀ I2, HR I2 17 (stN cs H cs.length) → Same I I2 17 16 → I2 32 0 = nI 0 → K (-1) I2) (k2 : ∀ k, k < cs.length → goN cs H t k → refC (stN cs H k) (cs.getD k (13, [])) ≠ 0 → ∀ I2, Same I I2 17 16 → I2 32 0 = nI 0 → K (nI k) I2) : f_X8_firstFailureOnTrial I K := by
  have loop : ∀ f i I', i ≤ cs.length → cs.length - i < f → HR I' 17 (stN cs H i) → Same I I' 17 16 → goN cs H t i → f_X8_firstFailureOnTrial_b13 K f (nI i) I' := by
    intro f
    induction f with
    | zero => intro i _ _ hf; omega
    | succ f ih =>
      intro i I' hi hf hr hm hg
      have z0 : I' 32 0 = nI 0 := hr.2.2.1.2.2.2.2.2.2 0 (Nat.zero_le _)
      rw [f_X8_firstFailureOnTrial_b13, hm 56 (by omega), h4]
      have g1 := n_leP (a := cs.length) (b := i) (by omega) (by omega)
      by_cases e : i = cs.length
      · rw [if_pos (by rw [g1]; omega)]
        subst e
        exact k1 hg I' hr hm z0
      · rw [if_neg (by rw [g1]; omega), inr_n (by omega), ix_n (by omega), hm 58 (by omega)]
        obtain ⟨s1, s2⟩ := hS i (by omega)
        have hc := hok _ (getC_mem (cs := cs) (i := i) (by omega))
        rw [s1, inr_n (by have := hc.1; omega), ix_n (by have := hc.1; omega)]
        refine ⟨by omega, hc.1, ?_⟩
        unfold f_X2_argument
        rw [pk_mul, nI_add, nI_add, nI_add, nI_add, inr_n (by omega), inr_n (by omega), inr_n (by omega), inr_n (by omega), ix_n (by omega), ix_n (by omega), ix_n (by omega), ix_n (by omega), hm 59 (by omega)]
        refine ⟨by omega, by omega, by omega, by omega, ?_⟩
        obtain ⟨i1, i2, i3⟩ := cmd_ind hc (stN cs H i) (x := I 59 (i * 4 + 0)) (y := I 59 (i * 4 + 1)) (z := I 59 (i * 4 + 2)) (u := I 59 (i * 4 + 3)) (fun q => by rw [Nat.mul_comm i 4]; exact s2 0 q) (fun q => by rw [Nat.mul_comm i 4]; exact s2 1 q) (fun q => by rw [Nat.mul_comm i 4]; exact s2 2 q) (fun q => by rw [Nat.mul_comm i 4]; exact s2 3 q)
        have hti := (hg.1 i (Nat.le_refl _)).2
        refine s_refusal hr hti (by omega) hc.1 _ _ _ _ ?_
        rw [i1]
        by_cases q : refC (stN cs H i) (cs.getD i (13, [])) = 0
        · rw [q, if_pos rfl]
          have i2 := i2 q
          refine s_perform hr hti (by omega) hc.1 _ _ _ _ (by rw [i1]; exact q) i3 fun I2 r2 m2 => ?_
          rw [bnd_p, nI_add]
          have hnt := HT.next hti hr.1.1 hr.2.1.1 hc.1 (by rw [i1]; exact q) i3
          rw [i2] at r2
          refine ih (i + 1) I2 (by omega) (by omega) r2 (hm.then m2) ⟨fun j hj => ?_, fun j hj => ?_⟩
          · by_cases y : j = i + 1
            · rw [y]
              refine ⟨r2.w, ?_⟩
              have e2 : nxtN (cs.getD i (13, [])).1 (stN cs H i) (I 59 (i * 4 + 0)).toInt.toNat (I 59 (i * 4 + 1)).toInt.toNat (I 59 (i * 4 + 2)).toInt.toNat (I 59 (i * 4 + 3)).toInt.toNat = nxC (stN cs H i) (cs.getD i (13, [])) := i2
              rw [e2] at hnt
              exact hnt
            · exact hg.1 j (by omega)
          · by_cases y : j = i
            · rw [y]; exact q
            · exact hg.2 j (by omega)
        · have hle := ref_le (cs.getD i (13, [])).1 (stN cs H i) (ag (cs.getD i (13, [])) 0 : Nat) (ag (cs.getD i (13, [])) 1 : Nat) (ag (cs.getD i (13, [])) 2 : Nat) (ag (cs.getD i (13, [])) 3 : Nat)
          rw [if_neg (by omega)]
          exact k2 i (by omega) hg q I' hm z0
  unfold f_X8_firstFailureOnTrial
  refine s_copyH (a := 17) (b := 1) hR hT.2.2.2.2.2.2.1 (by omega) hz fun I1 r1 m1 z1 => ?_
  exact loop 4096 0 I1 (Nat.zero_le _) (by omega) r1 m1 ⟨fun i hi => by rw [show i = 0 by omega]; exact ⟨hR.w, hT⟩, fun i hi => by omega⟩
end C
section M
variable {I : IT} {H : HS}
theorem m_does {K : Int32 → IT → Prop} {t to v : Nat} (hM : HM (I 191) H) (w : HW H) (hT : HT t H) (ht : t ≤ 8000) (hv : v < 13) (hto : to ≤ 300) (hk : I 194 to = nI (ltN v)) (hx : v = 11 → 0 ≤ (I 194 (to + 1)).toInt) (h : MK I H v (I 194 (to + 1)) (I 194 (to + 2)) (I 194 (to + 3)) (I 194 (to + 4)) K) : f_X9_does (nI to) I K := by
  have hs10 : H.s 10 ≤ 1 := hT.2.2.2.2.2.2.1
  have hs3 := hT.1
  unfold f_X9_does f_X9_does_b226
  simp only [nI_add, bnd_p]
  rw [inr_n (k := to + 1) (by omega), inr_n (k := to + 2) (by omega), inr_n (k := to) (by omega), ix_n (n := to + 1) (by omega), ix_n (n := to + 2) (by omega), ix_n (n := to) (by omega), hk]
  refine ⟨by omega, by omega, by omega, ?_⟩
  rcases (show v = 0 ∨ v = 1 ∨ v = 2 ∨ v = 3 ∨ v = 4 ∨ v = 5 ∨ v = 6 ∨ v = 7 ∨ v = 8 ∨ v = 9 ∨ v = 10 ∨ v = 11 ∨ v = 12 by omega) with rfl | rfl | rfl | rfl | rfl | rfl | rfl | rfl | rfl | rfl | rfl | rfl | rfl
  · iterate 10 rw [if_neg (by decide)]
    rw [if_pos (by decide)]; exact m_adds hM w _ _ _ _ h
  · iterate 5 rw [if_neg (by decide)]
    rw [if_pos (by decide)]; exact m_fills hM w _ _ _ _ h
  · rw [if_neg (by decide), if_pos (by decide)]; exact m_turns hM w _ _ _ _ h
  · iterate 14 rw [if_neg (by decide)]
    rw [if_pos (by decide), inr_n (by omega), inr_n (by omega), ix_n (by omega), ix_n (by omega)]
    exact ⟨by omega, by omega, m_accepts hM w _ _ _ _ h⟩
  · iterate 2 rw [if_neg (by decide)]
    rw [if_pos (by decide)]; exact m_cancels hM w _ _ _ _ h
  · iterate 18 rw [if_neg (by decide)]
    rw [if_pos (by decide)]; exact m_serves hM w hT ht _ _ _ _ h
  · iterate 22 rw [if_neg (by decide)]
    rw [if_pos (by decide)]; exact m_washes hM w hs3 _ _ _ _ h
  · iterate 19 rw [if_neg (by decide)]
    rw [if_pos (by decide)]; exact m_sells hM w hT ht _ _ _ _ h
  · iterate 12 rw [if_neg (by decide)]
    rw [if_pos (by decide)]; exact m_passes hM w hs10 _ _ _ _ h
  · iterate 20 rw [if_neg (by decide)]
    rw [if_pos (by decide)]; exact m_cup hM w _ _ _ _ h
  · iterate 11 rw [if_neg (by decide)]
    rw [if_pos (by decide)]; exact m_litre hM w _ _ _ _ h
  · rw [if_pos (by decide)]; exact m_attends hM w _ _ _ _ (hx rfl) h
  · iterate 23 rw [if_neg (by decide)]
    exact m_closes hM w _ _ _ _ h
theorem m_exec {X : Int32 → IT → Prop} {K : Int32 → IT → Prop} {cs : List (Nat × List Nat)} {t e : Nat} (hok : ∀ c, c ∈ cs → okC c) (hlen : cs.length ≤ 10) (ht : t ≤ 7000) (he : e ≤ cs.length) (hg : goN cs H t e) (k1 : e = cs.length → ∀ I2, HM (I2 191) (stN cs H e) → Mod I I2 → X (nI e) I2) (k2 : e < cs.length → refC (stN cs H e) (cs.getD e (13, [])) ≠ 0 → ∀ I2, Mod I I2 → X (nI e) I2) (hend : e < cs.length → refC (stN cs H e) (cs.getD e (13, [])) ≠ 0) (hS : SR I cs) (h14 : I 190 14 = nI cs.length) : ∀ f i I', i ≤ e → e - i < f → HM (I' 191) (stN cs H i) → Mod I I' → f_X9_run_b37 X K f (nI i) I' := by
  intro f
  induction f with
  | zero => intro i _ _ hf; omega
  | succ f ih =>
    intro i I' hi hf hM hm
    rw [f_X9_run_b37, hm.2.2 14 (by decide), h14]
    have g1 := n_leP (a := cs.length) (b := i) (by omega) (by omega)
    by_cases q : i = cs.length
    · rw [if_pos (by rw [g1]; omega)]
      have : i = e := by omega
      rw [this] at hM ⊢
      exact k1 (by omega) I' hM hm
    · rw [if_neg (by rw [g1]; omega), pk_mul]
      obtain ⟨s1, s2⟩ := hS i (by omega)
      have hc := hok _ (getC_mem (cs := cs) (i := i) (by omega))
      obtain ⟨w, hti⟩ := hg.1 i hi
      have e194 : I' 194 = I 194 := hm.1 194 (by decide) (by decide)
      obtain ⟨i1, i2, i3⟩ := cmd_ind hc (stN cs H i) (x := I' 194 (5 * i + 1)) (y := I' 194 (5 * i + 2)) (z := I' 194 (5 * i + 3)) (u := I' 194 (5 * i + 4)) (fun q => by rw [e194]; exact s2 0 q) (fun q => by rw [e194]; exact s2 1 q) (fun q => by rw [e194]; exact s2 2 q) (fun q => by rw [e194]; exact s2 3 q)
      refine m_does hM w hti (by omega) hc.1 (by omega) (by rw [e194]; exact s1) i3 ⟨fun z => ?_, fun z I2 m2 h2 h4 => ?_⟩
      · rw [i1] at z ⊢
        have hle := ref_le (cs.getD i (13, [])).1 (stN cs H i) (ag (cs.getD i (13, [])) 0 : Nat) (ag (cs.getD i (13, [])) 1 : Nat) (ag (cs.getD i (13, [])) 2 : Nat) (ag (cs.getD i (13, [])) 3 : Nat)
        have hle : refC (stN cs H i) (cs.getD i (13, [])) ≤ 4 := hle
        have g0 := n_eq0 (a := refC (stN cs H i) (cs.getD i (13, []))) (by omega)
        rw [if_neg (by rw [g0]; exact z)]
        have ie : i = e := by
          by_cases y : i < e
          · exact absurd (hg.2 i y) z
          · omega
        rw [ie] at z ⊢
        exact k2 (by omega) z I' hm
      · rw [i1] at z
        rw [i2 z] at h2
        rw [if_pos (by decide), bnd_p, nI_add]
        have ie : i ≠ e := fun y => by
          rw [y] at z
          exact absurd z (hend (by omega))
        exact ih (i + 1) I2 (by omega) (by omega) h2 (hm.tr m2)
end M
