/-! ===== TeaHouse$House over the state ===== -/
/-- kettles, orders, ledger; by the class's field: 3 clean, 4 steam, 5 boiled, 6 poured, 7 filled, 8 cup, 9 litre, 10 attended, 11 served, 12 heard, 13 lost -/
abbrev HS : Type := KS × OS × GS × (Nat → Nat)
abbrev HS.k (H : HS) : KS := H.1
abbrev HS.o (H : HS) : OS := H.2.1
abbrev HS.l (H : HS) : GS := H.2.2.1
abbrev HS.s (H : HS) : Nat → Nat := H.2.2.2
def HS.sk (H : HS) (S : KS) : HS := ⟨S, H.o, H.l, H.s⟩
def HS.so (H : HS) (S : OS) : HS := ⟨H.k, S, H.l, H.s⟩
def HS.sl (H : HS) (S : GS) : HS := ⟨H.k, H.o, S, H.s⟩
def HS.ss (H : HS) (f v : Nat) : HS := ⟨H.k, H.o, H.l, setN H.s f v⟩
/-- the bounds after t changes -/
def HT (t : Nat) (H : HS) : Prop := H.s 3 ≤ 20 ∧ H.s 4 ≤ H.s 5 ∧ H.s 7 = sumN (kvol H.k) (kc H.k) + H.s 6 + H.s 5 ∧ H.s 7 ≤ 32 * t ∧ (1 ≤ H.s 8 ∧ H.s 8 ≤ 80) ∧ (1 ≤ H.s 9 ∧ H.s 9 ≤ 80) ∧ H.s 10 ≤ 1 ∧ H.s 11 ≤ t ∧ H.s 12 + H.s 13 ≤ 480 * t ∧ lcu H.l + lst H.l ≤ 6400 * t ∧ onx H.o ≤ t + 1
def HR (I : IT) (a : Nat) (H : HS) : Prop := KR I (a + 1) H.k ∧ OR I (a + 7) H.o ∧ LR I (a + 13) H.l ∧ ∀ f, 3 ≤ f → f ≤ 13 → I a f = nI (H.s f)
theorem HR.same {I I' : IT} {a : Nat} {H : HS} (h : HR I a H) (e : ∀ q, a ≤ q → q < a + 16 → I' q = I q) : HR I' a H :=
  ⟨h.1.same fun q h1 h2 => e q (by omega) (by omega), h.2.1.same fun q h1 h2 => e q (by omega) (by omega), h.2.2.1.same fun q h1 h2 => e q (by omega) (by omega), fun f h1 h2 => by rw [e a (by omega) (by omega)]; exact h.2.2.2 f h1 h2⟩
theorem HT.mono {t t' : Nat} {H : HS} (h : HT t H) (ht : t ≤ t') : HT t' H := by
  unfold HT at h ⊢; omega
theorem sc_up {I : IT} {a : Nat} {s : Nat → Nat} (hs : ∀ f, 3 ≤ f → f ≤ 13 → I a f = nI (s f)) (g v : Nat) : ∀ f, 3 ≤ f → f ≤ 13 → up2 I a g (nI v) a f = nI (setN s g v f) := by
  intro f h1 h2
  by_cases e : f = g
  · subst e; rw [up2_same, setN_at]
  · rw [up2_nej e, setN_ne e]; exact hs f h1 h2
theorem sc_ne {I I' : IT} {a : Nat} {s : Nat → Nat} (hs : ∀ f, 3 ≤ f → f ≤ 13 → I a f = nI (s f)) (e : I' a = I a) : ∀ f, 3 ≤ f → f ≤ 13 → I' a f = nI (s f) := by rw [e]; exact hs
/-- which kettle serves the first order -/
def kffN (H : HS) : Option Nat := if oc H.o = 0 then none else suitK H.k (oF H.o 2 0) (oF H.o 3 0) (kc H.k)
abbrev canN (H : HS) : Prop := kffN H ≠ none ∧ oF H.o 2 0 ≤ H.s 3
/-- 0 nothing, 1 no such kettle, 2 out of range, 3 not now, 4 no such order -/
def unlN (p q : Prop) [Decidable p] [Decidable q] : Nat := if ¬ p then 2 else if ¬ q then 3 else 0
def refN (v : Nat) (H : HS) (x y z u : Int) : Nat :=
  if v = 0 then unlN (2 ≤ x ∧ x ≤ 16) (kc H.k < 4)
  else if v = 1 then (if 0 ≤ x ∧ x < kc H.k then unlN (1 ≤ y ∧ y ≤ 16) (kvol H.k x.toNat + 2 * y ≤ kcap H.k x.toNat) else 1)
  else if v = 2 then (if 0 ≤ x ∧ x < kc H.k then unlN (0 ≤ y ∧ y ≤ 5) True else 1)
  else if v = 3 then unlN ((0 ≤ x ∧ x ≤ 9) ∧ (1 ≤ y ∧ y ≤ 6) ∧ (60 ≤ z ∧ z ≤ 100) ∧ (1 ≤ u ∧ u ≤ 9)) (oc H.o < 10)
  else if v = 4 then (if findO H.o x = none then 4 else 0)
  else if v = 5 then unlN True (canN H)
  else if v = 6 then unlN (1 ≤ x ∧ x ≤ 20) (x + H.s 3 ≤ 20)
  else if v = 7 then unlN (1 ≤ x ∧ x ≤ 80) (x ≤ H.s 4)
  else if v = 8 then unlN (1 ≤ x ∧ x ≤ 120) True
  else if v = 9 then unlN (1 ≤ x ∧ x ≤ 80) True
  else if v = 10 then unlN (1 ≤ x ∧ x ≤ 80) True
  else if v = 12 then unlN True (lc H.l < 14)
  else 0
def takeK (S : KS) (k m : Nat) : KS := (kc S, kcap S, setN (kvol S) k (kvol S k - m), ktmp S, klev S, kboi S)
/-- one minute of one kettle; the whistles -/
def stepH (P : HS × Nat) (j : Nat) : HS × Nat :=
  (((P.1.sk (passK P.1.k j)).ss 4 (P.1.s 4 + vapN P.1.k j)).ss 5 (P.1.s 5 + vapN P.1.k j),
   P.2 + if boiN P.1.k j = 1 ∧ kboi P.1.k j = 0 then 1 else 0)
def itK : Nat → Nat → HS × Nat → HS × Nat
  | 0, _, P => P
  | n + 1, j, P => itK n (j + 1) (stepH P j)
def itM : Nat → HS × Nat → HS × Nat
  | 0, P => P
  | m + 1, P => itM m (itK (kc P.1.k) 0 P)
def passH (H : HS) (m : Nat) : HS × Nat :=
  let P := itM m (H, 0)
  let g := if P.1.s 10 = 0 then 13 else 12
  (P.1.ss g (P.1.s g + P.2), P.2)
def serveH (H : HS) : HS :=
  let k := (kffN H).getD 0
  let c := oF H.o 2 0
  (((((H.sk (takeK H.k k (2 * c))).ss 6 (H.s 6 + 2 * c)).ss 3 (H.s 3 - c)).ss 11 (H.s 11 + 1)).sl (cupsL H.l (c * H.s 8))).so (delO H.o 0)
def nxtN (v : Nat) (H : HS) (x y z u : Nat) : HS :=
  if v = 0 then H.sk (addK H.k (2 * x))
  else if v = 1 then (H.ss 7 (H.s 7 + 2 * y)).sk (pourK H.k x (2 * y))
  else if v = 2 then H.sk (turnK H.k x y)
  else if v = 3 then H.so (addO H.o x y z u)
  else if v = 4 then H.so (delO H.o ((findO H.o x).getD 0))
  else if v = 5 then serveH H
  else if v = 6 then H.ss 3 (H.s 3 + x)
  else if v = 7 then (H.ss 4 (H.s 4 - x)).sl (steamL H.l (x * H.s 9))
  else if v = 8 then (passH H x).1
  else if v = 9 then H.ss 8 x
  else if v = 10 then H.ss 9 x
  else if v = 11 then H.ss 10 (if x = 0 then 0 else 1)
  else H.sl (nightL H.l)
def resN (v : Nat) (H : HS) (x y z u : Nat) : Nat :=
  if v = 0 then kc H.k
  else if v = 1 then ktmp (pourK H.k x (2 * y)) x
  else if v = 2 then klev H.k x
  else if v = 3 then onx H.o
  else if v = 4 then oc H.o - 1
  else if v = 5 then oF H.o 0 0
  else if v = 6 then H.s 3 + x
  else if v = 7 then x * H.s 9
  else if v = 8 then (passH H x).2
  else if v = 9 then H.s 8
  else if v = 10 then H.s 9
  else if v = 11 then H.s 10
  else lpr H.l
section Hou
variable {I : IT} {a : Nat} {H : HS}
theorem HR.kc (h : HR I a H) : I (a + 1) 5 = nI (kc H.k) := h.1.2.1
theorem HR.kv (h : HR I a H) {k : Nat} (hk : k < Jvm.Pilot.CTeaHouseLaw_law_r3401_1c648a.kc H.k) : I (a + 2) k = nI (kcap H.k k) ∧ I (a + 3) k = nI (kvol H.k k) ∧ I (a + 4) k = nI (ktmp H.k k) ∧ I (a + 5) k = nI (klev H.k k) ∧ I (a + 6) k = nI (kboi H.k k) := h.1.2.2.1 k hk
theorem HR.oc (h : HR I a H) : I (a + 7) 5 = nI (oc H.o) := h.2.1.2.1
theorem HR.on (h : HR I a H) : I (a + 7) 6 = nI (onx H.o) := h.2.1.2.2.1
theorem HR.ov (h : HR I a H) {p : Nat} (hp : p < Jvm.Pilot.CTeaHouseLaw_law_r3401_1c648a.oc H.o) : I (a + 8) p = nI (oF H.o 0 p) ∧ I (a + 9) p = nI (oF H.o 1 p) ∧ I (a + 10) p = nI (oF H.o 2 p) ∧ I (a + 11) p = nI (oF H.o 3 p) ∧ I (a + 12) p = nI (oF H.o 4 p) := h.2.1.2.2.2 p hp
theorem HR.lc (h : HR I a H) : I (a + 13) 2 = nI (lc H.l) := h.2.2.1.2.1
theorem HR.sc (h : HR I a H) (f : Nat) (h1 : 3 ≤ f := by decide) (h2 : f ≤ 13 := by decide) : I a f = nI (H.s f) := h.2.2.2 f h1 h2
theorem s_within {K : Int32 → Prop} {x : Int32} {lo hi : Nat} (hlo : lo < 2147483648) (hhi : hi < 2147483648) (h : K (zb ((lo : Int) ≤ x.toInt ∧ x.toInt ≤ hi))) : f_X8_isWithin x (nI lo) (nI hi) I K := by
  unfold f_X8_isWithin
  simp (disch := omega) only [xn_lt, nx_lt]
  repeat' split
  all_goals first | (rw [zb_t (by omega)] at h; exact h) | (rw [zb_f (by omega)] at h; exact h)
theorem s_unless {K : Nat → Prop} {p q : Prop} [Decidable p] [Decidable q] (h : K (1000020 + unlN p q)) : f_X1_unless (zb p) (zb q) I K := by
  unfold f_X1_unless
  simp only [zb_eq0]
  unfold unlN at h
  repeat' split
  · next e => rw [if_pos e] at h; exact h
  · next e1 e2 => rw [if_neg e1, if_pos e2] at h; exact h
  · next e1 e2 => rw [if_neg e1, if_neg e2] at h; exact h
theorem s_kff {K : Int32 → Prop} (hR : HR I a H) (h : K (optI (kffN H))) : f_X1_kettleForFirst a I K := by
  have w := hR.2.1.1
  have w1 := w.1
  unfold f_X1_kettleForFirst
  rw [hR.oc]
  simp (disch := omega) only [n_le0]
  unfold kffN at h
  split
  · next e => rw [if_pos e] at h; exact h
  · next e =>
    rw [if_neg e] at h
    have b := w.2.2.1 0 (by omega)
    rw [(hR.ov (p := 0) (by omega)).2.2.1, (hR.ov (p := 0) (by omega)).2.2.2.1]
    exact s_suitable hR.1 (by omega) (by omega) (by omega) h
theorem kff_lt {j : Nat} (h : kffN H = some j) : 0 < Jvm.Pilot.CTeaHouseLaw_law_r3401_1c648a.oc H.o ∧ j < Jvm.Pilot.CTeaHouseLaw_law_r3401_1c648a.kc H.k := by
  unfold kffN at h
  split at h
  · cases h
  · exact ⟨by omega, suitK_lt h⟩
theorem s_can {K : Int32 → Prop} (hR : HR I a H) {t : Nat} (hT : HT t H) (h : K (zb (canN H))) : f_X1_firstCanBeServed a I K := by
  unfold f_X1_firstCanBeServed
  refine s_kff hR ?_
  have w := hR.2.1.1
  have kw := hR.1.1.1
  have w1 := w.1
  cases e : kffN H with
  | none =>
    rw [optI_none, if_pos rfl]
    rw [zb_f (fun q => q.1 e)] at h
    exact h
  | some j =>
    obtain ⟨j1, j2⟩ := kff_lt e
    have b := w.2.2.1 0 (by omega)
    have b2 := hT.1
    rw [optI_some, hR.sc 3, (hR.ov j1).2.2.1]
    simp (disch := omega) only [n_m1, n_ltP, if_false]
    split
    · next q => rw [zb_f (fun q2 => by have := q2.2; omega)] at h; exact h
    · next q => rw [zb_t ⟨(by rw [e]; intro q2; cases q2), by omega⟩] at h; exact h
end Hou
