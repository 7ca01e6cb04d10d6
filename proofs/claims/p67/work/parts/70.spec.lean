/-! ===== the state as numbers: kettles, ledger, orders (pure) ===== -/
/-! ===== TeaHouse$Kettles ===== -/
/-- count; capacities, volumes, temperatures, levels, boiled, by the number -/
abbrev KS : Type := Nat × (Nat → Nat) × (Nat → Nat) × (Nat → Nat) × (Nat → Nat) × (Nat → Nat)
def kc (S : KS) : Nat := S.1
def kcap (S : KS) : Nat → Nat := S.2.1
def kvol (S : KS) : Nat → Nat := S.2.2.1
def ktmp (S : KS) : Nat → Nat := S.2.2.2.1
def klev (S : KS) : Nat → Nat := S.2.2.2.2.1
def kboi (S : KS) : Nat → Nat := S.2.2.2.2.2
section Kmk
variable {c : Nat} {cap vol tmp lev boi : Nat → Nat}
theorem kc_mk : kc (c, cap, vol, tmp, lev, boi) = c := rfl
theorem kcap_mk : kcap (c, cap, vol, tmp, lev, boi) = cap := rfl
theorem kvol_mk : kvol (c, cap, vol, tmp, lev, boi) = vol := rfl
theorem ktmp_mk : ktmp (c, cap, vol, tmp, lev, boi) = tmp := rfl
theorem klev_mk : klev (c, cap, vol, tmp, lev, boi) = lev := rfl
theorem kboi_mk : kboi (c, cap, vol, tmp, lev, boi) = boi := rfl
end Kmk
def KW (S : KS) : Prop := kc S ≤ 4 ∧ ∀ k, k < kc S → kcap S k ≤ 32 ∧ kvol S k ≤ kcap S k ∧ 40 ≤ ktmp S k ∧ ktmp S k ≤ 200 ∧ klev S k ≤ 5 ∧ kboi S k ≤ 1
def setN (f : Nat → Nat) (k v : Nat) : Nat → Nat := fun i => if i = k then v else f i
theorem setN_at (f : Nat → Nat) (k v : Nat) : setN f k v k = v := if_pos rfl
theorem setN_ne {f : Nat → Nat} {k v i : Nat} (h : i ≠ k) : setN f k v i = f i := if_neg h
def heatN (t l : Nat) : Nat := max 40 (min 200 (t + 3 * l - 1))
def tmpN (S : KS) (k : Nat) : Nat := if kvol S k = 0 then 40 else heatN (ktmp S k) (klev S k)
def boiN (S : KS) (k : Nat) : Nat := if 0 < kvol S k ∧ tmpN S k = 200 ∧ 0 < klev S k then 1 else 0
def vapN (S : KS) (k : Nat) : Nat := if boiN S k = 1 then min (klev S k) (kvol S k) else 0
def passK (S : KS) (k : Nat) : KS := (kc S, kcap S, setN (kvol S) k (kvol S k - vapN S k), setN (ktmp S) k (tmpN S k), klev S, setN (kboi S) k (boiN S k))
theorem heat_eq {t l : Nat} (ht : 40 ≤ t) (ht2 : t ≤ 200) (hl : l ≤ 5) : (if nI 40 < (if nI t + (nI 3 * nI l - nI 1) < nI 200 then nI t + (nI 3 * nI l - nI 1) else nI 200) then (if nI t + (nI 3 * nI l - nI 1) < nI 200 then nI t + (nI 3 * nI l - nI 1) else nI 200) else nI 40) = nI (heatN t l) := by
  rw [pk_mul, n_addsub (by omega)]
  unfold heatN
  by_cases h : t + 3 * l - 1 < 200
  · rw [if_pos ((nI_ltI (by omega) (by omega)).mpr h)]
    by_cases h2 : 40 < t + 3 * l - 1
    · rw [if_pos ((nI_ltI (by omega) (by omega)).mpr h2)]
      congr 1; omega
    · rw [if_neg (fun q => h2 ((nI_ltI (by omega) (by omega)).mp q))]
      congr 1; omega
  · rw [if_neg (fun q => h ((nI_ltI (by omega) (by omega)).mp q)), if_pos ((nI_ltI (by omega) (by omega)).mpr (by omega))]
    congr 1; omega
/-! ===== comparing ints; TeaHouse$Kettles, further methods ===== -/
theorem i32_lt (x y : Int32) : (x < y) = (x.toInt < y.toInt) := propext Int32.lt_iff_toInt_lt
theorem i32_le (x y : Int32) : (x ≤ y) = (x.toInt ≤ y.toInt) := propext Int32.le_iff_toInt_le
theorem i32_eq (x y : Int32) : (x = y) = (x.toInt = y.toInt) := propext Int32.toInt_inj.symm
theorem i32_0 : (0 : Int32).toInt = 0 := rfl
theorem i32_m1 : (-1 : Int32).toInt = -1 := rfl
theorem bz_eq0 (p : Prop) [Decidable p] : ((if p then nI 1 else nI 0) = (0 : Int32)) = ¬ p := by
  by_cases h : p
  · rw [if_pos h]; simp [h]; decide
  · rw [if_neg h]; simp [h]; decide
theorem nI_lt32 {n : Nat} (h : n < 2 ^ 31) : (nI n).toInt < 2147483648 := by rw [nI_toInt h]; omega
/-- going up to N -/
theorem upto {N : Nat} {P : Nat → Prop} (step : ∀ j, j ≤ N → (∀ j', j < j' → j' ≤ N → P j') → P j) : ∀ j, j ≤ N → P j := by
  have h : ∀ n j, j ≤ N → N - j = n → P j := by
    intro n
    induction n using Nat.strongRecOn with
    | _ n ih => intro j hj hn; exact step j hj (fun j' h1 h2 => ih (N - j') (by omega) j' h2 rfl)
  exact fun j hj => h _ j hj rfl
/-- going down -/
theorem dnto {P : Nat → Prop} (step : ∀ j, (∀ j', j' < j → P j') → P j) : ∀ j, P j := fun j => Nat.strongRecOn j step
theorem max_nI {a b : Nat} (ha : a < 2 ^ 31) (hb : b < 2 ^ 31) : (if nI a < nI b then nI b else nI a) = nI (max a b) := by
  by_cases h : a < b
  · rw [if_pos ((nI_ltI ha hb).mpr h)]; congr 1; omega
  · rw [if_neg (fun q => h ((nI_ltI ha hb).mp q))]; congr 1; omega
theorem min_nI {a b : Nat} (ha : a < 2 ^ 31) (hb : b < 2 ^ 31) : (if nI b < nI a then nI b else nI a) = nI (min a b) := by
  by_cases h : b < a
  · rw [if_pos ((nI_ltI hb ha).mpr h)]; congr 1; omega
  · rw [if_neg (fun q => h ((nI_ltI hb ha).mp q))]; congr 1; omega

/-- how many i < n -/
def cntN (p : Nat → Prop) [DecidablePred p] : Nat → Nat
  | 0 => 0
  | n + 1 => cntN p n + if p n then 1 else 0
theorem cntN_le (p : Nat → Prop) [DecidablePred p] : ∀ n, cntN p n ≤ n
  | 0 => Nat.le_refl _
  | n + 1 => by
    have := cntN_le p n
    simp only [cntN]
    split <;> omega
/-- the first i < n -/
def firstN (p : Nat → Prop) [DecidablePred p] : Nat → Option Nat
  | 0 => none
  | n + 1 => match firstN p n with
    | some j => some j
    | none => if p n then some n else none
theorem firstN_none {p : Nat → Prop} [DecidablePred p] : ∀ {n : Nat}, (∀ i, i < n → ¬ p i) → firstN p n = none
  | 0, _ => rfl
  | n + 1, h => by
    have h1 := firstN_none (p := p) (n := n) (fun i hi => h i (by omega))
    have h2 := h n (by omega)
    simp only [firstN]
    rw [h1]
    simp only [if_neg h2]
theorem firstN_hit {p : Nat → Prop} [DecidablePred p] {j : Nat} : ∀ {n : Nat}, j < n → p j → (∀ i, i < j → ¬ p i) → firstN p n = some j
  | 0, h, _, _ => absurd h (Nat.not_lt_zero _)
  | n + 1, h, hp, hn => by
    by_cases e : j = n
    · subst e
      simp only [firstN, firstN_none hn, if_pos hp]
    · simp only [firstN, firstN_hit (n := n) (by omega) hp hn]
theorem firstN_some {p : Nat → Prop} [DecidablePred p] {j : Nat} : ∀ {n : Nat}, firstN p n = some j → j < n ∧ p j ∧ ∀ i, i < j → ¬ p i
  | 0, h => by cases h
  | n + 1, h => by
    simp only [firstN] at h
    cases e : firstN p n with
    | some i =>
      rw [e] at h
      cases h
      obtain ⟨h1, h2, h3⟩ := firstN_some e
      exact ⟨by omega, h2, h3⟩
    | none =>
      rw [e] at h
      dsimp only at h
      split at h
      · next hp =>
        cases h
        refine ⟨by omega, hp, fun i hi hpi => ?_⟩
        -- an earlier hit would have been found
        have : ∀ m, m ≤ j → firstN p m = none → ∀ i, i < m → ¬ p i := by
          intro m
          induction m with
          | zero => intro _ _ i hi; omega
          | succ m ih =>
            intro hm hn i hi
            simp only [firstN] at hn
            cases e2 : firstN p m with
            | some q => rw [e2] at hn; cases hn
            | none =>
              rw [e2] at hn
              dsimp only at hn
              split at hn
              · cases hn
              · next hq =>
                by_cases e3 : i = m
                · rw [e3]; exact hq
                · exact ih (by omega) e2 i (by omega)
        exact this j (Nat.le_refl _) e i hi hpi
      · cases h
theorem firstN_no {p : Nat → Prop} [DecidablePred p] {n : Nat} (h : firstN p n = none) : ∀ i, i < n → ¬ p i := by
  intro i hi hp
  -- the least such
  have : ∃ j, j ≤ i ∧ p j ∧ ∀ q, q < j → ¬ p q := by
    induction i using Nat.strongRecOn with
    | _ i ih =>
      by_cases e : ∃ q, q < i ∧ p q
      · obtain ⟨q, h1, h2⟩ := e
        obtain ⟨j, h3, h4⟩ := ih q h1 (by omega) h2
        exact ⟨j, by omega, h4⟩
      · exact ⟨i, Nat.le_refl _, hp, fun q hq hpq => e ⟨q, hq, hpq⟩⟩
  obtain ⟨j, h1, h2, h3⟩ := this
  rw [firstN_hit (n := n) (by omega) h2 h3] at h
  cases h
/-- the answer of a search: -1 where nothing is found -/
def optI (r : Option Nat) : Int32 := match r with
  | none => -1
  | some j => nI j
def sumN (f : Nat → Nat) : Nat → Nat
  | 0 => 0
  | n + 1 => sumN f n + f n
theorem sumN_le {f : Nat → Nat} {B : Nat} : ∀ {n : Nat}, (∀ i, i < n → f i ≤ B) → sumN f n ≤ n * B
  | 0, _ => by simp [sumN]
  | n + 1, h => by
    have h1 := sumN_le (n := n) (fun i hi => h i (by omega))
    have h2 := h n (by omega)
    simp only [sumN, Nat.succ_mul]
    omega
abbrev aheadK (S : KS) (k o : Nat) : Prop := ktmp S o < ktmp S k ∨ (ktmp S k = ktmp S o ∧ (kvol S o < kvol S k ∨ (kvol S k = kvol S o ∧ k < o)))
def rankK (S : KS) (k : Nat) : Nat := cntN (fun o => aheadK S o k) (kc S)
def rankedK (S : KS) (x : Int) : Option Nat := firstN (fun k => (rankK S k : Int) = x) (kc S)
def htK (S : KS) (k : Nat) : Option Nat := if kvol S k = 0 ∨ klev S k = 0 then none else some (max 1 ((200 - ktmp S k + (3 * klev S k - 1) - 1) / (3 * klev S k - 1)))
def suitK (S : KS) (cups min : Nat) : Nat → Option Nat
  | 0 => none
  | j + 1 => if 2 * cups ≤ kvol S j ∧ (match suitK S cups min j with | none => 2 * min - 1 | some b => ktmp S b) < ktmp S j then some j else suitK S cups min j
theorem suitK_lt {S : KS} {cups min : Nat} : ∀ {n j : Nat}, suitK S cups min n = some j → j < n
  | 0, _, h => by cases h
  | n + 1, j, h => by
    unfold suitK at h
    by_cases e : 2 * cups ≤ kvol S n ∧ (match suitK S cups min n with | none => 2 * min - 1 | some b => ktmp S b) < ktmp S n
    · rw [if_pos e] at h; cases h; omega
    · rw [if_neg e] at h; have := suitK_lt h; omega
def addK (S : KS) (cap : Nat) : KS := (kc S + 1, setN (kcap S) (kc S) cap, setN (kvol S) (kc S) 0, setN (ktmp S) (kc S) 40, setN (klev S) (kc S) 0, setN (kboi S) (kc S) 0)
def pourK (S : KS) (k more : Nat) : KS := (kc S, kcap S, setN (kvol S) k (kvol S k + more), setN (ktmp S) k (40 + (ktmp S k - 40) * kvol S k / (kvol S k + more)), klev S, kboi S)
def turnK (S : KS) (k lev : Nat) : KS := (kc S, kcap S, kvol S, ktmp S, setN (klev S) k lev, kboi S)
theorem pourT_le {t v m : Nat} (h1 : 40 ≤ t) (h2 : t ≤ 200) (hm : 0 < m) : 40 + (t - 40) * v / (v + m) ≤ 200 := by
  have h1 : (t - 40) * v ≤ 160 * (v + m) := Nat.mul_le_mul (by omega) (by omega)
  have h2 := Nat.div_le_of_le_mul (show (t - 40) * v ≤ (v + m) * 160 by rw [Nat.mul_comm (v + m)]; exact h1)
  omega
/-! ===== comparing ints, ranks ===== -/
/-- one to one on the first n numbers, into them: onto them -/
theorem pigeon : ∀ (n : Nat) (f : Nat → Nat), (∀ i, i < n → f i < n) → (∀ i j, i < n → j < n → f i = f j → i = j) → ∀ r, r < n → ∃ i, i < n ∧ f i = r := by
  intro n
  induction n with
  | zero => intro f _ _ r hr; omega
  | succ n ih =>
    intro f h1 h2 r hr
    have hg1 : ∀ i, i < n → (if f i = n then f n else f i) < n := by
      intro i hi
      have a := h1 i (by omega)
      have b := h1 n (by omega)
      split
      · next e =>
        have : f n ≠ n := fun e2 => by have := h2 i n (by omega) (by omega) (by omega); omega
        omega
      · next e => omega
    have hg2 : ∀ i j, i < n → j < n → (if f i = n then f n else f i) = (if f j = n then f n else f j) → i = j := by
      intro i j hi hj e
      by_cases e1 : f i = n
      · by_cases e2 : f j = n
        · exact h2 i j (by omega) (by omega) (by omega)
        · rw [if_pos e1, if_neg e2] at e
          have := h2 n j (by omega) (by omega) e
          omega
      · by_cases e2 : f j = n
        · rw [if_neg e1, if_pos e2] at e
          have := h2 i n (by omega) (by omega) e
          omega
        · rw [if_neg e1, if_neg e2] at e
          exact h2 i j (by omega) (by omega) e
    by_cases hrn : r = f n
    · exact ⟨n, by omega, hrn.symm⟩
    · by_cases hr2 : r < n
      · obtain ⟨i, hi, e⟩ := ih _ hg1 hg2 r hr2
        by_cases e1 : f i = n
        · rw [if_pos e1] at e; exact absurd e.symm hrn
        · rw [if_neg e1] at e; exact ⟨i, by omega, e⟩
      · have hr3 : r = n := by omega
        -- n is hit by some i < n, else f maps n + 1 numbers below n
        have hfn : f n < n := by have := h1 n (by omega); omega
        obtain ⟨i, hi, e⟩ := ih _ hg1 hg2 (f n) hfn
        by_cases e1 : f i = n
        · exact ⟨i, by omega, by omega⟩
        · rw [if_neg e1] at e
          have := h2 i n (by omega) (by omega) e
          omega
theorem cntN_mono {p q : Nat → Prop} [DecidablePred p] [DecidablePred q] : ∀ {n : Nat}, (∀ i, i < n → p i → q i) → cntN p n ≤ cntN q n
  | 0, _ => Nat.le_refl _
  | n + 1, h => by
    have h1 := cntN_mono (n := n) (fun i hi => h i (by omega))
    have h2 := h n (by omega)
    simp only [cntN]
    by_cases e : p n
    · rw [if_pos e, if_pos (h2 e)]; omega
    · rw [if_neg e]; split <;> omega
theorem cntN_lt {p q : Nat → Prop} [DecidablePred p] [DecidablePred q] : ∀ {n : Nat}, (∀ i, i < n → p i → q i) → ∀ k, k < n → q k → ¬ p k → cntN p n < cntN q n
  | 0, _, k, hk, _, _ => by omega
  | n + 1, h, k, hk, hq, hp => by
    have h2 := h n (by omega)
    simp only [cntN]
    by_cases e : k = n
    · subst e
      have h1 := cntN_mono (n := k) (fun i hi => h i (by omega))
      rw [if_neg hp, if_pos hq]; omega
    · have h1 := cntN_lt (n := n) (fun i hi => h i (by omega)) k (by omega) hq hp
      by_cases e2 : p n
      · rw [if_pos e2, if_pos (h2 e2)]; omega
      · rw [if_neg e2]; split <;> omega
theorem cntN_congr {p q : Nat → Prop} [DecidablePred p] [DecidablePred q] {n : Nat} (h : ∀ i, i < n → (p i ↔ q i)) : cntN p n = cntN q n :=
  Nat.le_antisymm (cntN_mono fun i hi => (h i hi).mp) (cntN_mono fun i hi => (h i hi).mpr)
theorem cntN_all {p : Nat → Prop} [DecidablePred p] : ∀ {n : Nat}, (∀ i, i < n → p i) → cntN p n = n
  | 0, _ => rfl
  | n + 1, h => by simp only [cntN, cntN_all (n := n) (fun i hi => h i (by omega)), if_pos (h n (by omega))]
theorem cntN_none {p : Nat → Prop} [DecidablePred p] : ∀ {n : Nat}, (∀ i, i < n → ¬ p i) → cntN p n = 0
  | 0, _ => rfl
  | n + 1, h => by simp only [cntN, cntN_none (n := n) (fun i hi => h i (by omega)), if_neg (h n (by omega))]
section Rank
variable {n : Nat} {lt : Nat → Nat → Prop}
theorem rk_lt [DecidableRel lt] (hi : ∀ i, ¬ lt i i) {i : Nat} (h : i < n) : cntN (fun o => lt o i) n < n := by
  have h1 := cntN_lt (p := fun o => lt o i) (q := fun _ => True) (n := n) (fun _ _ _ => trivial) i h trivial (hi i)
  rw [cntN_all (p := fun _ => True) (fun _ _ => trivial)] at h1
  exact h1
theorem rk_mono [DecidableRel lt] (hi : ∀ i, ¬ lt i i) (ht : ∀ i j k, lt i j → lt j k → lt i k) {i j : Nat} (h : i < n) (hl : lt i j) : cntN (fun o => lt o i) n < cntN (fun o => lt o j) n :=
  cntN_lt (fun o _ ho => ht o i j ho hl) i h hl (hi i)
theorem rk_inj [DecidableRel lt] (hi : ∀ i, ¬ lt i i) (ht : ∀ i j k, lt i j → lt j k → lt i k) (htot : ∀ i j, i < n → j < n → i ≠ j → lt i j ∨ lt j i) {i j : Nat} (h : i < n) (hj : j < n) (e : cntN (fun o => lt o i) n = cntN (fun o => lt o j) n) : i = j := by
  by_cases e2 : i = j
  · exact e2
  · rcases htot i j h hj e2 with q | q
    · have := rk_mono (n := n) hi ht h q; omega
    · have := rk_mono (n := n) hi ht hj q; omega
theorem rk_onto [DecidableRel lt] (hi : ∀ i, ¬ lt i i) (ht : ∀ i j k, lt i j → lt j k → lt i k) (htot : ∀ i j, i < n → j < n → i ≠ j → lt i j ∨ lt j i) {r : Nat} (hr : r < n) : ∃ i, i < n ∧ cntN (fun o => lt o i) n = r :=
  pigeon n (fun i => cntN (fun o => lt o i) n) (fun i h => rk_lt hi h) (fun i j h1 h2 e => rk_inj hi ht htot h1 h2 e) r hr
end Rank
theorem Same.eq {I I' : IT} {a n q : Nat} (h : Same I I' a n) (hq : q < a ∨ a + n ≤ q) (j : Nat) : I' q j = I q j := by rw [h q hq]
theorem nI_if (p : Prop) [Decidable p] (a b : Nat) : (if p then nI a else nI b) = nI (if p then a else b) := by split <;> rfl
theorem firstN_lt {p : Nat → Prop} [DecidablePred p] {n j : Nat} (h : firstN p n = some j) : j < n := (firstN_some h).1
theorem optI_some (j : Nat) : optI (some j) = nI j := rfl
theorem optI_none : optI none = -1 := rfl
theorem optI_toInt {r : Option Nat} (h : ∀ j, r = some j → j < 2 ^ 31) : (optI r).toInt = (match r with | none => -1 | some j => (j : Int)) := by
  cases r with
  | none => rfl
  | some j => exact nI_toInt (h j rfl)
theorem sumN_congr {f g : Nat → Nat} : ∀ {n : Nat}, (∀ i, i < n → f i = g i) → sumN f n = sumN g n
  | 0, _ => rfl
  | n + 1, h => by simp only [sumN, sumN_congr (n := n) (fun i hi => h i (by omega)), h n (by omega)]

/-! ===== Kettles: copyFrom, add, suitable, isRankedOnceEach ===== -/
/-- the best kettle's temperature so far -/
def suitT (S : KS) (cups min n : Nat) : Nat := match suitK S cups min n with | none => 2 * min - 1 | some b => ktmp S b
theorem bit4 : ∀ m : Fin 16, ∀ k : Fin 4, ∃ m2 : Fin 16, nI m.val ||| (nI 1 <<< (nI k.val &&& 31)) = nI m2.val ∧ ∀ k2 : Fin 4, ((nI m2.val &&& (nI 1 <<< (nI k2.val &&& 31))) = 0 ↔ ((nI m.val &&& (nI 1 <<< (nI k2.val &&& 31))) = 0 ∧ k2 ≠ k)) := by decide +kernel
theorem bit0 : ∀ k : Fin 4, (nI 0 &&& (nI 1 <<< (nI k.val &&& 31))) = 0 := by decide +kernel
theorem aheadK_irr (S : KS) (i : Nat) : ¬ aheadK S i i := by unfold aheadK; omega
theorem aheadK_tr (S : KS) (i j k : Nat) : aheadK S i j → aheadK S j k → aheadK S i k := by unfold aheadK; omega
theorem aheadK_tot (S : KS) (i j : Nat) (h : i ≠ j) : aheadK S i j ∨ aheadK S j i := by unfold aheadK; omega
theorem rankK_lt {S : KS} {k : Nat} (h : k < kc S) : rankK S k < kc S := rk_lt (lt := aheadK S) (aheadK_irr S) h
theorem rankK_inj {S : KS} {i j : Nat} (h : i < kc S) (hj : j < kc S) (e : rankK S i = rankK S j) : i = j := rk_inj (lt := aheadK S) (aheadK_irr S) (aheadK_tr S) (fun i j _ _ h => aheadK_tot S i j h) h hj e
theorem rankK_onto {S : KS} {r : Nat} (h : r < kc S) : ∃ k, k < kc S ∧ rankK S k = r := rk_onto (lt := aheadK S) (aheadK_irr S) (aheadK_tr S) (fun i j _ _ h => aheadK_tot S i j h) h
/-! ===== TeaHouse$Ledger ===== -/
/-- count, present, from cups, from steam; incomes -/
abbrev GS : Type := Nat × Nat × Nat × Nat × (Nat → Nat)
def lc (S : GS) : Nat := S.1
def lpr (S : GS) : Nat := S.2.1
def lcu (S : GS) : Nat := S.2.2.1
def lst (S : GS) : Nat := S.2.2.2.1
def lin (S : GS) : Nat → Nat := S.2.2.2.2
section Lmk
variable {c p q r : Nat} {f : Nat → Nat}
theorem lc_mk : lc (c, p, q, r, f) = c := rfl
theorem lpr_mk : lpr (c, p, q, r, f) = p := rfl
theorem lcu_mk : lcu (c, p, q, r, f) = q := rfl
theorem lst_mk : lst (c, p, q, r, f) = r := rfl
theorem lin_mk : lin (c, p, q, r, f) = f := rfl
end Lmk
def LW (S : GS) : Prop := lc S ≤ 14 ∧ sumN (lin S) (lc S) + lpr S = lcu S + lst S ∧ lcu S + lst S < 100000000
theorem sumN_mono {f : Nat → Nat} {m : Nat} : ∀ {n : Nat}, m ≤ n → sumN f m ≤ sumN f n
  | 0, h => by rw [Nat.le_zero.mp h]; exact Nat.le_refl _
  | n + 1, h => by
    by_cases e : m = n + 1
    · rw [e]; exact Nat.le_refl _
    · have := sumN_mono (f := f) (m := m) (n := n) (by omega)
      simp only [sumN]; omega
theorem sumN_at {f : Nat → Nat} {n i : Nat} (h : i < n) : f i ≤ sumN f n := by
  have := sumN_mono (f := f) (m := i + 1) (n := n) (by omega)
  simp only [sumN] at this; omega
theorem sumN_add (f : Nat → Nat) (m : Nat) : ∀ n, sumN f (m + n) = sumN f m + sumN (fun i => f (m + i)) n
  | 0 => by simp [sumN]
  | n + 1 => by
    have := sumN_add f m n
    show sumN f (m + n) + f (m + n) = sumN f m + (sumN (fun i => f (m + i)) n + f (m + n))
    omega
/-- the greatest sum of n in a row, of those that begin before k -/
def grN (f : Nat → Nat) (n : Nat) : Nat → Nat
  | 0 => 0
  | k + 1 => max (grN f n k) (sumN (fun i => f (k + i)) n)
theorem grN_le {f : Nat → Nat} {n c : Nat} : ∀ {k : Nat}, k + n ≤ c + 1 → grN f n k ≤ sumN f c
  | 0, _ => Nat.zero_le _
  | k + 1, h => by
    have h1 := grN_le (f := f) (n := n) (c := c) (k := k) (by omega)
    have h2 := sumN_add f k n
    have h3 := sumN_mono (f := f) (m := k + n) (n := c) (by omega)
    simp only [grN]; omega
abbrev aheadL (f : Nat → Nat) (i j : Nat) : Prop := f j < f i ∨ (f i = f j ∧ i < j)
def rankL (f : Nat → Nat) (n i : Nat) : Nat := cntN (fun o => aheadL f o i) n
def rankedL (f : Nat → Nat) (n : Nat) (x : Int) : Option Nat := firstN (fun i => (rankL f n i : Int) = x) n
def nightL (S : GS) : GS := (lc S + 1, 0, lcu S, lst S, setN (lin S) (lc S) (lpr S))
theorem rankL_le (f : Nat → Nat) (n i : Nat) : rankL f n i ≤ n := cntN_le _ _
/-! ===== TeaHouse$Orders ===== -/
/-- count, next number; by field and position -/
abbrev OS : Type := Nat × Nat × (Nat → Nat → Nat)
def oc (S : OS) : Nat := S.1
def onx (S : OS) : Nat := S.2.1
def oF (S : OS) : Nat → Nat → Nat := S.2.2
theorem oc_mk {c n : Nat} {f : Nat → Nat → Nat} : oc (c, n, f) = c := rfl
theorem onx_mk {c n : Nat} {f : Nat → Nat → Nat} : onx (c, n, f) = n := rfl
theorem oF_mk {c n : Nat} {f : Nat → Nat → Nat} : oF (c, n, f) = f := rfl
/-- the bounds, the order of priorities; the numbers differ -/
def OW (S : OS) : Prop := oc S ≤ 10 ∧ onx S < 2 ^ 30 ∧ (∀ p, p < oc S → oF S 0 p < onx S ∧ oF S 1 p ≤ 9 ∧ 1 ≤ oF S 2 p ∧ oF S 2 p ≤ 6 ∧ 60 ≤ oF S 3 p ∧ oF S 3 p ≤ 100 ∧ 1 ≤ oF S 4 p ∧ oF S 4 p ≤ 9) ∧ (∀ p q, p < q → q < oc S → oF S 4 q ≤ oF S 4 p) ∧ (∀ p q, p < oc S → q < oc S → oF S 0 p = oF S 0 q → p = q)
def OR (I : IT) (a : Nat) (S : OS) : Prop := OW S ∧ I a 5 = nI (oc S) ∧ I a 6 = nI (onx S) ∧ ∀ p, p < oc S → I (a + 1) p = nI (oF S 0 p) ∧ I (a + 2) p = nI (oF S 1 p) ∧ I (a + 3) p = nI (oF S 2 p) ∧ I (a + 4) p = nI (oF S 3 p) ∧ I (a + 5) p = nI (oF S 4 p)
def cpO (I : IT) (a b i j : Nat) : IT := up2 (up2 (up2 (up2 (up2 I (a + 1) j (I (b + 1) i)) (a + 2) j (I (b + 2) i)) (a + 3) j (I (b + 3) i)) (a + 4) j (I (b + 4) i)) (a + 5) j (I (b + 5) i)
theorem cpO_same {I I0 : IT} {a b i j : Nat} (h : Same I0 I a 6) : Same I0 (cpO I a b i j) a 6 := by
  unfold cpO
  repeat (first | exact h | refine Same.up ?_ (by omega) (by omega))
theorem cpO_hd {I : IT} {a b i j : Nat} (f : Nat) : cpO I a b i j a f = I a f := by
  unfold cpO
  simp (disch := omega) only [up2_nea]
theorem cpO_at {I : IT} {a b i j : Nat} (h : a = b ∨ a + 6 ≤ b ∨ b + 6 ≤ a) : cpO I a b i j (a + 1) j = I (b + 1) i ∧ cpO I a b i j (a + 2) j = I (b + 2) i ∧ cpO I a b i j (a + 3) j = I (b + 3) i ∧ cpO I a b i j (a + 4) j = I (b + 4) i ∧ cpO I a b i j (a + 5) j = I (b + 5) i := by
  unfold cpO
  refine ⟨?_, ?_, ?_, ?_, ?_⟩ <;> simp (disch := omega) only [up2_nea, up2_same]
theorem cpO_ne {I : IT} {a b i j k : Nat} (h : k ≠ j) (q : Nat) : cpO I a b i j q k = I q k := by
  unfold cpO
  simp (disch := assumption) only [up2_nej]
/-- where a new order of priority pr goes, among the first n -/
def insP (f : Nat → Nat) (pr : Nat) : Nat → Nat
  | 0 => 0
  | n + 1 => if f n < pr then insP f pr n else n + 1
theorem insP_le (f : Nat → Nat) (pr : Nat) : ∀ n, insP f pr n ≤ n
  | 0 => Nat.le_refl _
  | n + 1 => by
    have := insP_le f pr n
    simp only [insP]; split <;> omega
theorem insP_lo {f : Nat → Nat} {pr : Nat} : ∀ {n k : Nat}, insP f pr n ≤ k → k < n → f k < pr
  | 0, k, _, h => by omega
  | n + 1, k, h1, h2 => by
    simp only [insP] at h1
    split at h1
    · next e =>
      by_cases e2 : k = n
      · subst e2; exact e
      · exact insP_lo (n := n) h1 (by omega)
    · omega
theorem insP_hi {f : Nat → Nat} {pr : Nat} : ∀ {n : Nat}, 0 < insP f pr n → pr ≤ f (insP f pr n - 1)
  | 0, h => by simp [insP] at h
  | n + 1, h => by
    simp only [insP] at h ⊢
    split
    · next e => rw [if_pos e] at h; exact insP_hi h
    · next e => simp only [Nat.add_sub_cancel]; omega
def addO (S : OS) (table cups min pr : Nat) : OS := (oc S + 1, onx S + 1, fun f p =>
  if p < insP (oF S 4) pr (oc S) then oF S f p else if p = insP (oF S 4) pr (oc S) then (if f = 0 then onx S else if f = 1 then table else if f = 2 then cups else if f = 3 then min else pr) else oF S f (p - 1))
theorem addO_W {S : OS} (h : OW S) {table cups min pr : Nat} (hc : oc S < 10) (hn : onx S + 1 < 2 ^ 30) (h1 : table ≤ 9) (h2 : 1 ≤ cups) (h3 : cups ≤ 6) (h4 : 60 ≤ min) (h5 : min ≤ 100) (h6 : 1 ≤ pr) (h7 : pr ≤ 9) : OW (addO S table cups min pr) := by
  obtain ⟨w1, w2, w3, w4, w5⟩ := h
  have hle := insP_le (oF S 4) pr (oc S)
  have hlo := fun k => insP_lo (f := oF S 4) (pr := pr) (n := oc S) (k := k)
  have hhi : ∀ p, p < insP (oF S 4) pr (oc S) → pr ≤ oF S 4 p := by
    intro p hp
    have a := insP_hi (f := oF S 4) (pr := pr) (n := oc S) (by omega)
    by_cases e : p = insP (oF S 4) pr (oc S) - 1
    · rw [e]; exact a
    · have := w4 p (insP (oF S 4) pr (oc S) - 1) (by omega) (by omega); omega
  generalize hip : insP (oF S 4) pr (oc S) = ip at hle hlo hhi
  have hF : ∀ f p, oF (addO S table cups min pr) f p = if p < ip then oF S f p else if p = ip then (if f = 0 then onx S else if f = 1 then table else if f = 2 then cups else if f = 3 then min else pr) else oF S f (p - 1) := by
    intro f p; unfold addO; rw [oF_mk, hip]
  have hC : oc (addO S table cups min pr) = oc S + 1 := rfl
  have hN : onx (addO S table cups min pr) = onx S + 1 := rfl
  refine ⟨by rw [hC]; omega, by rw [hN]; omega, fun p hp => ?_, fun p q hpq hq => ?_, fun p q hp hq => ?_⟩
  · rw [hC] at hp
    rw [hN]
    simp only [hF]
    by_cases e1 : p < ip
    · simp only [if_pos e1]
      obtain ⟨a, b⟩ := w3 p (by omega)
      exact ⟨by omega, b⟩
    · simp only [if_neg e1]
      by_cases e2 : p = ip
      · simp [if_pos e2]; omega
      · simp only [if_neg e2]
        obtain ⟨a, b⟩ := w3 (p - 1) (by omega)
        exact ⟨by omega, b⟩
  · rw [hC] at hq
    simp only [hF]
    simp only [show ¬ ((4 : Nat) = 0) by decide, show ¬ ((4 : Nat) = 1) by decide, show ¬ ((4 : Nat) = 2) by decide, show ¬ ((4 : Nat) = 3) by decide, if_false]
    by_cases e1 : p < ip
    · rw [if_pos e1]
      by_cases e2 : q < ip
      · rw [if_pos e2]; exact w4 p q hpq (by omega)
      · rw [if_neg e2]
        by_cases e3 : q = ip
        · rw [if_pos e3]; exact hhi p e1
        · rw [if_neg e3]
          by_cases e4 : p = q - 1
          · rw [e4]; exact Nat.le_refl _
          · exact w4 p (q - 1) (by omega) (by omega)
    · rw [if_neg e1, if_neg (show ¬ q < ip by omega), if_neg (show ¬ q = ip by omega)]
      by_cases e2 : p = ip
      · rw [if_pos e2]; exact Nat.le_of_lt (hlo (q - 1) (by omega) (by omega))
      · rw [if_neg e2]; exact w4 (p - 1) (q - 1) (by omega) (by omega)
  · rw [hC] at hp hq
    simp only [hF]
    simp only [if_true]
    by_cases e1 : p < ip
    · rw [if_pos e1]
      by_cases e2 : q < ip
      · rw [if_pos e2]; exact w5 p q (by omega) (by omega)
      · rw [if_neg e2]
        by_cases e3 : q = ip
        · rw [if_pos e3]; intro h; have := (w3 p (by omega)).1; omega
        · rw [if_neg e3]; intro h; have := w5 p (q - 1) (by omega) (by omega) h; omega
    · rw [if_neg e1]
      by_cases e2 : p = ip
      · rw [if_pos e2]
        by_cases e3 : q < ip
        · rw [if_pos e3]; intro h; have := (w3 q (by omega)).1; omega
        · rw [if_neg e3]
          by_cases e4 : q = ip
          · intro _; omega
          · rw [if_neg e4]; intro h; have := (w3 (q - 1) (by omega)).1; omega
      · rw [if_neg e2]
        by_cases e3 : q < ip
        · rw [if_pos e3]; intro h; have := w5 (p - 1) q (by omega) (by omega) h; omega
        · rw [if_neg e3]
          by_cases e4 : q = ip
          · rw [if_pos e4]; intro h; have := (w3 (p - 1) (by omega)).1; omega
          · rw [if_neg e4]; intro h; have := w5 (p - 1) (q - 1) (by omega) (by omega) h; omega
def delO (S : OS) (r : Nat) : OS := (oc S - 1, onx S, fun f p => if r ≤ p then oF S f (p + 1) else oF S f p)
theorem delO_W {S : OS} (h : OW S) {r : Nat} (hr : r < oc S) : OW (delO S r) := by
  obtain ⟨w1, w2, w3, w4, w5⟩ := h
  have hF : ∀ f p, oF (delO S r) f p = oF S f (if r ≤ p then p + 1 else p) := by
    intro f p; unfold delO; rw [oF_mk]; split <;> rfl
  have hC : oc (delO S r) = oc S - 1 := rfl
  have hN : onx (delO S r) = onx S := rfl
  have hm : ∀ p, p < oc S - 1 → (if r ≤ p then p + 1 else p) < oc S := by intro p hp; split <;> omega
  refine ⟨by rw [hC]; omega, by rw [hN]; omega, fun p hp => ?_, fun p q hpq hq => ?_, fun p q hp hq => ?_⟩
  · rw [hN]; simp only [hF]; exact w3 _ (hm p hp)
  · simp only [hF]; exact w4 _ _ (by split <;> split <;> omega) (hm q hq)
  · simp only [hF]
    intro e
    have := w5 _ _ (hm p hp) (hm q hq) e
    split at this <;> split at this <;> omega
def findO (S : OS) (x : Int) : Option Nat := firstN (fun p => (oF S 0 p : Int) = x) (oc S)
def numO (S : OS) (x : Int) : Option Nat := if 0 ≤ x ∧ x < oc S then some (oF S 0 x.toNat) else none