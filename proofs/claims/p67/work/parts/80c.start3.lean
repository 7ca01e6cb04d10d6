/-! ===== the start: the tables of constants, held against the given ===== -/
def kcs : List Nat := enO ++ (List.range 27).map (fun i => 40 + i)
set_option maxRecDepth 100000 in
theorem tm_st : ∀ q ∈ cS, tmA q.2.2.2 = tmS q ∧ tmA (q.2.2.2 + 60) = vlS q ∧ 40 ≤ q.2.2.2 ∧ (ltC q.2.2.2).length < 2 ^ 31 ∧ ∀ v ∈ ltC q.2.2.2, v = .int (toI v) := by decide +kernel
set_option maxRecDepth 100000 in
theorem kc_st : ∀ k ∈ kcs, k ∈ enO ∨ ∃ q ∈ cS, q.2.2.2 = k := by decide +kernel
set_option maxRecDepth 100000 in
theorem cF_ok : ∀ q ∈ cF, (q.2.2.2.2 ∈ enV ∧ (q.2.2.2.1 = .int (toI q.2.2.2.1) ∨ ∃ k ∈ kcs, q.2.2.2.1 = .ref (1000000 + k))) ∨ (∃ r ∈ cS, r.2.2.2 = q.2.2.2.2 ∧ q.1 = "java/lang/String" ∧ q.2.1 = "coder" ∧ q.2.2.1 = "B" ∧ q.2.2.2.1 = .int 0) ∨ (∃ r ∈ cS, r.2.2.2 = q.2.2.2.2 ∧ q.1 = "java/lang/String" ∧ q.2.1 = "value" ∧ q.2.2.1 = "[B" ∧ q.2.2.2.1 = .ref (1000000 + (r.2.2.2 + 60))) := by decide +kernel
set_option maxRecDepth 100000 in
theorem cO_ok : ∀ q ∈ cO, (q.2 ∈ enO ∧ q.1 = clA q.2) ∨ ∃ r ∈ cS, r.2.2.2 = q.2 ∧ q.1 = "java/lang/String" := by decide +kernel
set_option maxRecDepth 100000 in
theorem cT_ok : ∀ q ∈ cT, (q ∈ cT.take 3 ∧ 30 ≤ q.2.1 ∧ q.2.2.1 = q.2.2.2.length ∧ q.2.2.1 < 2 ^ 31 ∧ ∀ v ∈ q.2.2.2, v = .int (toI v) ∨ ∃ k ∈ kcs, v = .ref (1000000 + k)) ∨ ∃ r ∈ cS, r.2.2.2 + 60 = q.2.1 ∧ q.1 = .byte ∧ ltC r.2.2.2 = q.2.2.2 ∧ q.2.2.1 = q.2.2.2.length := by decide +kernel
set_option maxRecDepth 100000 in
theorem cZ_ok : ∀ q ∈ cZ, q = ("java/lang/String", "COMPACT_STRINGS", "Z", .int 1) ∨ q = ("java/lang/Math", "negativeZeroFloatBits", "J", .long (-2147483648)) ∨ ∃ c ∈ enO ++ [31, 32, 33], q.2.2.2 = .ref (1000000 + c) ∧ tmA c = .static q.1 q.2.1 q.2.2.1 := by decide +kernel
set_option maxRecDepth 100000 in
theorem ne_ok : ∀ i ∈ enO, ∀ j ∈ enO, i ≠ j → (i, j) ∈ neO ∨ (j, i) ∈ neO := by decide +kernel
set_option maxRecDepth 100000 in
theorem nc_ok : ∀ a ∈ exL, ∀ b ∈ exL, a ≠ b → (a, b) ∈ ncO := by decide +kernel
set_option maxRecDepth 100000 in
theorem en_ok : ∀ c, c < 25 → ¬ (13 ≤ c ∧ c < 20) → c ∈ enO := by decide +kernel
set_option maxRecDepth 100000 in
theorem enV_lt : ∀ c ∈ enV, c < 13 := by decide +kernel
set_option maxRecDepth 100000 in
theorem en_no : ∀ c ∈ enO, ¬ (13 ≤ c ∧ c < 20) := by decide +kernel
set_option maxRecDepth 100000 in
theorem cZ_l : ∀ q ∈ cZ, Cond.laysStatic q.1 q.2.1 q.2.2.1 ∈ lw_tbl ∧ Cond.initialized q.1 ∈ lw_tbl := by
  unfold cZ
  exact
  List.forall_mem_cons.mpr ⟨⟨List.mem_of_getElem? (i := 1160) (by decide +kernel), List.mem_of_getElem? (i := 36) (by decide +kernel)⟩, 
  List.forall_mem_cons.mpr ⟨⟨List.mem_of_getElem? (i := 1281) (by decide +kernel), List.mem_of_getElem? (i := 36) (by decide +kernel)⟩, 
  List.forall_mem_cons.mpr ⟨⟨List.mem_of_getElem? (i := 1292) (by decide +kernel), List.mem_of_getElem? (i := 36) (by decide +kernel)⟩, 
  List.forall_mem_cons.mpr ⟨⟨List.mem_of_getElem? (i := 1304) (by decide +kernel), List.mem_of_getElem? (i := 36) (by decide +kernel)⟩, 
  List.forall_mem_cons.mpr ⟨⟨List.mem_of_getElem? (i := 1313) (by decide +kernel), List.mem_of_getElem? (i := 36) (by decide +kernel)⟩, 
  List.forall_mem_cons.mpr ⟨⟨List.mem_of_getElem? (i := 512) (by decide +kernel), List.mem_of_getElem? (i := 36) (by decide +kernel)⟩, 
  List.forall_mem_cons.mpr ⟨⟨List.mem_of_getElem? (i := 1329) (by decide +kernel), List.mem_of_getElem? (i := 36) (by decide +kernel)⟩, 
  List.forall_mem_cons.mpr ⟨⟨List.mem_of_getElem? (i := 1338) (by decide +kernel), List.mem_of_getElem? (i := 36) (by decide +kernel)⟩, 
  List.forall_mem_cons.mpr ⟨⟨List.mem_of_getElem? (i := 1380) (by decide +kernel), List.mem_of_getElem? (i := 36) (by decide +kernel)⟩, 
  List.forall_mem_cons.mpr ⟨⟨List.mem_of_getElem? (i := 1347) (by decide +kernel), List.mem_of_getElem? (i := 36) (by decide +kernel)⟩, 
  List.forall_mem_cons.mpr ⟨⟨List.mem_of_getElem? (i := 1356) (by decide +kernel), List.mem_of_getElem? (i := 36) (by decide +kernel)⟩, 
  List.forall_mem_cons.mpr ⟨⟨List.mem_of_getElem? (i := 1362) (by decide +kernel), List.mem_of_getElem? (i := 36) (by decide +kernel)⟩, 
  List.forall_mem_cons.mpr ⟨⟨List.mem_of_getElem? (i := 1371) (by decide +kernel), List.mem_of_getElem? (i := 36) (by decide +kernel)⟩, 
  List.forall_mem_cons.mpr ⟨⟨List.mem_of_getElem? (i := 534) (by decide +kernel), List.mem_of_getElem? (i := 38) (by decide +kernel)⟩, 
  List.forall_mem_cons.mpr ⟨⟨List.mem_of_getElem? (i := 543) (by decide +kernel), List.mem_of_getElem? (i := 38) (by decide +kernel)⟩, 
  List.forall_mem_cons.mpr ⟨⟨List.mem_of_getElem? (i := 532) (by decide +kernel), List.mem_of_getElem? (i := 38) (by decide +kernel)⟩, 
  List.forall_mem_cons.mpr ⟨⟨List.mem_of_getElem? (i := 536) (by decide +kernel), List.mem_of_getElem? (i := 38) (by decide +kernel)⟩, 
  List.forall_mem_cons.mpr ⟨⟨List.mem_of_getElem? (i := 546) (by decide +kernel), List.mem_of_getElem? (i := 38) (by decide +kernel)⟩, 
  List.forall_mem_cons.mpr ⟨⟨List.mem_of_getElem? (i := 518) (by decide +kernel), List.mem_of_getElem? (i := 37) (by decide +kernel)⟩, 
  List.forall_mem_cons.mpr ⟨⟨List.mem_of_getElem? (i := 917) (by decide +kernel), List.mem_of_getElem? (i := 56) (by decide +kernel)⟩, 
  List.forall_mem_cons.mpr ⟨⟨List.mem_of_getElem? (i := 919) (by decide +kernel), List.mem_of_getElem? (i := 56) (by decide +kernel)⟩, 
  List.forall_mem_cons.mpr ⟨⟨List.mem_of_getElem? (i := 266) (by decide +kernel), List.mem_of_getElem? (i := 33) (by decide +kernel)⟩, 
  List.forall_mem_cons.mpr ⟨⟨List.mem_of_getElem? (i := 1454) (by decide +kernel), List.mem_of_getElem? (i := 46) (by decide +kernel)⟩, fun _ h => absurd h List.not_mem_nil⟩⟩⟩⟩⟩⟩⟩⟩⟩⟩⟩⟩⟩⟩⟩⟩⟩⟩⟩⟩⟩⟩⟩
