/-! ===== throw new E("text"), where nothing catches it in the method ===== -/
/-- some cells more, of which nothing is said -/
def gGrow (G : GT) (n : Nat) : GT := (n, fun k => if k < G.1 then G.2.1 k else (99, 0), G.2.2)
theorem RelX.grow {D : DT} {G : GT} {I : IT} {L : LT} {H H' : Heap} {n : Nat} (h : Rel D G I L H) (hn : H'.size = D.1 + n) (hz : H.size ≤ H'.size) (ho : ∀ q, q < H.size → H'[q]? = H[q]?) : RelX D (gGrow G n) I L H' := by
  obtain ⟨h1, h2, h3, h4⟩ := h
  refine ⟨hn, fun q hq => (ho q (by omega)).trans (h3 q hq), fun k hk => ?_⟩
  by_cases e : k < G.1
  · exact (h4 k e).kept (by show (if k < G.1 then G.2.1 k else (99, 0)) = _; rw [if_pos e]) rfl rfl rfl rfl (ho _ (by omega))
  · have hs : (gGrow G n).2.1 k = (99, 0) := if_neg e
    unfold CR
    rw [hs]
    rw [if_neg (by decide), if_neg (by decide)]
    trivial
def ThW (own : String) (ik ic : Nat) (cls : String) : Prop := Bundle.fit cls = true ∧ Cond.classLink own ik cls ∈ TW ∧ Cond.initialized cls ∈ TW ∧ ∀ w ∈ vx_atS own ic cls ["java/lang/RuntimeException", "java/lang/Exception"], w ∈ TW
theorem vx_ot_TW {w : Cond} (h : w ∈ TW) : vx_ot w = true := gW_ot (TW_good h)
section Thr
variable {X : XT} {D : DT} {cc : ByteArray} {own : String} {nL c w : Nat} {G : GT} {I : IT} {L : LT} {pc : Nat} {ls st : List Value} {l0 : Launch} {P : Res → GT → IT → LT → Prop} {d mc ms : Nat}
theorem r_throwS (hX : OK X D cc own nL) {ret : Option FieldType} (hT : RT X l0 D ret P d mc ms) (hflag : l0.stackTraces = false) {ik ic is code : Nat} {cls text : String} (tw : ThW own ik ic cls) (hq : (own, is, text, code) ∈ cS)
    (d0 : decode cc pc = .ok (.new ik, 3)) (d3 : decode cc (pc + 3) = .ok (.dup, 1)) (d4 : decode cc (pc + 4) = .ok (.ldc is, 2)) (d6 : decode cc (pc + 6) = .ok (.invokespecial ic, 3)) (d9 : decode cc (pc + 9) = .ok (.athrow, 1))
    (hcat : (st.map fun v => v.category).sum ≤ 8) (hd : 6 ≤ d) (h : ∀ n, G.1 ≤ n → P (.inr cls) (gGrow G n) I L) (h1 : c + 1 ≤ mc) (h2 : w + 6 ≤ ms) : J X D nL c w G I L pc ls st := by
  obtain ⟨p, l, e, R, s, m, args, below, meth, c0, Q⟩ := X
  intro H locs lsA hR hz hl hL
  obtain ⟨hx, hby, hml, hown, hts, hF, hlk, hsz, h0⟩ := id hX
  obtain ⟨hQ, hr, ⟨rfl, R1, R2, R3, R4, R5⟩, htab⟩ := hT
  subst hQ
  obtain ⟨t1, t2, t3, t4⟩ := tw
  have hc2 := map_cat (D := D) st
  refine vx_throwS (A := Ad D) hx hby hflag hown t1 (by decide) (hts _ t2) (hts _ t3) (hF.2.2.2.2.2.1 _ hq) (fun w hw => hts _ (t4 w hw)) (fun w hw => ?_) (hF.2.2.2.2.2.2.1.kept (old_kept h0)) (hF.2.2.2.2.2.2.2.1.kept (old_kept h0)) (Facts.S h0 hR hz hl) (by rw [hml]; exact hL.2.1) d0 d3 d4 d6 d9 (fun x hx => (htab x hx).elim) (by show 2 + 3 < R.frames; omega) (by show _ + (13 * (2 + 1) + 43) ≤ R.locals; omega) (by omega) (by omega) hlk (fun t ha hz1 ho => ?_) hl h1 h2
  · rcases List.mem_cons.mp hw with rfl | hw
    · exact vx_ot_TW t2
    · rcases List.mem_cons.mp hw with rfl | hw
      · exact vx_ot_TW t3
      · exact vx_ot_TW (t4 _ hw)
  · have hn : t.heap.size = D.1 + (t.heap.size - D.1) := by have := hR.1; omega
    exact ⟨gGrow G (t.heap.size - D.1), I, L, h _ (by have := hR.1; omega), RelX.grow hR hn hz1 ho, by omega⟩
end Thr
