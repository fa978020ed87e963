theorem zq_ref {C n d : String} {A : Nat → Prop} {s : State} {args : Array Value} (h : va_Zq C n d A s s.heap) : (Cond.isRef (.static C n d)).before args s = true := by
  rcases h with ⟨cf, kf, fi, f, a, cell, h1, h2, h3, h4, h5, h6, h7, h8⟩ | ⟨t, cf, kf, fi, f, a, cell, h1, h2, h3, h4, h5, h6, h7, h8⟩ <;>
    simp [Cond.before, Cond.holds, Cond.value, Term.eval, State.fieldNamed?, h1, h2, h4, h5, h6, h7]
/-- the words of a throw: good ones, and the others by EY -/
def ownIn (w : Cond) : Prop := w ∈ TB ∨ w ∈ decWs ∨ w = .laysStatic TNm "UNASSIGNED_STACK" STd ∨ w = .laysStatic TNm "SUPPRESSED_SENTINEL" LId ∨ w = .isRef (.static TNm "UNASSIGNED_STACK" STd) ∨ w = .isRef (.static TNm "SUPPRESSED_SENTINEL" LId)
theorem own_at {A : Nat → Prop} {sa : Nat → Nat} {s : State} {args : Array Value} (hts : ∀ w ∈ TB, w.before args s = true) (hY : EY sa A s) {w : Cond} (h : ownIn w) : w.before args s = true := by
  rcases h with h | h | h | h | h | h
  · exact hts w h
  · have h1 := hY.2.2.1 w h
    simp only [decWs, List.mem_cons, List.not_mem_nil, or_false] at h
    rcases h with rfl | rfl | rfl | rfl | rfl | rfl <;> exact va_Nw.use rfl h1
  · subst h; exact hY.2.1.1
  · subst h; exact hY.2.1.2
  · subst h; exact zq_ref hY.1.1
  · subst h; exact zq_ref hY.1.2
section ZT2
variable {p : Program} {l : Launch} {e : Env} {R : Room} {s : State} {m : MethodId} {args : Array Value} {below : List Frame} {meth : Method} {c : Code}
variable {cc : ByteArray} {pc : Nat} {ls : Array Slot} {sa : Nat → Nat} {A : Nat → Prop} {nL : Nat}
set_option maxHeartbeats 1000000 in
theorem z_throw {X : String} {ic idxC : Nat} (i : Nat) (hfl : l.flags = pinnedFlags ++ [noTraceFlag]) (hexec : p.tables.exec = Jvm.exec) (hb : c.code = cc) (hown : s.vm.findClass "DeepChannel" = some m.cls) (hts : ∀ w ∈ TB, w.before args s = true) (hY : EY sa A s) (hi : i < 10)
    (hwc : Cond.classLink "DeepChannel" idxC X ∈ TB) (hwi : Cond.instantiable X 6 ∈ TB) (hwn : Cond.initialized X ∈ TB)
    (hat : ∀ w ∈ Bundle.ownAtoms "DeepChannel" ic X ["java/lang/RuntimeException", "java/lang/Exception"], ownIn w) (hX : Bundle.fit X = true)
    (hlocks : meth.locks = false) (hml : c.maxLocals = nL) (hsize : ls.size = nL) (hR1 : 5 < R.frames) (hR2 : 82 ≤ R.locals) (hR3 : 1 ≤ R.cells) (hR4 : 6 ≤ R.slots) (hnh : c.exceptionTable.isEmpty = true)
    (d0 : decode cc pc = .ok (.new idxC, 3)) (d3 : decode cc (pc + 3) = .ok (.dup, 1)) (d4 : decode cc (pc + 3 + 1) = .ok (.ldc (strI i), 2)) (d6 : decode cc (pc + 3 + 1 + 2) = .ok (.invokespecial ic, 3)) (d9 : decode cc (pc + 3 + 1 + 2 + 3) = .ok (.athrow, 1)) :
    W p l e R s m args below meth c s.heap [] 0 0 (MQT below X args s) (F0 m pc ls []) := by
  refine W.newc hexec hb hown (hts _ hwc) (hts _ hwi) (hts _ hwn) rfl d0 (by simpa using hR3) (by simpa using hR4) (fun cC kC h1 h2 h3 h4 => ?_)
  refine W.eq (g2 := F0 m (pc + 3) ls [.ref s.heap.size]) rfl ?_
  refine lv_dup hexec hb d3 rfl ?_
  refine va_ldcS hexec hb hown (hY.2.2.2 i hi) d4 ?_
  intro T hT XX
  have hcell : T.heap[s.heap.size]? = some (freshCell cC kC) := by rw [hT]; exact Array.getElem?_push_size
  obtain ⟨U, st, hrun, hend, hW, hsame, ce, hce, oc⟩ := XX.ctorThrowS (own := "DeepChannel") (cls := X) (names := ["java/lang/RuntimeException", "java/lang/Exception"]) (ic := ic) hexec (Launch.traces_off hfl XX.admits) hown hX (by decide) (fun w hw => own_at hts hY (hat w hw)) (fun x h => absurd h List.not_mem_nil)
    h1 h2 hcell (Nat.le_refl _) (msg := .ref (sa i)) rfl (g := F0 m (pc + 3 + 1 + 2) ls [.ref (sa i), .ref s.heap.size, .ref s.heap.size]) rfl (hsize.trans hml.symm) rfl rfl (rest := []) rfl (by rw [hb]; exact d6) (by rw [hb]; exact d9)
    (fun x hx => by
      rw [Array.isEmpty_iff.mp hnh] at hx
      exact absurd hx (by simp))
    (by show 2 + 3 < R.frames; exact hR1) (by show 2 * 0 + _ + _ ≤ _; simp [Value.category]; omega) hlocks
  exact ⟨U, st, .threw s.heap.size, hrun, hend, s.heap.size, ce, rfl, hce, oc.cls, oc.vm, Nat.le_refl _, hW, hsame⟩
/-- from a walk to the contract of a throw -/
theorem z_ofT {y : MethodName} {rm : Room} {Pc : Array Value → State → Prop} {maxL : Nat} {ret : Option FieldType} {X : String} (hy : plainName y.cls = true)
    (body : ∀ p e s m args below meth c s₁, BodyLoose p l y (headSpec (WD y cc maxL ret) rm) cc maxL ret e s m args below meth c s₁ → c.maxLocals = maxL → Pc args s →
      W p l e rm s m args below meth c s.heap [] 0 0 (MQT below X args s) (entryFrame m args maxL)) : MetFree l y (headSpec (WD y cc maxL ret) rm) Pc (fun _ _ _ _ _ => True) (QTx X) := by
  refine MetFree.of_bodyS (code := cc) (maxLocals := maxL) (ret := ret) hy ?_ ?_
  · intro args s m h hn
    obtain ⟨meth, c, h1, h2, h3, h4, h5, h6, -, -⟩ := Cond.code_spec hn (atoms_spec (ws := WD y cc maxL ret) h _ List.mem_cons_self)
    exact ⟨meth, c, h1, h2, h3, h4, h5, h6⟩
  · intro p e s m args below meth c s₁ B hml hP _
    have hh0 : s₁.heap = s.heap := by rw [B.state]; rfl
    obtain ⟨t, a1, o, b1, b2, b3⟩ := body p e s m args below meth c s₁ B hml hP s₁ hh0 (Stand.of_body B)
    exact ⟨t, o, a1, b1, b2, b3⟩
end ZT2
