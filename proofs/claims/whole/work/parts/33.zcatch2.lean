/-- the class C is not one of T -/
def NC (C T : String) (U : State) : Prop := ∃ c t, U.vm.findClass C = some c ∧ U.vm.findClass T = some t ∧ U.vm.assignable c t = false
theorem NC.warm {C T : String} {s U : State} (hW : s.WarmedH U.vm) (h : NC C T s) : NC C T U := by
  obtain ⟨c, t, h1, h2, h3⟩ := h
  exact ⟨c, t, by rw [hW.alike.findClass]; exact h1, by rw [hW.alike.findClass]; exact h2, by rw [hW.alike.assignable]; exact h3⟩
section ZL
variable {p : Program} {l : Launch} {e : Env} {R : Room} {s : State} {m : MethodId} {args : Array Value} {below : List Frame} {meth : Method} {c : Code} {H : Heap} {locs : List Loc} {cells slots : Nat} {Q : State → Prop}
variable {cc : ByteArray} {pc : Nat} {ls : Array Slot} {rest : List Value} {D : va_G} {cI cJ : ClassId} {tt sa : Nat → Nat} {A : Nat → Prop} {a : Nat} {ws : va_W} {nL : Nat} {own : String}
variable {st0 : List Value} {wc wr : va_W}
/-- the link of a class, in a warmer state; what its resolution leaves is warm still -/
theorem y_link {X : String} {T' : State} {i : Nat} (hpl : e.platform.magicAccessors = ({} : Platform).magicAccessors) (hown : s.vm.findClass own = some m.cls) (hl : (Cond.classLink own i X).before args s = true) (hW : s.WarmedH T'.vm) :
    ∃ ct, s.vm.findClass X = some ct ∧ T'.vm.ClassLinks e.platform m.cls i ct ∧ (∃ k, T'.vm.classes[ct]? = some k) ∧ s.WarmedH (T'.vm.noted m.cls i (.cls ct)) := by
  obtain ⟨ct, h1, h2⟩ := Cond.classLink_spec hown hl e.platform hpl
  obtain ⟨dk, _, _, kt, hd, _, _, _, _, hkt, _, hopen⟩ := h2.here
  obtain ⟨kt', hkt', -⟩ := hW.alike.2.2 _ _ hkt
  exact ⟨ct, h1, hW.classLinks h2, ⟨kt', hkt'⟩, hW.noted hd hopen (State.rightAt_cls h2)⟩
/-- the first row of the table catches -/
theorem y_catch1 {X : String} {T' : State} {x : Addr} {ce : Cell} {g : JFrame} {a0 a1 hpc ct : Nat} {hh : List (Nat × Nat × Nat × Nat)} (XX : Stand p l e R s m args below meth c T' locs cells slots) (hown : s.vm.findClass own = some m.cls)
    (hlink : (Cond.classLink own ct X).before args s = true) (hct : ct ≠ 0) (htab : c.exceptionTable.toList.map (fun h => (h.startPc, h.endPc, h.handlerPc, h.catchType)) = (a0, a1, hpc, ct) :: hh) (hcov : a0 ≤ g.pc ∧ g.pc < a1)
    (hself : (Cond.castable X X).before args s = true) (hg : g.method = m) (hce : T'.heap[x]? = some ce) (hX : s.vm.findClass X = some ce.cls) (hvm : ce.vm = .none) :
    ∃ vm', s.WarmedH vm' ∧ FindsW e ((T'.setTop g).pushFrame (.throwing x)) g x (.found hpc) vm' := by
  have hpl : e.platform.magicAccessors = ({} : Platform).magicAccessors := by rw [XX.admits.platform]
  obtain ⟨c1, h1, h2, h3, h4⟩ := y_link (T' := T') hpl hown hlink XX.warmed
  have e1 : c1 = ce.cls := Option.some.inj (h1.symm.trans hX)
  obtain ⟨c3, c4, hc3, hc4, hasg⟩ := Cond.castable_spec hself
  have e3 : c3 = ce.cls := Option.some.inj (hc3.symm.trans hX)
  have e4 : c4 = ce.cls := Option.some.inj (hc4.symm.trans hX)
  subst e3; subst e4; subst e1
  refine ⟨_, h4, ?_⟩
  cases ht : c.exceptionTable.toList with
  | nil => rw [ht] at htab; cases htab
  | cons y rs =>
    rw [ht] at htab
    simp only [List.map_cons, List.cons.injEq, Prod.mk.injEq] at htab
    obtain ⟨⟨y0, y1, y2, y3⟩, -⟩ := htab
    intro Q E d acts
    have hm2 : ((T'.setTop g).pushFrame (.throwing x)).vm.method? g.method = some meth := by rw [Stand.throwing_vm, hg]; exact XX.method'
    rw [W.findHandler_eq hm2 XX.code, ht]
    have hvm2 : ((T'.setTop g).pushFrame (.throwing x)).vm = T'.vm := Stand.throwing_vm T' g x
    have hgo := y_go (e := e) (s := (T'.setTop g).pushFrame (.throwing x)) (f := g) (a := x) (Q := Q) (E := E) (d := d) (acts := acts) (x := y) (t := rs) (c := ce.cls) (cell := ce) (by rw [covers, y0, y1]; simp [hcov.1, hcov.2]) (by rw [y3]; exact hct)
      (by rw [hvm2, hg, y3]; exact h2) (by rw [Stand.throwing_heap]; exact hce) (fun k h => by rw [hvm] at h; cases h) (by rw [hvm2]; exact h3) (by rw [hvm2]; exact h3) (by rw [hvm2, XX.warmed.alike.assignable]; exact hasg)
    rw [hvm2, hg, y3, y2] at hgo
    exact hgo
/-- the second row of the table catches -/
theorem y_catch2 {X X1 : String} {T' : State} {x : Addr} {ce : Cell} {g : JFrame} {a0 a1 hpc ct b0 b1 b2 ct1 : Nat} {hh : List (Nat × Nat × Nat × Nat)} (XX : Stand p l e R s m args below meth c T' locs cells slots) (hown : s.vm.findClass own = some m.cls)
    (hlink1 : (Cond.classLink own ct1 X1).before args s = true) (hct1 : ct1 ≠ 0) (hno : NC X X1 s) (hlink : (Cond.classLink own ct X).before args s = true) (hct : ct ≠ 0) (htab : c.exceptionTable.toList.map (fun h => (h.startPc, h.endPc, h.handlerPc, h.catchType)) = (b0, b1, b2, ct1) :: (a0, a1, hpc, ct) :: hh) (hcov : (b0 ≤ g.pc ∧ g.pc < b1) ∧ a0 ≤ g.pc ∧ g.pc < a1)
    (hself : (Cond.castable X X).before args s = true) (hg : g.method = m) (hce : T'.heap[x]? = some ce) (hX : s.vm.findClass X = some ce.cls) (hvm : ce.vm = .none) :
    ∃ vm', s.WarmedH vm' ∧ FindsW e ((T'.setTop g).pushFrame (.throwing x)) g x (.found hpc) vm' := by
  have hpl : e.platform.magicAccessors = ({} : Platform).magicAccessors := by rw [XX.admits.platform]
  obtain ⟨c9, h91, h92, h93, h94⟩ := y_link (T' := T') hpl hown hlink1 XX.warmed
  obtain ⟨c1, h1, h2, h3, h4⟩ := y_link (T' := T'.setVm (T'.vm.noted m.cls ct1 (.cls c9))) hpl hown hlink h94
  have e1 : c1 = ce.cls := Option.some.inj (h1.symm.trans hX)
  obtain ⟨c3, c4, hc3, hc4, hasg⟩ := Cond.castable_spec hself
  have e3 : c3 = ce.cls := Option.some.inj (hc3.symm.trans hX)
  have e4 : c4 = ce.cls := Option.some.inj (hc4.symm.trans hX)
  obtain ⟨c5, c6, h5, h6, h7⟩ := hno
  have e5 : c5 = ce.cls := Option.some.inj (h5.symm.trans hX)
  have e6 : c6 = c9 := Option.some.inj (h6.symm.trans h91)
  subst e3; subst e4; subst e1; subst e5; subst e6
  refine ⟨_, h4, ?_⟩
  obtain ⟨kk, hkk⟩ := h3
  obtain ⟨k5, hk5, -⟩ := (show (T'.setVm (T'.vm.noted m.cls ct1 (.cls c6))).vm.Alike T'.vm from h94.alike.symm.trans XX.warmed.alike).2.2 _ _ hkk
  cases ht : c.exceptionTable.toList with
  | nil => rw [ht] at htab; cases htab
  | cons y rs =>
    cases rs with
    | nil => rw [ht] at htab; simp at htab
    | cons z rs =>
      rw [ht] at htab
      simp only [List.map_cons, List.cons.injEq, Prod.mk.injEq] at htab
      obtain ⟨⟨y0, y1, y2, y3⟩, ⟨z0, z1, z2, z3⟩, -⟩ := htab
      intro Q E d acts
      have hm2 : ((T'.setTop g).pushFrame (.throwing x)).vm.method? g.method = some meth := by rw [Stand.throwing_vm, hg]; exact XX.method'
      rw [W.findHandler_eq hm2 XX.code, ht]
      have hvm2 : ((T'.setTop g).pushFrame (.throwing x)).vm = T'.vm := Stand.throwing_vm T' g x
      have hgo1 := y_goNo (e := e) (s := (T'.setTop g).pushFrame (.throwing x)) (f := g) (a := x) (Q := Q) (E := E) (d := d) (acts := acts) (x := y) (t := z :: rs) (c := c6) (cell := ce) (by rw [covers, y0, y1]; simp [hcov.1.1, hcov.1.2]) (by rw [y3]; exact hct1)
        (by rw [hvm2, hg, y3]; exact h92) (by rw [Stand.throwing_heap]; exact hce) (fun k h => by rw [hvm] at h; cases h) (by rw [hvm2]; exact ⟨k5, hk5⟩) (by rw [hvm2]; exact h93) (by rw [hvm2, XX.warmed.alike.assignable]; exact h7)
      rw [hgo1]
      have hgo := y_go (e := e) (s := ((T'.setTop g).pushFrame (.throwing x)).setVm (((T'.setTop g).pushFrame (.throwing x)).vm.noted g.method.cls y.catchType (.cls c6))) (f := g) (a := x) (Q := Q) (E := E) (d := d) (acts := acts) (x := z) (t := rs) (c := ce.cls) (cell := ce) (by rw [covers, z0, z1]; simp [hcov.2.1, hcov.2.2]) (by rw [z3]; exact hct)
        (by show (((T'.setTop g).pushFrame (.throwing x)).vm.noted g.method.cls y.catchType (.cls c6)).ClassLinks _ _ _ _; rw [hvm2, hg, y3, z3]; exact h2) (by show ((T'.setTop g).pushFrame (.throwing x)).heap[x]? = _; rw [Stand.throwing_heap]; exact hce) (fun k h => by rw [hvm] at h; cases h)
        (by show ∃ k, (((T'.setTop g).pushFrame (.throwing x)).vm.noted g.method.cls y.catchType (.cls c6)).classes[_]? = some k; rw [hvm2, hg, y3]; exact ⟨kk, hkk⟩) (by show ∃ k, (((T'.setTop g).pushFrame (.throwing x)).vm.noted g.method.cls y.catchType (.cls c6)).classes[_]? = some k; rw [hvm2, hg, y3]; exact ⟨kk, hkk⟩)
        (by show (((T'.setTop g).pushFrame (.throwing x)).vm.noted g.method.cls y.catchType (.cls c6)).assignable _ _ = true; rw [hvm2, hg, y3, h94.alike.assignable]; exact hasg)
      rw [hgo]
      show Q _ d acts ((((T'.setTop g).pushFrame (.throwing x)).setVm _).setVm ((((T'.setTop g).pushFrame (.throwing x)).vm.noted g.method.cls y.catchType (.cls c6)).noted g.method.cls z.catchType (.cls ce.cls))) ↔ _
      rw [hvm2, hg, y3, z3, z2]
      exact Iff.rfl
end ZL
