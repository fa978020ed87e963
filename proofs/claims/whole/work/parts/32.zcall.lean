section ZK
variable {p : Program} {l : Launch} {e : Env} {R : Room} {s : State} {m : MethodId} {args : Array Value} {below : List Frame} {meth : Method} {c : Code} {locs : List Loc} {cells slots : Nat}
theorem y_callT {y : MethodName} {bytes : ByteArray} {maxL : Nat} {ret : Option FieldType} {rm : Room} {Pc : Array Value → State → Prop} {X C own : String} {index k : Nat} {b : Addr} {As rest : List Value} {T : State} {cellB : Cell} {g : JFrame}
    (XX : Stand p l e R s m args below meth c T locs cells slots) (hexec : p.tables.exec = Jvm.exec) (hown : s.vm.findClass own = some m.cls) (hts : ∀ w ∈ TB, w.before args s = true)
    (hM : MetFree l y (headSpec (WD y bytes maxL ret) rm) Pc (fun _ _ _ _ _ => True) (QTx X)) (hblind : FrameBlind Pc) (hl : Cond.methodLink own index y ∈ TB) (ok : OKv y bytes maxL ret C k)
    (hcell : T.heap[b]? = some cellB) (hobj : cellB.vm.isStatics = false) (hcls : s.vm.findClass C = some cellB.cls)
    (hg : g.method = m) (hsize : g.locals.size = c.maxLocals) (hk : As.length = k) (hstack : g.stack = As.reverse ++ .ref b :: rest) (hW : 2 * g.monitorRoom + (rest.map fun v => v.category).sum ≤ 8) (hdg : decode c.code g.pc = .ok (.invokevirtual index, 3))
    (hrm : rm.cells = 1 ∧ rm.slots = 6 ∧ rm.frames + 1 ≤ R.frames ∧ 8 + (maxL + 11) + rm.locals ≤ R.locals) (hcs : cells + 1 ≤ R.cells ∧ slots + 6 ≤ R.slots)
    (hPc : ∀ U : State, U.heap = T.heap → s.WarmedH U.vm → Pc (.ref b :: As).toArray U) :
    ∃ (x : Addr) (ce : Cell) (T' : State), Stand p l e R s m args below meth c T' locs (cells + 1) (slots + 6) ∧ T'.heap[x]? = some ce ∧ s.vm.findClass X = some ce.cls ∧ ce.vm = .none ∧ T.heap.size ≤ x ∧ (∀ q : Nat, q < T.heap.size → T'.heap[q]? = T.heap[q]?) ∧ T.heap.size ≤ T'.heap.size ∧
      ∀ target, Steps p.tables e below ((T'.setTop { g with stack := rest }).pushFrame (.throwing x)) target → Steps p.tables e below (T.setTop g) target := by
  obtain ⟨h1, h2, h3, h4, h5⟩ := ok
  have hws : ∀ w ∈ WD y bytes maxL ret, ∀ (a' : Array Value) (U : State), s.WarmedH U.vm → w.before a' U = true := pay_in hts (tb_good h1)
  obtain ⟨mk, methM, hnamed, hmethM, hstM, habM⟩ := Cond.instanceMethod_spec (hts _ h2)
  obtain ⟨methM', cM, hmethM', -, -, -, -, -, -, hsigM⟩ := Cond.code_spec hnamed (hts _ h1)
  cases hmethM.symm.trans hmethM'
  obtain ⟨c2, r2, m2, q1, q2, q3, q4, kP, hkP, hkPi⟩ := Cond.selects_spec (hts _ h3)
  cases hcls.symm.trans q1
  cases (State.methodFound?_of_named hnamed ⟨h5.1, h5.2.1⟩).symm.trans q2
  cases hnamed.symm.trans q3
  have hselP : selectMethod e.platform s.vm cellB.cls mk = .method mk := by rw [Launch.admits_selectMethod XX.admits]; exact q4
  have hlen : As.length = methM.sig.parameters.length := by
    have h6 := h5.2.2
    rw [hsigM] at h6
    rw [hk]; exact (Option.some.inj h6).symm
  obtain ⟨vm₁, X₁, hstep₁⟩ := XX.invokevirtual hexec hown (hts _ hl) hnamed hmethM hstM hkP hkPi ⟨h5.1, h5.2.1⟩ (a := b) (cell := cellB) hcell
    (fun z h => by rw [h] at hobj; cases hobj) hselP hmethM habM hkP hkPi (g := g) hg (argsL := As) (rest := rest) hlen hstack hdg
  have hn := X₁.named hnamed
  have hcodeU := hws _ List.mem_cons_self (.ref b :: As).toArray (T.setVm vm₁) X₁.warmed
  have hiniU := hws _ (List.mem_cons_of_mem _ h4) (.ref b :: As).toArray (T.setVm vm₁) X₁.warmed
  obtain ⟨methY, cY, hmY, hcY, -, hlY, -, -, -, -⟩ := Cond.code_spec hn hcodeU
  obtain ⟨kY, hkY, -⟩ := className_of_methodNamed hn
  have hinitY : kY.init = .initialized := Cond.initialized_spec (findClass_of_methodNamed hn) hkY hiniU
  have h : At (T.setVm vm₁) ({ g with stack := rest } : JFrame).method c below := by
    show At _ g.method c below
    rw [hg]; exact X₁.here
  have happ : (headSpec (WD y bytes maxL ret) rm).appliesLoose y e.platform ((T.setVm vm₁).calling { g with stack := rest } mk (Value.ref b :: As).toArray) = true :=
    Spec.appliesLoose_calling (g := { g with stack := rest }) h hdg hn hkY hinitY
      (X₁.room_calling (g := { g with stack := rest }) (R' := rm) hsize hmY hcY hrm.2.2.1 (by have h7 := hrm.2.2.2; show 2 * g.monitorRoom + (rest.map fun v => v.category).sum + (cY.maxLocals + 11) + rm.locals ≤ R.locals; rw [hlY]; omega) (by rw [hrm.1]; exact hcs.1) (by rw [hrm.2.1]; exact hcs.2))
      (atoms_intro fun w hw => hws w hw _ _ X₁.warmed)
  obtain ⟨mid, hmid⟩ := h.above
  have hfr : ((T.setVm vm₁).setTop { g with stack := rest }).frames = (.java { g with stack := rest } :: mid) ++ below := by rw [State.frames_setTop' _ h.top, hmid]; rfl
  obtain ⟨o, s₂, hsteps, -, hend, hq⟩ := Steps.callFree hM p X₁.admits X₁.cas X₁.clock (acts := []) hfr happ (hblind _ _ _ _ (hPc (T.setVm vm₁) rfl X₁.warmed)) trivial
  obtain ⟨x, ce, rfl, hce, hcl, hvm, hlt, hW2, hsame⟩ := hq
  rw [State.frames_setTop' _ h.top, X₁.tail] at hend
  obtain ⟨T', X2, hW3, hs3, ht⟩ := X₁.outOfThrown (g := { g with stack := rest }) hg hend hW2 hsame
  rw [List.append_nil] at X2
  have hh : s₂.heap = T'.heap := by rw [ht]; exact Stand.throwing_heap T' _ x
  refine ⟨x, ce, T', X2, by rw [← hh]; exact hce, ?_, hvm, hlt, ?_, ?_, ?_⟩
  · rw [← hcl]
    exact (X₁.warmed.alike.findClass X _).symm
  · intro q hq
    have hc : (T.setVm vm₁).heap[q]? = some T.heap[q] := Array.getElem?_eq_getElem hq
    have h9 := hs3.old_cell hc
    have h10 : T'.heap[q]? = some T.heap[q] := h9
    rw [h10, Array.getElem?_eq_getElem hq]
  · exact hs3.2.1
  · intro target k
    refine hstep₁ _ fun acts => ?_
    rw [doInvoke_state]
    refine hsteps.trans ?_
    rw [ht]; exact k
end ZK
