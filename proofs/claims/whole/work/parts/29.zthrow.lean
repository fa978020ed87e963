/-! rows for what throws. A PURE contract: the heap is as it was. -/
def CPi (l : Launch) (y : MethodName) (b : ByteArray) (n : Nat) (r : Option FieldType) (rm : Room) (D : va_G) (cI cJ : ClassId) (tt : Nat → Nat) (av : List Value) (wc : va_W) (sz : Nat) (v : Int32) : Prop :=
  Met l y (WD y b n r) rm (va_Pc av (PCx D cI cJ tt wc sz)) (fun _ st o t => o = .returned (some (.int v)) ∧ t.heap = st.heap) 0 0 (fun _ => False)
/-- what a method that may throw is given beside its cells -/
def TNm : String := "java/lang/Throwable"
def STd : String := "[Ljava/lang/StackTraceElement;"
def LId : String := "Ljava/util/List;"
def strI (i : Nat) : Nat := [73, 95, 126, 128, 138, 142, 152, 169, 187, 194].getD i 0
def strT (i : Nat) : String := ["there is no such form", "a craft is 0 .. 1023", "what is 0 .. 7", "n is 1 .. 8", "a channel is 0 .. 7", "a frame needs all its data", "n is 1 .. 64", "a limit is 0 .. 8", "what is 0 .. 8", "there is no such block"].getD i ""
def decWs : List Cond := [.declares (Bundle.initS "java/lang/RuntimeException"), .declares (Bundle.initS "java/lang/Exception"), .declares (Bundle.initS TNm), .castable "java/lang/IllegalArgumentException" "java/lang/IllegalArgumentException", .castable "java/lang/IllegalStateException" "java/lang/IllegalStateException", .castable "java/lang/IndexOutOfBoundsException" "java/lang/IndexOutOfBoundsException"]
def EY (sa : Nat → Nat) (A : Nat → Prop) (U : State) : Prop :=
  (va_Zq TNm "UNASSIGNED_STACK" STd A U U.heap ∧ va_Zq TNm "SUPPRESSED_SENTINEL" LId A U U.heap) ∧
  ((Cond.laysStatic TNm "UNASSIGNED_STACK" STd).before #[] U = true ∧ (Cond.laysStatic TNm "SUPPRESSED_SENTINEL" LId).before #[] U = true) ∧
  (∀ w ∈ decWs, va_Nw w U) ∧ ∀ i : Nat, i < 10 → vk_R "DeepChannel" (strI i) (strT i) (sa i) U
theorem dec_warm {s U : State} (hW : s.WarmedH U.vm) (h : ∀ w ∈ decWs, va_Nw w s) : ∀ w ∈ decWs, va_Nw w U := by
  intro w hw
  have h1 := h w hw
  simp only [decWs, List.mem_cons, List.not_mem_nil, or_false] at hw
  rcases hw with rfl | rfl | rfl | rfl | rfl | rfl <;> first | exact va_Nw.warmD hW h1 | exact va_Nw.warmC hW h1
theorem dec_same {u U : State} (hv : u.vm = U.vm) (h : ∀ w ∈ decWs, va_Nw w u) : ∀ w ∈ decWs, va_Nw w U := by
  intro w hw
  have h1 := h w hw
  simp only [decWs, List.mem_cons, List.not_mem_nil, or_false] at hw
  rcases hw with rfl | rfl | rfl | rfl | rfl | rfl <;> exact va_Nw.same rfl hv h1
theorem zq_cell {C n d : String} {A : Nat → Prop} {s : State} (h : va_Zq C n d A s s.heap) : ∃ (cf : ClassId) (kf : Class) (fi : Nat) (f : Field) (a : Nat), s.fieldFound? C n d = some (cf, kf, fi, f) ∧ kf.statics = some a ∧ a < s.heap.size ∧ ¬ A a := by
  rcases h with ⟨cf, kf, fi, f, a, cell, h1, h2, h3, h4, h5, h6, h7, h8⟩ | ⟨t, cf, kf, fi, f, a, cell, h1, h2, h3, h4, h5, h6, h7, h8⟩
  · exact ⟨cf, kf, fi, f, a, h1, h4, (Array.getElem?_eq_some_iff.mp h5).1, h8⟩
  · exact ⟨cf, kf, fi, f, a, h1, h4, (Array.getElem?_eq_some_iff.mp h5).1, h8⟩
theorem ls_call {C n d : String} {A : Nat → Prop} {s U : State} {H : Heap} {locs : List Loc} (hl : (Cond.laysStatic C n d).before #[] s = true) (hZ : va_Zq C n d A s s.heap) (hS : va_S A s.heap H locs) (hU : U.heap = H) (hW : s.WarmedH U.vm) : (Cond.laysStatic C n d).before #[] U = true := by
  obtain ⟨c, k, i, f, a, cell, hc, hi, hst, ha, hcell, hs, hcls, hlt, hty⟩ := Cond.laysStatic_spec hl
  obtain ⟨cf, kf, fi, f', a', h1, h4, h5, h8⟩ := zq_cell hZ
  have e1 := hi.symm.trans h1
  cases e1
  have e2 : a = a' := Option.some.inj (ha.symm.trans h4)
  subst e2
  have hcell2 : (U.setVm s.vm).heap[a]? = some cell := by
    show U.heap[a]? = some cell
    rw [hU, hS.2.1 a h5 h8]; exact hcell
  have h9 : (Cond.laysStatic C n d).before #[] (U.setVm s.vm) = true := Cond.laysStatic_of (s := U.setVm s.vm) hc hi hst ha hcell2 hs hcls hlt hty
  have h10 := Cond.laysStatic_setVm (s := U.setVm s.vm) (vm' := U.vm) hW.alike h9
  exact h10
theorem zq_call {C n d : String} {A B : Nat → Prop} {s U : State} {H : Heap} {locs : List Loc} (h : va_Zq C n d A s s.heap) (hS : va_S A s.heap H locs) (hAB : ∀ q, B q → A q) (hU : U.heap = H) (hW : s.WarmedH U.vm) : va_Zq C n d B U U.heap := by
  rw [hU]
  exact ((h.kept hS.2.1).narrow hAB).moved hW.alike
theorem EY.call {sa : Nat → Nat} {A B : Nat → Prop} {s U : State} {H : Heap} {locs : List Loc} (h : EY sa A s) (hS : va_S A s.heap H locs) (hAB : ∀ q, B q → A q) (hU : U.heap = H) (hW : s.WarmedH U.vm) : EY sa B U :=
  ⟨⟨zq_call h.1.1 hS hAB hU hW, zq_call h.1.2 hS hAB hU hW⟩, ⟨ls_call h.2.1.1 h.1.1 hS hU hW, ls_call h.2.1.2 h.1.2 hS hU hW⟩, dec_warm hW h.2.2.1, fun i hi => vk_R.warm hW (h.2.2.2 i hi)⟩
theorem EY.calling {sa : Nat → Nat} {A : Nat → Prop} {U : State} {g : JFrame} {mk : MethodId} {a : Array Value} (h : EY sa A U) : EY sa A (U.calling g mk a) :=
  ⟨⟨va_Zq.moved (u := U) (U := U.calling g mk a) (Vm.Alike.refl U.vm) h.1.1, va_Zq.moved (u := U) (U := U.calling g mk a) (Vm.Alike.refl U.vm) h.1.2⟩,
   ⟨ls_call (U := U.calling g mk a) h.2.1.1 h.1.1 (va_S.rf (A := A)) rfl (State.WarmedH.refl U), ls_call (U := U.calling g mk a) h.2.1.2 h.1.2 (va_S.rf (A := A)) rfl (State.WarmedH.refl U)⟩,
   dec_same (u := U) (U := U.calling g mk a) rfl h.2.2.1, fun i hi => vk_R.same (u := U) (U := U.calling g mk a) rfl (h.2.2.2 i hi)⟩
def PCy (D : va_G) (cI cJ : ClassId) (tt sa : Nat → Nat) (ws : va_W) (sz : Nat) : State → Prop := fun U => PCx D cI cJ tt ws sz U ∧ EY sa (va_A ws sz) U
theorem PCy.blind {D : va_G} {cI cJ : ClassId} {tt sa : Nat → Nat} {ws : va_W} {sz : Nat} {av : List Value} : FrameBlind (va_Pc av (PCy D cI cJ tt sa ws sz)) := fun a U g mk q => by
  obtain ⟨q0, q1, q2⟩ := q
  obtain ⟨r0, r1⟩ := PCx.blind (D := D) (cI := cI) (cJ := cJ) (tt := tt) (ws := ws) (sz := sz) (av := av) a U g mk ⟨q0, q1⟩
  exact ⟨q0, r1, q2.calling⟩
/-- what is so behind a throw of an X: a new cell of class X, nothing old changed -/
def QTx (X : String) : Array Value → State → Outcome → State → Prop := fun _ st o t =>
  ∃ (x : Addr) (ce : Cell), o = .threw x ∧ t.heap[x]? = some ce ∧ st.vm.findClass X = some ce.cls ∧ ce.vm = .none ∧ st.heap.size ≤ x ∧ st.WarmedH t.vm ∧ st.sameButNew ({ t with vm := st.vm } : State) [] 1 6
def CTt (l : Launch) (y : MethodName) (b : ByteArray) (n : Nat) (r : Option FieldType) (rm : Room) (D : va_G) (cI cJ : ClassId) (tt sa : Nat → Nat) (av : List Value) (wc : va_W) (sz : Nat) (X : String) : Prop :=
  MetFree l y (headSpec (WD y b n r) rm) (va_Pc av (PCy D cI cJ tt sa wc sz)) (fun _ _ _ _ _ => True) (QTx X)
def MQT (below : List Frame) (X : String) (a : Array Value) (s : State) : State → Prop := fun t => ∃ o, t.status = .running ∧ Ended t below o ∧ QTx X a s o t
section ZT
variable {p : Program} {l : Launch} {e : Env} {R : Room} {s : State} {m : MethodId} {args : Array Value} {below : List Frame} {meth : Method} {c : Code} {H : Heap} {locs : List Loc} {cells slots : Nat} {Q : State → Prop}
variable {cc : ByteArray} {pc : Nat} {ls : Array Slot} {rest : List Value} {D : va_G} {cI cJ : ClassId} {tt sa : Nat → Nat} {A : Nat → Prop} {a : Nat} {ws : va_W} {nL : Nat} {own : String}
variable {st0 : List Value} {wc wr : va_W}
theorem z_preti {v : Int32} (hr : meth.sig.returnType = some .int) (hexec : p.tables.exec = Jvm.exec) (hb : c.code = cc) (hlocks : meth.locks = false) (hdg : decode cc pc = .ok (.ireturn, 1)) :
    W p l e R s m args below meth c s.heap [] cells slots (MQ below (fun _ st o t => o = .returned (some (.int v)) ∧ t.heap = st.heap) args s cells slots (fun _ => False)) (F0 m pc ls [.int v]) :=
  W.iret (v := v) hexec hb hr (fun t ht _ => ⟨rfl, ht⟩) (fun q h => absurd h List.not_mem_nil) hdg hlocks
theorem z_pretz {v : Int32} (hn : narrow .boolean (.int v) = .int v) (hr : meth.sig.returnType = some .boolean) (hexec : p.tables.exec = Jvm.exec) (hb : c.code = cc) (hlocks : meth.locks = false) (hdg : decode cc pc = .ok (.ireturn, 1)) :
    W p l e R s m args below meth c s.heap [] cells slots (MQ below (fun _ st o t => o = .returned (some (.int v)) ∧ t.heap = st.heap) args s cells slots (fun _ => False)) (F0 m pc ls [.int v]) :=
  W.zret (v := v) hexec hb hr hn (fun t ht _ => ⟨rfl, ht⟩) (fun q h => absurd h List.not_mem_nil) hdg hlocks
theorem z_paf {v : Int32} (hr : va_Run p l e R s m args below meth c H locs cells slots 0 0 (F0 m pc ls st0) rest (fun st o t => o = .returned (some (.int v)) ∧ t.heap = st.heap) (fun _ => False))
    (kk : W p l e R s m args below meth c H locs cells slots Q (F0 m (pc + 3) ls (.int v :: rest))) : W p l e R s m args below meth c H locs cells slots Q (F0 m pc ls st0) := by
  intro T hT X
  obtain ⟨w, st₀, t, T', L, h0, X', hL, e1, e2, ⟨hv, hh⟩, st⟩ := hr T hT X
  have hL0 : L = [] := by
    cases L with
    | nil => rfl
    | cons a L => exact absurd (hL a List.mem_cons_self) id
  subst hL0
  injection hv with hv
  subst hv
  rw [List.append_nil] at X'
  obtain ⟨t1, a1, b1⟩ := kk T' (by rw [e1, hh, h0]) X'
  exact ⟨t1, st _ a1, b1⟩
theorem z_pcV {y : MethodName} {bytes : ByteArray} {maxL : Nat} {mret : Option FieldType} {rm : Room} {C : String} {index k : Nat} {b : Nat} {As : List Value} {ci : Nat} {fs : List Value} {cq : vw_C} {v : Int32}
    (hM : CPi l y bytes maxL mret rm D cI cJ tt (.ref b :: As) wc H.size v) (F : CallFix p m c cc nL s args TB own) (ok : OKv y bytes maxL mret C k) (hyC : y.cls = C) (hl : Cond.methodLink own index y ∈ TB)
    (hK : va_K D classes (tys2 cI cJ) s) (hE : EX tt A s) (hP : va_P D classes ws H) (hD : va_D A ws) (hS : va_S A s.heap H locs) (hA : ∀ q, s.heap.size ≤ q → A q) (isC : List Nat) (hC : isC.map (fun i => ws[i]?) = wc.map some) (hnC : va_nd isC = true)
    (q0 : Nat) (he : ws[q0]? = some (b, .inr (ci, fs))) (hc : classes[ci]? = some cq) (hcq : cq.1 = C)
    (hrm : rm.cells = 0 ∧ rm.slots = 0 ∧ rm.frames + 1 ≤ R.frames ∧ 8 + (maxL + 11) + rm.locals ≤ R.locals) (hcs : cells ≤ R.cells ∧ slots ≤ R.slots) (hk : As.length = k) (hsize : ls.size = nL) (hst : st0 = As.reverse ++ .ref b :: rest) (hW : (rest.map fun v => v.category).sum ≤ 8) (hdg : decode cc pc = .ok (.invokevirtual index, 3))
    (kk : W p l e R s m args below meth c H locs cells slots Q (F0 m (pc + 3) ls (.int v :: rest))) : W p l e R s m args below meth c H locs cells slots Q (F0 m pc ls st0) := by
  have hpc := z_pre (av := .ref b :: As) hK hE hP hD hS hA isC hnC hC
  obtain ⟨cell, r1, r2, r3⟩ := va_recv hK hP hc he
  exact z_paf (va_runV (As := As) (rest := rest) F hM (z_wV F.2.2.2.2 ok hyC hl hrm.1 hrm.2.1 hrm.2.2) ⟨PCx.blind, ⟨cell, r1, r2, by rw [← hcq]; exact r3⟩, hpc⟩ rfl hk hsize hst (lv_room hW) hdg hcs) kk
theorem z_pcS {y : MethodName} {bytes : ByteArray} {maxL : Nat} {mret : Option FieldType} {rm : Room} {index k : Nat} {As : List Value} {v : Int32}
    (hM : CPi l y bytes maxL mret rm D cI cJ tt As wc H.size v) (F : CallFix p m c cc nL s args TB own) (ok : OKs y bytes maxL mret k) (hl : Cond.methodLink own index y ∈ TB)
    (hK : va_K D classes (tys2 cI cJ) s) (hE : EX tt A s) (hP : va_P D classes ws H) (hD : va_D A ws) (hS : va_S A s.heap H locs) (hA : ∀ q, s.heap.size ≤ q → A q) (isC : List Nat) (hC : isC.map (fun i => ws[i]?) = wc.map some) (hnC : va_nd isC = true)
    (hrm : rm.cells = 0 ∧ rm.slots = 0 ∧ rm.frames + 1 ≤ R.frames ∧ 8 + (maxL + 11) + rm.locals ≤ R.locals) (hcs : cells ≤ R.cells ∧ slots ≤ R.slots) (hk : As.length = k) (hsize : ls.size = nL) (hst : st0 = As.reverse ++ rest) (hW : (rest.map fun v => v.category).sum ≤ 8) (hdg : decode cc pc = .ok (.invokestatic index, 3))
    (kk : W p l e R s m args below meth c H locs cells slots Q (F0 m (pc + 3) ls (.int v :: rest))) : W p l e R s m args below meth c H locs cells slots Q (F0 m pc ls st0) := by
  have hpc := z_pre (av := As) hK hE hP hD hS hA isC hnC hC
  exact z_paf (va_runS (As := As) (rest := rest) F hM (z_wS F.2.2.2.2 ok hl hrm.1 hrm.2.1 hrm.2.2) ⟨PCx.blind, hpc⟩ rfl hk hsize hst (lv_room hW) hdg hcs) kk
end ZT
