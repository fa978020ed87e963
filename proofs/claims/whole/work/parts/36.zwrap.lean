/-! the law's wrappers: methods with an exception table -/
abbrev WW (y : MethodName) (b : ByteArray) (n : Nat) (r : Option FieldType) (hh : List (Nat × Nat × Nat × Nat)) : List Cond := Cond.codeWith y b n r hh :: TB
def PCz (D : va_G) (cI cJ : ClassId) (tt sa : Nat → Nat) (ws : va_W) (sz : Nat) : State → Prop := fun U => PCy D cI cJ tt sa ws sz U ∧ NC "java/lang/IllegalStateException" "java/lang/IllegalArgumentException" U ∧ NC "java/lang/IndexOutOfBoundsException" "java/lang/IllegalArgumentException" U
theorem PCz.blind {D : va_G} {cI cJ : ClassId} {tt sa : Nat → Nat} {ws : va_W} {sz : Nat} {av : List Value} : FrameBlind (va_Pc av (PCz D cI cJ tt sa ws sz)) := fun a U g mk q => by
  obtain ⟨q0, q1, q2, q3⟩ := q
  obtain ⟨r0, r1⟩ := PCy.blind (D := D) (cI := cI) (cJ := cJ) (tt := tt) (sa := sa) (ws := ws) (sz := sz) (av := av) a U g mk ⟨q0, q1⟩
  exact ⟨q0, r1, q2, q3⟩
def CWi (l : Launch) (y : MethodName) (b : ByteArray) (n : Nat) (r : Option FieldType) (hh : List (Nat × Nat × Nat × Nat)) (rm : Room) (D : va_G) (cI cJ : ClassId) (tt sa : Nat → Nat) (av : List Value) (wc wc' : va_W) (sz : Nat) (v : Int32) (mc ms : Nat) : Prop :=
  Met l y (WW y b n r hh) rm (va_Pc av (PCz D cI cJ tt sa wc sz)) (va_Qi (fun (r' : Int32) (_ : Unit) => r' = v) (fun _ t => POx D cI cJ wc' (va_A wc sz) t) (va_A wc sz)) mc ms (va_A wc sz)
theorem y_table {p : Program} {l : Launch} {e : Env} {s : State} {m : MethodId} {args : Array Value} {below : List Frame} {meth : Method} {c : Code} {s₁ : State} {y : MethodName} {S : Spec} {cc : ByteArray} {maxL : Nat} {ret : Option FieldType} {hh : List (Nat × Nat × Nat × Nat)}
    (B : BodyLoose p l y S cc maxL ret e s m args below meth c s₁) (h : (Cond.codeWith y cc maxL ret hh).before args s = true) : c.exceptionTable.toList.map (fun h => (h.startPc, h.endPc, h.handlerPc, h.catchType)) = hh := by
  obtain ⟨m9, meth9, c9, hn9, hm9, hc9, -, -, ht9, -⟩ := Cond.codeWith_spec h
  cases B.named.symm.trans hn9
  cases B.method.symm.trans hm9
  cases (Stand.of_body B).code.symm.trans hc9
  exact ht9
section ZM
variable {p : Program} {l : Launch} {e : Env} {R : Room} {s : State} {m : MethodId} {args : Array Value} {below : List Frame} {meth : Method} {c : Code} {H : Heap} {locs : List Loc} {cells slots : Nat} {Q : State → Prop}
variable {cc : ByteArray} {pc : Nat} {ls : Array Slot} {rest : List Value} {D : va_G} {cI cJ : ClassId} {tt sa : Nat → Nat} {A : Nat → Prop} {a : Nat} {ws : va_W} {nL : Nat} {own : String}
variable {st0 : List Value} {wc wr : va_W}
theorem z_preY {av : List Value} (hK : va_K D classes (tys2 cI cJ) s) (hE : EX tt A s) (hY : EY sa A s) (hP : va_P D classes ws H) (hD : va_D A ws) (hS : va_S A s.heap H locs) (hA : ∀ q, s.heap.size ≤ q → A q) (isC : List Nat) (hnC : va_nd isC = true) (hC : isC.map (fun i => ws[i]?) = wc.map some) :
    ∀ U : State, U.heap = H → s.WarmedH U.vm → va_Pc av (PCy D cI cJ tt sa wc H.size) av.toArray U := fun U hU hW =>
  ⟨rfl, (z_pre (av := av) hK hE hP hD hS hA isC hnC hC U hU hW).2, hY.call hS (va_free (wc := wc) hD hS hA isC hC) hU hW⟩
theorem z_cT {y : MethodName} {bytes : ByteArray} {maxL : Nat} {mret : Option FieldType} {rm : Room} {C X : String} {index k hpc : Nat} {b : Nat} {As : List Value} {ci : Nat} {fs : List Value} {cq : vw_C}
    (hM : CTt l y bytes maxL mret rm D cI cJ tt sa (.ref b :: As) wc H.size X) (F : CallFix p m c cc nL s args TB own) (ok : OKv y bytes maxL mret C k) (hl : Cond.methodLink own index y ∈ TB)
    (hK : va_K D classes (tys2 cI cJ) s) (hE : EX tt A s) (hY : EY sa A s) (hP : va_P D classes ws H) (hD : va_D A ws) (hS : va_S A s.heap H locs) (hA : ∀ q, s.heap.size ≤ q → A q) (isC : List Nat) (hC : isC.map (fun i => ws[i]?) = wc.map some) (hnC : va_nd isC = true)
    (q0 : Nat) (he : ws[q0]? = some (b, .inr (ci, fs))) (hc : classes[ci]? = some cq) (hcq : cq.1 = C)
    (hrm : rm.cells = 1 ∧ rm.slots = 6 ∧ rm.frames + 1 ≤ R.frames ∧ 8 + (maxL + 11) + rm.locals ≤ R.locals) (hcs : cells + 1 ≤ R.cells ∧ slots + 6 ≤ R.slots) (hk : As.length = k) (hsize : ls.size = nL) (hst : st0 = As.reverse ++ .ref b :: rest) (hW : (rest.map fun v => v.category).sum ≤ 8) (hdg : decode cc pc = .ok (.invokevirtual index, 3))
    (hfind : ∀ (T' : State) (x : Addr) (ce : Cell), Stand p l e R s m args below meth c T' locs (cells + 1) (slots + 6) → T'.heap[x]? = some ce → s.vm.findClass X = some ce.cls → ce.vm = .none → ∃ vm', s.WarmedH vm' ∧ FindsW e ((T'.setTop (F0 m pc ls rest)).pushFrame (.throwing x)) (F0 m pc ls rest) x (.found hpc) vm')
    (kk : ∀ (x : Nat) (H1 : Heap), va_P D classes ws H1 → va_S A s.heap H1 locs → W p l e R s m args below meth c H1 locs (cells + 1) (slots + 6) Q (F0 m hpc ls [.ref x])) : W p l e R s m args below meth c H locs cells slots Q (F0 m pc ls st0) := by
  intro T hT XX
  obtain ⟨hx, hb, hml, hown, hts⟩ := F
  obtain ⟨cell, r1, r2, r3⟩ := va_recv hK hP hc he
  have hpy := z_preY (av := .ref b :: As) hK hE hY hP hD hS hA isC hnC hC
  obtain ⟨x, ce, T', X2, hce, hX, hvm, hlt, hold, hszz, st⟩ := y_callT (g := F0 m pc ls st0) (rest := rest) (As := As) (b := b) XX hx hown hts hM PCy.blind hl ok (by rw [hT]; exact r1) r2 (by rw [← hcq]; exact r3) rfl (hsize.trans hml.symm) hk hst (lv_room hW) (by rw [hb]; exact hdg) hrm hcs (fun U hU hW2 => hpy U (hU.trans hT) hW2)
  obtain ⟨vm', hW', hf⟩ := hfind T' x ce X2 hce hX hvm
  rw [hT] at hold hszz
  have hP1 : va_P D classes ws T'.heap := hP.kept (fun k q hq => hold q.1 ((hP k q hq).lt))
  have hS1 : va_S A s.heap T'.heap locs := ⟨Nat.le_trans hS.1 hszz, fun q h1 h2 => (hold q (Nat.lt_of_lt_of_le h1 hS.1)).trans (hS.2.1 q h1 h2), hS.2.2⟩
  obtain ⟨t, a1, b1⟩ := kk x T'.heap hP1 hS1 (T'.setVm vm') rfl (X2.noted hW')
  exact ⟨t, st _ (y_caught (g := F0 m pc ls rest) X2.here hf a1), b1⟩
end ZM
