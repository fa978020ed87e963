/-! rows for constructors: what is made, and calls of constructors -/
abbrev RC (f c sl lo : Nat) : Room := { frames := f, cells := c, slots := sl, locals := lo }
def CTc (l : Launch) (y : MethodName) (b : ByteArray) (n : Nat) (rm : Room) (D : va_G) (cI cJ : ClassId) (tt : Nat → Nat) (av : List Value) (wc : va_W) (S : Type) (wc' : S → va_W) (sz mc ms : Nat) : Prop :=
  Met l y (WD y b n none) rm (va_Pc av (PCx D cI cJ tt wc sz)) (va_Qv (fun (_ : S) => True) (fun u t => POx D cI cJ (wc' u) (va_A wc sz) t) (va_A wc sz)) mc ms (va_A wc sz)
def OKc (y : MethodName) (b : ByteArray) (n : Nat) (k : Nat) : Prop := Cond.code y b n none ∈ TB ∧ Cond.instanceMethod y ∈ TB ∧ Cond.initialized y.cls ∈ TB ∧ y.name = "<init>" ∧ (y.cls ≠ "java/lang/invoke/MethodHandle" ∧ y.cls ≠ "java/lang/invoke/VarHandle" ∧ (parseMethodDescriptor y.desc).map (fun d => d.parameters.length) = some k)
section ZC
variable {p : Program} {l : Launch} {e : Env} {R : Room} {s : State} {m : MethodId} {args : Array Value} {below : List Frame} {meth : Method} {c : Code} {H : Heap} {locs : List Loc} {cells slots : Nat} {Q : State → Prop}
variable {cc : ByteArray} {pc : Nat} {ls : Array Slot} {rest : List Value} {D : va_G} {cI cJ : ClassId} {tt : Nat → Nat} {A : Nat → Prop} {a : Nat} {ws : va_W} {nL : Nat} {own : String}
variable {st0 : List Value} {wc wr : va_W} {aa : Array Value} {S : Type} {wc' : S → va_W} {mc ms : Nat}
theorem z_newI {n : Int32} {N : Nat} (hexec : p.tables.exec = Jvm.exec) (hb : c.code = cc) (hts : ∀ w ∈ TB, w.before args s = true) (harr : Cond.arrayClass .int ∈ TB) (hK : va_K D classes (tys2 cI cJ) s) (hP : va_P D classes ws H) (hD : va_D A ws) (hS : va_S A s.heap H locs) (hA : ∀ q, s.heap.size ≤ q → A q)
    (hn : ¬ n < 0) (hN : n.toNatClampNeg = N) (hbytes : N * 4 ≤ 536870912) (hcells : cells + 1 ≤ R.cells) (hslots : slots + N ≤ R.slots) (hdg : decode cc pc = .ok (.newarray .int, 2))
    (kk : ∀ (q : Nat) (H1 : Heap), va_P D classes (ws ++ [(q, .inl (cI, N, .inl (fun _ => (0 : Int32))))]) H1 → va_D A (ws ++ [(q, .inl (cI, N, .inl (fun _ => (0 : Int32))))]) → va_S A s.heap H1 locs → W p l e R s m args below meth c H1 locs (cells + 1) (slots + N) Q (F0 m (pc + 2) ls (.ref q :: rest))) : W p l e R s m args below meth c H locs cells slots Q (F0 m pc ls (.int n :: rest)) := by
  refine va_newa (atype := .int) (a0 := (N, .inl (fun _ => (0 : Int32)))) (ty := .int) hexec hb (hts _ harr) rfl hK hP hD hS hA (fun _ => rfl) hn hN hbytes hcells hslots hdg (fun q cA H1 hK1 hP1 hD1 hS1 => ?_)
  have e1 : va_RA s cA .int := (hK1.2 2 (cA, .int) rfl).2
  have e2 : va_RA s cI .int := (hK.2 0 (cI, .int) rfl).2
  have e3 : cA = cI := Option.some.inj (e1.symm.trans e2)
  subst e3
  exact kk q H1 hP1 hD1 hS1
theorem z_newL {n : Int32} {N : Nat} (hexec : p.tables.exec = Jvm.exec) (hb : c.code = cc) (hts : ∀ w ∈ TB, w.before args s = true) (harr : Cond.arrayClass .long ∈ TB) (hK : va_K D classes (tys2 cI cJ) s) (hP : va_P D classes ws H) (hD : va_D A ws) (hS : va_S A s.heap H locs) (hA : ∀ q, s.heap.size ≤ q → A q)
    (hn : ¬ n < 0) (hN : n.toNatClampNeg = N) (hbytes : N * 8 ≤ 536870912) (hcells : cells + 1 ≤ R.cells) (hslots : slots + N ≤ R.slots) (hdg : decode cc pc = .ok (.newarray .long, 2))
    (kk : ∀ (q : Nat) (H1 : Heap), va_P D classes (ws ++ [(q, .inl (cJ, N, .inr (.inl (fun _ => (0 : Int64)))))]) H1 → va_D A (ws ++ [(q, .inl (cJ, N, .inr (.inl (fun _ => (0 : Int64)))))]) → va_S A s.heap H1 locs → W p l e R s m args below meth c H1 locs (cells + 1) (slots + N) Q (F0 m (pc + 2) ls (.ref q :: rest))) : W p l e R s m args below meth c H locs cells slots Q (F0 m pc ls (.int n :: rest)) := by
  refine va_newa (atype := .long) (a0 := (N, .inr (.inl (fun _ => (0 : Int64))))) (ty := .long) hexec hb (hts _ harr) rfl hK hP hD hS hA (fun _ => rfl) hn hN hbytes hcells hslots hdg (fun q cA H1 hK1 hP1 hD1 hS1 => ?_)
  have e1 : va_RA s cA .long := (hK1.2 2 (cA, .long) rfl).2
  have e2 : va_RA s cJ .long := (hK.2 1 (cJ, .long) rfl).2
  have e3 : cA = cJ := Option.some.inj (e1.symm.trans e2)
  subst e3
  exact kk q H1 hP1 hD1 hS1
theorem z_afc (hr : va_Run p l e R s m args below meth c H locs cells slots mc ms (F0 m pc ls st0) rest (va_Qv (fun (_ : S) => True) (fun u t => POx D cI cJ (wc' u) (va_A wc H.size) t) (va_A wc H.size) aa) (va_A wc H.size))
    (hP : va_P D classes ws H) (hD : va_D A ws) (hS : va_S A s.heap H locs) (hA : ∀ q, s.heap.size ≤ q → A q) (isC isR : List Nat) (hC : isC.map (fun i => ws[i]?) = wc.map some) (hR : isR.map (fun i => ws[i]?) = wr.map some) (hn : va_nd isR = true) (hdis : ∀ i ∈ isR, i ∉ isC)
    (kk : ∀ (u : S) (H1 : Heap) (locs1 : List Loc), va_P D classes (wr ++ wc' u) H1 → va_D A (wr ++ wc' u) → va_S A s.heap H1 locs1 → W p l e R s m args below meth c H1 locs1 (cells + mc) (slots + ms) Q (F0 m (pc + 3) ls rest)) : W p l e R s m args below meth c H locs cells slots Q (F0 m pc ls st0) := by
  have hFc := va_free (wc := wc) hD hS hA isC hC
  refine va_callv hr hS (fun q _ h => hFc q h) hFc (fun u t H1 locs1 ht hvm hw hB hz1 hk1 hS1 => ?_)
  obtain ⟨hP1, hK1, hD1⟩ := hB
  rw [ht] at hP1
  obtain ⟨hP2, hD2⟩ := va_join hP hD isC isR hC hR hn hdis hk1 hFc hP1 hD1
  exact kk u H1 locs1 hP2 hD2 hS1
theorem z_cI {y : MethodName} {bytes : ByteArray} {maxL : Nat} {rm : Room} {index k : Nat} {b : Nat} {As : List Value}
    (hM : CTc l y bytes maxL rm D cI cJ tt (.ref b :: As) wc S wc' H.size mc ms) (F : CallFix p m c cc nL s args TB own) (ok : OKc y bytes maxL k) (hl : Cond.methodLink own index y ∈ TB)
    (hK : va_K D classes (tys2 cI cJ) s) (hE : EX tt A s) (hP : va_P D classes ws H) (hD : va_D A ws) (hS : va_S A s.heap H locs) (hA : ∀ q, s.heap.size ≤ q → A q) (isC isR : List Nat) (hC : isC.map (fun i => ws[i]?) = wc.map some) (hR : isR.map (fun i => ws[i]?) = wr.map some) (hnC : va_nd isC = true) (hn : va_nd isR = true) (hdis : ∀ i ∈ isR, i ∉ isC)
    (hrm : rm.cells = mc ∧ rm.slots = ms ∧ rm.frames + 1 ≤ R.frames ∧ 8 + (maxL + 11) + rm.locals ≤ R.locals) (hcs : cells + mc ≤ R.cells ∧ slots + ms ≤ R.slots) (hk : As.length = k) (hsize : ls.size = nL) (hst : st0 = As.reverse ++ .ref b :: rest) (hW : (rest.map fun v => v.category).sum ≤ 8) (hdg : decode cc pc = .ok (.invokespecial index, 3))
    (kk : ∀ (u : S) (H1 : Heap) (locs1 : List Loc), va_P D classes (wr ++ wc' u) H1 → va_D A (wr ++ wc' u) → va_S A s.heap H1 locs1 → W p l e R s m args below meth c H1 locs1 (cells + mc) (slots + ms) Q (F0 m (pc + 3) ls rest)) : W p l e R s m args below meth c H locs cells slots Q (F0 m pc ls st0) := by
  obtain ⟨h1, h2, h3, h4, h5⟩ := ok
  have hts := F.2.2.2.2
  have hpc := z_pre (av := .ref b :: As) hK hE hP hD hS hA isC hnC hC
  exact z_afc (va_runI (As := As) (rest := rest) F hM (cwI k hts (tb_good h1) rfl hrm.1 hrm.2.1 (hts _ h3) (hts _ hl) (hts _ h2) h4 h5 hrm.2.2) ⟨PCx.blind, hpc⟩ rfl hk hsize hst (lv_room hW) hdg hcs) hP hD hS hA isC isR hC hR hn hdis kk
theorem z_cNI {y : MethodName} {bytes : ByteArray} {maxL : Nat} {rm : Room} {host : String} {index k : Nat} {b : Nat} {As : List Value}
    (hM : CTc l y bytes maxL rm D cI cJ tt (.ref b :: As) wc S wc' H.size mc ms) (F : CallFix p m c cc nL s args TB own) (ok : OKc y bytes maxL k) (hl : va_Nw (.methodLinkNest own index y host) s)
    (hK : va_K D classes (tys2 cI cJ) s) (hE : EX tt A s) (hP : va_P D classes ws H) (hD : va_D A ws) (hS : va_S A s.heap H locs) (hA : ∀ q, s.heap.size ≤ q → A q) (isC isR : List Nat) (hC : isC.map (fun i => ws[i]?) = wc.map some) (hR : isR.map (fun i => ws[i]?) = wr.map some) (hnC : va_nd isC = true) (hn : va_nd isR = true) (hdis : ∀ i ∈ isR, i ∉ isC)
    (hrm : rm.cells = mc ∧ rm.slots = ms ∧ rm.frames + 1 ≤ R.frames ∧ 8 + (maxL + 11) + rm.locals ≤ R.locals) (hcs : cells + mc ≤ R.cells ∧ slots + ms ≤ R.slots) (hk : As.length = k) (hsize : ls.size = nL) (hst : st0 = As.reverse ++ .ref b :: rest) (hW : (rest.map fun v => v.category).sum ≤ 8) (hdg : decode cc pc = .ok (.invokespecial index, 3))
    (kk : ∀ (u : S) (H1 : Heap) (locs1 : List Loc), va_P D classes (wr ++ wc' u) H1 → va_D A (wr ++ wc' u) → va_S A s.heap H1 locs1 → W p l e R s m args below meth c H1 locs1 (cells + mc) (slots + ms) Q (F0 m (pc + 3) ls rest)) : W p l e R s m args below meth c H locs cells slots Q (F0 m pc ls st0) := by
  obtain ⟨h1, h2, h3, h4, h5⟩ := ok
  have hts := F.2.2.2.2
  have hpc := z_pre (av := .ref b :: As) hK hE hP hD hS hA isC hnC hC
  exact z_afc (va_runIN (As := As) (rest := rest) F hM ⟨va_cnB k hts (tb_good h1) rfl hrm.1 hrm.2.1 hl (hts _ h3) h5 hrm.2.2, h4, hts _ h2⟩ ⟨PCx.blind, hpc⟩ rfl hk hsize hst (lv_room hW) hdg hcs) hP hD hS hA isC isR hC hR hn hdis kk
theorem z_vretC (u : S) (hr : meth.sig.returnType = none) (hexec : p.tables.exec = Jvm.exec) (hb : c.code = cc) (hlocks : meth.locks = false) (hK : va_K D classes (tys2 cI cJ) s) (hP : va_P D classes (wc' u) H) (hD : va_D A (wc' u)) (hS : va_S A s.heap H locs) (hdg : decode cc pc = .ok (.return_, 1)) :
    W p l e R s m args below meth c H locs cells slots (MQ below (va_Qv (fun (_ : S) => True) (fun u t => POx D cI cJ (wc' u) A t) A) args s cells slots A) (F0 m pc ls []) :=
  W.vret hexec hb hr (fun t ht hW => ⟨⟨u, rfl, trivial, by rw [ht]; exact hP, va_K.moved hW.alike hK, hD⟩, hS.F ht⟩) hS.2.2 hdg hlocks
end ZC
