-- DeepChannel$BitRow.append(I)V
abbrev b_BitRow_append : ByteArray := prog_2_method_4_code
abbrev y_BitRow_append : MethodName := ⟨"DeepChannel$BitRow", "append", "(I)V"⟩
theorem d_BitRow_append_0 : decode b_BitRow_append 0 = .ok (.aload_n 0, 1) := by decide +kernel
theorem d_BitRow_append_1 : decode b_BitRow_append 1 = .ok (.getfield 15, 3) := by decide +kernel
theorem d_BitRow_append_4 : decode b_BitRow_append 4 = .ok (.sipush 4096, 3) := by decide +kernel
theorem d_BitRow_append_7 : decode b_BitRow_append 7 = .ok (.if_icmp .ge 38, 3) := by decide +kernel
theorem d_BitRow_append_10 : decode b_BitRow_append 10 = .ok (.aload_n 0, 1) := by decide +kernel
theorem d_BitRow_append_11 : decode b_BitRow_append 11 = .ok (.getfield 9, 3) := by decide +kernel
theorem d_BitRow_append_14 : decode b_BitRow_append 14 = .ok (.aload_n 0, 1) := by decide +kernel
theorem d_BitRow_append_15 : decode b_BitRow_append 15 = .ok (.getfield 15, 3) := by decide +kernel
theorem d_BitRow_append_18 : decode b_BitRow_append 18 = .ok (.bipush 6, 2) := by decide +kernel
theorem d_BitRow_append_20 : decode b_BitRow_append 20 = .ok (.ishr, 1) := by decide +kernel
theorem d_BitRow_append_21 : decode b_BitRow_append 21 = .ok (.dup2, 1) := by decide +kernel
theorem d_BitRow_append_22 : decode b_BitRow_append 22 = .ok (.laload, 1) := by decide +kernel
theorem d_BitRow_append_23 : decode b_BitRow_append 23 = .ok (.iload_n 1, 1) := by decide +kernel
theorem d_BitRow_append_24 : decode b_BitRow_append 24 = .ok (.i2l, 1) := by decide +kernel
theorem d_BitRow_append_25 : decode b_BitRow_append 25 = .ok (.aload_n 0, 1) := by decide +kernel
theorem d_BitRow_append_26 : decode b_BitRow_append 26 = .ok (.getfield 15, 3) := by decide +kernel
theorem d_BitRow_append_29 : decode b_BitRow_append 29 = .ok (.bipush 63, 2) := by decide +kernel
theorem d_BitRow_append_31 : decode b_BitRow_append 31 = .ok (.iand, 1) := by decide +kernel
theorem d_BitRow_append_32 : decode b_BitRow_append 32 = .ok (.lshl, 1) := by decide +kernel
theorem d_BitRow_append_33 : decode b_BitRow_append 33 = .ok (.lor, 1) := by decide +kernel
theorem d_BitRow_append_34 : decode b_BitRow_append 34 = .ok (.lastore, 1) := by decide +kernel
theorem d_BitRow_append_35 : decode b_BitRow_append 35 = .ok (.aload_n 0, 1) := by decide +kernel
theorem d_BitRow_append_36 : decode b_BitRow_append 36 = .ok (.dup, 1) := by decide +kernel
theorem d_BitRow_append_37 : decode b_BitRow_append 37 = .ok (.getfield 15, 3) := by decide +kernel
theorem d_BitRow_append_40 : decode b_BitRow_append 40 = .ok (.iconst 1, 1) := by decide +kernel
theorem d_BitRow_append_41 : decode b_BitRow_append 41 = .ok (.iadd, 1) := by decide +kernel
theorem d_BitRow_append_42 : decode b_BitRow_append 42 = .ok (.putfield 15, 3) := by decide +kernel
theorem d_BitRow_append_45 : decode b_BitRow_append 45 = .ok (.return_, 1) := by decide +kernel
theorem ok_BitRow_append : OKv y_BitRow_append b_BitRow_append 2 none "DeepChannel$BitRow" 1 := ⟨k_649, k_647, k_648, k_50, by decide +kernel, by decide +kernel, by decide +kernel⟩
abbrev w_BitRow_append (cI cJ : ClassId) (qB qB_cells : Nat) (B_length : Int32) (B_cells : Nat → Int64) : va_W := [(qB, .inr (0, [.ref qB_cells, .int B_length])), (qB_cells, .inl (cJ, 64, .inr (.inl B_cells)))]
def f_BitRow_append (B_length : Int32) (B_cells : Nat → Int64) (x1 : Int32) : Option (Int32 × (Nat → Int64)) :=
  if (4096 : Int32) ≤ B_length then
    some (B_length, B_cells)
  else
  nm (B_length >>> ((6 : Int32) &&& 31)) fun v1 =>
  rdL B_cells 64 v1 fun v2 =>
  wrL B_cells 64 v1 (v2 ||| (x1.toInt64 <<< ((B_length &&& (63 : Int32)).toInt64 &&& 63))) fun g3 =>
  nm (B_length + (1 : Int32)) fun v4 =>
  some (v4, g3)
set_option maxHeartbeats 4000000 in
set_option maxRecDepth 100000 in
theorem c_BitRow_append (l : Launch) (D : va_G) (cI cJ : ClassId) (tt : Nat → Nat) (qB qB_cells : Nat) (sz : Nat) (B_length : Int32) (B_cells : Nat → Int64) (x1 : Int32) (B_length' : Int32) (B_cells' : Nat → Int64) (hm : f_BitRow_append B_length B_cells x1 = some (B_length', B_cells')) : CTv l y_BitRow_append b_BitRow_append 2 none (RM 0 0) D cI cJ tt [.ref qB, .int x1] (w_BitRow_append cI cJ qB qB_cells B_length B_cells) (w_BitRow_append cI cJ qB qB_cells B_length' B_cells') sz := by
  refine Met.ofW (cc := b_BitRow_append) (maxL := 2) (ret := none) (by decide) rfl ?_
  intro p e s m args below meth c s₁ B hml hv
  obtain ⟨hargs, hsz, hP, hK, hD0, hE⟩ := hv
  have hx := B.exec
  have hb := B.bytes
  have hr := B.returns
  have hts : ∀ w ∈ TB, w.before args s = true := z_mV s (atoms_spec (ws := WD y_BitRow_append b_BitRow_append 2 none) B.pre)
  have hown : s.vm.findClass "DeepChannel$BitRow" = some m.cls := findClass_of_methodNamed B.named
  have hlocks := B.notSynchronized
  subst hsz
  have hD := hD0.self (sz := s.heap.size)
  generalize hAe : va_A (w_BitRow_append cI cJ qB qB_cells B_length B_cells) s.heap.size = A at hD hE ⊢
  have hA : ∀ q : Nat, s.heap.size ≤ q → A q := fun q h => by rw [← hAe]; exact Or.inr h
  have hS : va_S A s.heap s.heap [] := va_S.rf
  refine z_entry (vs := [.ref qB, .int x1]) hargs (Nat.le_of_ble_eq_true rfl) (fun ls hl => ?_)
  have hl : lv_has ls 2 [(0, .ref qB), (1, .int x1)] := hl
  show W p l e (RM 0 0) s m args below meth c s.heap [] 0 0 _ _
  refine z_qi (fun Q0 hQ => ?_)
  have F : CallFix p m c b_BitRow_append 2 s args TB "DeepChannel$BitRow" := ⟨hx, hb, hml, hown, hts⟩
  unfold f_BitRow_append at hm
  refine lv_aload_n hx hb d_BitRow_append_0 rfl (lv_at hl 0 rfl) ?_
  refine va_get (D := D) (ci := 0) (v := .int B_length) (C := "DeepChannel$BitRow") (T := fT_BitRow) (N := 2) hx hb hts u_BitRow hown hK hP 0 rfl rfl 1 (by decide) (hts _ k_213) (fun _ h9 => h9) rfl d_BitRow_append_1 ?_
  refine lv_sipush (v := (4096 : Int32)) hx hb d_BitRow_append_4 (by decide) ?_
  refine z_if hm (lv_icmp_ge (tgt := 45) hx hb d_BitRow_append_7 (by decide)) (fun hm => ?_) (fun hm => ?_)
  · cases hm
    exact z_qo hQ (z_vret hr hx hb hlocks hK hP hD hS d_BitRow_append_45)
  · refine lv_aload_n hx hb d_BitRow_append_10 rfl (lv_at hl 0 rfl) ?_
    refine va_get (D := D) (ci := 0) (v := .ref qB_cells) (C := "DeepChannel$BitRow") (T := fT_BitRow) (N := 2) hx hb hts u_BitRow hown hK hP 0 rfl rfl 0 (by decide) (hts _ k_212) (fun _ h9 => h9) rfl d_BitRow_append_11 ?_
    refine lv_aload_n hx hb d_BitRow_append_14 rfl (lv_at hl 0 rfl) ?_
    refine va_get (D := D) (ci := 0) (v := .int B_length) (C := "DeepChannel$BitRow") (T := fT_BitRow) (N := 2) hx hb hts u_BitRow hown hK hP 0 rfl rfl 1 (by decide) (hts _ k_213) (fun _ h9 => h9) rfl d_BitRow_append_15 ?_
    refine lv_bipush (v := (6 : Int32)) hx hb d_BitRow_append_18 (by decide) ?_
    refine lv_ishr hx hb d_BitRow_append_20 ?_
    refine z_nmi hm (fun v1 hm => ?_)
    refine lv_dup2_11 hx hb d_BitRow_append_21 rfl rfl ?_
    refine z_lald hm hx hb hK hP 1 rfl d_BitRow_append_22 (fun v2 hm => ?_)
    refine lv_iload_n hx hb d_BitRow_append_23 rfl (lv_at hl 1 rfl) ?_
    refine lv_i2l (v := x1.toInt64) hx hb d_BitRow_append_24 rfl ?_
    refine lv_aload_n hx hb d_BitRow_append_25 rfl (lv_at hl 0 rfl) ?_
    refine va_get (D := D) (ci := 0) (v := .int B_length) (C := "DeepChannel$BitRow") (T := fT_BitRow) (N := 2) hx hb hts u_BitRow hown hK hP 0 rfl rfl 1 (by decide) (hts _ k_213) (fun _ h9 => h9) rfl d_BitRow_append_26 ?_
    refine lv_bipush (v := (63 : Int32)) hx hb d_BitRow_append_29 (by decide) ?_
    refine lv_iand hx hb d_BitRow_append_31 ?_
    refine lv_lshl (v := (x1.toInt64 <<< ((B_length &&& (63 : Int32)).toInt64 &&& 63))) hx hb d_BitRow_append_32 rfl ?_
    refine lv_lor hx hb d_BitRow_append_33 ?_
    refine z_last hm hx hb hK hP hD hS 1 rfl d_BitRow_append_34 (fun g3 hm H locs hP hD hS => ?_)
    have hP : va_P D classes (w_BitRow_append cI cJ qB qB_cells B_length g3) H := hP
    have hD : va_D A (w_BitRow_append cI cJ qB qB_cells B_length g3) := hD
    refine lv_aload_n hx hb d_BitRow_append_35 rfl (lv_at hl 0 rfl) ?_
    refine lv_dup hx hb d_BitRow_append_36 rfl ?_
    refine va_get (D := D) (ci := 0) (v := .int B_length) (C := "DeepChannel$BitRow") (T := fT_BitRow) (N := 2) hx hb hts u_BitRow hown hK hP 0 rfl rfl 1 (by decide) (hts _ k_213) (fun _ h9 => h9) rfl d_BitRow_append_37 ?_
    refine lv_iconst (v := (1 : Int32)) hx hb d_BitRow_append_40 (by decide) ?_
    refine lv_iadd hx hb d_BitRow_append_41 ?_
    refine z_nmi hm (fun v4 hm => ?_)
    refine va_put (D := D) (ci := 0) (v := .int v4) (ty := .int) (C := "DeepChannel$BitRow") (T := fT_BitRow) (N := 2) hx hb hts u_BitRow fY_BitRow fK_BitRow fN_BitRow hown hK hP hD hS 0 rfl rfl 1 (by decide) (hts _ k_213) (fun _ h9 => h9) rfl (by decide +kernel) rfl rfl (Nat.le_of_ble_eq_true rfl) d_BitRow_append_42 (fun H locs hP hD hS => ?_)
    have hP : va_P D classes (w_BitRow_append cI cJ qB qB_cells v4 g3) H := hP
    have hD : va_D A (w_BitRow_append cI cJ qB qB_cells v4 g3) := hD
    cases hm
    exact z_qo hQ (z_vret hr hx hb hlocks hK hP hD hS d_BitRow_append_45)
-- DeepChannel$BitRow.cellAt(I)J
abbrev b_BitRow_cellAt : ByteArray := prog_2_method_5_code
abbrev y_BitRow_cellAt : MethodName := ⟨"DeepChannel$BitRow", "cellAt", "(I)J"⟩
theorem d_BitRow_cellAt_0 : decode b_BitRow_cellAt 0 = .ok (.iload_n 1, 1) := by decide +kernel
theorem d_BitRow_cellAt_1 : decode b_BitRow_cellAt 1 = .ok (.ifCond .lt 21, 3) := by decide +kernel
theorem d_BitRow_cellAt_4 : decode b_BitRow_cellAt 4 = .ok (.iload_n 1, 1) := by decide +kernel
theorem d_BitRow_cellAt_5 : decode b_BitRow_cellAt 5 = .ok (.aload_n 0, 1) := by decide +kernel
theorem d_BitRow_cellAt_6 : decode b_BitRow_cellAt 6 = .ok (.getfield 9, 3) := by decide +kernel
theorem d_BitRow_cellAt_9 : decode b_BitRow_cellAt 9 = .ok (.arraylength, 1) := by decide +kernel
theorem d_BitRow_cellAt_10 : decode b_BitRow_cellAt 10 = .ok (.if_icmp .ge 12, 3) := by decide +kernel
theorem d_BitRow_cellAt_13 : decode b_BitRow_cellAt 13 = .ok (.aload_n 0, 1) := by decide +kernel
theorem d_BitRow_cellAt_14 : decode b_BitRow_cellAt 14 = .ok (.getfield 9, 3) := by decide +kernel
theorem d_BitRow_cellAt_17 : decode b_BitRow_cellAt 17 = .ok (.iload_n 1, 1) := by decide +kernel
theorem d_BitRow_cellAt_18 : decode b_BitRow_cellAt 18 = .ok (.laload, 1) := by decide +kernel
theorem d_BitRow_cellAt_19 : decode b_BitRow_cellAt 19 = .ok (.goto 4, 3) := by decide +kernel
theorem d_BitRow_cellAt_22 : decode b_BitRow_cellAt 22 = .ok (.lconst 0, 1) := by decide +kernel
theorem d_BitRow_cellAt_23 : decode b_BitRow_cellAt 23 = .ok (.lreturn, 1) := by decide +kernel
theorem ok_BitRow_cellAt : OKv y_BitRow_cellAt b_BitRow_cellAt 2 (some .long) "DeepChannel$BitRow" 1 := ⟨k_383, k_382, k_0, k_50, by decide +kernel, by decide +kernel, by decide +kernel⟩
abbrev w_BitRow_cellAt (cI cJ : ClassId) (qB qB_cells : Nat) (B_length : Value) (B_cells : Nat → Int64) : va_W := [(qB, .inr (0, [.ref qB_cells, B_length])), (qB_cells, .inl (cJ, 64, .inr (.inl B_cells)))]
def f_BitRow_cellAt (B_cells : Nat → Int64) (x1 : Int32) : Option (Int64) :=
  if x1 < 0 then
    some (0 : Int64)
  else
  if (64 : Int32) ≤ x1 then
    some (0 : Int64)
  else
  rdL B_cells 64 x1 fun v1 =>
  some v1
set_option maxHeartbeats 4000000 in
set_option maxRecDepth 100000 in
theorem c_BitRow_cellAt (l : Launch) (D : va_G) (cI cJ : ClassId) (tt : Nat → Nat) (qB qB_cells : Nat) (B_length : Value) (sz : Nat) (B_cells : Nat → Int64) (x1 : Int32) (rr : Int64) (hm : f_BitRow_cellAt B_cells x1 = some rr) : CTl l y_BitRow_cellAt b_BitRow_cellAt 2 (some .long) (RM 0 0) D cI cJ tt [.ref qB, .int x1] (w_BitRow_cellAt cI cJ qB qB_cells B_length B_cells) (w_BitRow_cellAt cI cJ qB qB_cells B_length B_cells) sz rr := by
  refine Met.ofW (cc := b_BitRow_cellAt) (maxL := 2) (ret := (some .long)) (by decide) rfl ?_
  intro p e s m args below meth c s₁ B hml hv
  obtain ⟨hargs, hsz, hP, hK, hD0, hE⟩ := hv
  have hx := B.exec
  have hb := B.bytes
  have hr := B.returns
  have hts : ∀ w ∈ TB, w.before args s = true := z_mV s (atoms_spec (ws := WD y_BitRow_cellAt b_BitRow_cellAt 2 (some .long)) B.pre)
  have hown : s.vm.findClass "DeepChannel$BitRow" = some m.cls := findClass_of_methodNamed B.named
  have hlocks := B.notSynchronized
  subst hsz
  have hD := hD0.self (sz := s.heap.size)
  generalize hAe : va_A (w_BitRow_cellAt cI cJ qB qB_cells B_length B_cells) s.heap.size = A at hD hE ⊢
  have hA : ∀ q : Nat, s.heap.size ≤ q → A q := fun q h => by rw [← hAe]; exact Or.inr h
  have hS : va_S A s.heap s.heap [] := va_S.rf
  refine z_entry (vs := [.ref qB, .int x1]) hargs (Nat.le_of_ble_eq_true rfl) (fun ls hl => ?_)
  have hl : lv_has ls 2 [(0, .ref qB), (1, .int x1)] := hl
  show W p l e (RM 0 0) s m args below meth c s.heap [] 0 0 _ _
  refine z_qi (fun Q0 hQ => ?_)
  have F : CallFix p m c b_BitRow_cellAt 2 s args TB "DeepChannel$BitRow" := ⟨hx, hb, hml, hown, hts⟩
  unfold f_BitRow_cellAt at hm
  refine lv_iload_n hx hb d_BitRow_cellAt_0 rfl (lv_at hl 1 rfl) ?_
  refine z_if hm (lv_if_lt (tgt := 22) hx hb d_BitRow_cellAt_1 (by decide)) (fun hm => ?_) (fun hm => ?_)
  · refine lv_lconst (v := (0 : Int64)) hx hb d_BitRow_cellAt_22 (by decide) ?_
    cases hm
    exact z_qo hQ (z_lret hr hx hb hlocks hK hP hD hS d_BitRow_cellAt_23)
  · refine lv_iload_n hx hb d_BitRow_cellAt_4 rfl (lv_at hl 1 rfl) ?_
    refine lv_aload_n hx hb d_BitRow_cellAt_5 rfl (lv_at hl 0 rfl) ?_
    refine va_get (D := D) (ci := 0) (v := .ref qB_cells) (C := "DeepChannel$BitRow") (T := fT_BitRow) (N := 2) hx hb hts u_BitRow hown hK hP 0 rfl rfl 0 (by decide) (hts _ k_212) (fun _ h9 => h9) rfl d_BitRow_cellAt_6 ?_
    refine va_alen (v := (64 : Int32)) hx hb hK hP 1 1 rfl rfl rfl d_BitRow_cellAt_9 ?_
    refine z_if hm (lv_icmp_ge (tgt := 22) hx hb d_BitRow_cellAt_10 (by decide)) (fun hm => ?_) (fun hm => ?_)
    · refine lv_lconst (v := (0 : Int64)) hx hb d_BitRow_cellAt_22 (by decide) ?_
      cases hm
      exact z_qo hQ (z_lret hr hx hb hlocks hK hP hD hS d_BitRow_cellAt_23)
    · refine lv_aload_n hx hb d_BitRow_cellAt_13 rfl (lv_at hl 0 rfl) ?_
      refine va_get (D := D) (ci := 0) (v := .ref qB_cells) (C := "DeepChannel$BitRow") (T := fT_BitRow) (N := 2) hx hb hts u_BitRow hown hK hP 0 rfl rfl 0 (by decide) (hts _ k_212) (fun _ h9 => h9) rfl d_BitRow_cellAt_14 ?_
      refine lv_iload_n hx hb d_BitRow_cellAt_17 rfl (lv_at hl 1 rfl) ?_
      refine z_lald hm hx hb hK hP 1 rfl d_BitRow_cellAt_18 (fun v1 hm => ?_)
      refine lv_goto (tgt := 23) hx hb d_BitRow_cellAt_19 (by decide) ?_
      cases hm
      exact z_qo hQ (z_lret hr hx hb hlocks hK hP hD hS d_BitRow_cellAt_23)
-- DeepChannel$BitRow.bitAt(I)I
abbrev b_BitRow_bitAt : ByteArray := prog_2_method_6_code
abbrev y_BitRow_bitAt : MethodName := ⟨"DeepChannel$BitRow", "bitAt", "(I)I"⟩
theorem d_BitRow_bitAt_0 : decode b_BitRow_bitAt 0 = .ok (.aload_n 0, 1) := by decide +kernel
theorem d_BitRow_bitAt_1 : decode b_BitRow_bitAt 1 = .ok (.iload_n 1, 1) := by decide +kernel
theorem d_BitRow_bitAt_2 : decode b_BitRow_bitAt 2 = .ok (.bipush 6, 2) := by decide +kernel
theorem d_BitRow_bitAt_4 : decode b_BitRow_bitAt 4 = .ok (.ishr, 1) := by decide +kernel
theorem d_BitRow_bitAt_5 : decode b_BitRow_bitAt 5 = .ok (.invokevirtual 25, 3) := by decide +kernel
theorem d_BitRow_bitAt_8 : decode b_BitRow_bitAt 8 = .ok (.iload_n 1, 1) := by decide +kernel
theorem d_BitRow_bitAt_9 : decode b_BitRow_bitAt 9 = .ok (.bipush 63, 2) := by decide +kernel
theorem d_BitRow_bitAt_11 : decode b_BitRow_bitAt 11 = .ok (.iand, 1) := by decide +kernel
theorem d_BitRow_bitAt_12 : decode b_BitRow_bitAt 12 = .ok (.lushr, 1) := by decide +kernel
theorem d_BitRow_bitAt_13 : decode b_BitRow_bitAt 13 = .ok (.l2i, 1) := by decide +kernel
theorem d_BitRow_bitAt_14 : decode b_BitRow_bitAt 14 = .ok (.iconst 1, 1) := by decide +kernel
theorem d_BitRow_bitAt_15 : decode b_BitRow_bitAt 15 = .ok (.iand, 1) := by decide +kernel
theorem d_BitRow_bitAt_16 : decode b_BitRow_bitAt 16 = .ok (.ireturn, 1) := by decide +kernel
theorem ok_BitRow_bitAt : OKv y_BitRow_bitAt b_BitRow_bitAt 2 (some .int) "DeepChannel$BitRow" 1 := ⟨k_707, k_705, k_706, k_50, by decide +kernel, by decide +kernel, by decide +kernel⟩
abbrev w_BitRow_bitAt (cI cJ : ClassId) (qB qB_cells : Nat) (B_length : Value) (B_cells : Nat → Int64) : va_W := [(qB, .inr (0, [.ref qB_cells, B_length])), (qB_cells, .inl (cJ, 64, .inr (.inl B_cells)))]
def f_BitRow_bitAt (B_cells : Nat → Int64) (x1 : Int32) : Option (Int32) :=
  bd (f_BitRow_cellAt B_cells (x1 >>> ((6 : Int32) &&& 31))) fun u2 =>
  nm u2 fun r1 =>
  some (((r1.toUInt64 >>> ((x1 &&& (63 : Int32)).toInt64.toUInt64 &&& Int64.toUInt64 63)).toInt64).toInt32 &&& (1 : Int32))
set_option maxHeartbeats 4000000 in
set_option maxRecDepth 100000 in
theorem c_BitRow_bitAt (l : Launch) (D : va_G) (cI cJ : ClassId) (tt : Nat → Nat) (qB qB_cells : Nat) (B_length : Value) (sz : Nat) (B_cells : Nat → Int64) (x1 : Int32) (rr : Int32) (hm : f_BitRow_bitAt B_cells x1 = some rr) : CTi l y_BitRow_bitAt b_BitRow_bitAt 2 (some .int) (RM 1 21) D cI cJ tt [.ref qB, .int x1] (w_BitRow_bitAt cI cJ qB qB_cells B_length B_cells) (w_BitRow_bitAt cI cJ qB qB_cells B_length B_cells) sz rr := by
  refine Met.ofW (cc := b_BitRow_bitAt) (maxL := 2) (ret := (some .int)) (by decide) rfl ?_
  intro p e s m args below meth c s₁ B hml hv
  obtain ⟨hargs, hsz, hP, hK, hD0, hE⟩ := hv
  have hx := B.exec
  have hb := B.bytes
  have hr := B.returns
  have hts : ∀ w ∈ TB, w.before args s = true := z_mV s (atoms_spec (ws := WD y_BitRow_bitAt b_BitRow_bitAt 2 (some .int)) B.pre)
  have hown : s.vm.findClass "DeepChannel$BitRow" = some m.cls := findClass_of_methodNamed B.named
  have hlocks := B.notSynchronized
  subst hsz
  have hD := hD0.self (sz := s.heap.size)
  generalize hAe : va_A (w_BitRow_bitAt cI cJ qB qB_cells B_length B_cells) s.heap.size = A at hD hE ⊢
  have hA : ∀ q : Nat, s.heap.size ≤ q → A q := fun q h => by rw [← hAe]; exact Or.inr h
  have hS : va_S A s.heap s.heap [] := va_S.rf
  refine z_entry (vs := [.ref qB, .int x1]) hargs (Nat.le_of_ble_eq_true rfl) (fun ls hl => ?_)
  have hl : lv_has ls 2 [(0, .ref qB), (1, .int x1)] := hl
  show W p l e (RM 1 21) s m args below meth c s.heap [] 0 0 _ _
  refine z_qi (fun Q0 hQ => ?_)
  have F : CallFix p m c b_BitRow_bitAt 2 s args TB "DeepChannel$BitRow" := ⟨hx, hb, hml, hown, hts⟩
  unfold f_BitRow_bitAt at hm
  refine lv_aload_n hx hb d_BitRow_bitAt_0 rfl (lv_at hl 0 rfl) ?_
  refine lv_iload_n hx hb d_BitRow_bitAt_1 rfl (lv_at hl 1 rfl) ?_
  refine lv_bipush (v := (6 : Int32)) hx hb d_BitRow_bitAt_2 (by decide) ?_
  refine lv_ishr hx hb d_BitRow_bitAt_4 ?_
  obtain ⟨r1, hu, hm⟩ := bd_el hm
  replace hm := nm_1 hm
  refine z_cVl (wc := w_BitRow_cellAt cI cJ qB qB_cells B_length B_cells) (wc' := w_BitRow_cellAt cI cJ qB qB_cells B_length B_cells) (wr := []) (As := [.int (x1 >>> ((6 : Int32) &&& 31))]) (rest := []) (c_BitRow_cellAt l D cI cJ tt qB qB_cells B_length _ B_cells (x1 >>> ((6 : Int32) &&& 31)) r1 hu) F ok_BitRow_cellAt rfl k_380 hK hE hP hD hS hA [0, 1] [] rfl rfl (by decide) (by decide) (by decide) 0 rfl rfl rfl ⟨rfl, rfl, Nat.le_of_ble_eq_true rfl, Nat.le_of_ble_eq_true rfl⟩ ⟨Nat.zero_le _, Nat.zero_le _⟩ rfl hl.1 rfl (Nat.le_of_ble_eq_true rfl) d_BitRow_bitAt_5 (fun H locs hP hD hS => ?_)
  have hP : va_P D classes (w_BitRow_bitAt cI cJ qB qB_cells B_length B_cells) H := hP.sub [0, 1] rfl
  have hD : va_D A (w_BitRow_bitAt cI cJ qB qB_cells B_length B_cells) := hD.sub [0, 1] (by decide) rfl
  refine lv_iload_n hx hb d_BitRow_bitAt_8 rfl (lv_at hl 1 rfl) ?_
  refine lv_bipush (v := (63 : Int32)) hx hb d_BitRow_bitAt_9 (by decide) ?_
  refine lv_iand hx hb d_BitRow_bitAt_11 ?_
  refine lv_lushr (v := ((r1.toUInt64 >>> ((x1 &&& (63 : Int32)).toInt64.toUInt64 &&& Int64.toUInt64 63)).toInt64)) hx hb d_BitRow_bitAt_12 rfl ?_
  refine lv_l2i (v := ((r1.toUInt64 >>> ((x1 &&& (63 : Int32)).toInt64.toUInt64 &&& Int64.toUInt64 63)).toInt64).toInt32) hx hb d_BitRow_bitAt_13 rfl ?_
  refine lv_iconst (v := (1 : Int32)) hx hb d_BitRow_bitAt_14 (by decide) ?_
  refine lv_iand hx hb d_BitRow_bitAt_15 ?_
  cases hm
  exact z_qo hQ (z_ireti hr hx hb hlocks hK hP hD hS d_BitRow_bitAt_16)
-- DeepChannel$BitRow.window(I)J
abbrev b_BitRow_window : ByteArray := prog_2_method_7_code
abbrev y_BitRow_window : MethodName := ⟨"DeepChannel$BitRow", "window", "(I)J"⟩
theorem d_BitRow_window_0 : decode b_BitRow_window 0 = .ok (.iload_n 1, 1) := by decide +kernel
theorem d_BitRow_window_1 : decode b_BitRow_window 1 = .ok (.bipush 6, 2) := by decide +kernel
theorem d_BitRow_window_3 : decode b_BitRow_window 3 = .ok (.ishr, 1) := by decide +kernel
theorem d_BitRow_window_4 : decode b_BitRow_window 4 = .ok (.istore_n 2, 1) := by decide +kernel
theorem d_BitRow_window_5 : decode b_BitRow_window 5 = .ok (.iload_n 1, 1) := by decide +kernel
theorem d_BitRow_window_6 : decode b_BitRow_window 6 = .ok (.bipush 63, 2) := by decide +kernel
theorem d_BitRow_window_8 : decode b_BitRow_window 8 = .ok (.iand, 1) := by decide +kernel
theorem d_BitRow_window_9 : decode b_BitRow_window 9 = .ok (.istore_n 3, 1) := by decide +kernel
theorem d_BitRow_window_10 : decode b_BitRow_window 10 = .ok (.aload_n 0, 1) := by decide +kernel
theorem d_BitRow_window_11 : decode b_BitRow_window 11 = .ok (.iload_n 2, 1) := by decide +kernel
theorem d_BitRow_window_12 : decode b_BitRow_window 12 = .ok (.invokevirtual 25, 3) := by decide +kernel
theorem d_BitRow_window_15 : decode b_BitRow_window 15 = .ok (.iload_n 3, 1) := by decide +kernel
theorem d_BitRow_window_16 : decode b_BitRow_window 16 = .ok (.lushr, 1) := by decide +kernel
theorem d_BitRow_window_17 : decode b_BitRow_window 17 = .ok (.lstore 4, 2) := by decide +kernel
theorem d_BitRow_window_19 : decode b_BitRow_window 19 = .ok (.iload_n 3, 1) := by decide +kernel
theorem d_BitRow_window_20 : decode b_BitRow_window 20 = .ok (.ifCond .ne 8, 3) := by decide +kernel
theorem d_BitRow_window_23 : decode b_BitRow_window 23 = .ok (.lload 4, 2) := by decide +kernel
theorem d_BitRow_window_25 : decode b_BitRow_window 25 = .ok (.goto 18, 3) := by decide +kernel
theorem d_BitRow_window_28 : decode b_BitRow_window 28 = .ok (.lload 4, 2) := by decide +kernel
theorem d_BitRow_window_30 : decode b_BitRow_window 30 = .ok (.aload_n 0, 1) := by decide +kernel
theorem d_BitRow_window_31 : decode b_BitRow_window 31 = .ok (.iload_n 2, 1) := by decide +kernel
theorem d_BitRow_window_32 : decode b_BitRow_window 32 = .ok (.iconst 1, 1) := by decide +kernel
theorem d_BitRow_window_33 : decode b_BitRow_window 33 = .ok (.iadd, 1) := by decide +kernel
theorem d_BitRow_window_34 : decode b_BitRow_window 34 = .ok (.invokevirtual 25, 3) := by decide +kernel
theorem d_BitRow_window_37 : decode b_BitRow_window 37 = .ok (.bipush 64, 2) := by decide +kernel
theorem d_BitRow_window_39 : decode b_BitRow_window 39 = .ok (.iload_n 3, 1) := by decide +kernel
theorem d_BitRow_window_40 : decode b_BitRow_window 40 = .ok (.isub, 1) := by decide +kernel
theorem d_BitRow_window_41 : decode b_BitRow_window 41 = .ok (.lshl, 1) := by decide +kernel
theorem d_BitRow_window_42 : decode b_BitRow_window 42 = .ok (.lor, 1) := by decide +kernel
theorem d_BitRow_window_43 : decode b_BitRow_window 43 = .ok (.lreturn, 1) := by decide +kernel
theorem ok_BitRow_window : OKv y_BitRow_window b_BitRow_window 6 (some .long) "DeepChannel$BitRow" 1 := ⟨k_379, k_377, k_378, k_50, by decide +kernel, by decide +kernel, by decide +kernel⟩
abbrev w_BitRow_window (cI cJ : ClassId) (qB qB_cells : Nat) (B_length : Value) (B_cells : Nat → Int64) : va_W := [(qB, .inr (0, [.ref qB_cells, B_length])), (qB_cells, .inl (cJ, 64, .inr (.inl B_cells)))]
def f_BitRow_window (B_cells : Nat → Int64) (x1 : Int32) : Option (Int64) :=
  nm (x1 >>> ((6 : Int32) &&& 31)) fun v1 =>
  nm (x1 &&& (63 : Int32)) fun v2 =>
  bd (f_BitRow_cellAt B_cells v1) fun u4 =>
  nm u4 fun r3 =>
  nm ((r3.toUInt64 >>> (v2.toInt64.toUInt64 &&& Int64.toUInt64 63)).toInt64) fun v5 =>
  if v2 = 0 then
    some v5
  else
  bd (f_BitRow_cellAt B_cells (v1 + (1 : Int32))) fun u7 =>
  nm u7 fun r6 =>
  some (v5 ||| (r6 <<< (((64 : Int32) - v2).toInt64 &&& 63)))
set_option maxHeartbeats 4000000 in
set_option maxRecDepth 100000 in
theorem c_BitRow_window (l : Launch) (D : va_G) (cI cJ : ClassId) (tt : Nat → Nat) (qB qB_cells : Nat) (B_length : Value) (sz : Nat) (B_cells : Nat → Int64) (x1 : Int32) (rr : Int64) (hm : f_BitRow_window B_cells x1 = some rr) : CTl l y_BitRow_window b_BitRow_window 6 (some .long) (RM 1 21) D cI cJ tt [.ref qB, .int x1] (w_BitRow_window cI cJ qB qB_cells B_length B_cells) (w_BitRow_window cI cJ qB qB_cells B_length B_cells) sz rr := by
  refine Met.ofW (cc := b_BitRow_window) (maxL := 6) (ret := (some .long)) (by decide) rfl ?_
  intro p e s m args below meth c s₁ B hml hv
  obtain ⟨hargs, hsz, hP, hK, hD0, hE⟩ := hv
  have hx := B.exec
  have hb := B.bytes
  have hr := B.returns
  have hts : ∀ w ∈ TB, w.before args s = true := z_mV s (atoms_spec (ws := WD y_BitRow_window b_BitRow_window 6 (some .long)) B.pre)
  have hown : s.vm.findClass "DeepChannel$BitRow" = some m.cls := findClass_of_methodNamed B.named
  have hlocks := B.notSynchronized
  subst hsz
  have hD := hD0.self (sz := s.heap.size)
  generalize hAe : va_A (w_BitRow_window cI cJ qB qB_cells B_length B_cells) s.heap.size = A at hD hE ⊢
  have hA : ∀ q : Nat, s.heap.size ≤ q → A q := fun q h => by rw [← hAe]; exact Or.inr h
  have hS : va_S A s.heap s.heap [] := va_S.rf
  refine z_entry (vs := [.ref qB, .int x1]) hargs (Nat.le_of_ble_eq_true rfl) (fun ls hl => ?_)
  have hl : lv_has ls 6 [(0, .ref qB), (1, .int x1)] := hl
  show W p l e (RM 1 21) s m args below meth c s.heap [] 0 0 _ _
  refine z_qi (fun Q0 hQ => ?_)
  have F : CallFix p m c b_BitRow_window 6 s args TB "DeepChannel$BitRow" := ⟨hx, hb, hml, hown, hts⟩
  unfold f_BitRow_window at hm
  refine lv_iload_n hx hb d_BitRow_window_0 rfl (lv_at hl 1 rfl) ?_
  refine lv_bipush (v := (6 : Int32)) hx hb d_BitRow_window_1 (by decide) ?_
  refine lv_ishr hx hb d_BitRow_window_3 ?_
  refine z_nmi hm (fun v1 hm => ?_)
  refine lv_istore_n (lv' := [(2, .int v1), (0, .ref qB), (1, .int x1)]) hx hb d_BitRow_window_4 rfl hl (by decide) rfl (fun ls hl => ?_)
  refine lv_iload_n hx hb d_BitRow_window_5 rfl (lv_at hl 2 rfl) ?_
  refine lv_bipush (v := (63 : Int32)) hx hb d_BitRow_window_6 (by decide) ?_
  refine lv_iand hx hb d_BitRow_window_8 ?_
  refine z_nmi hm (fun v2 hm => ?_)
  refine lv_istore_n (lv' := [(3, .int v2), (2, .int v1), (0, .ref qB), (1, .int x1)]) hx hb d_BitRow_window_9 rfl hl (by decide) rfl (fun ls hl => ?_)
  refine lv_aload_n hx hb d_BitRow_window_10 rfl (lv_at hl 2 rfl) ?_
  refine lv_iload_n hx hb d_BitRow_window_11 rfl (lv_at hl 1 rfl) ?_
  obtain ⟨r3, hu, hm⟩ := bd_el hm
  replace hm := nm_1 hm
  refine z_cVl (wc := w_BitRow_cellAt cI cJ qB qB_cells B_length B_cells) (wc' := w_BitRow_cellAt cI cJ qB qB_cells B_length B_cells) (wr := []) (As := [.int v1]) (rest := []) (c_BitRow_cellAt l D cI cJ tt qB qB_cells B_length _ B_cells v1 r3 hu) F ok_BitRow_cellAt rfl k_380 hK hE hP hD hS hA [0, 1] [] rfl rfl (by decide) (by decide) (by decide) 0 rfl rfl rfl ⟨rfl, rfl, Nat.le_of_ble_eq_true rfl, Nat.le_of_ble_eq_true rfl⟩ ⟨Nat.zero_le _, Nat.zero_le _⟩ rfl hl.1 rfl (Nat.le_of_ble_eq_true rfl) d_BitRow_window_12 (fun H locs hP hD hS => ?_)
  have hP : va_P D classes (w_BitRow_window cI cJ qB qB_cells B_length B_cells) H := hP.sub [0, 1] rfl
  have hD : va_D A (w_BitRow_window cI cJ qB qB_cells B_length B_cells) := hD.sub [0, 1] (by decide) rfl
  refine lv_iload_n hx hb d_BitRow_window_15 rfl (lv_at hl 0 rfl) ?_
  refine lv_lushr (v := ((r3.toUInt64 >>> (v2.toInt64.toUInt64 &&& Int64.toUInt64 63)).toInt64)) hx hb d_BitRow_window_16 rfl ?_
  refine z_nml hm (fun v5 hm => ?_)
  refine lv_lstore (lv' := [(4, .long v5), (3, .int v2), (2, .int v1), (0, .ref qB), (1, .int x1)]) hx hb d_BitRow_window_17 hl (by decide) rfl (fun ls hl => ?_)
  refine lv_iload_n hx hb d_BitRow_window_19 rfl (lv_at hl 1 rfl) ?_
  refine z_ifn hm (lv_if_ne (tgt := 28) hx hb d_BitRow_window_20 (by decide)) (fun hm => ?_) (fun hm => ?_)
  · refine lv_lload hx hb d_BitRow_window_23 (lv_at hl 0 rfl) ?_
    refine lv_goto (tgt := 43) hx hb d_BitRow_window_25 (by decide) ?_
    cases hm
    exact z_qo hQ (z_lret hr hx hb hlocks hK hP hD hS d_BitRow_window_43)
  · refine lv_lload hx hb d_BitRow_window_28 (lv_at hl 0 rfl) ?_
    refine lv_aload_n hx hb d_BitRow_window_30 rfl (lv_at hl 3 rfl) ?_
    refine lv_iload_n hx hb d_BitRow_window_31 rfl (lv_at hl 2 rfl) ?_
    refine lv_iconst (v := (1 : Int32)) hx hb d_BitRow_window_32 (by decide) ?_
    refine lv_iadd hx hb d_BitRow_window_33 ?_
    obtain ⟨r6, hu, hm⟩ := bd_el hm
    replace hm := nm_1 hm
    refine z_cVl (wc := w_BitRow_cellAt cI cJ qB qB_cells B_length B_cells) (wc' := w_BitRow_cellAt cI cJ qB qB_cells B_length B_cells) (wr := []) (As := [.int (v1 + (1 : Int32))]) (rest := [.long v5]) (c_BitRow_cellAt l D cI cJ tt qB qB_cells B_length _ B_cells (v1 + (1 : Int32)) r6 hu) F ok_BitRow_cellAt rfl k_380 hK hE hP hD hS hA [0, 1] [] rfl rfl (by decide) (by decide) (by decide) 0 rfl rfl rfl ⟨rfl, rfl, Nat.le_of_ble_eq_true rfl, Nat.le_of_ble_eq_true rfl⟩ ⟨Nat.zero_le _, Nat.zero_le _⟩ rfl hl.1 rfl (Nat.le_of_ble_eq_true rfl) d_BitRow_window_34 (fun H locs hP hD hS => ?_)
    have hP : va_P D classes (w_BitRow_window cI cJ qB qB_cells B_length B_cells) H := hP.sub [0, 1] rfl
    have hD : va_D A (w_BitRow_window cI cJ qB qB_cells B_length B_cells) := hD.sub [0, 1] (by decide) rfl
    refine lv_bipush (v := (64 : Int32)) hx hb d_BitRow_window_37 (by decide) ?_
    refine lv_iload_n hx hb d_BitRow_window_39 rfl (lv_at hl 1 rfl) ?_
    refine lv_isub hx hb d_BitRow_window_40 ?_
    refine lv_lshl (v := (r6 <<< (((64 : Int32) - v2).toInt64 &&& 63))) hx hb d_BitRow_window_41 rfl ?_
    refine lv_lor hx hb d_BitRow_window_42 ?_
    cases hm
    exact z_qo hQ (z_lret hr hx hb hlocks hK hP hD hS d_BitRow_window_43)
-- DeepChannel$BitRow.size()I
abbrev b_BitRow_size : ByteArray := prog_2_method_2_code
abbrev y_BitRow_size : MethodName := ⟨"DeepChannel$BitRow", "size", "()I"⟩
theorem d_BitRow_size_0 : decode b_BitRow_size 0 = .ok (.aload_n 0, 1) := by decide +kernel
theorem d_BitRow_size_1 : decode b_BitRow_size 1 = .ok (.getfield 15, 3) := by decide +kernel
theorem d_BitRow_size_4 : decode b_BitRow_size 4 = .ok (.ireturn, 1) := by decide +kernel
theorem ok_BitRow_size : OKv y_BitRow_size b_BitRow_size 1 (some .int) "DeepChannel$BitRow" 0 := ⟨k_533, k_531, k_532, k_50, by decide +kernel, by decide +kernel, by decide +kernel⟩
abbrev w_BitRow_size (cI cJ : ClassId) (qB : Nat) (B_cells : Value) (B_length : Int32) : va_W := [(qB, .inr (0, [B_cells, .int B_length]))]
def f_BitRow_size (B_length : Int32) : Option (Int32) :=
  some B_length
set_option maxHeartbeats 4000000 in
set_option maxRecDepth 100000 in
theorem c_BitRow_size (l : Launch) (D : va_G) (cI cJ : ClassId) (tt : Nat → Nat) (qB : Nat) (B_cells : Value) (sz : Nat) (B_length : Int32) (rr : Int32) (hm : f_BitRow_size B_length = some rr) : CTi l y_BitRow_size b_BitRow_size 1 (some .int) (RM 0 0) D cI cJ tt [.ref qB] (w_BitRow_size cI cJ qB B_cells B_length) (w_BitRow_size cI cJ qB B_cells B_length) sz rr := by
  refine Met.ofW (cc := b_BitRow_size) (maxL := 1) (ret := (some .int)) (by decide) rfl ?_
  intro p e s m args below meth c s₁ B hml hv
  obtain ⟨hargs, hsz, hP, hK, hD0, hE⟩ := hv
  have hx := B.exec
  have hb := B.bytes
  have hr := B.returns
  have hts : ∀ w ∈ TB, w.before args s = true := z_mV s (atoms_spec (ws := WD y_BitRow_size b_BitRow_size 1 (some .int)) B.pre)
  have hown : s.vm.findClass "DeepChannel$BitRow" = some m.cls := findClass_of_methodNamed B.named
  have hlocks := B.notSynchronized
  subst hsz
  have hD := hD0.self (sz := s.heap.size)
  generalize hAe : va_A (w_BitRow_size cI cJ qB B_cells B_length) s.heap.size = A at hD hE ⊢
  have hA : ∀ q : Nat, s.heap.size ≤ q → A q := fun q h => by rw [← hAe]; exact Or.inr h
  have hS : va_S A s.heap s.heap [] := va_S.rf
  refine z_entry (vs := [.ref qB]) hargs (Nat.le_of_ble_eq_true rfl) (fun ls hl => ?_)
  have hl : lv_has ls 1 [(0, .ref qB)] := hl
  show W p l e (RM 0 0) s m args below meth c s.heap [] 0 0 _ _
  refine z_qi (fun Q0 hQ => ?_)
  have F : CallFix p m c b_BitRow_size 1 s args TB "DeepChannel$BitRow" := ⟨hx, hb, hml, hown, hts⟩
  unfold f_BitRow_size at hm
  refine lv_aload_n hx hb d_BitRow_size_0 rfl (lv_at hl 0 rfl) ?_
  refine va_get (D := D) (ci := 0) (v := .int B_length) (C := "DeepChannel$BitRow") (T := fT_BitRow) (N := 2) hx hb hts u_BitRow hown hK hP 0 rfl rfl 1 (by decide) (hts _ k_213) (fun _ h9 => h9) rfl d_BitRow_size_1 ?_
  cases hm
  exact z_qo hQ (z_ireti hr hx hb hlocks hK hP hD hS d_BitRow_size_4)
-- java/util/Arrays.fill([JJ)V
abbrev b_Arrays_fillJ : ByteArray := prog_24_method_101_code
abbrev y_Arrays_fillJ : MethodName := ⟨"java/util/Arrays", "fill", "([JJ)V"⟩
theorem d_Arrays_fillJ_0 : decode b_Arrays_fillJ 0 = .ok (.iconst 0, 1) := by decide +kernel
theorem d_Arrays_fillJ_1 : decode b_Arrays_fillJ 1 = .ok (.istore_n 3, 1) := by decide +kernel
theorem d_Arrays_fillJ_2 : decode b_Arrays_fillJ 2 = .ok (.aload_n 0, 1) := by decide +kernel
theorem d_Arrays_fillJ_3 : decode b_Arrays_fillJ 3 = .ok (.arraylength, 1) := by decide +kernel
theorem d_Arrays_fillJ_4 : decode b_Arrays_fillJ 4 = .ok (.istore 4, 2) := by decide +kernel
theorem d_Arrays_fillJ_6 : decode b_Arrays_fillJ 6 = .ok (.iload_n 3, 1) := by decide +kernel
theorem d_Arrays_fillJ_7 : decode b_Arrays_fillJ 7 = .ok (.iload 4, 2) := by decide +kernel
theorem d_Arrays_fillJ_9 : decode b_Arrays_fillJ 9 = .ok (.if_icmp .ge 13, 3) := by decide +kernel
theorem d_Arrays_fillJ_12 : decode b_Arrays_fillJ 12 = .ok (.aload_n 0, 1) := by decide +kernel
theorem d_Arrays_fillJ_13 : decode b_Arrays_fillJ 13 = .ok (.iload_n 3, 1) := by decide +kernel
theorem d_Arrays_fillJ_14 : decode b_Arrays_fillJ 14 = .ok (.lload_n 1, 1) := by decide +kernel
theorem d_Arrays_fillJ_15 : decode b_Arrays_fillJ 15 = .ok (.lastore, 1) := by decide +kernel
theorem d_Arrays_fillJ_16 : decode b_Arrays_fillJ 16 = .ok (.iinc 3 1, 3) := by decide +kernel
theorem d_Arrays_fillJ_19 : decode b_Arrays_fillJ 19 = .ok (.goto (-13), 3) := by decide +kernel
theorem d_Arrays_fillJ_22 : decode b_Arrays_fillJ 22 = .ok (.return_, 1) := by decide +kernel
theorem ok_Arrays_fillJ : OKs y_Arrays_fillJ b_Arrays_fillJ 5 none 2 := ⟨k_483, k_482, k_47, by decide +kernel, by decide +kernel, by decide +kernel⟩
abbrev w_Arrays_fillJ (cI cJ : ClassId) (qP0 : Nat) (nP0 : Nat) (p0 : Nat → Int64) : va_W := [(qP0, .inl (cJ, nP0, .inr (.inl p0)))]
def f_Arrays_fillJ_6_b (nP0 : Nat) (kh6 : Int64 → Int32 → Int32 → (Nat → Int64) → Option ((Nat → Int64))) (x1 : Int64) (x3 : Int32) (x4 : Int32) (p0 : Nat → Int64) : Option ((Nat → Int64)) :=
  if x4 ≤ x3 then
    some p0
  else
  wrL p0 nP0 x3 x1 fun g1 =>
  nm (x3 + (1 : Int32)) fun v2 =>
  kh6 x1 v2 x4 g1
def f_Arrays_fillJ_6 (nP0 : Nat) : Nat → Int64 → Int32 → Int32 → (Nat → Int64) → Option ((Nat → Int64))
  | 0 => fun _ _ _ _ => none
  | n + 1 => fun x1 x3 x4 p0 => f_Arrays_fillJ_6_b nP0 (f_Arrays_fillJ_6 nP0 n) x1 x3 x4 p0
def f_Arrays_fillJ (p0 : Nat → Int64) (nP0 : Nat) (x1 : Int64) : Option ((Nat → Int64)) :=
  nm (nI nP0) fun v3 =>
  f_Arrays_fillJ_6 nP0 10000 x1 (0 : Int32) v3 p0
set_option maxHeartbeats 4000000 in
set_option maxRecDepth 100000 in
theorem c_Arrays_fillJ (l : Launch) (D : va_G) (cI cJ : ClassId) (tt : Nat → Nat) (qP0 : Nat) (nP0 : Nat) (sz : Nat) (p0 : Nat → Int64) (x1 : Int64) (p0' : Nat → Int64) (hm : f_Arrays_fillJ p0 nP0 x1 = some p0') : CTv l y_Arrays_fillJ b_Arrays_fillJ 5 none (RM 0 0) D cI cJ tt [.ref qP0, .long x1] (w_Arrays_fillJ cI cJ qP0 nP0 p0) (w_Arrays_fillJ cI cJ qP0 nP0 p0') sz := by
  refine Met.ofW (cc := b_Arrays_fillJ) (maxL := 5) (ret := none) (by decide) rfl ?_
  intro p e s m args below meth c s₁ B hml hv
  obtain ⟨hargs, hsz, hP, hK, hD0, hE⟩ := hv
  have hx := B.exec
  have hb := B.bytes
  have hr := B.returns
  have hts : ∀ w ∈ TB, w.before args s = true := z_mV s (atoms_spec (ws := WD y_Arrays_fillJ b_Arrays_fillJ 5 none) B.pre)
  have hown : s.vm.findClass "java/util/Arrays" = some m.cls := findClass_of_methodNamed B.named
  have hlocks := B.notSynchronized
  subst hsz
  have hD := hD0.self (sz := s.heap.size)
  generalize hAe : va_A (w_Arrays_fillJ cI cJ qP0 nP0 p0) s.heap.size = A at hD hE ⊢
  have hA : ∀ q : Nat, s.heap.size ≤ q → A q := fun q h => by rw [← hAe]; exact Or.inr h
  have hS : va_S A s.heap s.heap [] := va_S.rf
  refine z_entry (vs := [.ref qP0, .long x1]) hargs (Nat.le_of_ble_eq_true rfl) (fun ls hl => ?_)
  have hl : lv_has ls 5 [(0, .ref qP0), (1, .long x1)] := hl
  show W p l e (RM 0 0) s m args below meth c s.heap [] 0 0 _ _
  refine z_qi (fun Q0 hQ => ?_)
  have F : CallFix p m c b_Arrays_fillJ 5 s args TB "java/util/Arrays" := ⟨hx, hb, hml, hown, hts⟩
  have T6 : ∀ (n6 : Nat) (x1 : Int64) (x3 : Int32) (x4 : Int32) (p0 : Nat → Int64), f_Arrays_fillJ_6 nP0 n6 x1 x3 x4 p0 = some p0' → ∀ (H : Heap) (locs : List Loc), va_P D classes (w_Arrays_fillJ cI cJ qP0 nP0 p0) H → va_D A (w_Arrays_fillJ cI cJ qP0 nP0 p0) → va_S A s.heap H locs → ∀ (ls : Array Slot), lv_has ls 5 [(0, .ref qP0), (1, .long x1), (3, .int x3), (4, .int x4)] → W p l e (RM 0 0) s m args below meth c H locs 0 0 Q0 (F0 m 6 ls []) := by
    intro n6
    induction n6 with
    | zero => intro x1 x3 x4 p0 hm; cases hm
    | succ n6 ih6 =>
      intro x1 x3 x4 p0 hm H locs hP hD hS ls hl
      replace hm : f_Arrays_fillJ_6_b nP0 (f_Arrays_fillJ_6 nP0 n6) x1 x3 x4 p0 = some p0' := hm
      unfold f_Arrays_fillJ_6_b at hm
      refine lv_iload_n hx hb d_Arrays_fillJ_6 rfl (lv_at hl 2 rfl) ?_
      refine lv_iload hx hb d_Arrays_fillJ_7 (lv_at hl 3 rfl) ?_
      refine z_if hm (lv_icmp_ge (tgt := 22) hx hb d_Arrays_fillJ_9 (by decide)) (fun hm => ?_) (fun hm => ?_)
      · cases hm
        exact z_qo hQ (z_vret hr hx hb hlocks hK hP hD hS d_Arrays_fillJ_22)
      · refine lv_aload_n hx hb d_Arrays_fillJ_12 rfl (lv_at hl 0 rfl) ?_
        refine lv_iload_n hx hb d_Arrays_fillJ_13 rfl (lv_at hl 2 rfl) ?_
        refine lv_lload_n hx hb d_Arrays_fillJ_14 rfl (lv_at hl 1 rfl) ?_
        refine z_last hm hx hb hK hP hD hS 0 rfl d_Arrays_fillJ_15 (fun g1 hm H locs hP hD hS => ?_)
        have hP : va_P D classes (w_Arrays_fillJ cI cJ qP0 nP0 g1) H := hP
        have hD : va_D A (w_Arrays_fillJ cI cJ qP0 nP0 g1) := hD
        obtain ⟨v2, ev, hm⟩ := nm_el hm
        refine lv_iinc (v := v2) (lv' := [(3, .int v2), (0, .ref qP0), (1, .long x1), (4, .int x4)]) hx hb d_Arrays_fillJ_16 hl (k := 2) rfl (by rw [ev]; rfl) (by decide) rfl (fun ls hl => ?_)
        refine lv_goto (tgt := 6) hx hb d_Arrays_fillJ_19 (by decide) ?_
        exact ih6 x1 v2 x4 g1 hm _ _ hP hD hS _ (lv_sub hl [1, 2, 0, 3] rfl)
  unfold f_Arrays_fillJ at hm
  refine lv_iconst (v := (0 : Int32)) hx hb d_Arrays_fillJ_0 (by decide) ?_
  refine lv_istore_n (lv' := [(3, .int (0 : Int32)), (0, .ref qP0), (1, .long x1)]) hx hb d_Arrays_fillJ_1 rfl hl (by decide) rfl (fun ls hl => ?_)
  refine lv_aload_n hx hb d_Arrays_fillJ_2 rfl (lv_at hl 1 rfl) ?_
  refine va_alen (v := (nI nP0)) hx hb hK hP 0 1 rfl rfl rfl d_Arrays_fillJ_3 ?_
  refine z_nmi hm (fun v3 hm => ?_)
  refine lv_istore (lv' := [(4, .int v3), (3, .int (0 : Int32)), (0, .ref qP0), (1, .long x1)]) hx hb d_Arrays_fillJ_4 hl (by decide) rfl (fun ls hl => ?_)
  exact T6 10000 x1 (0 : Int32) v3 p0 hm _ _ hP hD hS _ (lv_sub hl [2, 3, 1, 0] rfl)
-- DeepChannel$BitRow.empty()V
abbrev b_BitRow_empty : ByteArray := prog_2_method_3_code
abbrev y_BitRow_empty : MethodName := ⟨"DeepChannel$BitRow", "empty", "()V"⟩
theorem d_BitRow_empty_0 : decode b_BitRow_empty 0 = .ok (.aload_n 0, 1) := by decide +kernel
theorem d_BitRow_empty_1 : decode b_BitRow_empty 1 = .ok (.getfield 9, 3) := by decide +kernel
theorem d_BitRow_empty_4 : decode b_BitRow_empty 4 = .ok (.lconst 0, 1) := by decide +kernel
theorem d_BitRow_empty_5 : decode b_BitRow_empty 5 = .ok (.invokestatic 19, 3) := by decide +kernel
theorem d_BitRow_empty_8 : decode b_BitRow_empty 8 = .ok (.aload_n 0, 1) := by decide +kernel
theorem d_BitRow_empty_9 : decode b_BitRow_empty 9 = .ok (.iconst 0, 1) := by decide +kernel
theorem d_BitRow_empty_10 : decode b_BitRow_empty 10 = .ok (.putfield 15, 3) := by decide +kernel
theorem d_BitRow_empty_13 : decode b_BitRow_empty 13 = .ok (.return_, 1) := by decide +kernel
theorem ok_BitRow_empty : OKv y_BitRow_empty b_BitRow_empty 1 none "DeepChannel$BitRow" 0 := ⟨k_480, k_478, k_479, k_50, by decide +kernel, by decide +kernel, by decide +kernel⟩
abbrev w_BitRow_empty (cI cJ : ClassId) (qB qB_cells : Nat) (B_length : Int32) (B_cells : Nat → Int64) : va_W := [(qB, .inr (0, [.ref qB_cells, .int B_length])), (qB_cells, .inl (cJ, 64, .inr (.inl B_cells)))]
def f_BitRow_empty (B_length : Int32) (B_cells : Nat → Int64) : Option (Int32 × (Nat → Int64)) :=
  bd (f_Arrays_fillJ B_cells 64 (0 : Int64)) fun u2 =>
  nm u2 fun g1 =>
  some ((0 : Int32), g1)
set_option maxHeartbeats 4000000 in
set_option maxRecDepth 100000 in
theorem c_BitRow_empty (l : Launch) (D : va_G) (cI cJ : ClassId) (tt : Nat → Nat) (qB qB_cells : Nat) (sz : Nat) (B_length : Int32) (B_cells : Nat → Int64) (B_length' : Int32) (B_cells' : Nat → Int64) (hm : f_BitRow_empty B_length B_cells = some (B_length', B_cells')) : CTv l y_BitRow_empty b_BitRow_empty 1 none (RM 1 24) D cI cJ tt [.ref qB] (w_BitRow_empty cI cJ qB qB_cells B_length B_cells) (w_BitRow_empty cI cJ qB qB_cells B_length' B_cells') sz := by
  refine Met.ofW (cc := b_BitRow_empty) (maxL := 1) (ret := none) (by decide) rfl ?_
  intro p e s m args below meth c s₁ B hml hv
  obtain ⟨hargs, hsz, hP, hK, hD0, hE⟩ := hv
  have hx := B.exec
  have hb := B.bytes
  have hr := B.returns
  have hts : ∀ w ∈ TB, w.before args s = true := z_mV s (atoms_spec (ws := WD y_BitRow_empty b_BitRow_empty 1 none) B.pre)
  have hown : s.vm.findClass "DeepChannel$BitRow" = some m.cls := findClass_of_methodNamed B.named
  have hlocks := B.notSynchronized
  subst hsz
  have hD := hD0.self (sz := s.heap.size)
  generalize hAe : va_A (w_BitRow_empty cI cJ qB qB_cells B_length B_cells) s.heap.size = A at hD hE ⊢
  have hA : ∀ q : Nat, s.heap.size ≤ q → A q := fun q h => by rw [← hAe]; exact Or.inr h
  have hS : va_S A s.heap s.heap [] := va_S.rf
  refine z_entry (vs := [.ref qB]) hargs (Nat.le_of_ble_eq_true rfl) (fun ls hl => ?_)
  have hl : lv_has ls 1 [(0, .ref qB)] := hl
  show W p l e (RM 1 24) s m args below meth c s.heap [] 0 0 _ _
  refine z_qi (fun Q0 hQ => ?_)
  have F : CallFix p m c b_BitRow_empty 1 s args TB "DeepChannel$BitRow" := ⟨hx, hb, hml, hown, hts⟩
  unfold f_BitRow_empty at hm
  refine lv_aload_n hx hb d_BitRow_empty_0 rfl (lv_at hl 0 rfl) ?_
  refine va_get (D := D) (ci := 0) (v := .ref qB_cells) (C := "DeepChannel$BitRow") (T := fT_BitRow) (N := 2) hx hb hts u_BitRow hown hK hP 0 rfl rfl 0 (by decide) (hts _ k_212) (fun _ h9 => h9) rfl d_BitRow_empty_1 ?_
  refine lv_lconst (v := (0 : Int64)) hx hb d_BitRow_empty_4 (by decide) ?_
  obtain ⟨g1, hu, hm⟩ := bd_el hm
  replace hm := nm_1 hm
  refine z_cSv (wc := w_Arrays_fillJ cI cJ qB_cells 64 B_cells) (wc' := w_Arrays_fillJ cI cJ qB_cells 64 g1) (wr := [(qB, .inr (0, [.ref qB_cells, .int B_length]))]) (As := [.ref qB_cells, .long (0 : Int64)]) (rest := []) (c_Arrays_fillJ l D cI cJ tt qB_cells 64 _ B_cells (0 : Int64) g1 hu) F ok_Arrays_fillJ k_481 hK hE hP hD hS hA [1] [0] rfl rfl (by decide) (by decide) (by decide) ⟨rfl, rfl, Nat.le_of_ble_eq_true rfl, Nat.le_of_ble_eq_true rfl⟩ ⟨Nat.zero_le _, Nat.zero_le _⟩ rfl hl.1 rfl (Nat.le_of_ble_eq_true rfl) d_BitRow_empty_5 (fun H locs hP hD hS => ?_)
  have hP : va_P D classes (w_BitRow_empty cI cJ qB qB_cells B_length g1) H := hP.sub [0, 1] rfl
  have hD : va_D A (w_BitRow_empty cI cJ qB qB_cells B_length g1) := hD.sub [0, 1] (by decide) rfl
  refine lv_aload_n hx hb d_BitRow_empty_8 rfl (lv_at hl 0 rfl) ?_
  refine lv_iconst (v := (0 : Int32)) hx hb d_BitRow_empty_9 (by decide) ?_
  refine va_put (D := D) (ci := 0) (v := .int (0 : Int32)) (ty := .int) (C := "DeepChannel$BitRow") (T := fT_BitRow) (N := 2) hx hb hts u_BitRow fY_BitRow fK_BitRow fN_BitRow hown hK hP hD hS 0 rfl rfl 1 (by decide) (hts _ k_213) (fun _ h9 => h9) rfl (by decide +kernel) rfl rfl (Nat.le_of_ble_eq_true rfl) d_BitRow_empty_10 (fun H locs hP hD hS => ?_)
  have hP : va_P D classes (w_BitRow_empty cI cJ qB qB_cells (0 : Int32) g1) H := hP
  have hD : va_D A (w_BitRow_empty cI cJ qB qB_cells (0 : Int32) g1) := hD
  cases hm
  exact z_qo hQ (z_vret hr hx hb hlocks hK hP hD hS d_BitRow_empty_13)
-- DeepChannel$BitRow.flip(IJ)I
abbrev b_BitRow_flip : ByteArray := prog_2_method_8_code
abbrev y_BitRow_flip : MethodName := ⟨"DeepChannel$BitRow", "flip", "(IJ)I"⟩
theorem d_BitRow_flip_0 : decode b_BitRow_flip 0 = .ok (.iconst 0, 1) := by decide +kernel
theorem d_BitRow_flip_1 : decode b_BitRow_flip 1 = .ok (.istore 4, 2) := by decide +kernel
theorem d_BitRow_flip_3 : decode b_BitRow_flip 3 = .ok (.iconst 0, 1) := by decide +kernel
theorem d_BitRow_flip_4 : decode b_BitRow_flip 4 = .ok (.istore 5, 2) := by decide +kernel
theorem d_BitRow_flip_6 : decode b_BitRow_flip 6 = .ok (.iload 5, 2) := by decide +kernel
theorem d_BitRow_flip_8 : decode b_BitRow_flip 8 = .ok (.bipush 64, 2) := by decide +kernel
theorem d_BitRow_flip_10 : decode b_BitRow_flip 10 = .ok (.if_icmp .ge 72, 3) := by decide +kernel
theorem d_BitRow_flip_13 : decode b_BitRow_flip 13 = .ok (.iload_n 1, 1) := by decide +kernel
theorem d_BitRow_flip_14 : decode b_BitRow_flip 14 = .ok (.i2l, 1) := by decide +kernel
theorem d_BitRow_flip_15 : decode b_BitRow_flip 15 = .ok (.iload 5, 2) := by decide +kernel
theorem d_BitRow_flip_17 : decode b_BitRow_flip 17 = .ok (.i2l, 1) := by decide +kernel
theorem d_BitRow_flip_18 : decode b_BitRow_flip 18 = .ok (.ladd, 1) := by decide +kernel
theorem d_BitRow_flip_19 : decode b_BitRow_flip 19 = .ok (.lstore 6, 2) := by decide +kernel
theorem d_BitRow_flip_21 : decode b_BitRow_flip 21 = .ok (.lload_n 2, 1) := by decide +kernel
theorem d_BitRow_flip_22 : decode b_BitRow_flip 22 = .ok (.iload 5, 2) := by decide +kernel
theorem d_BitRow_flip_24 : decode b_BitRow_flip 24 = .ok (.lushr, 1) := by decide +kernel
theorem d_BitRow_flip_25 : decode b_BitRow_flip 25 = .ok (.lconst 1, 1) := by decide +kernel
theorem d_BitRow_flip_26 : decode b_BitRow_flip 26 = .ok (.land, 1) := by decide +kernel
theorem d_BitRow_flip_27 : decode b_BitRow_flip 27 = .ok (.lconst 0, 1) := by decide +kernel
theorem d_BitRow_flip_28 : decode b_BitRow_flip 28 = .ok (.lcmp, 1) := by decide +kernel
theorem d_BitRow_flip_29 : decode b_BitRow_flip 29 = .ok (.ifCond .eq 47, 3) := by decide +kernel
theorem d_BitRow_flip_32 : decode b_BitRow_flip 32 = .ok (.lload 6, 2) := by decide +kernel
theorem d_BitRow_flip_34 : decode b_BitRow_flip 34 = .ok (.lconst 0, 1) := by decide +kernel
theorem d_BitRow_flip_35 : decode b_BitRow_flip 35 = .ok (.lcmp, 1) := by decide +kernel
theorem d_BitRow_flip_36 : decode b_BitRow_flip 36 = .ok (.ifCond .lt 40, 3) := by decide +kernel
theorem d_BitRow_flip_39 : decode b_BitRow_flip 39 = .ok (.lload 6, 2) := by decide +kernel
theorem d_BitRow_flip_41 : decode b_BitRow_flip 41 = .ok (.aload_n 0, 1) := by decide +kernel
theorem d_BitRow_flip_42 : decode b_BitRow_flip 42 = .ok (.getfield 15, 3) := by decide +kernel
theorem d_BitRow_flip_45 : decode b_BitRow_flip 45 = .ok (.i2l, 1) := by decide +kernel
theorem d_BitRow_flip_46 : decode b_BitRow_flip 46 = .ok (.lcmp, 1) := by decide +kernel
theorem d_BitRow_flip_47 : decode b_BitRow_flip 47 = .ok (.ifCond .ge 29, 3) := by decide +kernel
theorem d_BitRow_flip_50 : decode b_BitRow_flip 50 = .ok (.aload_n 0, 1) := by decide +kernel
theorem d_BitRow_flip_51 : decode b_BitRow_flip 51 = .ok (.getfield 9, 3) := by decide +kernel
theorem d_BitRow_flip_54 : decode b_BitRow_flip 54 = .ok (.lload 6, 2) := by decide +kernel
theorem d_BitRow_flip_56 : decode b_BitRow_flip 56 = .ok (.bipush 6, 2) := by decide +kernel
theorem d_BitRow_flip_58 : decode b_BitRow_flip 58 = .ok (.lshr, 1) := by decide +kernel
theorem d_BitRow_flip_59 : decode b_BitRow_flip 59 = .ok (.l2i, 1) := by decide +kernel
theorem d_BitRow_flip_60 : decode b_BitRow_flip 60 = .ok (.dup2, 1) := by decide +kernel
theorem d_BitRow_flip_61 : decode b_BitRow_flip 61 = .ok (.laload, 1) := by decide +kernel
theorem d_BitRow_flip_62 : decode b_BitRow_flip 62 = .ok (.lconst 1, 1) := by decide +kernel
theorem d_BitRow_flip_63 : decode b_BitRow_flip 63 = .ok (.lload 6, 2) := by decide +kernel
theorem d_BitRow_flip_65 : decode b_BitRow_flip 65 = .ok (.ldc2_w 29, 3) := by decide +kernel
theorem d_BitRow_flip_68 : decode b_BitRow_flip 68 = .ok (.land, 1) := by decide +kernel
theorem d_BitRow_flip_69 : decode b_BitRow_flip 69 = .ok (.l2i, 1) := by decide +kernel
theorem d_BitRow_flip_70 : decode b_BitRow_flip 70 = .ok (.lshl, 1) := by decide +kernel
theorem d_BitRow_flip_71 : decode b_BitRow_flip 71 = .ok (.lxor, 1) := by decide +kernel
theorem d_BitRow_flip_72 : decode b_BitRow_flip 72 = .ok (.lastore, 1) := by decide +kernel
theorem d_BitRow_flip_73 : decode b_BitRow_flip 73 = .ok (.iinc 4 1, 3) := by decide +kernel
theorem d_BitRow_flip_76 : decode b_BitRow_flip 76 = .ok (.iinc 5 1, 3) := by decide +kernel
theorem d_BitRow_flip_79 : decode b_BitRow_flip 79 = .ok (.goto (-73), 3) := by decide +kernel
theorem d_BitRow_flip_82 : decode b_BitRow_flip 82 = .ok (.iload 4, 2) := by decide +kernel
theorem d_BitRow_flip_84 : decode b_BitRow_flip 84 = .ok (.ireturn, 1) := by decide +kernel
theorem ok_BitRow_flip : OKv y_BitRow_flip b_BitRow_flip 8 (some .int) "DeepChannel$BitRow" 2 := ⟨k_370, k_368, k_369, k_50, by decide +kernel, by decide +kernel, by decide +kernel⟩
abbrev w_BitRow_flip (cI cJ : ClassId) (qB qB_cells : Nat) (B_length : Int32) (B_cells : Nat → Int64) : va_W := [(qB, .inr (0, [.ref qB_cells, .int B_length])), (qB_cells, .inl (cJ, 64, .inr (.inl B_cells)))]
def f_BitRow_flip_76 (kh6 : Int32 → Int64 → Int32 → Int32 → (Nat → Int64) → Option (Int32 × (Nat → Int64))) (x1 : Int32) (x2 : Int64) (x4 : Int32) (x5 : Int32) (B_cells : Nat → Int64) : Option (Int32 × (Nat → Int64)) :=
  nm (x5 + (1 : Int32)) fun v1 =>
  kh6 x1 x2 x4 v1 B_cells
def f_BitRow_flip_6_b (B_length : Int32) (kh6 : Int32 → Int64 → Int32 → Int32 → (Nat → Int64) → Option (Int32 × (Nat → Int64))) (x1 : Int32) (x2 : Int64) (x4 : Int32) (x5 : Int32) (B_cells : Nat → Int64) : Option (Int32 × (Nat → Int64)) :=
  if (64 : Int32) ≤ x5 then
    some (x4, B_cells)
  else
  nm (x1.toInt64 + x5.toInt64) fun v2 =>
  if (lg_cmp (((x2.toUInt64 >>> (x5.toInt64.toUInt64 &&& Int64.toUInt64 63)).toInt64) &&& (1 : Int64)) (0 : Int64)) = 0 then
    f_BitRow_flip_76 kh6 x1 x2 x4 x5 B_cells
  else
  if (lg_cmp v2 (0 : Int64)) < 0 then
    f_BitRow_flip_76 kh6 x1 x2 x4 x5 B_cells
  else
  if 0 ≤ (lg_cmp v2 B_length.toInt64) then
    f_BitRow_flip_76 kh6 x1 x2 x4 x5 B_cells
  else
  nm (v2 >>> ((6 : Int32).toInt64 &&& 63)).toInt32 fun v3 =>
  rdL B_cells 64 v3 fun v4 =>
  wrL B_cells 64 v3 (v4 ^^^ ((1 : Int64) <<< ((v2 &&& (63 : Int64)).toInt32.toInt64 &&& 63))) fun g5 =>
  nm (x4 + (1 : Int32)) fun v6 =>
  f_BitRow_flip_76 kh6 x1 x2 v6 x5 g5
def f_BitRow_flip_6 (B_length : Int32) : Nat → Int32 → Int64 → Int32 → Int32 → (Nat → Int64) → Option (Int32 × (Nat → Int64))
  | 0 => fun _ _ _ _ _ => none
  | n + 1 => fun x1 x2 x4 x5 B_cells => f_BitRow_flip_6_b B_length (f_BitRow_flip_6 B_length n) x1 x2 x4 x5 B_cells
def f_BitRow_flip (B_length : Int32) (B_cells : Nat → Int64) (x1 : Int32) (x2 : Int64) : Option (Int32 × (Nat → Int64)) :=
  f_BitRow_flip_6 B_length 10000 x1 x2 (0 : Int32) (0 : Int32) B_cells
set_option maxHeartbeats 4000000 in
set_option maxRecDepth 100000 in
theorem c_BitRow_flip (l : Launch) (D : va_G) (cI cJ : ClassId) (tt : Nat → Nat) (qB qB_cells : Nat) (sz : Nat) (B_length : Int32) (B_cells : Nat → Int64) (x1 : Int32) (x2 : Int64) (rr : Int32) (B_cells' : Nat → Int64) (hm : f_BitRow_flip B_length B_cells x1 x2 = some (rr, B_cells')) : CTi l y_BitRow_flip b_BitRow_flip 8 (some .int) (RM 0 0) D cI cJ tt [.ref qB, .int x1, .long x2] (w_BitRow_flip cI cJ qB qB_cells B_length B_cells) (w_BitRow_flip cI cJ qB qB_cells B_length B_cells') sz rr := by
  refine Met.ofW (cc := b_BitRow_flip) (maxL := 8) (ret := (some .int)) (by decide) rfl ?_
  intro p e s m args below meth c s₁ B hml hv
  obtain ⟨hargs, hsz, hP, hK, hD0, hE⟩ := hv
  have hx := B.exec
  have hb := B.bytes
  have hr := B.returns
  have hts : ∀ w ∈ TB, w.before args s = true := z_mV s (atoms_spec (ws := WD y_BitRow_flip b_BitRow_flip 8 (some .int)) B.pre)
  have hown : s.vm.findClass "DeepChannel$BitRow" = some m.cls := findClass_of_methodNamed B.named
  have hlocks := B.notSynchronized
  subst hsz
  have hD := hD0.self (sz := s.heap.size)
  generalize hAe : va_A (w_BitRow_flip cI cJ qB qB_cells B_length B_cells) s.heap.size = A at hD hE ⊢
  have hA : ∀ q : Nat, s.heap.size ≤ q → A q := fun q h => by rw [← hAe]; exact Or.inr h
  have hS : va_S A s.heap s.heap [] := va_S.rf
  refine z_entry (vs := [.ref qB, .int x1, .long x2]) hargs (Nat.le_of_ble_eq_true rfl) (fun ls hl => ?_)
  have hl : lv_has ls 8 [(0, .ref qB), (1, .int x1), (2, .long x2)] := hl
  show W p l e (RM 0 0) s m args below meth c s.heap [] 0 0 _ _
  refine z_qi (fun Q0 hQ => ?_)
  have F : CallFix p m c b_BitRow_flip 8 s args TB "DeepChannel$BitRow" := ⟨hx, hb, hml, hown, hts⟩
  have T6 : ∀ (n6 : Nat) (x1 : Int32) (x2 : Int64) (x4 : Int32) (x5 : Int32) (B_cells : Nat → Int64), f_BitRow_flip_6 B_length n6 x1 x2 x4 x5 B_cells = some (rr, B_cells') → ∀ (H : Heap) (locs : List Loc), va_P D classes (w_BitRow_flip cI cJ qB qB_cells B_length B_cells) H → va_D A (w_BitRow_flip cI cJ qB qB_cells B_length B_cells) → va_S A s.heap H locs → ∀ (ls : Array Slot), lv_has ls 8 [(0, .ref qB), (1, .int x1), (2, .long x2), (4, .int x4), (5, .int x5)] → W p l e (RM 0 0) s m args below meth c H locs 0 0 Q0 (F0 m 6 ls []) := by
    intro n6
    induction n6 with
    | zero => intro x1 x2 x4 x5 B_cells hm; cases hm
    | succ n6 ih6 =>
      have T76 : ∀ (x1 : Int32) (x2 : Int64) (x4 : Int32) (x5 : Int32) (B_cells : Nat → Int64), f_BitRow_flip_76 (f_BitRow_flip_6 B_length n6) x1 x2 x4 x5 B_cells = some (rr, B_cells') → ∀ (H : Heap) (locs : List Loc), va_P D classes (w_BitRow_flip cI cJ qB qB_cells B_length B_cells) H → va_D A (w_BitRow_flip cI cJ qB qB_cells B_length B_cells) → va_S A s.heap H locs → ∀ (ls : Array Slot), lv_has ls 8 [(0, .ref qB), (1, .int x1), (2, .long x2), (4, .int x4), (5, .int x5)] → W p l e (RM 0 0) s m args below meth c H locs 0 0 Q0 (F0 m 76 ls []) := by
        intro x1 x2 x4 x5 B_cells hm H locs hP hD hS ls hl
        unfold f_BitRow_flip_76 at hm
        obtain ⟨v1, ev, hm⟩ := nm_el hm
        refine lv_iinc (v := v1) (lv' := [(5, .int v1), (0, .ref qB), (1, .int x1), (2, .long x2), (4, .int x4)]) hx hb d_BitRow_flip_76 hl (k := 4) rfl (by rw [ev]; rfl) (by decide) rfl (fun ls hl => ?_)
        refine lv_goto (tgt := 6) hx hb d_BitRow_flip_79 (by decide) ?_
        exact ih6 x1 x2 x4 v1 B_cells hm _ _ hP hD hS _ (lv_sub hl [1, 2, 3, 4, 0] rfl)
      intro x1 x2 x4 x5 B_cells hm H locs hP hD hS ls hl
      replace hm : f_BitRow_flip_6_b B_length (f_BitRow_flip_6 B_length n6) x1 x2 x4 x5 B_cells = some (rr, B_cells') := hm
      unfold f_BitRow_flip_6_b at hm
      refine lv_iload hx hb d_BitRow_flip_6 (lv_at hl 4 rfl) ?_
      refine lv_bipush (v := (64 : Int32)) hx hb d_BitRow_flip_8 (by decide) ?_
      refine z_if hm (lv_icmp_ge (tgt := 82) hx hb d_BitRow_flip_10 (by decide)) (fun hm => ?_) (fun hm => ?_)
      · refine lv_iload hx hb d_BitRow_flip_82 (lv_at hl 3 rfl) ?_
        cases hm
        exact z_qo hQ (z_ireti hr hx hb hlocks hK hP hD hS d_BitRow_flip_84)
      · refine lv_iload_n hx hb d_BitRow_flip_13 rfl (lv_at hl 1 rfl) ?_
        refine lv_i2l (v := x1.toInt64) hx hb d_BitRow_flip_14 rfl ?_
        refine lv_iload hx hb d_BitRow_flip_15 (lv_at hl 4 rfl) ?_
        refine lv_i2l (v := x5.toInt64) hx hb d_BitRow_flip_17 rfl ?_
        refine lv_ladd hx hb d_BitRow_flip_18 ?_
        refine z_nml hm (fun v2 hm => ?_)
        refine lv_lstore (lv' := [(6, .long v2), (0, .ref qB), (1, .int x1), (2, .long x2), (4, .int x4), (5, .int x5)]) hx hb d_BitRow_flip_19 hl (by decide) rfl (fun ls hl => ?_)
        refine lv_lload_n hx hb d_BitRow_flip_21 rfl (lv_at hl 3 rfl) ?_
        refine lv_iload hx hb d_BitRow_flip_22 (lv_at hl 5 rfl) ?_
        refine lv_lushr (v := ((x2.toUInt64 >>> (x5.toInt64.toUInt64 &&& Int64.toUInt64 63)).toInt64)) hx hb d_BitRow_flip_24 rfl ?_
        refine lv_lconst (v := (1 : Int64)) hx hb d_BitRow_flip_25 (by decide) ?_
        refine lv_land hx hb d_BitRow_flip_26 ?_
        refine lv_lconst (v := (0 : Int64)) hx hb d_BitRow_flip_27 (by decide) ?_
        refine W.lcmp hx hb d_BitRow_flip_28 ?_
        refine z_if hm (lv_if_eq (tgt := 76) hx hb d_BitRow_flip_29 (by decide)) (fun hm => ?_) (fun hm => ?_)
        · exact T76 x1 x2 x4 x5 B_cells hm _ _ hP hD hS _ (lv_sub hl [1, 2, 3, 4, 5] rfl)
        · refine lv_lload hx hb d_BitRow_flip_32 (lv_at hl 0 rfl) ?_
          refine lv_lconst (v := (0 : Int64)) hx hb d_BitRow_flip_34 (by decide) ?_
          refine W.lcmp hx hb d_BitRow_flip_35 ?_
          refine z_if hm (lv_if_lt (tgt := 76) hx hb d_BitRow_flip_36 (by decide)) (fun hm => ?_) (fun hm => ?_)
          · exact T76 x1 x2 x4 x5 B_cells hm _ _ hP hD hS _ (lv_sub hl [1, 2, 3, 4, 5] rfl)
          · refine lv_lload hx hb d_BitRow_flip_39 (lv_at hl 0 rfl) ?_
            refine lv_aload_n hx hb d_BitRow_flip_41 rfl (lv_at hl 1 rfl) ?_
            refine va_get (D := D) (ci := 0) (v := .int B_length) (C := "DeepChannel$BitRow") (T := fT_BitRow) (N := 2) hx hb hts u_BitRow hown hK hP 0 rfl rfl 1 (by decide) (hts _ k_213) (fun _ h9 => h9) rfl d_BitRow_flip_42 ?_
            refine lv_i2l (v := B_length.toInt64) hx hb d_BitRow_flip_45 rfl ?_
            refine W.lcmp hx hb d_BitRow_flip_46 ?_
            refine z_if hm (lv_if_ge (tgt := 76) hx hb d_BitRow_flip_47 (by decide)) (fun hm => ?_) (fun hm => ?_)
            · exact T76 x1 x2 x4 x5 B_cells hm _ _ hP hD hS _ (lv_sub hl [1, 2, 3, 4, 5] rfl)
            · refine lv_aload_n hx hb d_BitRow_flip_50 rfl (lv_at hl 1 rfl) ?_
              refine va_get (D := D) (ci := 0) (v := .ref qB_cells) (C := "DeepChannel$BitRow") (T := fT_BitRow) (N := 2) hx hb hts u_BitRow hown hK hP 0 rfl rfl 0 (by decide) (hts _ k_212) (fun _ h9 => h9) rfl d_BitRow_flip_51 ?_
              refine lv_lload hx hb d_BitRow_flip_54 (lv_at hl 0 rfl) ?_
              refine lv_bipush (v := (6 : Int32)) hx hb d_BitRow_flip_56 (by decide) ?_
              refine lv_lshr (v := (v2 >>> ((6 : Int32).toInt64 &&& 63))) hx hb d_BitRow_flip_58 rfl ?_
              refine lv_l2i (v := (v2 >>> ((6 : Int32).toInt64 &&& 63)).toInt32) hx hb d_BitRow_flip_59 rfl ?_
              refine z_nmi hm (fun v3 hm => ?_)
              refine lv_dup2_11 hx hb d_BitRow_flip_60 rfl rfl ?_
              refine z_lald hm hx hb hK hP 1 rfl d_BitRow_flip_61 (fun v4 hm => ?_)
              refine lv_lconst (v := (1 : Int64)) hx hb d_BitRow_flip_62 (by decide) ?_
              refine lv_lload hx hb d_BitRow_flip_63 (lv_at hl 0 rfl) ?_
              refine lv_ldc2 (v := (63 : Int64)) hx hb hown (hts _ k_371) d_BitRow_flip_65 ?_
              refine lv_land hx hb d_BitRow_flip_68 ?_
              refine lv_l2i (v := (v2 &&& (63 : Int64)).toInt32) hx hb d_BitRow_flip_69 rfl ?_
              refine lv_lshl (v := ((1 : Int64) <<< ((v2 &&& (63 : Int64)).toInt32.toInt64 &&& 63))) hx hb d_BitRow_flip_70 rfl ?_
              refine lv_lxor hx hb d_BitRow_flip_71 ?_
              refine z_last hm hx hb hK hP hD hS 1 rfl d_BitRow_flip_72 (fun g5 hm H locs hP hD hS => ?_)
              have hP : va_P D classes (w_BitRow_flip cI cJ qB qB_cells B_length g5) H := hP
              have hD : va_D A (w_BitRow_flip cI cJ qB qB_cells B_length g5) := hD
              obtain ⟨v6, ev, hm⟩ := nm_el hm
              refine lv_iinc (v := v6) (lv' := [(4, .int v6), (6, .long v2), (0, .ref qB), (1, .int x1), (2, .long x2), (5, .int x5)]) hx hb d_BitRow_flip_73 hl (k := 4) rfl (by rw [ev]; rfl) (by decide) rfl (fun ls hl => ?_)
              exact T76 x1 x2 v6 x5 g5 hm _ _ hP hD hS _ (lv_sub hl [2, 3, 4, 0, 5] rfl)
  unfold f_BitRow_flip at hm
  refine lv_iconst (v := (0 : Int32)) hx hb d_BitRow_flip_0 (by decide) ?_
  refine lv_istore (lv' := [(4, .int (0 : Int32)), (0, .ref qB), (1, .int x1), (2, .long x2)]) hx hb d_BitRow_flip_1 hl (by decide) rfl (fun ls hl => ?_)
  refine lv_iconst (v := (0 : Int32)) hx hb d_BitRow_flip_3 (by decide) ?_
  refine lv_istore (lv' := [(5, .int (0 : Int32)), (4, .int (0 : Int32)), (0, .ref qB), (1, .int x1), (2, .long x2)]) hx hb d_BitRow_flip_4 hl (by decide) rfl (fun ls hl => ?_)
  exact T6 10000 x1 x2 (0 : Int32) (0 : Int32) B_cells hm _ _ hP hD hS _ (lv_sub hl [2, 3, 4, 1, 0] rfl)
-- java/lang/Integer.bitCount(I)I
abbrev b_Integer_bitCount : ByteArray := prog_18_method_49_code
abbrev y_Integer_bitCount : MethodName := ⟨"java/lang/Integer", "bitCount", "(I)I"⟩
theorem d_Integer_bitCount_0 : decode b_Integer_bitCount 0 = .ok (.iload_n 0, 1) := by decide +kernel
theorem d_Integer_bitCount_1 : decode b_Integer_bitCount 1 = .ok (.iload_n 0, 1) := by decide +kernel
theorem d_Integer_bitCount_2 : decode b_Integer_bitCount 2 = .ok (.iconst 1, 1) := by decide +kernel
theorem d_Integer_bitCount_3 : decode b_Integer_bitCount 3 = .ok (.iushr, 1) := by decide +kernel
theorem d_Integer_bitCount_4 : decode b_Integer_bitCount 4 = .ok (.ldc_w 265, 3) := by decide +kernel
theorem d_Integer_bitCount_7 : decode b_Integer_bitCount 7 = .ok (.iand, 1) := by decide +kernel
theorem d_Integer_bitCount_8 : decode b_Integer_bitCount 8 = .ok (.isub, 1) := by decide +kernel
theorem d_Integer_bitCount_9 : decode b_Integer_bitCount 9 = .ok (.istore_n 0, 1) := by decide +kernel
theorem d_Integer_bitCount_10 : decode b_Integer_bitCount 10 = .ok (.iload_n 0, 1) := by decide +kernel
theorem d_Integer_bitCount_11 : decode b_Integer_bitCount 11 = .ok (.ldc_w 266, 3) := by decide +kernel
theorem d_Integer_bitCount_14 : decode b_Integer_bitCount 14 = .ok (.iand, 1) := by decide +kernel
theorem d_Integer_bitCount_15 : decode b_Integer_bitCount 15 = .ok (.iload_n 0, 1) := by decide +kernel
theorem d_Integer_bitCount_16 : decode b_Integer_bitCount 16 = .ok (.iconst 2, 1) := by decide +kernel
theorem d_Integer_bitCount_17 : decode b_Integer_bitCount 17 = .ok (.iushr, 1) := by decide +kernel
theorem d_Integer_bitCount_18 : decode b_Integer_bitCount 18 = .ok (.ldc_w 266, 3) := by decide +kernel
theorem d_Integer_bitCount_21 : decode b_Integer_bitCount 21 = .ok (.iand, 1) := by decide +kernel
theorem d_Integer_bitCount_22 : decode b_Integer_bitCount 22 = .ok (.iadd, 1) := by decide +kernel
theorem d_Integer_bitCount_23 : decode b_Integer_bitCount 23 = .ok (.istore_n 0, 1) := by decide +kernel
theorem d_Integer_bitCount_24 : decode b_Integer_bitCount 24 = .ok (.iload_n 0, 1) := by decide +kernel
theorem d_Integer_bitCount_25 : decode b_Integer_bitCount 25 = .ok (.iload_n 0, 1) := by decide +kernel
theorem d_Integer_bitCount_26 : decode b_Integer_bitCount 26 = .ok (.iconst 4, 1) := by decide +kernel
theorem d_Integer_bitCount_27 : decode b_Integer_bitCount 27 = .ok (.iushr, 1) := by decide +kernel
theorem d_Integer_bitCount_28 : decode b_Integer_bitCount 28 = .ok (.iadd, 1) := by decide +kernel
theorem d_Integer_bitCount_29 : decode b_Integer_bitCount 29 = .ok (.ldc_w 267, 3) := by decide +kernel
theorem d_Integer_bitCount_32 : decode b_Integer_bitCount 32 = .ok (.iand, 1) := by decide +kernel
theorem d_Integer_bitCount_33 : decode b_Integer_bitCount 33 = .ok (.istore_n 0, 1) := by decide +kernel
theorem d_Integer_bitCount_34 : decode b_Integer_bitCount 34 = .ok (.iload_n 0, 1) := by decide +kernel
theorem d_Integer_bitCount_35 : decode b_Integer_bitCount 35 = .ok (.iload_n 0, 1) := by decide +kernel
theorem d_Integer_bitCount_36 : decode b_Integer_bitCount 36 = .ok (.bipush 8, 2) := by decide +kernel
theorem d_Integer_bitCount_38 : decode b_Integer_bitCount 38 = .ok (.iushr, 1) := by decide +kernel
theorem d_Integer_bitCount_39 : decode b_Integer_bitCount 39 = .ok (.iadd, 1) := by decide +kernel
theorem d_Integer_bitCount_40 : decode b_Integer_bitCount 40 = .ok (.istore_n 0, 1) := by decide +kernel
theorem d_Integer_bitCount_41 : decode b_Integer_bitCount 41 = .ok (.iload_n 0, 1) := by decide +kernel
theorem d_Integer_bitCount_42 : decode b_Integer_bitCount 42 = .ok (.iload_n 0, 1) := by decide +kernel
theorem d_Integer_bitCount_43 : decode b_Integer_bitCount 43 = .ok (.bipush 16, 2) := by decide +kernel
theorem d_Integer_bitCount_45 : decode b_Integer_bitCount 45 = .ok (.iushr, 1) := by decide +kernel
theorem d_Integer_bitCount_46 : decode b_Integer_bitCount 46 = .ok (.iadd, 1) := by decide +kernel
theorem d_Integer_bitCount_47 : decode b_Integer_bitCount 47 = .ok (.istore_n 0, 1) := by decide +kernel
theorem d_Integer_bitCount_48 : decode b_Integer_bitCount 48 = .ok (.iload_n 0, 1) := by decide +kernel
theorem d_Integer_bitCount_49 : decode b_Integer_bitCount 49 = .ok (.bipush 63, 2) := by decide +kernel
theorem d_Integer_bitCount_51 : decode b_Integer_bitCount 51 = .ok (.iand, 1) := by decide +kernel
theorem d_Integer_bitCount_52 : decode b_Integer_bitCount 52 = .ok (.ireturn, 1) := by decide +kernel
theorem ok_Integer_bitCount : OKs y_Integer_bitCount b_Integer_bitCount 1 (some .int) 1 := ⟨k_198, k_197, k_49, by decide +kernel, by decide +kernel, by decide +kernel⟩
abbrev w_Integer_bitCount  : va_W := []
def f_Integer_bitCount (x0 : Int32) : Option (Int32) :=
  nm (x0 - (((x0.toUInt32 >>> ((1 : Int32).toUInt32 &&& Int32.toUInt32 31)).toInt32) &&& (1431655765 : Int32))) fun v1 =>
  nm ((v1 &&& (858993459 : Int32)) + (((v1.toUInt32 >>> ((2 : Int32).toUInt32 &&& Int32.toUInt32 31)).toInt32) &&& (858993459 : Int32))) fun v2 =>
  nm ((v2 + ((v2.toUInt32 >>> ((4 : Int32).toUInt32 &&& Int32.toUInt32 31)).toInt32)) &&& (252645135 : Int32)) fun v3 =>
  nm (v3 + ((v3.toUInt32 >>> ((8 : Int32).toUInt32 &&& Int32.toUInt32 31)).toInt32)) fun v4 =>
  nm (v4 + ((v4.toUInt32 >>> ((16 : Int32).toUInt32 &&& Int32.toUInt32 31)).toInt32)) fun v5 =>
  some (v5 &&& (63 : Int32))
set_option maxHeartbeats 4000000 in
set_option maxRecDepth 100000 in
theorem c_Integer_bitCount (l : Launch) (D : va_G) (cI cJ : ClassId) (tt : Nat → Nat) (sz : Nat) (x0 : Int32) (rr : Int32) (hm : f_Integer_bitCount x0 = some rr) : CTi l y_Integer_bitCount b_Integer_bitCount 1 (some .int) (RM 0 0) D cI cJ tt [.int x0] (w_Integer_bitCount) (w_Integer_bitCount) sz rr := by
  refine Met.ofW (cc := b_Integer_bitCount) (maxL := 1) (ret := (some .int)) (by decide) rfl ?_
  intro p e s m args below meth c s₁ B hml hv
  obtain ⟨hargs, hsz, hP, hK, hD0, hE⟩ := hv
  have hx := B.exec
  have hb := B.bytes
  have hr := B.returns
  have hts : ∀ w ∈ TB, w.before args s = true := z_mV s (atoms_spec (ws := WD y_Integer_bitCount b_Integer_bitCount 1 (some .int)) B.pre)
  have hown : s.vm.findClass "java/lang/Integer" = some m.cls := findClass_of_methodNamed B.named
  have hlocks := B.notSynchronized
  subst hsz
  have hD := hD0.self (sz := s.heap.size)
  generalize hAe : va_A (w_Integer_bitCount) s.heap.size = A at hD hE ⊢
  have hA : ∀ q : Nat, s.heap.size ≤ q → A q := fun q h => by rw [← hAe]; exact Or.inr h
  have hS : va_S A s.heap s.heap [] := va_S.rf
  refine z_entry (vs := [.int x0]) hargs (Nat.le_of_ble_eq_true rfl) (fun ls hl => ?_)
  have hl : lv_has ls 1 [(0, .int x0)] := hl
  show W p l e (RM 0 0) s m args below meth c s.heap [] 0 0 _ _
  refine z_qi (fun Q0 hQ => ?_)
  have F : CallFix p m c b_Integer_bitCount 1 s args TB "java/lang/Integer" := ⟨hx, hb, hml, hown, hts⟩
  unfold f_Integer_bitCount at hm
  refine lv_iload_n hx hb d_Integer_bitCount_0 rfl (lv_at hl 0 rfl) ?_
  refine lv_iload_n hx hb d_Integer_bitCount_1 rfl (lv_at hl 0 rfl) ?_
  refine lv_iconst (v := (1 : Int32)) hx hb d_Integer_bitCount_2 (by decide) ?_
  refine lv_iushr (v := ((x0.toUInt32 >>> ((1 : Int32).toUInt32 &&& Int32.toUInt32 31)).toInt32)) hx hb d_Integer_bitCount_3 rfl ?_
  refine lv_ldcw (v := (1431655765 : Int32)) hx hb hown (hts _ k_199) d_Integer_bitCount_4 ?_
  refine lv_iand hx hb d_Integer_bitCount_7 ?_
  refine lv_isub hx hb d_Integer_bitCount_8 ?_
  refine z_nmi hm (fun v1 hm => ?_)
  refine lv_istore_n (lv' := [(0, .int v1)]) hx hb d_Integer_bitCount_9 rfl hl (by decide) rfl (fun ls hl => ?_)
  refine lv_iload_n hx hb d_Integer_bitCount_10 rfl (lv_at hl 0 rfl) ?_
  refine lv_ldcw (v := (858993459 : Int32)) hx hb hown (hts _ k_200) d_Integer_bitCount_11 ?_
  refine lv_iand hx hb d_Integer_bitCount_14 ?_
  refine lv_iload_n hx hb d_Integer_bitCount_15 rfl (lv_at hl 0 rfl) ?_
  refine lv_iconst (v := (2 : Int32)) hx hb d_Integer_bitCount_16 (by decide) ?_
  refine lv_iushr (v := ((v1.toUInt32 >>> ((2 : Int32).toUInt32 &&& Int32.toUInt32 31)).toInt32)) hx hb d_Integer_bitCount_17 rfl ?_
  refine lv_ldcw (v := (858993459 : Int32)) hx hb hown (hts _ k_200) d_Integer_bitCount_18 ?_
  refine lv_iand hx hb d_Integer_bitCount_21 ?_
  refine lv_iadd hx hb d_Integer_bitCount_22 ?_
  refine z_nmi hm (fun v2 hm => ?_)
  refine lv_istore_n (lv' := [(0, .int v2)]) hx hb d_Integer_bitCount_23 rfl hl (by decide) rfl (fun ls hl => ?_)
  refine lv_iload_n hx hb d_Integer_bitCount_24 rfl (lv_at hl 0 rfl) ?_
  refine lv_iload_n hx hb d_Integer_bitCount_25 rfl (lv_at hl 0 rfl) ?_
  refine lv_iconst (v := (4 : Int32)) hx hb d_Integer_bitCount_26 (by decide) ?_
  refine lv_iushr (v := ((v2.toUInt32 >>> ((4 : Int32).toUInt32 &&& Int32.toUInt32 31)).toInt32)) hx hb d_Integer_bitCount_27 rfl ?_
  refine lv_iadd hx hb d_Integer_bitCount_28 ?_
  refine lv_ldcw (v := (252645135 : Int32)) hx hb hown (hts _ k_201) d_Integer_bitCount_29 ?_
  refine lv_iand hx hb d_Integer_bitCount_32 ?_
  refine z_nmi hm (fun v3 hm => ?_)
  refine lv_istore_n (lv' := [(0, .int v3)]) hx hb d_Integer_bitCount_33 rfl hl (by decide) rfl (fun ls hl => ?_)
  refine lv_iload_n hx hb d_Integer_bitCount_34 rfl (lv_at hl 0 rfl) ?_
  refine lv_iload_n hx hb d_Integer_bitCount_35 rfl (lv_at hl 0 rfl) ?_
  refine lv_bipush (v := (8 : Int32)) hx hb d_Integer_bitCount_36 (by decide) ?_
  refine lv_iushr (v := ((v3.toUInt32 >>> ((8 : Int32).toUInt32 &&& Int32.toUInt32 31)).toInt32)) hx hb d_Integer_bitCount_38 rfl ?_
  refine lv_iadd hx hb d_Integer_bitCount_39 ?_
  refine z_nmi hm (fun v4 hm => ?_)
  refine lv_istore_n (lv' := [(0, .int v4)]) hx hb d_Integer_bitCount_40 rfl hl (by decide) rfl (fun ls hl => ?_)
  refine lv_iload_n hx hb d_Integer_bitCount_41 rfl (lv_at hl 0 rfl) ?_
  refine lv_iload_n hx hb d_Integer_bitCount_42 rfl (lv_at hl 0 rfl) ?_
  refine lv_bipush (v := (16 : Int32)) hx hb d_Integer_bitCount_43 (by decide) ?_
  refine lv_iushr (v := ((v4.toUInt32 >>> ((16 : Int32).toUInt32 &&& Int32.toUInt32 31)).toInt32)) hx hb d_Integer_bitCount_45 rfl ?_
  refine lv_iadd hx hb d_Integer_bitCount_46 ?_
  refine z_nmi hm (fun v5 hm => ?_)
  refine lv_istore_n (lv' := [(0, .int v5)]) hx hb d_Integer_bitCount_47 rfl hl (by decide) rfl (fun ls hl => ?_)
  refine lv_iload_n hx hb d_Integer_bitCount_48 rfl (lv_at hl 0 rfl) ?_
  refine lv_bipush (v := (63 : Int32)) hx hb d_Integer_bitCount_49 (by decide) ?_
  refine lv_iand hx hb d_Integer_bitCount_51 ?_
  cases hm
  exact z_qo hQ (z_ireti hr hx hb hlocks hK hP hD hS d_Integer_bitCount_52)
-- DeepChannel$Coder.pairOf(I)I
abbrev b_Coder_pairOf : ByteArray := prog_3_method_4_code
abbrev y_Coder_pairOf : MethodName := ⟨"DeepChannel$Coder", "pairOf", "(I)I"⟩
theorem d_Coder_pairOf_0 : decode b_Coder_pairOf 0 = .ok (.iload_n 0, 1) := by decide +kernel
theorem d_Coder_pairOf_1 : decode b_Coder_pairOf 1 = .ok (.bipush 121, 2) := by decide +kernel
theorem d_Coder_pairOf_3 : decode b_Coder_pairOf 3 = .ok (.iand, 1) := by decide +kernel
theorem d_Coder_pairOf_4 : decode b_Coder_pairOf 4 = .ok (.invokestatic 26, 3) := by decide +kernel
theorem d_Coder_pairOf_7 : decode b_Coder_pairOf 7 = .ok (.iconst 1, 1) := by decide +kernel
theorem d_Coder_pairOf_8 : decode b_Coder_pairOf 8 = .ok (.iand, 1) := by decide +kernel
theorem d_Coder_pairOf_9 : decode b_Coder_pairOf 9 = .ok (.istore_n 1, 1) := by decide +kernel
theorem d_Coder_pairOf_10 : decode b_Coder_pairOf 10 = .ok (.iconst 1, 1) := by decide +kernel
theorem d_Coder_pairOf_11 : decode b_Coder_pairOf 11 = .ok (.iload_n 0, 1) := by decide +kernel
theorem d_Coder_pairOf_12 : decode b_Coder_pairOf 12 = .ok (.bipush 91, 2) := by decide +kernel
theorem d_Coder_pairOf_14 : decode b_Coder_pairOf 14 = .ok (.iand, 1) := by decide +kernel
theorem d_Coder_pairOf_15 : decode b_Coder_pairOf 15 = .ok (.invokestatic 26, 3) := by decide +kernel
theorem d_Coder_pairOf_18 : decode b_Coder_pairOf 18 = .ok (.iconst 1, 1) := by decide +kernel
theorem d_Coder_pairOf_19 : decode b_Coder_pairOf 19 = .ok (.iand, 1) := by decide +kernel
theorem d_Coder_pairOf_20 : decode b_Coder_pairOf 20 = .ok (.isub, 1) := by decide +kernel
theorem d_Coder_pairOf_21 : decode b_Coder_pairOf 21 = .ok (.istore_n 2, 1) := by decide +kernel
theorem d_Coder_pairOf_22 : decode b_Coder_pairOf 22 = .ok (.iload_n 1, 1) := by decide +kernel
theorem d_Coder_pairOf_23 : decode b_Coder_pairOf 23 = .ok (.iload_n 2, 1) := by decide +kernel
theorem d_Coder_pairOf_24 : decode b_Coder_pairOf 24 = .ok (.iconst 1, 1) := by decide +kernel
theorem d_Coder_pairOf_25 : decode b_Coder_pairOf 25 = .ok (.ishl, 1) := by decide +kernel
theorem d_Coder_pairOf_26 : decode b_Coder_pairOf 26 = .ok (.ior, 1) := by decide +kernel
theorem d_Coder_pairOf_27 : decode b_Coder_pairOf 27 = .ok (.ireturn, 1) := by decide +kernel
theorem ok_Coder_pairOf : OKs y_Coder_pairOf b_Coder_pairOf 3 (some .int) 1 := ⟨k_284, k_283, k_51, by decide +kernel, by decide +kernel, by decide +kernel⟩
abbrev w_Coder_pairOf  : va_W := []
def f_Coder_pairOf (x0 : Int32) : Option (Int32) :=
  bd (f_Integer_bitCount (x0 &&& (121 : Int32))) fun u2 =>
  nm u2 fun r1 =>
  nm (r1 &&& (1 : Int32)) fun v3 =>
  bd (f_Integer_bitCount (x0 &&& (91 : Int32))) fun u5 =>
  nm u5 fun r4 =>
  nm ((1 : Int32) - (r4 &&& (1 : Int32))) fun v6 =>
  some (v3 ||| (v6 <<< ((1 : Int32) &&& 31)))
set_option maxHeartbeats 4000000 in
set_option maxRecDepth 100000 in
theorem c_Coder_pairOf (l : Launch) (D : va_G) (cI cJ : ClassId) (tt : Nat → Nat) (sz : Nat) (x0 : Int32) (rr : Int32) (hm : f_Coder_pairOf x0 = some rr) : CTi l y_Coder_pairOf b_Coder_pairOf 3 (some .int) (RM 1 20) D cI cJ tt [.int x0] (w_Coder_pairOf) (w_Coder_pairOf) sz rr := by
  refine Met.ofW (cc := b_Coder_pairOf) (maxL := 3) (ret := (some .int)) (by decide) rfl ?_
  intro p e s m args below meth c s₁ B hml hv
  obtain ⟨hargs, hsz, hP, hK, hD0, hE⟩ := hv
  have hx := B.exec
  have hb := B.bytes
  have hr := B.returns
  have hts : ∀ w ∈ TB, w.before args s = true := z_mV s (atoms_spec (ws := WD y_Coder_pairOf b_Coder_pairOf 3 (some .int)) B.pre)
  have hown : s.vm.findClass "DeepChannel$Coder" = some m.cls := findClass_of_methodNamed B.named
  have hlocks := B.notSynchronized
  subst hsz
  have hD := hD0.self (sz := s.heap.size)
  generalize hAe : va_A (w_Coder_pairOf) s.heap.size = A at hD hE ⊢
  have hA : ∀ q : Nat, s.heap.size ≤ q → A q := fun q h => by rw [← hAe]; exact Or.inr h
  have hS : va_S A s.heap s.heap [] := va_S.rf
  refine z_entry (vs := [.int x0]) hargs (Nat.le_of_ble_eq_true rfl) (fun ls hl => ?_)
  have hl : lv_has ls 3 [(0, .int x0)] := hl
  show W p l e (RM 1 20) s m args below meth c s.heap [] 0 0 _ _
  refine z_qi (fun Q0 hQ => ?_)
  have F : CallFix p m c b_Coder_pairOf 3 s args TB "DeepChannel$Coder" := ⟨hx, hb, hml, hown, hts⟩
  unfold f_Coder_pairOf at hm
  refine lv_iload_n hx hb d_Coder_pairOf_0 rfl (lv_at hl 0 rfl) ?_
  refine lv_bipush (v := (121 : Int32)) hx hb d_Coder_pairOf_1 (by decide) ?_
  refine lv_iand hx hb d_Coder_pairOf_3 ?_
  obtain ⟨r1, hu, hm⟩ := bd_el hm
  replace hm := nm_1 hm
  refine z_cSi (wc := w_Integer_bitCount) (wc' := w_Integer_bitCount) (wr := []) (As := [.int (x0 &&& (121 : Int32))]) (rest := []) (c_Integer_bitCount l D cI cJ tt _ (x0 &&& (121 : Int32)) r1 hu) F ok_Integer_bitCount k_285 hK hE hP hD hS hA [] [] rfl rfl (by decide) (by decide) (by decide) ⟨rfl, rfl, Nat.le_of_ble_eq_true rfl, Nat.le_of_ble_eq_true rfl⟩ ⟨Nat.zero_le _, Nat.zero_le _⟩ rfl hl.1 rfl (Nat.le_of_ble_eq_true rfl) d_Coder_pairOf_4 (fun H locs hP hD hS => ?_)
  have hP : va_P D classes (w_Coder_pairOf) H := hP.sub [] rfl
  have hD : va_D A (w_Coder_pairOf) := hD.sub [] (by decide) rfl
  refine lv_iconst (v := (1 : Int32)) hx hb d_Coder_pairOf_7 (by decide) ?_
  refine lv_iand hx hb d_Coder_pairOf_8 ?_
  refine z_nmi hm (fun v3 hm => ?_)
  refine lv_istore_n (lv' := [(1, .int v3), (0, .int x0)]) hx hb d_Coder_pairOf_9 rfl hl (by decide) rfl (fun ls hl => ?_)
  refine lv_iconst (v := (1 : Int32)) hx hb d_Coder_pairOf_10 (by decide) ?_
  refine lv_iload_n hx hb d_Coder_pairOf_11 rfl (lv_at hl 1 rfl) ?_
  refine lv_bipush (v := (91 : Int32)) hx hb d_Coder_pairOf_12 (by decide) ?_
  refine lv_iand hx hb d_Coder_pairOf_14 ?_
  obtain ⟨r4, hu, hm⟩ := bd_el hm
  replace hm := nm_1 hm
  refine z_cSi (wc := w_Integer_bitCount) (wc' := w_Integer_bitCount) (wr := []) (As := [.int (x0 &&& (91 : Int32))]) (rest := [.int (1 : Int32)]) (c_Integer_bitCount l D cI cJ tt _ (x0 &&& (91 : Int32)) r4 hu) F ok_Integer_bitCount k_285 hK hE hP hD hS hA [] [] rfl rfl (by decide) (by decide) (by decide) ⟨rfl, rfl, Nat.le_of_ble_eq_true rfl, Nat.le_of_ble_eq_true rfl⟩ ⟨Nat.zero_le _, Nat.zero_le _⟩ rfl hl.1 rfl (Nat.le_of_ble_eq_true rfl) d_Coder_pairOf_15 (fun H locs hP hD hS => ?_)
  have hP : va_P D classes (w_Coder_pairOf) H := hP.sub [] rfl
  have hD : va_D A (w_Coder_pairOf) := hD.sub [] (by decide) rfl
  refine lv_iconst (v := (1 : Int32)) hx hb d_Coder_pairOf_18 (by decide) ?_
  refine lv_iand hx hb d_Coder_pairOf_19 ?_
  refine lv_isub hx hb d_Coder_pairOf_20 ?_
  refine z_nmi hm (fun v6 hm => ?_)
  refine lv_istore_n (lv' := [(2, .int v6), (1, .int v3), (0, .int x0)]) hx hb d_Coder_pairOf_21 rfl hl (by decide) rfl (fun ls hl => ?_)
  refine lv_iload_n hx hb d_Coder_pairOf_22 rfl (lv_at hl 1 rfl) ?_
  refine lv_iload_n hx hb d_Coder_pairOf_23 rfl (lv_at hl 0 rfl) ?_
  refine lv_iconst (v := (1 : Int32)) hx hb d_Coder_pairOf_24 (by decide) ?_
  refine lv_ishl hx hb d_Coder_pairOf_25 ?_
  refine lv_ior hx hb d_Coder_pairOf_26 ?_
  cases hm
  exact z_qo hQ (z_ireti hr hx hb hlocks hK hP hD hS d_Coder_pairOf_27)
-- DeepChannel$Coder.restart()V
abbrev b_Coder_restart : ByteArray := prog_3_method_2_code
abbrev y_Coder_restart : MethodName := ⟨"DeepChannel$Coder", "restart", "()V"⟩
theorem d_Coder_restart_0 : decode b_Coder_restart 0 = .ok (.aload_n 0, 1) := by decide +kernel
theorem d_Coder_restart_1 : decode b_Coder_restart 1 = .ok (.iconst 0, 1) := by decide +kernel
theorem d_Coder_restart_2 : decode b_Coder_restart 2 = .ok (.putfield 9, 3) := by decide +kernel
theorem d_Coder_restart_5 : decode b_Coder_restart 5 = .ok (.aload_n 0, 1) := by decide +kernel
theorem d_Coder_restart_6 : decode b_Coder_restart 6 = .ok (.iconst 0, 1) := by decide +kernel
theorem d_Coder_restart_7 : decode b_Coder_restart 7 = .ok (.putfield 15, 3) := by decide +kernel
theorem d_Coder_restart_10 : decode b_Coder_restart 10 = .ok (.return_, 1) := by decide +kernel
theorem ok_Coder_restart : OKv y_Coder_restart b_Coder_restart 1 none "DeepChannel$Coder" 0 := ⟨k_487, k_485, k_486, k_51, by decide +kernel, by decide +kernel, by decide +kernel⟩
abbrev w_Coder_restart (cI cJ : ClassId) (qCd : Nat) (Cd_shape Cd_row : Value) (Cd_register : Int32) (Cd_put : Int32) : va_W := [(qCd, .inr (1, [Cd_shape, Cd_row, .int Cd_register, .int Cd_put]))]
def f_Coder_restart (Cd_register : Int32) (Cd_put : Int32) : Option (Int32 × Int32) :=
  some ((0 : Int32), (0 : Int32))
set_option maxHeartbeats 4000000 in
set_option maxRecDepth 100000 in
theorem c_Coder_restart (l : Launch) (D : va_G) (cI cJ : ClassId) (tt : Nat → Nat) (qCd : Nat) (Cd_shape Cd_row : Value) (sz : Nat) (Cd_register : Int32) (Cd_put : Int32) (Cd_register' : Int32) (Cd_put' : Int32) (hm : f_Coder_restart Cd_register Cd_put = some (Cd_register', Cd_put')) : CTv l y_Coder_restart b_Coder_restart 1 none (RM 0 0) D cI cJ tt [.ref qCd] (w_Coder_restart cI cJ qCd Cd_shape Cd_row Cd_register Cd_put) (w_Coder_restart cI cJ qCd Cd_shape Cd_row Cd_register' Cd_put') sz := by
  refine Met.ofW (cc := b_Coder_restart) (maxL := 1) (ret := none) (by decide) rfl ?_
  intro p e s m args below meth c s₁ B hml hv
  obtain ⟨hargs, hsz, hP, hK, hD0, hE⟩ := hv
  have hx := B.exec
  have hb := B.bytes
  have hr := B.returns
  have hts : ∀ w ∈ TB, w.before args s = true := z_mV s (atoms_spec (ws := WD y_Coder_restart b_Coder_restart 1 none) B.pre)
  have hown : s.vm.findClass "DeepChannel$Coder" = some m.cls := findClass_of_methodNamed B.named
  have hlocks := B.notSynchronized
  subst hsz
  have hD := hD0.self (sz := s.heap.size)
  generalize hAe : va_A (w_Coder_restart cI cJ qCd Cd_shape Cd_row Cd_register Cd_put) s.heap.size = A at hD hE ⊢
  have hA : ∀ q : Nat, s.heap.size ≤ q → A q := fun q h => by rw [← hAe]; exact Or.inr h
  have hS : va_S A s.heap s.heap [] := va_S.rf
  refine z_entry (vs := [.ref qCd]) hargs (Nat.le_of_ble_eq_true rfl) (fun ls hl => ?_)
  have hl : lv_has ls 1 [(0, .ref qCd)] := hl
  show W p l e (RM 0 0) s m args below meth c s.heap [] 0 0 _ _
  refine z_qi (fun Q0 hQ => ?_)
  have F : CallFix p m c b_Coder_restart 1 s args TB "DeepChannel$Coder" := ⟨hx, hb, hml, hown, hts⟩
  unfold f_Coder_restart at hm
  refine lv_aload_n hx hb d_Coder_restart_0 rfl (lv_at hl 0 rfl) ?_
  refine lv_iconst (v := (0 : Int32)) hx hb d_Coder_restart_1 (by decide) ?_
  refine va_put (D := D) (ci := 1) (v := .int (0 : Int32)) (ty := .int) (C := "DeepChannel$Coder") (T := fT_Coder) (N := 4) hx hb hts u_Coder fY_Coder fK_Coder fN_Coder hown hK hP hD hS 0 rfl rfl 2 (by decide) (hts _ k_228) (fun _ h9 => h9) rfl (by decide +kernel) rfl rfl (Nat.le_of_ble_eq_true rfl) d_Coder_restart_2 (fun H locs hP hD hS => ?_)
  have hP : va_P D classes (w_Coder_restart cI cJ qCd Cd_shape Cd_row (0 : Int32) Cd_put) H := hP
  have hD : va_D A (w_Coder_restart cI cJ qCd Cd_shape Cd_row (0 : Int32) Cd_put) := hD
  refine lv_aload_n hx hb d_Coder_restart_5 rfl (lv_at hl 0 rfl) ?_
  refine lv_iconst (v := (0 : Int32)) hx hb d_Coder_restart_6 (by decide) ?_
  refine va_put (D := D) (ci := 1) (v := .int (0 : Int32)) (ty := .int) (C := "DeepChannel$Coder") (T := fT_Coder) (N := 4) hx hb hts u_Coder fY_Coder fK_Coder fN_Coder hown hK hP hD hS 0 rfl rfl 3 (by decide) (hts _ k_229) (fun _ h9 => h9) rfl (by decide +kernel) rfl rfl (Nat.le_of_ble_eq_true rfl) d_Coder_restart_7 (fun H locs hP hD hS => ?_)
  have hP : va_P D classes (w_Coder_restart cI cJ qCd Cd_shape Cd_row (0 : Int32) (0 : Int32)) H := hP
  have hD : va_D A (w_Coder_restart cI cJ qCd Cd_shape Cd_row (0 : Int32) (0 : Int32)) := hD
  cases hm
  exact z_qo hQ (z_vret hr hx hb hlocks hK hP hD hS d_Coder_restart_10)
-- DeepChannel$Coder.bitsPut()I
abbrev b_Coder_bitsPut : ByteArray := prog_3_method_3_code
abbrev y_Coder_bitsPut : MethodName := ⟨"DeepChannel$Coder", "bitsPut", "()I"⟩
theorem d_Coder_bitsPut_0 : decode b_Coder_bitsPut 0 = .ok (.aload_n 0, 1) := by decide +kernel
theorem d_Coder_bitsPut_1 : decode b_Coder_bitsPut 1 = .ok (.getfield 15, 3) := by decide +kernel
theorem d_Coder_bitsPut_4 : decode b_Coder_bitsPut 4 = .ok (.ireturn, 1) := by decide +kernel
theorem ok_Coder_bitsPut : OKv y_Coder_bitsPut b_Coder_bitsPut 1 (some .int) "DeepChannel$Coder" 0 := ⟨k_687, k_685, k_686, k_51, by decide +kernel, by decide +kernel, by decide +kernel⟩
abbrev w_Coder_bitsPut (cI cJ : ClassId) (qCd : Nat) (Cd_shape Cd_row Cd_register : Value) (Cd_put : Int32) : va_W := [(qCd, .inr (1, [Cd_shape, Cd_row, Cd_register, .int Cd_put]))]
def f_Coder_bitsPut (Cd_put : Int32) : Option (Int32) :=
  some Cd_put
set_option maxHeartbeats 4000000 in
set_option maxRecDepth 100000 in
theorem c_Coder_bitsPut (l : Launch) (D : va_G) (cI cJ : ClassId) (tt : Nat → Nat) (qCd : Nat) (Cd_shape Cd_row Cd_register : Value) (sz : Nat) (Cd_put : Int32) (rr : Int32) (hm : f_Coder_bitsPut Cd_put = some rr) : CTi l y_Coder_bitsPut b_Coder_bitsPut 1 (some .int) (RM 0 0) D cI cJ tt [.ref qCd] (w_Coder_bitsPut cI cJ qCd Cd_shape Cd_row Cd_register Cd_put) (w_Coder_bitsPut cI cJ qCd Cd_shape Cd_row Cd_register Cd_put) sz rr := by
  refine Met.ofW (cc := b_Coder_bitsPut) (maxL := 1) (ret := (some .int)) (by decide) rfl ?_
  intro p e s m args below meth c s₁ B hml hv
  obtain ⟨hargs, hsz, hP, hK, hD0, hE⟩ := hv
  have hx := B.exec
  have hb := B.bytes
  have hr := B.returns
  have hts : ∀ w ∈ TB, w.before args s = true := z_mV s (atoms_spec (ws := WD y_Coder_bitsPut b_Coder_bitsPut 1 (some .int)) B.pre)
  have hown : s.vm.findClass "DeepChannel$Coder" = some m.cls := findClass_of_methodNamed B.named
  have hlocks := B.notSynchronized
  subst hsz
  have hD := hD0.self (sz := s.heap.size)
  generalize hAe : va_A (w_Coder_bitsPut cI cJ qCd Cd_shape Cd_row Cd_register Cd_put) s.heap.size = A at hD hE ⊢
  have hA : ∀ q : Nat, s.heap.size ≤ q → A q := fun q h => by rw [← hAe]; exact Or.inr h
  have hS : va_S A s.heap s.heap [] := va_S.rf
  refine z_entry (vs := [.ref qCd]) hargs (Nat.le_of_ble_eq_true rfl) (fun ls hl => ?_)
  have hl : lv_has ls 1 [(0, .ref qCd)] := hl
  show W p l e (RM 0 0) s m args below meth c s.heap [] 0 0 _ _
  refine z_qi (fun Q0 hQ => ?_)
  have F : CallFix p m c b_Coder_bitsPut 1 s args TB "DeepChannel$Coder" := ⟨hx, hb, hml, hown, hts⟩
  unfold f_Coder_bitsPut at hm
  refine lv_aload_n hx hb d_Coder_bitsPut_0 rfl (lv_at hl 0 rfl) ?_
  refine va_get (D := D) (ci := 1) (v := .int Cd_put) (C := "DeepChannel$Coder") (T := fT_Coder) (N := 4) hx hb hts u_Coder hown hK hP 0 rfl rfl 3 (by decide) (hts _ k_229) (fun _ h9 => h9) rfl d_Coder_bitsPut_1 ?_
  cases hm
  exact z_qo hQ (z_ireti hr hx hb hlocks hK hP hD hS d_Coder_bitsPut_4)
-- DeepChannel$Coder.keptAt(II)I
abbrev b_Coder_keptAt : ByteArray := prog_3_method_5_code
abbrev y_Coder_keptAt : MethodName := ⟨"DeepChannel$Coder", "keptAt", "(II)I"⟩
theorem d_Coder_keptAt_0 : decode b_Coder_keptAt 0 = .ok (.getstatic 32, 3) := by decide +kernel
theorem d_Coder_keptAt_3 : decode b_Coder_keptAt 3 = .ok (.iload_n 0, 1) := by decide +kernel
theorem d_Coder_keptAt_4 : decode b_Coder_keptAt 4 = .ok (.iaload, 1) := by decide +kernel
theorem d_Coder_keptAt_5 : decode b_Coder_keptAt 5 = .ok (.iconst 1, 1) := by decide +kernel
theorem d_Coder_keptAt_6 : decode b_Coder_keptAt 6 = .ok (.isub, 1) := by decide +kernel
theorem d_Coder_keptAt_7 : decode b_Coder_keptAt 7 = .ok (.iload_n 1, 1) := by decide +kernel
theorem d_Coder_keptAt_8 : decode b_Coder_keptAt 8 = .ok (.getstatic 32, 3) := by decide +kernel
theorem d_Coder_keptAt_11 : decode b_Coder_keptAt 11 = .ok (.iload_n 0, 1) := by decide +kernel
theorem d_Coder_keptAt_12 : decode b_Coder_keptAt 12 = .ok (.iaload, 1) := by decide +kernel
theorem d_Coder_keptAt_13 : decode b_Coder_keptAt 13 = .ok (.irem, 1) := by decide +kernel
theorem d_Coder_keptAt_14 : decode b_Coder_keptAt 14 = .ok (.isub, 1) := by decide +kernel
theorem d_Coder_keptAt_15 : decode b_Coder_keptAt 15 = .ok (.istore_n 2, 1) := by decide +kernel
theorem d_Coder_keptAt_16 : decode b_Coder_keptAt 16 = .ok (.getstatic 36, 3) := by decide +kernel
theorem d_Coder_keptAt_19 : decode b_Coder_keptAt 19 = .ok (.iload_n 0, 1) := by decide +kernel
theorem d_Coder_keptAt_20 : decode b_Coder_keptAt 20 = .ok (.iaload, 1) := by decide +kernel
theorem d_Coder_keptAt_21 : decode b_Coder_keptAt 21 = .ok (.iload_n 2, 1) := by decide +kernel
theorem d_Coder_keptAt_22 : decode b_Coder_keptAt 22 = .ok (.ishr, 1) := by decide +kernel
theorem d_Coder_keptAt_23 : decode b_Coder_keptAt 23 = .ok (.iconst 1, 1) := by decide +kernel
theorem d_Coder_keptAt_24 : decode b_Coder_keptAt 24 = .ok (.iand, 1) := by decide +kernel
theorem d_Coder_keptAt_25 : decode b_Coder_keptAt 25 = .ok (.getstatic 39, 3) := by decide +kernel
theorem d_Coder_keptAt_28 : decode b_Coder_keptAt 28 = .ok (.iload_n 0, 1) := by decide +kernel
theorem d_Coder_keptAt_29 : decode b_Coder_keptAt 29 = .ok (.iaload, 1) := by decide +kernel
theorem d_Coder_keptAt_30 : decode b_Coder_keptAt 30 = .ok (.iload_n 2, 1) := by decide +kernel
theorem d_Coder_keptAt_31 : decode b_Coder_keptAt 31 = .ok (.ishr, 1) := by decide +kernel
theorem d_Coder_keptAt_32 : decode b_Coder_keptAt 32 = .ok (.iconst 1, 1) := by decide +kernel
theorem d_Coder_keptAt_33 : decode b_Coder_keptAt 33 = .ok (.iand, 1) := by decide +kernel
theorem d_Coder_keptAt_34 : decode b_Coder_keptAt 34 = .ok (.iconst 1, 1) := by decide +kernel
theorem d_Coder_keptAt_35 : decode b_Coder_keptAt 35 = .ok (.ishl, 1) := by decide +kernel
theorem d_Coder_keptAt_36 : decode b_Coder_keptAt 36 = .ok (.ior, 1) := by decide +kernel
theorem d_Coder_keptAt_37 : decode b_Coder_keptAt 37 = .ok (.ireturn, 1) := by decide +kernel
theorem ok_Coder_keptAt : OKs y_Coder_keptAt b_Coder_keptAt 3 (some .int) 2 := ⟨k_600, k_599, k_51, by decide +kernel, by decide +kernel, by decide +kernel⟩
abbrev w_Coder_keptAt  : va_W := []
def f_Coder_keptAt (x0 : Int32) (x1 : Int32) : Option (Int32) :=
  rdI stP 5 x0 fun v1 =>
  rdI stP 5 x0 fun v2 =>
  dv v2 <|
  nm ((v1 - (1 : Int32)) - (x1 - x1 / v2 * v2)) fun v3 =>
  rdI stF 5 x0 fun v4 =>
  rdI stS 5 x0 fun v5 =>
  some (((v4 >>> (v3 &&& 31)) &&& (1 : Int32)) ||| (((v5 >>> (v3 &&& 31)) &&& (1 : Int32)) <<< ((1 : Int32) &&& 31)))
set_option maxHeartbeats 4000000 in
set_option maxRecDepth 100000 in
theorem c_Coder_keptAt (l : Launch) (D : va_G) (cI cJ : ClassId) (tt : Nat → Nat) (sz : Nat) (x0 : Int32) (x1 : Int32) (rr : Int32) (hm : f_Coder_keptAt x0 x1 = some rr) : CTi l y_Coder_keptAt b_Coder_keptAt 3 (some .int) (RM 0 0) D cI cJ tt [.int x0, .int x1] (w_Coder_keptAt) (w_Coder_keptAt) sz rr := by
  refine Met.ofW (cc := b_Coder_keptAt) (maxL := 3) (ret := (some .int)) (by decide) rfl ?_
  intro p e s m args below meth c s₁ B hml hv
  obtain ⟨hargs, hsz, hP, hK, hD0, hE⟩ := hv
  have hx := B.exec
  have hb := B.bytes
  have hr := B.returns
  have hts : ∀ w ∈ TB, w.before args s = true := z_mV s (atoms_spec (ws := WD y_Coder_keptAt b_Coder_keptAt 3 (some .int)) B.pre)
  have hown : s.vm.findClass "DeepChannel$Coder" = some m.cls := findClass_of_methodNamed B.named
  have hlocks := B.notSynchronized
  subst hsz
  have hD := hD0.self (sz := s.heap.size)
  generalize hAe : va_A (w_Coder_keptAt) s.heap.size = A at hD hE ⊢
  have hA : ∀ q : Nat, s.heap.size ≤ q → A q := fun q h => by rw [← hAe]; exact Or.inr h
  have hS : va_S A s.heap s.heap [] := va_S.rf
  refine z_entry (vs := [.int x0, .int x1]) hargs (Nat.le_of_ble_eq_true rfl) (fun ls hl => ?_)
  have hl : lv_has ls 3 [(0, .int x0), (1, .int x1)] := hl
  show W p l e (RM 0 0) s m args below meth c s.heap [] 0 0 _ _
  refine z_qi (fun Q0 hQ => ?_)
  have F : CallFix p m c b_Coder_keptAt 3 s args TB "DeepChannel$Coder" := ⟨hx, hb, hml, hown, hts⟩
  unfold f_Coder_keptAt at hm
  refine z_gets hE.2.2.1 hx hb hS hown hts k_601 d_Coder_keptAt_0 ?_
  refine lv_iload_n hx hb d_Coder_keptAt_3 rfl (lv_at hl 0 rfl) ?_
  refine z_tI hm hx hb hE.2.2.1 hS d_Coder_keptAt_4 (fun v1 hm => ?_)
  refine lv_iconst (v := (1 : Int32)) hx hb d_Coder_keptAt_5 (by decide) ?_
  refine lv_isub hx hb d_Coder_keptAt_6 ?_
  refine lv_iload_n hx hb d_Coder_keptAt_7 rfl (lv_at hl 1 rfl) ?_
  refine z_gets hE.2.2.1 hx hb hS hown hts k_601 d_Coder_keptAt_8 ?_
  refine lv_iload_n hx hb d_Coder_keptAt_11 rfl (lv_at hl 0 rfl) ?_
  refine z_tI hm hx hb hE.2.2.1 hS d_Coder_keptAt_12 (fun v2 hm => ?_)
  refine z_irem hm hx hb d_Coder_keptAt_13 (fun hm => ?_)
  refine lv_isub hx hb d_Coder_keptAt_14 ?_
  refine z_nmi hm (fun v3 hm => ?_)
  refine lv_istore_n (lv' := [(2, .int v3), (0, .int x0), (1, .int x1)]) hx hb d_Coder_keptAt_15 rfl hl (by decide) rfl (fun ls hl => ?_)
  refine z_gets hE.2.2.2.1 hx hb hS hown hts k_603 d_Coder_keptAt_16 ?_
  refine lv_iload_n hx hb d_Coder_keptAt_19 rfl (lv_at hl 1 rfl) ?_
  refine z_tI hm hx hb hE.2.2.2.1 hS d_Coder_keptAt_20 (fun v4 hm => ?_)
  refine lv_iload_n hx hb d_Coder_keptAt_21 rfl (lv_at hl 0 rfl) ?_
  refine lv_ishr hx hb d_Coder_keptAt_22 ?_
  refine lv_iconst (v := (1 : Int32)) hx hb d_Coder_keptAt_23 (by decide) ?_
  refine lv_iand hx hb d_Coder_keptAt_24 ?_
  refine z_gets hE.2.2.2.2 hx hb hS hown hts k_605 d_Coder_keptAt_25 ?_
  refine lv_iload_n hx hb d_Coder_keptAt_28 rfl (lv_at hl 1 rfl) ?_
  refine z_tI hm hx hb hE.2.2.2.2 hS d_Coder_keptAt_29 (fun v5 hm => ?_)
  refine lv_iload_n hx hb d_Coder_keptAt_30 rfl (lv_at hl 0 rfl) ?_
  refine lv_ishr hx hb d_Coder_keptAt_31 ?_
  refine lv_iconst (v := (1 : Int32)) hx hb d_Coder_keptAt_32 (by decide) ?_
  refine lv_iand hx hb d_Coder_keptAt_33 ?_
  refine lv_iconst (v := (1 : Int32)) hx hb d_Coder_keptAt_34 (by decide) ?_
  refine lv_ishl hx hb d_Coder_keptAt_35 ?_
  refine lv_ior hx hb d_Coder_keptAt_36 ?_
  cases hm
  exact z_qo hQ (z_ireti hr hx hb hlocks hK hP hD hS d_Coder_keptAt_37)
-- DeepChannel$Coder.hasRoomFor(I)Z
abbrev b_Coder_hasRoomFor : ByteArray := prog_3_method_6_code
abbrev y_Coder_hasRoomFor : MethodName := ⟨"DeepChannel$Coder", "hasRoomFor", "(I)Z"⟩
theorem d_Coder_hasRoomFor_0 : decode b_Coder_hasRoomFor 0 = .ok (.aload_n 0, 1) := by decide +kernel
theorem d_Coder_hasRoomFor_1 : decode b_Coder_hasRoomFor 1 = .ok (.getfield 22, 3) := by decide +kernel
theorem d_Coder_hasRoomFor_4 : decode b_Coder_hasRoomFor 4 = .ok (.invokevirtual 42, 3) := by decide +kernel
theorem d_Coder_hasRoomFor_7 : decode b_Coder_hasRoomFor 7 = .ok (.istore_n 2, 1) := by decide +kernel
theorem d_Coder_hasRoomFor_8 : decode b_Coder_hasRoomFor 8 = .ok (.iconst 0, 1) := by decide +kernel
theorem d_Coder_hasRoomFor_9 : decode b_Coder_hasRoomFor 9 = .ok (.istore_n 3, 1) := by decide +kernel
theorem d_Coder_hasRoomFor_10 : decode b_Coder_hasRoomFor 10 = .ok (.iload_n 3, 1) := by decide +kernel
theorem d_Coder_hasRoomFor_11 : decode b_Coder_hasRoomFor 11 = .ok (.iload_n 1, 1) := by decide +kernel
theorem d_Coder_hasRoomFor_12 : decode b_Coder_hasRoomFor 12 = .ok (.if_icmp .ge 31, 3) := by decide +kernel
theorem d_Coder_hasRoomFor_15 : decode b_Coder_hasRoomFor 15 = .ok (.iload_n 2, 1) := by decide +kernel
theorem d_Coder_hasRoomFor_16 : decode b_Coder_hasRoomFor 16 = .ok (.aload_n 0, 1) := by decide +kernel
theorem d_Coder_hasRoomFor_17 : decode b_Coder_hasRoomFor 17 = .ok (.getfield 18, 3) := by decide +kernel
theorem d_Coder_hasRoomFor_20 : decode b_Coder_hasRoomFor 20 = .ok (.getfield 48, 3) := by decide +kernel
theorem d_Coder_hasRoomFor_23 : decode b_Coder_hasRoomFor 23 = .ok (.aload_n 0, 1) := by decide +kernel
theorem d_Coder_hasRoomFor_24 : decode b_Coder_hasRoomFor 24 = .ok (.getfield 15, 3) := by decide +kernel
theorem d_Coder_hasRoomFor_27 : decode b_Coder_hasRoomFor 27 = .ok (.iload_n 3, 1) := by decide +kernel
theorem d_Coder_hasRoomFor_28 : decode b_Coder_hasRoomFor 28 = .ok (.iadd, 1) := by decide +kernel
theorem d_Coder_hasRoomFor_29 : decode b_Coder_hasRoomFor 29 = .ok (.invokestatic 53, 3) := by decide +kernel
theorem d_Coder_hasRoomFor_32 : decode b_Coder_hasRoomFor 32 = .ok (.invokestatic 26, 3) := by decide +kernel
theorem d_Coder_hasRoomFor_35 : decode b_Coder_hasRoomFor 35 = .ok (.iadd, 1) := by decide +kernel
theorem d_Coder_hasRoomFor_36 : decode b_Coder_hasRoomFor 36 = .ok (.istore_n 2, 1) := by decide +kernel
theorem d_Coder_hasRoomFor_37 : decode b_Coder_hasRoomFor 37 = .ok (.iinc 3 1, 3) := by decide +kernel
theorem d_Coder_hasRoomFor_40 : decode b_Coder_hasRoomFor 40 = .ok (.goto (-30), 3) := by decide +kernel
theorem d_Coder_hasRoomFor_43 : decode b_Coder_hasRoomFor 43 = .ok (.iload_n 2, 1) := by decide +kernel
theorem d_Coder_hasRoomFor_44 : decode b_Coder_hasRoomFor 44 = .ok (.sipush 4096, 3) := by decide +kernel
theorem d_Coder_hasRoomFor_47 : decode b_Coder_hasRoomFor 47 = .ok (.if_icmp .gt 7, 3) := by decide +kernel
theorem d_Coder_hasRoomFor_50 : decode b_Coder_hasRoomFor 50 = .ok (.iconst 1, 1) := by decide +kernel
theorem d_Coder_hasRoomFor_51 : decode b_Coder_hasRoomFor 51 = .ok (.goto 4, 3) := by decide +kernel
theorem d_Coder_hasRoomFor_54 : decode b_Coder_hasRoomFor 54 = .ok (.iconst 0, 1) := by decide +kernel
theorem d_Coder_hasRoomFor_55 : decode b_Coder_hasRoomFor 55 = .ok (.ireturn, 1) := by decide +kernel
theorem ok_Coder_hasRoomFor : OKv y_Coder_hasRoomFor b_Coder_hasRoomFor 4 (some .boolean) "DeepChannel$Coder" 1 := ⟨k_596, k_594, k_595, k_51, by decide +kernel, by decide +kernel, by decide +kernel⟩
abbrev w_Coder_hasRoomFor (cI cJ : ClassId) (qCd qRw qSh : Nat) (Cd_register Rw_cells Sh_depth Sh_wordBytes Sh_e : Value) (Cd_put : Int32) (Rw_length : Int32) (Sh_pattern : Int32) : va_W := [(qCd, .inr (1, [.ref qSh, .ref qRw, Cd_register, .int Cd_put])), (qRw, .inr (0, [Rw_cells, .int Rw_length])), (qSh, .inr (8, [Sh_depth, Sh_wordBytes, Sh_e, .int Sh_pattern]))]
def f_Coder_hasRoomFor_43  (x2 : Int32) : Option (Int32) :=
  if (4096 : Int32) < x2 then
    zb (0 : Int32) <|
    some (0 : Int32)
  else
  zb (1 : Int32) <|
  some (1 : Int32)
def f_Coder_hasRoomFor_10_b (Cd_put : Int32) (Sh_pattern : Int32) (kh10 : Int32 → Int32 → Int32 → Option (Int32)) (x1 : Int32) (x2 : Int32) (x3 : Int32) : Option (Int32) :=
  if x1 ≤ x3 then
    f_Coder_hasRoomFor_43 x2
  else
  bd (f_Coder_keptAt Sh_pattern (Cd_put + x3)) fun u2 =>
  nm u2 fun r1 =>
  bd (f_Integer_bitCount r1) fun u4 =>
  nm u4 fun r3 =>
  nm (x2 + r3) fun v5 =>
  nm (x3 + (1 : Int32)) fun v6 =>
  kh10 x1 v5 v6
def f_Coder_hasRoomFor_10 (Cd_put : Int32) (Sh_pattern : Int32) : Nat → Int32 → Int32 → Int32 → Option (Int32)
  | 0 => fun _ _ _ => none
  | n + 1 => fun x1 x2 x3 => f_Coder_hasRoomFor_10_b Cd_put Sh_pattern (f_Coder_hasRoomFor_10 Cd_put Sh_pattern n) x1 x2 x3
def f_Coder_hasRoomFor (Cd_put : Int32) (Rw_length : Int32) (Sh_pattern : Int32) (x1 : Int32) : Option (Int32) :=
  bd (f_BitRow_size Rw_length) fun u8 =>
  nm u8 fun r7 =>
  f_Coder_hasRoomFor_10 Cd_put Sh_pattern 10000 x1 r7 (0 : Int32)
set_option maxHeartbeats 4000000 in
set_option maxRecDepth 100000 in
theorem c_Coder_hasRoomFor (l : Launch) (D : va_G) (cI cJ : ClassId) (tt : Nat → Nat) (qCd qRw qSh : Nat) (Cd_register Rw_cells Sh_depth Sh_wordBytes Sh_e : Value) (sz : Nat) (Cd_put : Int32) (Rw_length : Int32) (Sh_pattern : Int32) (x1 : Int32) (rr : Int32) (hm : f_Coder_hasRoomFor Cd_put Rw_length Sh_pattern x1 = some rr) : CTi l y_Coder_hasRoomFor b_Coder_hasRoomFor 4 (some .boolean) (RM 1 22) D cI cJ tt [.ref qCd, .int x1] (w_Coder_hasRoomFor cI cJ qCd qRw qSh Cd_register Rw_cells Sh_depth Sh_wordBytes Sh_e Cd_put Rw_length Sh_pattern) (w_Coder_hasRoomFor cI cJ qCd qRw qSh Cd_register Rw_cells Sh_depth Sh_wordBytes Sh_e Cd_put Rw_length Sh_pattern) sz rr := by
  refine Met.ofW (cc := b_Coder_hasRoomFor) (maxL := 4) (ret := (some .boolean)) (by decide) rfl ?_
  intro p e s m args below meth c s₁ B hml hv
  obtain ⟨hargs, hsz, hP, hK, hD0, hE⟩ := hv
  have hx := B.exec
  have hb := B.bytes
  have hr := B.returns
  have hts : ∀ w ∈ TB, w.before args s = true := z_mV s (atoms_spec (ws := WD y_Coder_hasRoomFor b_Coder_hasRoomFor 4 (some .boolean)) B.pre)
  have hown : s.vm.findClass "DeepChannel$Coder" = some m.cls := findClass_of_methodNamed B.named
  have hlocks := B.notSynchronized
  subst hsz
  have hD := hD0.self (sz := s.heap.size)
  generalize hAe : va_A (w_Coder_hasRoomFor cI cJ qCd qRw qSh Cd_register Rw_cells Sh_depth Sh_wordBytes Sh_e Cd_put Rw_length Sh_pattern) s.heap.size = A at hD hE ⊢
  have hA : ∀ q : Nat, s.heap.size ≤ q → A q := fun q h => by rw [← hAe]; exact Or.inr h
  have hS : va_S A s.heap s.heap [] := va_S.rf
  refine z_entry (vs := [.ref qCd, .int x1]) hargs (Nat.le_of_ble_eq_true rfl) (fun ls hl => ?_)
  have hl : lv_has ls 4 [(0, .ref qCd), (1, .int x1)] := hl
  show W p l e (RM 1 22) s m args below meth c s.heap [] 0 0 _ _
  refine z_qi (fun Q0 hQ => ?_)
  have F : CallFix p m c b_Coder_hasRoomFor 4 s args TB "DeepChannel$Coder" := ⟨hx, hb, hml, hown, hts⟩
  have T43 : ∀ (x2 : Int32), f_Coder_hasRoomFor_43 x2 = some rr → ∀ (H : Heap) (locs : List Loc), va_P D classes (w_Coder_hasRoomFor cI cJ qCd qRw qSh Cd_register Rw_cells Sh_depth Sh_wordBytes Sh_e Cd_put Rw_length Sh_pattern) H → va_D A (w_Coder_hasRoomFor cI cJ qCd qRw qSh Cd_register Rw_cells Sh_depth Sh_wordBytes Sh_e Cd_put Rw_length Sh_pattern) → va_S A s.heap H locs → ∀ (ls : Array Slot), lv_has ls 4 [(2, .int x2)] → W p l e (RM 1 22) s m args below meth c H locs 0 0 Q0 (F0 m 43 ls []) := by
    intro x2 hm H locs hP hD hS ls hl
    unfold f_Coder_hasRoomFor_43 at hm
    refine lv_iload_n hx hb d_Coder_hasRoomFor_43 rfl (lv_at hl 0 rfl) ?_
    refine lv_sipush (v := (4096 : Int32)) hx hb d_Coder_hasRoomFor_44 (by decide) ?_
    refine z_if hm (lv_icmp_gt (tgt := 54) hx hb d_Coder_hasRoomFor_47 (by decide)) (fun hm => ?_) (fun hm => ?_)
    · refine lv_iconst (v := (0 : Int32)) hx hb d_Coder_hasRoomFor_54 (by decide) ?_
      obtain ⟨hz, hm⟩ := zb_el hm
      cases hm
      exact z_qo hQ (z_iretz hz hr hx hb hlocks hK hP hD hS d_Coder_hasRoomFor_55)
    · refine lv_iconst (v := (1 : Int32)) hx hb d_Coder_hasRoomFor_50 (by decide) ?_
      refine lv_goto (tgt := 55) hx hb d_Coder_hasRoomFor_51 (by decide) ?_
      obtain ⟨hz, hm⟩ := zb_el hm
      cases hm
      exact z_qo hQ (z_iretz hz hr hx hb hlocks hK hP hD hS d_Coder_hasRoomFor_55)
  have T10 : ∀ (n10 : Nat) (x1 : Int32) (x2 : Int32) (x3 : Int32), f_Coder_hasRoomFor_10 Cd_put Sh_pattern n10 x1 x2 x3 = some rr → ∀ (H : Heap) (locs : List Loc), va_P D classes (w_Coder_hasRoomFor cI cJ qCd qRw qSh Cd_register Rw_cells Sh_depth Sh_wordBytes Sh_e Cd_put Rw_length Sh_pattern) H → va_D A (w_Coder_hasRoomFor cI cJ qCd qRw qSh Cd_register Rw_cells Sh_depth Sh_wordBytes Sh_e Cd_put Rw_length Sh_pattern) → va_S A s.heap H locs → ∀ (ls : Array Slot), lv_has ls 4 [(0, .ref qCd), (1, .int x1), (2, .int x2), (3, .int x3)] → W p l e (RM 1 22) s m args below meth c H locs 0 0 Q0 (F0 m 10 ls []) := by
    intro n10
    induction n10 with
    | zero => intro x1 x2 x3 hm; cases hm
    | succ n10 ih10 =>
      intro x1 x2 x3 hm H locs hP hD hS ls hl
      replace hm : f_Coder_hasRoomFor_10_b Cd_put Sh_pattern (f_Coder_hasRoomFor_10 Cd_put Sh_pattern n10) x1 x2 x3 = some rr := hm
      unfold f_Coder_hasRoomFor_10_b at hm
      refine lv_iload_n hx hb d_Coder_hasRoomFor_10 rfl (lv_at hl 3 rfl) ?_
      refine lv_iload_n hx hb d_Coder_hasRoomFor_11 rfl (lv_at hl 1 rfl) ?_
      refine z_if hm (lv_icmp_ge (tgt := 43) hx hb d_Coder_hasRoomFor_12 (by decide)) (fun hm => ?_) (fun hm => ?_)
      · exact T43 x2 hm _ _ hP hD hS _ (lv_sub hl [2] rfl)
      · refine lv_iload_n hx hb d_Coder_hasRoomFor_15 rfl (lv_at hl 2 rfl) ?_
        refine lv_aload_n hx hb d_Coder_hasRoomFor_16 rfl (lv_at hl 0 rfl) ?_
        refine va_get (D := D) (ci := 1) (v := .ref qSh) (C := "DeepChannel$Coder") (T := fT_Coder) (N := 4) hx hb hts u_Coder hown hK hP 0 rfl rfl 0 (by decide) (hts _ k_226) (fun _ h9 => h9) rfl d_Coder_hasRoomFor_17 ?_
        refine va_getN (D := D) (ci := 8) (v := .int Sh_pattern) (C := "DeepChannel$Shape") (T := fT_Shape) (N := 4) hx hb hts u_Shape hown hK hP 2 rfl rfl 3 (by decide) (va_Nw.use rfl (hE.1 _ (List.mem_of_getElem? (i := 5) rfl))) (fun _ h9 => h9) rfl d_Coder_hasRoomFor_20 ?_
        refine lv_aload_n hx hb d_Coder_hasRoomFor_23 rfl (lv_at hl 0 rfl) ?_
        refine va_get (D := D) (ci := 1) (v := .int Cd_put) (C := "DeepChannel$Coder") (T := fT_Coder) (N := 4) hx hb hts u_Coder hown hK hP 0 rfl rfl 3 (by decide) (hts _ k_229) (fun _ h9 => h9) rfl d_Coder_hasRoomFor_24 ?_
        refine lv_iload_n hx hb d_Coder_hasRoomFor_27 rfl (lv_at hl 3 rfl) ?_
        refine lv_iadd hx hb d_Coder_hasRoomFor_28 ?_
        obtain ⟨r1, hu, hm⟩ := bd_el hm
        replace hm := nm_1 hm
        refine z_cSi (wc := w_Coder_keptAt) (wc' := w_Coder_keptAt) (wr := [(qCd, .inr (1, [.ref qSh, .ref qRw, Cd_register, .int Cd_put])), (qRw, .inr (0, [Rw_cells, .int Rw_length])), (qSh, .inr (8, [Sh_depth, Sh_wordBytes, Sh_e, .int Sh_pattern]))]) (As := [.int Sh_pattern, .int (Cd_put + x3)]) (rest := [.int x2]) (c_Coder_keptAt l D cI cJ tt _ Sh_pattern (Cd_put + x3) r1 hu) F ok_Coder_keptAt k_598 hK hE hP hD hS hA [] [0, 1, 2] rfl rfl (by decide) (by decide) (by decide) ⟨rfl, rfl, Nat.le_of_ble_eq_true rfl, Nat.le_of_ble_eq_true rfl⟩ ⟨Nat.zero_le _, Nat.zero_le _⟩ rfl hl.1 rfl (Nat.le_of_ble_eq_true rfl) d_Coder_hasRoomFor_29 (fun H locs hP hD hS => ?_)
        have hP : va_P D classes (w_Coder_hasRoomFor cI cJ qCd qRw qSh Cd_register Rw_cells Sh_depth Sh_wordBytes Sh_e Cd_put Rw_length Sh_pattern) H := hP.sub [0, 1, 2] rfl
        have hD : va_D A (w_Coder_hasRoomFor cI cJ qCd qRw qSh Cd_register Rw_cells Sh_depth Sh_wordBytes Sh_e Cd_put Rw_length Sh_pattern) := hD.sub [0, 1, 2] (by decide) rfl
        obtain ⟨r3, hu, hm⟩ := bd_el hm
        replace hm := nm_1 hm
        refine z_cSi (wc := w_Integer_bitCount) (wc' := w_Integer_bitCount) (wr := [(qCd, .inr (1, [.ref qSh, .ref qRw, Cd_register, .int Cd_put])), (qRw, .inr (0, [Rw_cells, .int Rw_length])), (qSh, .inr (8, [Sh_depth, Sh_wordBytes, Sh_e, .int Sh_pattern]))]) (As := [.int r1]) (rest := [.int x2]) (c_Integer_bitCount l D cI cJ tt _ r1 r3 hu) F ok_Integer_bitCount k_285 hK hE hP hD hS hA [] [0, 1, 2] rfl rfl (by decide) (by decide) (by decide) ⟨rfl, rfl, Nat.le_of_ble_eq_true rfl, Nat.le_of_ble_eq_true rfl⟩ ⟨Nat.zero_le _, Nat.zero_le _⟩ rfl hl.1 rfl (Nat.le_of_ble_eq_true rfl) d_Coder_hasRoomFor_32 (fun H locs hP hD hS => ?_)
        have hP : va_P D classes (w_Coder_hasRoomFor cI cJ qCd qRw qSh Cd_register Rw_cells Sh_depth Sh_wordBytes Sh_e Cd_put Rw_length Sh_pattern) H := hP.sub [0, 1, 2] rfl
        have hD : va_D A (w_Coder_hasRoomFor cI cJ qCd qRw qSh Cd_register Rw_cells Sh_depth Sh_wordBytes Sh_e Cd_put Rw_length Sh_pattern) := hD.sub [0, 1, 2] (by decide) rfl
        refine lv_iadd hx hb d_Coder_hasRoomFor_35 ?_
        refine z_nmi hm (fun v5 hm => ?_)
        refine lv_istore_n (lv' := [(2, .int v5), (0, .ref qCd), (1, .int x1), (3, .int x3)]) hx hb d_Coder_hasRoomFor_36 rfl hl (by decide) rfl (fun ls hl => ?_)
        obtain ⟨v6, ev, hm⟩ := nm_el hm
        refine lv_iinc (v := v6) (lv' := [(3, .int v6), (2, .int v5), (0, .ref qCd), (1, .int x1)]) hx hb d_Coder_hasRoomFor_37 hl (k := 3) rfl (by rw [ev]; rfl) (by decide) rfl (fun ls hl => ?_)
        refine lv_goto (tgt := 10) hx hb d_Coder_hasRoomFor_40 (by decide) ?_
        exact ih10 x1 v5 v6 hm _ _ hP hD hS _ (lv_sub hl [2, 3, 1, 0] rfl)
  unfold f_Coder_hasRoomFor at hm
  refine lv_aload_n hx hb d_Coder_hasRoomFor_0 rfl (lv_at hl 0 rfl) ?_
  refine va_get (D := D) (ci := 1) (v := .ref qRw) (C := "DeepChannel$Coder") (T := fT_Coder) (N := 4) hx hb hts u_Coder hown hK hP 0 rfl rfl 1 (by decide) (hts _ k_227) (fun _ h9 => h9) rfl d_Coder_hasRoomFor_1 ?_
  obtain ⟨r7, hu, hm⟩ := bd_el hm
  replace hm := nm_1 hm
  refine z_cVi (wc := w_BitRow_size cI cJ qRw Rw_cells Rw_length) (wc' := w_BitRow_size cI cJ qRw Rw_cells Rw_length) (wr := [(qCd, .inr (1, [.ref qSh, .ref qRw, Cd_register, .int Cd_put])), (qSh, .inr (8, [Sh_depth, Sh_wordBytes, Sh_e, .int Sh_pattern]))]) (As := []) (rest := []) (c_BitRow_size l D cI cJ tt qRw Rw_cells _ Rw_length r7 hu) F ok_BitRow_size rfl k_597 hK hE hP hD hS hA [1] [0, 2] rfl rfl (by decide) (by decide) (by decide) 0 rfl rfl rfl ⟨rfl, rfl, Nat.le_of_ble_eq_true rfl, Nat.le_of_ble_eq_true rfl⟩ ⟨Nat.zero_le _, Nat.zero_le _⟩ rfl hl.1 rfl (Nat.le_of_ble_eq_true rfl) d_Coder_hasRoomFor_4 (fun H locs hP hD hS => ?_)
  have hP : va_P D classes (w_Coder_hasRoomFor cI cJ qCd qRw qSh Cd_register Rw_cells Sh_depth Sh_wordBytes Sh_e Cd_put Rw_length Sh_pattern) H := hP.sub [0, 2, 1] rfl
  have hD : va_D A (w_Coder_hasRoomFor cI cJ qCd qRw qSh Cd_register Rw_cells Sh_depth Sh_wordBytes Sh_e Cd_put Rw_length Sh_pattern) := hD.sub [0, 2, 1] (by decide) rfl
  refine lv_istore_n (lv' := [(2, .int r7), (0, .ref qCd), (1, .int x1)]) hx hb d_Coder_hasRoomFor_7 rfl hl (by decide) rfl (fun ls hl => ?_)
  refine lv_iconst (v := (0 : Int32)) hx hb d_Coder_hasRoomFor_8 (by decide) ?_
  refine lv_istore_n (lv' := [(3, .int (0 : Int32)), (2, .int r7), (0, .ref qCd), (1, .int x1)]) hx hb d_Coder_hasRoomFor_9 rfl hl (by decide) rfl (fun ls hl => ?_)
  exact T10 10000 x1 r7 (0 : Int32) hm _ _ hP hD hS _ (lv_sub hl [2, 3, 1, 0] rfl)
-- DeepChannel$Coder.putBit(I)V
abbrev b_Coder_putBit : ByteArray := prog_3_method_7_code
abbrev y_Coder_putBit : MethodName := ⟨"DeepChannel$Coder", "putBit", "(I)V"⟩
theorem d_Coder_putBit_0 : decode b_Coder_putBit 0 = .ok (.aload_n 0, 1) := by decide +kernel
theorem d_Coder_putBit_1 : decode b_Coder_putBit 1 = .ok (.aload_n 0, 1) := by decide +kernel
theorem d_Coder_putBit_2 : decode b_Coder_putBit 2 = .ok (.getfield 9, 3) := by decide +kernel
theorem d_Coder_putBit_5 : decode b_Coder_putBit 5 = .ok (.iconst 1, 1) := by decide +kernel
theorem d_Coder_putBit_6 : decode b_Coder_putBit 6 = .ok (.ishr, 1) := by decide +kernel
theorem d_Coder_putBit_7 : decode b_Coder_putBit 7 = .ok (.iload_n 1, 1) := by decide +kernel
theorem d_Coder_putBit_8 : decode b_Coder_putBit 8 = .ok (.bipush 6, 2) := by decide +kernel
theorem d_Coder_putBit_10 : decode b_Coder_putBit 10 = .ok (.ishl, 1) := by decide +kernel
theorem d_Coder_putBit_11 : decode b_Coder_putBit 11 = .ok (.ior, 1) := by decide +kernel
theorem d_Coder_putBit_12 : decode b_Coder_putBit 12 = .ok (.putfield 9, 3) := by decide +kernel
theorem d_Coder_putBit_15 : decode b_Coder_putBit 15 = .ok (.aload_n 0, 1) := by decide +kernel
theorem d_Coder_putBit_16 : decode b_Coder_putBit 16 = .ok (.getfield 9, 3) := by decide +kernel
theorem d_Coder_putBit_19 : decode b_Coder_putBit 19 = .ok (.invokestatic 57, 3) := by decide +kernel
theorem d_Coder_putBit_22 : decode b_Coder_putBit 22 = .ok (.istore_n 2, 1) := by decide +kernel
theorem d_Coder_putBit_23 : decode b_Coder_putBit 23 = .ok (.aload_n 0, 1) := by decide +kernel
theorem d_Coder_putBit_24 : decode b_Coder_putBit 24 = .ok (.getfield 18, 3) := by decide +kernel
theorem d_Coder_putBit_27 : decode b_Coder_putBit 27 = .ok (.getfield 48, 3) := by decide +kernel
theorem d_Coder_putBit_30 : decode b_Coder_putBit 30 = .ok (.aload_n 0, 1) := by decide +kernel
theorem d_Coder_putBit_31 : decode b_Coder_putBit 31 = .ok (.getfield 15, 3) := by decide +kernel
theorem d_Coder_putBit_34 : decode b_Coder_putBit 34 = .ok (.invokestatic 53, 3) := by decide +kernel
theorem d_Coder_putBit_37 : decode b_Coder_putBit 37 = .ok (.istore_n 3, 1) := by decide +kernel
theorem d_Coder_putBit_38 : decode b_Coder_putBit 38 = .ok (.iload_n 3, 1) := by decide +kernel
theorem d_Coder_putBit_39 : decode b_Coder_putBit 39 = .ok (.iconst 1, 1) := by decide +kernel
theorem d_Coder_putBit_40 : decode b_Coder_putBit 40 = .ok (.iand, 1) := by decide +kernel
theorem d_Coder_putBit_41 : decode b_Coder_putBit 41 = .ok (.ifCond .eq 13, 3) := by decide +kernel
theorem d_Coder_putBit_44 : decode b_Coder_putBit 44 = .ok (.aload_n 0, 1) := by decide +kernel
theorem d_Coder_putBit_45 : decode b_Coder_putBit 45 = .ok (.getfield 22, 3) := by decide +kernel
theorem d_Coder_putBit_48 : decode b_Coder_putBit 48 = .ok (.iload_n 2, 1) := by decide +kernel
theorem d_Coder_putBit_49 : decode b_Coder_putBit 49 = .ok (.iconst 1, 1) := by decide +kernel
theorem d_Coder_putBit_50 : decode b_Coder_putBit 50 = .ok (.iand, 1) := by decide +kernel
theorem d_Coder_putBit_51 : decode b_Coder_putBit 51 = .ok (.invokevirtual 60, 3) := by decide +kernel
theorem d_Coder_putBit_54 : decode b_Coder_putBit 54 = .ok (.iload_n 3, 1) := by decide +kernel
theorem d_Coder_putBit_55 : decode b_Coder_putBit 55 = .ok (.iconst 2, 1) := by decide +kernel
theorem d_Coder_putBit_56 : decode b_Coder_putBit 56 = .ok (.iand, 1) := by decide +kernel
theorem d_Coder_putBit_57 : decode b_Coder_putBit 57 = .ok (.ifCond .eq 13, 3) := by decide +kernel
theorem d_Coder_putBit_60 : decode b_Coder_putBit 60 = .ok (.aload_n 0, 1) := by decide +kernel
theorem d_Coder_putBit_61 : decode b_Coder_putBit 61 = .ok (.getfield 22, 3) := by decide +kernel
theorem d_Coder_putBit_64 : decode b_Coder_putBit 64 = .ok (.iload_n 2, 1) := by decide +kernel
theorem d_Coder_putBit_65 : decode b_Coder_putBit 65 = .ok (.iconst 1, 1) := by decide +kernel
theorem d_Coder_putBit_66 : decode b_Coder_putBit 66 = .ok (.ishr, 1) := by decide +kernel
theorem d_Coder_putBit_67 : decode b_Coder_putBit 67 = .ok (.invokevirtual 60, 3) := by decide +kernel
theorem d_Coder_putBit_70 : decode b_Coder_putBit 70 = .ok (.aload_n 0, 1) := by decide +kernel
theorem d_Coder_putBit_71 : decode b_Coder_putBit 71 = .ok (.dup, 1) := by decide +kernel
theorem d_Coder_putBit_72 : decode b_Coder_putBit 72 = .ok (.getfield 15, 3) := by decide +kernel
theorem d_Coder_putBit_75 : decode b_Coder_putBit 75 = .ok (.iconst 1, 1) := by decide +kernel
theorem d_Coder_putBit_76 : decode b_Coder_putBit 76 = .ok (.iadd, 1) := by decide +kernel
theorem d_Coder_putBit_77 : decode b_Coder_putBit 77 = .ok (.putfield 15, 3) := by decide +kernel
theorem d_Coder_putBit_80 : decode b_Coder_putBit 80 = .ok (.return_, 1) := by decide +kernel
theorem ok_Coder_putBit : OKv y_Coder_putBit b_Coder_putBit 4 none "DeepChannel$Coder" 1 := ⟨k_644, k_642, k_643, k_51, by decide +kernel, by decide +kernel, by decide +kernel⟩
abbrev w_Coder_putBit (cI cJ : ClassId) (qCd qSh qRw qRw_cells : Nat) (Sh_depth Sh_wordBytes Sh_e : Value) (Cd_register : Int32) (Cd_put : Int32) (Sh_pattern : Int32) (Rw_length : Int32) (Rw_cells : Nat → Int64) : va_W := [(qCd, .inr (1, [.ref qSh, .ref qRw, .int Cd_register, .int Cd_put])), (qSh, .inr (8, [Sh_depth, Sh_wordBytes, Sh_e, .int Sh_pattern])), (qRw, .inr (0, [.ref qRw_cells, .int Rw_length])), (qRw_cells, .inl (cJ, 64, .inr (.inl Rw_cells)))]
def f_Coder_putBit_70  (Cd_register : Int32) (Cd_put : Int32) (Rw_length : Int32) (Rw_cells : Nat → Int64) : Option (Int32 × Int32 × Int32 × (Nat → Int64)) :=
  nm (Cd_put + (1 : Int32)) fun v1 =>
  some (Cd_register, v1, Rw_length, Rw_cells)
def f_Coder_putBit_54  (x2 : Int32) (x3 : Int32) (Cd_register : Int32) (Cd_put : Int32) (Rw_length : Int32) (Rw_cells : Nat → Int64) : Option (Int32 × Int32 × Int32 × (Nat → Int64)) :=
  if (x3 &&& (2 : Int32)) = 0 then
    f_Coder_putBit_70 Cd_register Cd_put Rw_length Rw_cells
  else
  bd (f_BitRow_append Rw_length Rw_cells (x2 >>> ((1 : Int32) &&& 31))) fun u4 =>
  nm u4.1 fun v2 =>
  nm u4.2 fun g3 =>
  f_Coder_putBit_70 Cd_register Cd_put v2 g3
def f_Coder_putBit (Cd_register : Int32) (Cd_put : Int32) (Sh_pattern : Int32) (Rw_length : Int32) (Rw_cells : Nat → Int64) (x1 : Int32) : Option (Int32 × Int32 × Int32 × (Nat → Int64)) :=
  nm ((Cd_register >>> ((1 : Int32) &&& 31)) ||| (x1 <<< ((6 : Int32) &&& 31))) fun v5 =>
  bd (f_Coder_pairOf v5) fun u7 =>
  nm u7 fun r6 =>
  bd (f_Coder_keptAt Sh_pattern Cd_put) fun u9 =>
  nm u9 fun r8 =>
  if (r8 &&& (1 : Int32)) = 0 then
    f_Coder_putBit_54 r6 r8 v5 Cd_put Rw_length Rw_cells
  else
  bd (f_BitRow_append Rw_length Rw_cells (r6 &&& (1 : Int32))) fun u12 =>
  nm u12.1 fun v10 =>
  nm u12.2 fun g11 =>
  f_Coder_putBit_54 r6 r8 v5 Cd_put v10 g11
set_option maxHeartbeats 4000000 in
set_option maxRecDepth 100000 in
theorem c_Coder_putBit (l : Launch) (D : va_G) (cI cJ : ClassId) (tt : Nat → Nat) (qCd qSh qRw qRw_cells : Nat) (Sh_depth Sh_wordBytes Sh_e : Value) (sz : Nat) (Cd_register : Int32) (Cd_put : Int32) (Sh_pattern : Int32) (Rw_length : Int32) (Rw_cells : Nat → Int64) (x1 : Int32) (Cd_register' : Int32) (Cd_put' : Int32) (Rw_length' : Int32) (Rw_cells' : Nat → Int64) (hm : f_Coder_putBit Cd_register Cd_put Sh_pattern Rw_length Rw_cells x1 = some (Cd_register', Cd_put', Rw_length', Rw_cells')) : CTv l y_Coder_putBit b_Coder_putBit 4 none (RM 2 42) D cI cJ tt [.ref qCd, .int x1] (w_Coder_putBit cI cJ qCd qSh qRw qRw_cells Sh_depth Sh_wordBytes Sh_e Cd_register Cd_put Sh_pattern Rw_length Rw_cells) (w_Coder_putBit cI cJ qCd qSh qRw qRw_cells Sh_depth Sh_wordBytes Sh_e Cd_register' Cd_put' Sh_pattern Rw_length' Rw_cells') sz := by
  refine Met.ofW (cc := b_Coder_putBit) (maxL := 4) (ret := none) (by decide) rfl ?_
  intro p e s m args below meth c s₁ B hml hv
  obtain ⟨hargs, hsz, hP, hK, hD0, hE⟩ := hv
  have hx := B.exec
  have hb := B.bytes
  have hr := B.returns
  have hts : ∀ w ∈ TB, w.before args s = true := z_mV s (atoms_spec (ws := WD y_Coder_putBit b_Coder_putBit 4 none) B.pre)
  have hown : s.vm.findClass "DeepChannel$Coder" = some m.cls := findClass_of_methodNamed B.named
  have hlocks := B.notSynchronized
  subst hsz
  have hD := hD0.self (sz := s.heap.size)
  generalize hAe : va_A (w_Coder_putBit cI cJ qCd qSh qRw qRw_cells Sh_depth Sh_wordBytes Sh_e Cd_register Cd_put Sh_pattern Rw_length Rw_cells) s.heap.size = A at hD hE ⊢
  have hA : ∀ q : Nat, s.heap.size ≤ q → A q := fun q h => by rw [← hAe]; exact Or.inr h
  have hS : va_S A s.heap s.heap [] := va_S.rf
  refine z_entry (vs := [.ref qCd, .int x1]) hargs (Nat.le_of_ble_eq_true rfl) (fun ls hl => ?_)
  have hl : lv_has ls 4 [(0, .ref qCd), (1, .int x1)] := hl
  show W p l e (RM 2 42) s m args below meth c s.heap [] 0 0 _ _
  refine z_qi (fun Q0 hQ => ?_)
  have F : CallFix p m c b_Coder_putBit 4 s args TB "DeepChannel$Coder" := ⟨hx, hb, hml, hown, hts⟩
  have T70 : ∀ (Cd_register : Int32) (Cd_put : Int32) (Rw_length : Int32) (Rw_cells : Nat → Int64), f_Coder_putBit_70 Cd_register Cd_put Rw_length Rw_cells = some (Cd_register', Cd_put', Rw_length', Rw_cells') → ∀ (H : Heap) (locs : List Loc), va_P D classes (w_Coder_putBit cI cJ qCd qSh qRw qRw_cells Sh_depth Sh_wordBytes Sh_e Cd_register Cd_put Sh_pattern Rw_length Rw_cells) H → va_D A (w_Coder_putBit cI cJ qCd qSh qRw qRw_cells Sh_depth Sh_wordBytes Sh_e Cd_register Cd_put Sh_pattern Rw_length Rw_cells) → va_S A s.heap H locs → ∀ (ls : Array Slot), lv_has ls 4 [(0, .ref qCd)] → W p l e (RM 2 42) s m args below meth c H locs 0 0 Q0 (F0 m 70 ls []) := by
    intro Cd_register Cd_put Rw_length Rw_cells hm H locs hP hD hS ls hl
    unfold f_Coder_putBit_70 at hm
    refine lv_aload_n hx hb d_Coder_putBit_70 rfl (lv_at hl 0 rfl) ?_
    refine lv_dup hx hb d_Coder_putBit_71 rfl ?_
    refine va_get (D := D) (ci := 1) (v := .int Cd_put) (C := "DeepChannel$Coder") (T := fT_Coder) (N := 4) hx hb hts u_Coder hown hK hP 0 rfl rfl 3 (by decide) (hts _ k_229) (fun _ h9 => h9) rfl d_Coder_putBit_72 ?_
    refine lv_iconst (v := (1 : Int32)) hx hb d_Coder_putBit_75 (by decide) ?_
    refine lv_iadd hx hb d_Coder_putBit_76 ?_
    refine z_nmi hm (fun v1 hm => ?_)
    refine va_put (D := D) (ci := 1) (v := .int v1) (ty := .int) (C := "DeepChannel$Coder") (T := fT_Coder) (N := 4) hx hb hts u_Coder fY_Coder fK_Coder fN_Coder hown hK hP hD hS 0 rfl rfl 3 (by decide) (hts _ k_229) (fun _ h9 => h9) rfl (by decide +kernel) rfl rfl (Nat.le_of_ble_eq_true rfl) d_Coder_putBit_77 (fun H locs hP hD hS => ?_)
    have hP : va_P D classes (w_Coder_putBit cI cJ qCd qSh qRw qRw_cells Sh_depth Sh_wordBytes Sh_e Cd_register v1 Sh_pattern Rw_length Rw_cells) H := hP
    have hD : va_D A (w_Coder_putBit cI cJ qCd qSh qRw qRw_cells Sh_depth Sh_wordBytes Sh_e Cd_register v1 Sh_pattern Rw_length Rw_cells) := hD
    cases hm
    exact z_qo hQ (z_vret hr hx hb hlocks hK hP hD hS d_Coder_putBit_80)
  have T54 : ∀ (x2 : Int32) (x3 : Int32) (Cd_register : Int32) (Cd_put : Int32) (Rw_length : Int32) (Rw_cells : Nat → Int64), f_Coder_putBit_54 x2 x3 Cd_register Cd_put Rw_length Rw_cells = some (Cd_register', Cd_put', Rw_length', Rw_cells') → ∀ (H : Heap) (locs : List Loc), va_P D classes (w_Coder_putBit cI cJ qCd qSh qRw qRw_cells Sh_depth Sh_wordBytes Sh_e Cd_register Cd_put Sh_pattern Rw_length Rw_cells) H → va_D A (w_Coder_putBit cI cJ qCd qSh qRw qRw_cells Sh_depth Sh_wordBytes Sh_e Cd_register Cd_put Sh_pattern Rw_length Rw_cells) → va_S A s.heap H locs → ∀ (ls : Array Slot), lv_has ls 4 [(0, .ref qCd), (2, .int x2), (3, .int x3)] → W p l e (RM 2 42) s m args below meth c H locs 0 0 Q0 (F0 m 54 ls []) := by
    intro x2 x3 Cd_register Cd_put Rw_length Rw_cells hm H locs hP hD hS ls hl
    unfold f_Coder_putBit_54 at hm
    refine lv_iload_n hx hb d_Coder_putBit_54 rfl (lv_at hl 2 rfl) ?_
    refine lv_iconst (v := (2 : Int32)) hx hb d_Coder_putBit_55 (by decide) ?_
    refine lv_iand hx hb d_Coder_putBit_56 ?_
    refine z_if hm (lv_if_eq (tgt := 70) hx hb d_Coder_putBit_57 (by decide)) (fun hm => ?_) (fun hm => ?_)
    · exact T70 Cd_register Cd_put Rw_length Rw_cells hm _ _ hP hD hS _ (lv_sub hl [0] rfl)
    · refine lv_aload_n hx hb d_Coder_putBit_60 rfl (lv_at hl 0 rfl) ?_
      refine va_get (D := D) (ci := 1) (v := .ref qRw) (C := "DeepChannel$Coder") (T := fT_Coder) (N := 4) hx hb hts u_Coder hown hK hP 0 rfl rfl 1 (by decide) (hts _ k_227) (fun _ h9 => h9) rfl d_Coder_putBit_61 ?_
      refine lv_iload_n hx hb d_Coder_putBit_64 rfl (lv_at hl 1 rfl) ?_
      refine lv_iconst (v := (1 : Int32)) hx hb d_Coder_putBit_65 (by decide) ?_
      refine lv_ishr hx hb d_Coder_putBit_66 ?_
      obtain ⟨⟨v2, g3⟩, hu, hm⟩ := bd_el hm
      replace hm := nm_2 hm
      refine z_cVv (wc := w_BitRow_append cI cJ qRw qRw_cells Rw_length Rw_cells) (wc' := w_BitRow_append cI cJ qRw qRw_cells v2 g3) (wr := [(qCd, .inr (1, [.ref qSh, .ref qRw, .int Cd_register, .int Cd_put])), (qSh, .inr (8, [Sh_depth, Sh_wordBytes, Sh_e, .int Sh_pattern]))]) (As := [.int (x2 >>> ((1 : Int32) &&& 31))]) (rest := []) (c_BitRow_append l D cI cJ tt qRw qRw_cells _ Rw_length Rw_cells (x2 >>> ((1 : Int32) &&& 31)) v2 g3 hu) F ok_BitRow_append rfl k_646 hK hE hP hD hS hA [2, 3] [0, 1] rfl rfl (by decide) (by decide) (by decide) 0 rfl rfl rfl ⟨rfl, rfl, Nat.le_of_ble_eq_true rfl, Nat.le_of_ble_eq_true rfl⟩ ⟨Nat.zero_le _, Nat.zero_le _⟩ rfl hl.1 rfl (Nat.le_of_ble_eq_true rfl) d_Coder_putBit_67 (fun H locs hP hD hS => ?_)
      have hP : va_P D classes (w_Coder_putBit cI cJ qCd qSh qRw qRw_cells Sh_depth Sh_wordBytes Sh_e Cd_register Cd_put Sh_pattern v2 g3) H := hP.sub [0, 1, 2, 3] rfl
      have hD : va_D A (w_Coder_putBit cI cJ qCd qSh qRw qRw_cells Sh_depth Sh_wordBytes Sh_e Cd_register Cd_put Sh_pattern v2 g3) := hD.sub [0, 1, 2, 3] (by decide) rfl
      exact T70 Cd_register Cd_put v2 g3 hm _ _ hP hD hS _ (lv_sub hl [0] rfl)
  unfold f_Coder_putBit at hm
  refine lv_aload_n hx hb d_Coder_putBit_0 rfl (lv_at hl 0 rfl) ?_
  refine lv_aload_n hx hb d_Coder_putBit_1 rfl (lv_at hl 0 rfl) ?_
  refine va_get (D := D) (ci := 1) (v := .int Cd_register) (C := "DeepChannel$Coder") (T := fT_Coder) (N := 4) hx hb hts u_Coder hown hK hP 0 rfl rfl 2 (by decide) (hts _ k_228) (fun _ h9 => h9) rfl d_Coder_putBit_2 ?_
  refine lv_iconst (v := (1 : Int32)) hx hb d_Coder_putBit_5 (by decide) ?_
  refine lv_ishr hx hb d_Coder_putBit_6 ?_
  refine lv_iload_n hx hb d_Coder_putBit_7 rfl (lv_at hl 1 rfl) ?_
  refine lv_bipush (v := (6 : Int32)) hx hb d_Coder_putBit_8 (by decide) ?_
  refine lv_ishl hx hb d_Coder_putBit_10 ?_
  refine lv_ior hx hb d_Coder_putBit_11 ?_
  refine z_nmi hm (fun v5 hm => ?_)
  refine va_put (D := D) (ci := 1) (v := .int v5) (ty := .int) (C := "DeepChannel$Coder") (T := fT_Coder) (N := 4) hx hb hts u_Coder fY_Coder fK_Coder fN_Coder hown hK hP hD hS 0 rfl rfl 2 (by decide) (hts _ k_228) (fun _ h9 => h9) rfl (by decide +kernel) rfl rfl (Nat.le_of_ble_eq_true rfl) d_Coder_putBit_12 (fun H locs hP hD hS => ?_)
  have hP : va_P D classes (w_Coder_putBit cI cJ qCd qSh qRw qRw_cells Sh_depth Sh_wordBytes Sh_e v5 Cd_put Sh_pattern Rw_length Rw_cells) H := hP
  have hD : va_D A (w_Coder_putBit cI cJ qCd qSh qRw qRw_cells Sh_depth Sh_wordBytes Sh_e v5 Cd_put Sh_pattern Rw_length Rw_cells) := hD
  refine lv_aload_n hx hb d_Coder_putBit_15 rfl (lv_at hl 0 rfl) ?_
  refine va_get (D := D) (ci := 1) (v := .int v5) (C := "DeepChannel$Coder") (T := fT_Coder) (N := 4) hx hb hts u_Coder hown hK hP 0 rfl rfl 2 (by decide) (hts _ k_228) (fun _ h9 => h9) rfl d_Coder_putBit_16 ?_
  obtain ⟨r6, hu, hm⟩ := bd_el hm
  replace hm := nm_1 hm
  refine z_cSi (wc := w_Coder_pairOf) (wc' := w_Coder_pairOf) (wr := [(qCd, .inr (1, [.ref qSh, .ref qRw, .int v5, .int Cd_put])), (qSh, .inr (8, [Sh_depth, Sh_wordBytes, Sh_e, .int Sh_pattern])), (qRw, .inr (0, [.ref qRw_cells, .int Rw_length])), (qRw_cells, .inl (cJ, 64, .inr (.inl Rw_cells)))]) (As := [.int v5]) (rest := []) (c_Coder_pairOf l D cI cJ tt _ v5 r6 hu) F ok_Coder_pairOf k_645 hK hE hP hD hS hA [] [0, 1, 2, 3] rfl rfl (by decide) (by decide) (by decide) ⟨rfl, rfl, Nat.le_of_ble_eq_true rfl, Nat.le_of_ble_eq_true rfl⟩ ⟨Nat.zero_le _, Nat.zero_le _⟩ rfl hl.1 rfl (Nat.le_of_ble_eq_true rfl) d_Coder_putBit_19 (fun H locs hP hD hS => ?_)
  have hP : va_P D classes (w_Coder_putBit cI cJ qCd qSh qRw qRw_cells Sh_depth Sh_wordBytes Sh_e v5 Cd_put Sh_pattern Rw_length Rw_cells) H := hP.sub [0, 1, 2, 3] rfl
  have hD : va_D A (w_Coder_putBit cI cJ qCd qSh qRw qRw_cells Sh_depth Sh_wordBytes Sh_e v5 Cd_put Sh_pattern Rw_length Rw_cells) := hD.sub [0, 1, 2, 3] (by decide) rfl
  refine lv_istore_n (lv' := [(2, .int r6), (0, .ref qCd), (1, .int x1)]) hx hb d_Coder_putBit_22 rfl hl (by decide) rfl (fun ls hl => ?_)
  refine lv_aload_n hx hb d_Coder_putBit_23 rfl (lv_at hl 1 rfl) ?_
  refine va_get (D := D) (ci := 1) (v := .ref qSh) (C := "DeepChannel$Coder") (T := fT_Coder) (N := 4) hx hb hts u_Coder hown hK hP 0 rfl rfl 0 (by decide) (hts _ k_226) (fun _ h9 => h9) rfl d_Coder_putBit_24 ?_
  refine va_getN (D := D) (ci := 8) (v := .int Sh_pattern) (C := "DeepChannel$Shape") (T := fT_Shape) (N := 4) hx hb hts u_Shape hown hK hP 1 rfl rfl 3 (by decide) (va_Nw.use rfl (hE.1 _ (List.mem_of_getElem? (i := 5) rfl))) (fun _ h9 => h9) rfl d_Coder_putBit_27 ?_
  refine lv_aload_n hx hb d_Coder_putBit_30 rfl (lv_at hl 1 rfl) ?_
  refine va_get (D := D) (ci := 1) (v := .int Cd_put) (C := "DeepChannel$Coder") (T := fT_Coder) (N := 4) hx hb hts u_Coder hown hK hP 0 rfl rfl 3 (by decide) (hts _ k_229) (fun _ h9 => h9) rfl d_Coder_putBit_31 ?_
  obtain ⟨r8, hu, hm⟩ := bd_el hm
  replace hm := nm_1 hm
  refine z_cSi (wc := w_Coder_keptAt) (wc' := w_Coder_keptAt) (wr := [(qCd, .inr (1, [.ref qSh, .ref qRw, .int v5, .int Cd_put])), (qSh, .inr (8, [Sh_depth, Sh_wordBytes, Sh_e, .int Sh_pattern])), (qRw, .inr (0, [.ref qRw_cells, .int Rw_length])), (qRw_cells, .inl (cJ, 64, .inr (.inl Rw_cells)))]) (As := [.int Sh_pattern, .int Cd_put]) (rest := []) (c_Coder_keptAt l D cI cJ tt _ Sh_pattern Cd_put r8 hu) F ok_Coder_keptAt k_598 hK hE hP hD hS hA [] [0, 1, 2, 3] rfl rfl (by decide) (by decide) (by decide) ⟨rfl, rfl, Nat.le_of_ble_eq_true rfl, Nat.le_of_ble_eq_true rfl⟩ ⟨Nat.zero_le _, Nat.zero_le _⟩ rfl hl.1 rfl (Nat.le_of_ble_eq_true rfl) d_Coder_putBit_34 (fun H locs hP hD hS => ?_)
  have hP : va_P D classes (w_Coder_putBit cI cJ qCd qSh qRw qRw_cells Sh_depth Sh_wordBytes Sh_e v5 Cd_put Sh_pattern Rw_length Rw_cells) H := hP.sub [0, 1, 2, 3] rfl
  have hD : va_D A (w_Coder_putBit cI cJ qCd qSh qRw qRw_cells Sh_depth Sh_wordBytes Sh_e v5 Cd_put Sh_pattern Rw_length Rw_cells) := hD.sub [0, 1, 2, 3] (by decide) rfl
  refine lv_istore_n (lv' := [(3, .int r8), (2, .int r6), (0, .ref qCd), (1, .int x1)]) hx hb d_Coder_putBit_37 rfl hl (by decide) rfl (fun ls hl => ?_)
  refine lv_iload_n hx hb d_Coder_putBit_38 rfl (lv_at hl 0 rfl) ?_
  refine lv_iconst (v := (1 : Int32)) hx hb d_Coder_putBit_39 (by decide) ?_
  refine lv_iand hx hb d_Coder_putBit_40 ?_
  refine z_if hm (lv_if_eq (tgt := 54) hx hb d_Coder_putBit_41 (by decide)) (fun hm => ?_) (fun hm => ?_)
  · exact T54 r6 r8 v5 Cd_put Rw_length Rw_cells hm _ _ hP hD hS _ (lv_sub hl [2, 1, 0] rfl)
  · refine lv_aload_n hx hb d_Coder_putBit_44 rfl (lv_at hl 2 rfl) ?_
    refine va_get (D := D) (ci := 1) (v := .ref qRw) (C := "DeepChannel$Coder") (T := fT_Coder) (N := 4) hx hb hts u_Coder hown hK hP 0 rfl rfl 1 (by decide) (hts _ k_227) (fun _ h9 => h9) rfl d_Coder_putBit_45 ?_
    refine lv_iload_n hx hb d_Coder_putBit_48 rfl (lv_at hl 1 rfl) ?_
    refine lv_iconst (v := (1 : Int32)) hx hb d_Coder_putBit_49 (by decide) ?_
    refine lv_iand hx hb d_Coder_putBit_50 ?_
    obtain ⟨⟨v10, g11⟩, hu, hm⟩ := bd_el hm
    replace hm := nm_2 hm
    refine z_cVv (wc := w_BitRow_append cI cJ qRw qRw_cells Rw_length Rw_cells) (wc' := w_BitRow_append cI cJ qRw qRw_cells v10 g11) (wr := [(qCd, .inr (1, [.ref qSh, .ref qRw, .int v5, .int Cd_put])), (qSh, .inr (8, [Sh_depth, Sh_wordBytes, Sh_e, .int Sh_pattern]))]) (As := [.int (r6 &&& (1 : Int32))]) (rest := []) (c_BitRow_append l D cI cJ tt qRw qRw_cells _ Rw_length Rw_cells (r6 &&& (1 : Int32)) v10 g11 hu) F ok_BitRow_append rfl k_646 hK hE hP hD hS hA [2, 3] [0, 1] rfl rfl (by decide) (by decide) (by decide) 0 rfl rfl rfl ⟨rfl, rfl, Nat.le_of_ble_eq_true rfl, Nat.le_of_ble_eq_true rfl⟩ ⟨Nat.zero_le _, Nat.zero_le _⟩ rfl hl.1 rfl (Nat.le_of_ble_eq_true rfl) d_Coder_putBit_51 (fun H locs hP hD hS => ?_)
    have hP : va_P D classes (w_Coder_putBit cI cJ qCd qSh qRw qRw_cells Sh_depth Sh_wordBytes Sh_e v5 Cd_put Sh_pattern v10 g11) H := hP.sub [0, 1, 2, 3] rfl
    have hD : va_D A (w_Coder_putBit cI cJ qCd qSh qRw qRw_cells Sh_depth Sh_wordBytes Sh_e v5 Cd_put Sh_pattern v10 g11) := hD.sub [0, 1, 2, 3] (by decide) rfl
    exact T54 r6 r8 v5 Cd_put v10 g11 hm _ _ hP hD hS _ (lv_sub hl [2, 1, 0] rfl)
-- DeepChannel$Coder.putBits(II)V
abbrev b_Coder_putBits : ByteArray := prog_3_method_8_code
abbrev y_Coder_putBits : MethodName := ⟨"DeepChannel$Coder", "putBits", "(II)V"⟩
theorem d_Coder_putBits_0 : decode b_Coder_putBits 0 = .ok (.iload_n 2, 1) := by decide +kernel
theorem d_Coder_putBits_1 : decode b_Coder_putBits 1 = .ok (.iconst 1, 1) := by decide +kernel
theorem d_Coder_putBits_2 : decode b_Coder_putBits 2 = .ok (.isub, 1) := by decide +kernel
theorem d_Coder_putBits_3 : decode b_Coder_putBits 3 = .ok (.istore_n 3, 1) := by decide +kernel
theorem d_Coder_putBits_4 : decode b_Coder_putBits 4 = .ok (.iload_n 3, 1) := by decide +kernel
theorem d_Coder_putBits_5 : decode b_Coder_putBits 5 = .ok (.ifCond .lt 18, 3) := by decide +kernel
theorem d_Coder_putBits_8 : decode b_Coder_putBits 8 = .ok (.aload_n 0, 1) := by decide +kernel
theorem d_Coder_putBits_9 : decode b_Coder_putBits 9 = .ok (.iload_n 1, 1) := by decide +kernel
theorem d_Coder_putBits_10 : decode b_Coder_putBits 10 = .ok (.iload_n 3, 1) := by decide +kernel
theorem d_Coder_putBits_11 : decode b_Coder_putBits 11 = .ok (.iushr, 1) := by decide +kernel
theorem d_Coder_putBits_12 : decode b_Coder_putBits 12 = .ok (.iconst 1, 1) := by decide +kernel
theorem d_Coder_putBits_13 : decode b_Coder_putBits 13 = .ok (.iand, 1) := by decide +kernel
theorem d_Coder_putBits_14 : decode b_Coder_putBits 14 = .ok (.invokevirtual 64, 3) := by decide +kernel
theorem d_Coder_putBits_17 : decode b_Coder_putBits 17 = .ok (.iinc 3 (-1), 3) := by decide +kernel
theorem d_Coder_putBits_20 : decode b_Coder_putBits 20 = .ok (.goto (-16), 3) := by decide +kernel
theorem d_Coder_putBits_23 : decode b_Coder_putBits 23 = .ok (.return_, 1) := by decide +kernel
theorem ok_Coder_putBits : OKv y_Coder_putBits b_Coder_putBits 4 none "DeepChannel$Coder" 2 := ⟨k_640, k_638, k_639, k_51, by decide +kernel, by decide +kernel, by decide +kernel⟩
abbrev w_Coder_putBits (cI cJ : ClassId) (qCd qSh qRw qRw_cells : Nat) (Sh_depth Sh_wordBytes Sh_e : Value) (Cd_register : Int32) (Cd_put : Int32) (Sh_pattern : Int32) (Rw_length : Int32) (Rw_cells : Nat → Int64) : va_W := [(qCd, .inr (1, [.ref qSh, .ref qRw, .int Cd_register, .int Cd_put])), (qSh, .inr (8, [Sh_depth, Sh_wordBytes, Sh_e, .int Sh_pattern])), (qRw, .inr (0, [.ref qRw_cells, .int Rw_length])), (qRw_cells, .inl (cJ, 64, .inr (.inl Rw_cells)))]
def f_Coder_putBits_4_b (Sh_pattern : Int32) (kh4 : Int32 → Int32 → Int32 → Int32 → Int32 → (Nat → Int64) → Option (Int32 × Int32 × Int32 × (Nat → Int64))) (x1 : Int32) (x3 : Int32) (Cd_register : Int32) (Cd_put : Int32) (Rw_length : Int32) (Rw_cells : Nat → Int64) : Option (Int32 × Int32 × Int32 × (Nat → Int64)) :=
  if x3 < 0 then
    some (Cd_register, Cd_put, Rw_length, Rw_cells)
  else
  bd (f_Coder_putBit Cd_register Cd_put Sh_pattern Rw_length Rw_cells (((x1.toUInt32 >>> (x3.toUInt32 &&& Int32.toUInt32 31)).toInt32) &&& (1 : Int32))) fun u5 =>
  nm u5.1 fun v1 =>
  nm u5.2.1 fun v2 =>
  nm u5.2.2.1 fun v3 =>
  nm u5.2.2.2 fun g4 =>
  nm (x3 + (-1 : Int32)) fun v6 =>
  kh4 x1 v6 v1 v2 v3 g4
def f_Coder_putBits_4 (Sh_pattern : Int32) : Nat → Int32 → Int32 → Int32 → Int32 → Int32 → (Nat → Int64) → Option (Int32 × Int32 × Int32 × (Nat → Int64))
  | 0 => fun _ _ _ _ _ _ => none
  | n + 1 => fun x1 x3 Cd_register Cd_put Rw_length Rw_cells => f_Coder_putBits_4_b Sh_pattern (f_Coder_putBits_4 Sh_pattern n) x1 x3 Cd_register Cd_put Rw_length Rw_cells
def f_Coder_putBits (Cd_register : Int32) (Cd_put : Int32) (Sh_pattern : Int32) (Rw_length : Int32) (Rw_cells : Nat → Int64) (x1 : Int32) (x2 : Int32) : Option (Int32 × Int32 × Int32 × (Nat → Int64)) :=
  nm (x2 - (1 : Int32)) fun v7 =>
  f_Coder_putBits_4 Sh_pattern 10000 x1 v7 Cd_register Cd_put Rw_length Rw_cells
set_option maxHeartbeats 4000000 in
set_option maxRecDepth 100000 in
theorem c_Coder_putBits (l : Launch) (D : va_G) (cI cJ : ClassId) (tt : Nat → Nat) (qCd qSh qRw qRw_cells : Nat) (Sh_depth Sh_wordBytes Sh_e : Value) (sz : Nat) (Cd_register : Int32) (Cd_put : Int32) (Sh_pattern : Int32) (Rw_length : Int32) (Rw_cells : Nat → Int64) (x1 : Int32) (x2 : Int32) (Cd_register' : Int32) (Cd_put' : Int32) (Rw_length' : Int32) (Rw_cells' : Nat → Int64) (hm : f_Coder_putBits Cd_register Cd_put Sh_pattern Rw_length Rw_cells x1 x2 = some (Cd_register', Cd_put', Rw_length', Rw_cells')) : CTv l y_Coder_putBits b_Coder_putBits 4 none (RM 3 65) D cI cJ tt [.ref qCd, .int x1, .int x2] (w_Coder_putBits cI cJ qCd qSh qRw qRw_cells Sh_depth Sh_wordBytes Sh_e Cd_register Cd_put Sh_pattern Rw_length Rw_cells) (w_Coder_putBits cI cJ qCd qSh qRw qRw_cells Sh_depth Sh_wordBytes Sh_e Cd_register' Cd_put' Sh_pattern Rw_length' Rw_cells') sz := by
  refine Met.ofW (cc := b_Coder_putBits) (maxL := 4) (ret := none) (by decide) rfl ?_
  intro p e s m args below meth c s₁ B hml hv
  obtain ⟨hargs, hsz, hP, hK, hD0, hE⟩ := hv
  have hx := B.exec
  have hb := B.bytes
  have hr := B.returns
  have hts : ∀ w ∈ TB, w.before args s = true := z_mV s (atoms_spec (ws := WD y_Coder_putBits b_Coder_putBits 4 none) B.pre)
  have hown : s.vm.findClass "DeepChannel$Coder" = some m.cls := findClass_of_methodNamed B.named
  have hlocks := B.notSynchronized
  subst hsz
  have hD := hD0.self (sz := s.heap.size)
  generalize hAe : va_A (w_Coder_putBits cI cJ qCd qSh qRw qRw_cells Sh_depth Sh_wordBytes Sh_e Cd_register Cd_put Sh_pattern Rw_length Rw_cells) s.heap.size = A at hD hE ⊢
  have hA : ∀ q : Nat, s.heap.size ≤ q → A q := fun q h => by rw [← hAe]; exact Or.inr h
  have hS : va_S A s.heap s.heap [] := va_S.rf
  refine z_entry (vs := [.ref qCd, .int x1, .int x2]) hargs (Nat.le_of_ble_eq_true rfl) (fun ls hl => ?_)
  have hl : lv_has ls 4 [(0, .ref qCd), (1, .int x1), (2, .int x2)] := hl
  show W p l e (RM 3 65) s m args below meth c s.heap [] 0 0 _ _
  refine z_qi (fun Q0 hQ => ?_)
  have F : CallFix p m c b_Coder_putBits 4 s args TB "DeepChannel$Coder" := ⟨hx, hb, hml, hown, hts⟩
  have T4 : ∀ (n4 : Nat) (x1 : Int32) (x3 : Int32) (Cd_register : Int32) (Cd_put : Int32) (Rw_length : Int32) (Rw_cells : Nat → Int64), f_Coder_putBits_4 Sh_pattern n4 x1 x3 Cd_register Cd_put Rw_length Rw_cells = some (Cd_register', Cd_put', Rw_length', Rw_cells') → ∀ (H : Heap) (locs : List Loc), va_P D classes (w_Coder_putBits cI cJ qCd qSh qRw qRw_cells Sh_depth Sh_wordBytes Sh_e Cd_register Cd_put Sh_pattern Rw_length Rw_cells) H → va_D A (w_Coder_putBits cI cJ qCd qSh qRw qRw_cells Sh_depth Sh_wordBytes Sh_e Cd_register Cd_put Sh_pattern Rw_length Rw_cells) → va_S A s.heap H locs → ∀ (ls : Array Slot), lv_has ls 4 [(0, .ref qCd), (1, .int x1), (3, .int x3)] → W p l e (RM 3 65) s m args below meth c H locs 0 0 Q0 (F0 m 4 ls []) := by
    intro n4
    induction n4 with
    | zero => intro x1 x3 Cd_register Cd_put Rw_length Rw_cells hm; cases hm
    | succ n4 ih4 =>
      intro x1 x3 Cd_register Cd_put Rw_length Rw_cells hm H locs hP hD hS ls hl
      replace hm : f_Coder_putBits_4_b Sh_pattern (f_Coder_putBits_4 Sh_pattern n4) x1 x3 Cd_register Cd_put Rw_length Rw_cells = some (Cd_register', Cd_put', Rw_length', Rw_cells') := hm
      unfold f_Coder_putBits_4_b at hm
      refine lv_iload_n hx hb d_Coder_putBits_4 rfl (lv_at hl 2 rfl) ?_
      refine z_if hm (lv_if_lt (tgt := 23) hx hb d_Coder_putBits_5 (by decide)) (fun hm => ?_) (fun hm => ?_)
      · cases hm
        exact z_qo hQ (z_vret hr hx hb hlocks hK hP hD hS d_Coder_putBits_23)
      · refine lv_aload_n hx hb d_Coder_putBits_8 rfl (lv_at hl 0 rfl) ?_
        refine lv_iload_n hx hb d_Coder_putBits_9 rfl (lv_at hl 1 rfl) ?_
        refine lv_iload_n hx hb d_Coder_putBits_10 rfl (lv_at hl 2 rfl) ?_
        refine lv_iushr (v := ((x1.toUInt32 >>> (x3.toUInt32 &&& Int32.toUInt32 31)).toInt32)) hx hb d_Coder_putBits_11 rfl ?_
        refine lv_iconst (v := (1 : Int32)) hx hb d_Coder_putBits_12 (by decide) ?_
        refine lv_iand hx hb d_Coder_putBits_13 ?_
        obtain ⟨⟨v1, v2, v3, g4⟩, hu, hm⟩ := bd_el hm
        replace hm := nm_4 hm
        refine z_cVv (wc := w_Coder_putBit cI cJ qCd qSh qRw qRw_cells Sh_depth Sh_wordBytes Sh_e Cd_register Cd_put Sh_pattern Rw_length Rw_cells) (wc' := w_Coder_putBit cI cJ qCd qSh qRw qRw_cells Sh_depth Sh_wordBytes Sh_e v1 v2 Sh_pattern v3 g4) (wr := []) (As := [.int (((x1.toUInt32 >>> (x3.toUInt32 &&& Int32.toUInt32 31)).toInt32) &&& (1 : Int32))]) (rest := []) (c_Coder_putBit l D cI cJ tt qCd qSh qRw qRw_cells Sh_depth Sh_wordBytes Sh_e _ Cd_register Cd_put Sh_pattern Rw_length Rw_cells (((x1.toUInt32 >>> (x3.toUInt32 &&& Int32.toUInt32 31)).toInt32) &&& (1 : Int32)) v1 v2 v3 g4 hu) F ok_Coder_putBit rfl k_641 hK hE hP hD hS hA [0, 1, 2, 3] [] rfl rfl (by decide) (by decide) (by decide) 0 rfl rfl rfl ⟨rfl, rfl, Nat.le_of_ble_eq_true rfl, Nat.le_of_ble_eq_true rfl⟩ ⟨Nat.zero_le _, Nat.zero_le _⟩ rfl hl.1 rfl (Nat.le_of_ble_eq_true rfl) d_Coder_putBits_14 (fun H locs hP hD hS => ?_)
        have hP : va_P D classes (w_Coder_putBits cI cJ qCd qSh qRw qRw_cells Sh_depth Sh_wordBytes Sh_e v1 v2 Sh_pattern v3 g4) H := hP.sub [0, 1, 2, 3] rfl
        have hD : va_D A (w_Coder_putBits cI cJ qCd qSh qRw qRw_cells Sh_depth Sh_wordBytes Sh_e v1 v2 Sh_pattern v3 g4) := hD.sub [0, 1, 2, 3] (by decide) rfl
        obtain ⟨v6, ev, hm⟩ := nm_el hm
        refine lv_iinc (v := v6) (lv' := [(3, .int v6), (0, .ref qCd), (1, .int x1)]) hx hb d_Coder_putBits_17 hl (k := 2) rfl (by rw [ev]; rfl) (by decide) rfl (fun ls hl => ?_)
        refine lv_goto (tgt := 4) hx hb d_Coder_putBits_20 (by decide) ?_
        exact ih4 x1 v6 v1 v2 v3 g4 hm _ _ hP hD hS _ (lv_sub hl [1, 2, 0] rfl)
  unfold f_Coder_putBits at hm
  refine lv_iload_n hx hb d_Coder_putBits_0 rfl (lv_at hl 2 rfl) ?_
  refine lv_iconst (v := (1 : Int32)) hx hb d_Coder_putBits_1 (by decide) ?_
  refine lv_isub hx hb d_Coder_putBits_2 ?_
  refine z_nmi hm (fun v7 hm => ?_)
  refine lv_istore_n (lv' := [(3, .int v7), (0, .ref qCd), (1, .int x1), (2, .int x2)]) hx hb d_Coder_putBits_3 rfl hl (by decide) rfl (fun ls hl => ?_)
  exact T4 10000 x1 v7 Cd_register Cd_put Rw_length Rw_cells hm _ _ hP hD hS _ (lv_sub hl [1, 2, 0] rfl)
-- DeepChannel$Mixer.at(I)I
abbrev b_Mixer_at : ByteArray := prog_6_method_2_code
abbrev y_Mixer_at : MethodName := ⟨"DeepChannel$Mixer", "at", "(I)I"⟩
theorem d_Mixer_at_0 : decode b_Mixer_at 0 = .ok (.iload_n 1, 1) := by decide +kernel
theorem d_Mixer_at_1 : decode b_Mixer_at 1 = .ok (.ifCond .lt 19, 3) := by decide +kernel
theorem d_Mixer_at_4 : decode b_Mixer_at 4 = .ok (.iload_n 1, 1) := by decide +kernel
theorem d_Mixer_at_5 : decode b_Mixer_at 5 = .ok (.sipush 250, 3) := by decide +kernel
theorem d_Mixer_at_8 : decode b_Mixer_at 8 = .ok (.if_icmp .ge 12, 3) := by decide +kernel
theorem d_Mixer_at_11 : decode b_Mixer_at 11 = .ok (.aload_n 0, 1) := by decide +kernel
theorem d_Mixer_at_12 : decode b_Mixer_at 12 = .ok (.getfield 9, 3) := by decide +kernel
theorem d_Mixer_at_15 : decode b_Mixer_at 15 = .ok (.iload_n 1, 1) := by decide +kernel
theorem d_Mixer_at_16 : decode b_Mixer_at 16 = .ok (.iaload, 1) := by decide +kernel
theorem d_Mixer_at_17 : decode b_Mixer_at 17 = .ok (.goto 4, 3) := by decide +kernel
theorem d_Mixer_at_20 : decode b_Mixer_at 20 = .ok (.iconst 0, 1) := by decide +kernel
theorem d_Mixer_at_21 : decode b_Mixer_at 21 = .ok (.ireturn, 1) := by decide +kernel
theorem ok_Mixer_at : OKv y_Mixer_at b_Mixer_at 2 (some .int) "DeepChannel$Mixer" 1 := ⟨k_654, k_652, k_653, k_48, by decide +kernel, by decide +kernel, by decide +kernel⟩
abbrev w_Mixer_at (cI cJ : ClassId) (qMx qMx_bytes : Nat) (Mx_bytes : Nat → Int32) : va_W := [(qMx, .inr (4, [.ref qMx_bytes])), (qMx_bytes, .inl (cI, 250, .inl Mx_bytes))]
def f_Mixer_at (Mx_bytes : Nat → Int32) (x1 : Int32) : Option (Int32) :=
  if x1 < 0 then
    some (0 : Int32)
  else
  if (250 : Int32) ≤ x1 then
    some (0 : Int32)
  else
  rdI Mx_bytes 250 x1 fun v1 =>
  some v1
set_option maxHeartbeats 4000000 in
set_option maxRecDepth 100000 in
theorem c_Mixer_at (l : Launch) (D : va_G) (cI cJ : ClassId) (tt : Nat → Nat) (qMx qMx_bytes : Nat) (sz : Nat) (Mx_bytes : Nat → Int32) (x1 : Int32) (rr : Int32) (hm : f_Mixer_at Mx_bytes x1 = some rr) : CTi l y_Mixer_at b_Mixer_at 2 (some .int) (RM 0 0) D cI cJ tt [.ref qMx, .int x1] (w_Mixer_at cI cJ qMx qMx_bytes Mx_bytes) (w_Mixer_at cI cJ qMx qMx_bytes Mx_bytes) sz rr := by
  refine Met.ofW (cc := b_Mixer_at) (maxL := 2) (ret := (some .int)) (by decide) rfl ?_
  intro p e s m args below meth c s₁ B hml hv
  obtain ⟨hargs, hsz, hP, hK, hD0, hE⟩ := hv
  have hx := B.exec
  have hb := B.bytes
  have hr := B.returns
  have hts : ∀ w ∈ TB, w.before args s = true := z_mV s (atoms_spec (ws := WD y_Mixer_at b_Mixer_at 2 (some .int)) B.pre)
  have hown : s.vm.findClass "DeepChannel$Mixer" = some m.cls := findClass_of_methodNamed B.named
  have hlocks := B.notSynchronized
  subst hsz
  have hD := hD0.self (sz := s.heap.size)
  generalize hAe : va_A (w_Mixer_at cI cJ qMx qMx_bytes Mx_bytes) s.heap.size = A at hD hE ⊢
  have hA : ∀ q : Nat, s.heap.size ≤ q → A q := fun q h => by rw [← hAe]; exact Or.inr h
  have hS : va_S A s.heap s.heap [] := va_S.rf
  refine z_entry (vs := [.ref qMx, .int x1]) hargs (Nat.le_of_ble_eq_true rfl) (fun ls hl => ?_)
  have hl : lv_has ls 2 [(0, .ref qMx), (1, .int x1)] := hl
  show W p l e (RM 0 0) s m args below meth c s.heap [] 0 0 _ _
  refine z_qi (fun Q0 hQ => ?_)
  have F : CallFix p m c b_Mixer_at 2 s args TB "DeepChannel$Mixer" := ⟨hx, hb, hml, hown, hts⟩
  unfold f_Mixer_at at hm
  refine lv_iload_n hx hb d_Mixer_at_0 rfl (lv_at hl 1 rfl) ?_
  refine z_if hm (lv_if_lt (tgt := 20) hx hb d_Mixer_at_1 (by decide)) (fun hm => ?_) (fun hm => ?_)
  · refine lv_iconst (v := (0 : Int32)) hx hb d_Mixer_at_20 (by decide) ?_
    cases hm
    exact z_qo hQ (z_ireti hr hx hb hlocks hK hP hD hS d_Mixer_at_21)
  · refine lv_iload_n hx hb d_Mixer_at_4 rfl (lv_at hl 1 rfl) ?_
    refine lv_sipush (v := (250 : Int32)) hx hb d_Mixer_at_5 (by decide) ?_
    refine z_if hm (lv_icmp_ge (tgt := 20) hx hb d_Mixer_at_8 (by decide)) (fun hm => ?_) (fun hm => ?_)
    · refine lv_iconst (v := (0 : Int32)) hx hb d_Mixer_at_20 (by decide) ?_
      cases hm
      exact z_qo hQ (z_ireti hr hx hb hlocks hK hP hD hS d_Mixer_at_21)
    · refine lv_aload_n hx hb d_Mixer_at_11 rfl (lv_at hl 0 rfl) ?_
      refine va_get (D := D) (ci := 4) (v := .ref qMx_bytes) (C := "DeepChannel$Mixer") (T := fT_Mixer) (N := 1) hx hb hts u_Mixer hown hK hP 0 rfl rfl 0 (by decide) (hts _ k_202) (fun _ h9 => h9) rfl d_Mixer_at_12 ?_
      refine lv_iload_n hx hb d_Mixer_at_15 rfl (lv_at hl 1 rfl) ?_
      refine z_iald hm hx hb hK hP 1 rfl d_Mixer_at_16 (fun v1 hm => ?_)
      refine lv_goto (tgt := 21) hx hb d_Mixer_at_17 (by decide) ?_
      cases hm
      exact z_qo hQ (z_ireti hr hx hb hlocks hK hP hD hS d_Mixer_at_21)
