-- DeepChannel$BitRow.append(I)V
abbrev b_BitRow_append : ByteArray := prog_2_method_4_code
abbrev y_BitRow_append : MethodName := ⟨"DeepChannel$BitRow", "append", "(I)V"⟩
theorem d_BitRow_append_0 : decode b_BitRow_append 0 = .ok (.aload_n 0, 1) := by decide +kernel
theorem d_BitRow_append_1 : decode b_BitRow_append 1 = .ok (.getfield 15, 3) := by decide +kernel
theorem d_BitRow_append_4 : decode b_BitRow_append 4 = .ok (.sipush 4096, 3) := by decide +kernel
theorem d_BitRow_append_7 : decode b_BitRow_append 7 = .ok (.if_icmp .ge 38, 3) := by decide +kernel
theorem d_BitRow_append_10 : decode b_BitRow_append 10 = .ok (.aload_n 0, 1) := by decide +kernel
theorem d_BitRow_append_11 : decode b_BitRow_append 11 = .ok (.getfield 9, 3) := by decide +kernel
theorem d_BitRow_append_14 : decode b_BitRow_append 14 = .ok (.aload_n 0, 1) := by decide +kernel
theorem d_BitRow_append_15 : decode b_BitRow_append 15 = .ok (.getfield 15, 3) := by decide +kernel
theorem d_BitRow_append_18 : decode b_BitRow_append 18 = .ok (.bipush 6, 2) := by decide +kernel
theorem d_BitRow_append_20 : decode b_BitRow_append 20 = .ok (.ishr, 1) := by decide +kernel
theorem d_BitRow_append_21 : decode b_BitRow_append 21 = .ok (.dup2, 1) := by decide +kernel
theorem d_BitRow_append_22 : decode b_BitRow_append 22 = .ok (.laload, 1) := by decide +kernel
theorem d_BitRow_append_23 : decode b_BitRow_append 23 = .ok (.iload_n 1, 1) := by decide +kernel
theorem d_BitRow_append_24 : decode b_BitRow_append 24 = .ok (.i2l, 1) := by decide +kernel
theorem d_BitRow_append_25 : decode b_BitRow_append 25 = .ok (.aload_n 0, 1) := by decide +kernel
theorem d_BitRow_append_26 : decode b_BitRow_append 26 = .ok (.getfield 15, 3) := by decide +kernel
theorem d_BitRow_append_29 : decode b_BitRow_append 29 = .ok (.bipush 63, 2) := by decide +kernel
theorem d_BitRow_append_31 : decode b_BitRow_append 31 = .ok (.iand, 1) := by decide +kernel
theorem d_BitRow_append_32 : decode b_BitRow_append 32 = .ok (.lshl, 1) := by decide +kernel
theorem d_BitRow_append_33 : decode b_BitRow_append 33 = .ok (.lor, 1) := by decide +kernel
theorem d_BitRow_append_34 : decode b_BitRow_append 34 = .ok (.lastore, 1) := by decide +kernel
theorem d_BitRow_append_35 : decode b_BitRow_append 35 = .ok (.aload_n 0, 1) := by decide +kernel
theorem d_BitRow_append_36 : decode b_BitRow_append 36 = .ok (.dup, 1) := by decide +kernel
theorem d_BitRow_append_37 : decode b_BitRow_append 37 = .ok (.getfield 15, 3) := by decide +kernel
theorem d_BitRow_append_40 : decode b_BitRow_append 40 = .ok (.iconst 1, 1) := by decide +kernel
theorem d_BitRow_append_41 : decode b_BitRow_append 41 = .ok (.iadd, 1) := by decide +kernel
theorem d_BitRow_append_42 : decode b_BitRow_append 42 = .ok (.putfield 15, 3) := by decide +kernel
theorem d_BitRow_append_45 : decode b_BitRow_append 45 = .ok (.return_, 1) := by decide +kernel
theorem ok_BitRow_append : OKv y_BitRow_append b_BitRow_append 2 none "DeepChannel$BitRow" 1 := ⟨k_649, k_647, k_648, k_50, by decide +kernel, by decide +kernel, by decide +kernel⟩
abbrev w_BitRow_append (cI cJ : ClassId) (qB qB_cells : Nat) (B_length : Int32) (B_cells : Nat → Int64) : va_W := [(qB, .inr (0, [.ref qB_cells, .int B_length])), (qB_cells, .inl (cJ, 64, .inr (.inl B_cells)))]
def f_BitRow_append (B_length : Int32) (B_cells : Nat → Int64) (x1 : Int32) : Option (Int32 × (Nat → Int64)) :=
  if (4096 : Int32) ≤ B_length then
    some (B_length, B_cells)
  else
  nm (B_length >>> ((6 : Int32) &&& 31)) fun v1 =>
  rdL B_cells 64 v1 fun v2 =>
  wrL B_cells 64 v1 (v2 ||| (x1.toInt64 <<< ((B_length &&& (63 : Int32)).toInt64 &&& 63))) fun g3 =>
  nm (B_length + (1 : Int32)) fun v4 =>
  some (v4, g3)
set_option maxHeartbeats 4000000 in
set_option maxRecDepth 100000 in
theorem c_BitRow_append (l : Launch) (D : va_G) (cI cJ : ClassId) (tt : Nat → Nat) (qB qB_cells : Nat) (sz : Nat) (B_length : Int32) (B_cells : Nat → Int64) (x1 : Int32) (B_length' : Int32) (B_cells' : Nat → Int64) (hm : f_BitRow_append B_length B_cells x1 = some (B_length', B_cells')) : CTv l y_BitRow_append b_BitRow_append 2 none (RM 0 0) D cI cJ tt [.ref qB, .int x1] (w_BitRow_append cI cJ qB qB_cells B_length B_cells) (w_BitRow_append cI cJ qB qB_cells B_length' B_cells') sz := by
  refine Met.ofW (cc := b_BitRow_append) (maxL := 2) (ret := none) (by decide) rfl ?_
  intro p e s m args below meth c s₁ B hml hv
  obtain ⟨hargs, hsz, hP, hK, hD0, hE⟩ := hv
  have hx := B.exec
  have hb := B.bytes
  have hr := B.returns
  have hts : ∀ w ∈ TB, w.before args s = true := z_mV s (atoms_spec (ws := WD y_BitRow_append b_BitRow_append 2 none) B.pre)
  have hown : s.vm.findClass "DeepChannel$BitRow" = some m.cls := findClass_of_methodNamed B.named
  have hlocks := B.notSynchronized
  subst hsz
  have hD := hD0.self (sz := s.heap.size)
  generalize hAe : va_A (w_BitRow_append cI cJ qB qB_cells B_length B_cells) s.heap.size = A at hD hE ⊢
  have hA : ∀ q : Nat, s.heap.size ≤ q → A q := fun q h => by rw [← hAe]; exact Or.inr h
  have hS : va_S A s.heap s.heap [] := va_S.rf
  refine z_entry (vs := [.ref qB, .int x1]) hargs (Nat.le_of_ble_eq_true rfl) (fun ls hl => ?_)
  have hl : lv_has ls 2 [(0, .ref qB), (1, .int x1)] := hl
  show W p l e (RM 0 0) s m args below meth c s.heap [] 0 0 _ _
  refine z_qi (fun Q0 hQ => ?_)
  have F : CallFix p m c b_BitRow_append 2 s args TB "DeepChannel$BitRow" := ⟨hx, hb, hml, hown, hts⟩
  unfold f_BitRow_append at hm
  refine lv_aload_n hx hb d_BitRow_append_0 rfl (lv_at hl 0 rfl) ?_
  refine va_get (D := D) (ci := 0) (v := .int B_length) (C := "DeepChannel$BitRow") (T := fT_BitRow) (N := 2) hx hb hts u_BitRow hown hK hP 0 rfl rfl 1 (by decide) (hts _ k_213) (fun _ h9 => h9) rfl d_BitRow_append_1 ?_
  refine lv_sipush (v := (4096 : Int32)) hx hb d_BitRow_append_4 (by decide) ?_
  refine z_if hm (lv_icmp_ge (tgt := 45) hx hb d_BitRow_append_7 (by decide)) (fun hm => ?_) (fun hm => ?_)
  · cases hm
    exact z_qo hQ (z_vret hr hx hb hlocks hK hP hD hS d_BitRow_append_45)
  · refine lv_aload_n hx hb d_BitRow_append_10 rfl (lv_at hl 0 rfl) ?_
    refine va_get (D := D) (ci := 0) (v := .ref qB_cells) (C := "DeepChannel$BitRow") (T := fT_BitRow) (N := 2) hx hb hts u_BitRow hown hK hP 0 rfl rfl 0 (by decide) (hts _ k_212) (fun _ h9 => h9) rfl d_BitRow_append_11 ?_
    refine lv_aload_n hx hb d_BitRow_append_14 rfl (lv_at hl 0 rfl) ?_
    refine va_get (D := D) (ci := 0) (v := .int B_length) (C := "DeepChannel$BitRow") (T := fT_BitRow) (N := 2) hx hb hts u_BitRow hown hK hP 0 rfl rfl 1 (by decide) (hts _ k_213) (fun _ h9 => h9) rfl d_BitRow_append_15 ?_
    refine lv_bipush (v := (6 : Int32)) hx hb d_BitRow_append_18 (by decide) ?_
    refine lv_ishr hx hb d_BitRow_append_20 ?_
    refine z_nmi hm (fun v1 hm => ?_)
    refine lv_dup2_11 hx hb d_BitRow_append_21 rfl rfl ?_
    refine z_lald hm hx hb hK hP 1 rfl d_BitRow_append_22 (fun v2 hm => ?_)
    refine lv_iload_n hx hb d_BitRow_append_23 rfl (lv_at hl 1 rfl) ?_
    refine lv_i2l (v := x1.toInt64) hx hb d_BitRow_append_24 rfl ?_
    refine lv_aload_n hx hb d_BitRow_append_25 rfl (lv_at hl 0 rfl) ?_
    refine va_get (D := D) (ci := 0) (v := .int B_length) (C := "DeepChannel$BitRow") (T := fT_BitRow) (N := 2) hx hb hts u_BitRow hown hK hP 0 rfl rfl 1 (by decide) (hts _ k_213) (fun _ h9 => h9) rfl d_BitRow_append_26 ?_
    refine lv_bipush (v := (63 : Int32)) hx hb d_BitRow_append_29 (by decide) ?_
    refine lv_iand hx hb d_BitRow_append_31 ?_
    refine lv_lshl (v := (x1.toInt64 <<< ((B_length &&& (63 : Int32)).toInt64 &&& 63))) hx hb d_BitRow_append_32 rfl ?_
    refine lv_lor hx hb d_BitRow_append_33 ?_
    refine z_last hm hx hb hK hP hD hS 1 rfl d_BitRow_append_34 (fun g3 hm H locs hP hD hS => ?_)
    have hP : va_P D classes (w_BitRow_append cI cJ qB qB_cells B_length g3) H := hP
    have hD : va_D A (w_BitRow_append cI cJ qB qB_cells B_length g3) := hD
    refine lv_aload_n hx hb d_BitRow_append_35 rfl (lv_at hl 0 rfl) ?_
    refine lv_dup hx hb d_BitRow_append_36 rfl ?_
    refine va_get (D := D) (ci := 0) (v := .int B_length) (C := "DeepChannel$BitRow") (T := fT_BitRow) (N := 2) hx hb hts u_BitRow hown hK hP 0 rfl rfl 1 (by decide) (hts _ k_213) (fun _ h9 => h9) rfl d_BitRow_append_37 ?_
    refine lv_iconst (v := (1 : Int32)) hx hb d_BitRow_append_40 (by decide) ?_
    refine lv_iadd hx hb d_BitRow_append_41 ?_
    refine z_nmi hm (fun v4 hm => ?_)
    refine va_put (D := D) (ci := 0) (v := .int v4) (ty := .int) (C := "DeepChannel$BitRow") (T := fT_BitRow) (N := 2) hx hb hts u_BitRow fY_BitRow fK_BitRow fN_BitRow hown hK hP hD hS 0 rfl rfl 1 (by decide) (hts _ k_213) (fun _ h9 => h9) rfl (by decide +kernel) rfl rfl (Nat.le_of_ble_eq_true rfl) d_BitRow_append_42 (fun H locs hP hD hS => ?_)
    have hP : va_P D classes (w_BitRow_append cI cJ qB qB_cells v4 g3) H := hP
    have hD : va_D A (w_BitRow_append cI cJ qB qB_cells v4 g3) := hD
    cases hm
    exact z_qo hQ (z_vret hr hx hb hlocks hK hP hD hS d_BitRow_append_45)
-- DeepChannel$BitRow.cellAt(I)J
abbrev b_BitRow_cellAt : ByteArray := prog_2_method_5_code
abbrev y_BitRow_cellAt : MethodName := ⟨"DeepChannel$BitRow", "cellAt", "(I)J"⟩
theorem d_BitRow_cellAt_0 : decode b_BitRow_cellAt 0 = .ok (.iload_n 1, 1) := by decide +kernel
theorem d_BitRow_cellAt_1 : decode b_BitRow_cellAt 1 = .ok (.ifCond .lt 21, 3) := by decide +kernel
theorem d_BitRow_cellAt_4 : decode b_BitRow_cellAt 4 = .ok (.iload_n 1, 1) := by decide +kernel
theorem d_BitRow_cellAt_5 : decode b_BitRow_cellAt 5 = .ok (.aload_n 0, 1) := by decide +kernel
theorem d_BitRow_cellAt_6 : decode b_BitRow_cellAt 6 = .ok (.getfield 9, 3) := by decide +kernel
theorem d_BitRow_cellAt_9 : decode b_BitRow_cellAt 9 = .ok (.arraylength, 1) := by decide +kernel
theorem d_BitRow_cellAt_10 : decode b_BitRow_cellAt 10 = .ok (.if_icmp .ge 12, 3) := by decide +kernel
theorem d_BitRow_cellAt_13 : decode b_BitRow_cellAt 13 = .ok (.aload_n 0, 1) := by decide +kernel
theorem d_BitRow_cellAt_14 : decode b_BitRow_cellAt 14 = .ok (.getfield 9, 3) := by decide +kernel
theorem d_BitRow_cellAt_17 : decode b_BitRow_cellAt 17 = .ok (.iload_n 1, 1) := by decide +kernel
theorem d_BitRow_cellAt_18 : decode b_BitRow_cellAt 18 = .ok (.laload, 1) := by decide +kernel
theorem d_BitRow_cellAt_19 : decode b_BitRow_cellAt 19 = .ok (.goto 4, 3) := by decide +kernel
theorem d_BitRow_cellAt_22 : decode b_BitRow_cellAt 22 = .ok (.lconst 0, 1) := by decide +kernel
theorem d_BitRow_cellAt_23 : decode b_BitRow_cellAt 23 = .ok (.lreturn, 1) := by decide +kernel
theorem ok_BitRow_cellAt : OKv y_BitRow_cellAt b_BitRow_cellAt 2 (some .long) "DeepChannel$BitRow" 1 := ⟨k_383, k_382, k_0, k_50, by decide +kernel, by decide +kernel, by decide +kernel⟩
abbrev w_BitRow_cellAt (cI cJ : ClassId) (qB qB_cells : Nat) (B_length : Value) (B_cells : Nat → Int64) : va_W := [(qB, .inr (0, [.ref qB_cells, B_length])), (qB_cells, .inl (cJ, 64, .inr (.inl B_cells)))]
def f_BitRow_cellAt (B_cells : Nat → Int64) (x1 : Int32) : Option (Int64) :=
  if x1 < 0 then
    some (0 : Int64)
  else
  if (64 : Int32) ≤ x1 then
    some (0 : Int64)
  else
  rdL B_cells 64 x1 fun v1 =>
  some v1
set_option maxHeartbeats 4000000 in
set_option maxRecDepth 100000 in
theorem c_BitRow_cellAt (l : Launch) (D : va_G) (cI cJ : ClassId) (tt : Nat → Nat) (qB qB_cells : Nat) (B_length : Value) (sz : Nat) (B_cells : Nat → Int64) (x1 : Int32) (rr : Int64) (hm : f_BitRow_cellAt B_cells x1 = some rr) : CTl l y_BitRow_cellAt b_BitRow_cellAt 2 (some .long) (RM 0 0) D cI cJ tt [.ref qB, .int x1] (w_BitRow_cellAt cI cJ qB qB_cells B_length B_cells) (w_BitRow_cellAt cI cJ qB qB_cells B_length B_cells) sz rr := by
  refine Met.ofW (cc := b_BitRow_cellAt) (maxL := 2) (ret := (some .long)) (by decide) rfl ?_
  intro p e s m args below meth c s₁ B hml hv
  obtain ⟨hargs, hsz, hP, hK, hD0, hE⟩ := hv
  have hx := B.exec
  have hb := B.bytes
  have hr := B.returns
  have hts : ∀ w ∈ TB, w.before args s = true := z_mV s (atoms_spec (ws := WD y_BitRow_cellAt b_BitRow_cellAt 2 (some .long)) B.pre)
  have hown : s.vm.findClass "DeepChannel$BitRow" = some m.cls := findClass_of_methodNamed B.named
  have hlocks := B.notSynchronized
  subst hsz
  have hD := hD0.self (sz := s.heap.size)
  generalize hAe : va_A (w_BitRow_cellAt cI cJ qB qB_cells B_length B_cells) s.heap.size = A at hD hE ⊢
  have hA : ∀ q : Nat, s.heap.size ≤ q → A q := fun q h => by rw [← hAe]; exact Or.inr h
  have hS : va_S A s.heap s.heap [] := va_S.rf
  refine z_entry (vs := [.ref qB, .int x1]) hargs (Nat.le_of_ble_eq_true rfl) (fun ls hl => ?_)
  have hl : lv_has ls 2 [(0, .ref qB), (1, .int x1)] := hl
  show W p l e (RM 0 0) s m args below meth c s.heap [] 0 0 _ _
  refine z_qi (fun Q0 hQ => ?_)
  have F : CallFix p m c b_BitRow_cellAt 2 s args TB "DeepChannel$BitRow" := ⟨hx, hb, hml, hown, hts⟩
  unfold f_BitRow_cellAt at hm
  refine lv_iload_n hx hb d_BitRow_cellAt_0 rfl (lv_at hl 1 rfl) ?_
  refine z_if hm (lv_if_lt (tgt := 22) hx hb d_BitRow_cellAt_1 (by decide)) (fun hm => ?_) (fun hm => ?_)
  · refine lv_lconst (v := (0 : Int64)) hx hb d_BitRow_cellAt_22 (by decide) ?_
    cases hm
    exact z_qo hQ (z_lret hr hx hb hlocks hK hP hD hS d_BitRow_cellAt_23)
  · refine lv_iload_n hx hb d_BitRow_cellAt_4 rfl (lv_at hl 1 rfl) ?_
    refine lv_aload_n hx hb d_BitRow_cellAt_5 rfl (lv_at hl 0 rfl) ?_
    refine va_get (D := D) (ci := 0) (v := .ref qB_cells) (C := "DeepChannel$BitRow") (T := fT_BitRow) (N := 2) hx hb hts u_BitRow hown hK hP 0 rfl rfl 0 (by decide) (hts _ k_212) (fun _ h9 => h9) rfl d_BitRow_cellAt_6 ?_
    refine va_alen (v := (64 : Int32)) hx hb hK hP 1 1 rfl rfl rfl d_BitRow_cellAt_9 ?_
    refine z_if hm (lv_icmp_ge (tgt := 22) hx hb d_BitRow_cellAt_10 (by decide)) (fun hm => ?_) (fun hm => ?_)
    · refine lv_lconst (v := (0 : Int64)) hx hb d_BitRow_cellAt_22 (by decide) ?_
      cases hm
      exact z_qo hQ (z_lret hr hx hb hlocks hK hP hD hS d_BitRow_cellAt_23)
    · refine lv_aload_n hx hb d_BitRow_cellAt_13 rfl (lv_at hl 0 rfl) ?_
      refine va_get (D := D) (ci := 0) (v := .ref qB_cells) (C := "DeepChannel$BitRow") (T := fT_BitRow) (N := 2) hx hb hts u_BitRow hown hK hP 0 rfl rfl 0 (by decide) (hts _ k_212) (fun _ h9 => h9) rfl d_BitRow_cellAt_14 ?_
      refine lv_iload_n hx hb d_BitRow_cellAt_17 rfl (lv_at hl 1 rfl) ?_
      refine z_lald hm hx hb hK hP 1 rfl d_BitRow_cellAt_18 (fun v1 hm => ?_)
      refine lv_goto (tgt := 23) hx hb d_BitRow_cellAt_19 (by decide) ?_
      cases hm
      exact z_qo hQ (z_lret hr hx hb hlocks hK hP hD hS d_BitRow_cellAt_23)
-- DeepChannel$BitRow.bitAt(I)I
abbrev b_BitRow_bitAt : ByteArray := prog_2_method_6_code
abbrev y_BitRow_bitAt : MethodName := ⟨"DeepChannel$BitRow", "bitAt", "(I)I"⟩
theorem d_BitRow_bitAt_0 : decode b_BitRow_bitAt 0 = .ok (.aload_n 0, 1) := by decide +kernel
theorem d_BitRow_bitAt_1 : decode b_BitRow_bitAt 1 = .ok (.iload_n 1, 1) := by decide +kernel
theorem d_BitRow_bitAt_2 : decode b_BitRow_bitAt 2 = .ok (.bipush 6, 2) := by decide +kernel
theorem d_BitRow_bitAt_4 : decode b_BitRow_bitAt 4 = .ok (.ishr, 1) := by decide +kernel
theorem d_BitRow_bitAt_5 : decode b_BitRow_bitAt 5 = .ok (.invokevirtual 25, 3) := by decide +kernel
theorem d_BitRow_bitAt_8 : decode b_BitRow_bitAt 8 = .ok (.iload_n 1, 1) := by decide +kernel
theorem d_BitRow_bitAt_9 : decode b_BitRow_bitAt 9 = .ok (.bipush 63, 2) := by decide +kernel
theorem d_BitRow_bitAt_11 : decode b_BitRow_bitAt 11 = .ok (.iand, 1) := by decide +kernel
theorem d_BitRow_bitAt_12 : decode b_BitRow_bitAt 12 = .ok (.lushr, 1) := by decide +kernel
theorem d_BitRow_bitAt_13 : decode b_BitRow_bitAt 13 = .ok (.l2i, 1) := by decide +kernel
theorem d_BitRow_bitAt_14 : decode b_BitRow_bitAt 14 = .ok (.iconst 1, 1) := by decide +kernel
theorem d_BitRow_bitAt_15 : decode b_BitRow_bitAt 15 = .ok (.iand, 1) := by decide +kernel
theorem d_BitRow_bitAt_16 : decode b_BitRow_bitAt 16 = .ok (.ireturn, 1) := by decide +kernel
theorem ok_BitRow_bitAt : OKv y_BitRow_bitAt b_BitRow_bitAt 2 (some .int) "DeepChannel$BitRow" 1 := ⟨k_707, k_705, k_706, k_50, by decide +kernel, by decide +kernel, by decide +kernel⟩
abbrev w_BitRow_bitAt (cI cJ : ClassId) (qB qB_cells : Nat) (B_length : Value) (B_cells : Nat → Int64) : va_W := [(qB, .inr (0, [.ref qB_cells, B_length])), (qB_cells, .inl (cJ, 64, .inr (.inl B_cells)))]
def f_BitRow_bitAt (B_cells : Nat → Int64) (x1 : Int32) : Option (Int32) :=
  bd (f_BitRow_cellAt B_cells (x1 >>> ((6 : Int32) &&& 31))) fun u2 =>
  nm u2 fun r1 =>
  some (((r1.toUInt64 >>> ((x1 &&& (63 : Int32)).toInt64.toUInt64 &&& Int64.toUInt64 63)).toInt64).toInt32 &&& (1 : Int32))
set_option maxHeartbeats 4000000 in
set_option maxRecDepth 100000 in
theorem c_BitRow_bitAt (l : Launch) (D : va_G) (cI cJ : ClassId) (tt : Nat → Nat) (qB qB_cells : Nat) (B_length : Value) (sz : Nat) (B_cells : Nat → Int64) (x1 : Int32) (rr : Int32) (hm : f_BitRow_bitAt B_cells x1 = some rr) : CTi l y_BitRow_bitAt b_BitRow_bitAt 2 (some .int) (RM 1 21) D cI cJ tt [.ref qB, .int x1] (w_BitRow_bitAt cI cJ qB qB_cells B_length B_cells) (w_BitRow_bitAt cI cJ qB qB_cells B_length B_cells) sz rr := by
  refine Met.ofW (cc := b_BitRow_bitAt) (maxL := 2) (ret := (some .int)) (by decide) rfl ?_
  intro p e s m args below meth c s₁ B hml hv
  obtain ⟨hargs, hsz, hP, hK, hD0, hE⟩ := hv
  have hx := B.exec
  have hb := B.bytes
  have hr := B.returns
  have hts : ∀ w ∈ TB, w.before args s = true := z_mV s (atoms_spec (ws := WD y_BitRow_bitAt b_BitRow_bitAt 2 (some .int)) B.pre)
  have hown : s.vm.findClass "DeepChannel$BitRow" = some m.cls := findClass_of_methodNamed B.named
  have hlocks := B.notSynchronized
  subst hsz
  have hD := hD0.self (sz := s.heap.size)
  generalize hAe : va_A (w_BitRow_bitAt cI cJ qB qB_cells B_length B_cells) s.heap.size = A at hD hE ⊢
  have hA : ∀ q : Nat, s.heap.size ≤ q → A q := fun q h => by rw [← hAe]; exact Or.inr h
  have hS : va_S A s.heap s.heap [] := va_S.rf
  refine z_entry (vs := [.ref qB, .int x1]) hargs (Nat.le_of_ble_eq_true rfl) (fun ls hl => ?_)
  have hl : lv_has ls 2 [(0, .ref qB), (1, .int x1)] := hl
  show W p l e (RM 1 21) s m args below meth c s.heap [] 0 0 _ _
  refine z_qi (fun Q0 hQ => ?_)
  have F : CallFix p m c b_BitRow_bitAt 2 s args TB "DeepChannel$BitRow" := ⟨hx, hb, hml, hown, hts⟩
  unfold f_BitRow_bitAt at hm
  refine lv_aload_n hx hb d_BitRow_bitAt_0 rfl (lv_at hl 0 rfl) ?_
  refine lv_iload_n hx hb d_BitRow_bitAt_1 rfl (lv_at hl 1 rfl) ?_
  refine lv_bipush (v := (6 : Int32)) hx hb d_BitRow_bitAt_2 (by decide) ?_
  refine lv_ishr hx hb d_BitRow_bitAt_4 ?_
  obtain ⟨r1, hu, hm⟩ := bd_el hm
  replace hm := nm_1 hm
  refine z_cVl (wc := w_BitRow_cellAt cI cJ qB qB_cells B_length B_cells) (wc' := w_BitRow_cellAt cI cJ qB qB_cells B_length B_cells) (wr := []) (As := [.int (x1 >>> ((6 : Int32) &&& 31))]) (rest := []) (c_BitRow_cellAt l D cI cJ tt qB qB_cells B_length _ B_cells (x1 >>> ((6 : Int32) &&& 31)) r1 hu) F ok_BitRow_cellAt rfl k_380 hK hE hP hD hS hA [0, 1] [] rfl rfl (by decide) (by decide) (by decide) 0 rfl rfl rfl ⟨rfl, rfl, Nat.le_of_ble_eq_true rfl, Nat.le_of_ble_eq_true rfl⟩ ⟨Nat.zero_le _, Nat.zero_le _⟩ rfl hl.1 rfl (Nat.le_of_ble_eq_true rfl) d_BitRow_bitAt_5 (fun H locs hP hD hS => ?_)
  have hP : va_P D classes (w_BitRow_bitAt cI cJ qB qB_cells B_length B_cells) H := hP.sub [0, 1] rfl
  have hD : va_D A (w_BitRow_bitAt cI cJ qB qB_cells B_length B_cells) := hD.sub [0, 1] (by decide) rfl
  refine lv_iload_n hx hb d_BitRow_bitAt_8 rfl (lv_at hl 1 rfl) ?_
  refine lv_bipush (v := (63 : Int32)) hx hb d_BitRow_bitAt_9 (by decide) ?_
  refine lv_iand hx hb d_BitRow_bitAt_11 ?_
  refine lv_lushr (v := ((r1.toUInt64 >>> ((x1 &&& (63 : Int32)).toInt64.toUInt64 &&& Int64.toUInt64 63)).toInt64)) hx hb d_BitRow_bitAt_12 rfl ?_
  refine lv_l2i (v := ((r1.toUInt64 >>> ((x1 &&& (63 : Int32)).toInt64.toUInt64 &&& Int64.toUInt64 63)).toInt64).toInt32) hx hb d_BitRow_bitAt_13 rfl ?_
  refine lv_iconst (v := (1 : Int32)) hx hb d_BitRow_bitAt_14 (by decide) ?_
  refine lv_iand hx hb d_BitRow_bitAt_15 ?_
  cases hm
  exact z_qo hQ (z_ireti hr hx hb hlocks hK hP hD hS d_BitRow_bitAt_16)
-- DeepChannel$BitRow.window(I)J
abbrev b_BitRow_window : ByteArray := prog_2_method_7_code
abbrev y_BitRow_window : MethodName := ⟨"DeepChannel$BitRow", "window", "(I)J"⟩
theorem d_BitRow_window_0 : decode b_BitRow_window 0 = .ok (.iload_n 1, 1) := by decide +kernel
theorem d_BitRow_window_1 : decode b_BitRow_window 1 = .ok (.bipush 6, 2) := by decide +kernel
theorem d_BitRow_window_3 : decode b_BitRow_window 3 = .ok (.ishr, 1) := by decide +kernel
theorem d_BitRow_window_4 : decode b_BitRow_window 4 = .ok (.istore_n 2, 1) := by decide +kernel
theorem d_BitRow_window_5 : decode b_BitRow_window 5 = .ok (.iload_n 1, 1) := by decide +kernel
theorem d_BitRow_window_6 : decode b_BitRow_window 6 = .ok (.bipush 63, 2) := by decide +kernel
theorem d_BitRow_window_8 : decode b_BitRow_window 8 = .ok (.iand, 1) := by decide +kernel
theorem d_BitRow_window_9 : decode b_BitRow_window 9 = .ok (.istore_n 3, 1) := by decide +kernel
theorem d_BitRow_window_10 : decode b_BitRow_window 10 = .ok (.aload_n 0, 1) := by decide +kernel
theorem d_BitRow_window_11 : decode b_BitRow_window 11 = .ok (.iload_n 2, 1) := by decide +kernel
theorem d_BitRow_window_12 : decode b_BitRow_window 12 = .ok (.invokevirtual 25, 3) := by decide +kernel
theorem d_BitRow_window_15 : decode b_BitRow_window 15 = .ok (.iload_n 3, 1) := by decide +kernel
theorem d_BitRow_window_16 : decode b_BitRow_window 16 = .ok (.lushr, 1) := by decide +kernel
theorem d_BitRow_window_17 : decode b_BitRow_window 17 = .ok (.lstore 4, 2) := by decide +kernel
theorem d_BitRow_window_19 : decode b_BitRow_window 19 = .ok (.iload_n 3, 1) := by decide +kernel
theorem d_BitRow_window_20 : decode b_BitRow_window 20 = .ok (.ifCond .ne 8, 3) := by decide +kernel
theorem d_BitRow_window_23 : decode b_BitRow_window 23 = .ok (.lload 4, 2) := by decide +kernel
theorem d_BitRow_window_25 : decode b_BitRow_window 25 = .ok (.goto 18, 3) := by decide +kernel
theorem d_BitRow_window_28 : decode b_BitRow_window 28 = .ok (.lload 4, 2) := by decide +kernel
theorem d_BitRow_window_30 : decode b_BitRow_window 30 = .ok (.aload_n 0, 1) := by decide +kernel
theorem d_BitRow_window_31 : decode b_BitRow_window 31 = .ok (.iload_n 2, 1) := by decide +kernel
theorem d_BitRow_window_32 : decode b_BitRow_window 32 = .ok (.iconst 1, 1) := by decide +kernel
theorem d_BitRow_window_33 : decode b_BitRow_window 33 = .ok (.iadd, 1) := by decide +kernel
theorem d_BitRow_window_34 : decode b_BitRow_window 34 = .ok (.invokevirtual 25, 3) := by decide +kernel
theorem d_BitRow_window_37 : decode b_BitRow_window 37 = .ok (.bipush 64, 2) := by decide +kernel
theorem d_BitRow_window_39 : decode b_BitRow_window 39 = .ok (.iload_n 3, 1) := by decide +kernel
theorem d_BitRow_window_40 : decode b_BitRow_window 40 = .ok (.isub, 1) := by decide +kernel
theorem d_BitRow_window_41 : decode b_BitRow_window 41 = .ok (.lshl, 1) := by decide +kernel
theorem d_BitRow_window_42 : decode b_BitRow_window 42 = .ok (.lor, 1) := by decide +kernel
theorem d_BitRow_window_43 : decode b_BitRow_window 43 = .ok (.lreturn, 1) := by decide +kernel
theorem ok_BitRow_window : OKv y_BitRow_window b_BitRow_window 6 (some .long) "DeepChannel$BitRow" 1 := ⟨k_379, k_377, k_378, k_50, by decide +kernel, by decide +kernel, by decide +kernel⟩
abbrev w_BitRow_window (cI cJ : ClassId) (qB qB_cells : Nat) (B_length : Value) (B_cells : Nat → Int64) : va_W := [(qB, .inr (0, [.ref qB_cells, B_length])), (qB_cells, .inl (cJ, 64, .inr (.inl B_cells)))]
def f_BitRow_window (B_cells : Nat → Int64) (x1 : Int32) : Option (Int64) :=
  nm (x1 >>> ((6 : Int32) &&& 31)) fun v1 =>
  nm (x1 &&& (63 : Int32)) fun v2 =>
  bd (f_BitRow_cellAt B_cells v1) fun u4 =>
  nm u4 fun r3 =>
  nm ((r3.toUInt64 >>> (v2.toInt64.toUInt64 &&& Int64.toUInt64 63)).toInt64) fun v5 =>
  if v2 = 0 then
    some v5
  else
  bd (f_BitRow_cellAt B_cells (v1 + (1 : Int32))) fun u7 =>
  nm u7 fun r6 =>
  some (v5 ||| (r6 <<< (((64 : Int32) - v2).toInt64 &&& 63)))
set_option maxHeartbeats 4000000 in
set_option maxRecDepth 100000 in
theorem c_BitRow_window (l : Launch) (D : va_G) (cI cJ : ClassId) (tt : Nat → Nat) (qB qB_cells : Nat) (B_length : Value) (sz : Nat) (B_cells : Nat → Int64) (x1 : Int32) (rr : Int64) (hm : f_BitRow_window B_cells x1 = some rr) : CTl l y_BitRow_window b_BitRow_window 6 (some .long) (RM 1 21) D cI cJ tt [.ref qB, .int x1] (w_BitRow_window cI cJ qB qB_cells B_length B_cells) (w_BitRow_window cI cJ qB qB_cells B_length B_cells) sz rr := by
  refine Met.ofW (cc := b_BitRow_window) (maxL := 6) (ret := (some .long)) (by decide) rfl ?_
  intro p e s m args below meth c s₁ B hml hv
  obtain ⟨hargs, hsz, hP, hK, hD0, hE⟩ := hv
  have hx := B.exec
  have hb := B.bytes
  have hr := B.returns
  have hts : ∀ w ∈ TB, w.before args s = true := z_mV s (atoms_spec (ws := WD y_BitRow_window b_BitRow_window 6 (some .long)) B.pre)
  have hown : s.vm.findClass "DeepChannel$BitRow" = some m.cls := findClass_of_methodNamed B.named
  have hlocks := B.notSynchronized
  subst hsz
  have hD := hD0.self (sz := s.heap.size)
  generalize hAe : va_A (w_BitRow_window cI cJ qB qB_cells B_length B_cells) s.heap.size = A at hD hE ⊢
  have hA : ∀ q : Nat, s.heap.size ≤ q → A q := fun q h => by rw [← hAe]; exact Or.inr h
  have hS : va_S A s.heap s.heap [] := va_S.rf
  refine z_entry (vs := [.ref qB, .int x1]) hargs (Nat.le_of_ble_eq_true rfl) (fun ls hl => ?_)
  have hl : lv_has ls 6 [(0, .ref qB), (1, .int x1)] := hl
  show W p l e (RM 1 21) s m args below meth c s.heap [] 0 0 _ _
  refine z_qi (fun Q0 hQ => ?_)
  have F : CallFix p m c b_BitRow_window 6 s args TB "DeepChannel$BitRow" := ⟨hx, hb, hml, hown, hts⟩
  unfold f_BitRow_window at hm
  refine lv_iload_n hx hb d_BitRow_window_0 rfl (lv_at hl 1 rfl) ?_
  refine lv_bipush (v := (6 : Int32)) hx hb d_BitRow_window_1 (by decide) ?_
  refine lv_ishr hx hb d_BitRow_window_3 ?_
  refine z_nmi hm (fun v1 hm => ?_)
  refine lv_istore_n (lv' := [(2, .int v1), (0, .ref qB), (1, .int x1)]) hx hb d_BitRow_window_4 rfl hl (by decide) rfl (fun ls hl => ?_)
  refine lv_iload_n hx hb d_BitRow_window_5 rfl (lv_at hl 2 rfl) ?_
  refine lv_bipush (v := (63 : Int32)) hx hb d_BitRow_window_6 (by decide) ?_
  refine lv_iand hx hb d_BitRow_window_8 ?_
  refine z_nmi hm (fun v2 hm => ?_)
  refine lv_istore_n (lv' := [(3, .int v2), (2, .int v1), (0, .ref qB), (1, .int x1)]) hx hb d_BitRow_window_9 rfl hl (by decide) rfl (fun ls hl => ?_)
  refine lv_aload_n hx hb d_BitRow_window_10 rfl (lv_at hl 2 rfl) ?_
  refine lv_iload_n hx hb d_BitRow_window_11 rfl (lv_at hl 1 rfl) ?_
  obtain ⟨r3, hu, hm⟩ := bd_el hm
  replace hm := nm_1 hm
  refine z_cVl (wc := w_BitRow_cellAt cI cJ qB qB_cells B_length B_cells) (wc' := w_BitRow_cellAt cI cJ qB qB_cells B_length B_cells) (wr := []) (As := [.int v1]) (rest := []) (c_BitRow_cellAt l D cI cJ tt qB qB_cells B_length _ B_cells v1 r3 hu) F ok_BitRow_cellAt rfl k_380 hK hE hP hD hS hA [0, 1] [] rfl rfl (by decide) (by decide) (by decide) 0 rfl rfl rfl ⟨rfl, rfl, Nat.le_of_ble_eq_true rfl, Nat.le_of_ble_eq_true rfl⟩ ⟨Nat.zero_le _, Nat.zero_le _⟩ rfl hl.1 rfl (Nat.le_of_ble_eq_true rfl) d_BitRow_window_12 (fun H locs hP hD hS => ?_)
  have hP : va_P D classes (w_BitRow_window cI cJ qB qB_cells B_length B_cells) H := hP.sub [0, 1] rfl
  have hD : va_D A (w_BitRow_window cI cJ qB qB_cells B_length B_cells) := hD.sub [0, 1] (by decide) rfl
  refine lv_iload_n hx hb d_BitRow_window_15 rfl (lv_at hl 0 rfl) ?_
  refine lv_lushr (v := ((r3.toUInt64 >>> (v2.toInt64.toUInt64 &&& Int64.toUInt64 63)).toInt64)) hx hb d_BitRow_window_16 rfl ?_
  refine z_nml hm (fun v5 hm => ?_)
  refine lv_lstore (lv' := [(4, .long v5), (3, .int v2), (2, .int v1), (0, .ref qB), (1, .int x1)]) hx hb d_BitRow_window_17 hl (by decide) rfl (fun ls hl => ?_)
  refine lv_iload_n hx hb d_BitRow_window_19 rfl (lv_at hl 1 rfl) ?_
  refine z_ifn hm (lv_if_ne (tgt := 28) hx hb d_BitRow_window_20 (by decide)) (fun hm => ?_) (fun hm => ?_)
  · refine lv_lload hx hb d_BitRow_window_23 (lv_at hl 0 rfl) ?_
    refine lv_goto (tgt := 43) hx hb d_BitRow_window_25 (by decide) ?_
    cases hm
    exact z_qo hQ (z_lret hr hx hb hlocks hK hP hD hS d_BitRow_window_43)
  · refine lv_lload hx hb d_BitRow_window_28 (lv_at hl 0 rfl) ?_
    refine lv_aload_n hx hb d_BitRow_window_30 rfl (lv_at hl 3 rfl) ?_
    refine lv_iload_n hx hb d_BitRow_window_31 rfl (lv_at hl 2 rfl) ?_
    refine lv_iconst (v := (1 : Int32)) hx hb d_BitRow_window_32 (by decide) ?_
    refine lv_iadd hx hb d_BitRow_window_33 ?_
    obtain ⟨r6, hu, hm⟩ := bd_el hm
    replace hm := nm_1 hm
    refine z_cVl (wc := w_BitRow_cellAt cI cJ qB qB_cells B_length B_cells) (wc' := w_BitRow_cellAt cI cJ qB qB_cells B_length B_cells) (wr := []) (As := [.int (v1 + (1 : Int32))]) (rest := [.long v5]) (c_BitRow_cellAt l D cI cJ tt qB qB_cells B_length _ B_cells (v1 + (1 : Int32)) r6 hu) F ok_BitRow_cellAt rfl k_380 hK hE hP hD hS hA [0, 1] [] rfl rfl (by decide) (by decide) (by decide) 0 rfl rfl rfl ⟨rfl, rfl, Nat.le_of_ble_eq_true rfl, Nat.le_of_ble_eq_true rfl⟩ ⟨Nat.zero_le _, Nat.zero_le _⟩ rfl hl.1 rfl (Nat.le_of_ble_eq_true rfl) d_BitRow_window_34 (fun H locs hP hD hS => ?_)
    have hP : va_P D classes (w_BitRow_window cI cJ qB qB_cells B_length B_cells) H := hP.sub [0, 1] rfl
    have hD : va_D A (w_BitRow_window cI cJ qB qB_cells B_length B_cells) := hD.sub [0, 1] (by decide) rfl
    refine lv_bipush (v := (64 : Int32)) hx hb d_BitRow_window_37 (by decide) ?_
    refine lv_iload_n hx hb d_BitRow_window_39 rfl (lv_at hl 1 rfl) ?_
    refine lv_isub hx hb d_BitRow_window_40 ?_
    refine lv_lshl (v := (r6 <<< (((64 : Int32) - v2).toInt64 &&& 63))) hx hb d_BitRow_window_41 rfl ?_
    refine lv_lor hx hb d_BitRow_window_42 ?_
    cases hm
    exact z_qo hQ (z_lret hr hx hb hlocks hK hP hD hS d_BitRow_window_43)
-- DeepChannel$BitRow.size()I
abbrev b_BitRow_size : ByteArray := prog_2_method_2_code
abbrev y_BitRow_size : MethodName := ⟨"DeepChannel$BitRow", "size", "()I"⟩
theorem d_BitRow_size_0 : decode b_BitRow_size 0 = .ok (.aload_n 0, 1) := by decide +kernel
theorem d_BitRow_size_1 : decode b_BitRow_size 1 = .ok (.getfield 15, 3) := by decide +kernel
theorem d_BitRow_size_4 : decode b_BitRow_size 4 = .ok (.ireturn, 1) := by decide +kernel
theorem ok_BitRow_size : OKv y_BitRow_size b_BitRow_size 1 (some .int) "DeepChannel$BitRow" 0 := ⟨k_533, k_531, k_532, k_50, by decide +kernel, by decide +kernel, by decide +kernel⟩
abbrev w_BitRow_size (cI cJ : ClassId) (qB : Nat) (B_cells : Value) (B_length : Int32) : va_W := [(qB, .inr (0, [B_cells, .int B_length]))]
def f_BitRow_size (B_length : Int32) : Option (Int32) :=
  some B_length
set_option maxHeartbeats 4000000 in
set_option maxRecDepth 100000 in
theorem c_BitRow_size (l : Launch) (D : va_G) (cI cJ : ClassId) (tt : Nat → Nat) (qB : Nat) (B_cells : Value) (sz : Nat) (B_length : Int32) (rr : Int32) (hm : f_BitRow_size B_length = some rr) : CTi l y_BitRow_size b_BitRow_size 1 (some .int) (RM 0 0) D cI cJ tt [.ref qB] (w_BitRow_size cI cJ qB B_cells B_length) (w_BitRow_size cI cJ qB B_cells B_length) sz rr := by
  refine Met.ofW (cc := b_BitRow_size) (maxL := 1) (ret := (some .int)) (by decide) rfl ?_
  intro p e s m args below meth c s₁ B hml hv
  obtain ⟨hargs, hsz, hP, hK, hD0, hE⟩ := hv
  have hx := B.exec
  have hb := B.bytes
  have hr := B.returns
  have hts : ∀ w ∈ TB, w.before args s = true := z_mV s (atoms_spec (ws := WD y_BitRow_size b_BitRow_size 1 (some .int)) B.pre)
  have hown : s.vm.findClass "DeepChannel$BitRow" = some m.cls := findClass_of_methodNamed B.named
  have hlocks := B.notSynchronized
  subst hsz
  have hD := hD0.self (sz := s.heap.size)
  generalize hAe : va_A (w_BitRow_size cI cJ qB B_cells B_length) s.heap.size = A at hD hE ⊢
  have hA : ∀ q : Nat, s.heap.size ≤ q → A q := fun q h => by rw [← hAe]; exact Or.inr h
  have hS : va_S A s.heap s.heap [] := va_S.rf
  refine z_entry (vs := [.ref qB]) hargs (Nat.le_of_ble_eq_true rfl) (fun ls hl => ?_)
  have hl : lv_has ls 1 [(0, .ref qB)] := hl
  show W p l e (RM 0 0) s m args below meth c s.heap [] 0 0 _ _
  refine z_qi (fun Q0 hQ => ?_)
  have F : CallFix p m c b_BitRow_size 1 s args TB "DeepChannel$BitRow" := ⟨hx, hb, hml, hown, hts⟩
  unfold f_BitRow_size at hm
  refine lv_aload_n hx hb d_BitRow_size_0 rfl (lv_at hl 0 rfl) ?_
  refine va_get (D := D) (ci := 0) (v := .int B_length) (C := "DeepChannel$BitRow") (T := fT_BitRow) (N := 2) hx hb hts u_BitRow hown hK hP 0 rfl rfl 1 (by decide) (hts _ k_213) (fun _ h9 => h9) rfl d_BitRow_size_1 ?_
  cases hm
  exact z_qo hQ (z_ireti hr hx hb hlocks hK hP hD hS d_BitRow_size_4)
-- java/util/Arrays.fill([JJ)V
abbrev b_Arrays_fillJ : ByteArray := prog_24_method_101_code
abbrev y_Arrays_fillJ : MethodName := ⟨"java/util/Arrays", "fill", "([JJ)V"⟩
theorem d_Arrays_fillJ_0 : decode b_Arrays_fillJ 0 = .ok (.iconst 0, 1) := by decide +kernel
theorem d_Arrays_fillJ_1 : decode b_Arrays_fillJ 1 = .ok (.istore_n 3, 1) := by decide +kernel
theorem d_Arrays_fillJ_2 : decode b_Arrays_fillJ 2 = .ok (.aload_n 0, 1) := by decide +kernel
theorem d_Arrays_fillJ_3 : decode b_Arrays_fillJ 3 = .ok (.arraylength, 1) := by decide +kernel
theorem d_Arrays_fillJ_4 : decode b_Arrays_fillJ 4 = .ok (.istore 4, 2) := by decide +kernel
theorem d_Arrays_fillJ_6 : decode b_Arrays_fillJ 6 = .ok (.iload_n 3, 1) := by decide +kernel
theorem d_Arrays_fillJ_7 : decode b_Arrays_fillJ 7 = .ok (.iload 4, 2) := by decide +kernel
theorem d_Arrays_fillJ_9 : decode b_Arrays_fillJ 9 = .ok (.if_icmp .ge 13, 3) := by decide +kernel
theorem d_Arrays_fillJ_12 : decode b_Arrays_fillJ 12 = .ok (.aload_n 0, 1) := by decide +kernel
theorem d_Arrays_fillJ_13 : decode b_Arrays_fillJ 13 = .ok (.iload_n 3, 1) := by decide +kernel
theorem d_Arrays_fillJ_14 : decode b_Arrays_fillJ 14 = .ok (.lload_n 1, 1) := by decide +kernel
theorem d_Arrays_fillJ_15 : decode b_Arrays_fillJ 15 = .ok (.lastore, 1) := by decide +kernel
theorem d_Arrays_fillJ_16 : decode b_Arrays_fillJ 16 = .ok (.iinc 3 1, 3) := by decide +kernel
theorem d_Arrays_fillJ_19 : decode b_Arrays_fillJ 19 = .ok (.goto (-13), 3) := by decide +kernel
theorem d_Arrays_fillJ_22 : decode b_Arrays_fillJ 22 = .ok (.return_, 1) := by decide +kernel
theorem ok_Arrays_fillJ : OKs y_Arrays_fillJ b_Arrays_fillJ 5 none 2 := ⟨k_483, k_482, k_47, by decide +kernel, by decide +kernel, by decide +kernel⟩
abbrev w_Arrays_fillJ (cI cJ : ClassId) (qP0 : Nat) (nP0 : Nat) (p0 : Nat → Int64) : va_W := [(qP0, .inl (cJ, nP0, .inr (.inl p0)))]
def f_Arrays_fillJ_6_b (nP0 : Nat) (kh6 : Int64 → Int32 → Int32 → (Nat → Int64) → Option ((Nat → Int64))) (x1 : Int64) (x3 : Int32) (x4 : Int32) (p0 : Nat → Int64) : Option ((Nat → Int64)) :=
  if x4 ≤ x3 then
    some p0
  else
  wrL p0 nP0 x3 x1 fun g1 =>
  nm (x3 + (1 : Int32)) fun v2 =>
  kh6 x1 v2 x4 g1
def f_Arrays_fillJ_6 (nP0 : Nat) : Nat → Int64 → Int32 → Int32 → (Nat → Int64) → Option ((Nat → Int64))
  | 0 => fun _ _ _ _ => none
  | n + 1 => fun x1 x3 x4 p0 => f_Arrays_fillJ_6_b nP0 (f_Arrays_fillJ_6 nP0 n) x1 x3 x4 p0
def f_Arrays_fillJ (p0 : Nat → Int64) (nP0 : Nat) (x1 : Int64) : Option ((Nat → Int64)) :=
  nm (nI nP0) fun v3 =>
  f_Arrays_fillJ_6 nP0 10000 x1 (0 : Int32) v3 p0
set_option maxHeartbeats 4000000 in
set_option maxRecDepth 100000 in
theorem c_Arrays_fillJ (l : Launch) (D : va_G) (cI cJ : ClassId) (tt : Nat → Nat) (qP0 : Nat) (nP0 : Nat) (sz : Nat) (p0 : Nat → Int64) (x1 : Int64) (p0' : Nat → Int64) (hm : f_Arrays_fillJ p0 nP0 x1 = some p0') : CTv l y_Arrays_fillJ b_Arrays_fillJ 5 none (RM 0 0) D cI cJ tt [.ref qP0, .long x1] (w_Arrays_fillJ cI cJ qP0 nP0 p0) (w_Arrays_fillJ cI cJ qP0 nP0 p0') sz := by
  refine Met.ofW (cc := b_Arrays_fillJ) (maxL := 5) (ret := none) (by decide) rfl ?_
  intro p e s m args below meth c s₁ B hml hv
  obtain ⟨hargs, hsz, hP, hK, hD0, hE⟩ := hv
  have hx := B.exec
  have hb := B.bytes
  have hr := B.returns
  have hts : ∀ w ∈ TB, w.before args s = true := z_mV s (atoms_spec (ws := WD y_Arrays_fillJ b_Arrays_fillJ 5 none) B.pre)
  have hown : s.vm.findClass "java/util/Arrays" = some m.cls := findClass_of_methodNamed B.named
  have hlocks := B.notSynchronized
  subst hsz
  have hD := hD0.self (sz := s.heap.size)
  generalize hAe : va_A (w_Arrays_fillJ cI cJ qP0 nP0 p0) s.heap.size = A at hD hE ⊢
  have hA : ∀ q : Nat, s.heap.size ≤ q → A q := fun q h => by rw [← hAe]; exact Or.inr h
  have hS : va_S A s.heap s.heap [] := va_S.rf
  refine z_entry (vs := [.ref qP0, .long x1]) hargs (Nat.le_of_ble_eq_true rfl) (fun ls hl => ?_)
  have hl : lv_has ls 5 [(0, .ref qP0), (1, .long x1)] := hl
  show W p l e (RM 0 0) s m args below meth c s.heap [] 0 0 _ _
  refine z_qi (fun Q0 hQ => ?_)
  have F : CallFix p m c b_Arrays_fillJ 5 s args TB "java/util/Arrays" := ⟨hx, hb, hml, hown, hts⟩
  have T6 : ∀ (n6 : Nat) (x1 : Int64) (x3 : Int32) (x4 : Int32) (p0 : Nat → Int64), f_Arrays_fillJ_6 nP0 n6 x1 x3 x4 p0 = some p0' → ∀ (H : Heap) (locs : List Loc), va_P D classes (w_Arrays_fillJ cI cJ qP0 nP0 p0) H → va_D A (w_Arrays_fillJ cI cJ qP0 nP0 p0) → va_S A s.heap H locs → ∀ (ls : Array Slot), lv_has ls 5 [(0, .ref qP0), (1, .long x1), (3, .int x3), (4, .int x4)] → W p l e (RM 0 0) s m args below meth c H locs 0 0 Q0 (F0 m 6 ls []) := by
    intro n6
    induction n6 with
    | zero => intro x1 x3 x4 p0 hm; cases hm
    | succ n6 ih6 =>
      intro x1 x3 x4 p0 hm H locs hP hD hS ls hl
      replace hm : f_Arrays_fillJ_6_b nP0 (f_Arrays_fillJ_6 nP0 n6) x1 x3 x4 p0 = some p0' := hm
      unfold f_Arrays_fillJ_6_b at hm
      refine lv_iload_n hx hb d_Arrays_fillJ_6 rfl (lv_at hl 2 rfl) ?_
      refine lv_iload hx hb d_Arrays_fillJ_7 (lv_at hl 3 rfl) ?_
      refine z_if hm (lv_icmp_ge (tgt := 22) hx hb d_Arrays_fillJ_9 (by decide)) (fun hm => ?_) (fun hm => ?_)
      · cases hm
        exact z_qo hQ (z_vret hr hx hb hlocks hK hP hD hS d_Arrays_fillJ_22)
      · refine lv_aload_n hx hb d_Arrays_fillJ_12 rfl (lv_at hl 0 rfl) ?_
        refine lv_iload_n hx hb d_Arrays_fillJ_13 rfl (lv_at hl 2 rfl) ?_
        refine lv_lload_n hx hb d_Arrays_fillJ_14 rfl (lv_at hl 1 rfl) ?_
        refine z_last hm hx hb hK hP hD hS 0 rfl d_Arrays_fillJ_15 (fun g1 hm H locs hP hD hS => ?_)
        have hP : va_P D classes (w_Arrays_fillJ cI cJ qP0 nP0 g1) H := hP
        have hD : va_D A (w_Arrays_fillJ cI cJ qP0 nP0 g1) := hD
        obtain ⟨v2, ev, hm⟩ := nm_el hm
        refine lv_iinc (v := v2) (lv' := [(3, .int v2), (0, .ref qP0), (1, .long x1), (4, .int x4)]) hx hb d_Arrays_fillJ_16 hl (k := 2) rfl (by rw [ev]; rfl) (by decide) rfl (fun ls hl => ?_)
        refine lv_goto (tgt := 6) hx hb d_Arrays_fillJ_19 (by decide) ?_
        exact ih6 x1 v2 x4 g1 hm _ _ hP hD hS _ (lv_sub hl [1, 2, 0, 3] rfl)
  unfold f_Arrays_fillJ at hm
  refine lv_iconst (v := (0 : Int32)) hx hb d_Arrays_fillJ_0 (by decide) ?_
  refine lv_istore_n (lv' := [(3, .int (0 : Int32)), (0, .ref qP0), (1, .long x1)]) hx hb d_Arrays_fillJ_1 rfl hl (by decide) rfl (fun ls hl => ?_)
  refine lv_aload_n hx hb d_Arrays_fillJ_2 rfl (lv_at hl 1 rfl) ?_
  refine va_alen (v := (nI nP0)) hx hb hK hP 0 1 rfl rfl rfl d_Arrays_fillJ_3 ?_
  refine z_nmi hm (fun v3 hm => ?_)
  refine lv_istore (lv' := [(4, .int v3), (3, .int (0 : Int32)), (0, .ref qP0), (1, .long x1)]) hx hb d_Arrays_fillJ_4 hl (by decide) rfl (fun ls hl => ?_)
  exact T6 10000 x1 (0 : Int32) v3 p0 hm _ _ hP hD hS _ (lv_sub hl [2, 3, 1, 0] rfl)
-- DeepChannel$BitRow.empty()V
abbrev b_BitRow_empty : ByteArray := prog_2_method_3_code
abbrev y_BitRow_empty : MethodName := ⟨"DeepChannel$BitRow", "empty", "()V"⟩
theorem d_BitRow_empty_0 : decode b_BitRow_empty 0 = .ok (.aload_n 0, 1) := by decide +kernel
theorem d_BitRow_empty_1 : decode b_BitRow_empty 1 = .ok (.getfield 9, 3) := by decide +kernel
theorem d_BitRow_empty_4 : decode b_BitRow_empty 4 = .ok (.lconst 0, 1) := by decide +kernel
theorem d_BitRow_empty_5 : decode b_BitRow_empty 5 = .ok (.invokestatic 19, 3) := by decide +kernel
theorem d_BitRow_empty_8 : decode b_BitRow_empty 8 = .ok (.aload_n 0, 1) := by decide +kernel
theorem d_BitRow_empty_9 : decode b_BitRow_empty 9 = .ok (.iconst 0, 1) := by decide +kernel
theorem d_BitRow_empty_10 : decode b_BitRow_empty 10 = .ok (.putfield 15, 3) := by decide +kernel
theorem d_BitRow_empty_13 : decode b_BitRow_empty 13 = .ok (.return_, 1) := by decide +kernel
theorem ok_BitRow_empty : OKv y_BitRow_empty b_BitRow_empty 1 none "DeepChannel$BitRow" 0 := ⟨k_480, k_478, k_479, k_50, by decide +kernel, by decide +kernel, by decide +kernel⟩
abbrev w_BitRow_empty (cI cJ : ClassId) (qB qB_cells : Nat) (B_length : Int32) (B_cells : Nat → Int64) : va_W := [(qB, .inr (0, [.ref qB_cells, .int B_length])), (qB_cells, .inl (cJ, 64, .inr (.inl B_cells)))]
def f_BitRow_empty (B_length : Int32) (B_cells : Nat → Int64) : Option (Int32 × (Nat → Int64)) :=
  bd (f_Arrays_fillJ B_cells 64 (0 : Int64)) fun u2 =>
  nm u2 fun g1 =>
  some ((0 : Int32), g1)
set_option maxHeartbeats 4000000 in
set_option maxRecDepth 100000 in
theorem c_BitRow_empty (l : Launch) (D : va_G) (cI cJ : ClassId) (tt : Nat → Nat) (qB qB_cells : Nat) (sz : Nat) (B_length : Int32) (B_cells : Nat → Int64) (B_length' : Int32) (B_cells' : Nat → Int64) (hm : f_BitRow_empty B_length B_cells = some (B_length', B_cells')) : CTv l y_BitRow_empty b_BitRow_empty 1 none (RM 1 24) D cI cJ tt [.ref qB] (w_BitRow_empty cI cJ qB qB_cells B_length B_cells) (w_BitRow_empty cI cJ qB qB_cells B_length' B_cells') sz := by
  refine Met.ofW (cc := b_BitRow_empty) (maxL := 1) (ret := none) (by decide) rfl ?_
  intro p e s m args below meth c s₁ B hml hv
  obtain ⟨hargs, hsz, hP, hK, hD0, hE⟩ := hv
  have hx := B.exec
  have hb := B.bytes
  have hr := B.returns
  have hts : ∀ w ∈ TB, w.before args s = true := z_mV s (atoms_spec (ws := WD y_BitRow_empty b_BitRow_empty 1 none) B.pre)
  have hown : s.vm.findClass "DeepChannel$BitRow" = some m.cls := findClass_of_methodNamed B.named
  have hlocks := B.notSynchronized
  subst hsz
  have hD := hD0.self (sz := s.heap.size)
  generalize hAe : va_A (w_BitRow_empty cI cJ qB qB_cells B_length B_cells) s.heap.size = A at hD hE ⊢
  have hA : ∀ q : Nat, s.heap.size ≤ q → A q := fun q h => by rw [← hAe]; exact Or.inr h
  have hS : va_S A s.heap s.heap [] := va_S.rf
  refine z_entry (vs := [.ref qB]) hargs (Nat.le_of_ble_eq_true rfl) (fun ls hl => ?_)
  have hl : lv_has ls 1 [(0, .ref qB)] := hl
  show W p l e (RM 1 24) s m args below meth c s.heap [] 0 0 _ _
  refine z_qi (fun Q0 hQ => ?_)
  have F : CallFix p m c b_BitRow_empty 1 s args TB "DeepChannel$BitRow" := ⟨hx, hb, hml, hown, hts⟩
  unfold f_BitRow_empty at hm
  refine lv_aload_n hx hb d_BitRow_empty_0 rfl (lv_at hl 0 rfl) ?_
  refine va_get (D := D) (ci := 0) (v := .ref qB_cells) (C := "DeepChannel$BitRow") (T := fT_BitRow) (N := 2) hx hb hts u_BitRow hown hK hP 0 rfl rfl 0 (by decide) (hts _ k_212) (fun _ h9 => h9) rfl d_BitRow_empty_1 ?_
  refine lv_lconst (v := (0 : Int64)) hx hb d_BitRow_empty_4 (by decide) ?_
  obtain ⟨g1, hu, hm⟩ := bd_el hm
  replace hm := nm_1 hm
  refine z_cSv (wc := w_Arrays_fillJ cI cJ qB_cells 64 B_cells) (wc' := w_Arrays_fillJ cI cJ qB_cells 64 g1) (wr := [(qB, .inr (0, [.ref qB_cells, .int B_length]))]) (As := [.ref qB_cells, .long (0 : Int64)]) (rest := []) (c_Arrays_fillJ l D cI cJ tt qB_cells 64 _ B_cells (0 : Int64) g1 hu) F ok_Arrays_fillJ k_481 hK hE hP hD hS hA [1] [0] rfl rfl (by decide) (by decide) (by decide) ⟨rfl, rfl, Nat.le_of_ble_eq_true rfl, Nat.le_of_ble_eq_true rfl⟩ ⟨Nat.zero_le _, Nat.zero_le _⟩ rfl hl.1 rfl (Nat.le_of_ble_eq_true rfl) d_BitRow_empty_5 (fun H locs hP hD hS => ?_)
  have hP : va_P D classes (w_BitRow_empty cI cJ qB qB_cells B_length g1) H := hP.sub [0, 1] rfl
  have hD : va_D A (w_BitRow_empty cI cJ qB qB_cells B_length g1) := hD.sub [0, 1] (by decide) rfl
  refine lv_aload_n hx hb d_BitRow_empty_8 rfl (lv_at hl 0 rfl) ?_
  refine lv_iconst (v := (0 : Int32)) hx hb d_BitRow_empty_9 (by decide) ?_
  refine va_put (D := D) (ci := 0) (v := .int (0 : Int32)) (ty := .int) (C := "DeepChannel$BitRow") (T := fT_BitRow) (N := 2) hx hb hts u_BitRow fY_BitRow fK_BitRow fN_BitRow hown hK hP hD hS 0 rfl rfl 1 (by decide) (hts _ k_213) (fun _ h9 => h9) rfl (by decide +kernel) rfl rfl (Nat.le_of_ble_eq_true rfl) d_BitRow_empty_10 (fun H locs hP hD hS => ?_)
  have hP : va_P D classes (w_BitRow_empty cI cJ qB qB_cells (0 : Int32) g1) H := hP
  have hD : va_D A (w_BitRow_empty cI cJ qB qB_cells (0 : Int32) g1) := hD
  cases hm
  exact z_qo hQ (z_vret hr hx hb hlocks hK hP hD hS d_BitRow_empty_13)
-- java/lang/Integer.bitCount(I)I
abbrev b_Integer_bitCount : ByteArray := prog_18_method_49_code
abbrev y_Integer_bitCount : MethodName := ⟨"java/lang/Integer", "bitCount", "(I)I"⟩
theorem d_Integer_bitCount_0 : decode b_Integer_bitCount 0 = .ok (.iload_n 0, 1) := by decide +kernel
theorem d_Integer_bitCount_1 : decode b_Integer_bitCount 1 = .ok (.iload_n 0, 1) := by decide +kernel
theorem d_Integer_bitCount_2 : decode b_Integer_bitCount 2 = .ok (.iconst 1, 1) := by decide +kernel
theorem d_Integer_bitCount_3 : decode b_Integer_bitCount 3 = .ok (.iushr, 1) := by decide +kernel
theorem d_Integer_bitCount_4 : decode b_Integer_bitCount 4 = .ok (.ldc_w 265, 3) := by decide +kernel
theorem d_Integer_bitCount_7 : decode b_Integer_bitCount 7 = .ok (.iand, 1) := by decide +kernel
theorem d_Integer_bitCount_8 : decode b_Integer_bitCount 8 = .ok (.isub, 1) := by decide +kernel
theorem d_Integer_bitCount_9 : decode b_Integer_bitCount 9 = .ok (.istore_n 0, 1) := by decide +kernel
theorem d_Integer_bitCount_10 : decode b_Integer_bitCount 10 = .ok (.iload_n 0, 1) := by decide +kernel
theorem d_Integer_bitCount_11 : decode b_Integer_bitCount 11 = .ok (.ldc_w 266, 3) := by decide +kernel
theorem d_Integer_bitCount_14 : decode b_Integer_bitCount 14 = .ok (.iand, 1) := by decide +kernel
theorem d_Integer_bitCount_15 : decode b_Integer_bitCount 15 = .ok (.iload_n 0, 1) := by decide +kernel
theorem d_Integer_bitCount_16 : decode b_Integer_bitCount 16 = .ok (.iconst 2, 1) := by decide +kernel
theorem d_Integer_bitCount_17 : decode b_Integer_bitCount 17 = .ok (.iushr, 1) := by decide +kernel
theorem d_Integer_bitCount_18 : decode b_Integer_bitCount 18 = .ok (.ldc_w 266, 3) := by decide +kernel
theorem d_Integer_bitCount_21 : decode b_Integer_bitCount 21 = .ok (.iand, 1) := by decide +kernel
theorem d_Integer_bitCount_22 : decode b_Integer_bitCount 22 = .ok (.iadd, 1) := by decide +kernel
theorem d_Integer_bitCount_23 : decode b_Integer_bitCount 23 = .ok (.istore_n 0, 1) := by decide +kernel
theorem d_Integer_bitCount_24 : decode b_Integer_bitCount 24 = .ok (.iload_n 0, 1) := by decide +kernel
theorem d_Integer_bitCount_25 : decode b_Integer_bitCount 25 = .ok (.iload_n 0, 1) := by decide +kernel
theorem d_Integer_bitCount_26 : decode b_Integer_bitCount 26 = .ok (.iconst 4, 1) := by decide +kernel
theorem d_Integer_bitCount_27 : decode b_Integer_bitCount 27 = .ok (.iushr, 1) := by decide +kernel
theorem d_Integer_bitCount_28 : decode b_Integer_bitCount 28 = .ok (.iadd, 1) := by decide +kernel
theorem d_Integer_bitCount_29 : decode b_Integer_bitCount 29 = .ok (.ldc_w 267, 3) := by decide +kernel
theorem d_Integer_bitCount_32 : decode b_Integer_bitCount 32 = .ok (.iand, 1) := by decide +kernel
theorem d_Integer_bitCount_33 : decode b_Integer_bitCount 33 = .ok (.istore_n 0, 1) := by decide +kernel
theorem d_Integer_bitCount_34 : decode b_Integer_bitCount 34 = .ok (.iload_n 0, 1) := by decide +kernel
theorem d_Integer_bitCount_35 : decode b_Integer_bitCount 35 = .ok (.iload_n 0, 1) := by decide +kernel
theorem d_Integer_bitCount_36 : decode b_Integer_bitCount 36 = .ok (.bipush 8, 2) := by decide +kernel
theorem d_Integer_bitCount_38 : decode b_Integer_bitCount 38 = .ok (.iushr, 1) := by decide +kernel
theorem d_Integer_bitCount_39 : decode b_Integer_bitCount 39 = .ok (.iadd, 1) := by decide +kernel
theorem d_Integer_bitCount_40 : decode b_Integer_bitCount 40 = .ok (.istore_n 0, 1) := by decide +kernel
theorem d_Integer_bitCount_41 : decode b_Integer_bitCount 41 = .ok (.iload_n 0, 1) := by decide +kernel
theorem d_Integer_bitCount_42 : decode b_Integer_bitCount 42 = .ok (.iload_n 0, 1) := by decide +kernel
theorem d_Integer_bitCount_43 : decode b_Integer_bitCount 43 = .ok (.bipush 16, 2) := by decide +kernel
theorem d_Integer_bitCount_45 : decode b_Integer_bitCount 45 = .ok (.iushr, 1) := by decide +kernel
theorem d_Integer_bitCount_46 : decode b_Integer_bitCount 46 = .ok (.iadd, 1) := by decide +kernel
theorem d_Integer_bitCount_47 : decode b_Integer_bitCount 47 = .ok (.istore_n 0, 1) := by decide +kernel
theorem d_Integer_bitCount_48 : decode b_Integer_bitCount 48 = .ok (.iload_n 0, 1) := by decide +kernel
theorem d_Integer_bitCount_49 : decode b_Integer_bitCount 49 = .ok (.bipush 63, 2) := by decide +kernel
theorem d_Integer_bitCount_51 : decode b_Integer_bitCount 51 = .ok (.iand, 1) := by decide +kernel
theorem d_Integer_bitCount_52 : decode b_Integer_bitCount 52 = .ok (.ireturn, 1) := by decide +kernel
theorem ok_Integer_bitCount : OKs y_Integer_bitCount b_Integer_bitCount 1 (some .int) 1 := ⟨k_198, k_197, k_49, by decide +kernel, by decide +kernel, by decide +kernel⟩
abbrev w_Integer_bitCount  : va_W := []
def f_Integer_bitCount (x0 : Int32) : Option (Int32) :=
  nm (x0 - (((x0.toUInt32 >>> ((1 : Int32).toUInt32 &&& Int32.toUInt32 31)).toInt32) &&& (1431655765 : Int32))) fun v1 =>
  nm ((v1 &&& (858993459 : Int32)) + (((v1.toUInt32 >>> ((2 : Int32).toUInt32 &&& Int32.toUInt32 31)).toInt32) &&& (858993459 : Int32))) fun v2 =>
  nm ((v2 + ((v2.toUInt32 >>> ((4 : Int32).toUInt32 &&& Int32.toUInt32 31)).toInt32)) &&& (252645135 : Int32)) fun v3 =>
  nm (v3 + ((v3.toUInt32 >>> ((8 : Int32).toUInt32 &&& Int32.toUInt32 31)).toInt32)) fun v4 =>
  nm (v4 + ((v4.toUInt32 >>> ((16 : Int32).toUInt32 &&& Int32.toUInt32 31)).toInt32)) fun v5 =>
  some (v5 &&& (63 : Int32))
set_option maxHeartbeats 4000000 in
set_option maxRecDepth 100000 in
theorem c_Integer_bitCount (l : Launch) (D : va_G) (cI cJ : ClassId) (tt : Nat → Nat) (sz : Nat) (x0 : Int32) (rr : Int32) (hm : f_Integer_bitCount x0 = some rr) : CTi l y_Integer_bitCount b_Integer_bitCount 1 (some .int) (RM 0 0) D cI cJ tt [.int x0] (w_Integer_bitCount) (w_Integer_bitCount) sz rr := by
  refine Met.ofW (cc := b_Integer_bitCount) (maxL := 1) (ret := (some .int)) (by decide) rfl ?_
  intro p e s m args below meth c s₁ B hml hv
  obtain ⟨hargs, hsz, hP, hK, hD0, hE⟩ := hv
  have hx := B.exec
  have hb := B.bytes
  have hr := B.returns
  have hts : ∀ w ∈ TB, w.before args s = true := z_mV s (atoms_spec (ws := WD y_Integer_bitCount b_Integer_bitCount 1 (some .int)) B.pre)
  have hown : s.vm.findClass "java/lang/Integer" = some m.cls := findClass_of_methodNamed B.named
  have hlocks := B.notSynchronized
  subst hsz
  have hD := hD0.self (sz := s.heap.size)
  generalize hAe : va_A (w_Integer_bitCount) s.heap.size = A at hD hE ⊢
  have hA : ∀ q : Nat, s.heap.size ≤ q → A q := fun q h => by rw [← hAe]; exact Or.inr h
  have hS : va_S A s.heap s.heap [] := va_S.rf
  refine z_entry (vs := [.int x0]) hargs (Nat.le_of_ble_eq_true rfl) (fun ls hl => ?_)
  have hl : lv_has ls 1 [(0, .int x0)] := hl
  show W p l e (RM 0 0) s m args below meth c s.heap [] 0 0 _ _
  refine z_qi (fun Q0 hQ => ?_)
  have F : CallFix p m c b_Integer_bitCount 1 s args TB "java/lang/Integer" := ⟨hx, hb, hml, hown, hts⟩
  unfold f_Integer_bitCount at hm
  refine lv_iload_n hx hb d_Integer_bitCount_0 rfl (lv_at hl 0 rfl) ?_
  refine lv_iload_n hx hb d_Integer_bitCount_1 rfl (lv_at hl 0 rfl) ?_
  refine lv_iconst (v := (1 : Int32)) hx hb d_Integer_bitCount_2 (by decide) ?_
  refine lv_iushr (v := ((x0.toUInt32 >>> ((1 : Int32).toUInt32 &&& Int32.toUInt32 31)).toInt32)) hx hb d_Integer_bitCount_3 rfl ?_
  refine lv_ldcw (v := (1431655765 : Int32)) hx hb hown (hts _ k_199) d_Integer_bitCount_4 ?_
  refine lv_iand hx hb d_Integer_bitCount_7 ?_
  refine lv_isub hx hb d_Integer_bitCount_8 ?_
  refine z_nmi hm (fun v1 hm => ?_)
  refine lv_istore_n (lv' := [(0, .int v1)]) hx hb d_Integer_bitCount_9 rfl hl (by decide) rfl (fun ls hl => ?_)
  refine lv_iload_n hx hb d_Integer_bitCount_10 rfl (lv_at hl 0 rfl) ?_
  refine lv_ldcw (v := (858993459 : Int32)) hx hb hown (hts _ k_200) d_Integer_bitCount_11 ?_
  refine lv_iand hx hb d_Integer_bitCount_14 ?_
  refine lv_iload_n hx hb d_Integer_bitCount_15 rfl (lv_at hl 0 rfl) ?_
  refine lv_iconst (v := (2 : Int32)) hx hb d_Integer_bitCount_16 (by decide) ?_
  refine lv_iushr (v := ((v1.toUInt32 >>> ((2 : Int32).toUInt32 &&& Int32.toUInt32 31)).toInt32)) hx hb d_Integer_bitCount_17 rfl ?_
  refine lv_ldcw (v := (858993459 : Int32)) hx hb hown (hts _ k_200) d_Integer_bitCount_18 ?_
  refine lv_iand hx hb d_Integer_bitCount_21 ?_
  refine lv_iadd hx hb d_Integer_bitCount_22 ?_
  refine z_nmi hm (fun v2 hm => ?_)
  refine lv_istore_n (lv' := [(0, .int v2)]) hx hb d_Integer_bitCount_23 rfl hl (by decide) rfl (fun ls hl => ?_)
  refine lv_iload_n hx hb d_Integer_bitCount_24 rfl (lv_at hl 0 rfl) ?_
  refine lv_iload_n hx hb d_Integer_bitCount_25 rfl (lv_at hl 0 rfl) ?_
  refine lv_iconst (v := (4 : Int32)) hx hb d_Integer_bitCount_26 (by decide) ?_
  refine lv_iushr (v := ((v2.toUInt32 >>> ((4 : Int32).toUInt32 &&& Int32.toUInt32 31)).toInt32)) hx hb d_Integer_bitCount_27 rfl ?_
  refine lv_iadd hx hb d_Integer_bitCount_28 ?_
  refine lv_ldcw (v := (252645135 : Int32)) hx hb hown (hts _ k_201) d_Integer_bitCount_29 ?_
  refine lv_iand hx hb d_Integer_bitCount_32 ?_
  refine z_nmi hm (fun v3 hm => ?_)
  refine lv_istore_n (lv' := [(0, .int v3)]) hx hb d_Integer_bitCount_33 rfl hl (by decide) rfl (fun ls hl => ?_)
  refine lv_iload_n hx hb d_Integer_bitCount_34 rfl (lv_at hl 0 rfl) ?_
  refine lv_iload_n hx hb d_Integer_bitCount_35 rfl (lv_at hl 0 rfl) ?_
  refine lv_bipush (v := (8 : Int32)) hx hb d_Integer_bitCount_36 (by decide) ?_
  refine lv_iushr (v := ((v3.toUInt32 >>> ((8 : Int32).toUInt32 &&& Int32.toUInt32 31)).toInt32)) hx hb d_Integer_bitCount_38 rfl ?_
  refine lv_iadd hx hb d_Integer_bitCount_39 ?_
  refine z_nmi hm (fun v4 hm => ?_)
  refine lv_istore_n (lv' := [(0, .int v4)]) hx hb d_Integer_bitCount_40 rfl hl (by decide) rfl (fun ls hl => ?_)
  refine lv_iload_n hx hb d_Integer_bitCount_41 rfl (lv_at hl 0 rfl) ?_
  refine lv_iload_n hx hb d_Integer_bitCount_42 rfl (lv_at hl 0 rfl) ?_
  refine lv_bipush (v := (16 : Int32)) hx hb d_Integer_bitCount_43 (by decide) ?_
  refine lv_iushr (v := ((v4.toUInt32 >>> ((16 : Int32).toUInt32 &&& Int32.toUInt32 31)).toInt32)) hx hb d_Integer_bitCount_45 rfl ?_
  refine lv_iadd hx hb d_Integer_bitCount_46 ?_
  refine z_nmi hm (fun v5 hm => ?_)
  refine lv_istore_n (lv' := [(0, .int v5)]) hx hb d_Integer_bitCount_47 rfl hl (by decide) rfl (fun ls hl => ?_)
  refine lv_iload_n hx hb d_Integer_bitCount_48 rfl (lv_at hl 0 rfl) ?_
  refine lv_bipush (v := (63 : Int32)) hx hb d_Integer_bitCount_49 (by decide) ?_
  refine lv_iand hx hb d_Integer_bitCount_51 ?_
  cases hm
  exact z_qo hQ (z_ireti hr hx hb hlocks hK hP hD hS d_Integer_bitCount_52)
-- DeepChannel$Coder.pairOf(I)I
abbrev b_Coder_pairOf : ByteArray := prog_3_method_4_code
abbrev y_Coder_pairOf : MethodName := ⟨"DeepChannel$Coder", "pairOf", "(I)I"⟩
theorem d_Coder_pairOf_0 : decode b_Coder_pairOf 0 = .ok (.iload_n 0, 1) := by decide +kernel
theorem d_Coder_pairOf_1 : decode b_Coder_pairOf 1 = .ok (.bipush 121, 2) := by decide +kernel
theorem d_Coder_pairOf_3 : decode b_Coder_pairOf 3 = .ok (.iand, 1) := by decide +kernel
theorem d_Coder_pairOf_4 : decode b_Coder_pairOf 4 = .ok (.invokestatic 26, 3) := by decide +kernel
theorem d_Coder_pairOf_7 : decode b_Coder_pairOf 7 = .ok (.iconst 1, 1) := by decide +kernel
theorem d_Coder_pairOf_8 : decode b_Coder_pairOf 8 = .ok (.iand, 1) := by decide +kernel
theorem d_Coder_pairOf_9 : decode b_Coder_pairOf 9 = .ok (.istore_n 1, 1) := by decide +kernel
theorem d_Coder_pairOf_10 : decode b_Coder_pairOf 10 = .ok (.iconst 1, 1) := by decide +kernel
theorem d_Coder_pairOf_11 : decode b_Coder_pairOf 11 = .ok (.iload_n 0, 1) := by decide +kernel
theorem d_Coder_pairOf_12 : decode b_Coder_pairOf 12 = .ok (.bipush 91, 2) := by decide +kernel
theorem d_Coder_pairOf_14 : decode b_Coder_pairOf 14 = .ok (.iand, 1) := by decide +kernel
theorem d_Coder_pairOf_15 : decode b_Coder_pairOf 15 = .ok (.invokestatic 26, 3) := by decide +kernel
theorem d_Coder_pairOf_18 : decode b_Coder_pairOf 18 = .ok (.iconst 1, 1) := by decide +kernel
theorem d_Coder_pairOf_19 : decode b_Coder_pairOf 19 = .ok (.iand, 1) := by decide +kernel
theorem d_Coder_pairOf_20 : decode b_Coder_pairOf 20 = .ok (.isub, 1) := by decide +kernel
theorem d_Coder_pairOf_21 : decode b_Coder_pairOf 21 = .ok (.istore_n 2, 1) := by decide +kernel
theorem d_Coder_pairOf_22 : decode b_Coder_pairOf 22 = .ok (.iload_n 1, 1) := by decide +kernel
theorem d_Coder_pairOf_23 : decode b_Coder_pairOf 23 = .ok (.iload_n 2, 1) := by decide +kernel
theorem d_Coder_pairOf_24 : decode b_Coder_pairOf 24 = .ok (.iconst 1, 1) := by decide +kernel
theorem d_Coder_pairOf_25 : decode b_Coder_pairOf 25 = .ok (.ishl, 1) := by decide +kernel
theorem d_Coder_pairOf_26 : decode b_Coder_pairOf 26 = .ok (.ior, 1) := by decide +kernel
theorem d_Coder_pairOf_27 : decode b_Coder_pairOf 27 = .ok (.ireturn, 1) := by decide +kernel
theorem ok_Coder_pairOf : OKs y_Coder_pairOf b_Coder_pairOf 3 (some .int) 1 := ⟨k_284, k_283, k_51, by decide +kernel, by decide +kernel, by decide +kernel⟩
abbrev w_Coder_pairOf  : va_W := []
def f_Coder_pairOf (x0 : Int32) : Option (Int32) :=
  bd (f_Integer_bitCount (x0 &&& (121 : Int32))) fun u2 =>
  nm u2 fun r1 =>
  nm (r1 &&& (1 : Int32)) fun v3 =>
  bd (f_Integer_bitCount (x0 &&& (91 : Int32))) fun u5 =>
  nm u5 fun r4 =>
  nm ((1 : Int32) - (r4 &&& (1 : Int32))) fun v6 =>
  some (v3 ||| (v6 <<< ((1 : Int32) &&& 31)))
set_option maxHeartbeats 4000000 in
set_option maxRecDepth 100000 in
theorem c_Coder_pairOf (l : Launch) (D : va_G) (cI cJ : ClassId) (tt : Nat → Nat) (sz : Nat) (x0 : Int32) (rr : Int32) (hm : f_Coder_pairOf x0 = some rr) : CTi l y_Coder_pairOf b_Coder_pairOf 3 (some .int) (RM 1 20) D cI cJ tt [.int x0] (w_Coder_pairOf) (w_Coder_pairOf) sz rr := by
  refine Met.ofW (cc := b_Coder_pairOf) (maxL := 3) (ret := (some .int)) (by decide) rfl ?_
  intro p e s m args below meth c s₁ B hml hv
  obtain ⟨hargs, hsz, hP, hK, hD0, hE⟩ := hv
  have hx := B.exec
  have hb := B.bytes
  have hr := B.returns
  have hts : ∀ w ∈ TB, w.before args s = true := z_mV s (atoms_spec (ws := WD y_Coder_pairOf b_Coder_pairOf 3 (some .int)) B.pre)
  have hown : s.vm.findClass "DeepChannel$Coder" = some m.cls := findClass_of_methodNamed B.named
  have hlocks := B.notSynchronized
  subst hsz
  have hD := hD0.self (sz := s.heap.size)
  generalize hAe : va_A (w_Coder_pairOf) s.heap.size = A at hD hE ⊢
  have hA : ∀ q : Nat, s.heap.size ≤ q → A q := fun q h => by rw [← hAe]; exact Or.inr h
  have hS : va_S A s.heap s.heap [] := va_S.rf
  refine z_entry (vs := [.int x0]) hargs (Nat.le_of_ble_eq_true rfl) (fun ls hl => ?_)
  have hl : lv_has ls 3 [(0, .int x0)] := hl
  show W p l e (RM 1 20) s m args below meth c s.heap [] 0 0 _ _
  refine z_qi (fun Q0 hQ => ?_)
  have F : CallFix p m c b_Coder_pairOf 3 s args TB "DeepChannel$Coder" := ⟨hx, hb, hml, hown, hts⟩
  unfold f_Coder_pairOf at hm
  refine lv_iload_n hx hb d_Coder_pairOf_0 rfl (lv_at hl 0 rfl) ?_
  refine lv_bipush (v := (121 : Int32)) hx hb d_Coder_pairOf_1 (by decide) ?_
  refine lv_iand hx hb d_Coder_pairOf_3 ?_
  obtain ⟨r1, hu, hm⟩ := bd_el hm
  replace hm := nm_1 hm
  refine z_cSi (wc := w_Integer_bitCount) (wc' := w_Integer_bitCount) (wr := []) (As := [.int (x0 &&& (121 : Int32))]) (rest := []) (c_Integer_bitCount l D cI cJ tt _ (x0 &&& (121 : Int32)) r1 hu) F ok_Integer_bitCount k_285 hK hE hP hD hS hA [] [] rfl rfl (by decide) (by decide) (by decide) ⟨rfl, rfl, Nat.le_of_ble_eq_true rfl, Nat.le_of_ble_eq_true rfl⟩ ⟨Nat.zero_le _, Nat.zero_le _⟩ rfl hl.1 rfl (Nat.le_of_ble_eq_true rfl) d_Coder_pairOf_4 (fun H locs hP hD hS => ?_)
  have hP : va_P D classes (w_Coder_pairOf) H := hP.sub [] rfl
  have hD : va_D A (w_Coder_pairOf) := hD.sub [] (by decide) rfl
  refine lv_iconst (v := (1 : Int32)) hx hb d_Coder_pairOf_7 (by decide) ?_
  refine lv_iand hx hb d_Coder_pairOf_8 ?_
  refine z_nmi hm (fun v3 hm => ?_)
  refine lv_istore_n (lv' := [(1, .int v3), (0, .int x0)]) hx hb d_Coder_pairOf_9 rfl hl (by decide) rfl (fun ls hl => ?_)
  refine lv_iconst (v := (1 : Int32)) hx hb d_Coder_pairOf_10 (by decide) ?_
  refine lv_iload_n hx hb d_Coder_pairOf_11 rfl (lv_at hl 1 rfl) ?_
  refine lv_bipush (v := (91 : Int32)) hx hb d_Coder_pairOf_12 (by decide) ?_
  refine lv_iand hx hb d_Coder_pairOf_14 ?_
  obtain ⟨r4, hu, hm⟩ := bd_el hm
  replace hm := nm_1 hm
  refine z_cSi (wc := w_Integer_bitCount) (wc' := w_Integer_bitCount) (wr := []) (As := [.int (x0 &&& (91 : Int32))]) (rest := [.int (1 : Int32)]) (c_Integer_bitCount l D cI cJ tt _ (x0 &&& (91 : Int32)) r4 hu) F ok_Integer_bitCount k_285 hK hE hP hD hS hA [] [] rfl rfl (by decide) (by decide) (by decide) ⟨rfl, rfl, Nat.le_of_ble_eq_true rfl, Nat.le_of_ble_eq_true rfl⟩ ⟨Nat.zero_le _, Nat.zero_le _⟩ rfl hl.1 rfl (Nat.le_of_ble_eq_true rfl) d_Coder_pairOf_15 (fun H locs hP hD hS => ?_)
  have hP : va_P D classes (w_Coder_pairOf) H := hP.sub [] rfl
  have hD : va_D A (w_Coder_pairOf) := hD.sub [] (by decide) rfl
  refine lv_iconst (v := (1 : Int32)) hx hb d_Coder_pairOf_18 (by decide) ?_
  refine lv_iand hx hb d_Coder_pairOf_19 ?_
  refine lv_isub hx hb d_Coder_pairOf_20 ?_
  refine z_nmi hm (fun v6 hm => ?_)
  refine lv_istore_n (lv' := [(2, .int v6), (1, .int v3), (0, .int x0)]) hx hb d_Coder_pairOf_21 rfl hl (by decide) rfl (fun ls hl => ?_)
  refine lv_iload_n hx hb d_Coder_pairOf_22 rfl (lv_at hl 1 rfl) ?_
  refine lv_iload_n hx hb d_Coder_pairOf_23 rfl (lv_at hl 0 rfl) ?_
  refine lv_iconst (v := (1 : Int32)) hx hb d_Coder_pairOf_24 (by decide) ?_
  refine lv_ishl hx hb d_Coder_pairOf_25 ?_
  refine lv_ior hx hb d_Coder_pairOf_26 ?_
  cases hm
  exact z_qo hQ (z_ireti hr hx hb hlocks hK hP hD hS d_Coder_pairOf_27)
