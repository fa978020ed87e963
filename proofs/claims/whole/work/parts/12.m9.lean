-- DeepChannelModel.thrown()I
abbrev b_Mo_thrown : ByteArray := prog_13_method_2_code
abbrev y_Mo_thrown : MethodName := ⟨"DeepChannelModel", "thrown", "()I"⟩
theorem d_Mo_thrown_0 : decode b_Mo_thrown 0 = .ok (.aload_n 0, 1) := by decide +kernel
theorem d_Mo_thrown_1 : decode b_Mo_thrown 1 = .ok (.getfield 103, 3) := by decide +kernel
theorem d_Mo_thrown_4 : decode b_Mo_thrown 4 = .ok (.ireturn, 1) := by decide +kernel
theorem ok_Mo_thrown : OKv y_Mo_thrown b_Mo_thrown 1 (some .int) "DeepChannelModel" 0 := ⟨k_1010, k_1008, k_1009, k_55, by decide +kernel, by decide +kernel, by decide +kernel⟩
abbrev w_Mo_thrown (cI cJ : ClassId) (qM : Nat) (M_depth M_fill M_half M_pattern M_craft M_begins M_firsts M_seconds M_powers M_logarithms M_forms M_elements M_mixer M_data M_waiting M_master M_counts M_line M_length M_sent M_state M_places M_least M_row M_rowSize M_differ M_blocks M_marks M_wrongs M_bytes M_rights M_tells M_lastMaster M_lastCounts M_word M_values M_system M_solved M_wrong : Value) (M_thrown : Int32) : va_W := [(qM, .inr (11, [.int M_thrown, M_depth, M_fill, M_half, M_pattern, M_craft, M_begins, M_firsts, M_seconds, M_powers, M_logarithms, M_forms, M_elements, M_mixer, M_data, M_waiting, M_master, M_counts, M_line, M_length, M_sent, M_state, M_places, M_least, M_row, M_rowSize, M_differ, M_blocks, M_marks, M_wrongs, M_bytes, M_rights, M_tells, M_lastMaster, M_lastCounts, M_word, M_values, M_system, M_solved, M_wrong]))]
def f_Mo_thrown (M_thrown : Int32) : Option (Int32) :=
  some M_thrown
set_option maxHeartbeats 4000000 in
set_option maxRecDepth 100000 in
theorem c_Mo_thrown (l : Launch) (D : va_G) (cI cJ : ClassId) (tt : Nat → Nat) (qM : Nat) (M_depth M_fill M_half M_pattern M_craft M_begins M_firsts M_seconds M_powers M_logarithms M_forms M_elements M_mixer M_data M_waiting M_master M_counts M_line M_length M_sent M_state M_places M_least M_row M_rowSize M_differ M_blocks M_marks M_wrongs M_bytes M_rights M_tells M_lastMaster M_lastCounts M_word M_values M_system M_solved M_wrong : Value) (sz : Nat) (M_thrown : Int32) (rr : Int32) (hm : f_Mo_thrown M_thrown = some rr) : CTi l y_Mo_thrown b_Mo_thrown 1 (some .int) (RM 0 0) D cI cJ tt [.ref qM] (w_Mo_thrown cI cJ qM M_depth M_fill M_half M_pattern M_craft M_begins M_firsts M_seconds M_powers M_logarithms M_forms M_elements M_mixer M_data M_waiting M_master M_counts M_line M_length M_sent M_state M_places M_least M_row M_rowSize M_differ M_blocks M_marks M_wrongs M_bytes M_rights M_tells M_lastMaster M_lastCounts M_word M_values M_system M_solved M_wrong M_thrown) (w_Mo_thrown cI cJ qM M_depth M_fill M_half M_pattern M_craft M_begins M_firsts M_seconds M_powers M_logarithms M_forms M_elements M_mixer M_data M_waiting M_master M_counts M_line M_length M_sent M_state M_places M_least M_row M_rowSize M_differ M_blocks M_marks M_wrongs M_bytes M_rights M_tells M_lastMaster M_lastCounts M_word M_values M_system M_solved M_wrong M_thrown) sz rr := by
  refine Met.ofW (cc := b_Mo_thrown) (maxL := 1) (ret := (some .int)) (by decide) rfl ?_
  intro p e s m args below meth c s₁ B hml hv
  obtain ⟨hargs, hsz, hP, hK, hD0, hE⟩ := hv
  have hx := B.exec
  have hb := B.bytes
  have hr := B.returns
  have hts : ∀ w ∈ TB, w.before args s = true := z_mV s (atoms_spec (ws := WD y_Mo_thrown b_Mo_thrown 1 (some .int)) B.pre)
  have hown : s.vm.findClass "DeepChannelModel" = some m.cls := findClass_of_methodNamed B.named
  have hlocks := B.notSynchronized
  subst hsz
  have hD := hD0.self (sz := s.heap.size)
  generalize hAe : va_A (w_Mo_thrown cI cJ qM M_depth M_fill M_half M_pattern M_craft M_begins M_firsts M_seconds M_powers M_logarithms M_forms M_elements M_mixer M_data M_waiting M_master M_counts M_line M_length M_sent M_state M_places M_least M_row M_rowSize M_differ M_blocks M_marks M_wrongs M_bytes M_rights M_tells M_lastMaster M_lastCounts M_word M_values M_system M_solved M_wrong M_thrown) s.heap.size = A at hD hE ⊢
  have hA : ∀ q : Nat, s.heap.size ≤ q → A q := fun q h => by rw [← hAe]; exact Or.inr h
  have hS : va_S A s.heap s.heap [] := va_S.rf
  refine z_entry (vs := [.ref qM]) hargs (Nat.le_of_ble_eq_true rfl) (fun ls hl => ?_)
  have hl : lv_has ls 1 [(0, .ref qM)] := hl
  show W p l e (RM 0 0) s m args below meth c s.heap [] 0 0 _ _
  refine z_qi (fun Q0 hQ => ?_)
  have F : CallFix p m c b_Mo_thrown 1 s args TB "DeepChannelModel" := ⟨hx, hb, hml, hown, hts⟩
  unfold f_Mo_thrown at hm
  refine lv_aload_n hx hb d_Mo_thrown_0 rfl (lv_at hl 0 rfl) ?_
  refine va_get (D := D) (ci := 11) (v := .int M_thrown) (C := "DeepChannelModel") (T := fT_Mo) (N := 40) hx hb hts u_Mo hown hK hP 0 rfl rfl 0 (by decide) (hts _ k_886) (fun _ h9 => h9) rfl d_Mo_thrown_1 ?_
  cases hm
  exact z_qo hQ (z_ireti hr hx hb hlocks hK hP hD hS d_Mo_thrown_4)
-- DeepChannelModel.bitOf(III)I
abbrev b_Mo_bitOf : ByteArray := prog_13_method_3_code
abbrev y_Mo_bitOf : MethodName := ⟨"DeepChannelModel", "bitOf", "(III)I"⟩
theorem d_Mo_bitOf_0 : decode b_Mo_bitOf 0 = .ok (.iload_n 0, 1) := by decide +kernel
theorem d_Mo_bitOf_1 : decode b_Mo_bitOf 1 = .ok (.iload_n 1, 1) := by decide +kernel
theorem d_Mo_bitOf_2 : decode b_Mo_bitOf 2 = .ok (.ishr, 1) := by decide +kernel
theorem d_Mo_bitOf_3 : decode b_Mo_bitOf 3 = .ok (.iconst 1, 1) := by decide +kernel
theorem d_Mo_bitOf_4 : decode b_Mo_bitOf 4 = .ok (.iand, 1) := by decide +kernel
theorem d_Mo_bitOf_5 : decode b_Mo_bitOf 5 = .ok (.iconst 1, 1) := by decide +kernel
theorem d_Mo_bitOf_6 : decode b_Mo_bitOf 6 = .ok (.if_icmp .ne 7, 3) := by decide +kernel
theorem d_Mo_bitOf_9 : decode b_Mo_bitOf 9 = .ok (.iload_n 2, 1) := by decide +kernel
theorem d_Mo_bitOf_10 : decode b_Mo_bitOf 10 = .ok (.goto 4, 3) := by decide +kernel
theorem d_Mo_bitOf_13 : decode b_Mo_bitOf 13 = .ok (.iconst 0, 1) := by decide +kernel
theorem d_Mo_bitOf_14 : decode b_Mo_bitOf 14 = .ok (.ireturn, 1) := by decide +kernel
theorem ok_Mo_bitOf : OKs y_Mo_bitOf b_Mo_bitOf 3 (some .int) 3 := ⟨k_881, k_880, k_55, by decide +kernel, by decide +kernel, by decide +kernel⟩
abbrev w_Mo_bitOf  : va_W := []
def f_Mo_bitOf (x0 : Int32) (x1 : Int32) (x2 : Int32) : Option (Int32) :=
  if ((x0 >>> (x1 &&& 31)) &&& (1 : Int32)) = (1 : Int32) then
    some x2
  else
  some (0 : Int32)
set_option maxHeartbeats 4000000 in
set_option maxRecDepth 100000 in
theorem c_Mo_bitOf (l : Launch) (D : va_G) (cI cJ : ClassId) (tt : Nat → Nat) (sz : Nat) (x0 : Int32) (x1 : Int32) (x2 : Int32) (rr : Int32) (hm : f_Mo_bitOf x0 x1 x2 = some rr) : CTi l y_Mo_bitOf b_Mo_bitOf 3 (some .int) (RM 0 0) D cI cJ tt [.int x0, .int x1, .int x2] (w_Mo_bitOf) (w_Mo_bitOf) sz rr := by
  refine Met.ofW (cc := b_Mo_bitOf) (maxL := 3) (ret := (some .int)) (by decide) rfl ?_
  intro p e s m args below meth c s₁ B hml hv
  obtain ⟨hargs, hsz, hP, hK, hD0, hE⟩ := hv
  have hx := B.exec
  have hb := B.bytes
  have hr := B.returns
  have hts : ∀ w ∈ TB, w.before args s = true := z_mV s (atoms_spec (ws := WD y_Mo_bitOf b_Mo_bitOf 3 (some .int)) B.pre)
  have hown : s.vm.findClass "DeepChannelModel" = some m.cls := findClass_of_methodNamed B.named
  have hlocks := B.notSynchronized
  subst hsz
  have hD := hD0.self (sz := s.heap.size)
  generalize hAe : va_A (w_Mo_bitOf) s.heap.size = A at hD hE ⊢
  have hA : ∀ q : Nat, s.heap.size ≤ q → A q := fun q h => by rw [← hAe]; exact Or.inr h
  have hS : va_S A s.heap s.heap [] := va_S.rf
  refine z_entry (vs := [.int x0, .int x1, .int x2]) hargs (Nat.le_of_ble_eq_true rfl) (fun ls hl => ?_)
  have hl : lv_has ls 3 [(0, .int x0), (1, .int x1), (2, .int x2)] := hl
  show W p l e (RM 0 0) s m args below meth c s.heap [] 0 0 _ _
  refine z_qi (fun Q0 hQ => ?_)
  have F : CallFix p m c b_Mo_bitOf 3 s args TB "DeepChannelModel" := ⟨hx, hb, hml, hown, hts⟩
  unfold f_Mo_bitOf at hm
  refine lv_iload_n hx hb d_Mo_bitOf_0 rfl (lv_at hl 0 rfl) ?_
  refine lv_iload_n hx hb d_Mo_bitOf_1 rfl (lv_at hl 1 rfl) ?_
  refine lv_ishr hx hb d_Mo_bitOf_2 ?_
  refine lv_iconst (v := (1 : Int32)) hx hb d_Mo_bitOf_3 (by decide) ?_
  refine lv_iand hx hb d_Mo_bitOf_4 ?_
  refine lv_iconst (v := (1 : Int32)) hx hb d_Mo_bitOf_5 (by decide) ?_
  refine z_ifn hm (lv_icmp_ne (tgt := 13) hx hb d_Mo_bitOf_6 (by decide)) (fun hm => ?_) (fun hm => ?_)
  · refine lv_iload_n hx hb d_Mo_bitOf_9 rfl (lv_at hl 2 rfl) ?_
    refine lv_goto (tgt := 14) hx hb d_Mo_bitOf_10 (by decide) ?_
    cases hm
    exact z_qo hQ (z_ireti hr hx hb hlocks hK hP hD hS d_Mo_bitOf_14)
  · refine lv_iconst (v := (0 : Int32)) hx hb d_Mo_bitOf_13 (by decide) ?_
    cases hm
    exact z_qo hQ (z_ireti hr hx hb hlocks hK hP hD hS d_Mo_bitOf_14)
-- DeepChannelModel.otherForm(I)I
abbrev b_Mo_otherForm : ByteArray := prog_13_method_4_code
abbrev y_Mo_otherForm : MethodName := ⟨"DeepChannelModel", "otherForm", "(I)I"⟩
theorem d_Mo_otherForm_0 : decode b_Mo_otherForm 0 = .ok (.iload_n 0, 1) := by decide +kernel
theorem d_Mo_otherForm_1 : decode b_Mo_otherForm 1 = .ok (.bipush 7, 2) := by decide +kernel
theorem d_Mo_otherForm_3 : decode b_Mo_otherForm 3 = .ok (.sipush 141, 3) := by decide +kernel
theorem d_Mo_otherForm_6 : decode b_Mo_otherForm 6 = .ok (.invokestatic 106, 3) := by decide +kernel
theorem d_Mo_otherForm_9 : decode b_Mo_otherForm 9 = .ok (.iload_n 0, 1) := by decide +kernel
theorem d_Mo_otherForm_10 : decode b_Mo_otherForm 10 = .ok (.bipush 6, 2) := by decide +kernel
theorem d_Mo_otherForm_12 : decode b_Mo_otherForm 12 = .ok (.sipush 239, 3) := by decide +kernel
theorem d_Mo_otherForm_15 : decode b_Mo_otherForm 15 = .ok (.invokestatic 106, 3) := by decide +kernel
theorem d_Mo_otherForm_18 : decode b_Mo_otherForm 18 = .ok (.ixor, 1) := by decide +kernel
theorem d_Mo_otherForm_19 : decode b_Mo_otherForm 19 = .ok (.iload_n 0, 1) := by decide +kernel
theorem d_Mo_otherForm_20 : decode b_Mo_otherForm 20 = .ok (.iconst 5, 1) := by decide +kernel
theorem d_Mo_otherForm_21 : decode b_Mo_otherForm 21 = .ok (.sipush 236, 3) := by decide +kernel
theorem d_Mo_otherForm_24 : decode b_Mo_otherForm 24 = .ok (.invokestatic 106, 3) := by decide +kernel
theorem d_Mo_otherForm_27 : decode b_Mo_otherForm 27 = .ok (.ixor, 1) := by decide +kernel
theorem d_Mo_otherForm_28 : decode b_Mo_otherForm 28 = .ok (.iload_n 0, 1) := by decide +kernel
theorem d_Mo_otherForm_29 : decode b_Mo_otherForm 29 = .ok (.iconst 4, 1) := by decide +kernel
theorem d_Mo_otherForm_30 : decode b_Mo_otherForm 30 = .ok (.sipush 134, 3) := by decide +kernel
theorem d_Mo_otherForm_33 : decode b_Mo_otherForm 33 = .ok (.invokestatic 106, 3) := by decide +kernel
theorem d_Mo_otherForm_36 : decode b_Mo_otherForm 36 = .ok (.ixor, 1) := by decide +kernel
theorem d_Mo_otherForm_37 : decode b_Mo_otherForm 37 = .ok (.iload_n 0, 1) := by decide +kernel
theorem d_Mo_otherForm_38 : decode b_Mo_otherForm 38 = .ok (.iconst 3, 1) := by decide +kernel
theorem d_Mo_otherForm_39 : decode b_Mo_otherForm 39 = .ok (.sipush 250, 3) := by decide +kernel
theorem d_Mo_otherForm_42 : decode b_Mo_otherForm 42 = .ok (.invokestatic 106, 3) := by decide +kernel
theorem d_Mo_otherForm_45 : decode b_Mo_otherForm 45 = .ok (.ixor, 1) := by decide +kernel
theorem d_Mo_otherForm_46 : decode b_Mo_otherForm 46 = .ok (.iload_n 0, 1) := by decide +kernel
theorem d_Mo_otherForm_47 : decode b_Mo_otherForm 47 = .ok (.iconst 2, 1) := by decide +kernel
theorem d_Mo_otherForm_48 : decode b_Mo_otherForm 48 = .ok (.sipush 153, 3) := by decide +kernel
theorem d_Mo_otherForm_51 : decode b_Mo_otherForm 51 = .ok (.invokestatic 106, 3) := by decide +kernel
theorem d_Mo_otherForm_54 : decode b_Mo_otherForm 54 = .ok (.ixor, 1) := by decide +kernel
theorem d_Mo_otherForm_55 : decode b_Mo_otherForm 55 = .ok (.iload_n 0, 1) := by decide +kernel
theorem d_Mo_otherForm_56 : decode b_Mo_otherForm 56 = .ok (.iconst 1, 1) := by decide +kernel
theorem d_Mo_otherForm_57 : decode b_Mo_otherForm 57 = .ok (.sipush 175, 3) := by decide +kernel
theorem d_Mo_otherForm_60 : decode b_Mo_otherForm 60 = .ok (.invokestatic 106, 3) := by decide +kernel
theorem d_Mo_otherForm_63 : decode b_Mo_otherForm 63 = .ok (.ixor, 1) := by decide +kernel
theorem d_Mo_otherForm_64 : decode b_Mo_otherForm 64 = .ok (.iload_n 0, 1) := by decide +kernel
theorem d_Mo_otherForm_65 : decode b_Mo_otherForm 65 = .ok (.iconst 0, 1) := by decide +kernel
theorem d_Mo_otherForm_66 : decode b_Mo_otherForm 66 = .ok (.bipush 123, 2) := by decide +kernel
theorem d_Mo_otherForm_68 : decode b_Mo_otherForm 68 = .ok (.invokestatic 106, 3) := by decide +kernel
theorem d_Mo_otherForm_71 : decode b_Mo_otherForm 71 = .ok (.ixor, 1) := by decide +kernel
theorem d_Mo_otherForm_72 : decode b_Mo_otherForm 72 = .ok (.ireturn, 1) := by decide +kernel
theorem ok_Mo_otherForm : OKs y_Mo_otherForm b_Mo_otherForm 1 (some .int) 1 := ⟨k_878, k_877, k_55, by decide +kernel, by decide +kernel, by decide +kernel⟩
abbrev w_Mo_otherForm  : va_W := []
def f_Mo_otherForm (x0 : Int32) : Option (Int32) :=
  bd (f_Mo_bitOf x0 (7 : Int32) (141 : Int32)) fun u2 =>
  nm u2 fun r1 =>
  bd (f_Mo_bitOf x0 (6 : Int32) (239 : Int32)) fun u4 =>
  nm u4 fun r3 =>
  bd (f_Mo_bitOf x0 (5 : Int32) (236 : Int32)) fun u6 =>
  nm u6 fun r5 =>
  bd (f_Mo_bitOf x0 (4 : Int32) (134 : Int32)) fun u8 =>
  nm u8 fun r7 =>
  bd (f_Mo_bitOf x0 (3 : Int32) (250 : Int32)) fun u10 =>
  nm u10 fun r9 =>
  bd (f_Mo_bitOf x0 (2 : Int32) (153 : Int32)) fun u12 =>
  nm u12 fun r11 =>
  bd (f_Mo_bitOf x0 (1 : Int32) (175 : Int32)) fun u14 =>
  nm u14 fun r13 =>
  bd (f_Mo_bitOf x0 (0 : Int32) (123 : Int32)) fun u16 =>
  nm u16 fun r15 =>
  some (((((((r1 ^^^ r3) ^^^ r5) ^^^ r7) ^^^ r9) ^^^ r11) ^^^ r13) ^^^ r15)
set_option maxHeartbeats 4000000 in
set_option maxRecDepth 100000 in
theorem c_Mo_otherForm (l : Launch) (D : va_G) (cI cJ : ClassId) (tt : Nat → Nat) (sz : Nat) (x0 : Int32) (rr : Int32) (hm : f_Mo_otherForm x0 = some rr) : CTi l y_Mo_otherForm b_Mo_otherForm 1 (some .int) (RM 1 22) D cI cJ tt [.int x0] (w_Mo_otherForm) (w_Mo_otherForm) sz rr := by
  refine Met.ofW (cc := b_Mo_otherForm) (maxL := 1) (ret := (some .int)) (by decide) rfl ?_
  intro p e s m args below meth c s₁ B hml hv
  obtain ⟨hargs, hsz, hP, hK, hD0, hE⟩ := hv
  have hx := B.exec
  have hb := B.bytes
  have hr := B.returns
  have hts : ∀ w ∈ TB, w.before args s = true := z_mV s (atoms_spec (ws := WD y_Mo_otherForm b_Mo_otherForm 1 (some .int)) B.pre)
  have hown : s.vm.findClass "DeepChannelModel" = some m.cls := findClass_of_methodNamed B.named
  have hlocks := B.notSynchronized
  subst hsz
  have hD := hD0.self (sz := s.heap.size)
  generalize hAe : va_A (w_Mo_otherForm) s.heap.size = A at hD hE ⊢
  have hA : ∀ q : Nat, s.heap.size ≤ q → A q := fun q h => by rw [← hAe]; exact Or.inr h
  have hS : va_S A s.heap s.heap [] := va_S.rf
  refine z_entry (vs := [.int x0]) hargs (Nat.le_of_ble_eq_true rfl) (fun ls hl => ?_)
  have hl : lv_has ls 1 [(0, .int x0)] := hl
  show W p l e (RM 1 22) s m args below meth c s.heap [] 0 0 _ _
  refine z_qi (fun Q0 hQ => ?_)
  have F : CallFix p m c b_Mo_otherForm 1 s args TB "DeepChannelModel" := ⟨hx, hb, hml, hown, hts⟩
  unfold f_Mo_otherForm at hm
  refine lv_iload_n hx hb d_Mo_otherForm_0 rfl (lv_at hl 0 rfl) ?_
  refine lv_bipush (v := (7 : Int32)) hx hb d_Mo_otherForm_1 (by decide) ?_
  refine lv_sipush (v := (141 : Int32)) hx hb d_Mo_otherForm_3 (by decide) ?_
  obtain ⟨r1, hu, hm⟩ := bd_el hm
  replace hm := nm_1 hm
  refine z_cSi (wc := w_Mo_bitOf) (wc' := w_Mo_bitOf) (wr := []) (As := [.int x0, .int (7 : Int32), .int (141 : Int32)]) (rest := []) (c_Mo_bitOf l D cI cJ tt _ x0 (7 : Int32) (141 : Int32) r1 hu) F ok_Mo_bitOf k_879 hK hE hP hD hS hA [] [] rfl rfl (by decide) (by decide) (by decide) ⟨rfl, rfl, Nat.le_of_ble_eq_true rfl, Nat.le_of_ble_eq_true rfl⟩ ⟨Nat.zero_le _, Nat.zero_le _⟩ rfl hl.1 rfl (Nat.le_of_ble_eq_true rfl) d_Mo_otherForm_6 (fun H locs hP hD hS => ?_)
  have hP : va_P D classes (w_Mo_otherForm) H := hP.sub [] rfl
  have hD : va_D A (w_Mo_otherForm) := hD.sub [] (by decide) rfl
  refine lv_iload_n hx hb d_Mo_otherForm_9 rfl (lv_at hl 0 rfl) ?_
  refine lv_bipush (v := (6 : Int32)) hx hb d_Mo_otherForm_10 (by decide) ?_
  refine lv_sipush (v := (239 : Int32)) hx hb d_Mo_otherForm_12 (by decide) ?_
  obtain ⟨r3, hu, hm⟩ := bd_el hm
  replace hm := nm_1 hm
  refine z_cSi (wc := w_Mo_bitOf) (wc' := w_Mo_bitOf) (wr := []) (As := [.int x0, .int (6 : Int32), .int (239 : Int32)]) (rest := [.int r1]) (c_Mo_bitOf l D cI cJ tt _ x0 (6 : Int32) (239 : Int32) r3 hu) F ok_Mo_bitOf k_879 hK hE hP hD hS hA [] [] rfl rfl (by decide) (by decide) (by decide) ⟨rfl, rfl, Nat.le_of_ble_eq_true rfl, Nat.le_of_ble_eq_true rfl⟩ ⟨Nat.zero_le _, Nat.zero_le _⟩ rfl hl.1 rfl (Nat.le_of_ble_eq_true rfl) d_Mo_otherForm_15 (fun H locs hP hD hS => ?_)
  have hP : va_P D classes (w_Mo_otherForm) H := hP.sub [] rfl
  have hD : va_D A (w_Mo_otherForm) := hD.sub [] (by decide) rfl
  refine lv_ixor hx hb d_Mo_otherForm_18 ?_
  refine lv_iload_n hx hb d_Mo_otherForm_19 rfl (lv_at hl 0 rfl) ?_
  refine lv_iconst (v := (5 : Int32)) hx hb d_Mo_otherForm_20 (by decide) ?_
  refine lv_sipush (v := (236 : Int32)) hx hb d_Mo_otherForm_21 (by decide) ?_
  obtain ⟨r5, hu, hm⟩ := bd_el hm
  replace hm := nm_1 hm
  refine z_cSi (wc := w_Mo_bitOf) (wc' := w_Mo_bitOf) (wr := []) (As := [.int x0, .int (5 : Int32), .int (236 : Int32)]) (rest := [.int (r1 ^^^ r3)]) (c_Mo_bitOf l D cI cJ tt _ x0 (5 : Int32) (236 : Int32) r5 hu) F ok_Mo_bitOf k_879 hK hE hP hD hS hA [] [] rfl rfl (by decide) (by decide) (by decide) ⟨rfl, rfl, Nat.le_of_ble_eq_true rfl, Nat.le_of_ble_eq_true rfl⟩ ⟨Nat.zero_le _, Nat.zero_le _⟩ rfl hl.1 rfl (Nat.le_of_ble_eq_true rfl) d_Mo_otherForm_24 (fun H locs hP hD hS => ?_)
  have hP : va_P D classes (w_Mo_otherForm) H := hP.sub [] rfl
  have hD : va_D A (w_Mo_otherForm) := hD.sub [] (by decide) rfl
  refine lv_ixor hx hb d_Mo_otherForm_27 ?_
  refine lv_iload_n hx hb d_Mo_otherForm_28 rfl (lv_at hl 0 rfl) ?_
  refine lv_iconst (v := (4 : Int32)) hx hb d_Mo_otherForm_29 (by decide) ?_
  refine lv_sipush (v := (134 : Int32)) hx hb d_Mo_otherForm_30 (by decide) ?_
  obtain ⟨r7, hu, hm⟩ := bd_el hm
  replace hm := nm_1 hm
  refine z_cSi (wc := w_Mo_bitOf) (wc' := w_Mo_bitOf) (wr := []) (As := [.int x0, .int (4 : Int32), .int (134 : Int32)]) (rest := [.int ((r1 ^^^ r3) ^^^ r5)]) (c_Mo_bitOf l D cI cJ tt _ x0 (4 : Int32) (134 : Int32) r7 hu) F ok_Mo_bitOf k_879 hK hE hP hD hS hA [] [] rfl rfl (by decide) (by decide) (by decide) ⟨rfl, rfl, Nat.le_of_ble_eq_true rfl, Nat.le_of_ble_eq_true rfl⟩ ⟨Nat.zero_le _, Nat.zero_le _⟩ rfl hl.1 rfl (Nat.le_of_ble_eq_true rfl) d_Mo_otherForm_33 (fun H locs hP hD hS => ?_)
  have hP : va_P D classes (w_Mo_otherForm) H := hP.sub [] rfl
  have hD : va_D A (w_Mo_otherForm) := hD.sub [] (by decide) rfl
  refine lv_ixor hx hb d_Mo_otherForm_36 ?_
  refine lv_iload_n hx hb d_Mo_otherForm_37 rfl (lv_at hl 0 rfl) ?_
  refine lv_iconst (v := (3 : Int32)) hx hb d_Mo_otherForm_38 (by decide) ?_
  refine lv_sipush (v := (250 : Int32)) hx hb d_Mo_otherForm_39 (by decide) ?_
  obtain ⟨r9, hu, hm⟩ := bd_el hm
  replace hm := nm_1 hm
  refine z_cSi (wc := w_Mo_bitOf) (wc' := w_Mo_bitOf) (wr := []) (As := [.int x0, .int (3 : Int32), .int (250 : Int32)]) (rest := [.int (((r1 ^^^ r3) ^^^ r5) ^^^ r7)]) (c_Mo_bitOf l D cI cJ tt _ x0 (3 : Int32) (250 : Int32) r9 hu) F ok_Mo_bitOf k_879 hK hE hP hD hS hA [] [] rfl rfl (by decide) (by decide) (by decide) ⟨rfl, rfl, Nat.le_of_ble_eq_true rfl, Nat.le_of_ble_eq_true rfl⟩ ⟨Nat.zero_le _, Nat.zero_le _⟩ rfl hl.1 rfl (Nat.le_of_ble_eq_true rfl) d_Mo_otherForm_42 (fun H locs hP hD hS => ?_)
  have hP : va_P D classes (w_Mo_otherForm) H := hP.sub [] rfl
  have hD : va_D A (w_Mo_otherForm) := hD.sub [] (by decide) rfl
  refine lv_ixor hx hb d_Mo_otherForm_45 ?_
  refine lv_iload_n hx hb d_Mo_otherForm_46 rfl (lv_at hl 0 rfl) ?_
  refine lv_iconst (v := (2 : Int32)) hx hb d_Mo_otherForm_47 (by decide) ?_
  refine lv_sipush (v := (153 : Int32)) hx hb d_Mo_otherForm_48 (by decide) ?_
  obtain ⟨r11, hu, hm⟩ := bd_el hm
  replace hm := nm_1 hm
  refine z_cSi (wc := w_Mo_bitOf) (wc' := w_Mo_bitOf) (wr := []) (As := [.int x0, .int (2 : Int32), .int (153 : Int32)]) (rest := [.int ((((r1 ^^^ r3) ^^^ r5) ^^^ r7) ^^^ r9)]) (c_Mo_bitOf l D cI cJ tt _ x0 (2 : Int32) (153 : Int32) r11 hu) F ok_Mo_bitOf k_879 hK hE hP hD hS hA [] [] rfl rfl (by decide) (by decide) (by decide) ⟨rfl, rfl, Nat.le_of_ble_eq_true rfl, Nat.le_of_ble_eq_true rfl⟩ ⟨Nat.zero_le _, Nat.zero_le _⟩ rfl hl.1 rfl (Nat.le_of_ble_eq_true rfl) d_Mo_otherForm_51 (fun H locs hP hD hS => ?_)
  have hP : va_P D classes (w_Mo_otherForm) H := hP.sub [] rfl
  have hD : va_D A (w_Mo_otherForm) := hD.sub [] (by decide) rfl
  refine lv_ixor hx hb d_Mo_otherForm_54 ?_
  refine lv_iload_n hx hb d_Mo_otherForm_55 rfl (lv_at hl 0 rfl) ?_
  refine lv_iconst (v := (1 : Int32)) hx hb d_Mo_otherForm_56 (by decide) ?_
  refine lv_sipush (v := (175 : Int32)) hx hb d_Mo_otherForm_57 (by decide) ?_
  obtain ⟨r13, hu, hm⟩ := bd_el hm
  replace hm := nm_1 hm
  refine z_cSi (wc := w_Mo_bitOf) (wc' := w_Mo_bitOf) (wr := []) (As := [.int x0, .int (1 : Int32), .int (175 : Int32)]) (rest := [.int (((((r1 ^^^ r3) ^^^ r5) ^^^ r7) ^^^ r9) ^^^ r11)]) (c_Mo_bitOf l D cI cJ tt _ x0 (1 : Int32) (175 : Int32) r13 hu) F ok_Mo_bitOf k_879 hK hE hP hD hS hA [] [] rfl rfl (by decide) (by decide) (by decide) ⟨rfl, rfl, Nat.le_of_ble_eq_true rfl, Nat.le_of_ble_eq_true rfl⟩ ⟨Nat.zero_le _, Nat.zero_le _⟩ rfl hl.1 rfl (Nat.le_of_ble_eq_true rfl) d_Mo_otherForm_60 (fun H locs hP hD hS => ?_)
  have hP : va_P D classes (w_Mo_otherForm) H := hP.sub [] rfl
  have hD : va_D A (w_Mo_otherForm) := hD.sub [] (by decide) rfl
  refine lv_ixor hx hb d_Mo_otherForm_63 ?_
  refine lv_iload_n hx hb d_Mo_otherForm_64 rfl (lv_at hl 0 rfl) ?_
  refine lv_iconst (v := (0 : Int32)) hx hb d_Mo_otherForm_65 (by decide) ?_
  refine lv_bipush (v := (123 : Int32)) hx hb d_Mo_otherForm_66 (by decide) ?_
  obtain ⟨r15, hu, hm⟩ := bd_el hm
  replace hm := nm_1 hm
  refine z_cSi (wc := w_Mo_bitOf) (wc' := w_Mo_bitOf) (wr := []) (As := [.int x0, .int (0 : Int32), .int (123 : Int32)]) (rest := [.int ((((((r1 ^^^ r3) ^^^ r5) ^^^ r7) ^^^ r9) ^^^ r11) ^^^ r13)]) (c_Mo_bitOf l D cI cJ tt _ x0 (0 : Int32) (123 : Int32) r15 hu) F ok_Mo_bitOf k_879 hK hE hP hD hS hA [] [] rfl rfl (by decide) (by decide) (by decide) ⟨rfl, rfl, Nat.le_of_ble_eq_true rfl, Nat.le_of_ble_eq_true rfl⟩ ⟨Nat.zero_le _, Nat.zero_le _⟩ rfl hl.1 rfl (Nat.le_of_ble_eq_true rfl) d_Mo_otherForm_68 (fun H locs hP hD hS => ?_)
  have hP : va_P D classes (w_Mo_otherForm) H := hP.sub [] rfl
  have hD : va_D A (w_Mo_otherForm) := hD.sub [] (by decide) rfl
  refine lv_ixor hx hb d_Mo_otherForm_71 ?_
  cases hm
  exact z_qo hQ (z_ireti hr hx hb hlocks hK hP hD hS d_Mo_otherForm_72)
-- DeepChannelModel.product(II)I
abbrev b_Mo_product : ByteArray := prog_13_method_5_code
abbrev y_Mo_product : MethodName := ⟨"DeepChannelModel", "product", "(II)I"⟩
theorem d_Mo_product_0 : decode b_Mo_product 0 = .ok (.iload_n 1, 1) := by decide +kernel
theorem d_Mo_product_1 : decode b_Mo_product 1 = .ok (.ifCond .eq 7, 3) := by decide +kernel
theorem d_Mo_product_4 : decode b_Mo_product 4 = .ok (.iload_n 2, 1) := by decide +kernel
theorem d_Mo_product_5 : decode b_Mo_product 5 = .ok (.ifCond .ne 7, 3) := by decide +kernel
theorem d_Mo_product_8 : decode b_Mo_product 8 = .ok (.iconst 0, 1) := by decide +kernel
theorem d_Mo_product_9 : decode b_Mo_product 9 = .ok (.goto 25, 3) := by decide +kernel
theorem d_Mo_product_12 : decode b_Mo_product 12 = .ok (.aload_n 0, 1) := by decide +kernel
theorem d_Mo_product_13 : decode b_Mo_product 13 = .ok (.getfield 29, 3) := by decide +kernel
theorem d_Mo_product_16 : decode b_Mo_product 16 = .ok (.aload_n 0, 1) := by decide +kernel
theorem d_Mo_product_17 : decode b_Mo_product 17 = .ok (.getfield 32, 3) := by decide +kernel
theorem d_Mo_product_20 : decode b_Mo_product 20 = .ok (.iload_n 1, 1) := by decide +kernel
theorem d_Mo_product_21 : decode b_Mo_product 21 = .ok (.iaload, 1) := by decide +kernel
theorem d_Mo_product_22 : decode b_Mo_product 22 = .ok (.aload_n 0, 1) := by decide +kernel
theorem d_Mo_product_23 : decode b_Mo_product 23 = .ok (.getfield 32, 3) := by decide +kernel
theorem d_Mo_product_26 : decode b_Mo_product 26 = .ok (.iload_n 2, 1) := by decide +kernel
theorem d_Mo_product_27 : decode b_Mo_product 27 = .ok (.iaload, 1) := by decide +kernel
theorem d_Mo_product_28 : decode b_Mo_product 28 = .ok (.iadd, 1) := by decide +kernel
theorem d_Mo_product_29 : decode b_Mo_product 29 = .ok (.sipush 255, 3) := by decide +kernel
theorem d_Mo_product_32 : decode b_Mo_product 32 = .ok (.irem, 1) := by decide +kernel
theorem d_Mo_product_33 : decode b_Mo_product 33 = .ok (.iaload, 1) := by decide +kernel
theorem d_Mo_product_34 : decode b_Mo_product 34 = .ok (.ireturn, 1) := by decide +kernel
theorem ok_Mo_product : OKv y_Mo_product b_Mo_product 3 (some .int) "DeepChannelModel" 2 := ⟨k_1093, k_1092, k_28, k_55, by decide +kernel, by decide +kernel, by decide +kernel⟩
abbrev w_Mo_product (cI cJ : ClassId) (qM qM_logarithms qM_powers : Nat) (M_thrown M_depth M_fill M_half M_pattern M_craft M_begins M_firsts M_seconds M_forms M_elements M_mixer M_data M_waiting M_master M_counts M_line M_length M_sent M_state M_places M_least M_row M_rowSize M_differ M_blocks M_marks M_wrongs M_bytes M_rights M_tells M_lastMaster M_lastCounts M_word M_values M_system M_solved M_wrong : Value) (M_logarithms : Nat → Int32) (M_powers : Nat → Int32) : va_W := [(qM, .inr (11, [M_thrown, M_depth, M_fill, M_half, M_pattern, M_craft, M_begins, M_firsts, M_seconds, .ref qM_powers, .ref qM_logarithms, M_forms, M_elements, M_mixer, M_data, M_waiting, M_master, M_counts, M_line, M_length, M_sent, M_state, M_places, M_least, M_row, M_rowSize, M_differ, M_blocks, M_marks, M_wrongs, M_bytes, M_rights, M_tells, M_lastMaster, M_lastCounts, M_word, M_values, M_system, M_solved, M_wrong])), (qM_logarithms, .inl (cI, 256, .inl M_logarithms)), (qM_powers, .inl (cI, 255, .inl M_powers))]
def f_Mo_product_8   : Option (Int32) :=
  some (0 : Int32)
def f_Mo_product (M_logarithms : Nat → Int32) (M_powers : Nat → Int32) (x1 : Int32) (x2 : Int32) : Option (Int32) :=
  if x1 = 0 then
    f_Mo_product_8
  else
  if x2 = 0 then
    f_Mo_product_8
  else
  rdI M_logarithms 256 x1 fun v1 =>
  rdI M_logarithms 256 x2 fun v2 =>
  dv (255 : Int32) <|
  rdI M_powers 255 ((v1 + v2) - (v1 + v2) / (255 : Int32) * (255 : Int32)) fun v3 =>
  some v3
set_option maxHeartbeats 4000000 in
set_option maxRecDepth 100000 in
theorem c_Mo_product (l : Launch) (D : va_G) (cI cJ : ClassId) (tt : Nat → Nat) (qM qM_logarithms qM_powers : Nat) (M_thrown M_depth M_fill M_half M_pattern M_craft M_begins M_firsts M_seconds M_forms M_elements M_mixer M_data M_waiting M_master M_counts M_line M_length M_sent M_state M_places M_least M_row M_rowSize M_differ M_blocks M_marks M_wrongs M_bytes M_rights M_tells M_lastMaster M_lastCounts M_word M_values M_system M_solved M_wrong : Value) (sz : Nat) (M_logarithms : Nat → Int32) (M_powers : Nat → Int32) (x1 : Int32) (x2 : Int32) (rr : Int32) (hm : f_Mo_product M_logarithms M_powers x1 x2 = some rr) : CTi l y_Mo_product b_Mo_product 3 (some .int) (RM 0 0) D cI cJ tt [.ref qM, .int x1, .int x2] (w_Mo_product cI cJ qM qM_logarithms qM_powers M_thrown M_depth M_fill M_half M_pattern M_craft M_begins M_firsts M_seconds M_forms M_elements M_mixer M_data M_waiting M_master M_counts M_line M_length M_sent M_state M_places M_least M_row M_rowSize M_differ M_blocks M_marks M_wrongs M_bytes M_rights M_tells M_lastMaster M_lastCounts M_word M_values M_system M_solved M_wrong M_logarithms M_powers) (w_Mo_product cI cJ qM qM_logarithms qM_powers M_thrown M_depth M_fill M_half M_pattern M_craft M_begins M_firsts M_seconds M_forms M_elements M_mixer M_data M_waiting M_master M_counts M_line M_length M_sent M_state M_places M_least M_row M_rowSize M_differ M_blocks M_marks M_wrongs M_bytes M_rights M_tells M_lastMaster M_lastCounts M_word M_values M_system M_solved M_wrong M_logarithms M_powers) sz rr := by
  refine Met.ofW (cc := b_Mo_product) (maxL := 3) (ret := (some .int)) (by decide) rfl ?_
  intro p e s m args below meth c s₁ B hml hv
  obtain ⟨hargs, hsz, hP, hK, hD0, hE⟩ := hv
  have hx := B.exec
  have hb := B.bytes
  have hr := B.returns
  have hts : ∀ w ∈ TB, w.before args s = true := z_mV s (atoms_spec (ws := WD y_Mo_product b_Mo_product 3 (some .int)) B.pre)
  have hown : s.vm.findClass "DeepChannelModel" = some m.cls := findClass_of_methodNamed B.named
  have hlocks := B.notSynchronized
  subst hsz
  have hD := hD0.self (sz := s.heap.size)
  generalize hAe : va_A (w_Mo_product cI cJ qM qM_logarithms qM_powers M_thrown M_depth M_fill M_half M_pattern M_craft M_begins M_firsts M_seconds M_forms M_elements M_mixer M_data M_waiting M_master M_counts M_line M_length M_sent M_state M_places M_least M_row M_rowSize M_differ M_blocks M_marks M_wrongs M_bytes M_rights M_tells M_lastMaster M_lastCounts M_word M_values M_system M_solved M_wrong M_logarithms M_powers) s.heap.size = A at hD hE ⊢
  have hA : ∀ q : Nat, s.heap.size ≤ q → A q := fun q h => by rw [← hAe]; exact Or.inr h
  have hS : va_S A s.heap s.heap [] := va_S.rf
  refine z_entry (vs := [.ref qM, .int x1, .int x2]) hargs (Nat.le_of_ble_eq_true rfl) (fun ls hl => ?_)
  have hl : lv_has ls 3 [(0, .ref qM), (1, .int x1), (2, .int x2)] := hl
  show W p l e (RM 0 0) s m args below meth c s.heap [] 0 0 _ _
  refine z_qi (fun Q0 hQ => ?_)
  have F : CallFix p m c b_Mo_product 3 s args TB "DeepChannelModel" := ⟨hx, hb, hml, hown, hts⟩
  have T8 : ∀ (_ : Unit), f_Mo_product_8 = some rr → ∀ (H : Heap) (locs : List Loc), va_P D classes (w_Mo_product cI cJ qM qM_logarithms qM_powers M_thrown M_depth M_fill M_half M_pattern M_craft M_begins M_firsts M_seconds M_forms M_elements M_mixer M_data M_waiting M_master M_counts M_line M_length M_sent M_state M_places M_least M_row M_rowSize M_differ M_blocks M_marks M_wrongs M_bytes M_rights M_tells M_lastMaster M_lastCounts M_word M_values M_system M_solved M_wrong M_logarithms M_powers) H → va_D A (w_Mo_product cI cJ qM qM_logarithms qM_powers M_thrown M_depth M_fill M_half M_pattern M_craft M_begins M_firsts M_seconds M_forms M_elements M_mixer M_data M_waiting M_master M_counts M_line M_length M_sent M_state M_places M_least M_row M_rowSize M_differ M_blocks M_marks M_wrongs M_bytes M_rights M_tells M_lastMaster M_lastCounts M_word M_values M_system M_solved M_wrong M_logarithms M_powers) → va_S A s.heap H locs → ∀ (ls : Array Slot), lv_has ls 3 [] → W p l e (RM 0 0) s m args below meth c H locs 0 0 Q0 (F0 m 8 ls []) := by
    intro _u hm H locs hP hD hS ls hl
    unfold f_Mo_product_8 at hm
    refine lv_iconst (v := (0 : Int32)) hx hb d_Mo_product_8 (by decide) ?_
    refine lv_goto (tgt := 34) hx hb d_Mo_product_9 (by decide) ?_
    cases hm
    exact z_qo hQ (z_ireti hr hx hb hlocks hK hP hD hS d_Mo_product_34)
  unfold f_Mo_product at hm
  refine lv_iload_n hx hb d_Mo_product_0 rfl (lv_at hl 1 rfl) ?_
  refine z_if hm (lv_if_eq (tgt := 8) hx hb d_Mo_product_1 (by decide)) (fun hm => ?_) (fun hm => ?_)
  · exact T8 () hm _ _ hP hD hS _ (lv_sub hl [] rfl)
  · refine lv_iload_n hx hb d_Mo_product_4 rfl (lv_at hl 2 rfl) ?_
    refine z_ifn hm (lv_if_ne (tgt := 12) hx hb d_Mo_product_5 (by decide)) (fun hm => ?_) (fun hm => ?_)
    · exact T8 () hm _ _ hP hD hS _ (lv_sub hl [] rfl)
    · refine lv_aload_n hx hb d_Mo_product_12 rfl (lv_at hl 0 rfl) ?_
      refine va_get (D := D) (ci := 11) (v := .ref qM_powers) (C := "DeepChannelModel") (T := fT_Mo) (N := 40) hx hb hts u_Mo hown hK hP 0 rfl rfl 9 (by decide) (hts _ k_895) (fun _ h9 => h9) rfl d_Mo_product_13 ?_
      refine lv_aload_n hx hb d_Mo_product_16 rfl (lv_at hl 0 rfl) ?_
      refine va_get (D := D) (ci := 11) (v := .ref qM_logarithms) (C := "DeepChannelModel") (T := fT_Mo) (N := 40) hx hb hts u_Mo hown hK hP 0 rfl rfl 10 (by decide) (hts _ k_896) (fun _ h9 => h9) rfl d_Mo_product_17 ?_
      refine lv_iload_n hx hb d_Mo_product_20 rfl (lv_at hl 1 rfl) ?_
      refine z_iald hm hx hb hK hP 1 rfl d_Mo_product_21 (fun v1 hm => ?_)
      refine lv_aload_n hx hb d_Mo_product_22 rfl (lv_at hl 0 rfl) ?_
      refine va_get (D := D) (ci := 11) (v := .ref qM_logarithms) (C := "DeepChannelModel") (T := fT_Mo) (N := 40) hx hb hts u_Mo hown hK hP 0 rfl rfl 10 (by decide) (hts _ k_896) (fun _ h9 => h9) rfl d_Mo_product_23 ?_
      refine lv_iload_n hx hb d_Mo_product_26 rfl (lv_at hl 2 rfl) ?_
      refine z_iald hm hx hb hK hP 1 rfl d_Mo_product_27 (fun v2 hm => ?_)
      refine lv_iadd hx hb d_Mo_product_28 ?_
      refine lv_sipush (v := (255 : Int32)) hx hb d_Mo_product_29 (by decide) ?_
      refine z_irem hm hx hb d_Mo_product_32 (fun hm => ?_)
      refine z_iald hm hx hb hK hP 2 rfl d_Mo_product_33 (fun v3 hm => ?_)
      cases hm
      exact z_qo hQ (z_ireti hr hx hb hlocks hK hP hD hS d_Mo_product_34)
-- DeepChannelModel.inverse(I)I
abbrev b_Mo_inverse : ByteArray := prog_13_method_6_code
abbrev y_Mo_inverse : MethodName := ⟨"DeepChannelModel", "inverse", "(I)I"⟩
theorem d_Mo_inverse_0 : decode b_Mo_inverse 0 = .ok (.aload_n 0, 1) := by decide +kernel
theorem d_Mo_inverse_1 : decode b_Mo_inverse 1 = .ok (.getfield 29, 3) := by decide +kernel
theorem d_Mo_inverse_4 : decode b_Mo_inverse 4 = .ok (.sipush 255, 3) := by decide +kernel
theorem d_Mo_inverse_7 : decode b_Mo_inverse 7 = .ok (.aload_n 0, 1) := by decide +kernel
theorem d_Mo_inverse_8 : decode b_Mo_inverse 8 = .ok (.getfield 32, 3) := by decide +kernel
theorem d_Mo_inverse_11 : decode b_Mo_inverse 11 = .ok (.iload_n 1, 1) := by decide +kernel
theorem d_Mo_inverse_12 : decode b_Mo_inverse 12 = .ok (.iaload, 1) := by decide +kernel
theorem d_Mo_inverse_13 : decode b_Mo_inverse 13 = .ok (.isub, 1) := by decide +kernel
theorem d_Mo_inverse_14 : decode b_Mo_inverse 14 = .ok (.sipush 255, 3) := by decide +kernel
theorem d_Mo_inverse_17 : decode b_Mo_inverse 17 = .ok (.irem, 1) := by decide +kernel
theorem d_Mo_inverse_18 : decode b_Mo_inverse 18 = .ok (.iaload, 1) := by decide +kernel
theorem d_Mo_inverse_19 : decode b_Mo_inverse 19 = .ok (.ireturn, 1) := by decide +kernel
theorem ok_Mo_inverse : OKv y_Mo_inverse b_Mo_inverse 2 (some .int) "DeepChannelModel" 1 := ⟨k_1101, k_1100, k_30, k_55, by decide +kernel, by decide +kernel, by decide +kernel⟩
abbrev w_Mo_inverse (cI cJ : ClassId) (qM qM_logarithms qM_powers : Nat) (M_thrown M_depth M_fill M_half M_pattern M_craft M_begins M_firsts M_seconds M_forms M_elements M_mixer M_data M_waiting M_master M_counts M_line M_length M_sent M_state M_places M_least M_row M_rowSize M_differ M_blocks M_marks M_wrongs M_bytes M_rights M_tells M_lastMaster M_lastCounts M_word M_values M_system M_solved M_wrong : Value) (M_logarithms : Nat → Int32) (M_powers : Nat → Int32) : va_W := [(qM, .inr (11, [M_thrown, M_depth, M_fill, M_half, M_pattern, M_craft, M_begins, M_firsts, M_seconds, .ref qM_powers, .ref qM_logarithms, M_forms, M_elements, M_mixer, M_data, M_waiting, M_master, M_counts, M_line, M_length, M_sent, M_state, M_places, M_least, M_row, M_rowSize, M_differ, M_blocks, M_marks, M_wrongs, M_bytes, M_rights, M_tells, M_lastMaster, M_lastCounts, M_word, M_values, M_system, M_solved, M_wrong])), (qM_logarithms, .inl (cI, 256, .inl M_logarithms)), (qM_powers, .inl (cI, 255, .inl M_powers))]
def f_Mo_inverse (M_logarithms : Nat → Int32) (M_powers : Nat → Int32) (x1 : Int32) : Option (Int32) :=
  rdI M_logarithms 256 x1 fun v1 =>
  dv (255 : Int32) <|
  rdI M_powers 255 (((255 : Int32) - v1) - ((255 : Int32) - v1) / (255 : Int32) * (255 : Int32)) fun v2 =>
  some v2
set_option maxHeartbeats 4000000 in
set_option maxRecDepth 100000 in
theorem c_Mo_inverse (l : Launch) (D : va_G) (cI cJ : ClassId) (tt : Nat → Nat) (qM qM_logarithms qM_powers : Nat) (M_thrown M_depth M_fill M_half M_pattern M_craft M_begins M_firsts M_seconds M_forms M_elements M_mixer M_data M_waiting M_master M_counts M_line M_length M_sent M_state M_places M_least M_row M_rowSize M_differ M_blocks M_marks M_wrongs M_bytes M_rights M_tells M_lastMaster M_lastCounts M_word M_values M_system M_solved M_wrong : Value) (sz : Nat) (M_logarithms : Nat → Int32) (M_powers : Nat → Int32) (x1 : Int32) (rr : Int32) (hm : f_Mo_inverse M_logarithms M_powers x1 = some rr) : CTi l y_Mo_inverse b_Mo_inverse 2 (some .int) (RM 0 0) D cI cJ tt [.ref qM, .int x1] (w_Mo_inverse cI cJ qM qM_logarithms qM_powers M_thrown M_depth M_fill M_half M_pattern M_craft M_begins M_firsts M_seconds M_forms M_elements M_mixer M_data M_waiting M_master M_counts M_line M_length M_sent M_state M_places M_least M_row M_rowSize M_differ M_blocks M_marks M_wrongs M_bytes M_rights M_tells M_lastMaster M_lastCounts M_word M_values M_system M_solved M_wrong M_logarithms M_powers) (w_Mo_inverse cI cJ qM qM_logarithms qM_powers M_thrown M_depth M_fill M_half M_pattern M_craft M_begins M_firsts M_seconds M_forms M_elements M_mixer M_data M_waiting M_master M_counts M_line M_length M_sent M_state M_places M_least M_row M_rowSize M_differ M_blocks M_marks M_wrongs M_bytes M_rights M_tells M_lastMaster M_lastCounts M_word M_values M_system M_solved M_wrong M_logarithms M_powers) sz rr := by
  refine Met.ofW (cc := b_Mo_inverse) (maxL := 2) (ret := (some .int)) (by decide) rfl ?_
  intro p e s m args below meth c s₁ B hml hv
  obtain ⟨hargs, hsz, hP, hK, hD0, hE⟩ := hv
  have hx := B.exec
  have hb := B.bytes
  have hr := B.returns
  have hts : ∀ w ∈ TB, w.before args s = true := z_mV s (atoms_spec (ws := WD y_Mo_inverse b_Mo_inverse 2 (some .int)) B.pre)
  have hown : s.vm.findClass "DeepChannelModel" = some m.cls := findClass_of_methodNamed B.named
  have hlocks := B.notSynchronized
  subst hsz
  have hD := hD0.self (sz := s.heap.size)
  generalize hAe : va_A (w_Mo_inverse cI cJ qM qM_logarithms qM_powers M_thrown M_depth M_fill M_half M_pattern M_craft M_begins M_firsts M_seconds M_forms M_elements M_mixer M_data M_waiting M_master M_counts M_line M_length M_sent M_state M_places M_least M_row M_rowSize M_differ M_blocks M_marks M_wrongs M_bytes M_rights M_tells M_lastMaster M_lastCounts M_word M_values M_system M_solved M_wrong M_logarithms M_powers) s.heap.size = A at hD hE ⊢
  have hA : ∀ q : Nat, s.heap.size ≤ q → A q := fun q h => by rw [← hAe]; exact Or.inr h
  have hS : va_S A s.heap s.heap [] := va_S.rf
  refine z_entry (vs := [.ref qM, .int x1]) hargs (Nat.le_of_ble_eq_true rfl) (fun ls hl => ?_)
  have hl : lv_has ls 2 [(0, .ref qM), (1, .int x1)] := hl
  show W p l e (RM 0 0) s m args below meth c s.heap [] 0 0 _ _
  refine z_qi (fun Q0 hQ => ?_)
  have F : CallFix p m c b_Mo_inverse 2 s args TB "DeepChannelModel" := ⟨hx, hb, hml, hown, hts⟩
  unfold f_Mo_inverse at hm
  refine lv_aload_n hx hb d_Mo_inverse_0 rfl (lv_at hl 0 rfl) ?_
  refine va_get (D := D) (ci := 11) (v := .ref qM_powers) (C := "DeepChannelModel") (T := fT_Mo) (N := 40) hx hb hts u_Mo hown hK hP 0 rfl rfl 9 (by decide) (hts _ k_895) (fun _ h9 => h9) rfl d_Mo_inverse_1 ?_
  refine lv_sipush (v := (255 : Int32)) hx hb d_Mo_inverse_4 (by decide) ?_
  refine lv_aload_n hx hb d_Mo_inverse_7 rfl (lv_at hl 0 rfl) ?_
  refine va_get (D := D) (ci := 11) (v := .ref qM_logarithms) (C := "DeepChannelModel") (T := fT_Mo) (N := 40) hx hb hts u_Mo hown hK hP 0 rfl rfl 10 (by decide) (hts _ k_896) (fun _ h9 => h9) rfl d_Mo_inverse_8 ?_
  refine lv_iload_n hx hb d_Mo_inverse_11 rfl (lv_at hl 1 rfl) ?_
  refine z_iald hm hx hb hK hP 1 rfl d_Mo_inverse_12 (fun v1 hm => ?_)
  refine lv_isub hx hb d_Mo_inverse_13 ?_
  refine lv_sipush (v := (255 : Int32)) hx hb d_Mo_inverse_14 (by decide) ?_
  refine z_irem hm hx hb d_Mo_inverse_17 (fun hm => ?_)
  refine z_iald hm hx hb hK hP 2 rfl d_Mo_inverse_18 (fun v2 hm => ?_)
  cases hm
  exact z_qo hQ (z_ireti hr hx hb hlocks hK hP hD hS d_Mo_inverse_19)
-- DeepChannelModel.ofG(I)I
abbrev b_Mo_ofG : ByteArray := prog_13_method_7_code
abbrev y_Mo_ofG : MethodName := ⟨"DeepChannelModel", "ofG", "(I)I"⟩
theorem d_Mo_ofG_0 : decode b_Mo_ofG 0 = .ok (.aload_n 0, 1) := by decide +kernel
theorem d_Mo_ofG_1 : decode b_Mo_ofG 1 = .ok (.getfield 29, 3) := by decide +kernel
theorem d_Mo_ofG_4 : decode b_Mo_ofG 4 = .ok (.bipush 11, 2) := by decide +kernel
theorem d_Mo_ofG_6 : decode b_Mo_ofG 6 = .ok (.iload_n 1, 1) := by decide +kernel
theorem d_Mo_ofG_7 : decode b_Mo_ofG 7 = .ok (.imul, 1) := by decide +kernel
theorem d_Mo_ofG_8 : decode b_Mo_ofG 8 = .ok (.sipush 255, 3) := by decide +kernel
theorem d_Mo_ofG_11 : decode b_Mo_ofG 11 = .ok (.irem, 1) := by decide +kernel
theorem d_Mo_ofG_12 : decode b_Mo_ofG 12 = .ok (.iaload, 1) := by decide +kernel
theorem d_Mo_ofG_13 : decode b_Mo_ofG 13 = .ok (.ireturn, 1) := by decide +kernel
theorem ok_Mo_ofG : OKv y_Mo_ofG b_Mo_ofG 2 (some .int) "DeepChannelModel" 1 := ⟨k_1089, k_1088, k_27, k_55, by decide +kernel, by decide +kernel, by decide +kernel⟩
abbrev w_Mo_ofG (cI cJ : ClassId) (qM qM_powers : Nat) (M_thrown M_depth M_fill M_half M_pattern M_craft M_begins M_firsts M_seconds M_logarithms M_forms M_elements M_mixer M_data M_waiting M_master M_counts M_line M_length M_sent M_state M_places M_least M_row M_rowSize M_differ M_blocks M_marks M_wrongs M_bytes M_rights M_tells M_lastMaster M_lastCounts M_word M_values M_system M_solved M_wrong : Value) (M_powers : Nat → Int32) : va_W := [(qM, .inr (11, [M_thrown, M_depth, M_fill, M_half, M_pattern, M_craft, M_begins, M_firsts, M_seconds, .ref qM_powers, M_logarithms, M_forms, M_elements, M_mixer, M_data, M_waiting, M_master, M_counts, M_line, M_length, M_sent, M_state, M_places, M_least, M_row, M_rowSize, M_differ, M_blocks, M_marks, M_wrongs, M_bytes, M_rights, M_tells, M_lastMaster, M_lastCounts, M_word, M_values, M_system, M_solved, M_wrong])), (qM_powers, .inl (cI, 255, .inl M_powers))]
def f_Mo_ofG (M_powers : Nat → Int32) (x1 : Int32) : Option (Int32) :=
  dv (255 : Int32) <|
  rdI M_powers 255 (((11 : Int32) * x1) - ((11 : Int32) * x1) / (255 : Int32) * (255 : Int32)) fun v1 =>
  some v1
set_option maxHeartbeats 4000000 in
set_option maxRecDepth 100000 in
theorem c_Mo_ofG (l : Launch) (D : va_G) (cI cJ : ClassId) (tt : Nat → Nat) (qM qM_powers : Nat) (M_thrown M_depth M_fill M_half M_pattern M_craft M_begins M_firsts M_seconds M_logarithms M_forms M_elements M_mixer M_data M_waiting M_master M_counts M_line M_length M_sent M_state M_places M_least M_row M_rowSize M_differ M_blocks M_marks M_wrongs M_bytes M_rights M_tells M_lastMaster M_lastCounts M_word M_values M_system M_solved M_wrong : Value) (sz : Nat) (M_powers : Nat → Int32) (x1 : Int32) (rr : Int32) (hm : f_Mo_ofG M_powers x1 = some rr) : CTi l y_Mo_ofG b_Mo_ofG 2 (some .int) (RM 0 0) D cI cJ tt [.ref qM, .int x1] (w_Mo_ofG cI cJ qM qM_powers M_thrown M_depth M_fill M_half M_pattern M_craft M_begins M_firsts M_seconds M_logarithms M_forms M_elements M_mixer M_data M_waiting M_master M_counts M_line M_length M_sent M_state M_places M_least M_row M_rowSize M_differ M_blocks M_marks M_wrongs M_bytes M_rights M_tells M_lastMaster M_lastCounts M_word M_values M_system M_solved M_wrong M_powers) (w_Mo_ofG cI cJ qM qM_powers M_thrown M_depth M_fill M_half M_pattern M_craft M_begins M_firsts M_seconds M_logarithms M_forms M_elements M_mixer M_data M_waiting M_master M_counts M_line M_length M_sent M_state M_places M_least M_row M_rowSize M_differ M_blocks M_marks M_wrongs M_bytes M_rights M_tells M_lastMaster M_lastCounts M_word M_values M_system M_solved M_wrong M_powers) sz rr := by
  refine Met.ofW (cc := b_Mo_ofG) (maxL := 2) (ret := (some .int)) (by decide) rfl ?_
  intro p e s m args below meth c s₁ B hml hv
  obtain ⟨hargs, hsz, hP, hK, hD0, hE⟩ := hv
  have hx := B.exec
  have hb := B.bytes
  have hr := B.returns
  have hts : ∀ w ∈ TB, w.before args s = true := z_mV s (atoms_spec (ws := WD y_Mo_ofG b_Mo_ofG 2 (some .int)) B.pre)
  have hown : s.vm.findClass "DeepChannelModel" = some m.cls := findClass_of_methodNamed B.named
  have hlocks := B.notSynchronized
  subst hsz
  have hD := hD0.self (sz := s.heap.size)
  generalize hAe : va_A (w_Mo_ofG cI cJ qM qM_powers M_thrown M_depth M_fill M_half M_pattern M_craft M_begins M_firsts M_seconds M_logarithms M_forms M_elements M_mixer M_data M_waiting M_master M_counts M_line M_length M_sent M_state M_places M_least M_row M_rowSize M_differ M_blocks M_marks M_wrongs M_bytes M_rights M_tells M_lastMaster M_lastCounts M_word M_values M_system M_solved M_wrong M_powers) s.heap.size = A at hD hE ⊢
  have hA : ∀ q : Nat, s.heap.size ≤ q → A q := fun q h => by rw [← hAe]; exact Or.inr h
  have hS : va_S A s.heap s.heap [] := va_S.rf
  refine z_entry (vs := [.ref qM, .int x1]) hargs (Nat.le_of_ble_eq_true rfl) (fun ls hl => ?_)
  have hl : lv_has ls 2 [(0, .ref qM), (1, .int x1)] := hl
  show W p l e (RM 0 0) s m args below meth c s.heap [] 0 0 _ _
  refine z_qi (fun Q0 hQ => ?_)
  have F : CallFix p m c b_Mo_ofG 2 s args TB "DeepChannelModel" := ⟨hx, hb, hml, hown, hts⟩
  unfold f_Mo_ofG at hm
  refine lv_aload_n hx hb d_Mo_ofG_0 rfl (lv_at hl 0 rfl) ?_
  refine va_get (D := D) (ci := 11) (v := .ref qM_powers) (C := "DeepChannelModel") (T := fT_Mo) (N := 40) hx hb hts u_Mo hown hK hP 0 rfl rfl 9 (by decide) (hts _ k_895) (fun _ h9 => h9) rfl d_Mo_ofG_1 ?_
  refine lv_bipush (v := (11 : Int32)) hx hb d_Mo_ofG_4 (by decide) ?_
  refine lv_iload_n hx hb d_Mo_ofG_6 rfl (lv_at hl 1 rfl) ?_
  refine lv_imul hx hb d_Mo_ofG_7 ?_
  refine lv_sipush (v := (255 : Int32)) hx hb d_Mo_ofG_8 (by decide) ?_
  refine z_irem hm hx hb d_Mo_ofG_11 (fun hm => ?_)
  refine z_iald hm hx hb hK hP 1 rfl d_Mo_ofG_12 (fun v1 hm => ?_)
  cases hm
  exact z_qo hQ (z_ireti hr hx hb hlocks hK hP hD hS d_Mo_ofG_13)
-- DeepChannelModel.noForm(IIII)Z
abbrev b_Mo_noForm : ByteArray := prog_13_method_8_code
abbrev y_Mo_noForm : MethodName := ⟨"DeepChannelModel", "noForm", "(IIII)Z"⟩
theorem d_Mo_noForm_0 : decode b_Mo_noForm 0 = .ok (.iload_n 0, 1) := by decide +kernel
theorem d_Mo_noForm_1 : decode b_Mo_noForm 1 = .ok (.iconst 1, 1) := by decide +kernel
theorem d_Mo_noForm_2 : decode b_Mo_noForm 2 = .ok (.if_icmp .lt 8, 3) := by decide +kernel
theorem d_Mo_noForm_5 : decode b_Mo_noForm 5 = .ok (.iload_n 0, 1) := by decide +kernel
theorem d_Mo_noForm_6 : decode b_Mo_noForm 6 = .ok (.iconst 5, 1) := by decide +kernel
theorem d_Mo_noForm_7 : decode b_Mo_noForm 7 = .ok (.if_icmp .le 9, 3) := by decide +kernel
theorem d_Mo_noForm_10 : decode b_Mo_noForm 10 = .ok (.iload_n 0, 1) := by decide +kernel
theorem d_Mo_noForm_11 : decode b_Mo_noForm 11 = .ok (.bipush 8, 2) := by decide +kernel
theorem d_Mo_noForm_13 : decode b_Mo_noForm 13 = .ok (.if_icmp .ne 39, 3) := by decide +kernel
theorem d_Mo_noForm_16 : decode b_Mo_noForm 16 = .ok (.iload_n 1, 1) := by decide +kernel
theorem d_Mo_noForm_17 : decode b_Mo_noForm 17 = .ok (.ifCond .lt 35, 3) := by decide +kernel
theorem d_Mo_noForm_20 : decode b_Mo_noForm 20 = .ok (.iload_n 1, 1) := by decide +kernel
theorem d_Mo_noForm_21 : decode b_Mo_noForm 21 = .ok (.sipush 250, 3) := by decide +kernel
theorem d_Mo_noForm_24 : decode b_Mo_noForm 24 = .ok (.if_icmp .gt 28, 3) := by decide +kernel
theorem d_Mo_noForm_27 : decode b_Mo_noForm 27 = .ok (.iload_n 2, 1) := by decide +kernel
theorem d_Mo_noForm_28 : decode b_Mo_noForm 28 = .ok (.bipush 8, 2) := by decide +kernel
theorem d_Mo_noForm_30 : decode b_Mo_noForm 30 = .ok (.if_icmp .eq 9, 3) := by decide +kernel
theorem d_Mo_noForm_33 : decode b_Mo_noForm 33 = .ok (.iload_n 2, 1) := by decide +kernel
theorem d_Mo_noForm_34 : decode b_Mo_noForm 34 = .ok (.bipush 16, 2) := by decide +kernel
theorem d_Mo_noForm_36 : decode b_Mo_noForm 36 = .ok (.if_icmp .ne 16, 3) := by decide +kernel
theorem d_Mo_noForm_39 : decode b_Mo_noForm 39 = .ok (.iload_n 3, 1) := by decide +kernel
theorem d_Mo_noForm_40 : decode b_Mo_noForm 40 = .ok (.ifCond .lt 12, 3) := by decide +kernel
theorem d_Mo_noForm_43 : decode b_Mo_noForm 43 = .ok (.iload_n 3, 1) := by decide +kernel
theorem d_Mo_noForm_44 : decode b_Mo_noForm 44 = .ok (.iconst 4, 1) := by decide +kernel
theorem d_Mo_noForm_45 : decode b_Mo_noForm 45 = .ok (.if_icmp .gt 7, 3) := by decide +kernel
theorem d_Mo_noForm_48 : decode b_Mo_noForm 48 = .ok (.iconst 1, 1) := by decide +kernel
theorem d_Mo_noForm_49 : decode b_Mo_noForm 49 = .ok (.goto 4, 3) := by decide +kernel
theorem d_Mo_noForm_52 : decode b_Mo_noForm 52 = .ok (.iconst 0, 1) := by decide +kernel
theorem d_Mo_noForm_53 : decode b_Mo_noForm 53 = .ok (.istore 4, 2) := by decide +kernel
theorem d_Mo_noForm_55 : decode b_Mo_noForm 55 = .ok (.iload 4, 2) := by decide +kernel
theorem d_Mo_noForm_57 : decode b_Mo_noForm 57 = .ok (.ifCond .eq 43, 3) := by decide +kernel
theorem d_Mo_noForm_60 : decode b_Mo_noForm 60 = .ok (.sipush 255, 3) := by decide +kernel
theorem d_Mo_noForm_63 : decode b_Mo_noForm 63 = .ok (.iload_n 1, 1) := by decide +kernel
theorem d_Mo_noForm_64 : decode b_Mo_noForm 64 = .ok (.isub, 1) := by decide +kernel
theorem d_Mo_noForm_65 : decode b_Mo_noForm 65 = .ok (.iconst 2, 1) := by decide +kernel
theorem d_Mo_noForm_66 : decode b_Mo_noForm 66 = .ok (.iload_n 2, 1) := by decide +kernel
theorem d_Mo_noForm_67 : decode b_Mo_noForm 67 = .ok (.imul, 1) := by decide +kernel
theorem d_Mo_noForm_68 : decode b_Mo_noForm 68 = .ok (.if_icmp .le 32, 3) := by decide +kernel
theorem d_Mo_noForm_71 : decode b_Mo_noForm 71 = .ok (.iload_n 0, 1) := by decide +kernel
theorem d_Mo_noForm_72 : decode b_Mo_noForm 72 = .ok (.sipush 255, 3) := by decide +kernel
theorem d_Mo_noForm_75 : decode b_Mo_noForm 75 = .ok (.iload_n 1, 1) := by decide +kernel
theorem d_Mo_noForm_76 : decode b_Mo_noForm 76 = .ok (.isub, 1) := by decide +kernel
theorem d_Mo_noForm_77 : decode b_Mo_noForm 77 = .ok (.iconst 2, 1) := by decide +kernel
theorem d_Mo_noForm_78 : decode b_Mo_noForm 78 = .ok (.iload_n 2, 1) := by decide +kernel
theorem d_Mo_noForm_79 : decode b_Mo_noForm 79 = .ok (.imul, 1) := by decide +kernel
theorem d_Mo_noForm_80 : decode b_Mo_noForm 80 = .ok (.isub, 1) := by decide +kernel
theorem d_Mo_noForm_81 : decode b_Mo_noForm 81 = .ok (.imul, 1) := by decide +kernel
theorem d_Mo_noForm_82 : decode b_Mo_noForm 82 = .ok (.bipush 9, 2) := by decide +kernel
theorem d_Mo_noForm_84 : decode b_Mo_noForm 84 = .ok (.if_icmp .lt 16, 3) := by decide +kernel
theorem d_Mo_noForm_87 : decode b_Mo_noForm 87 = .ok (.iload_n 0, 1) := by decide +kernel
theorem d_Mo_noForm_88 : decode b_Mo_noForm 88 = .ok (.sipush 255, 3) := by decide +kernel
theorem d_Mo_noForm_91 : decode b_Mo_noForm 91 = .ok (.iload_n 1, 1) := by decide +kernel
theorem d_Mo_noForm_92 : decode b_Mo_noForm 92 = .ok (.isub, 1) := by decide +kernel
theorem d_Mo_noForm_93 : decode b_Mo_noForm 93 = .ok (.imul, 1) := by decide +kernel
theorem d_Mo_noForm_94 : decode b_Mo_noForm 94 = .ok (.sipush 250, 3) := by decide +kernel
theorem d_Mo_noForm_97 : decode b_Mo_noForm 97 = .ok (.if_icmp .le 7, 3) := by decide +kernel
theorem d_Mo_noForm_100 : decode b_Mo_noForm 100 = .ok (.iconst 1, 1) := by decide +kernel
theorem d_Mo_noForm_101 : decode b_Mo_noForm 101 = .ok (.goto 4, 3) := by decide +kernel
theorem d_Mo_noForm_104 : decode b_Mo_noForm 104 = .ok (.iconst 0, 1) := by decide +kernel
theorem d_Mo_noForm_105 : decode b_Mo_noForm 105 = .ok (.ireturn, 1) := by decide +kernel
theorem ok_Mo_noForm : OKs y_Mo_noForm b_Mo_noForm 5 (some .boolean) 4 := ⟨k_1017, k_1016, k_55, by decide +kernel, by decide +kernel, by decide +kernel⟩
abbrev w_Mo_noForm  : va_W := []
def f_Mo_noForm_100   : Option (Int32) :=
  zb (1 : Int32) <|
  some (1 : Int32)
def f_Mo_noForm_53  (x0 : Int32) (x1 : Int32) (x2 : Int32) (t0 : Int32) : Option (Int32) :=
  if t0 = 0 then
    f_Mo_noForm_100
  else
  if ((255 : Int32) - x1) ≤ ((2 : Int32) * x2) then
    f_Mo_noForm_100
  else
  if (x0 * (((255 : Int32) - x1) - ((2 : Int32) * x2))) < (9 : Int32) then
    f_Mo_noForm_100
  else
  if (x0 * ((255 : Int32) - x1)) ≤ (250 : Int32) then
    zb (0 : Int32) <|
    some (0 : Int32)
  else
  f_Mo_noForm_100
def f_Mo_noForm_52  (x0 : Int32) (x1 : Int32) (x2 : Int32) : Option (Int32) :=
  f_Mo_noForm_53 x0 x1 x2 (0 : Int32)
def f_Mo_noForm_39  (x0 : Int32) (x1 : Int32) (x2 : Int32) (x3 : Int32) : Option (Int32) :=
  if x3 < 0 then
    f_Mo_noForm_52 x0 x1 x2
  else
  if (4 : Int32) < x3 then
    f_Mo_noForm_52 x0 x1 x2
  else
  f_Mo_noForm_53 x0 x1 x2 (1 : Int32)
def f_Mo_noForm_16  (x0 : Int32) (x1 : Int32) (x2 : Int32) (x3 : Int32) : Option (Int32) :=
  if x1 < 0 then
    f_Mo_noForm_52 x0 x1 x2
  else
  if (250 : Int32) < x1 then
    f_Mo_noForm_52 x0 x1 x2
  else
  if x2 = (8 : Int32) then
    f_Mo_noForm_39 x0 x1 x2 x3
  else
  if x2 = (16 : Int32) then
    f_Mo_noForm_39 x0 x1 x2 x3
  else
  f_Mo_noForm_52 x0 x1 x2
def f_Mo_noForm_10  (x0 : Int32) (x1 : Int32) (x2 : Int32) (x3 : Int32) : Option (Int32) :=
  if x0 = (8 : Int32) then
    f_Mo_noForm_16 x0 x1 x2 x3
  else
  f_Mo_noForm_52 x0 x1 x2
def f_Mo_noForm (x0 : Int32) (x1 : Int32) (x2 : Int32) (x3 : Int32) : Option (Int32) :=
  if x0 < (1 : Int32) then
    f_Mo_noForm_10 x0 x1 x2 x3
  else
  if x0 ≤ (5 : Int32) then
    f_Mo_noForm_16 x0 x1 x2 x3
  else
  f_Mo_noForm_10 x0 x1 x2 x3
set_option maxHeartbeats 4000000 in
set_option maxRecDepth 100000 in
theorem c_Mo_noForm (l : Launch) (D : va_G) (cI cJ : ClassId) (tt : Nat → Nat) (sz : Nat) (x0 : Int32) (x1 : Int32) (x2 : Int32) (x3 : Int32) (rr : Int32) (hm : f_Mo_noForm x0 x1 x2 x3 = some rr) : CTi l y_Mo_noForm b_Mo_noForm 5 (some .boolean) (RM 0 0) D cI cJ tt [.int x0, .int x1, .int x2, .int x3] (w_Mo_noForm) (w_Mo_noForm) sz rr := by
  refine Met.ofW (cc := b_Mo_noForm) (maxL := 5) (ret := (some .boolean)) (by decide) rfl ?_
  intro p e s m args below meth c s₁ B hml hv
  obtain ⟨hargs, hsz, hP, hK, hD0, hE⟩ := hv
  have hx := B.exec
  have hb := B.bytes
  have hr := B.returns
  have hts : ∀ w ∈ TB, w.before args s = true := z_mV s (atoms_spec (ws := WD y_Mo_noForm b_Mo_noForm 5 (some .boolean)) B.pre)
  have hown : s.vm.findClass "DeepChannelModel" = some m.cls := findClass_of_methodNamed B.named
  have hlocks := B.notSynchronized
  subst hsz
  have hD := hD0.self (sz := s.heap.size)
  generalize hAe : va_A (w_Mo_noForm) s.heap.size = A at hD hE ⊢
  have hA : ∀ q : Nat, s.heap.size ≤ q → A q := fun q h => by rw [← hAe]; exact Or.inr h
  have hS : va_S A s.heap s.heap [] := va_S.rf
  refine z_entry (vs := [.int x0, .int x1, .int x2, .int x3]) hargs (Nat.le_of_ble_eq_true rfl) (fun ls hl => ?_)
  have hl : lv_has ls 5 [(0, .int x0), (1, .int x1), (2, .int x2), (3, .int x3)] := hl
  show W p l e (RM 0 0) s m args below meth c s.heap [] 0 0 _ _
  refine z_qi (fun Q0 hQ => ?_)
  have F : CallFix p m c b_Mo_noForm 5 s args TB "DeepChannelModel" := ⟨hx, hb, hml, hown, hts⟩
  have T100 : ∀ (_ : Unit), f_Mo_noForm_100 = some rr → ∀ (H : Heap) (locs : List Loc), va_P D classes (w_Mo_noForm) H → va_D A (w_Mo_noForm) → va_S A s.heap H locs → ∀ (ls : Array Slot), lv_has ls 5 [] → W p l e (RM 0 0) s m args below meth c H locs 0 0 Q0 (F0 m 100 ls []) := by
    intro _u hm H locs hP hD hS ls hl
    unfold f_Mo_noForm_100 at hm
    refine lv_iconst (v := (1 : Int32)) hx hb d_Mo_noForm_100 (by decide) ?_
    refine lv_goto (tgt := 105) hx hb d_Mo_noForm_101 (by decide) ?_
    obtain ⟨hz, hm⟩ := zb_el hm
    cases hm
    exact z_qo hQ (z_iretz hz hr hx hb hlocks hK hP hD hS d_Mo_noForm_105)
  have T53 : ∀ (x0 : Int32) (x1 : Int32) (x2 : Int32) (t0 : Int32), f_Mo_noForm_53 x0 x1 x2 t0 = some rr → ∀ (H : Heap) (locs : List Loc), va_P D classes (w_Mo_noForm) H → va_D A (w_Mo_noForm) → va_S A s.heap H locs → ∀ (ls : Array Slot), lv_has ls 5 [(0, .int x0), (1, .int x1), (2, .int x2)] → W p l e (RM 0 0) s m args below meth c H locs 0 0 Q0 (F0 m 53 ls [.int t0]) := by
    intro x0 x1 x2 t0 hm H locs hP hD hS ls hl
    unfold f_Mo_noForm_53 at hm
    refine lv_istore (lv' := [(4, .int t0), (0, .int x0), (1, .int x1), (2, .int x2)]) hx hb d_Mo_noForm_53 hl (by decide) rfl (fun ls hl => ?_)
    refine lv_iload hx hb d_Mo_noForm_55 (lv_at hl 0 rfl) ?_
    refine z_if hm (lv_if_eq (tgt := 100) hx hb d_Mo_noForm_57 (by decide)) (fun hm => ?_) (fun hm => ?_)
    · exact T100 () hm _ _ hP hD hS _ (lv_sub hl [] rfl)
    · refine lv_sipush (v := (255 : Int32)) hx hb d_Mo_noForm_60 (by decide) ?_
      refine lv_iload_n hx hb d_Mo_noForm_63 rfl (lv_at hl 2 rfl) ?_
      refine lv_isub hx hb d_Mo_noForm_64 ?_
      refine lv_iconst (v := (2 : Int32)) hx hb d_Mo_noForm_65 (by decide) ?_
      refine lv_iload_n hx hb d_Mo_noForm_66 rfl (lv_at hl 3 rfl) ?_
      refine lv_imul hx hb d_Mo_noForm_67 ?_
      refine z_if hm (lv_icmp_le (tgt := 100) hx hb d_Mo_noForm_68 (by decide)) (fun hm => ?_) (fun hm => ?_)
      · exact T100 () hm _ _ hP hD hS _ (lv_sub hl [] rfl)
      · refine lv_iload_n hx hb d_Mo_noForm_71 rfl (lv_at hl 1 rfl) ?_
        refine lv_sipush (v := (255 : Int32)) hx hb d_Mo_noForm_72 (by decide) ?_
        refine lv_iload_n hx hb d_Mo_noForm_75 rfl (lv_at hl 2 rfl) ?_
        refine lv_isub hx hb d_Mo_noForm_76 ?_
        refine lv_iconst (v := (2 : Int32)) hx hb d_Mo_noForm_77 (by decide) ?_
        refine lv_iload_n hx hb d_Mo_noForm_78 rfl (lv_at hl 3 rfl) ?_
        refine lv_imul hx hb d_Mo_noForm_79 ?_
        refine lv_isub hx hb d_Mo_noForm_80 ?_
        refine lv_imul hx hb d_Mo_noForm_81 ?_
        refine lv_bipush (v := (9 : Int32)) hx hb d_Mo_noForm_82 (by decide) ?_
        refine z_if hm (lv_icmp_lt (tgt := 100) hx hb d_Mo_noForm_84 (by decide)) (fun hm => ?_) (fun hm => ?_)
        · exact T100 () hm _ _ hP hD hS _ (lv_sub hl [] rfl)
        · refine lv_iload_n hx hb d_Mo_noForm_87 rfl (lv_at hl 1 rfl) ?_
          refine lv_sipush (v := (255 : Int32)) hx hb d_Mo_noForm_88 (by decide) ?_
          refine lv_iload_n hx hb d_Mo_noForm_91 rfl (lv_at hl 2 rfl) ?_
          refine lv_isub hx hb d_Mo_noForm_92 ?_
          refine lv_imul hx hb d_Mo_noForm_93 ?_
          refine lv_sipush (v := (250 : Int32)) hx hb d_Mo_noForm_94 (by decide) ?_
          refine z_if hm (lv_icmp_le (tgt := 104) hx hb d_Mo_noForm_97 (by decide)) (fun hm => ?_) (fun hm => ?_)
          · refine lv_iconst (v := (0 : Int32)) hx hb d_Mo_noForm_104 (by decide) ?_
            obtain ⟨hz, hm⟩ := zb_el hm
            cases hm
            exact z_qo hQ (z_iretz hz hr hx hb hlocks hK hP hD hS d_Mo_noForm_105)
          · exact T100 () hm _ _ hP hD hS _ (lv_sub hl [] rfl)
  have T52 : ∀ (x0 : Int32) (x1 : Int32) (x2 : Int32), f_Mo_noForm_52 x0 x1 x2 = some rr → ∀ (H : Heap) (locs : List Loc), va_P D classes (w_Mo_noForm) H → va_D A (w_Mo_noForm) → va_S A s.heap H locs → ∀ (ls : Array Slot), lv_has ls 5 [(0, .int x0), (1, .int x1), (2, .int x2)] → W p l e (RM 0 0) s m args below meth c H locs 0 0 Q0 (F0 m 52 ls []) := by
    intro x0 x1 x2 hm H locs hP hD hS ls hl
    unfold f_Mo_noForm_52 at hm
    refine lv_iconst (v := (0 : Int32)) hx hb d_Mo_noForm_52 (by decide) ?_
    exact T53 x0 x1 x2 (0 : Int32) hm _ _ hP hD hS _ (lv_sub hl [0, 1, 2] rfl)
  have T39 : ∀ (x0 : Int32) (x1 : Int32) (x2 : Int32) (x3 : Int32), f_Mo_noForm_39 x0 x1 x2 x3 = some rr → ∀ (H : Heap) (locs : List Loc), va_P D classes (w_Mo_noForm) H → va_D A (w_Mo_noForm) → va_S A s.heap H locs → ∀ (ls : Array Slot), lv_has ls 5 [(0, .int x0), (1, .int x1), (2, .int x2), (3, .int x3)] → W p l e (RM 0 0) s m args below meth c H locs 0 0 Q0 (F0 m 39 ls []) := by
    intro x0 x1 x2 x3 hm H locs hP hD hS ls hl
    unfold f_Mo_noForm_39 at hm
    refine lv_iload_n hx hb d_Mo_noForm_39 rfl (lv_at hl 3 rfl) ?_
    refine z_if hm (lv_if_lt (tgt := 52) hx hb d_Mo_noForm_40 (by decide)) (fun hm => ?_) (fun hm => ?_)
    · exact T52 x0 x1 x2 hm _ _ hP hD hS _ (lv_sub hl [0, 1, 2] rfl)
    · refine lv_iload_n hx hb d_Mo_noForm_43 rfl (lv_at hl 3 rfl) ?_
      refine lv_iconst (v := (4 : Int32)) hx hb d_Mo_noForm_44 (by decide) ?_
      refine z_if hm (lv_icmp_gt (tgt := 52) hx hb d_Mo_noForm_45 (by decide)) (fun hm => ?_) (fun hm => ?_)
      · exact T52 x0 x1 x2 hm _ _ hP hD hS _ (lv_sub hl [0, 1, 2] rfl)
      · refine lv_iconst (v := (1 : Int32)) hx hb d_Mo_noForm_48 (by decide) ?_
        refine lv_goto (tgt := 53) hx hb d_Mo_noForm_49 (by decide) ?_
        exact T53 x0 x1 x2 (1 : Int32) hm _ _ hP hD hS _ (lv_sub hl [0, 1, 2] rfl)
  have T16 : ∀ (x0 : Int32) (x1 : Int32) (x2 : Int32) (x3 : Int32), f_Mo_noForm_16 x0 x1 x2 x3 = some rr → ∀ (H : Heap) (locs : List Loc), va_P D classes (w_Mo_noForm) H → va_D A (w_Mo_noForm) → va_S A s.heap H locs → ∀ (ls : Array Slot), lv_has ls 5 [(0, .int x0), (1, .int x1), (2, .int x2), (3, .int x3)] → W p l e (RM 0 0) s m args below meth c H locs 0 0 Q0 (F0 m 16 ls []) := by
    intro x0 x1 x2 x3 hm H locs hP hD hS ls hl
    unfold f_Mo_noForm_16 at hm
    refine lv_iload_n hx hb d_Mo_noForm_16 rfl (lv_at hl 1 rfl) ?_
    refine z_if hm (lv_if_lt (tgt := 52) hx hb d_Mo_noForm_17 (by decide)) (fun hm => ?_) (fun hm => ?_)
    · exact T52 x0 x1 x2 hm _ _ hP hD hS _ (lv_sub hl [0, 1, 2] rfl)
    · refine lv_iload_n hx hb d_Mo_noForm_20 rfl (lv_at hl 1 rfl) ?_
      refine lv_sipush (v := (250 : Int32)) hx hb d_Mo_noForm_21 (by decide) ?_
      refine z_if hm (lv_icmp_gt (tgt := 52) hx hb d_Mo_noForm_24 (by decide)) (fun hm => ?_) (fun hm => ?_)
      · exact T52 x0 x1 x2 hm _ _ hP hD hS _ (lv_sub hl [0, 1, 2] rfl)
      · refine lv_iload_n hx hb d_Mo_noForm_27 rfl (lv_at hl 2 rfl) ?_
        refine lv_bipush (v := (8 : Int32)) hx hb d_Mo_noForm_28 (by decide) ?_
        refine z_if hm (lv_icmp_eq (tgt := 39) hx hb d_Mo_noForm_30 (by decide)) (fun hm => ?_) (fun hm => ?_)
        · exact T39 x0 x1 x2 x3 hm _ _ hP hD hS _ (lv_sub hl [0, 1, 2, 3] rfl)
        · refine lv_iload_n hx hb d_Mo_noForm_33 rfl (lv_at hl 2 rfl) ?_
          refine lv_bipush (v := (16 : Int32)) hx hb d_Mo_noForm_34 (by decide) ?_
          refine z_ifn hm (lv_icmp_ne (tgt := 52) hx hb d_Mo_noForm_36 (by decide)) (fun hm => ?_) (fun hm => ?_)
          · exact T39 x0 x1 x2 x3 hm _ _ hP hD hS _ (lv_sub hl [0, 1, 2, 3] rfl)
          · exact T52 x0 x1 x2 hm _ _ hP hD hS _ (lv_sub hl [0, 1, 2] rfl)
  have T10 : ∀ (x0 : Int32) (x1 : Int32) (x2 : Int32) (x3 : Int32), f_Mo_noForm_10 x0 x1 x2 x3 = some rr → ∀ (H : Heap) (locs : List Loc), va_P D classes (w_Mo_noForm) H → va_D A (w_Mo_noForm) → va_S A s.heap H locs → ∀ (ls : Array Slot), lv_has ls 5 [(0, .int x0), (1, .int x1), (2, .int x2), (3, .int x3)] → W p l e (RM 0 0) s m args below meth c H locs 0 0 Q0 (F0 m 10 ls []) := by
    intro x0 x1 x2 x3 hm H locs hP hD hS ls hl
    unfold f_Mo_noForm_10 at hm
    refine lv_iload_n hx hb d_Mo_noForm_10 rfl (lv_at hl 0 rfl) ?_
    refine lv_bipush (v := (8 : Int32)) hx hb d_Mo_noForm_11 (by decide) ?_
    refine z_ifn hm (lv_icmp_ne (tgt := 52) hx hb d_Mo_noForm_13 (by decide)) (fun hm => ?_) (fun hm => ?_)
    · exact T16 x0 x1 x2 x3 hm _ _ hP hD hS _ (lv_sub hl [0, 1, 2, 3] rfl)
    · exact T52 x0 x1 x2 hm _ _ hP hD hS _ (lv_sub hl [0, 1, 2] rfl)
  unfold f_Mo_noForm at hm
  refine lv_iload_n hx hb d_Mo_noForm_0 rfl (lv_at hl 0 rfl) ?_
  refine lv_iconst (v := (1 : Int32)) hx hb d_Mo_noForm_1 (by decide) ?_
  refine z_if hm (lv_icmp_lt (tgt := 10) hx hb d_Mo_noForm_2 (by decide)) (fun hm => ?_) (fun hm => ?_)
  · exact T10 x0 x1 x2 x3 hm _ _ hP hD hS _ (lv_sub hl [0, 1, 2, 3] rfl)
  · refine lv_iload_n hx hb d_Mo_noForm_5 rfl (lv_at hl 0 rfl) ?_
    refine lv_iconst (v := (5 : Int32)) hx hb d_Mo_noForm_6 (by decide) ?_
    refine z_if hm (lv_icmp_le (tgt := 16) hx hb d_Mo_noForm_7 (by decide)) (fun hm => ?_) (fun hm => ?_)
    · exact T16 x0 x1 x2 x3 hm _ _ hP hD hS _ (lv_sub hl [0, 1, 2, 3] rfl)
    · exact T10 x0 x1 x2 x3 hm _ _ hP hD hS _ (lv_sub hl [0, 1, 2, 3] rfl)
-- DeepChannelModel.wordSize()I
abbrev b_Mo_wordSize : ByteArray := prog_13_method_9_code
abbrev y_Mo_wordSize : MethodName := ⟨"DeepChannelModel", "wordSize", "()I"⟩
theorem d_Mo_wordSize_0 : decode b_Mo_wordSize 0 = .ok (.sipush 255, 3) := by decide +kernel
theorem d_Mo_wordSize_3 : decode b_Mo_wordSize 3 = .ok (.aload_n 0, 1) := by decide +kernel
theorem d_Mo_wordSize_4 : decode b_Mo_wordSize 4 = .ok (.getfield 13, 3) := by decide +kernel
theorem d_Mo_wordSize_7 : decode b_Mo_wordSize 7 = .ok (.isub, 1) := by decide +kernel
theorem d_Mo_wordSize_8 : decode b_Mo_wordSize 8 = .ok (.ireturn, 1) := by decide +kernel
theorem ok_Mo_wordSize : OKv y_Mo_wordSize b_Mo_wordSize 1 (some .int) "DeepChannelModel" 0 := ⟨k_1033, k_1032, k_18, k_55, by decide +kernel, by decide +kernel, by decide +kernel⟩
abbrev w_Mo_wordSize (cI cJ : ClassId) (qM : Nat) (M_thrown M_depth M_half M_pattern M_craft M_begins M_firsts M_seconds M_powers M_logarithms M_forms M_elements M_mixer M_data M_waiting M_master M_counts M_line M_length M_sent M_state M_places M_least M_row M_rowSize M_differ M_blocks M_marks M_wrongs M_bytes M_rights M_tells M_lastMaster M_lastCounts M_word M_values M_system M_solved M_wrong : Value) (M_fill : Int32) : va_W := [(qM, .inr (11, [M_thrown, M_depth, .int M_fill, M_half, M_pattern, M_craft, M_begins, M_firsts, M_seconds, M_powers, M_logarithms, M_forms, M_elements, M_mixer, M_data, M_waiting, M_master, M_counts, M_line, M_length, M_sent, M_state, M_places, M_least, M_row, M_rowSize, M_differ, M_blocks, M_marks, M_wrongs, M_bytes, M_rights, M_tells, M_lastMaster, M_lastCounts, M_word, M_values, M_system, M_solved, M_wrong]))]
def f_Mo_wordSize (M_fill : Int32) : Option (Int32) :=
  some ((255 : Int32) - M_fill)
set_option maxHeartbeats 4000000 in
set_option maxRecDepth 100000 in
theorem c_Mo_wordSize (l : Launch) (D : va_G) (cI cJ : ClassId) (tt : Nat → Nat) (qM : Nat) (M_thrown M_depth M_half M_pattern M_craft M_begins M_firsts M_seconds M_powers M_logarithms M_forms M_elements M_mixer M_data M_waiting M_master M_counts M_line M_length M_sent M_state M_places M_least M_row M_rowSize M_differ M_blocks M_marks M_wrongs M_bytes M_rights M_tells M_lastMaster M_lastCounts M_word M_values M_system M_solved M_wrong : Value) (sz : Nat) (M_fill : Int32) (rr : Int32) (hm : f_Mo_wordSize M_fill = some rr) : CTi l y_Mo_wordSize b_Mo_wordSize 1 (some .int) (RM 0 0) D cI cJ tt [.ref qM] (w_Mo_wordSize cI cJ qM M_thrown M_depth M_half M_pattern M_craft M_begins M_firsts M_seconds M_powers M_logarithms M_forms M_elements M_mixer M_data M_waiting M_master M_counts M_line M_length M_sent M_state M_places M_least M_row M_rowSize M_differ M_blocks M_marks M_wrongs M_bytes M_rights M_tells M_lastMaster M_lastCounts M_word M_values M_system M_solved M_wrong M_fill) (w_Mo_wordSize cI cJ qM M_thrown M_depth M_half M_pattern M_craft M_begins M_firsts M_seconds M_powers M_logarithms M_forms M_elements M_mixer M_data M_waiting M_master M_counts M_line M_length M_sent M_state M_places M_least M_row M_rowSize M_differ M_blocks M_marks M_wrongs M_bytes M_rights M_tells M_lastMaster M_lastCounts M_word M_values M_system M_solved M_wrong M_fill) sz rr := by
  refine Met.ofW (cc := b_Mo_wordSize) (maxL := 1) (ret := (some .int)) (by decide) rfl ?_
  intro p e s m args below meth c s₁ B hml hv
  obtain ⟨hargs, hsz, hP, hK, hD0, hE⟩ := hv
  have hx := B.exec
  have hb := B.bytes
  have hr := B.returns
  have hts : ∀ w ∈ TB, w.before args s = true := z_mV s (atoms_spec (ws := WD y_Mo_wordSize b_Mo_wordSize 1 (some .int)) B.pre)
  have hown : s.vm.findClass "DeepChannelModel" = some m.cls := findClass_of_methodNamed B.named
  have hlocks := B.notSynchronized
  subst hsz
  have hD := hD0.self (sz := s.heap.size)
  generalize hAe : va_A (w_Mo_wordSize cI cJ qM M_thrown M_depth M_half M_pattern M_craft M_begins M_firsts M_seconds M_powers M_logarithms M_forms M_elements M_mixer M_data M_waiting M_master M_counts M_line M_length M_sent M_state M_places M_least M_row M_rowSize M_differ M_blocks M_marks M_wrongs M_bytes M_rights M_tells M_lastMaster M_lastCounts M_word M_values M_system M_solved M_wrong M_fill) s.heap.size = A at hD hE ⊢
  have hA : ∀ q : Nat, s.heap.size ≤ q → A q := fun q h => by rw [← hAe]; exact Or.inr h
  have hS : va_S A s.heap s.heap [] := va_S.rf
  refine z_entry (vs := [.ref qM]) hargs (Nat.le_of_ble_eq_true rfl) (fun ls hl => ?_)
  have hl : lv_has ls 1 [(0, .ref qM)] := hl
  show W p l e (RM 0 0) s m args below meth c s.heap [] 0 0 _ _
  refine z_qi (fun Q0 hQ => ?_)
  have F : CallFix p m c b_Mo_wordSize 1 s args TB "DeepChannelModel" := ⟨hx, hb, hml, hown, hts⟩
  unfold f_Mo_wordSize at hm
  refine lv_sipush (v := (255 : Int32)) hx hb d_Mo_wordSize_0 (by decide) ?_
  refine lv_aload_n hx hb d_Mo_wordSize_3 rfl (lv_at hl 0 rfl) ?_
  refine va_get (D := D) (ci := 11) (v := .int M_fill) (C := "DeepChannelModel") (T := fT_Mo) (N := 40) hx hb hts u_Mo hown hK hP 0 rfl rfl 2 (by decide) (hts _ k_888) (fun _ h9 => h9) rfl d_Mo_wordSize_4 ?_
  refine lv_isub hx hb d_Mo_wordSize_7 ?_
  cases hm
  exact z_qo hQ (z_ireti hr hx hb hlocks hK hP hD hS d_Mo_wordSize_8)
-- DeepChannelModel.blockSize()I
abbrev b_Mo_blockSize : ByteArray := prog_13_method_10_code
abbrev y_Mo_blockSize : MethodName := ⟨"DeepChannelModel", "blockSize", "()I"⟩
theorem d_Mo_blockSize_0 : decode b_Mo_blockSize 0 = .ok (.aload_n 0, 1) := by decide +kernel
theorem d_Mo_blockSize_1 : decode b_Mo_blockSize 1 = .ok (.getfield 7, 3) := by decide +kernel
theorem d_Mo_blockSize_4 : decode b_Mo_blockSize 4 = .ok (.aload_n 0, 1) := by decide +kernel
theorem d_Mo_blockSize_5 : decode b_Mo_blockSize 5 = .ok (.invokevirtual 110, 3) := by decide +kernel
theorem d_Mo_blockSize_8 : decode b_Mo_blockSize 8 = .ok (.imul, 1) := by decide +kernel
theorem d_Mo_blockSize_9 : decode b_Mo_blockSize 9 = .ok (.ireturn, 1) := by decide +kernel
theorem ok_Mo_blockSize : OKv y_Mo_blockSize b_Mo_blockSize 1 (some .int) "DeepChannelModel" 0 := ⟨k_1037, k_1036, k_19, k_55, by decide +kernel, by decide +kernel, by decide +kernel⟩
abbrev w_Mo_blockSize (cI cJ : ClassId) (qM : Nat) (M_thrown M_half M_pattern M_craft M_begins M_firsts M_seconds M_powers M_logarithms M_forms M_elements M_mixer M_data M_waiting M_master M_counts M_line M_length M_sent M_state M_places M_least M_row M_rowSize M_differ M_blocks M_marks M_wrongs M_bytes M_rights M_tells M_lastMaster M_lastCounts M_word M_values M_system M_solved M_wrong : Value) (M_depth : Int32) (M_fill : Int32) : va_W := [(qM, .inr (11, [M_thrown, .int M_depth, .int M_fill, M_half, M_pattern, M_craft, M_begins, M_firsts, M_seconds, M_powers, M_logarithms, M_forms, M_elements, M_mixer, M_data, M_waiting, M_master, M_counts, M_line, M_length, M_sent, M_state, M_places, M_least, M_row, M_rowSize, M_differ, M_blocks, M_marks, M_wrongs, M_bytes, M_rights, M_tells, M_lastMaster, M_lastCounts, M_word, M_values, M_system, M_solved, M_wrong]))]
def f_Mo_blockSize (M_depth : Int32) (M_fill : Int32) : Option (Int32) :=
  bd (f_Mo_wordSize M_fill) fun u2 =>
  nm u2 fun r1 =>
  some (M_depth * r1)
set_option maxHeartbeats 4000000 in
set_option maxRecDepth 100000 in
theorem c_Mo_blockSize (l : Launch) (D : va_G) (cI cJ : ClassId) (tt : Nat → Nat) (qM : Nat) (M_thrown M_half M_pattern M_craft M_begins M_firsts M_seconds M_powers M_logarithms M_forms M_elements M_mixer M_data M_waiting M_master M_counts M_line M_length M_sent M_state M_places M_least M_row M_rowSize M_differ M_blocks M_marks M_wrongs M_bytes M_rights M_tells M_lastMaster M_lastCounts M_word M_values M_system M_solved M_wrong : Value) (sz : Nat) (M_depth : Int32) (M_fill : Int32) (rr : Int32) (hm : f_Mo_blockSize M_depth M_fill = some rr) : CTi l y_Mo_blockSize b_Mo_blockSize 1 (some .int) (RM 1 20) D cI cJ tt [.ref qM] (w_Mo_blockSize cI cJ qM M_thrown M_half M_pattern M_craft M_begins M_firsts M_seconds M_powers M_logarithms M_forms M_elements M_mixer M_data M_waiting M_master M_counts M_line M_length M_sent M_state M_places M_least M_row M_rowSize M_differ M_blocks M_marks M_wrongs M_bytes M_rights M_tells M_lastMaster M_lastCounts M_word M_values M_system M_solved M_wrong M_depth M_fill) (w_Mo_blockSize cI cJ qM M_thrown M_half M_pattern M_craft M_begins M_firsts M_seconds M_powers M_logarithms M_forms M_elements M_mixer M_data M_waiting M_master M_counts M_line M_length M_sent M_state M_places M_least M_row M_rowSize M_differ M_blocks M_marks M_wrongs M_bytes M_rights M_tells M_lastMaster M_lastCounts M_word M_values M_system M_solved M_wrong M_depth M_fill) sz rr := by
  refine Met.ofW (cc := b_Mo_blockSize) (maxL := 1) (ret := (some .int)) (by decide) rfl ?_
  intro p e s m args below meth c s₁ B hml hv
  obtain ⟨hargs, hsz, hP, hK, hD0, hE⟩ := hv
  have hx := B.exec
  have hb := B.bytes
  have hr := B.returns
  have hts : ∀ w ∈ TB, w.before args s = true := z_mV s (atoms_spec (ws := WD y_Mo_blockSize b_Mo_blockSize 1 (some .int)) B.pre)
  have hown : s.vm.findClass "DeepChannelModel" = some m.cls := findClass_of_methodNamed B.named
  have hlocks := B.notSynchronized
  subst hsz
  have hD := hD0.self (sz := s.heap.size)
  generalize hAe : va_A (w_Mo_blockSize cI cJ qM M_thrown M_half M_pattern M_craft M_begins M_firsts M_seconds M_powers M_logarithms M_forms M_elements M_mixer M_data M_waiting M_master M_counts M_line M_length M_sent M_state M_places M_least M_row M_rowSize M_differ M_blocks M_marks M_wrongs M_bytes M_rights M_tells M_lastMaster M_lastCounts M_word M_values M_system M_solved M_wrong M_depth M_fill) s.heap.size = A at hD hE ⊢
  have hA : ∀ q : Nat, s.heap.size ≤ q → A q := fun q h => by rw [← hAe]; exact Or.inr h
  have hS : va_S A s.heap s.heap [] := va_S.rf
  refine z_entry (vs := [.ref qM]) hargs (Nat.le_of_ble_eq_true rfl) (fun ls hl => ?_)
  have hl : lv_has ls 1 [(0, .ref qM)] := hl
  show W p l e (RM 1 20) s m args below meth c s.heap [] 0 0 _ _
  refine z_qi (fun Q0 hQ => ?_)
  have F : CallFix p m c b_Mo_blockSize 1 s args TB "DeepChannelModel" := ⟨hx, hb, hml, hown, hts⟩
  unfold f_Mo_blockSize at hm
  refine lv_aload_n hx hb d_Mo_blockSize_0 rfl (lv_at hl 0 rfl) ?_
  refine va_get (D := D) (ci := 11) (v := .int M_depth) (C := "DeepChannelModel") (T := fT_Mo) (N := 40) hx hb hts u_Mo hown hK hP 0 rfl rfl 1 (by decide) (hts _ k_887) (fun _ h9 => h9) rfl d_Mo_blockSize_1 ?_
  refine lv_aload_n hx hb d_Mo_blockSize_4 rfl (lv_at hl 0 rfl) ?_
  obtain ⟨r1, hu, hm⟩ := bd_el hm
  replace hm := nm_1 hm
  refine z_cVi (wc := w_Mo_wordSize cI cJ qM M_thrown (.int M_depth) M_half M_pattern M_craft M_begins M_firsts M_seconds M_powers M_logarithms M_forms M_elements M_mixer M_data M_waiting M_master M_counts M_line M_length M_sent M_state M_places M_least M_row M_rowSize M_differ M_blocks M_marks M_wrongs M_bytes M_rights M_tells M_lastMaster M_lastCounts M_word M_values M_system M_solved M_wrong M_fill) (wc' := w_Mo_wordSize cI cJ qM M_thrown (.int M_depth) M_half M_pattern M_craft M_begins M_firsts M_seconds M_powers M_logarithms M_forms M_elements M_mixer M_data M_waiting M_master M_counts M_line M_length M_sent M_state M_places M_least M_row M_rowSize M_differ M_blocks M_marks M_wrongs M_bytes M_rights M_tells M_lastMaster M_lastCounts M_word M_values M_system M_solved M_wrong M_fill) (wr := []) (As := []) (rest := [.int M_depth]) (c_Mo_wordSize l D cI cJ tt qM M_thrown (.int M_depth) M_half M_pattern M_craft M_begins M_firsts M_seconds M_powers M_logarithms M_forms M_elements M_mixer M_data M_waiting M_master M_counts M_line M_length M_sent M_state M_places M_least M_row M_rowSize M_differ M_blocks M_marks M_wrongs M_bytes M_rights M_tells M_lastMaster M_lastCounts M_word M_values M_system M_solved M_wrong _ M_fill r1 hu) F ok_Mo_wordSize rfl k_1030 hK hE hP hD hS hA [0] [] rfl rfl (by decide) (by decide) (by decide) 0 rfl rfl rfl ⟨rfl, rfl, Nat.le_of_ble_eq_true rfl, Nat.le_of_ble_eq_true rfl⟩ ⟨Nat.zero_le _, Nat.zero_le _⟩ rfl hl.1 rfl (Nat.le_of_ble_eq_true rfl) d_Mo_blockSize_5 (fun H locs hP hD hS => ?_)
  have hP : va_P D classes (w_Mo_blockSize cI cJ qM M_thrown M_half M_pattern M_craft M_begins M_firsts M_seconds M_powers M_logarithms M_forms M_elements M_mixer M_data M_waiting M_master M_counts M_line M_length M_sent M_state M_places M_least M_row M_rowSize M_differ M_blocks M_marks M_wrongs M_bytes M_rights M_tells M_lastMaster M_lastCounts M_word M_values M_system M_solved M_wrong M_depth M_fill) H := hP.sub [0] rfl
  have hD : va_D A (w_Mo_blockSize cI cJ qM M_thrown M_half M_pattern M_craft M_begins M_firsts M_seconds M_powers M_logarithms M_forms M_elements M_mixer M_data M_waiting M_master M_counts M_line M_length M_sent M_state M_places M_least M_row M_rowSize M_differ M_blocks M_marks M_wrongs M_bytes M_rights M_tells M_lastMaster M_lastCounts M_word M_values M_system M_solved M_wrong M_depth M_fill) := hD.sub [0] (by decide) rfl
  refine lv_imul hx hb d_Mo_blockSize_8 ?_
  cases hm
  exact z_qo hQ (z_ireti hr hx hb hlocks hK hP hD hS d_Mo_blockSize_9)
-- DeepChannelModel.frameSize()I
abbrev b_Mo_frameSize : ByteArray := prog_13_method_11_code
abbrev y_Mo_frameSize : MethodName := ⟨"DeepChannelModel", "frameSize", "()I"⟩
theorem d_Mo_frameSize_0 : decode b_Mo_frameSize 0 = .ok (.aload_n 0, 1) := by decide +kernel
theorem d_Mo_frameSize_1 : decode b_Mo_frameSize 1 = .ok (.getfield 7, 3) := by decide +kernel
theorem d_Mo_frameSize_4 : decode b_Mo_frameSize 4 = .ok (.aload_n 0, 1) := by decide +kernel
theorem d_Mo_frameSize_5 : decode b_Mo_frameSize 5 = .ok (.invokevirtual 110, 3) := by decide +kernel
theorem d_Mo_frameSize_8 : decode b_Mo_frameSize 8 = .ok (.iconst 2, 1) := by decide +kernel
theorem d_Mo_frameSize_9 : decode b_Mo_frameSize 9 = .ok (.aload_n 0, 1) := by decide +kernel
theorem d_Mo_frameSize_10 : decode b_Mo_frameSize 10 = .ok (.getfield 16, 3) := by decide +kernel
theorem d_Mo_frameSize_13 : decode b_Mo_frameSize 13 = .ok (.imul, 1) := by decide +kernel
theorem d_Mo_frameSize_14 : decode b_Mo_frameSize 14 = .ok (.isub, 1) := by decide +kernel
theorem d_Mo_frameSize_15 : decode b_Mo_frameSize 15 = .ok (.imul, 1) := by decide +kernel
theorem d_Mo_frameSize_16 : decode b_Mo_frameSize 16 = .ok (.ireturn, 1) := by decide +kernel
theorem ok_Mo_frameSize : OKv y_Mo_frameSize b_Mo_frameSize 1 (some .int) "DeepChannelModel" 0 := ⟨k_1029, k_1028, k_17, k_55, by decide +kernel, by decide +kernel, by decide +kernel⟩
abbrev w_Mo_frameSize (cI cJ : ClassId) (qM : Nat) (M_thrown M_pattern M_craft M_begins M_firsts M_seconds M_powers M_logarithms M_forms M_elements M_mixer M_data M_waiting M_master M_counts M_line M_length M_sent M_state M_places M_least M_row M_rowSize M_differ M_blocks M_marks M_wrongs M_bytes M_rights M_tells M_lastMaster M_lastCounts M_word M_values M_system M_solved M_wrong : Value) (M_depth : Int32) (M_fill : Int32) (M_half : Int32) : va_W := [(qM, .inr (11, [M_thrown, .int M_depth, .int M_fill, .int M_half, M_pattern, M_craft, M_begins, M_firsts, M_seconds, M_powers, M_logarithms, M_forms, M_elements, M_mixer, M_data, M_waiting, M_master, M_counts, M_line, M_length, M_sent, M_state, M_places, M_least, M_row, M_rowSize, M_differ, M_blocks, M_marks, M_wrongs, M_bytes, M_rights, M_tells, M_lastMaster, M_lastCounts, M_word, M_values, M_system, M_solved, M_wrong]))]
def f_Mo_frameSize (M_depth : Int32) (M_fill : Int32) (M_half : Int32) : Option (Int32) :=
  bd (f_Mo_wordSize M_fill) fun u2 =>
  nm u2 fun r1 =>
  some (M_depth * (r1 - ((2 : Int32) * M_half)))
set_option maxHeartbeats 4000000 in
set_option maxRecDepth 100000 in
theorem c_Mo_frameSize (l : Launch) (D : va_G) (cI cJ : ClassId) (tt : Nat → Nat) (qM : Nat) (M_thrown M_pattern M_craft M_begins M_firsts M_seconds M_powers M_logarithms M_forms M_elements M_mixer M_data M_waiting M_master M_counts M_line M_length M_sent M_state M_places M_least M_row M_rowSize M_differ M_blocks M_marks M_wrongs M_bytes M_rights M_tells M_lastMaster M_lastCounts M_word M_values M_system M_solved M_wrong : Value) (sz : Nat) (M_depth : Int32) (M_fill : Int32) (M_half : Int32) (rr : Int32) (hm : f_Mo_frameSize M_depth M_fill M_half = some rr) : CTi l y_Mo_frameSize b_Mo_frameSize 1 (some .int) (RM 1 20) D cI cJ tt [.ref qM] (w_Mo_frameSize cI cJ qM M_thrown M_pattern M_craft M_begins M_firsts M_seconds M_powers M_logarithms M_forms M_elements M_mixer M_data M_waiting M_master M_counts M_line M_length M_sent M_state M_places M_least M_row M_rowSize M_differ M_blocks M_marks M_wrongs M_bytes M_rights M_tells M_lastMaster M_lastCounts M_word M_values M_system M_solved M_wrong M_depth M_fill M_half) (w_Mo_frameSize cI cJ qM M_thrown M_pattern M_craft M_begins M_firsts M_seconds M_powers M_logarithms M_forms M_elements M_mixer M_data M_waiting M_master M_counts M_line M_length M_sent M_state M_places M_least M_row M_rowSize M_differ M_blocks M_marks M_wrongs M_bytes M_rights M_tells M_lastMaster M_lastCounts M_word M_values M_system M_solved M_wrong M_depth M_fill M_half) sz rr := by
  refine Met.ofW (cc := b_Mo_frameSize) (maxL := 1) (ret := (some .int)) (by decide) rfl ?_
  intro p e s m args below meth c s₁ B hml hv
  obtain ⟨hargs, hsz, hP, hK, hD0, hE⟩ := hv
  have hx := B.exec
  have hb := B.bytes
  have hr := B.returns
  have hts : ∀ w ∈ TB, w.before args s = true := z_mV s (atoms_spec (ws := WD y_Mo_frameSize b_Mo_frameSize 1 (some .int)) B.pre)
  have hown : s.vm.findClass "DeepChannelModel" = some m.cls := findClass_of_methodNamed B.named
  have hlocks := B.notSynchronized
  subst hsz
  have hD := hD0.self (sz := s.heap.size)
  generalize hAe : va_A (w_Mo_frameSize cI cJ qM M_thrown M_pattern M_craft M_begins M_firsts M_seconds M_powers M_logarithms M_forms M_elements M_mixer M_data M_waiting M_master M_counts M_line M_length M_sent M_state M_places M_least M_row M_rowSize M_differ M_blocks M_marks M_wrongs M_bytes M_rights M_tells M_lastMaster M_lastCounts M_word M_values M_system M_solved M_wrong M_depth M_fill M_half) s.heap.size = A at hD hE ⊢
  have hA : ∀ q : Nat, s.heap.size ≤ q → A q := fun q h => by rw [← hAe]; exact Or.inr h
  have hS : va_S A s.heap s.heap [] := va_S.rf
  refine z_entry (vs := [.ref qM]) hargs (Nat.le_of_ble_eq_true rfl) (fun ls hl => ?_)
  have hl : lv_has ls 1 [(0, .ref qM)] := hl
  show W p l e (RM 1 20) s m args below meth c s.heap [] 0 0 _ _
  refine z_qi (fun Q0 hQ => ?_)
  have F : CallFix p m c b_Mo_frameSize 1 s args TB "DeepChannelModel" := ⟨hx, hb, hml, hown, hts⟩
  unfold f_Mo_frameSize at hm
  refine lv_aload_n hx hb d_Mo_frameSize_0 rfl (lv_at hl 0 rfl) ?_
  refine va_get (D := D) (ci := 11) (v := .int M_depth) (C := "DeepChannelModel") (T := fT_Mo) (N := 40) hx hb hts u_Mo hown hK hP 0 rfl rfl 1 (by decide) (hts _ k_887) (fun _ h9 => h9) rfl d_Mo_frameSize_1 ?_
  refine lv_aload_n hx hb d_Mo_frameSize_4 rfl (lv_at hl 0 rfl) ?_
  obtain ⟨r1, hu, hm⟩ := bd_el hm
  replace hm := nm_1 hm
  refine z_cVi (wc := w_Mo_wordSize cI cJ qM M_thrown (.int M_depth) (.int M_half) M_pattern M_craft M_begins M_firsts M_seconds M_powers M_logarithms M_forms M_elements M_mixer M_data M_waiting M_master M_counts M_line M_length M_sent M_state M_places M_least M_row M_rowSize M_differ M_blocks M_marks M_wrongs M_bytes M_rights M_tells M_lastMaster M_lastCounts M_word M_values M_system M_solved M_wrong M_fill) (wc' := w_Mo_wordSize cI cJ qM M_thrown (.int M_depth) (.int M_half) M_pattern M_craft M_begins M_firsts M_seconds M_powers M_logarithms M_forms M_elements M_mixer M_data M_waiting M_master M_counts M_line M_length M_sent M_state M_places M_least M_row M_rowSize M_differ M_blocks M_marks M_wrongs M_bytes M_rights M_tells M_lastMaster M_lastCounts M_word M_values M_system M_solved M_wrong M_fill) (wr := []) (As := []) (rest := [.int M_depth]) (c_Mo_wordSize l D cI cJ tt qM M_thrown (.int M_depth) (.int M_half) M_pattern M_craft M_begins M_firsts M_seconds M_powers M_logarithms M_forms M_elements M_mixer M_data M_waiting M_master M_counts M_line M_length M_sent M_state M_places M_least M_row M_rowSize M_differ M_blocks M_marks M_wrongs M_bytes M_rights M_tells M_lastMaster M_lastCounts M_word M_values M_system M_solved M_wrong _ M_fill r1 hu) F ok_Mo_wordSize rfl k_1030 hK hE hP hD hS hA [0] [] rfl rfl (by decide) (by decide) (by decide) 0 rfl rfl rfl ⟨rfl, rfl, Nat.le_of_ble_eq_true rfl, Nat.le_of_ble_eq_true rfl⟩ ⟨Nat.zero_le _, Nat.zero_le _⟩ rfl hl.1 rfl (Nat.le_of_ble_eq_true rfl) d_Mo_frameSize_5 (fun H locs hP hD hS => ?_)
  have hP : va_P D classes (w_Mo_frameSize cI cJ qM M_thrown M_pattern M_craft M_begins M_firsts M_seconds M_powers M_logarithms M_forms M_elements M_mixer M_data M_waiting M_master M_counts M_line M_length M_sent M_state M_places M_least M_row M_rowSize M_differ M_blocks M_marks M_wrongs M_bytes M_rights M_tells M_lastMaster M_lastCounts M_word M_values M_system M_solved M_wrong M_depth M_fill M_half) H := hP.sub [0] rfl
  have hD : va_D A (w_Mo_frameSize cI cJ qM M_thrown M_pattern M_craft M_begins M_firsts M_seconds M_powers M_logarithms M_forms M_elements M_mixer M_data M_waiting M_master M_counts M_line M_length M_sent M_state M_places M_least M_row M_rowSize M_differ M_blocks M_marks M_wrongs M_bytes M_rights M_tells M_lastMaster M_lastCounts M_word M_values M_system M_solved M_wrong M_depth M_fill M_half) := hD.sub [0] (by decide) rfl
  refine lv_iconst (v := (2 : Int32)) hx hb d_Mo_frameSize_8 (by decide) ?_
  refine lv_aload_n hx hb d_Mo_frameSize_9 rfl (lv_at hl 0 rfl) ?_
  refine va_get (D := D) (ci := 11) (v := .int M_half) (C := "DeepChannelModel") (T := fT_Mo) (N := 40) hx hb hts u_Mo hown hK hP 0 rfl rfl 3 (by decide) (hts _ k_889) (fun _ h9 => h9) rfl d_Mo_frameSize_10 ?_
  refine lv_imul hx hb d_Mo_frameSize_13 ?_
  refine lv_isub hx hb d_Mo_frameSize_14 ?_
  refine lv_imul hx hb d_Mo_frameSize_15 ?_
  cases hm
  exact z_qo hQ (z_ireti hr hx hb hlocks hK hP hD hS d_Mo_frameSize_16)
-- DeepChannelModel.forget()V
abbrev b_Mo_forget : ByteArray := prog_13_method_12_code
abbrev y_Mo_forget : MethodName := ⟨"DeepChannelModel", "forget", "()V"⟩
theorem d_Mo_forget_0 : decode b_Mo_forget 0 = .ok (.aload_n 0, 1) := by decide +kernel
theorem d_Mo_forget_1 : decode b_Mo_forget 1 = .ok (.iconst 0, 1) := by decide +kernel
theorem d_Mo_forget_2 : decode b_Mo_forget 2 = .ok (.putfield 114, 3) := by decide +kernel
theorem d_Mo_forget_5 : decode b_Mo_forget 5 = .ok (.aload_n 0, 1) := by decide +kernel
theorem d_Mo_forget_6 : decode b_Mo_forget 6 = .ok (.iconst 0, 1) := by decide +kernel
theorem d_Mo_forget_7 : decode b_Mo_forget 7 = .ok (.putfield 117, 3) := by decide +kernel
theorem d_Mo_forget_10 : decode b_Mo_forget 10 = .ok (.aload_n 0, 1) := by decide +kernel
theorem d_Mo_forget_11 : decode b_Mo_forget 11 = .ok (.iconst 0, 1) := by decide +kernel
theorem d_Mo_forget_12 : decode b_Mo_forget 12 = .ok (.putfield 120, 3) := by decide +kernel
theorem d_Mo_forget_15 : decode b_Mo_forget 15 = .ok (.aload_n 0, 1) := by decide +kernel
theorem d_Mo_forget_16 : decode b_Mo_forget 16 = .ok (.iconst 0, 1) := by decide +kernel
theorem d_Mo_forget_17 : decode b_Mo_forget 17 = .ok (.putfield 123, 3) := by decide +kernel
theorem d_Mo_forget_20 : decode b_Mo_forget 20 = .ok (.aload_n 0, 1) := by decide +kernel
theorem d_Mo_forget_21 : decode b_Mo_forget 21 = .ok (.iconst 0, 1) := by decide +kernel
theorem d_Mo_forget_22 : decode b_Mo_forget 22 = .ok (.putfield 126, 3) := by decide +kernel
theorem d_Mo_forget_25 : decode b_Mo_forget 25 = .ok (.aload_n 0, 1) := by decide +kernel
theorem d_Mo_forget_26 : decode b_Mo_forget 26 = .ok (.iconst 0, 1) := by decide +kernel
theorem d_Mo_forget_27 : decode b_Mo_forget 27 = .ok (.putfield 129, 3) := by decide +kernel
theorem d_Mo_forget_30 : decode b_Mo_forget 30 = .ok (.aload_n 0, 1) := by decide +kernel
theorem d_Mo_forget_31 : decode b_Mo_forget 31 = .ok (.iconst 0, 1) := by decide +kernel
theorem d_Mo_forget_32 : decode b_Mo_forget 32 = .ok (.putfield 132, 3) := by decide +kernel
theorem d_Mo_forget_35 : decode b_Mo_forget 35 = .ok (.aload_n 0, 1) := by decide +kernel
theorem d_Mo_forget_36 : decode b_Mo_forget 36 = .ok (.iconst 0, 1) := by decide +kernel
theorem d_Mo_forget_37 : decode b_Mo_forget 37 = .ok (.putfield 135, 3) := by decide +kernel
theorem d_Mo_forget_40 : decode b_Mo_forget 40 = .ok (.iconst 0, 1) := by decide +kernel
theorem d_Mo_forget_41 : decode b_Mo_forget 41 = .ok (.istore_n 1, 1) := by decide +kernel
theorem d_Mo_forget_42 : decode b_Mo_forget 42 = .ok (.iload_n 1, 1) := by decide +kernel
theorem d_Mo_forget_43 : decode b_Mo_forget 43 = .ok (.bipush 8, 2) := by decide +kernel
theorem d_Mo_forget_45 : decode b_Mo_forget 45 = .ok (.if_icmp .ge 16, 3) := by decide +kernel
theorem d_Mo_forget_48 : decode b_Mo_forget 48 = .ok (.aload_n 0, 1) := by decide +kernel
theorem d_Mo_forget_49 : decode b_Mo_forget 49 = .ok (.getfield 47, 3) := by decide +kernel
theorem d_Mo_forget_52 : decode b_Mo_forget 52 = .ok (.iload_n 1, 1) := by decide +kernel
theorem d_Mo_forget_53 : decode b_Mo_forget 53 = .ok (.iconst 0, 1) := by decide +kernel
theorem d_Mo_forget_54 : decode b_Mo_forget 54 = .ok (.iastore, 1) := by decide +kernel
theorem d_Mo_forget_55 : decode b_Mo_forget 55 = .ok (.iinc 1 1, 3) := by decide +kernel
theorem d_Mo_forget_58 : decode b_Mo_forget 58 = .ok (.goto (-16), 3) := by decide +kernel
theorem d_Mo_forget_61 : decode b_Mo_forget 61 = .ok (.return_, 1) := by decide +kernel
theorem ok_Mo_forget : OKv y_Mo_forget b_Mo_forget 2 none "DeepChannelModel" 0 := ⟨k_885, k_884, k_16, k_55, by decide +kernel, by decide +kernel, by decide +kernel⟩
abbrev w_Mo_forget (cI cJ : ClassId) (qM qM_counts : Nat) (M_thrown M_depth M_fill M_half M_pattern M_craft M_begins M_firsts M_seconds M_powers M_logarithms M_forms M_elements M_mixer M_data M_line M_places M_least M_row M_marks M_wrongs M_bytes M_rights M_tells M_lastMaster M_lastCounts M_word M_values M_system M_solved M_wrong : Value) (M_waiting : Int32) (M_master : Int32) (M_length : Int32) (M_sent : Int32) (M_state : Int32) (M_rowSize : Int32) (M_differ : Int32) (M_blocks : Int32) (M_counts : Nat → Int32) : va_W := [(qM, .inr (11, [M_thrown, M_depth, M_fill, M_half, M_pattern, M_craft, M_begins, M_firsts, M_seconds, M_powers, M_logarithms, M_forms, M_elements, M_mixer, M_data, .int M_waiting, .int M_master, .ref qM_counts, M_line, .int M_length, .int M_sent, .int M_state, M_places, M_least, M_row, .int M_rowSize, .int M_differ, .int M_blocks, M_marks, M_wrongs, M_bytes, M_rights, M_tells, M_lastMaster, M_lastCounts, M_word, M_values, M_system, M_solved, M_wrong])), (qM_counts, .inl (cI, 8, .inl M_counts))]
def f_Mo_forget_42_b  (kh42 : Int32 → Int32 → Int32 → Int32 → Int32 → Int32 → Int32 → Int32 → Int32 → (Nat → Int32) → Option (Int32 × Int32 × Int32 × Int32 × Int32 × Int32 × Int32 × Int32 × (Nat → Int32))) (x1 : Int32) (M_waiting : Int32) (M_master : Int32) (M_length : Int32) (M_sent : Int32) (M_state : Int32) (M_rowSize : Int32) (M_differ : Int32) (M_blocks : Int32) (M_counts : Nat → Int32) : Option (Int32 × Int32 × Int32 × Int32 × Int32 × Int32 × Int32 × Int32 × (Nat → Int32)) :=
  if (8 : Int32) ≤ x1 then
    some (M_waiting, M_master, M_length, M_sent, M_state, M_rowSize, M_differ, M_blocks, M_counts)
  else
  wrI M_counts 8 x1 (0 : Int32) fun g1 =>
  nm (x1 + (1 : Int32)) fun v2 =>
  kh42 v2 M_waiting M_master M_length M_sent M_state M_rowSize M_differ M_blocks g1
def f_Mo_forget_42  : Nat → Int32 → Int32 → Int32 → Int32 → Int32 → Int32 → Int32 → Int32 → Int32 → (Nat → Int32) → Option (Int32 × Int32 × Int32 × Int32 × Int32 × Int32 × Int32 × Int32 × (Nat → Int32))
  | 0 => fun _ _ _ _ _ _ _ _ _ _ => none
  | n + 1 => fun x1 M_waiting M_master M_length M_sent M_state M_rowSize M_differ M_blocks M_counts => f_Mo_forget_42_b (f_Mo_forget_42 n) x1 M_waiting M_master M_length M_sent M_state M_rowSize M_differ M_blocks M_counts
def f_Mo_forget (M_waiting : Int32) (M_master : Int32) (M_length : Int32) (M_sent : Int32) (M_state : Int32) (M_rowSize : Int32) (M_differ : Int32) (M_blocks : Int32) (M_counts : Nat → Int32) : Option (Int32 × Int32 × Int32 × Int32 × Int32 × Int32 × Int32 × Int32 × (Nat → Int32)) :=
  f_Mo_forget_42 10000 (0 : Int32) (0 : Int32) (0 : Int32) (0 : Int32) (0 : Int32) (0 : Int32) (0 : Int32) (0 : Int32) (0 : Int32) M_counts
set_option maxHeartbeats 4000000 in
set_option maxRecDepth 100000 in
theorem c_Mo_forget (l : Launch) (D : va_G) (cI cJ : ClassId) (tt : Nat → Nat) (qM qM_counts : Nat) (M_thrown M_depth M_fill M_half M_pattern M_craft M_begins M_firsts M_seconds M_powers M_logarithms M_forms M_elements M_mixer M_data M_line M_places M_least M_row M_marks M_wrongs M_bytes M_rights M_tells M_lastMaster M_lastCounts M_word M_values M_system M_solved M_wrong : Value) (sz : Nat) (M_waiting : Int32) (M_master : Int32) (M_length : Int32) (M_sent : Int32) (M_state : Int32) (M_rowSize : Int32) (M_differ : Int32) (M_blocks : Int32) (M_counts : Nat → Int32) (M_waiting' : Int32) (M_master' : Int32) (M_length' : Int32) (M_sent' : Int32) (M_state' : Int32) (M_rowSize' : Int32) (M_differ' : Int32) (M_blocks' : Int32) (M_counts' : Nat → Int32) (hm : f_Mo_forget M_waiting M_master M_length M_sent M_state M_rowSize M_differ M_blocks M_counts = some (M_waiting', M_master', M_length', M_sent', M_state', M_rowSize', M_differ', M_blocks', M_counts')) : CTv l y_Mo_forget b_Mo_forget 2 none (RM 0 0) D cI cJ tt [.ref qM] (w_Mo_forget cI cJ qM qM_counts M_thrown M_depth M_fill M_half M_pattern M_craft M_begins M_firsts M_seconds M_powers M_logarithms M_forms M_elements M_mixer M_data M_line M_places M_least M_row M_marks M_wrongs M_bytes M_rights M_tells M_lastMaster M_lastCounts M_word M_values M_system M_solved M_wrong M_waiting M_master M_length M_sent M_state M_rowSize M_differ M_blocks M_counts) (w_Mo_forget cI cJ qM qM_counts M_thrown M_depth M_fill M_half M_pattern M_craft M_begins M_firsts M_seconds M_powers M_logarithms M_forms M_elements M_mixer M_data M_line M_places M_least M_row M_marks M_wrongs M_bytes M_rights M_tells M_lastMaster M_lastCounts M_word M_values M_system M_solved M_wrong M_waiting' M_master' M_length' M_sent' M_state' M_rowSize' M_differ' M_blocks' M_counts') sz := by
  refine Met.ofW (cc := b_Mo_forget) (maxL := 2) (ret := none) (by decide) rfl ?_
  intro p e s m args below meth c s₁ B hml hv
  obtain ⟨hargs, hsz, hP, hK, hD0, hE⟩ := hv
  have hx := B.exec
  have hb := B.bytes
  have hr := B.returns
  have hts : ∀ w ∈ TB, w.before args s = true := z_mV s (atoms_spec (ws := WD y_Mo_forget b_Mo_forget 2 none) B.pre)
  have hown : s.vm.findClass "DeepChannelModel" = some m.cls := findClass_of_methodNamed B.named
  have hlocks := B.notSynchronized
  subst hsz
  have hD := hD0.self (sz := s.heap.size)
  generalize hAe : va_A (w_Mo_forget cI cJ qM qM_counts M_thrown M_depth M_fill M_half M_pattern M_craft M_begins M_firsts M_seconds M_powers M_logarithms M_forms M_elements M_mixer M_data M_line M_places M_least M_row M_marks M_wrongs M_bytes M_rights M_tells M_lastMaster M_lastCounts M_word M_values M_system M_solved M_wrong M_waiting M_master M_length M_sent M_state M_rowSize M_differ M_blocks M_counts) s.heap.size = A at hD hE ⊢
  have hA : ∀ q : Nat, s.heap.size ≤ q → A q := fun q h => by rw [← hAe]; exact Or.inr h
  have hS : va_S A s.heap s.heap [] := va_S.rf
  refine z_entry (vs := [.ref qM]) hargs (Nat.le_of_ble_eq_true rfl) (fun ls hl => ?_)
  have hl : lv_has ls 2 [(0, .ref qM)] := hl
  show W p l e (RM 0 0) s m args below meth c s.heap [] 0 0 _ _
  refine z_qi (fun Q0 hQ => ?_)
  have F : CallFix p m c b_Mo_forget 2 s args TB "DeepChannelModel" := ⟨hx, hb, hml, hown, hts⟩
  have T42 : ∀ (n42 : Nat) (x1 : Int32) (M_waiting : Int32) (M_master : Int32) (M_length : Int32) (M_sent : Int32) (M_state : Int32) (M_rowSize : Int32) (M_differ : Int32) (M_blocks : Int32) (M_counts : Nat → Int32), f_Mo_forget_42 n42 x1 M_waiting M_master M_length M_sent M_state M_rowSize M_differ M_blocks M_counts = some (M_waiting', M_master', M_length', M_sent', M_state', M_rowSize', M_differ', M_blocks', M_counts') → ∀ (H : Heap) (locs : List Loc), va_P D classes (w_Mo_forget cI cJ qM qM_counts M_thrown M_depth M_fill M_half M_pattern M_craft M_begins M_firsts M_seconds M_powers M_logarithms M_forms M_elements M_mixer M_data M_line M_places M_least M_row M_marks M_wrongs M_bytes M_rights M_tells M_lastMaster M_lastCounts M_word M_values M_system M_solved M_wrong M_waiting M_master M_length M_sent M_state M_rowSize M_differ M_blocks M_counts) H → va_D A (w_Mo_forget cI cJ qM qM_counts M_thrown M_depth M_fill M_half M_pattern M_craft M_begins M_firsts M_seconds M_powers M_logarithms M_forms M_elements M_mixer M_data M_line M_places M_least M_row M_marks M_wrongs M_bytes M_rights M_tells M_lastMaster M_lastCounts M_word M_values M_system M_solved M_wrong M_waiting M_master M_length M_sent M_state M_rowSize M_differ M_blocks M_counts) → va_S A s.heap H locs → ∀ (ls : Array Slot), lv_has ls 2 [(0, .ref qM), (1, .int x1)] → W p l e (RM 0 0) s m args below meth c H locs 0 0 Q0 (F0 m 42 ls []) := by
    intro n42
    induction n42 with
    | zero => intro x1 M_waiting M_master M_length M_sent M_state M_rowSize M_differ M_blocks M_counts hm; cases hm
    | succ n42 ih42 =>
      intro x1 M_waiting M_master M_length M_sent M_state M_rowSize M_differ M_blocks M_counts hm H locs hP hD hS ls hl
      replace hm : f_Mo_forget_42_b (f_Mo_forget_42 n42) x1 M_waiting M_master M_length M_sent M_state M_rowSize M_differ M_blocks M_counts = some (M_waiting', M_master', M_length', M_sent', M_state', M_rowSize', M_differ', M_blocks', M_counts') := hm
      unfold f_Mo_forget_42_b at hm
      refine lv_iload_n hx hb d_Mo_forget_42 rfl (lv_at hl 1 rfl) ?_
      refine lv_bipush (v := (8 : Int32)) hx hb d_Mo_forget_43 (by decide) ?_
      refine z_if hm (lv_icmp_ge (tgt := 61) hx hb d_Mo_forget_45 (by decide)) (fun hm => ?_) (fun hm => ?_)
      · cases hm
        exact z_qo hQ (z_vret hr hx hb hlocks hK hP hD hS d_Mo_forget_61)
      · refine lv_aload_n hx hb d_Mo_forget_48 rfl (lv_at hl 0 rfl) ?_
        refine va_get (D := D) (ci := 11) (v := .ref qM_counts) (C := "DeepChannelModel") (T := fT_Mo) (N := 40) hx hb hts u_Mo hown hK hP 0 rfl rfl 17 (by decide) (hts _ k_903) (fun _ h9 => h9) rfl d_Mo_forget_49 ?_
        refine lv_iload_n hx hb d_Mo_forget_52 rfl (lv_at hl 1 rfl) ?_
        refine lv_iconst (v := (0 : Int32)) hx hb d_Mo_forget_53 (by decide) ?_
        refine z_iast hm hx hb hK hP hD hS 1 rfl d_Mo_forget_54 (fun g1 hm H locs hP hD hS => ?_)
        have hP : va_P D classes (w_Mo_forget cI cJ qM qM_counts M_thrown M_depth M_fill M_half M_pattern M_craft M_begins M_firsts M_seconds M_powers M_logarithms M_forms M_elements M_mixer M_data M_line M_places M_least M_row M_marks M_wrongs M_bytes M_rights M_tells M_lastMaster M_lastCounts M_word M_values M_system M_solved M_wrong M_waiting M_master M_length M_sent M_state M_rowSize M_differ M_blocks g1) H := hP
        have hD : va_D A (w_Mo_forget cI cJ qM qM_counts M_thrown M_depth M_fill M_half M_pattern M_craft M_begins M_firsts M_seconds M_powers M_logarithms M_forms M_elements M_mixer M_data M_line M_places M_least M_row M_marks M_wrongs M_bytes M_rights M_tells M_lastMaster M_lastCounts M_word M_values M_system M_solved M_wrong M_waiting M_master M_length M_sent M_state M_rowSize M_differ M_blocks g1) := hD
        obtain ⟨v2, ev, hm⟩ := nm_el hm
        refine lv_iinc (v := v2) (lv' := [(1, .int v2), (0, .ref qM)]) hx hb d_Mo_forget_55 hl (k := 1) rfl (by rw [ev]; rfl) (by decide) rfl (fun ls hl => ?_)
        refine lv_goto (tgt := 42) hx hb d_Mo_forget_58 (by decide) ?_
        exact ih42 v2 M_waiting M_master M_length M_sent M_state M_rowSize M_differ M_blocks g1 hm _ _ hP hD hS _ (lv_sub hl [1, 0] rfl)
  unfold f_Mo_forget at hm
  refine lv_aload_n hx hb d_Mo_forget_0 rfl (lv_at hl 0 rfl) ?_
  refine lv_iconst (v := (0 : Int32)) hx hb d_Mo_forget_1 (by decide) ?_
  refine va_put (D := D) (ci := 11) (v := .int (0 : Int32)) (ty := .int) (C := "DeepChannelModel") (T := fT_Mo) (N := 40) hx hb hts u_Mo fY_Mo fK_Mo fN_Mo hown hK hP hD hS 0 rfl rfl 15 (by decide) (hts _ k_901) (fun _ h9 => h9) rfl (by decide +kernel) rfl rfl (Nat.le_of_ble_eq_true rfl) d_Mo_forget_2 (fun H locs hP hD hS => ?_)
  have hP : va_P D classes (w_Mo_forget cI cJ qM qM_counts M_thrown M_depth M_fill M_half M_pattern M_craft M_begins M_firsts M_seconds M_powers M_logarithms M_forms M_elements M_mixer M_data M_line M_places M_least M_row M_marks M_wrongs M_bytes M_rights M_tells M_lastMaster M_lastCounts M_word M_values M_system M_solved M_wrong (0 : Int32) M_master M_length M_sent M_state M_rowSize M_differ M_blocks M_counts) H := hP
  have hD : va_D A (w_Mo_forget cI cJ qM qM_counts M_thrown M_depth M_fill M_half M_pattern M_craft M_begins M_firsts M_seconds M_powers M_logarithms M_forms M_elements M_mixer M_data M_line M_places M_least M_row M_marks M_wrongs M_bytes M_rights M_tells M_lastMaster M_lastCounts M_word M_values M_system M_solved M_wrong (0 : Int32) M_master M_length M_sent M_state M_rowSize M_differ M_blocks M_counts) := hD
  refine lv_aload_n hx hb d_Mo_forget_5 rfl (lv_at hl 0 rfl) ?_
  refine lv_iconst (v := (0 : Int32)) hx hb d_Mo_forget_6 (by decide) ?_
  refine va_put (D := D) (ci := 11) (v := .int (0 : Int32)) (ty := .int) (C := "DeepChannelModel") (T := fT_Mo) (N := 40) hx hb hts u_Mo fY_Mo fK_Mo fN_Mo hown hK hP hD hS 0 rfl rfl 16 (by decide) (hts _ k_902) (fun _ h9 => h9) rfl (by decide +kernel) rfl rfl (Nat.le_of_ble_eq_true rfl) d_Mo_forget_7 (fun H locs hP hD hS => ?_)
  have hP : va_P D classes (w_Mo_forget cI cJ qM qM_counts M_thrown M_depth M_fill M_half M_pattern M_craft M_begins M_firsts M_seconds M_powers M_logarithms M_forms M_elements M_mixer M_data M_line M_places M_least M_row M_marks M_wrongs M_bytes M_rights M_tells M_lastMaster M_lastCounts M_word M_values M_system M_solved M_wrong (0 : Int32) (0 : Int32) M_length M_sent M_state M_rowSize M_differ M_blocks M_counts) H := hP
  have hD : va_D A (w_Mo_forget cI cJ qM qM_counts M_thrown M_depth M_fill M_half M_pattern M_craft M_begins M_firsts M_seconds M_powers M_logarithms M_forms M_elements M_mixer M_data M_line M_places M_least M_row M_marks M_wrongs M_bytes M_rights M_tells M_lastMaster M_lastCounts M_word M_values M_system M_solved M_wrong (0 : Int32) (0 : Int32) M_length M_sent M_state M_rowSize M_differ M_blocks M_counts) := hD
  refine lv_aload_n hx hb d_Mo_forget_10 rfl (lv_at hl 0 rfl) ?_
  refine lv_iconst (v := (0 : Int32)) hx hb d_Mo_forget_11 (by decide) ?_
  refine va_put (D := D) (ci := 11) (v := .int (0 : Int32)) (ty := .int) (C := "DeepChannelModel") (T := fT_Mo) (N := 40) hx hb hts u_Mo fY_Mo fK_Mo fN_Mo hown hK hP hD hS 0 rfl rfl 19 (by decide) (hts _ k_905) (fun _ h9 => h9) rfl (by decide +kernel) rfl rfl (Nat.le_of_ble_eq_true rfl) d_Mo_forget_12 (fun H locs hP hD hS => ?_)
  have hP : va_P D classes (w_Mo_forget cI cJ qM qM_counts M_thrown M_depth M_fill M_half M_pattern M_craft M_begins M_firsts M_seconds M_powers M_logarithms M_forms M_elements M_mixer M_data M_line M_places M_least M_row M_marks M_wrongs M_bytes M_rights M_tells M_lastMaster M_lastCounts M_word M_values M_system M_solved M_wrong (0 : Int32) (0 : Int32) (0 : Int32) M_sent M_state M_rowSize M_differ M_blocks M_counts) H := hP
  have hD : va_D A (w_Mo_forget cI cJ qM qM_counts M_thrown M_depth M_fill M_half M_pattern M_craft M_begins M_firsts M_seconds M_powers M_logarithms M_forms M_elements M_mixer M_data M_line M_places M_least M_row M_marks M_wrongs M_bytes M_rights M_tells M_lastMaster M_lastCounts M_word M_values M_system M_solved M_wrong (0 : Int32) (0 : Int32) (0 : Int32) M_sent M_state M_rowSize M_differ M_blocks M_counts) := hD
  refine lv_aload_n hx hb d_Mo_forget_15 rfl (lv_at hl 0 rfl) ?_
  refine lv_iconst (v := (0 : Int32)) hx hb d_Mo_forget_16 (by decide) ?_
  refine va_put (D := D) (ci := 11) (v := .int (0 : Int32)) (ty := .int) (C := "DeepChannelModel") (T := fT_Mo) (N := 40) hx hb hts u_Mo fY_Mo fK_Mo fN_Mo hown hK hP hD hS 0 rfl rfl 20 (by decide) (hts _ k_906) (fun _ h9 => h9) rfl (by decide +kernel) rfl rfl (Nat.le_of_ble_eq_true rfl) d_Mo_forget_17 (fun H locs hP hD hS => ?_)
  have hP : va_P D classes (w_Mo_forget cI cJ qM qM_counts M_thrown M_depth M_fill M_half M_pattern M_craft M_begins M_firsts M_seconds M_powers M_logarithms M_forms M_elements M_mixer M_data M_line M_places M_least M_row M_marks M_wrongs M_bytes M_rights M_tells M_lastMaster M_lastCounts M_word M_values M_system M_solved M_wrong (0 : Int32) (0 : Int32) (0 : Int32) (0 : Int32) M_state M_rowSize M_differ M_blocks M_counts) H := hP
  have hD : va_D A (w_Mo_forget cI cJ qM qM_counts M_thrown M_depth M_fill M_half M_pattern M_craft M_begins M_firsts M_seconds M_powers M_logarithms M_forms M_elements M_mixer M_data M_line M_places M_least M_row M_marks M_wrongs M_bytes M_rights M_tells M_lastMaster M_lastCounts M_word M_values M_system M_solved M_wrong (0 : Int32) (0 : Int32) (0 : Int32) (0 : Int32) M_state M_rowSize M_differ M_blocks M_counts) := hD
  refine lv_aload_n hx hb d_Mo_forget_20 rfl (lv_at hl 0 rfl) ?_
  refine lv_iconst (v := (0 : Int32)) hx hb d_Mo_forget_21 (by decide) ?_
  refine va_put (D := D) (ci := 11) (v := .int (0 : Int32)) (ty := .int) (C := "DeepChannelModel") (T := fT_Mo) (N := 40) hx hb hts u_Mo fY_Mo fK_Mo fN_Mo hown hK hP hD hS 0 rfl rfl 21 (by decide) (hts _ k_907) (fun _ h9 => h9) rfl (by decide +kernel) rfl rfl (Nat.le_of_ble_eq_true rfl) d_Mo_forget_22 (fun H locs hP hD hS => ?_)
  have hP : va_P D classes (w_Mo_forget cI cJ qM qM_counts M_thrown M_depth M_fill M_half M_pattern M_craft M_begins M_firsts M_seconds M_powers M_logarithms M_forms M_elements M_mixer M_data M_line M_places M_least M_row M_marks M_wrongs M_bytes M_rights M_tells M_lastMaster M_lastCounts M_word M_values M_system M_solved M_wrong (0 : Int32) (0 : Int32) (0 : Int32) (0 : Int32) (0 : Int32) M_rowSize M_differ M_blocks M_counts) H := hP
  have hD : va_D A (w_Mo_forget cI cJ qM qM_counts M_thrown M_depth M_fill M_half M_pattern M_craft M_begins M_firsts M_seconds M_powers M_logarithms M_forms M_elements M_mixer M_data M_line M_places M_least M_row M_marks M_wrongs M_bytes M_rights M_tells M_lastMaster M_lastCounts M_word M_values M_system M_solved M_wrong (0 : Int32) (0 : Int32) (0 : Int32) (0 : Int32) (0 : Int32) M_rowSize M_differ M_blocks M_counts) := hD
  refine lv_aload_n hx hb d_Mo_forget_25 rfl (lv_at hl 0 rfl) ?_
  refine lv_iconst (v := (0 : Int32)) hx hb d_Mo_forget_26 (by decide) ?_
  refine va_put (D := D) (ci := 11) (v := .int (0 : Int32)) (ty := .int) (C := "DeepChannelModel") (T := fT_Mo) (N := 40) hx hb hts u_Mo fY_Mo fK_Mo fN_Mo hown hK hP hD hS 0 rfl rfl 25 (by decide) (hts _ k_911) (fun _ h9 => h9) rfl (by decide +kernel) rfl rfl (Nat.le_of_ble_eq_true rfl) d_Mo_forget_27 (fun H locs hP hD hS => ?_)
  have hP : va_P D classes (w_Mo_forget cI cJ qM qM_counts M_thrown M_depth M_fill M_half M_pattern M_craft M_begins M_firsts M_seconds M_powers M_logarithms M_forms M_elements M_mixer M_data M_line M_places M_least M_row M_marks M_wrongs M_bytes M_rights M_tells M_lastMaster M_lastCounts M_word M_values M_system M_solved M_wrong (0 : Int32) (0 : Int32) (0 : Int32) (0 : Int32) (0 : Int32) (0 : Int32) M_differ M_blocks M_counts) H := hP
  have hD : va_D A (w_Mo_forget cI cJ qM qM_counts M_thrown M_depth M_fill M_half M_pattern M_craft M_begins M_firsts M_seconds M_powers M_logarithms M_forms M_elements M_mixer M_data M_line M_places M_least M_row M_marks M_wrongs M_bytes M_rights M_tells M_lastMaster M_lastCounts M_word M_values M_system M_solved M_wrong (0 : Int32) (0 : Int32) (0 : Int32) (0 : Int32) (0 : Int32) (0 : Int32) M_differ M_blocks M_counts) := hD
  refine lv_aload_n hx hb d_Mo_forget_30 rfl (lv_at hl 0 rfl) ?_
  refine lv_iconst (v := (0 : Int32)) hx hb d_Mo_forget_31 (by decide) ?_
  refine va_put (D := D) (ci := 11) (v := .int (0 : Int32)) (ty := .int) (C := "DeepChannelModel") (T := fT_Mo) (N := 40) hx hb hts u_Mo fY_Mo fK_Mo fN_Mo hown hK hP hD hS 0 rfl rfl 26 (by decide) (hts _ k_912) (fun _ h9 => h9) rfl (by decide +kernel) rfl rfl (Nat.le_of_ble_eq_true rfl) d_Mo_forget_32 (fun H locs hP hD hS => ?_)
  have hP : va_P D classes (w_Mo_forget cI cJ qM qM_counts M_thrown M_depth M_fill M_half M_pattern M_craft M_begins M_firsts M_seconds M_powers M_logarithms M_forms M_elements M_mixer M_data M_line M_places M_least M_row M_marks M_wrongs M_bytes M_rights M_tells M_lastMaster M_lastCounts M_word M_values M_system M_solved M_wrong (0 : Int32) (0 : Int32) (0 : Int32) (0 : Int32) (0 : Int32) (0 : Int32) (0 : Int32) M_blocks M_counts) H := hP
  have hD : va_D A (w_Mo_forget cI cJ qM qM_counts M_thrown M_depth M_fill M_half M_pattern M_craft M_begins M_firsts M_seconds M_powers M_logarithms M_forms M_elements M_mixer M_data M_line M_places M_least M_row M_marks M_wrongs M_bytes M_rights M_tells M_lastMaster M_lastCounts M_word M_values M_system M_solved M_wrong (0 : Int32) (0 : Int32) (0 : Int32) (0 : Int32) (0 : Int32) (0 : Int32) (0 : Int32) M_blocks M_counts) := hD
  refine lv_aload_n hx hb d_Mo_forget_35 rfl (lv_at hl 0 rfl) ?_
  refine lv_iconst (v := (0 : Int32)) hx hb d_Mo_forget_36 (by decide) ?_
  refine va_put (D := D) (ci := 11) (v := .int (0 : Int32)) (ty := .int) (C := "DeepChannelModel") (T := fT_Mo) (N := 40) hx hb hts u_Mo fY_Mo fK_Mo fN_Mo hown hK hP hD hS 0 rfl rfl 27 (by decide) (hts _ k_913) (fun _ h9 => h9) rfl (by decide +kernel) rfl rfl (Nat.le_of_ble_eq_true rfl) d_Mo_forget_37 (fun H locs hP hD hS => ?_)
  have hP : va_P D classes (w_Mo_forget cI cJ qM qM_counts M_thrown M_depth M_fill M_half M_pattern M_craft M_begins M_firsts M_seconds M_powers M_logarithms M_forms M_elements M_mixer M_data M_line M_places M_least M_row M_marks M_wrongs M_bytes M_rights M_tells M_lastMaster M_lastCounts M_word M_values M_system M_solved M_wrong (0 : Int32) (0 : Int32) (0 : Int32) (0 : Int32) (0 : Int32) (0 : Int32) (0 : Int32) (0 : Int32) M_counts) H := hP
  have hD : va_D A (w_Mo_forget cI cJ qM qM_counts M_thrown M_depth M_fill M_half M_pattern M_craft M_begins M_firsts M_seconds M_powers M_logarithms M_forms M_elements M_mixer M_data M_line M_places M_least M_row M_marks M_wrongs M_bytes M_rights M_tells M_lastMaster M_lastCounts M_word M_values M_system M_solved M_wrong (0 : Int32) (0 : Int32) (0 : Int32) (0 : Int32) (0 : Int32) (0 : Int32) (0 : Int32) (0 : Int32) M_counts) := hD
  refine lv_iconst (v := (0 : Int32)) hx hb d_Mo_forget_40 (by decide) ?_
  refine lv_istore_n (lv' := [(1, .int (0 : Int32)), (0, .ref qM)]) hx hb d_Mo_forget_41 rfl hl (by decide) rfl (fun ls hl => ?_)
  exact T42 10000 (0 : Int32) (0 : Int32) (0 : Int32) (0 : Int32) (0 : Int32) (0 : Int32) (0 : Int32) (0 : Int32) (0 : Int32) M_counts hm _ _ hP hD hS _ (lv_sub hl [1, 0] rfl)
-- DeepChannelModel.form(IIII)V
abbrev b_Mo_form : ByteArray := prog_13_method_13_code
abbrev y_Mo_form : MethodName := ⟨"DeepChannelModel", "form", "(IIII)V"⟩
theorem d_Mo_form_0 : decode b_Mo_form 0 = .ok (.aload_n 0, 1) := by decide +kernel
theorem d_Mo_form_1 : decode b_Mo_form 1 = .ok (.iload_n 1, 1) := by decide +kernel
theorem d_Mo_form_2 : decode b_Mo_form 2 = .ok (.iload_n 2, 1) := by decide +kernel
theorem d_Mo_form_3 : decode b_Mo_form 3 = .ok (.iload_n 3, 1) := by decide +kernel
theorem d_Mo_form_4 : decode b_Mo_form 4 = .ok (.iload 4, 2) := by decide +kernel
theorem d_Mo_form_6 : decode b_Mo_form 6 = .ok (.invokestatic 138, 3) := by decide +kernel
theorem d_Mo_form_9 : decode b_Mo_form 9 = .ok (.ifCond .eq 7, 3) := by decide +kernel
theorem d_Mo_form_12 : decode b_Mo_form 12 = .ok (.iconst 1, 1) := by decide +kernel
theorem d_Mo_form_13 : decode b_Mo_form 13 = .ok (.goto 4, 3) := by decide +kernel
theorem d_Mo_form_16 : decode b_Mo_form 16 = .ok (.iconst 0, 1) := by decide +kernel
theorem d_Mo_form_17 : decode b_Mo_form 17 = .ok (.putfield 103, 3) := by decide +kernel
theorem d_Mo_form_20 : decode b_Mo_form 20 = .ok (.aload_n 0, 1) := by decide +kernel
theorem d_Mo_form_21 : decode b_Mo_form 21 = .ok (.getfield 103, 3) := by decide +kernel
theorem d_Mo_form_24 : decode b_Mo_form 24 = .ok (.ifCond .ne 28, 3) := by decide +kernel
theorem d_Mo_form_27 : decode b_Mo_form 27 = .ok (.aload_n 0, 1) := by decide +kernel
theorem d_Mo_form_28 : decode b_Mo_form 28 = .ok (.iload_n 1, 1) := by decide +kernel
theorem d_Mo_form_29 : decode b_Mo_form 29 = .ok (.putfield 7, 3) := by decide +kernel
theorem d_Mo_form_32 : decode b_Mo_form 32 = .ok (.aload_n 0, 1) := by decide +kernel
theorem d_Mo_form_33 : decode b_Mo_form 33 = .ok (.iload_n 2, 1) := by decide +kernel
theorem d_Mo_form_34 : decode b_Mo_form 34 = .ok (.putfield 13, 3) := by decide +kernel
theorem d_Mo_form_37 : decode b_Mo_form 37 = .ok (.aload_n 0, 1) := by decide +kernel
theorem d_Mo_form_38 : decode b_Mo_form 38 = .ok (.iload_n 3, 1) := by decide +kernel
theorem d_Mo_form_39 : decode b_Mo_form 39 = .ok (.putfield 16, 3) := by decide +kernel
theorem d_Mo_form_42 : decode b_Mo_form 42 = .ok (.aload_n 0, 1) := by decide +kernel
theorem d_Mo_form_43 : decode b_Mo_form 43 = .ok (.iload 4, 2) := by decide +kernel
theorem d_Mo_form_45 : decode b_Mo_form 45 = .ok (.putfield 142, 3) := by decide +kernel
theorem d_Mo_form_48 : decode b_Mo_form 48 = .ok (.aload_n 0, 1) := by decide +kernel
theorem d_Mo_form_49 : decode b_Mo_form 49 = .ok (.invokevirtual 100, 3) := by decide +kernel
theorem d_Mo_form_52 : decode b_Mo_form 52 = .ok (.return_, 1) := by decide +kernel
theorem ok_Mo_form : OKv y_Mo_form b_Mo_form 5 none "DeepChannelModel" 4 := ⟨k_1014, k_1012, k_1013, k_55, by decide +kernel, by decide +kernel, by decide +kernel⟩
abbrev w_Mo_form (cI cJ : ClassId) (qM qM_counts : Nat) (M_craft M_begins M_firsts M_seconds M_powers M_logarithms M_forms M_elements M_mixer M_data M_line M_places M_least M_row M_marks M_wrongs M_bytes M_rights M_tells M_lastMaster M_lastCounts M_word M_values M_system M_solved M_wrong : Value) (M_thrown : Int32) (M_depth : Int32) (M_fill : Int32) (M_half : Int32) (M_pattern : Int32) (M_waiting : Int32) (M_master : Int32) (M_length : Int32) (M_sent : Int32) (M_state : Int32) (M_rowSize : Int32) (M_differ : Int32) (M_blocks : Int32) (M_counts : Nat → Int32) : va_W := [(qM, .inr (11, [.int M_thrown, .int M_depth, .int M_fill, .int M_half, .int M_pattern, M_craft, M_begins, M_firsts, M_seconds, M_powers, M_logarithms, M_forms, M_elements, M_mixer, M_data, .int M_waiting, .int M_master, .ref qM_counts, M_line, .int M_length, .int M_sent, .int M_state, M_places, M_least, M_row, .int M_rowSize, .int M_differ, .int M_blocks, M_marks, M_wrongs, M_bytes, M_rights, M_tells, M_lastMaster, M_lastCounts, M_word, M_values, M_system, M_solved, M_wrong])), (qM_counts, .inl (cI, 8, .inl M_counts))]
def f_Mo_form_17  (x1 : Int32) (x2 : Int32) (x3 : Int32) (x4 : Int32) (t1 : Int32) (M_thrown : Int32) (M_depth : Int32) (M_fill : Int32) (M_half : Int32) (M_pattern : Int32) (M_waiting : Int32) (M_master : Int32) (M_length : Int32) (M_sent : Int32) (M_state : Int32) (M_rowSize : Int32) (M_differ : Int32) (M_blocks : Int32) (M_counts : Nat → Int32) : Option (Int32 × Int32 × Int32 × Int32 × Int32 × Int32 × Int32 × Int32 × Int32 × Int32 × Int32 × Int32 × Int32 × (Nat → Int32)) :=
  if t1 = 0 then
    bd (f_Mo_forget M_waiting M_master M_length M_sent M_state M_rowSize M_differ M_blocks M_counts) fun u10 =>
    nm u10.1 fun v1 =>
    nm u10.2.1 fun v2 =>
    nm u10.2.2.1 fun v3 =>
    nm u10.2.2.2.1 fun v4 =>
    nm u10.2.2.2.2.1 fun v5 =>
    nm u10.2.2.2.2.2.1 fun v6 =>
    nm u10.2.2.2.2.2.2.1 fun v7 =>
    nm u10.2.2.2.2.2.2.2.1 fun v8 =>
    nm u10.2.2.2.2.2.2.2.2 fun g9 =>
    some (t1, x1, x2, x3, x4, v1, v2, v3, v4, v5, v6, v7, v8, g9)
  else
  some (t1, M_depth, M_fill, M_half, M_pattern, M_waiting, M_master, M_length, M_sent, M_state, M_rowSize, M_differ, M_blocks, M_counts)
def f_Mo_form (M_thrown : Int32) (M_depth : Int32) (M_fill : Int32) (M_half : Int32) (M_pattern : Int32) (M_waiting : Int32) (M_master : Int32) (M_length : Int32) (M_sent : Int32) (M_state : Int32) (M_rowSize : Int32) (M_differ : Int32) (M_blocks : Int32) (M_counts : Nat → Int32) (x1 : Int32) (x2 : Int32) (x3 : Int32) (x4 : Int32) : Option (Int32 × Int32 × Int32 × Int32 × Int32 × Int32 × Int32 × Int32 × Int32 × Int32 × Int32 × Int32 × Int32 × (Nat → Int32)) :=
  bd (f_Mo_noForm x1 x2 x3 x4) fun u12 =>
  nm u12 fun r11 =>
  if r11 = 0 then
    f_Mo_form_17 x1 x2 x3 x4 (0 : Int32) M_thrown M_depth M_fill M_half M_pattern M_waiting M_master M_length M_sent M_state M_rowSize M_differ M_blocks M_counts
  else
  f_Mo_form_17 x1 x2 x3 x4 (1 : Int32) M_thrown M_depth M_fill M_half M_pattern M_waiting M_master M_length M_sent M_state M_rowSize M_differ M_blocks M_counts
set_option maxHeartbeats 4000000 in
set_option maxRecDepth 100000 in
theorem c_Mo_form (l : Launch) (D : va_G) (cI cJ : ClassId) (tt : Nat → Nat) (qM qM_counts : Nat) (M_craft M_begins M_firsts M_seconds M_powers M_logarithms M_forms M_elements M_mixer M_data M_line M_places M_least M_row M_marks M_wrongs M_bytes M_rights M_tells M_lastMaster M_lastCounts M_word M_values M_system M_solved M_wrong : Value) (sz : Nat) (M_thrown : Int32) (M_depth : Int32) (M_fill : Int32) (M_half : Int32) (M_pattern : Int32) (M_waiting : Int32) (M_master : Int32) (M_length : Int32) (M_sent : Int32) (M_state : Int32) (M_rowSize : Int32) (M_differ : Int32) (M_blocks : Int32) (M_counts : Nat → Int32) (x1 : Int32) (x2 : Int32) (x3 : Int32) (x4 : Int32) (M_thrown' : Int32) (M_depth' : Int32) (M_fill' : Int32) (M_half' : Int32) (M_pattern' : Int32) (M_waiting' : Int32) (M_master' : Int32) (M_length' : Int32) (M_sent' : Int32) (M_state' : Int32) (M_rowSize' : Int32) (M_differ' : Int32) (M_blocks' : Int32) (M_counts' : Nat → Int32) (hm : f_Mo_form M_thrown M_depth M_fill M_half M_pattern M_waiting M_master M_length M_sent M_state M_rowSize M_differ M_blocks M_counts x1 x2 x3 x4 = some (M_thrown', M_depth', M_fill', M_half', M_pattern', M_waiting', M_master', M_length', M_sent', M_state', M_rowSize', M_differ', M_blocks', M_counts')) : CTv l y_Mo_form b_Mo_form 5 none (RM 1 24) D cI cJ tt [.ref qM, .int x1, .int x2, .int x3, .int x4] (w_Mo_form cI cJ qM qM_counts M_craft M_begins M_firsts M_seconds M_powers M_logarithms M_forms M_elements M_mixer M_data M_line M_places M_least M_row M_marks M_wrongs M_bytes M_rights M_tells M_lastMaster M_lastCounts M_word M_values M_system M_solved M_wrong M_thrown M_depth M_fill M_half M_pattern M_waiting M_master M_length M_sent M_state M_rowSize M_differ M_blocks M_counts) (w_Mo_form cI cJ qM qM_counts M_craft M_begins M_firsts M_seconds M_powers M_logarithms M_forms M_elements M_mixer M_data M_line M_places M_least M_row M_marks M_wrongs M_bytes M_rights M_tells M_lastMaster M_lastCounts M_word M_values M_system M_solved M_wrong M_thrown' M_depth' M_fill' M_half' M_pattern' M_waiting' M_master' M_length' M_sent' M_state' M_rowSize' M_differ' M_blocks' M_counts') sz := by
  refine Met.ofW (cc := b_Mo_form) (maxL := 5) (ret := none) (by decide) rfl ?_
  intro p e s m args below meth c s₁ B hml hv
  obtain ⟨hargs, hsz, hP, hK, hD0, hE⟩ := hv
  have hx := B.exec
  have hb := B.bytes
  have hr := B.returns
  have hts : ∀ w ∈ TB, w.before args s = true := z_mV s (atoms_spec (ws := WD y_Mo_form b_Mo_form 5 none) B.pre)
  have hown : s.vm.findClass "DeepChannelModel" = some m.cls := findClass_of_methodNamed B.named
  have hlocks := B.notSynchronized
  subst hsz
  have hD := hD0.self (sz := s.heap.size)
  generalize hAe : va_A (w_Mo_form cI cJ qM qM_counts M_craft M_begins M_firsts M_seconds M_powers M_logarithms M_forms M_elements M_mixer M_data M_line M_places M_least M_row M_marks M_wrongs M_bytes M_rights M_tells M_lastMaster M_lastCounts M_word M_values M_system M_solved M_wrong M_thrown M_depth M_fill M_half M_pattern M_waiting M_master M_length M_sent M_state M_rowSize M_differ M_blocks M_counts) s.heap.size = A at hD hE ⊢
  have hA : ∀ q : Nat, s.heap.size ≤ q → A q := fun q h => by rw [← hAe]; exact Or.inr h
  have hS : va_S A s.heap s.heap [] := va_S.rf
  refine z_entry (vs := [.ref qM, .int x1, .int x2, .int x3, .int x4]) hargs (Nat.le_of_ble_eq_true rfl) (fun ls hl => ?_)
  have hl : lv_has ls 5 [(0, .ref qM), (1, .int x1), (2, .int x2), (3, .int x3), (4, .int x4)] := hl
  show W p l e (RM 1 24) s m args below meth c s.heap [] 0 0 _ _
  refine z_qi (fun Q0 hQ => ?_)
  have F : CallFix p m c b_Mo_form 5 s args TB "DeepChannelModel" := ⟨hx, hb, hml, hown, hts⟩
  have T17 : ∀ (x1 : Int32) (x2 : Int32) (x3 : Int32) (x4 : Int32) (t1 : Int32) (M_thrown : Int32) (M_depth : Int32) (M_fill : Int32) (M_half : Int32) (M_pattern : Int32) (M_waiting : Int32) (M_master : Int32) (M_length : Int32) (M_sent : Int32) (M_state : Int32) (M_rowSize : Int32) (M_differ : Int32) (M_blocks : Int32) (M_counts : Nat → Int32), f_Mo_form_17 x1 x2 x3 x4 t1 M_thrown M_depth M_fill M_half M_pattern M_waiting M_master M_length M_sent M_state M_rowSize M_differ M_blocks M_counts = some (M_thrown', M_depth', M_fill', M_half', M_pattern', M_waiting', M_master', M_length', M_sent', M_state', M_rowSize', M_differ', M_blocks', M_counts') → ∀ (H : Heap) (locs : List Loc), va_P D classes (w_Mo_form cI cJ qM qM_counts M_craft M_begins M_firsts M_seconds M_powers M_logarithms M_forms M_elements M_mixer M_data M_line M_places M_least M_row M_marks M_wrongs M_bytes M_rights M_tells M_lastMaster M_lastCounts M_word M_values M_system M_solved M_wrong M_thrown M_depth M_fill M_half M_pattern M_waiting M_master M_length M_sent M_state M_rowSize M_differ M_blocks M_counts) H → va_D A (w_Mo_form cI cJ qM qM_counts M_craft M_begins M_firsts M_seconds M_powers M_logarithms M_forms M_elements M_mixer M_data M_line M_places M_least M_row M_marks M_wrongs M_bytes M_rights M_tells M_lastMaster M_lastCounts M_word M_values M_system M_solved M_wrong M_thrown M_depth M_fill M_half M_pattern M_waiting M_master M_length M_sent M_state M_rowSize M_differ M_blocks M_counts) → va_S A s.heap H locs → ∀ (ls : Array Slot), lv_has ls 5 [(0, .ref qM), (1, .int x1), (2, .int x2), (3, .int x3), (4, .int x4)] → W p l e (RM 1 24) s m args below meth c H locs 0 0 Q0 (F0 m 17 ls [.int t1, .ref qM]) := by
    intro x1 x2 x3 x4 t1 M_thrown M_depth M_fill M_half M_pattern M_waiting M_master M_length M_sent M_state M_rowSize M_differ M_blocks M_counts hm H locs hP hD hS ls hl
    unfold f_Mo_form_17 at hm
    refine va_put (D := D) (ci := 11) (v := .int t1) (ty := .int) (C := "DeepChannelModel") (T := fT_Mo) (N := 40) hx hb hts u_Mo fY_Mo fK_Mo fN_Mo hown hK hP hD hS 0 rfl rfl 0 (by decide) (hts _ k_886) (fun _ h9 => h9) rfl (by decide +kernel) rfl rfl (Nat.le_of_ble_eq_true rfl) d_Mo_form_17 (fun H locs hP hD hS => ?_)
    have hP : va_P D classes (w_Mo_form cI cJ qM qM_counts M_craft M_begins M_firsts M_seconds M_powers M_logarithms M_forms M_elements M_mixer M_data M_line M_places M_least M_row M_marks M_wrongs M_bytes M_rights M_tells M_lastMaster M_lastCounts M_word M_values M_system M_solved M_wrong t1 M_depth M_fill M_half M_pattern M_waiting M_master M_length M_sent M_state M_rowSize M_differ M_blocks M_counts) H := hP
    have hD : va_D A (w_Mo_form cI cJ qM qM_counts M_craft M_begins M_firsts M_seconds M_powers M_logarithms M_forms M_elements M_mixer M_data M_line M_places M_least M_row M_marks M_wrongs M_bytes M_rights M_tells M_lastMaster M_lastCounts M_word M_values M_system M_solved M_wrong t1 M_depth M_fill M_half M_pattern M_waiting M_master M_length M_sent M_state M_rowSize M_differ M_blocks M_counts) := hD
    refine lv_aload_n hx hb d_Mo_form_20 rfl (lv_at hl 0 rfl) ?_
    refine va_get (D := D) (ci := 11) (v := .int t1) (C := "DeepChannelModel") (T := fT_Mo) (N := 40) hx hb hts u_Mo hown hK hP 0 rfl rfl 0 (by decide) (hts _ k_886) (fun _ h9 => h9) rfl d_Mo_form_21 ?_
    refine z_ifn hm (lv_if_ne (tgt := 52) hx hb d_Mo_form_24 (by decide)) (fun hm => ?_) (fun hm => ?_)
    · refine lv_aload_n hx hb d_Mo_form_27 rfl (lv_at hl 0 rfl) ?_
      refine lv_iload_n hx hb d_Mo_form_28 rfl (lv_at hl 1 rfl) ?_
      refine va_put (D := D) (ci := 11) (v := .int x1) (ty := .int) (C := "DeepChannelModel") (T := fT_Mo) (N := 40) hx hb hts u_Mo fY_Mo fK_Mo fN_Mo hown hK hP hD hS 0 rfl rfl 1 (by decide) (hts _ k_887) (fun _ h9 => h9) rfl (by decide +kernel) rfl rfl (Nat.le_of_ble_eq_true rfl) d_Mo_form_29 (fun H locs hP hD hS => ?_)
      have hP : va_P D classes (w_Mo_form cI cJ qM qM_counts M_craft M_begins M_firsts M_seconds M_powers M_logarithms M_forms M_elements M_mixer M_data M_line M_places M_least M_row M_marks M_wrongs M_bytes M_rights M_tells M_lastMaster M_lastCounts M_word M_values M_system M_solved M_wrong t1 x1 M_fill M_half M_pattern M_waiting M_master M_length M_sent M_state M_rowSize M_differ M_blocks M_counts) H := hP
      have hD : va_D A (w_Mo_form cI cJ qM qM_counts M_craft M_begins M_firsts M_seconds M_powers M_logarithms M_forms M_elements M_mixer M_data M_line M_places M_least M_row M_marks M_wrongs M_bytes M_rights M_tells M_lastMaster M_lastCounts M_word M_values M_system M_solved M_wrong t1 x1 M_fill M_half M_pattern M_waiting M_master M_length M_sent M_state M_rowSize M_differ M_blocks M_counts) := hD
      refine lv_aload_n hx hb d_Mo_form_32 rfl (lv_at hl 0 rfl) ?_
      refine lv_iload_n hx hb d_Mo_form_33 rfl (lv_at hl 2 rfl) ?_
      refine va_put (D := D) (ci := 11) (v := .int x2) (ty := .int) (C := "DeepChannelModel") (T := fT_Mo) (N := 40) hx hb hts u_Mo fY_Mo fK_Mo fN_Mo hown hK hP hD hS 0 rfl rfl 2 (by decide) (hts _ k_888) (fun _ h9 => h9) rfl (by decide +kernel) rfl rfl (Nat.le_of_ble_eq_true rfl) d_Mo_form_34 (fun H locs hP hD hS => ?_)
      have hP : va_P D classes (w_Mo_form cI cJ qM qM_counts M_craft M_begins M_firsts M_seconds M_powers M_logarithms M_forms M_elements M_mixer M_data M_line M_places M_least M_row M_marks M_wrongs M_bytes M_rights M_tells M_lastMaster M_lastCounts M_word M_values M_system M_solved M_wrong t1 x1 x2 M_half M_pattern M_waiting M_master M_length M_sent M_state M_rowSize M_differ M_blocks M_counts) H := hP
      have hD : va_D A (w_Mo_form cI cJ qM qM_counts M_craft M_begins M_firsts M_seconds M_powers M_logarithms M_forms M_elements M_mixer M_data M_line M_places M_least M_row M_marks M_wrongs M_bytes M_rights M_tells M_lastMaster M_lastCounts M_word M_values M_system M_solved M_wrong t1 x1 x2 M_half M_pattern M_waiting M_master M_length M_sent M_state M_rowSize M_differ M_blocks M_counts) := hD
      refine lv_aload_n hx hb d_Mo_form_37 rfl (lv_at hl 0 rfl) ?_
      refine lv_iload_n hx hb d_Mo_form_38 rfl (lv_at hl 3 rfl) ?_
      refine va_put (D := D) (ci := 11) (v := .int x3) (ty := .int) (C := "DeepChannelModel") (T := fT_Mo) (N := 40) hx hb hts u_Mo fY_Mo fK_Mo fN_Mo hown hK hP hD hS 0 rfl rfl 3 (by decide) (hts _ k_889) (fun _ h9 => h9) rfl (by decide +kernel) rfl rfl (Nat.le_of_ble_eq_true rfl) d_Mo_form_39 (fun H locs hP hD hS => ?_)
      have hP : va_P D classes (w_Mo_form cI cJ qM qM_counts M_craft M_begins M_firsts M_seconds M_powers M_logarithms M_forms M_elements M_mixer M_data M_line M_places M_least M_row M_marks M_wrongs M_bytes M_rights M_tells M_lastMaster M_lastCounts M_word M_values M_system M_solved M_wrong t1 x1 x2 x3 M_pattern M_waiting M_master M_length M_sent M_state M_rowSize M_differ M_blocks M_counts) H := hP
      have hD : va_D A (w_Mo_form cI cJ qM qM_counts M_craft M_begins M_firsts M_seconds M_powers M_logarithms M_forms M_elements M_mixer M_data M_line M_places M_least M_row M_marks M_wrongs M_bytes M_rights M_tells M_lastMaster M_lastCounts M_word M_values M_system M_solved M_wrong t1 x1 x2 x3 M_pattern M_waiting M_master M_length M_sent M_state M_rowSize M_differ M_blocks M_counts) := hD
      refine lv_aload_n hx hb d_Mo_form_42 rfl (lv_at hl 0 rfl) ?_
      refine lv_iload hx hb d_Mo_form_43 (lv_at hl 4 rfl) ?_
      refine va_put (D := D) (ci := 11) (v := .int x4) (ty := .int) (C := "DeepChannelModel") (T := fT_Mo) (N := 40) hx hb hts u_Mo fY_Mo fK_Mo fN_Mo hown hK hP hD hS 0 rfl rfl 4 (by decide) (hts _ k_890) (fun _ h9 => h9) rfl (by decide +kernel) rfl rfl (Nat.le_of_ble_eq_true rfl) d_Mo_form_45 (fun H locs hP hD hS => ?_)
      have hP : va_P D classes (w_Mo_form cI cJ qM qM_counts M_craft M_begins M_firsts M_seconds M_powers M_logarithms M_forms M_elements M_mixer M_data M_line M_places M_least M_row M_marks M_wrongs M_bytes M_rights M_tells M_lastMaster M_lastCounts M_word M_values M_system M_solved M_wrong t1 x1 x2 x3 x4 M_waiting M_master M_length M_sent M_state M_rowSize M_differ M_blocks M_counts) H := hP
      have hD : va_D A (w_Mo_form cI cJ qM qM_counts M_craft M_begins M_firsts M_seconds M_powers M_logarithms M_forms M_elements M_mixer M_data M_line M_places M_least M_row M_marks M_wrongs M_bytes M_rights M_tells M_lastMaster M_lastCounts M_word M_values M_system M_solved M_wrong t1 x1 x2 x3 x4 M_waiting M_master M_length M_sent M_state M_rowSize M_differ M_blocks M_counts) := hD
      refine lv_aload_n hx hb d_Mo_form_48 rfl (lv_at hl 0 rfl) ?_
      obtain ⟨⟨v1, v2, v3, v4, v5, v6, v7, v8, g9⟩, hu, hm⟩ := bd_el hm
      replace hm := nm_9 hm
      refine z_cVv (wc := w_Mo_forget cI cJ qM qM_counts (.int t1) (.int x1) (.int x2) (.int x3) (.int x4) M_craft M_begins M_firsts M_seconds M_powers M_logarithms M_forms M_elements M_mixer M_data M_line M_places M_least M_row M_marks M_wrongs M_bytes M_rights M_tells M_lastMaster M_lastCounts M_word M_values M_system M_solved M_wrong M_waiting M_master M_length M_sent M_state M_rowSize M_differ M_blocks M_counts) (wc' := w_Mo_forget cI cJ qM qM_counts (.int t1) (.int x1) (.int x2) (.int x3) (.int x4) M_craft M_begins M_firsts M_seconds M_powers M_logarithms M_forms M_elements M_mixer M_data M_line M_places M_least M_row M_marks M_wrongs M_bytes M_rights M_tells M_lastMaster M_lastCounts M_word M_values M_system M_solved M_wrong v1 v2 v3 v4 v5 v6 v7 v8 g9) (wr := []) (As := []) (rest := []) (c_Mo_forget l D cI cJ tt qM qM_counts (.int t1) (.int x1) (.int x2) (.int x3) (.int x4) M_craft M_begins M_firsts M_seconds M_powers M_logarithms M_forms M_elements M_mixer M_data M_line M_places M_least M_row M_marks M_wrongs M_bytes M_rights M_tells M_lastMaster M_lastCounts M_word M_values M_system M_solved M_wrong _ M_waiting M_master M_length M_sent M_state M_rowSize M_differ M_blocks M_counts v1 v2 v3 v4 v5 v6 v7 v8 g9 hu) F ok_Mo_forget rfl k_882 hK hE hP hD hS hA [0, 1] [] rfl rfl (by decide) (by decide) (by decide) 0 rfl rfl rfl ⟨rfl, rfl, Nat.le_of_ble_eq_true rfl, Nat.le_of_ble_eq_true rfl⟩ ⟨Nat.zero_le _, Nat.zero_le _⟩ rfl hl.1 rfl (Nat.le_of_ble_eq_true rfl) d_Mo_form_49 (fun H locs hP hD hS => ?_)
      have hP : va_P D classes (w_Mo_form cI cJ qM qM_counts M_craft M_begins M_firsts M_seconds M_powers M_logarithms M_forms M_elements M_mixer M_data M_line M_places M_least M_row M_marks M_wrongs M_bytes M_rights M_tells M_lastMaster M_lastCounts M_word M_values M_system M_solved M_wrong t1 x1 x2 x3 x4 v1 v2 v3 v4 v5 v6 v7 v8 g9) H := hP.sub [0, 1] rfl
      have hD : va_D A (w_Mo_form cI cJ qM qM_counts M_craft M_begins M_firsts M_seconds M_powers M_logarithms M_forms M_elements M_mixer M_data M_line M_places M_least M_row M_marks M_wrongs M_bytes M_rights M_tells M_lastMaster M_lastCounts M_word M_values M_system M_solved M_wrong t1 x1 x2 x3 x4 v1 v2 v3 v4 v5 v6 v7 v8 g9) := hD.sub [0, 1] (by decide) rfl
      cases hm
      exact z_qo hQ (z_vret hr hx hb hlocks hK hP hD hS d_Mo_form_52)
    · cases hm
      exact z_qo hQ (z_vret hr hx hb hlocks hK hP hD hS d_Mo_form_52)
  unfold f_Mo_form at hm
  refine lv_aload_n hx hb d_Mo_form_0 rfl (lv_at hl 0 rfl) ?_
  refine lv_iload_n hx hb d_Mo_form_1 rfl (lv_at hl 1 rfl) ?_
  refine lv_iload_n hx hb d_Mo_form_2 rfl (lv_at hl 2 rfl) ?_
  refine lv_iload_n hx hb d_Mo_form_3 rfl (lv_at hl 3 rfl) ?_
  refine lv_iload hx hb d_Mo_form_4 (lv_at hl 4 rfl) ?_
  obtain ⟨r11, hu, hm⟩ := bd_el hm
  replace hm := nm_1 hm
  refine z_cSi (wc := w_Mo_noForm) (wc' := w_Mo_noForm) (wr := [(qM, .inr (11, [.int M_thrown, .int M_depth, .int M_fill, .int M_half, .int M_pattern, M_craft, M_begins, M_firsts, M_seconds, M_powers, M_logarithms, M_forms, M_elements, M_mixer, M_data, .int M_waiting, .int M_master, .ref qM_counts, M_line, .int M_length, .int M_sent, .int M_state, M_places, M_least, M_row, .int M_rowSize, .int M_differ, .int M_blocks, M_marks, M_wrongs, M_bytes, M_rights, M_tells, M_lastMaster, M_lastCounts, M_word, M_values, M_system, M_solved, M_wrong])), (qM_counts, .inl (cI, 8, .inl M_counts))]) (As := [.int x1, .int x2, .int x3, .int x4]) (rest := [.ref qM]) (c_Mo_noForm l D cI cJ tt _ x1 x2 x3 x4 r11 hu) F ok_Mo_noForm k_1015 hK hE hP hD hS hA [] [0, 1] rfl rfl (by decide) (by decide) (by decide) ⟨rfl, rfl, Nat.le_of_ble_eq_true rfl, Nat.le_of_ble_eq_true rfl⟩ ⟨Nat.zero_le _, Nat.zero_le _⟩ rfl hl.1 rfl (Nat.le_of_ble_eq_true rfl) d_Mo_form_6 (fun H locs hP hD hS => ?_)
  have hP : va_P D classes (w_Mo_form cI cJ qM qM_counts M_craft M_begins M_firsts M_seconds M_powers M_logarithms M_forms M_elements M_mixer M_data M_line M_places M_least M_row M_marks M_wrongs M_bytes M_rights M_tells M_lastMaster M_lastCounts M_word M_values M_system M_solved M_wrong M_thrown M_depth M_fill M_half M_pattern M_waiting M_master M_length M_sent M_state M_rowSize M_differ M_blocks M_counts) H := hP.sub [0, 1] rfl
  have hD : va_D A (w_Mo_form cI cJ qM qM_counts M_craft M_begins M_firsts M_seconds M_powers M_logarithms M_forms M_elements M_mixer M_data M_line M_places M_least M_row M_marks M_wrongs M_bytes M_rights M_tells M_lastMaster M_lastCounts M_word M_values M_system M_solved M_wrong M_thrown M_depth M_fill M_half M_pattern M_waiting M_master M_length M_sent M_state M_rowSize M_differ M_blocks M_counts) := hD.sub [0, 1] (by decide) rfl
  refine z_if hm (lv_if_eq (tgt := 16) hx hb d_Mo_form_9 (by decide)) (fun hm => ?_) (fun hm => ?_)
  · refine lv_iconst (v := (0 : Int32)) hx hb d_Mo_form_16 (by decide) ?_
    exact T17 x1 x2 x3 x4 (0 : Int32) M_thrown M_depth M_fill M_half M_pattern M_waiting M_master M_length M_sent M_state M_rowSize M_differ M_blocks M_counts hm _ _ hP hD hS _ (lv_sub hl [0, 1, 2, 3, 4] rfl)
  · refine lv_iconst (v := (1 : Int32)) hx hb d_Mo_form_12 (by decide) ?_
    refine lv_goto (tgt := 17) hx hb d_Mo_form_13 (by decide) ?_
    exact T17 x1 x2 x3 x4 (1 : Int32) M_thrown M_depth M_fill M_half M_pattern M_waiting M_master M_length M_sent M_state M_rowSize M_differ M_blocks M_counts hm _ _ hP hD hS _ (lv_sub hl [0, 1, 2, 3, 4] rfl)
-- DeepChannelModel.craft(I)I
abbrev b_Mo_craft : ByteArray := prog_13_method_14_code
abbrev y_Mo_craft : MethodName := ⟨"DeepChannelModel", "craft", "(I)I"⟩
theorem d_Mo_craft_0 : decode b_Mo_craft 0 = .ok (.aload_n 0, 1) := by decide +kernel
theorem d_Mo_craft_1 : decode b_Mo_craft 1 = .ok (.iload_n 1, 1) := by decide +kernel
theorem d_Mo_craft_2 : decode b_Mo_craft 2 = .ok (.ifCond .lt 10, 3) := by decide +kernel
theorem d_Mo_craft_5 : decode b_Mo_craft 5 = .ok (.iload_n 1, 1) := by decide +kernel
theorem d_Mo_craft_6 : decode b_Mo_craft 6 = .ok (.sipush 1023, 3) := by decide +kernel
theorem d_Mo_craft_9 : decode b_Mo_craft 9 = .ok (.if_icmp .le 7, 3) := by decide +kernel
theorem d_Mo_craft_12 : decode b_Mo_craft 12 = .ok (.iconst 1, 1) := by decide +kernel
theorem d_Mo_craft_13 : decode b_Mo_craft 13 = .ok (.goto 4, 3) := by decide +kernel
theorem d_Mo_craft_16 : decode b_Mo_craft 16 = .ok (.iconst 0, 1) := by decide +kernel
theorem d_Mo_craft_17 : decode b_Mo_craft 17 = .ok (.putfield 103, 3) := by decide +kernel
theorem d_Mo_craft_20 : decode b_Mo_craft 20 = .ok (.aload_n 0, 1) := by decide +kernel
theorem d_Mo_craft_21 : decode b_Mo_craft 21 = .ok (.getfield 103, 3) := by decide +kernel
theorem d_Mo_craft_24 : decode b_Mo_craft 24 = .ok (.ifCond .le 5, 3) := by decide +kernel
theorem d_Mo_craft_27 : decode b_Mo_craft 27 = .ok (.iconst 0, 1) := by decide +kernel
theorem d_Mo_craft_28 : decode b_Mo_craft 28 = .ok (.ireturn, 1) := by decide +kernel
theorem d_Mo_craft_29 : decode b_Mo_craft 29 = .ok (.aload_n 0, 1) := by decide +kernel
theorem d_Mo_craft_30 : decode b_Mo_craft 30 = .ok (.getfield 145, 3) := by decide +kernel
theorem d_Mo_craft_33 : decode b_Mo_craft 33 = .ok (.istore_n 2, 1) := by decide +kernel
theorem d_Mo_craft_34 : decode b_Mo_craft 34 = .ok (.aload_n 0, 1) := by decide +kernel
theorem d_Mo_craft_35 : decode b_Mo_craft 35 = .ok (.iload_n 1, 1) := by decide +kernel
theorem d_Mo_craft_36 : decode b_Mo_craft 36 = .ok (.putfield 145, 3) := by decide +kernel
theorem d_Mo_craft_39 : decode b_Mo_craft 39 = .ok (.iload_n 2, 1) := by decide +kernel
theorem d_Mo_craft_40 : decode b_Mo_craft 40 = .ok (.ireturn, 1) := by decide +kernel
theorem ok_Mo_craft : OKv y_Mo_craft b_Mo_craft 3 (some .int) "DeepChannelModel" 1 := ⟨k_1021, k_1019, k_1020, k_55, by decide +kernel, by decide +kernel, by decide +kernel⟩
abbrev w_Mo_craft (cI cJ : ClassId) (qM : Nat) (M_depth M_fill M_half M_pattern M_begins M_firsts M_seconds M_powers M_logarithms M_forms M_elements M_mixer M_data M_waiting M_master M_counts M_line M_length M_sent M_state M_places M_least M_row M_rowSize M_differ M_blocks M_marks M_wrongs M_bytes M_rights M_tells M_lastMaster M_lastCounts M_word M_values M_system M_solved M_wrong : Value) (M_thrown : Int32) (M_craft : Int32) : va_W := [(qM, .inr (11, [.int M_thrown, M_depth, M_fill, M_half, M_pattern, .int M_craft, M_begins, M_firsts, M_seconds, M_powers, M_logarithms, M_forms, M_elements, M_mixer, M_data, M_waiting, M_master, M_counts, M_line, M_length, M_sent, M_state, M_places, M_least, M_row, M_rowSize, M_differ, M_blocks, M_marks, M_wrongs, M_bytes, M_rights, M_tells, M_lastMaster, M_lastCounts, M_word, M_values, M_system, M_solved, M_wrong]))]
def f_Mo_craft_17  (x1 : Int32) (t1 : Int32) (M_thrown : Int32) (M_craft : Int32) : Option (Int32 × Int32 × Int32) :=
  if t1 ≤ 0 then
    some (M_craft, t1, x1)
  else
  some ((0 : Int32), t1, M_craft)
def f_Mo_craft_12  (x1 : Int32) (M_thrown : Int32) (M_craft : Int32) : Option (Int32 × Int32 × Int32) :=
  f_Mo_craft_17 x1 (1 : Int32) M_thrown M_craft
def f_Mo_craft (M_thrown : Int32) (M_craft : Int32) (x1 : Int32) : Option (Int32 × Int32 × Int32) :=
  if x1 < 0 then
    f_Mo_craft_12 x1 M_thrown M_craft
  else
  if x1 ≤ (1023 : Int32) then
    f_Mo_craft_17 x1 (0 : Int32) M_thrown M_craft
  else
  f_Mo_craft_12 x1 M_thrown M_craft
set_option maxHeartbeats 4000000 in
set_option maxRecDepth 100000 in
theorem c_Mo_craft (l : Launch) (D : va_G) (cI cJ : ClassId) (tt : Nat → Nat) (qM : Nat) (M_depth M_fill M_half M_pattern M_begins M_firsts M_seconds M_powers M_logarithms M_forms M_elements M_mixer M_data M_waiting M_master M_counts M_line M_length M_sent M_state M_places M_least M_row M_rowSize M_differ M_blocks M_marks M_wrongs M_bytes M_rights M_tells M_lastMaster M_lastCounts M_word M_values M_system M_solved M_wrong : Value) (sz : Nat) (M_thrown : Int32) (M_craft : Int32) (x1 : Int32) (rr : Int32) (M_thrown' : Int32) (M_craft' : Int32) (hm : f_Mo_craft M_thrown M_craft x1 = some (rr, M_thrown', M_craft')) : CTi l y_Mo_craft b_Mo_craft 3 (some .int) (RM 0 0) D cI cJ tt [.ref qM, .int x1] (w_Mo_craft cI cJ qM M_depth M_fill M_half M_pattern M_begins M_firsts M_seconds M_powers M_logarithms M_forms M_elements M_mixer M_data M_waiting M_master M_counts M_line M_length M_sent M_state M_places M_least M_row M_rowSize M_differ M_blocks M_marks M_wrongs M_bytes M_rights M_tells M_lastMaster M_lastCounts M_word M_values M_system M_solved M_wrong M_thrown M_craft) (w_Mo_craft cI cJ qM M_depth M_fill M_half M_pattern M_begins M_firsts M_seconds M_powers M_logarithms M_forms M_elements M_mixer M_data M_waiting M_master M_counts M_line M_length M_sent M_state M_places M_least M_row M_rowSize M_differ M_blocks M_marks M_wrongs M_bytes M_rights M_tells M_lastMaster M_lastCounts M_word M_values M_system M_solved M_wrong M_thrown' M_craft') sz rr := by
  refine Met.ofW (cc := b_Mo_craft) (maxL := 3) (ret := (some .int)) (by decide) rfl ?_
  intro p e s m args below meth c s₁ B hml hv
  obtain ⟨hargs, hsz, hP, hK, hD0, hE⟩ := hv
  have hx := B.exec
  have hb := B.bytes
  have hr := B.returns
  have hts : ∀ w ∈ TB, w.before args s = true := z_mV s (atoms_spec (ws := WD y_Mo_craft b_Mo_craft 3 (some .int)) B.pre)
  have hown : s.vm.findClass "DeepChannelModel" = some m.cls := findClass_of_methodNamed B.named
  have hlocks := B.notSynchronized
  subst hsz
  have hD := hD0.self (sz := s.heap.size)
  generalize hAe : va_A (w_Mo_craft cI cJ qM M_depth M_fill M_half M_pattern M_begins M_firsts M_seconds M_powers M_logarithms M_forms M_elements M_mixer M_data M_waiting M_master M_counts M_line M_length M_sent M_state M_places M_least M_row M_rowSize M_differ M_blocks M_marks M_wrongs M_bytes M_rights M_tells M_lastMaster M_lastCounts M_word M_values M_system M_solved M_wrong M_thrown M_craft) s.heap.size = A at hD hE ⊢
  have hA : ∀ q : Nat, s.heap.size ≤ q → A q := fun q h => by rw [← hAe]; exact Or.inr h
  have hS : va_S A s.heap s.heap [] := va_S.rf
  refine z_entry (vs := [.ref qM, .int x1]) hargs (Nat.le_of_ble_eq_true rfl) (fun ls hl => ?_)
  have hl : lv_has ls 3 [(0, .ref qM), (1, .int x1)] := hl
  show W p l e (RM 0 0) s m args below meth c s.heap [] 0 0 _ _
  refine z_qi (fun Q0 hQ => ?_)
  have F : CallFix p m c b_Mo_craft 3 s args TB "DeepChannelModel" := ⟨hx, hb, hml, hown, hts⟩
  have T17 : ∀ (x1 : Int32) (t1 : Int32) (M_thrown : Int32) (M_craft : Int32), f_Mo_craft_17 x1 t1 M_thrown M_craft = some (rr, M_thrown', M_craft') → ∀ (H : Heap) (locs : List Loc), va_P D classes (w_Mo_craft cI cJ qM M_depth M_fill M_half M_pattern M_begins M_firsts M_seconds M_powers M_logarithms M_forms M_elements M_mixer M_data M_waiting M_master M_counts M_line M_length M_sent M_state M_places M_least M_row M_rowSize M_differ M_blocks M_marks M_wrongs M_bytes M_rights M_tells M_lastMaster M_lastCounts M_word M_values M_system M_solved M_wrong M_thrown M_craft) H → va_D A (w_Mo_craft cI cJ qM M_depth M_fill M_half M_pattern M_begins M_firsts M_seconds M_powers M_logarithms M_forms M_elements M_mixer M_data M_waiting M_master M_counts M_line M_length M_sent M_state M_places M_least M_row M_rowSize M_differ M_blocks M_marks M_wrongs M_bytes M_rights M_tells M_lastMaster M_lastCounts M_word M_values M_system M_solved M_wrong M_thrown M_craft) → va_S A s.heap H locs → ∀ (ls : Array Slot), lv_has ls 3 [(0, .ref qM), (1, .int x1)] → W p l e (RM 0 0) s m args below meth c H locs 0 0 Q0 (F0 m 17 ls [.int t1, .ref qM]) := by
    intro x1 t1 M_thrown M_craft hm H locs hP hD hS ls hl
    unfold f_Mo_craft_17 at hm
    refine va_put (D := D) (ci := 11) (v := .int t1) (ty := .int) (C := "DeepChannelModel") (T := fT_Mo) (N := 40) hx hb hts u_Mo fY_Mo fK_Mo fN_Mo hown hK hP hD hS 0 rfl rfl 0 (by decide) (hts _ k_886) (fun _ h9 => h9) rfl (by decide +kernel) rfl rfl (Nat.le_of_ble_eq_true rfl) d_Mo_craft_17 (fun H locs hP hD hS => ?_)
    have hP : va_P D classes (w_Mo_craft cI cJ qM M_depth M_fill M_half M_pattern M_begins M_firsts M_seconds M_powers M_logarithms M_forms M_elements M_mixer M_data M_waiting M_master M_counts M_line M_length M_sent M_state M_places M_least M_row M_rowSize M_differ M_blocks M_marks M_wrongs M_bytes M_rights M_tells M_lastMaster M_lastCounts M_word M_values M_system M_solved M_wrong t1 M_craft) H := hP
    have hD : va_D A (w_Mo_craft cI cJ qM M_depth M_fill M_half M_pattern M_begins M_firsts M_seconds M_powers M_logarithms M_forms M_elements M_mixer M_data M_waiting M_master M_counts M_line M_length M_sent M_state M_places M_least M_row M_rowSize M_differ M_blocks M_marks M_wrongs M_bytes M_rights M_tells M_lastMaster M_lastCounts M_word M_values M_system M_solved M_wrong t1 M_craft) := hD
    refine lv_aload_n hx hb d_Mo_craft_20 rfl (lv_at hl 0 rfl) ?_
    refine va_get (D := D) (ci := 11) (v := .int t1) (C := "DeepChannelModel") (T := fT_Mo) (N := 40) hx hb hts u_Mo hown hK hP 0 rfl rfl 0 (by decide) (hts _ k_886) (fun _ h9 => h9) rfl d_Mo_craft_21 ?_
    refine z_if hm (lv_if_le (tgt := 29) hx hb d_Mo_craft_24 (by decide)) (fun hm => ?_) (fun hm => ?_)
    · refine lv_aload_n hx hb d_Mo_craft_29 rfl (lv_at hl 0 rfl) ?_
      refine va_get (D := D) (ci := 11) (v := .int M_craft) (C := "DeepChannelModel") (T := fT_Mo) (N := 40) hx hb hts u_Mo hown hK hP 0 rfl rfl 5 (by decide) (hts _ k_891) (fun _ h9 => h9) rfl d_Mo_craft_30 ?_
      refine lv_istore_n (lv' := [(2, .int M_craft), (0, .ref qM), (1, .int x1)]) hx hb d_Mo_craft_33 rfl hl (by decide) rfl (fun ls hl => ?_)
      refine lv_aload_n hx hb d_Mo_craft_34 rfl (lv_at hl 1 rfl) ?_
      refine lv_iload_n hx hb d_Mo_craft_35 rfl (lv_at hl 2 rfl) ?_
      refine va_put (D := D) (ci := 11) (v := .int x1) (ty := .int) (C := "DeepChannelModel") (T := fT_Mo) (N := 40) hx hb hts u_Mo fY_Mo fK_Mo fN_Mo hown hK hP hD hS 0 rfl rfl 5 (by decide) (hts _ k_891) (fun _ h9 => h9) rfl (by decide +kernel) rfl rfl (Nat.le_of_ble_eq_true rfl) d_Mo_craft_36 (fun H locs hP hD hS => ?_)
      have hP : va_P D classes (w_Mo_craft cI cJ qM M_depth M_fill M_half M_pattern M_begins M_firsts M_seconds M_powers M_logarithms M_forms M_elements M_mixer M_data M_waiting M_master M_counts M_line M_length M_sent M_state M_places M_least M_row M_rowSize M_differ M_blocks M_marks M_wrongs M_bytes M_rights M_tells M_lastMaster M_lastCounts M_word M_values M_system M_solved M_wrong t1 x1) H := hP
      have hD : va_D A (w_Mo_craft cI cJ qM M_depth M_fill M_half M_pattern M_begins M_firsts M_seconds M_powers M_logarithms M_forms M_elements M_mixer M_data M_waiting M_master M_counts M_line M_length M_sent M_state M_places M_least M_row M_rowSize M_differ M_blocks M_marks M_wrongs M_bytes M_rights M_tells M_lastMaster M_lastCounts M_word M_values M_system M_solved M_wrong t1 x1) := hD
      refine lv_iload_n hx hb d_Mo_craft_39 rfl (lv_at hl 0 rfl) ?_
      cases hm
      exact z_qo hQ (z_ireti hr hx hb hlocks hK hP hD hS d_Mo_craft_40)
    · refine lv_iconst (v := (0 : Int32)) hx hb d_Mo_craft_27 (by decide) ?_
      cases hm
      exact z_qo hQ (z_ireti hr hx hb hlocks hK hP hD hS d_Mo_craft_28)
  have T12 : ∀ (x1 : Int32) (M_thrown : Int32) (M_craft : Int32), f_Mo_craft_12 x1 M_thrown M_craft = some (rr, M_thrown', M_craft') → ∀ (H : Heap) (locs : List Loc), va_P D classes (w_Mo_craft cI cJ qM M_depth M_fill M_half M_pattern M_begins M_firsts M_seconds M_powers M_logarithms M_forms M_elements M_mixer M_data M_waiting M_master M_counts M_line M_length M_sent M_state M_places M_least M_row M_rowSize M_differ M_blocks M_marks M_wrongs M_bytes M_rights M_tells M_lastMaster M_lastCounts M_word M_values M_system M_solved M_wrong M_thrown M_craft) H → va_D A (w_Mo_craft cI cJ qM M_depth M_fill M_half M_pattern M_begins M_firsts M_seconds M_powers M_logarithms M_forms M_elements M_mixer M_data M_waiting M_master M_counts M_line M_length M_sent M_state M_places M_least M_row M_rowSize M_differ M_blocks M_marks M_wrongs M_bytes M_rights M_tells M_lastMaster M_lastCounts M_word M_values M_system M_solved M_wrong M_thrown M_craft) → va_S A s.heap H locs → ∀ (ls : Array Slot), lv_has ls 3 [(0, .ref qM), (1, .int x1)] → W p l e (RM 0 0) s m args below meth c H locs 0 0 Q0 (F0 m 12 ls [.ref qM]) := by
    intro x1 M_thrown M_craft hm H locs hP hD hS ls hl
    unfold f_Mo_craft_12 at hm
    refine lv_iconst (v := (1 : Int32)) hx hb d_Mo_craft_12 (by decide) ?_
    refine lv_goto (tgt := 17) hx hb d_Mo_craft_13 (by decide) ?_
    exact T17 x1 (1 : Int32) M_thrown M_craft hm _ _ hP hD hS _ (lv_sub hl [0, 1] rfl)
  unfold f_Mo_craft at hm
  refine lv_aload_n hx hb d_Mo_craft_0 rfl (lv_at hl 0 rfl) ?_
  refine lv_iload_n hx hb d_Mo_craft_1 rfl (lv_at hl 1 rfl) ?_
  refine z_if hm (lv_if_lt (tgt := 12) hx hb d_Mo_craft_2 (by decide)) (fun hm => ?_) (fun hm => ?_)
  · exact T12 x1 M_thrown M_craft hm _ _ hP hD hS _ (lv_sub hl [0, 1] rfl)
  · refine lv_iload_n hx hb d_Mo_craft_5 rfl (lv_at hl 1 rfl) ?_
    refine lv_sipush (v := (1023 : Int32)) hx hb d_Mo_craft_6 (by decide) ?_
    refine z_if hm (lv_icmp_le (tgt := 16) hx hb d_Mo_craft_9 (by decide)) (fun hm => ?_) (fun hm => ?_)
    · refine lv_iconst (v := (0 : Int32)) hx hb d_Mo_craft_16 (by decide) ?_
      exact T17 x1 (0 : Int32) M_thrown M_craft hm _ _ hP hD hS _ (lv_sub hl [0, 1] rfl)
    · exact T12 x1 M_thrown M_craft hm _ _ hP hD hS _ (lv_sub hl [0, 1] rfl)
-- DeepChannelModel.told(I)I
abbrev b_Mo_told : ByteArray := prog_13_method_15_code
abbrev y_Mo_told : MethodName := ⟨"DeepChannelModel", "told", "(I)I"⟩
theorem d_Mo_told_0 : decode b_Mo_told 0 = .ok (.aload_n 0, 1) := by decide +kernel
theorem d_Mo_told_1 : decode b_Mo_told 1 = .ok (.iload_n 1, 1) := by decide +kernel
theorem d_Mo_told_2 : decode b_Mo_told 2 = .ok (.ifCond .lt 9, 3) := by decide +kernel
theorem d_Mo_told_5 : decode b_Mo_told 5 = .ok (.iload_n 1, 1) := by decide +kernel
theorem d_Mo_told_6 : decode b_Mo_told 6 = .ok (.bipush 7, 2) := by decide +kernel
theorem d_Mo_told_8 : decode b_Mo_told 8 = .ok (.if_icmp .le 7, 3) := by decide +kernel
theorem d_Mo_told_11 : decode b_Mo_told 11 = .ok (.iconst 1, 1) := by decide +kernel
theorem d_Mo_told_12 : decode b_Mo_told 12 = .ok (.goto 4, 3) := by decide +kernel
theorem d_Mo_told_15 : decode b_Mo_told 15 = .ok (.iconst 0, 1) := by decide +kernel
theorem d_Mo_told_16 : decode b_Mo_told 16 = .ok (.putfield 103, 3) := by decide +kernel
theorem d_Mo_told_19 : decode b_Mo_told 19 = .ok (.iload_n 1, 1) := by decide +kernel
theorem d_Mo_told_20 : decode b_Mo_told 20 = .ok (.tableswitch 82 0 6 #[44, 49, 57, 62, 67, 72, 77], 44) := by decide +kernel
theorem d_Mo_told_64 : decode b_Mo_told 64 = .ok (.aload_n 0, 1) := by decide +kernel
theorem d_Mo_told_65 : decode b_Mo_told 65 = .ok (.invokevirtual 148, 3) := by decide +kernel
theorem d_Mo_told_68 : decode b_Mo_told 68 = .ok (.ireturn, 1) := by decide +kernel
theorem d_Mo_told_69 : decode b_Mo_told 69 = .ok (.aload_n 0, 1) := by decide +kernel
theorem d_Mo_told_70 : decode b_Mo_told 70 = .ok (.invokevirtual 148, 3) := by decide +kernel
theorem d_Mo_told_73 : decode b_Mo_told 73 = .ok (.bipush 8, 2) := by decide +kernel
theorem d_Mo_told_75 : decode b_Mo_told 75 = .ok (.isub, 1) := by decide +kernel
theorem d_Mo_told_76 : decode b_Mo_told 76 = .ok (.ireturn, 1) := by decide +kernel
theorem d_Mo_told_77 : decode b_Mo_told 77 = .ok (.aload_n 0, 1) := by decide +kernel
theorem d_Mo_told_78 : decode b_Mo_told 78 = .ok (.invokevirtual 151, 3) := by decide +kernel
theorem d_Mo_told_81 : decode b_Mo_told 81 = .ok (.ireturn, 1) := by decide +kernel
theorem d_Mo_told_82 : decode b_Mo_told 82 = .ok (.aload_n 0, 1) := by decide +kernel
theorem d_Mo_told_83 : decode b_Mo_told 83 = .ok (.getfield 120, 3) := by decide +kernel
theorem d_Mo_told_86 : decode b_Mo_told 86 = .ok (.ireturn, 1) := by decide +kernel
theorem d_Mo_told_87 : decode b_Mo_told 87 = .ok (.aload_n 0, 1) := by decide +kernel
theorem d_Mo_told_88 : decode b_Mo_told 88 = .ok (.getfield 114, 3) := by decide +kernel
theorem d_Mo_told_91 : decode b_Mo_told 91 = .ok (.ireturn, 1) := by decide +kernel
theorem d_Mo_told_92 : decode b_Mo_told 92 = .ok (.aload_n 0, 1) := by decide +kernel
theorem d_Mo_told_93 : decode b_Mo_told 93 = .ok (.getfield 129, 3) := by decide +kernel
theorem d_Mo_told_96 : decode b_Mo_told 96 = .ok (.ireturn, 1) := by decide +kernel
theorem d_Mo_told_97 : decode b_Mo_told 97 = .ok (.aload_n 0, 1) := by decide +kernel
theorem d_Mo_told_98 : decode b_Mo_told 98 = .ok (.getfield 132, 3) := by decide +kernel
theorem d_Mo_told_101 : decode b_Mo_told 101 = .ok (.ireturn, 1) := by decide +kernel
theorem d_Mo_told_102 : decode b_Mo_told 102 = .ok (.aload_n 0, 1) := by decide +kernel
theorem d_Mo_told_103 : decode b_Mo_told 103 = .ok (.getfield 103, 3) := by decide +kernel
theorem d_Mo_told_106 : decode b_Mo_told 106 = .ok (.ifCond .le 7, 3) := by decide +kernel
theorem d_Mo_told_109 : decode b_Mo_told 109 = .ok (.iconst 0, 1) := by decide +kernel
theorem d_Mo_told_110 : decode b_Mo_told 110 = .ok (.goto 7, 3) := by decide +kernel
theorem d_Mo_told_113 : decode b_Mo_told 113 = .ok (.aload_n 0, 1) := by decide +kernel
theorem d_Mo_told_114 : decode b_Mo_told 114 = .ok (.getfield 135, 3) := by decide +kernel
theorem d_Mo_told_117 : decode b_Mo_told 117 = .ok (.ireturn, 1) := by decide +kernel
theorem ok_Mo_told : OKv y_Mo_told b_Mo_told 2 (some .int) "DeepChannelModel" 1 := ⟨k_1025, k_1023, k_1024, k_55, by decide +kernel, by decide +kernel, by decide +kernel⟩
abbrev w_Mo_told (cI cJ : ClassId) (qM : Nat) (M_pattern M_craft M_begins M_firsts M_seconds M_powers M_logarithms M_forms M_elements M_mixer M_data M_master M_counts M_line M_sent M_state M_places M_least M_row M_marks M_wrongs M_bytes M_rights M_tells M_lastMaster M_lastCounts M_word M_values M_system M_solved M_wrong : Value) (M_thrown : Int32) (M_depth : Int32) (M_fill : Int32) (M_half : Int32) (M_waiting : Int32) (M_length : Int32) (M_rowSize : Int32) (M_differ : Int32) (M_blocks : Int32) : va_W := [(qM, .inr (11, [.int M_thrown, .int M_depth, .int M_fill, .int M_half, M_pattern, M_craft, M_begins, M_firsts, M_seconds, M_powers, M_logarithms, M_forms, M_elements, M_mixer, M_data, .int M_waiting, M_master, M_counts, M_line, .int M_length, M_sent, M_state, M_places, M_least, M_row, .int M_rowSize, .int M_differ, .int M_blocks, M_marks, M_wrongs, M_bytes, M_rights, M_tells, M_lastMaster, M_lastCounts, M_word, M_values, M_system, M_solved, M_wrong]))]
def f_Mo_told_16 (M_depth : Int32) (M_fill : Int32) (M_half : Int32) (M_waiting : Int32) (M_length : Int32) (M_rowSize : Int32) (M_differ : Int32) (M_blocks : Int32) (x1 : Int32) (t1 : Int32) (M_thrown : Int32) : Option (Int32 × Int32) :=
  if x1 = (0 : Int32) then
    bd (f_Mo_frameSize M_depth M_fill M_half) fun u2 =>
    nm u2 fun r1 =>
    some (r1, t1)
  else
  if x1 = (1 : Int32) then
    bd (f_Mo_frameSize M_depth M_fill M_half) fun u4 =>
    nm u4 fun r3 =>
    some ((r3 - (8 : Int32)), t1)
  else
  if x1 = (2 : Int32) then
    bd (f_Mo_blockSize M_depth M_fill) fun u6 =>
    nm u6 fun r5 =>
    some (r5, t1)
  else
  if x1 = (3 : Int32) then
    some (M_length, t1)
  else
  if x1 = (4 : Int32) then
    some (M_waiting, t1)
  else
  if x1 = (5 : Int32) then
    some (M_rowSize, t1)
  else
  if x1 = (6 : Int32) then
    some (M_differ, t1)
  else
  if t1 ≤ 0 then
    some (M_blocks, t1)
  else
  some ((0 : Int32), t1)
def f_Mo_told_11 (M_depth : Int32) (M_fill : Int32) (M_half : Int32) (M_waiting : Int32) (M_length : Int32) (M_rowSize : Int32) (M_differ : Int32) (M_blocks : Int32) (x1 : Int32) (M_thrown : Int32) : Option (Int32 × Int32) :=
  f_Mo_told_16 M_depth M_fill M_half M_waiting M_length M_rowSize M_differ M_blocks x1 (1 : Int32) M_thrown
def f_Mo_told (M_thrown : Int32) (M_depth : Int32) (M_fill : Int32) (M_half : Int32) (M_waiting : Int32) (M_length : Int32) (M_rowSize : Int32) (M_differ : Int32) (M_blocks : Int32) (x1 : Int32) : Option (Int32 × Int32) :=
  if x1 < 0 then
    f_Mo_told_11 M_depth M_fill M_half M_waiting M_length M_rowSize M_differ M_blocks x1 M_thrown
  else
  if x1 ≤ (7 : Int32) then
    f_Mo_told_16 M_depth M_fill M_half M_waiting M_length M_rowSize M_differ M_blocks x1 (0 : Int32) M_thrown
  else
  f_Mo_told_11 M_depth M_fill M_half M_waiting M_length M_rowSize M_differ M_blocks x1 M_thrown
set_option maxHeartbeats 4000000 in
set_option maxRecDepth 100000 in
theorem c_Mo_told (l : Launch) (D : va_G) (cI cJ : ClassId) (tt : Nat → Nat) (qM : Nat) (M_pattern M_craft M_begins M_firsts M_seconds M_powers M_logarithms M_forms M_elements M_mixer M_data M_master M_counts M_line M_sent M_state M_places M_least M_row M_marks M_wrongs M_bytes M_rights M_tells M_lastMaster M_lastCounts M_word M_values M_system M_solved M_wrong : Value) (sz : Nat) (M_thrown : Int32) (M_depth : Int32) (M_fill : Int32) (M_half : Int32) (M_waiting : Int32) (M_length : Int32) (M_rowSize : Int32) (M_differ : Int32) (M_blocks : Int32) (x1 : Int32) (rr : Int32) (M_thrown' : Int32) (hm : f_Mo_told M_thrown M_depth M_fill M_half M_waiting M_length M_rowSize M_differ M_blocks x1 = some (rr, M_thrown')) : CTi l y_Mo_told b_Mo_told 2 (some .int) (RM 2 40) D cI cJ tt [.ref qM, .int x1] (w_Mo_told cI cJ qM M_pattern M_craft M_begins M_firsts M_seconds M_powers M_logarithms M_forms M_elements M_mixer M_data M_master M_counts M_line M_sent M_state M_places M_least M_row M_marks M_wrongs M_bytes M_rights M_tells M_lastMaster M_lastCounts M_word M_values M_system M_solved M_wrong M_thrown M_depth M_fill M_half M_waiting M_length M_rowSize M_differ M_blocks) (w_Mo_told cI cJ qM M_pattern M_craft M_begins M_firsts M_seconds M_powers M_logarithms M_forms M_elements M_mixer M_data M_master M_counts M_line M_sent M_state M_places M_least M_row M_marks M_wrongs M_bytes M_rights M_tells M_lastMaster M_lastCounts M_word M_values M_system M_solved M_wrong M_thrown' M_depth M_fill M_half M_waiting M_length M_rowSize M_differ M_blocks) sz rr := by
  refine Met.ofW (cc := b_Mo_told) (maxL := 2) (ret := (some .int)) (by decide) rfl ?_
  intro p e s m args below meth c s₁ B hml hv
  obtain ⟨hargs, hsz, hP, hK, hD0, hE⟩ := hv
  have hx := B.exec
  have hb := B.bytes
  have hr := B.returns
  have hts : ∀ w ∈ TB, w.before args s = true := z_mV s (atoms_spec (ws := WD y_Mo_told b_Mo_told 2 (some .int)) B.pre)
  have hown : s.vm.findClass "DeepChannelModel" = some m.cls := findClass_of_methodNamed B.named
  have hlocks := B.notSynchronized
  subst hsz
  have hD := hD0.self (sz := s.heap.size)
  generalize hAe : va_A (w_Mo_told cI cJ qM M_pattern M_craft M_begins M_firsts M_seconds M_powers M_logarithms M_forms M_elements M_mixer M_data M_master M_counts M_line M_sent M_state M_places M_least M_row M_marks M_wrongs M_bytes M_rights M_tells M_lastMaster M_lastCounts M_word M_values M_system M_solved M_wrong M_thrown M_depth M_fill M_half M_waiting M_length M_rowSize M_differ M_blocks) s.heap.size = A at hD hE ⊢
  have hA : ∀ q : Nat, s.heap.size ≤ q → A q := fun q h => by rw [← hAe]; exact Or.inr h
  have hS : va_S A s.heap s.heap [] := va_S.rf
  refine z_entry (vs := [.ref qM, .int x1]) hargs (Nat.le_of_ble_eq_true rfl) (fun ls hl => ?_)
  have hl : lv_has ls 2 [(0, .ref qM), (1, .int x1)] := hl
  show W p l e (RM 2 40) s m args below meth c s.heap [] 0 0 _ _
  refine z_qi (fun Q0 hQ => ?_)
  have F : CallFix p m c b_Mo_told 2 s args TB "DeepChannelModel" := ⟨hx, hb, hml, hown, hts⟩
  have T16 : ∀ (x1 : Int32) (t1 : Int32) (M_thrown : Int32), f_Mo_told_16 M_depth M_fill M_half M_waiting M_length M_rowSize M_differ M_blocks x1 t1 M_thrown = some (rr, M_thrown') → ∀ (H : Heap) (locs : List Loc), va_P D classes (w_Mo_told cI cJ qM M_pattern M_craft M_begins M_firsts M_seconds M_powers M_logarithms M_forms M_elements M_mixer M_data M_master M_counts M_line M_sent M_state M_places M_least M_row M_marks M_wrongs M_bytes M_rights M_tells M_lastMaster M_lastCounts M_word M_values M_system M_solved M_wrong M_thrown M_depth M_fill M_half M_waiting M_length M_rowSize M_differ M_blocks) H → va_D A (w_Mo_told cI cJ qM M_pattern M_craft M_begins M_firsts M_seconds M_powers M_logarithms M_forms M_elements M_mixer M_data M_master M_counts M_line M_sent M_state M_places M_least M_row M_marks M_wrongs M_bytes M_rights M_tells M_lastMaster M_lastCounts M_word M_values M_system M_solved M_wrong M_thrown M_depth M_fill M_half M_waiting M_length M_rowSize M_differ M_blocks) → va_S A s.heap H locs → ∀ (ls : Array Slot), lv_has ls 2 [(0, .ref qM), (1, .int x1)] → W p l e (RM 2 40) s m args below meth c H locs 0 0 Q0 (F0 m 16 ls [.int t1, .ref qM]) := by
    intro x1 t1 M_thrown hm H locs hP hD hS ls hl
    unfold f_Mo_told_16 at hm
    refine va_put (D := D) (ci := 11) (v := .int t1) (ty := .int) (C := "DeepChannelModel") (T := fT_Mo) (N := 40) hx hb hts u_Mo fY_Mo fK_Mo fN_Mo hown hK hP hD hS 0 rfl rfl 0 (by decide) (hts _ k_886) (fun _ h9 => h9) rfl (by decide +kernel) rfl rfl (Nat.le_of_ble_eq_true rfl) d_Mo_told_16 (fun H locs hP hD hS => ?_)
    have hP : va_P D classes (w_Mo_told cI cJ qM M_pattern M_craft M_begins M_firsts M_seconds M_powers M_logarithms M_forms M_elements M_mixer M_data M_master M_counts M_line M_sent M_state M_places M_least M_row M_marks M_wrongs M_bytes M_rights M_tells M_lastMaster M_lastCounts M_word M_values M_system M_solved M_wrong t1 M_depth M_fill M_half M_waiting M_length M_rowSize M_differ M_blocks) H := hP
    have hD : va_D A (w_Mo_told cI cJ qM M_pattern M_craft M_begins M_firsts M_seconds M_powers M_logarithms M_forms M_elements M_mixer M_data M_master M_counts M_line M_sent M_state M_places M_least M_row M_marks M_wrongs M_bytes M_rights M_tells M_lastMaster M_lastCounts M_word M_values M_system M_solved M_wrong t1 M_depth M_fill M_half M_waiting M_length M_rowSize M_differ M_blocks) := hD
    refine lv_iload_n hx hb d_Mo_told_19 rfl (lv_at hl 1 rfl) ?_
    refine z_sp hm (fun e0 hm => z_swin (tgt := 64) (off := 44) e0 hx hb d_Mo_told_20 (by decide) (by decide) (by decide) (by decide) ?_) (fun e0 hm => ?_)
    · refine lv_aload_n hx hb d_Mo_told_64 rfl (lv_at hl 0 rfl) ?_
      obtain ⟨r1, hu, hm⟩ := bd_el hm
      replace hm := nm_1 hm
      refine z_cVi (wc := w_Mo_frameSize cI cJ qM (.int t1) M_pattern M_craft M_begins M_firsts M_seconds M_powers M_logarithms M_forms M_elements M_mixer M_data (.int M_waiting) M_master M_counts M_line (.int M_length) M_sent M_state M_places M_least M_row (.int M_rowSize) (.int M_differ) (.int M_blocks) M_marks M_wrongs M_bytes M_rights M_tells M_lastMaster M_lastCounts M_word M_values M_system M_solved M_wrong M_depth M_fill M_half) (wc' := w_Mo_frameSize cI cJ qM (.int t1) M_pattern M_craft M_begins M_firsts M_seconds M_powers M_logarithms M_forms M_elements M_mixer M_data (.int M_waiting) M_master M_counts M_line (.int M_length) M_sent M_state M_places M_least M_row (.int M_rowSize) (.int M_differ) (.int M_blocks) M_marks M_wrongs M_bytes M_rights M_tells M_lastMaster M_lastCounts M_word M_values M_system M_solved M_wrong M_depth M_fill M_half) (wr := []) (As := []) (rest := []) (c_Mo_frameSize l D cI cJ tt qM (.int t1) M_pattern M_craft M_begins M_firsts M_seconds M_powers M_logarithms M_forms M_elements M_mixer M_data (.int M_waiting) M_master M_counts M_line (.int M_length) M_sent M_state M_places M_least M_row (.int M_rowSize) (.int M_differ) (.int M_blocks) M_marks M_wrongs M_bytes M_rights M_tells M_lastMaster M_lastCounts M_word M_values M_system M_solved M_wrong _ M_depth M_fill M_half r1 hu) F ok_Mo_frameSize rfl k_1026 hK hE hP hD hS hA [0] [] rfl rfl (by decide) (by decide) (by decide) 0 rfl rfl rfl ⟨rfl, rfl, Nat.le_of_ble_eq_true rfl, Nat.le_of_ble_eq_true rfl⟩ ⟨Nat.zero_le _, Nat.zero_le _⟩ rfl hl.1 rfl (Nat.le_of_ble_eq_true rfl) d_Mo_told_65 (fun H locs hP hD hS => ?_)
      have hP : va_P D classes (w_Mo_told cI cJ qM M_pattern M_craft M_begins M_firsts M_seconds M_powers M_logarithms M_forms M_elements M_mixer M_data M_master M_counts M_line M_sent M_state M_places M_least M_row M_marks M_wrongs M_bytes M_rights M_tells M_lastMaster M_lastCounts M_word M_values M_system M_solved M_wrong t1 M_depth M_fill M_half M_waiting M_length M_rowSize M_differ M_blocks) H := hP.sub [0] rfl
      have hD : va_D A (w_Mo_told cI cJ qM M_pattern M_craft M_begins M_firsts M_seconds M_powers M_logarithms M_forms M_elements M_mixer M_data M_master M_counts M_line M_sent M_state M_places M_least M_row M_marks M_wrongs M_bytes M_rights M_tells M_lastMaster M_lastCounts M_word M_values M_system M_solved M_wrong t1 M_depth M_fill M_half M_waiting M_length M_rowSize M_differ M_blocks) := hD.sub [0] (by decide) rfl
      cases hm
      exact z_qo hQ (z_ireti hr hx hb hlocks hK hP hD hS d_Mo_told_68)
    refine z_sp hm (fun e1 hm => z_swin (tgt := 69) (off := 49) e1 hx hb d_Mo_told_20 (by decide) (by decide) (by decide) (by decide) ?_) (fun e1 hm => ?_)
    · refine lv_aload_n hx hb d_Mo_told_69 rfl (lv_at hl 0 rfl) ?_
      obtain ⟨r3, hu, hm⟩ := bd_el hm
      replace hm := nm_1 hm
      refine z_cVi (wc := w_Mo_frameSize cI cJ qM (.int t1) M_pattern M_craft M_begins M_firsts M_seconds M_powers M_logarithms M_forms M_elements M_mixer M_data (.int M_waiting) M_master M_counts M_line (.int M_length) M_sent M_state M_places M_least M_row (.int M_rowSize) (.int M_differ) (.int M_blocks) M_marks M_wrongs M_bytes M_rights M_tells M_lastMaster M_lastCounts M_word M_values M_system M_solved M_wrong M_depth M_fill M_half) (wc' := w_Mo_frameSize cI cJ qM (.int t1) M_pattern M_craft M_begins M_firsts M_seconds M_powers M_logarithms M_forms M_elements M_mixer M_data (.int M_waiting) M_master M_counts M_line (.int M_length) M_sent M_state M_places M_least M_row (.int M_rowSize) (.int M_differ) (.int M_blocks) M_marks M_wrongs M_bytes M_rights M_tells M_lastMaster M_lastCounts M_word M_values M_system M_solved M_wrong M_depth M_fill M_half) (wr := []) (As := []) (rest := []) (c_Mo_frameSize l D cI cJ tt qM (.int t1) M_pattern M_craft M_begins M_firsts M_seconds M_powers M_logarithms M_forms M_elements M_mixer M_data (.int M_waiting) M_master M_counts M_line (.int M_length) M_sent M_state M_places M_least M_row (.int M_rowSize) (.int M_differ) (.int M_blocks) M_marks M_wrongs M_bytes M_rights M_tells M_lastMaster M_lastCounts M_word M_values M_system M_solved M_wrong _ M_depth M_fill M_half r3 hu) F ok_Mo_frameSize rfl k_1026 hK hE hP hD hS hA [0] [] rfl rfl (by decide) (by decide) (by decide) 0 rfl rfl rfl ⟨rfl, rfl, Nat.le_of_ble_eq_true rfl, Nat.le_of_ble_eq_true rfl⟩ ⟨Nat.zero_le _, Nat.zero_le _⟩ rfl hl.1 rfl (Nat.le_of_ble_eq_true rfl) d_Mo_told_70 (fun H locs hP hD hS => ?_)
      have hP : va_P D classes (w_Mo_told cI cJ qM M_pattern M_craft M_begins M_firsts M_seconds M_powers M_logarithms M_forms M_elements M_mixer M_data M_master M_counts M_line M_sent M_state M_places M_least M_row M_marks M_wrongs M_bytes M_rights M_tells M_lastMaster M_lastCounts M_word M_values M_system M_solved M_wrong t1 M_depth M_fill M_half M_waiting M_length M_rowSize M_differ M_blocks) H := hP.sub [0] rfl
      have hD : va_D A (w_Mo_told cI cJ qM M_pattern M_craft M_begins M_firsts M_seconds M_powers M_logarithms M_forms M_elements M_mixer M_data M_master M_counts M_line M_sent M_state M_places M_least M_row M_marks M_wrongs M_bytes M_rights M_tells M_lastMaster M_lastCounts M_word M_values M_system M_solved M_wrong t1 M_depth M_fill M_half M_waiting M_length M_rowSize M_differ M_blocks) := hD.sub [0] (by decide) rfl
      refine lv_bipush (v := (8 : Int32)) hx hb d_Mo_told_73 (by decide) ?_
      refine lv_isub hx hb d_Mo_told_75 ?_
      cases hm
      exact z_qo hQ (z_ireti hr hx hb hlocks hK hP hD hS d_Mo_told_76)
    refine z_sp hm (fun e2 hm => z_swin (tgt := 77) (off := 57) e2 hx hb d_Mo_told_20 (by decide) (by decide) (by decide) (by decide) ?_) (fun e2 hm => ?_)
    · refine lv_aload_n hx hb d_Mo_told_77 rfl (lv_at hl 0 rfl) ?_
      obtain ⟨r5, hu, hm⟩ := bd_el hm
      replace hm := nm_1 hm
      refine z_cVi (wc := w_Mo_blockSize cI cJ qM (.int t1) (.int M_half) M_pattern M_craft M_begins M_firsts M_seconds M_powers M_logarithms M_forms M_elements M_mixer M_data (.int M_waiting) M_master M_counts M_line (.int M_length) M_sent M_state M_places M_least M_row (.int M_rowSize) (.int M_differ) (.int M_blocks) M_marks M_wrongs M_bytes M_rights M_tells M_lastMaster M_lastCounts M_word M_values M_system M_solved M_wrong M_depth M_fill) (wc' := w_Mo_blockSize cI cJ qM (.int t1) (.int M_half) M_pattern M_craft M_begins M_firsts M_seconds M_powers M_logarithms M_forms M_elements M_mixer M_data (.int M_waiting) M_master M_counts M_line (.int M_length) M_sent M_state M_places M_least M_row (.int M_rowSize) (.int M_differ) (.int M_blocks) M_marks M_wrongs M_bytes M_rights M_tells M_lastMaster M_lastCounts M_word M_values M_system M_solved M_wrong M_depth M_fill) (wr := []) (As := []) (rest := []) (c_Mo_blockSize l D cI cJ tt qM (.int t1) (.int M_half) M_pattern M_craft M_begins M_firsts M_seconds M_powers M_logarithms M_forms M_elements M_mixer M_data (.int M_waiting) M_master M_counts M_line (.int M_length) M_sent M_state M_places M_least M_row (.int M_rowSize) (.int M_differ) (.int M_blocks) M_marks M_wrongs M_bytes M_rights M_tells M_lastMaster M_lastCounts M_word M_values M_system M_solved M_wrong _ M_depth M_fill r5 hu) F ok_Mo_blockSize rfl k_1034 hK hE hP hD hS hA [0] [] rfl rfl (by decide) (by decide) (by decide) 0 rfl rfl rfl ⟨rfl, rfl, Nat.le_of_ble_eq_true rfl, Nat.le_of_ble_eq_true rfl⟩ ⟨Nat.zero_le _, Nat.zero_le _⟩ rfl hl.1 rfl (Nat.le_of_ble_eq_true rfl) d_Mo_told_78 (fun H locs hP hD hS => ?_)
      have hP : va_P D classes (w_Mo_told cI cJ qM M_pattern M_craft M_begins M_firsts M_seconds M_powers M_logarithms M_forms M_elements M_mixer M_data M_master M_counts M_line M_sent M_state M_places M_least M_row M_marks M_wrongs M_bytes M_rights M_tells M_lastMaster M_lastCounts M_word M_values M_system M_solved M_wrong t1 M_depth M_fill M_half M_waiting M_length M_rowSize M_differ M_blocks) H := hP.sub [0] rfl
      have hD : va_D A (w_Mo_told cI cJ qM M_pattern M_craft M_begins M_firsts M_seconds M_powers M_logarithms M_forms M_elements M_mixer M_data M_master M_counts M_line M_sent M_state M_places M_least M_row M_marks M_wrongs M_bytes M_rights M_tells M_lastMaster M_lastCounts M_word M_values M_system M_solved M_wrong t1 M_depth M_fill M_half M_waiting M_length M_rowSize M_differ M_blocks) := hD.sub [0] (by decide) rfl
      cases hm
      exact z_qo hQ (z_ireti hr hx hb hlocks hK hP hD hS d_Mo_told_81)
    refine z_sp hm (fun e3 hm => z_swin (tgt := 82) (off := 62) e3 hx hb d_Mo_told_20 (by decide) (by decide) (by decide) (by decide) ?_) (fun e3 hm => ?_)
    · refine lv_aload_n hx hb d_Mo_told_82 rfl (lv_at hl 0 rfl) ?_
      refine va_get (D := D) (ci := 11) (v := .int M_length) (C := "DeepChannelModel") (T := fT_Mo) (N := 40) hx hb hts u_Mo hown hK hP 0 rfl rfl 19 (by decide) (hts _ k_905) (fun _ h9 => h9) rfl d_Mo_told_83 ?_
      cases hm
      exact z_qo hQ (z_ireti hr hx hb hlocks hK hP hD hS d_Mo_told_86)
    refine z_sp hm (fun e4 hm => z_swin (tgt := 87) (off := 67) e4 hx hb d_Mo_told_20 (by decide) (by decide) (by decide) (by decide) ?_) (fun e4 hm => ?_)
    · refine lv_aload_n hx hb d_Mo_told_87 rfl (lv_at hl 0 rfl) ?_
      refine va_get (D := D) (ci := 11) (v := .int M_waiting) (C := "DeepChannelModel") (T := fT_Mo) (N := 40) hx hb hts u_Mo hown hK hP 0 rfl rfl 15 (by decide) (hts _ k_901) (fun _ h9 => h9) rfl d_Mo_told_88 ?_
      cases hm
      exact z_qo hQ (z_ireti hr hx hb hlocks hK hP hD hS d_Mo_told_91)
    refine z_sp hm (fun e5 hm => z_swin (tgt := 92) (off := 72) e5 hx hb d_Mo_told_20 (by decide) (by decide) (by decide) (by decide) ?_) (fun e5 hm => ?_)
    · refine lv_aload_n hx hb d_Mo_told_92 rfl (lv_at hl 0 rfl) ?_
      refine va_get (D := D) (ci := 11) (v := .int M_rowSize) (C := "DeepChannelModel") (T := fT_Mo) (N := 40) hx hb hts u_Mo hown hK hP 0 rfl rfl 25 (by decide) (hts _ k_911) (fun _ h9 => h9) rfl d_Mo_told_93 ?_
      cases hm
      exact z_qo hQ (z_ireti hr hx hb hlocks hK hP hD hS d_Mo_told_96)
    refine z_sp hm (fun e6 hm => z_swin (tgt := 97) (off := 77) e6 hx hb d_Mo_told_20 (by decide) (by decide) (by decide) (by decide) ?_) (fun e6 hm => ?_)
    · refine lv_aload_n hx hb d_Mo_told_97 rfl (lv_at hl 0 rfl) ?_
      refine va_get (D := D) (ci := 11) (v := .int M_differ) (C := "DeepChannelModel") (T := fT_Mo) (N := 40) hx hb hts u_Mo hown hK hP 0 rfl rfl 26 (by decide) (hts _ k_912) (fun _ h9 => h9) rfl d_Mo_told_98 ?_
      cases hm
      exact z_qo hQ (z_ireti hr hx hb hlocks hK hP hD hS d_Mo_told_101)
    refine z_swout (tgt := 102) (z_swl [(0 : Int32), (1 : Int32), (2 : Int32), (3 : Int32), (4 : Int32), (5 : Int32), (6 : Int32)] ⟨e0, e1, e2, e3, e4, e5, e6, trivial⟩ (by decide)) (by decide) hx hb d_Mo_told_20 (by decide) ?_
    refine lv_aload_n hx hb d_Mo_told_102 rfl (lv_at hl 0 rfl) ?_
    refine va_get (D := D) (ci := 11) (v := .int t1) (C := "DeepChannelModel") (T := fT_Mo) (N := 40) hx hb hts u_Mo hown hK hP 0 rfl rfl 0 (by decide) (hts _ k_886) (fun _ h9 => h9) rfl d_Mo_told_103 ?_
    refine z_if hm (lv_if_le (tgt := 113) hx hb d_Mo_told_106 (by decide)) (fun hm => ?_) (fun hm => ?_)
    · refine lv_aload_n hx hb d_Mo_told_113 rfl (lv_at hl 0 rfl) ?_
      refine va_get (D := D) (ci := 11) (v := .int M_blocks) (C := "DeepChannelModel") (T := fT_Mo) (N := 40) hx hb hts u_Mo hown hK hP 0 rfl rfl 27 (by decide) (hts _ k_913) (fun _ h9 => h9) rfl d_Mo_told_114 ?_
      cases hm
      exact z_qo hQ (z_ireti hr hx hb hlocks hK hP hD hS d_Mo_told_117)
    · refine lv_iconst (v := (0 : Int32)) hx hb d_Mo_told_109 (by decide) ?_
      refine lv_goto (tgt := 117) hx hb d_Mo_told_110 (by decide) ?_
      cases hm
      exact z_qo hQ (z_ireti hr hx hb hlocks hK hP hD hS d_Mo_told_117)
  have T11 : ∀ (x1 : Int32) (M_thrown : Int32), f_Mo_told_11 M_depth M_fill M_half M_waiting M_length M_rowSize M_differ M_blocks x1 M_thrown = some (rr, M_thrown') → ∀ (H : Heap) (locs : List Loc), va_P D classes (w_Mo_told cI cJ qM M_pattern M_craft M_begins M_firsts M_seconds M_powers M_logarithms M_forms M_elements M_mixer M_data M_master M_counts M_line M_sent M_state M_places M_least M_row M_marks M_wrongs M_bytes M_rights M_tells M_lastMaster M_lastCounts M_word M_values M_system M_solved M_wrong M_thrown M_depth M_fill M_half M_waiting M_length M_rowSize M_differ M_blocks) H → va_D A (w_Mo_told cI cJ qM M_pattern M_craft M_begins M_firsts M_seconds M_powers M_logarithms M_forms M_elements M_mixer M_data M_master M_counts M_line M_sent M_state M_places M_least M_row M_marks M_wrongs M_bytes M_rights M_tells M_lastMaster M_lastCounts M_word M_values M_system M_solved M_wrong M_thrown M_depth M_fill M_half M_waiting M_length M_rowSize M_differ M_blocks) → va_S A s.heap H locs → ∀ (ls : Array Slot), lv_has ls 2 [(0, .ref qM), (1, .int x1)] → W p l e (RM 2 40) s m args below meth c H locs 0 0 Q0 (F0 m 11 ls [.ref qM]) := by
    intro x1 M_thrown hm H locs hP hD hS ls hl
    unfold f_Mo_told_11 at hm
    refine lv_iconst (v := (1 : Int32)) hx hb d_Mo_told_11 (by decide) ?_
    refine lv_goto (tgt := 16) hx hb d_Mo_told_12 (by decide) ?_
    exact T16 x1 (1 : Int32) M_thrown hm _ _ hP hD hS _ (lv_sub hl [0, 1] rfl)
  unfold f_Mo_told at hm
  refine lv_aload_n hx hb d_Mo_told_0 rfl (lv_at hl 0 rfl) ?_
  refine lv_iload_n hx hb d_Mo_told_1 rfl (lv_at hl 1 rfl) ?_
  refine z_if hm (lv_if_lt (tgt := 11) hx hb d_Mo_told_2 (by decide)) (fun hm => ?_) (fun hm => ?_)
  · exact T11 x1 M_thrown hm _ _ hP hD hS _ (lv_sub hl [0, 1] rfl)
  · refine lv_iload_n hx hb d_Mo_told_5 rfl (lv_at hl 1 rfl) ?_
    refine lv_bipush (v := (7 : Int32)) hx hb d_Mo_told_6 (by decide) ?_
    refine z_if hm (lv_icmp_le (tgt := 15) hx hb d_Mo_told_8 (by decide)) (fun hm => ?_) (fun hm => ?_)
    · refine lv_iconst (v := (0 : Int32)) hx hb d_Mo_told_15 (by decide) ?_
      exact T16 x1 (0 : Int32) M_thrown hm _ _ hP hD hS _ (lv_sub hl [0, 1] rfl)
    · exact T11 x1 M_thrown hm _ _ hP hD hS _ (lv_sub hl [0, 1] rfl)
-- DeepChannelModel.data(IJ)I
abbrev b_Mo_data : ByteArray := prog_13_method_16_code
abbrev y_Mo_data : MethodName := ⟨"DeepChannelModel", "data", "(IJ)I"⟩
theorem d_Mo_data_0 : decode b_Mo_data 0 = .ok (.aload_n 0, 1) := by decide +kernel
theorem d_Mo_data_1 : decode b_Mo_data 1 = .ok (.iload_n 1, 1) := by decide +kernel
theorem d_Mo_data_2 : decode b_Mo_data 2 = .ok (.iconst 1, 1) := by decide +kernel
theorem d_Mo_data_3 : decode b_Mo_data 3 = .ok (.if_icmp .lt 9, 3) := by decide +kernel
theorem d_Mo_data_6 : decode b_Mo_data 6 = .ok (.iload_n 1, 1) := by decide +kernel
theorem d_Mo_data_7 : decode b_Mo_data 7 = .ok (.bipush 8, 2) := by decide +kernel
theorem d_Mo_data_9 : decode b_Mo_data 9 = .ok (.if_icmp .le 7, 3) := by decide +kernel
theorem d_Mo_data_12 : decode b_Mo_data 12 = .ok (.iconst 1, 1) := by decide +kernel
theorem d_Mo_data_13 : decode b_Mo_data 13 = .ok (.goto 4, 3) := by decide +kernel
theorem d_Mo_data_16 : decode b_Mo_data 16 = .ok (.iconst 0, 1) := by decide +kernel
theorem d_Mo_data_17 : decode b_Mo_data 17 = .ok (.putfield 103, 3) := by decide +kernel
theorem d_Mo_data_20 : decode b_Mo_data 20 = .ok (.aload_n 0, 1) := by decide +kernel
theorem d_Mo_data_21 : decode b_Mo_data 21 = .ok (.getfield 103, 3) := by decide +kernel
theorem d_Mo_data_24 : decode b_Mo_data 24 = .ok (.ifCond .le 5, 3) := by decide +kernel
theorem d_Mo_data_27 : decode b_Mo_data 27 = .ok (.iconst 0, 1) := by decide +kernel
theorem d_Mo_data_28 : decode b_Mo_data 28 = .ok (.ireturn, 1) := by decide +kernel
theorem d_Mo_data_29 : decode b_Mo_data 29 = .ok (.aload_n 0, 1) := by decide +kernel
theorem d_Mo_data_30 : decode b_Mo_data 30 = .ok (.getfield 114, 3) := by decide +kernel
theorem d_Mo_data_33 : decode b_Mo_data 33 = .ok (.iload_n 1, 1) := by decide +kernel
theorem d_Mo_data_34 : decode b_Mo_data 34 = .ok (.iadd, 1) := by decide +kernel
theorem d_Mo_data_35 : decode b_Mo_data 35 = .ok (.aload_n 0, 1) := by decide +kernel
theorem d_Mo_data_36 : decode b_Mo_data 36 = .ok (.invokevirtual 148, 3) := by decide +kernel
theorem d_Mo_data_39 : decode b_Mo_data 39 = .ok (.bipush 8, 2) := by decide +kernel
theorem d_Mo_data_41 : decode b_Mo_data 41 = .ok (.isub, 1) := by decide +kernel
theorem d_Mo_data_42 : decode b_Mo_data 42 = .ok (.if_icmp .le 5, 3) := by decide +kernel
theorem d_Mo_data_45 : decode b_Mo_data 45 = .ok (.iconst (-1), 1) := by decide +kernel
theorem d_Mo_data_46 : decode b_Mo_data 46 = .ok (.ireturn, 1) := by decide +kernel
theorem d_Mo_data_47 : decode b_Mo_data 47 = .ok (.iconst 0, 1) := by decide +kernel
theorem d_Mo_data_48 : decode b_Mo_data 48 = .ok (.istore 4, 2) := by decide +kernel
theorem d_Mo_data_50 : decode b_Mo_data 50 = .ok (.iload 4, 2) := by decide +kernel
theorem d_Mo_data_52 : decode b_Mo_data 52 = .ok (.iload_n 1, 1) := by decide +kernel
theorem d_Mo_data_53 : decode b_Mo_data 53 = .ok (.if_icmp .ge 40, 3) := by decide +kernel
theorem d_Mo_data_56 : decode b_Mo_data 56 = .ok (.aload_n 0, 1) := by decide +kernel
theorem d_Mo_data_57 : decode b_Mo_data 57 = .ok (.getfield 44, 3) := by decide +kernel
theorem d_Mo_data_60 : decode b_Mo_data 60 = .ok (.aload_n 0, 1) := by decide +kernel
theorem d_Mo_data_61 : decode b_Mo_data 61 = .ok (.getfield 114, 3) := by decide +kernel
theorem d_Mo_data_64 : decode b_Mo_data 64 = .ok (.lload_n 2, 1) := by decide +kernel
theorem d_Mo_data_65 : decode b_Mo_data 65 = .ok (.bipush 8, 2) := by decide +kernel
theorem d_Mo_data_67 : decode b_Mo_data 67 = .ok (.iload 4, 2) := by decide +kernel
theorem d_Mo_data_69 : decode b_Mo_data 69 = .ok (.imul, 1) := by decide +kernel
theorem d_Mo_data_70 : decode b_Mo_data 70 = .ok (.lshr, 1) := by decide +kernel
theorem d_Mo_data_71 : decode b_Mo_data 71 = .ok (.ldc2_w 154, 3) := by decide +kernel
theorem d_Mo_data_74 : decode b_Mo_data 74 = .ok (.land, 1) := by decide +kernel
theorem d_Mo_data_75 : decode b_Mo_data 75 = .ok (.l2i, 1) := by decide +kernel
theorem d_Mo_data_76 : decode b_Mo_data 76 = .ok (.iastore, 1) := by decide +kernel
theorem d_Mo_data_77 : decode b_Mo_data 77 = .ok (.aload_n 0, 1) := by decide +kernel
theorem d_Mo_data_78 : decode b_Mo_data 78 = .ok (.dup, 1) := by decide +kernel
theorem d_Mo_data_79 : decode b_Mo_data 79 = .ok (.getfield 114, 3) := by decide +kernel
theorem d_Mo_data_82 : decode b_Mo_data 82 = .ok (.iconst 1, 1) := by decide +kernel
theorem d_Mo_data_83 : decode b_Mo_data 83 = .ok (.iadd, 1) := by decide +kernel
theorem d_Mo_data_84 : decode b_Mo_data 84 = .ok (.putfield 114, 3) := by decide +kernel
theorem d_Mo_data_87 : decode b_Mo_data 87 = .ok (.iinc 4 1, 3) := by decide +kernel
theorem d_Mo_data_90 : decode b_Mo_data 90 = .ok (.goto (-40), 3) := by decide +kernel
theorem d_Mo_data_93 : decode b_Mo_data 93 = .ok (.aload_n 0, 1) := by decide +kernel
theorem d_Mo_data_94 : decode b_Mo_data 94 = .ok (.getfield 114, 3) := by decide +kernel
theorem d_Mo_data_97 : decode b_Mo_data 97 = .ok (.ireturn, 1) := by decide +kernel
theorem ok_Mo_data : OKv y_Mo_data b_Mo_data 5 (some .int) "DeepChannelModel" 2 := ⟨k_1041, k_1039, k_1040, k_55, by decide +kernel, by decide +kernel, by decide +kernel⟩
abbrev w_Mo_data (cI cJ : ClassId) (qM qM_data : Nat) (M_pattern M_craft M_begins M_firsts M_seconds M_powers M_logarithms M_forms M_elements M_mixer M_master M_counts M_line M_length M_sent M_state M_places M_least M_row M_rowSize M_differ M_blocks M_marks M_wrongs M_bytes M_rights M_tells M_lastMaster M_lastCounts M_word M_values M_system M_solved M_wrong : Value) (M_thrown : Int32) (M_depth : Int32) (M_fill : Int32) (M_half : Int32) (M_waiting : Int32) (M_data : Nat → Int32) : va_W := [(qM, .inr (11, [.int M_thrown, .int M_depth, .int M_fill, .int M_half, M_pattern, M_craft, M_begins, M_firsts, M_seconds, M_powers, M_logarithms, M_forms, M_elements, M_mixer, .ref qM_data, .int M_waiting, M_master, M_counts, M_line, M_length, M_sent, M_state, M_places, M_least, M_row, M_rowSize, M_differ, M_blocks, M_marks, M_wrongs, M_bytes, M_rights, M_tells, M_lastMaster, M_lastCounts, M_word, M_values, M_system, M_solved, M_wrong])), (qM_data, .inl (cI, 250, .inl M_data))]
def f_Mo_data_50_b  (kh50 : Int32 → Int64 → Int32 → Int32 → Int32 → (Nat → Int32) → Option (Int32 × Int32 × Int32 × (Nat → Int32))) (x1 : Int32) (x2 : Int64) (x4 : Int32) (M_thrown : Int32) (M_waiting : Int32) (M_data : Nat → Int32) : Option (Int32 × Int32 × Int32 × (Nat → Int32)) :=
  if x1 ≤ x4 then
    some (M_waiting, M_thrown, M_waiting, M_data)
  else
  wrI M_data 250 M_waiting ((x2 >>> (((8 : Int32) * x4).toInt64 &&& 63)) &&& (255 : Int64)).toInt32 fun g1 =>
  nm (M_waiting + (1 : Int32)) fun v2 =>
  nm (x4 + (1 : Int32)) fun v3 =>
  kh50 x1 x2 v3 M_thrown v2 g1
def f_Mo_data_50  : Nat → Int32 → Int64 → Int32 → Int32 → Int32 → (Nat → Int32) → Option (Int32 × Int32 × Int32 × (Nat → Int32))
  | 0 => fun _ _ _ _ _ _ => none
  | n + 1 => fun x1 x2 x4 M_thrown M_waiting M_data => f_Mo_data_50_b (f_Mo_data_50 n) x1 x2 x4 M_thrown M_waiting M_data
def f_Mo_data_17 (M_depth : Int32) (M_fill : Int32) (M_half : Int32) (x1 : Int32) (x2 : Int64) (t1 : Int32) (M_thrown : Int32) (M_waiting : Int32) (M_data : Nat → Int32) : Option (Int32 × Int32 × Int32 × (Nat → Int32)) :=
  if t1 ≤ 0 then
    bd (f_Mo_frameSize M_depth M_fill M_half) fun u5 =>
    nm u5 fun r4 =>
    if (M_waiting + x1) ≤ (r4 - (8 : Int32)) then
      f_Mo_data_50 10000 x1 x2 (0 : Int32) t1 M_waiting M_data
    else
    some ((-1 : Int32), t1, M_waiting, M_data)
  else
  some ((0 : Int32), t1, M_waiting, M_data)
def f_Mo_data_12 (M_depth : Int32) (M_fill : Int32) (M_half : Int32) (x1 : Int32) (x2 : Int64) (M_thrown : Int32) (M_waiting : Int32) (M_data : Nat → Int32) : Option (Int32 × Int32 × Int32 × (Nat → Int32)) :=
  f_Mo_data_17 M_depth M_fill M_half x1 x2 (1 : Int32) M_thrown M_waiting M_data
def f_Mo_data (M_thrown : Int32) (M_depth : Int32) (M_fill : Int32) (M_half : Int32) (M_waiting : Int32) (M_data : Nat → Int32) (x1 : Int32) (x2 : Int64) : Option (Int32 × Int32 × Int32 × (Nat → Int32)) :=
  if x1 < (1 : Int32) then
    f_Mo_data_12 M_depth M_fill M_half x1 x2 M_thrown M_waiting M_data
  else
  if x1 ≤ (8 : Int32) then
    f_Mo_data_17 M_depth M_fill M_half x1 x2 (0 : Int32) M_thrown M_waiting M_data
  else
  f_Mo_data_12 M_depth M_fill M_half x1 x2 M_thrown M_waiting M_data
set_option maxHeartbeats 4000000 in
set_option maxRecDepth 100000 in
theorem c_Mo_data (l : Launch) (D : va_G) (cI cJ : ClassId) (tt : Nat → Nat) (qM qM_data : Nat) (M_pattern M_craft M_begins M_firsts M_seconds M_powers M_logarithms M_forms M_elements M_mixer M_master M_counts M_line M_length M_sent M_state M_places M_least M_row M_rowSize M_differ M_blocks M_marks M_wrongs M_bytes M_rights M_tells M_lastMaster M_lastCounts M_word M_values M_system M_solved M_wrong : Value) (sz : Nat) (M_thrown : Int32) (M_depth : Int32) (M_fill : Int32) (M_half : Int32) (M_waiting : Int32) (M_data : Nat → Int32) (x1 : Int32) (x2 : Int64) (rr : Int32) (M_thrown' : Int32) (M_waiting' : Int32) (M_data' : Nat → Int32) (hm : f_Mo_data M_thrown M_depth M_fill M_half M_waiting M_data x1 x2 = some (rr, M_thrown', M_waiting', M_data')) : CTi l y_Mo_data b_Mo_data 5 (some .int) (RM 2 40) D cI cJ tt [.ref qM, .int x1, .long x2] (w_Mo_data cI cJ qM qM_data M_pattern M_craft M_begins M_firsts M_seconds M_powers M_logarithms M_forms M_elements M_mixer M_master M_counts M_line M_length M_sent M_state M_places M_least M_row M_rowSize M_differ M_blocks M_marks M_wrongs M_bytes M_rights M_tells M_lastMaster M_lastCounts M_word M_values M_system M_solved M_wrong M_thrown M_depth M_fill M_half M_waiting M_data) (w_Mo_data cI cJ qM qM_data M_pattern M_craft M_begins M_firsts M_seconds M_powers M_logarithms M_forms M_elements M_mixer M_master M_counts M_line M_length M_sent M_state M_places M_least M_row M_rowSize M_differ M_blocks M_marks M_wrongs M_bytes M_rights M_tells M_lastMaster M_lastCounts M_word M_values M_system M_solved M_wrong M_thrown' M_depth M_fill M_half M_waiting' M_data') sz rr := by
  refine Met.ofW (cc := b_Mo_data) (maxL := 5) (ret := (some .int)) (by decide) rfl ?_
  intro p e s m args below meth c s₁ B hml hv
  obtain ⟨hargs, hsz, hP, hK, hD0, hE⟩ := hv
  have hx := B.exec
  have hb := B.bytes
  have hr := B.returns
  have hts : ∀ w ∈ TB, w.before args s = true := z_mV s (atoms_spec (ws := WD y_Mo_data b_Mo_data 5 (some .int)) B.pre)
  have hown : s.vm.findClass "DeepChannelModel" = some m.cls := findClass_of_methodNamed B.named
  have hlocks := B.notSynchronized
  subst hsz
  have hD := hD0.self (sz := s.heap.size)
  generalize hAe : va_A (w_Mo_data cI cJ qM qM_data M_pattern M_craft M_begins M_firsts M_seconds M_powers M_logarithms M_forms M_elements M_mixer M_master M_counts M_line M_length M_sent M_state M_places M_least M_row M_rowSize M_differ M_blocks M_marks M_wrongs M_bytes M_rights M_tells M_lastMaster M_lastCounts M_word M_values M_system M_solved M_wrong M_thrown M_depth M_fill M_half M_waiting M_data) s.heap.size = A at hD hE ⊢
  have hA : ∀ q : Nat, s.heap.size ≤ q → A q := fun q h => by rw [← hAe]; exact Or.inr h
  have hS : va_S A s.heap s.heap [] := va_S.rf
  refine z_entry (vs := [.ref qM, .int x1, .long x2]) hargs (Nat.le_of_ble_eq_true rfl) (fun ls hl => ?_)
  have hl : lv_has ls 5 [(0, .ref qM), (1, .int x1), (2, .long x2)] := hl
  show W p l e (RM 2 40) s m args below meth c s.heap [] 0 0 _ _
  refine z_qi (fun Q0 hQ => ?_)
  have F : CallFix p m c b_Mo_data 5 s args TB "DeepChannelModel" := ⟨hx, hb, hml, hown, hts⟩
  have T50 : ∀ (n50 : Nat) (x1 : Int32) (x2 : Int64) (x4 : Int32) (M_thrown : Int32) (M_waiting : Int32) (M_data : Nat → Int32), f_Mo_data_50 n50 x1 x2 x4 M_thrown M_waiting M_data = some (rr, M_thrown', M_waiting', M_data') → ∀ (H : Heap) (locs : List Loc), va_P D classes (w_Mo_data cI cJ qM qM_data M_pattern M_craft M_begins M_firsts M_seconds M_powers M_logarithms M_forms M_elements M_mixer M_master M_counts M_line M_length M_sent M_state M_places M_least M_row M_rowSize M_differ M_blocks M_marks M_wrongs M_bytes M_rights M_tells M_lastMaster M_lastCounts M_word M_values M_system M_solved M_wrong M_thrown M_depth M_fill M_half M_waiting M_data) H → va_D A (w_Mo_data cI cJ qM qM_data M_pattern M_craft M_begins M_firsts M_seconds M_powers M_logarithms M_forms M_elements M_mixer M_master M_counts M_line M_length M_sent M_state M_places M_least M_row M_rowSize M_differ M_blocks M_marks M_wrongs M_bytes M_rights M_tells M_lastMaster M_lastCounts M_word M_values M_system M_solved M_wrong M_thrown M_depth M_fill M_half M_waiting M_data) → va_S A s.heap H locs → ∀ (ls : Array Slot), lv_has ls 5 [(0, .ref qM), (1, .int x1), (2, .long x2), (4, .int x4)] → W p l e (RM 2 40) s m args below meth c H locs 0 0 Q0 (F0 m 50 ls []) := by
    intro n50
    induction n50 with
    | zero => intro x1 x2 x4 M_thrown M_waiting M_data hm; cases hm
    | succ n50 ih50 =>
      intro x1 x2 x4 M_thrown M_waiting M_data hm H locs hP hD hS ls hl
      replace hm : f_Mo_data_50_b (f_Mo_data_50 n50) x1 x2 x4 M_thrown M_waiting M_data = some (rr, M_thrown', M_waiting', M_data') := hm
      unfold f_Mo_data_50_b at hm
      refine lv_iload hx hb d_Mo_data_50 (lv_at hl 3 rfl) ?_
      refine lv_iload_n hx hb d_Mo_data_52 rfl (lv_at hl 1 rfl) ?_
      refine z_if hm (lv_icmp_ge (tgt := 93) hx hb d_Mo_data_53 (by decide)) (fun hm => ?_) (fun hm => ?_)
      · refine lv_aload_n hx hb d_Mo_data_93 rfl (lv_at hl 0 rfl) ?_
        refine va_get (D := D) (ci := 11) (v := .int M_waiting) (C := "DeepChannelModel") (T := fT_Mo) (N := 40) hx hb hts u_Mo hown hK hP 0 rfl rfl 15 (by decide) (hts _ k_901) (fun _ h9 => h9) rfl d_Mo_data_94 ?_
        cases hm
        exact z_qo hQ (z_ireti hr hx hb hlocks hK hP hD hS d_Mo_data_97)
      · refine lv_aload_n hx hb d_Mo_data_56 rfl (lv_at hl 0 rfl) ?_
        refine va_get (D := D) (ci := 11) (v := .ref qM_data) (C := "DeepChannelModel") (T := fT_Mo) (N := 40) hx hb hts u_Mo hown hK hP 0 rfl rfl 14 (by decide) (hts _ k_900) (fun _ h9 => h9) rfl d_Mo_data_57 ?_
        refine lv_aload_n hx hb d_Mo_data_60 rfl (lv_at hl 0 rfl) ?_
        refine va_get (D := D) (ci := 11) (v := .int M_waiting) (C := "DeepChannelModel") (T := fT_Mo) (N := 40) hx hb hts u_Mo hown hK hP 0 rfl rfl 15 (by decide) (hts _ k_901) (fun _ h9 => h9) rfl d_Mo_data_61 ?_
        refine lv_lload_n hx hb d_Mo_data_64 rfl (lv_at hl 2 rfl) ?_
        refine lv_bipush (v := (8 : Int32)) hx hb d_Mo_data_65 (by decide) ?_
        refine lv_iload hx hb d_Mo_data_67 (lv_at hl 3 rfl) ?_
        refine lv_imul hx hb d_Mo_data_69 ?_
        refine lv_lshr (v := (x2 >>> (((8 : Int32) * x4).toInt64 &&& 63))) hx hb d_Mo_data_70 rfl ?_
        refine lv_ldc2 (v := (255 : Int64)) hx hb hown (hts _ k_1042) d_Mo_data_71 ?_
        refine lv_land hx hb d_Mo_data_74 ?_
        refine lv_l2i (v := ((x2 >>> (((8 : Int32) * x4).toInt64 &&& 63)) &&& (255 : Int64)).toInt32) hx hb d_Mo_data_75 rfl ?_
        refine z_iast hm hx hb hK hP hD hS 1 rfl d_Mo_data_76 (fun g1 hm H locs hP hD hS => ?_)
        have hP : va_P D classes (w_Mo_data cI cJ qM qM_data M_pattern M_craft M_begins M_firsts M_seconds M_powers M_logarithms M_forms M_elements M_mixer M_master M_counts M_line M_length M_sent M_state M_places M_least M_row M_rowSize M_differ M_blocks M_marks M_wrongs M_bytes M_rights M_tells M_lastMaster M_lastCounts M_word M_values M_system M_solved M_wrong M_thrown M_depth M_fill M_half M_waiting g1) H := hP
        have hD : va_D A (w_Mo_data cI cJ qM qM_data M_pattern M_craft M_begins M_firsts M_seconds M_powers M_logarithms M_forms M_elements M_mixer M_master M_counts M_line M_length M_sent M_state M_places M_least M_row M_rowSize M_differ M_blocks M_marks M_wrongs M_bytes M_rights M_tells M_lastMaster M_lastCounts M_word M_values M_system M_solved M_wrong M_thrown M_depth M_fill M_half M_waiting g1) := hD
        refine lv_aload_n hx hb d_Mo_data_77 rfl (lv_at hl 0 rfl) ?_
        refine lv_dup hx hb d_Mo_data_78 rfl ?_
        refine va_get (D := D) (ci := 11) (v := .int M_waiting) (C := "DeepChannelModel") (T := fT_Mo) (N := 40) hx hb hts u_Mo hown hK hP 0 rfl rfl 15 (by decide) (hts _ k_901) (fun _ h9 => h9) rfl d_Mo_data_79 ?_
        refine lv_iconst (v := (1 : Int32)) hx hb d_Mo_data_82 (by decide) ?_
        refine lv_iadd hx hb d_Mo_data_83 ?_
        refine z_nmi hm (fun v2 hm => ?_)
        refine va_put (D := D) (ci := 11) (v := .int v2) (ty := .int) (C := "DeepChannelModel") (T := fT_Mo) (N := 40) hx hb hts u_Mo fY_Mo fK_Mo fN_Mo hown hK hP hD hS 0 rfl rfl 15 (by decide) (hts _ k_901) (fun _ h9 => h9) rfl (by decide +kernel) rfl rfl (Nat.le_of_ble_eq_true rfl) d_Mo_data_84 (fun H locs hP hD hS => ?_)
        have hP : va_P D classes (w_Mo_data cI cJ qM qM_data M_pattern M_craft M_begins M_firsts M_seconds M_powers M_logarithms M_forms M_elements M_mixer M_master M_counts M_line M_length M_sent M_state M_places M_least M_row M_rowSize M_differ M_blocks M_marks M_wrongs M_bytes M_rights M_tells M_lastMaster M_lastCounts M_word M_values M_system M_solved M_wrong M_thrown M_depth M_fill M_half v2 g1) H := hP
        have hD : va_D A (w_Mo_data cI cJ qM qM_data M_pattern M_craft M_begins M_firsts M_seconds M_powers M_logarithms M_forms M_elements M_mixer M_master M_counts M_line M_length M_sent M_state M_places M_least M_row M_rowSize M_differ M_blocks M_marks M_wrongs M_bytes M_rights M_tells M_lastMaster M_lastCounts M_word M_values M_system M_solved M_wrong M_thrown M_depth M_fill M_half v2 g1) := hD
        obtain ⟨v3, ev, hm⟩ := nm_el hm
        refine lv_iinc (v := v3) (lv' := [(4, .int v3), (0, .ref qM), (1, .int x1), (2, .long x2)]) hx hb d_Mo_data_87 hl (k := 3) rfl (by rw [ev]; rfl) (by decide) rfl (fun ls hl => ?_)
        refine lv_goto (tgt := 50) hx hb d_Mo_data_90 (by decide) ?_
        exact ih50 x1 x2 v3 M_thrown v2 g1 hm _ _ hP hD hS _ (lv_sub hl [1, 2, 3, 0] rfl)
  have T17 : ∀ (x1 : Int32) (x2 : Int64) (t1 : Int32) (M_thrown : Int32) (M_waiting : Int32) (M_data : Nat → Int32), f_Mo_data_17 M_depth M_fill M_half x1 x2 t1 M_thrown M_waiting M_data = some (rr, M_thrown', M_waiting', M_data') → ∀ (H : Heap) (locs : List Loc), va_P D classes (w_Mo_data cI cJ qM qM_data M_pattern M_craft M_begins M_firsts M_seconds M_powers M_logarithms M_forms M_elements M_mixer M_master M_counts M_line M_length M_sent M_state M_places M_least M_row M_rowSize M_differ M_blocks M_marks M_wrongs M_bytes M_rights M_tells M_lastMaster M_lastCounts M_word M_values M_system M_solved M_wrong M_thrown M_depth M_fill M_half M_waiting M_data) H → va_D A (w_Mo_data cI cJ qM qM_data M_pattern M_craft M_begins M_firsts M_seconds M_powers M_logarithms M_forms M_elements M_mixer M_master M_counts M_line M_length M_sent M_state M_places M_least M_row M_rowSize M_differ M_blocks M_marks M_wrongs M_bytes M_rights M_tells M_lastMaster M_lastCounts M_word M_values M_system M_solved M_wrong M_thrown M_depth M_fill M_half M_waiting M_data) → va_S A s.heap H locs → ∀ (ls : Array Slot), lv_has ls 5 [(0, .ref qM), (1, .int x1), (2, .long x2)] → W p l e (RM 2 40) s m args below meth c H locs 0 0 Q0 (F0 m 17 ls [.int t1, .ref qM]) := by
    intro x1 x2 t1 M_thrown M_waiting M_data hm H locs hP hD hS ls hl
    unfold f_Mo_data_17 at hm
    refine va_put (D := D) (ci := 11) (v := .int t1) (ty := .int) (C := "DeepChannelModel") (T := fT_Mo) (N := 40) hx hb hts u_Mo fY_Mo fK_Mo fN_Mo hown hK hP hD hS 0 rfl rfl 0 (by decide) (hts _ k_886) (fun _ h9 => h9) rfl (by decide +kernel) rfl rfl (Nat.le_of_ble_eq_true rfl) d_Mo_data_17 (fun H locs hP hD hS => ?_)
    have hP : va_P D classes (w_Mo_data cI cJ qM qM_data M_pattern M_craft M_begins M_firsts M_seconds M_powers M_logarithms M_forms M_elements M_mixer M_master M_counts M_line M_length M_sent M_state M_places M_least M_row M_rowSize M_differ M_blocks M_marks M_wrongs M_bytes M_rights M_tells M_lastMaster M_lastCounts M_word M_values M_system M_solved M_wrong t1 M_depth M_fill M_half M_waiting M_data) H := hP
    have hD : va_D A (w_Mo_data cI cJ qM qM_data M_pattern M_craft M_begins M_firsts M_seconds M_powers M_logarithms M_forms M_elements M_mixer M_master M_counts M_line M_length M_sent M_state M_places M_least M_row M_rowSize M_differ M_blocks M_marks M_wrongs M_bytes M_rights M_tells M_lastMaster M_lastCounts M_word M_values M_system M_solved M_wrong t1 M_depth M_fill M_half M_waiting M_data) := hD
    refine lv_aload_n hx hb d_Mo_data_20 rfl (lv_at hl 0 rfl) ?_
    refine va_get (D := D) (ci := 11) (v := .int t1) (C := "DeepChannelModel") (T := fT_Mo) (N := 40) hx hb hts u_Mo hown hK hP 0 rfl rfl 0 (by decide) (hts _ k_886) (fun _ h9 => h9) rfl d_Mo_data_21 ?_
    refine z_if hm (lv_if_le (tgt := 29) hx hb d_Mo_data_24 (by decide)) (fun hm => ?_) (fun hm => ?_)
    · refine lv_aload_n hx hb d_Mo_data_29 rfl (lv_at hl 0 rfl) ?_
      refine va_get (D := D) (ci := 11) (v := .int M_waiting) (C := "DeepChannelModel") (T := fT_Mo) (N := 40) hx hb hts u_Mo hown hK hP 0 rfl rfl 15 (by decide) (hts _ k_901) (fun _ h9 => h9) rfl d_Mo_data_30 ?_
      refine lv_iload_n hx hb d_Mo_data_33 rfl (lv_at hl 1 rfl) ?_
      refine lv_iadd hx hb d_Mo_data_34 ?_
      refine lv_aload_n hx hb d_Mo_data_35 rfl (lv_at hl 0 rfl) ?_
      obtain ⟨r4, hu, hm⟩ := bd_el hm
      replace hm := nm_1 hm
      refine z_cVi (wc := w_Mo_frameSize cI cJ qM (.int t1) M_pattern M_craft M_begins M_firsts M_seconds M_powers M_logarithms M_forms M_elements M_mixer (.ref qM_data) (.int M_waiting) M_master M_counts M_line M_length M_sent M_state M_places M_least M_row M_rowSize M_differ M_blocks M_marks M_wrongs M_bytes M_rights M_tells M_lastMaster M_lastCounts M_word M_values M_system M_solved M_wrong M_depth M_fill M_half) (wc' := w_Mo_frameSize cI cJ qM (.int t1) M_pattern M_craft M_begins M_firsts M_seconds M_powers M_logarithms M_forms M_elements M_mixer (.ref qM_data) (.int M_waiting) M_master M_counts M_line M_length M_sent M_state M_places M_least M_row M_rowSize M_differ M_blocks M_marks M_wrongs M_bytes M_rights M_tells M_lastMaster M_lastCounts M_word M_values M_system M_solved M_wrong M_depth M_fill M_half) (wr := [(qM_data, .inl (cI, 250, .inl M_data))]) (As := []) (rest := [.int (M_waiting + x1)]) (c_Mo_frameSize l D cI cJ tt qM (.int t1) M_pattern M_craft M_begins M_firsts M_seconds M_powers M_logarithms M_forms M_elements M_mixer (.ref qM_data) (.int M_waiting) M_master M_counts M_line M_length M_sent M_state M_places M_least M_row M_rowSize M_differ M_blocks M_marks M_wrongs M_bytes M_rights M_tells M_lastMaster M_lastCounts M_word M_values M_system M_solved M_wrong _ M_depth M_fill M_half r4 hu) F ok_Mo_frameSize rfl k_1026 hK hE hP hD hS hA [0] [1] rfl rfl (by decide) (by decide) (by decide) 0 rfl rfl rfl ⟨rfl, rfl, Nat.le_of_ble_eq_true rfl, Nat.le_of_ble_eq_true rfl⟩ ⟨Nat.zero_le _, Nat.zero_le _⟩ rfl hl.1 rfl (Nat.le_of_ble_eq_true rfl) d_Mo_data_36 (fun H locs hP hD hS => ?_)
      have hP : va_P D classes (w_Mo_data cI cJ qM qM_data M_pattern M_craft M_begins M_firsts M_seconds M_powers M_logarithms M_forms M_elements M_mixer M_master M_counts M_line M_length M_sent M_state M_places M_least M_row M_rowSize M_differ M_blocks M_marks M_wrongs M_bytes M_rights M_tells M_lastMaster M_lastCounts M_word M_values M_system M_solved M_wrong t1 M_depth M_fill M_half M_waiting M_data) H := hP.sub [1, 0] rfl
      have hD : va_D A (w_Mo_data cI cJ qM qM_data M_pattern M_craft M_begins M_firsts M_seconds M_powers M_logarithms M_forms M_elements M_mixer M_master M_counts M_line M_length M_sent M_state M_places M_least M_row M_rowSize M_differ M_blocks M_marks M_wrongs M_bytes M_rights M_tells M_lastMaster M_lastCounts M_word M_values M_system M_solved M_wrong t1 M_depth M_fill M_half M_waiting M_data) := hD.sub [1, 0] (by decide) rfl
      refine lv_bipush (v := (8 : Int32)) hx hb d_Mo_data_39 (by decide) ?_
      refine lv_isub hx hb d_Mo_data_41 ?_
      refine z_if hm (lv_icmp_le (tgt := 47) hx hb d_Mo_data_42 (by decide)) (fun hm => ?_) (fun hm => ?_)
      · refine lv_iconst (v := (0 : Int32)) hx hb d_Mo_data_47 (by decide) ?_
        refine lv_istore (lv' := [(4, .int (0 : Int32)), (0, .ref qM), (1, .int x1), (2, .long x2)]) hx hb d_Mo_data_48 hl (by decide) rfl (fun ls hl => ?_)
        exact T50 10000 x1 x2 (0 : Int32) t1 M_waiting M_data hm _ _ hP hD hS _ (lv_sub hl [1, 2, 3, 0] rfl)
      · refine lv_iconst (v := (-1 : Int32)) hx hb d_Mo_data_45 (by decide) ?_
        cases hm
        exact z_qo hQ (z_ireti hr hx hb hlocks hK hP hD hS d_Mo_data_46)
    · refine lv_iconst (v := (0 : Int32)) hx hb d_Mo_data_27 (by decide) ?_
      cases hm
      exact z_qo hQ (z_ireti hr hx hb hlocks hK hP hD hS d_Mo_data_28)
  have T12 : ∀ (x1 : Int32) (x2 : Int64) (M_thrown : Int32) (M_waiting : Int32) (M_data : Nat → Int32), f_Mo_data_12 M_depth M_fill M_half x1 x2 M_thrown M_waiting M_data = some (rr, M_thrown', M_waiting', M_data') → ∀ (H : Heap) (locs : List Loc), va_P D classes (w_Mo_data cI cJ qM qM_data M_pattern M_craft M_begins M_firsts M_seconds M_powers M_logarithms M_forms M_elements M_mixer M_master M_counts M_line M_length M_sent M_state M_places M_least M_row M_rowSize M_differ M_blocks M_marks M_wrongs M_bytes M_rights M_tells M_lastMaster M_lastCounts M_word M_values M_system M_solved M_wrong M_thrown M_depth M_fill M_half M_waiting M_data) H → va_D A (w_Mo_data cI cJ qM qM_data M_pattern M_craft M_begins M_firsts M_seconds M_powers M_logarithms M_forms M_elements M_mixer M_master M_counts M_line M_length M_sent M_state M_places M_least M_row M_rowSize M_differ M_blocks M_marks M_wrongs M_bytes M_rights M_tells M_lastMaster M_lastCounts M_word M_values M_system M_solved M_wrong M_thrown M_depth M_fill M_half M_waiting M_data) → va_S A s.heap H locs → ∀ (ls : Array Slot), lv_has ls 5 [(0, .ref qM), (1, .int x1), (2, .long x2)] → W p l e (RM 2 40) s m args below meth c H locs 0 0 Q0 (F0 m 12 ls [.ref qM]) := by
    intro x1 x2 M_thrown M_waiting M_data hm H locs hP hD hS ls hl
    unfold f_Mo_data_12 at hm
    refine lv_iconst (v := (1 : Int32)) hx hb d_Mo_data_12 (by decide) ?_
    refine lv_goto (tgt := 17) hx hb d_Mo_data_13 (by decide) ?_
    exact T17 x1 x2 (1 : Int32) M_thrown M_waiting M_data hm _ _ hP hD hS _ (lv_sub hl [0, 1, 2] rfl)
  unfold f_Mo_data at hm
  refine lv_aload_n hx hb d_Mo_data_0 rfl (lv_at hl 0 rfl) ?_
  refine lv_iload_n hx hb d_Mo_data_1 rfl (lv_at hl 1 rfl) ?_
  refine lv_iconst (v := (1 : Int32)) hx hb d_Mo_data_2 (by decide) ?_
  refine z_if hm (lv_icmp_lt (tgt := 12) hx hb d_Mo_data_3 (by decide)) (fun hm => ?_) (fun hm => ?_)
  · exact T12 x1 x2 M_thrown M_waiting M_data hm _ _ hP hD hS _ (lv_sub hl [0, 1, 2] rfl)
  · refine lv_iload_n hx hb d_Mo_data_6 rfl (lv_at hl 1 rfl) ?_
    refine lv_bipush (v := (8 : Int32)) hx hb d_Mo_data_7 (by decide) ?_
    refine z_if hm (lv_icmp_le (tgt := 16) hx hb d_Mo_data_9 (by decide)) (fun hm => ?_) (fun hm => ?_)
    · refine lv_iconst (v := (0 : Int32)) hx hb d_Mo_data_16 (by decide) ?_
      exact T17 x1 x2 (0 : Int32) M_thrown M_waiting M_data hm _ _ hP hD hS _ (lv_sub hl [0, 1, 2] rfl)
    · exact T12 x1 x2 M_thrown M_waiting M_data hm _ _ hP hD hS _ (lv_sub hl [0, 1, 2] rfl)
