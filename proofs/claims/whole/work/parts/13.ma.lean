-- DeepChannelModel.kept([II)I
abbrev b_Mo_kept : ByteArray := prog_13_method_17_code
abbrev y_Mo_kept : MethodName := ⟨"DeepChannelModel", "kept", "([II)I"⟩
theorem d_Mo_kept_0 : decode b_Mo_kept 0 = .ok (.aload_n 1, 1) := by decide +kernel
theorem d_Mo_kept_1 : decode b_Mo_kept 1 = .ok (.aload_n 0, 1) := by decide +kernel
theorem d_Mo_kept_2 : decode b_Mo_kept 2 = .ok (.getfield 19, 3) := by decide +kernel
theorem d_Mo_kept_5 : decode b_Mo_kept 5 = .ok (.aload_n 0, 1) := by decide +kernel
theorem d_Mo_kept_6 : decode b_Mo_kept 6 = .ok (.getfield 142, 3) := by decide +kernel
theorem d_Mo_kept_9 : decode b_Mo_kept 9 = .ok (.iaload, 1) := by decide +kernel
theorem d_Mo_kept_10 : decode b_Mo_kept 10 = .ok (.iload_n 2, 1) := by decide +kernel
theorem d_Mo_kept_11 : decode b_Mo_kept 11 = .ok (.aload_n 0, 1) := by decide +kernel
theorem d_Mo_kept_12 : decode b_Mo_kept 12 = .ok (.getfield 19, 3) := by decide +kernel
theorem d_Mo_kept_15 : decode b_Mo_kept 15 = .ok (.aload_n 0, 1) := by decide +kernel
theorem d_Mo_kept_16 : decode b_Mo_kept 16 = .ok (.getfield 142, 3) := by decide +kernel
theorem d_Mo_kept_19 : decode b_Mo_kept 19 = .ok (.iconst 1, 1) := by decide +kernel
theorem d_Mo_kept_20 : decode b_Mo_kept 20 = .ok (.iadd, 1) := by decide +kernel
theorem d_Mo_kept_21 : decode b_Mo_kept 21 = .ok (.iaload, 1) := by decide +kernel
theorem d_Mo_kept_22 : decode b_Mo_kept 22 = .ok (.aload_n 0, 1) := by decide +kernel
theorem d_Mo_kept_23 : decode b_Mo_kept 23 = .ok (.getfield 19, 3) := by decide +kernel
theorem d_Mo_kept_26 : decode b_Mo_kept 26 = .ok (.aload_n 0, 1) := by decide +kernel
theorem d_Mo_kept_27 : decode b_Mo_kept 27 = .ok (.getfield 142, 3) := by decide +kernel
theorem d_Mo_kept_30 : decode b_Mo_kept 30 = .ok (.iaload, 1) := by decide +kernel
theorem d_Mo_kept_31 : decode b_Mo_kept 31 = .ok (.isub, 1) := by decide +kernel
theorem d_Mo_kept_32 : decode b_Mo_kept 32 = .ok (.irem, 1) := by decide +kernel
theorem d_Mo_kept_33 : decode b_Mo_kept 33 = .ok (.iadd, 1) := by decide +kernel
theorem d_Mo_kept_34 : decode b_Mo_kept 34 = .ok (.iaload, 1) := by decide +kernel
theorem d_Mo_kept_35 : decode b_Mo_kept 35 = .ok (.ireturn, 1) := by decide +kernel
theorem ok_Mo_kept : OKv y_Mo_kept b_Mo_kept 3 (some .int) "DeepChannelModel" 2 := ⟨k_1054, k_1053, k_21, k_55, by decide +kernel, by decide +kernel, by decide +kernel⟩
abbrev w_Mo_kept (cI cJ : ClassId) (qM qM_begins qP1 : Nat) (M_thrown M_depth M_fill M_half M_craft M_firsts M_seconds M_powers M_logarithms M_forms M_elements M_mixer M_data M_waiting M_master M_counts M_line M_length M_sent M_state M_places M_least M_row M_rowSize M_differ M_blocks M_marks M_wrongs M_bytes M_rights M_tells M_lastMaster M_lastCounts M_word M_values M_system M_solved M_wrong : Value) (nP1 : Nat) (M_pattern : Int32) (M_begins : Nat → Int32) (p1 : Nat → Int32) : va_W := [(qM, .inr (11, [M_thrown, M_depth, M_fill, M_half, .int M_pattern, M_craft, .ref qM_begins, M_firsts, M_seconds, M_powers, M_logarithms, M_forms, M_elements, M_mixer, M_data, M_waiting, M_master, M_counts, M_line, M_length, M_sent, M_state, M_places, M_least, M_row, M_rowSize, M_differ, M_blocks, M_marks, M_wrongs, M_bytes, M_rights, M_tells, M_lastMaster, M_lastCounts, M_word, M_values, M_system, M_solved, M_wrong])), (qM_begins, .inl (cI, 6, .inl M_begins)), (qP1, .inl (cI, nP1, .inl p1))]
def f_Mo_kept (M_pattern : Int32) (M_begins : Nat → Int32) (p1 : Nat → Int32) (nP1 : Nat) (x2 : Int32) : Option (Int32) :=
  rdI M_begins 6 M_pattern fun v1 =>
  rdI M_begins 6 (M_pattern + (1 : Int32)) fun v2 =>
  rdI M_begins 6 M_pattern fun v3 =>
  dv (v2 - v3) <|
  rdI p1 nP1 (v1 + (x2 - x2 / (v2 - v3) * (v2 - v3))) fun v4 =>
  some v4
set_option maxHeartbeats 4000000 in
set_option maxRecDepth 100000 in
theorem c_Mo_kept (l : Launch) (D : va_G) (cI cJ : ClassId) (tt : Nat → Nat) (qM qM_begins qP1 : Nat) (M_thrown M_depth M_fill M_half M_craft M_firsts M_seconds M_powers M_logarithms M_forms M_elements M_mixer M_data M_waiting M_master M_counts M_line M_length M_sent M_state M_places M_least M_row M_rowSize M_differ M_blocks M_marks M_wrongs M_bytes M_rights M_tells M_lastMaster M_lastCounts M_word M_values M_system M_solved M_wrong : Value) (nP1 : Nat) (sz : Nat) (M_pattern : Int32) (M_begins : Nat → Int32) (p1 : Nat → Int32) (x2 : Int32) (rr : Int32) (hm : f_Mo_kept M_pattern M_begins p1 nP1 x2 = some rr) : CTi l y_Mo_kept b_Mo_kept 3 (some .int) (RM 0 0) D cI cJ tt [.ref qM, .ref qP1, .int x2] (w_Mo_kept cI cJ qM qM_begins qP1 M_thrown M_depth M_fill M_half M_craft M_firsts M_seconds M_powers M_logarithms M_forms M_elements M_mixer M_data M_waiting M_master M_counts M_line M_length M_sent M_state M_places M_least M_row M_rowSize M_differ M_blocks M_marks M_wrongs M_bytes M_rights M_tells M_lastMaster M_lastCounts M_word M_values M_system M_solved M_wrong nP1 M_pattern M_begins p1) (w_Mo_kept cI cJ qM qM_begins qP1 M_thrown M_depth M_fill M_half M_craft M_firsts M_seconds M_powers M_logarithms M_forms M_elements M_mixer M_data M_waiting M_master M_counts M_line M_length M_sent M_state M_places M_least M_row M_rowSize M_differ M_blocks M_marks M_wrongs M_bytes M_rights M_tells M_lastMaster M_lastCounts M_word M_values M_system M_solved M_wrong nP1 M_pattern M_begins p1) sz rr := by
  refine Met.ofW (cc := b_Mo_kept) (maxL := 3) (ret := (some .int)) (by decide) rfl ?_
  intro p e s m args below meth c s₁ B hml hv
  obtain ⟨hargs, hsz, hP, hK, hD0, hE⟩ := hv
  have hx := B.exec
  have hb := B.bytes
  have hr := B.returns
  have hts : ∀ w ∈ TB, w.before args s = true := z_mV s (atoms_spec (ws := WD y_Mo_kept b_Mo_kept 3 (some .int)) B.pre)
  have hown : s.vm.findClass "DeepChannelModel" = some m.cls := findClass_of_methodNamed B.named
  have hlocks := B.notSynchronized
  subst hsz
  have hD := hD0.self (sz := s.heap.size)
  generalize hAe : va_A (w_Mo_kept cI cJ qM qM_begins qP1 M_thrown M_depth M_fill M_half M_craft M_firsts M_seconds M_powers M_logarithms M_forms M_elements M_mixer M_data M_waiting M_master M_counts M_line M_length M_sent M_state M_places M_least M_row M_rowSize M_differ M_blocks M_marks M_wrongs M_bytes M_rights M_tells M_lastMaster M_lastCounts M_word M_values M_system M_solved M_wrong nP1 M_pattern M_begins p1) s.heap.size = A at hD hE ⊢
  have hA : ∀ q : Nat, s.heap.size ≤ q → A q := fun q h => by rw [← hAe]; exact Or.inr h
  have hS : va_S A s.heap s.heap [] := va_S.rf
  refine z_entry (vs := [.ref qM, .ref qP1, .int x2]) hargs (Nat.le_of_ble_eq_true rfl) (fun ls hl => ?_)
  have hl : lv_has ls 3 [(0, .ref qM), (1, .ref qP1), (2, .int x2)] := hl
  show W p l e (RM 0 0) s m args below meth c s.heap [] 0 0 _ _
  refine z_qi (fun Q0 hQ => ?_)
  have F : CallFix p m c b_Mo_kept 3 s args TB "DeepChannelModel" := ⟨hx, hb, hml, hown, hts⟩
  unfold f_Mo_kept at hm
  refine lv_aload_n hx hb d_Mo_kept_0 rfl (lv_at hl 1 rfl) ?_
  refine lv_aload_n hx hb d_Mo_kept_1 rfl (lv_at hl 0 rfl) ?_
  refine va_get (D := D) (ci := 11) (v := .ref qM_begins) (C := "DeepChannelModel") (T := fT_Mo) (N := 40) hx hb hts u_Mo hown hK hP 0 rfl rfl 6 (by decide) (hts _ k_892) (fun _ h9 => h9) rfl d_Mo_kept_2 ?_
  refine lv_aload_n hx hb d_Mo_kept_5 rfl (lv_at hl 0 rfl) ?_
  refine va_get (D := D) (ci := 11) (v := .int M_pattern) (C := "DeepChannelModel") (T := fT_Mo) (N := 40) hx hb hts u_Mo hown hK hP 0 rfl rfl 4 (by decide) (hts _ k_890) (fun _ h9 => h9) rfl d_Mo_kept_6 ?_
  refine z_iald hm hx hb hK hP 1 rfl d_Mo_kept_9 (fun v1 hm => ?_)
  refine lv_iload_n hx hb d_Mo_kept_10 rfl (lv_at hl 2 rfl) ?_
  refine lv_aload_n hx hb d_Mo_kept_11 rfl (lv_at hl 0 rfl) ?_
  refine va_get (D := D) (ci := 11) (v := .ref qM_begins) (C := "DeepChannelModel") (T := fT_Mo) (N := 40) hx hb hts u_Mo hown hK hP 0 rfl rfl 6 (by decide) (hts _ k_892) (fun _ h9 => h9) rfl d_Mo_kept_12 ?_
  refine lv_aload_n hx hb d_Mo_kept_15 rfl (lv_at hl 0 rfl) ?_
  refine va_get (D := D) (ci := 11) (v := .int M_pattern) (C := "DeepChannelModel") (T := fT_Mo) (N := 40) hx hb hts u_Mo hown hK hP 0 rfl rfl 4 (by decide) (hts _ k_890) (fun _ h9 => h9) rfl d_Mo_kept_16 ?_
  refine lv_iconst (v := (1 : Int32)) hx hb d_Mo_kept_19 (by decide) ?_
  refine lv_iadd hx hb d_Mo_kept_20 ?_
  refine z_iald hm hx hb hK hP 1 rfl d_Mo_kept_21 (fun v2 hm => ?_)
  refine lv_aload_n hx hb d_Mo_kept_22 rfl (lv_at hl 0 rfl) ?_
  refine va_get (D := D) (ci := 11) (v := .ref qM_begins) (C := "DeepChannelModel") (T := fT_Mo) (N := 40) hx hb hts u_Mo hown hK hP 0 rfl rfl 6 (by decide) (hts _ k_892) (fun _ h9 => h9) rfl d_Mo_kept_23 ?_
  refine lv_aload_n hx hb d_Mo_kept_26 rfl (lv_at hl 0 rfl) ?_
  refine va_get (D := D) (ci := 11) (v := .int M_pattern) (C := "DeepChannelModel") (T := fT_Mo) (N := 40) hx hb hts u_Mo hown hK hP 0 rfl rfl 4 (by decide) (hts _ k_890) (fun _ h9 => h9) rfl d_Mo_kept_27 ?_
  refine z_iald hm hx hb hK hP 1 rfl d_Mo_kept_30 (fun v3 hm => ?_)
  refine lv_isub hx hb d_Mo_kept_31 ?_
  refine z_irem hm hx hb d_Mo_kept_32 (fun hm => ?_)
  refine lv_iadd hx hb d_Mo_kept_33 ?_
  refine z_iald hm hx hb hK hP 2 rfl d_Mo_kept_34 (fun v4 hm => ?_)
  cases hm
  exact z_qo hQ (z_ireti hr hx hb hlocks hK hP hD hS d_Mo_kept_35)
-- DeepChannelModel.linesOf(II)I
abbrev b_Mo_linesOf : ByteArray := prog_13_method_18_code
abbrev y_Mo_linesOf : MethodName := ⟨"DeepChannelModel", "linesOf", "(II)I"⟩
theorem d_Mo_linesOf_0 : decode b_Mo_linesOf 0 = .ok (.iconst 0, 1) := by decide +kernel
theorem d_Mo_linesOf_1 : decode b_Mo_linesOf 1 = .ok (.istore_n 3, 1) := by decide +kernel
theorem d_Mo_linesOf_2 : decode b_Mo_linesOf 2 = .ok (.iload_n 1, 1) := by decide +kernel
theorem d_Mo_linesOf_3 : decode b_Mo_linesOf 3 = .ok (.istore 4, 2) := by decide +kernel
theorem d_Mo_linesOf_5 : decode b_Mo_linesOf 5 = .ok (.iload 4, 2) := by decide +kernel
theorem d_Mo_linesOf_7 : decode b_Mo_linesOf 7 = .ok (.iload_n 1, 1) := by decide +kernel
theorem d_Mo_linesOf_8 : decode b_Mo_linesOf 8 = .ok (.iload_n 2, 1) := by decide +kernel
theorem d_Mo_linesOf_9 : decode b_Mo_linesOf 9 = .ok (.iadd, 1) := by decide +kernel
theorem d_Mo_linesOf_10 : decode b_Mo_linesOf 10 = .ok (.if_icmp .ge 33, 3) := by decide +kernel
theorem d_Mo_linesOf_13 : decode b_Mo_linesOf 13 = .ok (.iload_n 3, 1) := by decide +kernel
theorem d_Mo_linesOf_14 : decode b_Mo_linesOf 14 = .ok (.aload_n 0, 1) := by decide +kernel
theorem d_Mo_linesOf_15 : decode b_Mo_linesOf 15 = .ok (.aload_n 0, 1) := by decide +kernel
theorem d_Mo_linesOf_16 : decode b_Mo_linesOf 16 = .ok (.getfield 23, 3) := by decide +kernel
theorem d_Mo_linesOf_19 : decode b_Mo_linesOf 19 = .ok (.iload 4, 2) := by decide +kernel
theorem d_Mo_linesOf_21 : decode b_Mo_linesOf 21 = .ok (.invokevirtual 156, 3) := by decide +kernel
theorem d_Mo_linesOf_24 : decode b_Mo_linesOf 24 = .ok (.iadd, 1) := by decide +kernel
theorem d_Mo_linesOf_25 : decode b_Mo_linesOf 25 = .ok (.aload_n 0, 1) := by decide +kernel
theorem d_Mo_linesOf_26 : decode b_Mo_linesOf 26 = .ok (.aload_n 0, 1) := by decide +kernel
theorem d_Mo_linesOf_27 : decode b_Mo_linesOf 27 = .ok (.getfield 26, 3) := by decide +kernel
theorem d_Mo_linesOf_30 : decode b_Mo_linesOf 30 = .ok (.iload 4, 2) := by decide +kernel
theorem d_Mo_linesOf_32 : decode b_Mo_linesOf 32 = .ok (.invokevirtual 156, 3) := by decide +kernel
theorem d_Mo_linesOf_35 : decode b_Mo_linesOf 35 = .ok (.iadd, 1) := by decide +kernel
theorem d_Mo_linesOf_36 : decode b_Mo_linesOf 36 = .ok (.istore_n 3, 1) := by decide +kernel
theorem d_Mo_linesOf_37 : decode b_Mo_linesOf 37 = .ok (.iinc 4 1, 3) := by decide +kernel
theorem d_Mo_linesOf_40 : decode b_Mo_linesOf 40 = .ok (.goto (-35), 3) := by decide +kernel
theorem d_Mo_linesOf_43 : decode b_Mo_linesOf 43 = .ok (.iload_n 3, 1) := by decide +kernel
theorem d_Mo_linesOf_44 : decode b_Mo_linesOf 44 = .ok (.ireturn, 1) := by decide +kernel
theorem ok_Mo_linesOf : OKv y_Mo_linesOf b_Mo_linesOf 5 (some .int) "DeepChannelModel" 2 := ⟨k_1050, k_1049, k_20, k_55, by decide +kernel, by decide +kernel, by decide +kernel⟩
abbrev w_Mo_linesOf (cI cJ : ClassId) (qM qM_begins qM_firsts qM_seconds : Nat) (M_thrown M_depth M_fill M_half M_craft M_powers M_logarithms M_forms M_elements M_mixer M_data M_waiting M_master M_counts M_line M_length M_sent M_state M_places M_least M_row M_rowSize M_differ M_blocks M_marks M_wrongs M_bytes M_rights M_tells M_lastMaster M_lastCounts M_word M_values M_system M_solved M_wrong : Value) (M_pattern : Int32) (M_begins : Nat → Int32) (M_firsts : Nat → Int32) (M_seconds : Nat → Int32) : va_W := [(qM, .inr (11, [M_thrown, M_depth, M_fill, M_half, .int M_pattern, M_craft, .ref qM_begins, .ref qM_firsts, .ref qM_seconds, M_powers, M_logarithms, M_forms, M_elements, M_mixer, M_data, M_waiting, M_master, M_counts, M_line, M_length, M_sent, M_state, M_places, M_least, M_row, M_rowSize, M_differ, M_blocks, M_marks, M_wrongs, M_bytes, M_rights, M_tells, M_lastMaster, M_lastCounts, M_word, M_values, M_system, M_solved, M_wrong])), (qM_begins, .inl (cI, 6, .inl M_begins)), (qM_firsts, .inl (cI, 18, .inl M_firsts)), (qM_seconds, .inl (cI, 18, .inl M_seconds))]
def f_Mo_linesOf_5_b (M_pattern : Int32) (M_begins : Nat → Int32) (M_firsts : Nat → Int32) (M_seconds : Nat → Int32) (kh5 : Int32 → Int32 → Int32 → Int32 → Option (Int32)) (x1 : Int32) (x2 : Int32) (x3 : Int32) (x4 : Int32) : Option (Int32) :=
  if (x1 + x2) ≤ x4 then
    some x3
  else
  bd (f_Mo_kept M_pattern M_begins M_firsts 18 x4) fun u2 =>
  nm u2 fun r1 =>
  bd (f_Mo_kept M_pattern M_begins M_seconds 18 x4) fun u4 =>
  nm u4 fun r3 =>
  nm ((x3 + r1) + r3) fun v5 =>
  nm (x4 + (1 : Int32)) fun v6 =>
  kh5 x1 x2 v5 v6
def f_Mo_linesOf_5 (M_pattern : Int32) (M_begins : Nat → Int32) (M_firsts : Nat → Int32) (M_seconds : Nat → Int32) : Nat → Int32 → Int32 → Int32 → Int32 → Option (Int32)
  | 0 => fun _ _ _ _ => none
  | n + 1 => fun x1 x2 x3 x4 => f_Mo_linesOf_5_b M_pattern M_begins M_firsts M_seconds (f_Mo_linesOf_5 M_pattern M_begins M_firsts M_seconds n) x1 x2 x3 x4
def f_Mo_linesOf (M_pattern : Int32) (M_begins : Nat → Int32) (M_firsts : Nat → Int32) (M_seconds : Nat → Int32) (x1 : Int32) (x2 : Int32) : Option (Int32) :=
  f_Mo_linesOf_5 M_pattern M_begins M_firsts M_seconds 10000 x1 x2 (0 : Int32) x1
set_option maxHeartbeats 4000000 in
set_option maxRecDepth 100000 in
theorem c_Mo_linesOf (l : Launch) (D : va_G) (cI cJ : ClassId) (tt : Nat → Nat) (qM qM_begins qM_firsts qM_seconds : Nat) (M_thrown M_depth M_fill M_half M_craft M_powers M_logarithms M_forms M_elements M_mixer M_data M_waiting M_master M_counts M_line M_length M_sent M_state M_places M_least M_row M_rowSize M_differ M_blocks M_marks M_wrongs M_bytes M_rights M_tells M_lastMaster M_lastCounts M_word M_values M_system M_solved M_wrong : Value) (sz : Nat) (M_pattern : Int32) (M_begins : Nat → Int32) (M_firsts : Nat → Int32) (M_seconds : Nat → Int32) (x1 : Int32) (x2 : Int32) (rr : Int32) (hm : f_Mo_linesOf M_pattern M_begins M_firsts M_seconds x1 x2 = some rr) : CTi l y_Mo_linesOf b_Mo_linesOf 5 (some .int) (RM 1 22) D cI cJ tt [.ref qM, .int x1, .int x2] (w_Mo_linesOf cI cJ qM qM_begins qM_firsts qM_seconds M_thrown M_depth M_fill M_half M_craft M_powers M_logarithms M_forms M_elements M_mixer M_data M_waiting M_master M_counts M_line M_length M_sent M_state M_places M_least M_row M_rowSize M_differ M_blocks M_marks M_wrongs M_bytes M_rights M_tells M_lastMaster M_lastCounts M_word M_values M_system M_solved M_wrong M_pattern M_begins M_firsts M_seconds) (w_Mo_linesOf cI cJ qM qM_begins qM_firsts qM_seconds M_thrown M_depth M_fill M_half M_craft M_powers M_logarithms M_forms M_elements M_mixer M_data M_waiting M_master M_counts M_line M_length M_sent M_state M_places M_least M_row M_rowSize M_differ M_blocks M_marks M_wrongs M_bytes M_rights M_tells M_lastMaster M_lastCounts M_word M_values M_system M_solved M_wrong M_pattern M_begins M_firsts M_seconds) sz rr := by
  refine Met.ofW (cc := b_Mo_linesOf) (maxL := 5) (ret := (some .int)) (by decide) rfl ?_
  intro p e s m args below meth c s₁ B hml hv
  obtain ⟨hargs, hsz, hP, hK, hD0, hE⟩ := hv
  have hx := B.exec
  have hb := B.bytes
  have hr := B.returns
  have hts : ∀ w ∈ TB, w.before args s = true := z_mV s (atoms_spec (ws := WD y_Mo_linesOf b_Mo_linesOf 5 (some .int)) B.pre)
  have hown : s.vm.findClass "DeepChannelModel" = some m.cls := findClass_of_methodNamed B.named
  have hlocks := B.notSynchronized
  subst hsz
  have hD := hD0.self (sz := s.heap.size)
  generalize hAe : va_A (w_Mo_linesOf cI cJ qM qM_begins qM_firsts qM_seconds M_thrown M_depth M_fill M_half M_craft M_powers M_logarithms M_forms M_elements M_mixer M_data M_waiting M_master M_counts M_line M_length M_sent M_state M_places M_least M_row M_rowSize M_differ M_blocks M_marks M_wrongs M_bytes M_rights M_tells M_lastMaster M_lastCounts M_word M_values M_system M_solved M_wrong M_pattern M_begins M_firsts M_seconds) s.heap.size = A at hD hE ⊢
  have hA : ∀ q : Nat, s.heap.size ≤ q → A q := fun q h => by rw [← hAe]; exact Or.inr h
  have hS : va_S A s.heap s.heap [] := va_S.rf
  refine z_entry (vs := [.ref qM, .int x1, .int x2]) hargs (Nat.le_of_ble_eq_true rfl) (fun ls hl => ?_)
  have hl : lv_has ls 5 [(0, .ref qM), (1, .int x1), (2, .int x2)] := hl
  show W p l e (RM 1 22) s m args below meth c s.heap [] 0 0 _ _
  refine z_qi (fun Q0 hQ => ?_)
  have F : CallFix p m c b_Mo_linesOf 5 s args TB "DeepChannelModel" := ⟨hx, hb, hml, hown, hts⟩
  have T5 : ∀ (n5 : Nat) (x1 : Int32) (x2 : Int32) (x3 : Int32) (x4 : Int32), f_Mo_linesOf_5 M_pattern M_begins M_firsts M_seconds n5 x1 x2 x3 x4 = some rr → ∀ (H : Heap) (locs : List Loc), va_P D classes (w_Mo_linesOf cI cJ qM qM_begins qM_firsts qM_seconds M_thrown M_depth M_fill M_half M_craft M_powers M_logarithms M_forms M_elements M_mixer M_data M_waiting M_master M_counts M_line M_length M_sent M_state M_places M_least M_row M_rowSize M_differ M_blocks M_marks M_wrongs M_bytes M_rights M_tells M_lastMaster M_lastCounts M_word M_values M_system M_solved M_wrong M_pattern M_begins M_firsts M_seconds) H → va_D A (w_Mo_linesOf cI cJ qM qM_begins qM_firsts qM_seconds M_thrown M_depth M_fill M_half M_craft M_powers M_logarithms M_forms M_elements M_mixer M_data M_waiting M_master M_counts M_line M_length M_sent M_state M_places M_least M_row M_rowSize M_differ M_blocks M_marks M_wrongs M_bytes M_rights M_tells M_lastMaster M_lastCounts M_word M_values M_system M_solved M_wrong M_pattern M_begins M_firsts M_seconds) → va_S A s.heap H locs → ∀ (ls : Array Slot), lv_has ls 5 [(0, .ref qM), (1, .int x1), (2, .int x2), (3, .int x3), (4, .int x4)] → W p l e (RM 1 22) s m args below meth c H locs 0 0 Q0 (F0 m 5 ls []) := by
    intro n5
    induction n5 with
    | zero => intro x1 x2 x3 x4 hm; cases hm
    | succ n5 ih5 =>
      intro x1 x2 x3 x4 hm H locs hP hD hS ls hl
      replace hm : f_Mo_linesOf_5_b M_pattern M_begins M_firsts M_seconds (f_Mo_linesOf_5 M_pattern M_begins M_firsts M_seconds n5) x1 x2 x3 x4 = some rr := hm
      unfold f_Mo_linesOf_5_b at hm
      refine lv_iload hx hb d_Mo_linesOf_5 (lv_at hl 4 rfl) ?_
      refine lv_iload_n hx hb d_Mo_linesOf_7 rfl (lv_at hl 1 rfl) ?_
      refine lv_iload_n hx hb d_Mo_linesOf_8 rfl (lv_at hl 2 rfl) ?_
      refine lv_iadd hx hb d_Mo_linesOf_9 ?_
      refine z_if hm (lv_icmp_ge (tgt := 43) hx hb d_Mo_linesOf_10 (by decide)) (fun hm => ?_) (fun hm => ?_)
      · refine lv_iload_n hx hb d_Mo_linesOf_43 rfl (lv_at hl 3 rfl) ?_
        cases hm
        exact z_qo hQ (z_ireti hr hx hb hlocks hK hP hD hS d_Mo_linesOf_44)
      · refine lv_iload_n hx hb d_Mo_linesOf_13 rfl (lv_at hl 3 rfl) ?_
        refine lv_aload_n hx hb d_Mo_linesOf_14 rfl (lv_at hl 0 rfl) ?_
        refine lv_aload_n hx hb d_Mo_linesOf_15 rfl (lv_at hl 0 rfl) ?_
        refine va_get (D := D) (ci := 11) (v := .ref qM_firsts) (C := "DeepChannelModel") (T := fT_Mo) (N := 40) hx hb hts u_Mo hown hK hP 0 rfl rfl 7 (by decide) (hts _ k_893) (fun _ h9 => h9) rfl d_Mo_linesOf_16 ?_
        refine lv_iload hx hb d_Mo_linesOf_19 (lv_at hl 4 rfl) ?_
        obtain ⟨r1, hu, hm⟩ := bd_el hm
        replace hm := nm_1 hm
        refine z_cVi (wc := w_Mo_kept cI cJ qM qM_begins qM_firsts M_thrown M_depth M_fill M_half M_craft (.ref qM_firsts) (.ref qM_seconds) M_powers M_logarithms M_forms M_elements M_mixer M_data M_waiting M_master M_counts M_line M_length M_sent M_state M_places M_least M_row M_rowSize M_differ M_blocks M_marks M_wrongs M_bytes M_rights M_tells M_lastMaster M_lastCounts M_word M_values M_system M_solved M_wrong 18 M_pattern M_begins M_firsts) (wc' := w_Mo_kept cI cJ qM qM_begins qM_firsts M_thrown M_depth M_fill M_half M_craft (.ref qM_firsts) (.ref qM_seconds) M_powers M_logarithms M_forms M_elements M_mixer M_data M_waiting M_master M_counts M_line M_length M_sent M_state M_places M_least M_row M_rowSize M_differ M_blocks M_marks M_wrongs M_bytes M_rights M_tells M_lastMaster M_lastCounts M_word M_values M_system M_solved M_wrong 18 M_pattern M_begins M_firsts) (wr := [(qM_seconds, .inl (cI, 18, .inl M_seconds))]) (As := [.ref qM_firsts, .int x4]) (rest := [.int x3]) (c_Mo_kept l D cI cJ tt qM qM_begins qM_firsts M_thrown M_depth M_fill M_half M_craft (.ref qM_firsts) (.ref qM_seconds) M_powers M_logarithms M_forms M_elements M_mixer M_data M_waiting M_master M_counts M_line M_length M_sent M_state M_places M_least M_row M_rowSize M_differ M_blocks M_marks M_wrongs M_bytes M_rights M_tells M_lastMaster M_lastCounts M_word M_values M_system M_solved M_wrong 18 _ M_pattern M_begins M_firsts x4 r1 hu) F ok_Mo_kept rfl k_1051 hK hE hP hD hS hA [0, 1, 2] [3] rfl rfl (by decide) (by decide) (by decide) 0 rfl rfl rfl ⟨rfl, rfl, Nat.le_of_ble_eq_true rfl, Nat.le_of_ble_eq_true rfl⟩ ⟨Nat.zero_le _, Nat.zero_le _⟩ rfl hl.1 rfl (Nat.le_of_ble_eq_true rfl) d_Mo_linesOf_21 (fun H locs hP hD hS => ?_)
        have hP : va_P D classes (w_Mo_linesOf cI cJ qM qM_begins qM_firsts qM_seconds M_thrown M_depth M_fill M_half M_craft M_powers M_logarithms M_forms M_elements M_mixer M_data M_waiting M_master M_counts M_line M_length M_sent M_state M_places M_least M_row M_rowSize M_differ M_blocks M_marks M_wrongs M_bytes M_rights M_tells M_lastMaster M_lastCounts M_word M_values M_system M_solved M_wrong M_pattern M_begins M_firsts M_seconds) H := hP.sub [1, 2, 3, 0] rfl
        have hD : va_D A (w_Mo_linesOf cI cJ qM qM_begins qM_firsts qM_seconds M_thrown M_depth M_fill M_half M_craft M_powers M_logarithms M_forms M_elements M_mixer M_data M_waiting M_master M_counts M_line M_length M_sent M_state M_places M_least M_row M_rowSize M_differ M_blocks M_marks M_wrongs M_bytes M_rights M_tells M_lastMaster M_lastCounts M_word M_values M_system M_solved M_wrong M_pattern M_begins M_firsts M_seconds) := hD.sub [1, 2, 3, 0] (by decide) rfl
        refine lv_iadd hx hb d_Mo_linesOf_24 ?_
        refine lv_aload_n hx hb d_Mo_linesOf_25 rfl (lv_at hl 0 rfl) ?_
        refine lv_aload_n hx hb d_Mo_linesOf_26 rfl (lv_at hl 0 rfl) ?_
        refine va_get (D := D) (ci := 11) (v := .ref qM_seconds) (C := "DeepChannelModel") (T := fT_Mo) (N := 40) hx hb hts u_Mo hown hK hP 0 rfl rfl 8 (by decide) (hts _ k_894) (fun _ h9 => h9) rfl d_Mo_linesOf_27 ?_
        refine lv_iload hx hb d_Mo_linesOf_30 (lv_at hl 4 rfl) ?_
        obtain ⟨r3, hu, hm⟩ := bd_el hm
        replace hm := nm_1 hm
        refine z_cVi (wc := w_Mo_kept cI cJ qM qM_begins qM_seconds M_thrown M_depth M_fill M_half M_craft (.ref qM_firsts) (.ref qM_seconds) M_powers M_logarithms M_forms M_elements M_mixer M_data M_waiting M_master M_counts M_line M_length M_sent M_state M_places M_least M_row M_rowSize M_differ M_blocks M_marks M_wrongs M_bytes M_rights M_tells M_lastMaster M_lastCounts M_word M_values M_system M_solved M_wrong 18 M_pattern M_begins M_seconds) (wc' := w_Mo_kept cI cJ qM qM_begins qM_seconds M_thrown M_depth M_fill M_half M_craft (.ref qM_firsts) (.ref qM_seconds) M_powers M_logarithms M_forms M_elements M_mixer M_data M_waiting M_master M_counts M_line M_length M_sent M_state M_places M_least M_row M_rowSize M_differ M_blocks M_marks M_wrongs M_bytes M_rights M_tells M_lastMaster M_lastCounts M_word M_values M_system M_solved M_wrong 18 M_pattern M_begins M_seconds) (wr := [(qM_firsts, .inl (cI, 18, .inl M_firsts))]) (As := [.ref qM_seconds, .int x4]) (rest := [.int (x3 + r1)]) (c_Mo_kept l D cI cJ tt qM qM_begins qM_seconds M_thrown M_depth M_fill M_half M_craft (.ref qM_firsts) (.ref qM_seconds) M_powers M_logarithms M_forms M_elements M_mixer M_data M_waiting M_master M_counts M_line M_length M_sent M_state M_places M_least M_row M_rowSize M_differ M_blocks M_marks M_wrongs M_bytes M_rights M_tells M_lastMaster M_lastCounts M_word M_values M_system M_solved M_wrong 18 _ M_pattern M_begins M_seconds x4 r3 hu) F ok_Mo_kept rfl k_1051 hK hE hP hD hS hA [0, 1, 3] [2] rfl rfl (by decide) (by decide) (by decide) 0 rfl rfl rfl ⟨rfl, rfl, Nat.le_of_ble_eq_true rfl, Nat.le_of_ble_eq_true rfl⟩ ⟨Nat.zero_le _, Nat.zero_le _⟩ rfl hl.1 rfl (Nat.le_of_ble_eq_true rfl) d_Mo_linesOf_32 (fun H locs hP hD hS => ?_)
        have hP : va_P D classes (w_Mo_linesOf cI cJ qM qM_begins qM_firsts qM_seconds M_thrown M_depth M_fill M_half M_craft M_powers M_logarithms M_forms M_elements M_mixer M_data M_waiting M_master M_counts M_line M_length M_sent M_state M_places M_least M_row M_rowSize M_differ M_blocks M_marks M_wrongs M_bytes M_rights M_tells M_lastMaster M_lastCounts M_word M_values M_system M_solved M_wrong M_pattern M_begins M_firsts M_seconds) H := hP.sub [1, 2, 0, 3] rfl
        have hD : va_D A (w_Mo_linesOf cI cJ qM qM_begins qM_firsts qM_seconds M_thrown M_depth M_fill M_half M_craft M_powers M_logarithms M_forms M_elements M_mixer M_data M_waiting M_master M_counts M_line M_length M_sent M_state M_places M_least M_row M_rowSize M_differ M_blocks M_marks M_wrongs M_bytes M_rights M_tells M_lastMaster M_lastCounts M_word M_values M_system M_solved M_wrong M_pattern M_begins M_firsts M_seconds) := hD.sub [1, 2, 0, 3] (by decide) rfl
        refine lv_iadd hx hb d_Mo_linesOf_35 ?_
        refine z_nmi hm (fun v5 hm => ?_)
        refine lv_istore_n (lv' := [(3, .int v5), (0, .ref qM), (1, .int x1), (2, .int x2), (4, .int x4)]) hx hb d_Mo_linesOf_36 rfl hl (by decide) rfl (fun ls hl => ?_)
        obtain ⟨v6, ev, hm⟩ := nm_el hm
        refine lv_iinc (v := v6) (lv' := [(4, .int v6), (3, .int v5), (0, .ref qM), (1, .int x1), (2, .int x2)]) hx hb d_Mo_linesOf_37 hl (k := 4) rfl (by rw [ev]; rfl) (by decide) rfl (fun ls hl => ?_)
        refine lv_goto (tgt := 5) hx hb d_Mo_linesOf_40 (by decide) ?_
        exact ih5 x1 x2 v5 v6 hm _ _ hP hD hS _ (lv_sub hl [2, 3, 4, 1, 0] rfl)
  unfold f_Mo_linesOf at hm
  refine lv_iconst (v := (0 : Int32)) hx hb d_Mo_linesOf_0 (by decide) ?_
  refine lv_istore_n (lv' := [(3, .int (0 : Int32)), (0, .ref qM), (1, .int x1), (2, .int x2)]) hx hb d_Mo_linesOf_1 rfl hl (by decide) rfl (fun ls hl => ?_)
  refine lv_iload_n hx hb d_Mo_linesOf_2 rfl (lv_at hl 2 rfl) ?_
  refine lv_istore (lv' := [(4, .int x1), (3, .int (0 : Int32)), (0, .ref qM), (1, .int x1), (2, .int x2)]) hx hb d_Mo_linesOf_3 hl (by decide) rfl (fun ls hl => ?_)
  exact T5 10000 x1 x2 (0 : Int32) x1 hm _ _ hP hD hS _ (lv_sub hl [2, 3, 4, 1, 0] rfl)
-- DeepChannelModel.odd(I)I
abbrev b_Mo_odd : ByteArray := prog_13_method_19_code
abbrev y_Mo_odd : MethodName := ⟨"DeepChannelModel", "odd", "(I)I"⟩
theorem d_Mo_odd_0 : decode b_Mo_odd 0 = .ok (.iconst 0, 1) := by decide +kernel
theorem d_Mo_odd_1 : decode b_Mo_odd 1 = .ok (.istore_n 1, 1) := by decide +kernel
theorem d_Mo_odd_2 : decode b_Mo_odd 2 = .ok (.iconst 0, 1) := by decide +kernel
theorem d_Mo_odd_3 : decode b_Mo_odd 3 = .ok (.istore_n 2, 1) := by decide +kernel
theorem d_Mo_odd_4 : decode b_Mo_odd 4 = .ok (.iload_n 2, 1) := by decide +kernel
theorem d_Mo_odd_5 : decode b_Mo_odd 5 = .ok (.bipush 7, 2) := by decide +kernel
theorem d_Mo_odd_7 : decode b_Mo_odd 7 = .ok (.if_icmp .ge 17, 3) := by decide +kernel
theorem d_Mo_odd_10 : decode b_Mo_odd 10 = .ok (.iload_n 1, 1) := by decide +kernel
theorem d_Mo_odd_11 : decode b_Mo_odd 11 = .ok (.iload_n 0, 1) := by decide +kernel
theorem d_Mo_odd_12 : decode b_Mo_odd 12 = .ok (.iload_n 2, 1) := by decide +kernel
theorem d_Mo_odd_13 : decode b_Mo_odd 13 = .ok (.ishr, 1) := by decide +kernel
theorem d_Mo_odd_14 : decode b_Mo_odd 14 = .ok (.iconst 1, 1) := by decide +kernel
theorem d_Mo_odd_15 : decode b_Mo_odd 15 = .ok (.iand, 1) := by decide +kernel
theorem d_Mo_odd_16 : decode b_Mo_odd 16 = .ok (.ixor, 1) := by decide +kernel
theorem d_Mo_odd_17 : decode b_Mo_odd 17 = .ok (.istore_n 1, 1) := by decide +kernel
theorem d_Mo_odd_18 : decode b_Mo_odd 18 = .ok (.iinc 2 1, 3) := by decide +kernel
theorem d_Mo_odd_21 : decode b_Mo_odd 21 = .ok (.goto (-17), 3) := by decide +kernel
theorem d_Mo_odd_24 : decode b_Mo_odd 24 = .ok (.iload_n 1, 1) := by decide +kernel
theorem d_Mo_odd_25 : decode b_Mo_odd 25 = .ok (.ireturn, 1) := by decide +kernel
theorem ok_Mo_odd : OKs y_Mo_odd b_Mo_odd 3 (some .int) 1 := ⟨k_1061, k_1060, k_55, by decide +kernel, by decide +kernel, by decide +kernel⟩
abbrev w_Mo_odd  : va_W := []
def f_Mo_odd_4_b  (kh4 : Int32 → Int32 → Int32 → Option (Int32)) (x0 : Int32) (x1 : Int32) (x2 : Int32) : Option (Int32) :=
  if (7 : Int32) ≤ x2 then
    some x1
  else
  nm (x1 ^^^ ((x0 >>> (x2 &&& 31)) &&& (1 : Int32))) fun v1 =>
  nm (x2 + (1 : Int32)) fun v2 =>
  kh4 x0 v1 v2
def f_Mo_odd_4  : Nat → Int32 → Int32 → Int32 → Option (Int32)
  | 0 => fun _ _ _ => none
  | n + 1 => fun x0 x1 x2 => f_Mo_odd_4_b (f_Mo_odd_4 n) x0 x1 x2
def f_Mo_odd (x0 : Int32) : Option (Int32) :=
  f_Mo_odd_4 10000 x0 (0 : Int32) (0 : Int32)
set_option maxHeartbeats 4000000 in
set_option maxRecDepth 100000 in
theorem c_Mo_odd (l : Launch) (D : va_G) (cI cJ : ClassId) (tt : Nat → Nat) (sz : Nat) (x0 : Int32) (rr : Int32) (hm : f_Mo_odd x0 = some rr) : CTi l y_Mo_odd b_Mo_odd 3 (some .int) (RM 0 0) D cI cJ tt [.int x0] (w_Mo_odd) (w_Mo_odd) sz rr := by
  refine Met.ofW (cc := b_Mo_odd) (maxL := 3) (ret := (some .int)) (by decide) rfl ?_
  intro p e s m args below meth c s₁ B hml hv
  obtain ⟨hargs, hsz, hP, hK, hD0, hE⟩ := hv
  have hx := B.exec
  have hb := B.bytes
  have hr := B.returns
  have hts : ∀ w ∈ TB, w.before args s = true := z_mV s (atoms_spec (ws := WD y_Mo_odd b_Mo_odd 3 (some .int)) B.pre)
  have hown : s.vm.findClass "DeepChannelModel" = some m.cls := findClass_of_methodNamed B.named
  have hlocks := B.notSynchronized
  subst hsz
  have hD := hD0.self (sz := s.heap.size)
  generalize hAe : va_A (w_Mo_odd) s.heap.size = A at hD hE ⊢
  have hA : ∀ q : Nat, s.heap.size ≤ q → A q := fun q h => by rw [← hAe]; exact Or.inr h
  have hS : va_S A s.heap s.heap [] := va_S.rf
  refine z_entry (vs := [.int x0]) hargs (Nat.le_of_ble_eq_true rfl) (fun ls hl => ?_)
  have hl : lv_has ls 3 [(0, .int x0)] := hl
  show W p l e (RM 0 0) s m args below meth c s.heap [] 0 0 _ _
  refine z_qi (fun Q0 hQ => ?_)
  have F : CallFix p m c b_Mo_odd 3 s args TB "DeepChannelModel" := ⟨hx, hb, hml, hown, hts⟩
  have T4 : ∀ (n4 : Nat) (x0 : Int32) (x1 : Int32) (x2 : Int32), f_Mo_odd_4 n4 x0 x1 x2 = some rr → ∀ (H : Heap) (locs : List Loc), va_P D classes (w_Mo_odd) H → va_D A (w_Mo_odd) → va_S A s.heap H locs → ∀ (ls : Array Slot), lv_has ls 3 [(0, .int x0), (1, .int x1), (2, .int x2)] → W p l e (RM 0 0) s m args below meth c H locs 0 0 Q0 (F0 m 4 ls []) := by
    intro n4
    induction n4 with
    | zero => intro x0 x1 x2 hm; cases hm
    | succ n4 ih4 =>
      intro x0 x1 x2 hm H locs hP hD hS ls hl
      replace hm : f_Mo_odd_4_b (f_Mo_odd_4 n4) x0 x1 x2 = some rr := hm
      unfold f_Mo_odd_4_b at hm
      refine lv_iload_n hx hb d_Mo_odd_4 rfl (lv_at hl 2 rfl) ?_
      refine lv_bipush (v := (7 : Int32)) hx hb d_Mo_odd_5 (by decide) ?_
      refine z_if hm (lv_icmp_ge (tgt := 24) hx hb d_Mo_odd_7 (by decide)) (fun hm => ?_) (fun hm => ?_)
      · refine lv_iload_n hx hb d_Mo_odd_24 rfl (lv_at hl 1 rfl) ?_
        cases hm
        exact z_qo hQ (z_ireti hr hx hb hlocks hK hP hD hS d_Mo_odd_25)
      · refine lv_iload_n hx hb d_Mo_odd_10 rfl (lv_at hl 1 rfl) ?_
        refine lv_iload_n hx hb d_Mo_odd_11 rfl (lv_at hl 0 rfl) ?_
        refine lv_iload_n hx hb d_Mo_odd_12 rfl (lv_at hl 2 rfl) ?_
        refine lv_ishr hx hb d_Mo_odd_13 ?_
        refine lv_iconst (v := (1 : Int32)) hx hb d_Mo_odd_14 (by decide) ?_
        refine lv_iand hx hb d_Mo_odd_15 ?_
        refine lv_ixor hx hb d_Mo_odd_16 ?_
        refine z_nmi hm (fun v1 hm => ?_)
        refine lv_istore_n (lv' := [(1, .int v1), (0, .int x0), (2, .int x2)]) hx hb d_Mo_odd_17 rfl hl (by decide) rfl (fun ls hl => ?_)
        obtain ⟨v2, ev, hm⟩ := nm_el hm
        refine lv_iinc (v := v2) (lv' := [(2, .int v2), (1, .int v1), (0, .int x0)]) hx hb d_Mo_odd_18 hl (k := 2) rfl (by rw [ev]; rfl) (by decide) rfl (fun ls hl => ?_)
        refine lv_goto (tgt := 4) hx hb d_Mo_odd_21 (by decide) ?_
        exact ih4 x0 v1 v2 hm _ _ hP hD hS _ (lv_sub hl [2, 1, 0] rfl)
  unfold f_Mo_odd at hm
  refine lv_iconst (v := (0 : Int32)) hx hb d_Mo_odd_0 (by decide) ?_
  refine lv_istore_n (lv' := [(1, .int (0 : Int32)), (0, .int x0)]) hx hb d_Mo_odd_1 rfl hl (by decide) rfl (fun ls hl => ?_)
  refine lv_iconst (v := (0 : Int32)) hx hb d_Mo_odd_2 (by decide) ?_
  refine lv_istore_n (lv' := [(2, .int (0 : Int32)), (1, .int (0 : Int32)), (0, .int x0)]) hx hb d_Mo_odd_3 rfl hl (by decide) rfl (fun ls hl => ?_)
  exact T4 10000 x0 (0 : Int32) (0 : Int32) hm _ _ hP hD hS _ (lv_sub hl [2, 1, 0] rfl)
-- DeepChannelModel.send1(I)V
abbrev b_Mo_send1 : ByteArray := prog_13_method_20_code
abbrev y_Mo_send1 : MethodName := ⟨"DeepChannelModel", "send1", "(I)V"⟩
theorem d_Mo_send1_0 : decode b_Mo_send1 0 = .ok (.iload_n 1, 1) := by decide +kernel
theorem d_Mo_send1_1 : decode b_Mo_send1 1 = .ok (.bipush 6, 2) := by decide +kernel
theorem d_Mo_send1_3 : decode b_Mo_send1 3 = .ok (.ishl, 1) := by decide +kernel
theorem d_Mo_send1_4 : decode b_Mo_send1 4 = .ok (.aload_n 0, 1) := by decide +kernel
theorem d_Mo_send1_5 : decode b_Mo_send1 5 = .ok (.getfield 126, 3) := by decide +kernel
theorem d_Mo_send1_8 : decode b_Mo_send1 8 = .ok (.ior, 1) := by decide +kernel
theorem d_Mo_send1_9 : decode b_Mo_send1 9 = .ok (.istore_n 2, 1) := by decide +kernel
theorem d_Mo_send1_10 : decode b_Mo_send1 10 = .ok (.aload_n 0, 1) := by decide +kernel
theorem d_Mo_send1_11 : decode b_Mo_send1 11 = .ok (.aload_n 0, 1) := by decide +kernel
theorem d_Mo_send1_12 : decode b_Mo_send1 12 = .ok (.getfield 23, 3) := by decide +kernel
theorem d_Mo_send1_15 : decode b_Mo_send1 15 = .ok (.aload_n 0, 1) := by decide +kernel
theorem d_Mo_send1_16 : decode b_Mo_send1 16 = .ok (.getfield 123, 3) := by decide +kernel
theorem d_Mo_send1_19 : decode b_Mo_send1 19 = .ok (.invokevirtual 156, 3) := by decide +kernel
theorem d_Mo_send1_22 : decode b_Mo_send1 22 = .ok (.iconst 1, 1) := by decide +kernel
theorem d_Mo_send1_23 : decode b_Mo_send1 23 = .ok (.if_icmp .ne 29, 3) := by decide +kernel
theorem d_Mo_send1_26 : decode b_Mo_send1 26 = .ok (.aload_n 0, 1) := by decide +kernel
theorem d_Mo_send1_27 : decode b_Mo_send1 27 = .ok (.getfield 50, 3) := by decide +kernel
theorem d_Mo_send1_30 : decode b_Mo_send1 30 = .ok (.aload_n 0, 1) := by decide +kernel
theorem d_Mo_send1_31 : decode b_Mo_send1 31 = .ok (.getfield 120, 3) := by decide +kernel
theorem d_Mo_send1_34 : decode b_Mo_send1 34 = .ok (.iload_n 2, 1) := by decide +kernel
theorem d_Mo_send1_35 : decode b_Mo_send1 35 = .ok (.bipush 121, 2) := by decide +kernel
theorem d_Mo_send1_37 : decode b_Mo_send1 37 = .ok (.iand, 1) := by decide +kernel
theorem d_Mo_send1_38 : decode b_Mo_send1 38 = .ok (.invokestatic 160, 3) := by decide +kernel
theorem d_Mo_send1_41 : decode b_Mo_send1 41 = .ok (.iastore, 1) := by decide +kernel
theorem d_Mo_send1_42 : decode b_Mo_send1 42 = .ok (.aload_n 0, 1) := by decide +kernel
theorem d_Mo_send1_43 : decode b_Mo_send1 43 = .ok (.dup, 1) := by decide +kernel
theorem d_Mo_send1_44 : decode b_Mo_send1 44 = .ok (.getfield 120, 3) := by decide +kernel
theorem d_Mo_send1_47 : decode b_Mo_send1 47 = .ok (.iconst 1, 1) := by decide +kernel
theorem d_Mo_send1_48 : decode b_Mo_send1 48 = .ok (.iadd, 1) := by decide +kernel
theorem d_Mo_send1_49 : decode b_Mo_send1 49 = .ok (.putfield 120, 3) := by decide +kernel
theorem d_Mo_send1_52 : decode b_Mo_send1 52 = .ok (.aload_n 0, 1) := by decide +kernel
theorem d_Mo_send1_53 : decode b_Mo_send1 53 = .ok (.aload_n 0, 1) := by decide +kernel
theorem d_Mo_send1_54 : decode b_Mo_send1 54 = .ok (.getfield 26, 3) := by decide +kernel
theorem d_Mo_send1_57 : decode b_Mo_send1 57 = .ok (.aload_n 0, 1) := by decide +kernel
theorem d_Mo_send1_58 : decode b_Mo_send1 58 = .ok (.getfield 123, 3) := by decide +kernel
theorem d_Mo_send1_61 : decode b_Mo_send1 61 = .ok (.invokevirtual 156, 3) := by decide +kernel
theorem d_Mo_send1_64 : decode b_Mo_send1 64 = .ok (.iconst 1, 1) := by decide +kernel
theorem d_Mo_send1_65 : decode b_Mo_send1 65 = .ok (.if_icmp .ne 31, 3) := by decide +kernel
theorem d_Mo_send1_68 : decode b_Mo_send1 68 = .ok (.aload_n 0, 1) := by decide +kernel
theorem d_Mo_send1_69 : decode b_Mo_send1 69 = .ok (.getfield 50, 3) := by decide +kernel
theorem d_Mo_send1_72 : decode b_Mo_send1 72 = .ok (.aload_n 0, 1) := by decide +kernel
theorem d_Mo_send1_73 : decode b_Mo_send1 73 = .ok (.getfield 120, 3) := by decide +kernel
theorem d_Mo_send1_76 : decode b_Mo_send1 76 = .ok (.iconst 1, 1) := by decide +kernel
theorem d_Mo_send1_77 : decode b_Mo_send1 77 = .ok (.iload_n 2, 1) := by decide +kernel
theorem d_Mo_send1_78 : decode b_Mo_send1 78 = .ok (.bipush 91, 2) := by decide +kernel
theorem d_Mo_send1_80 : decode b_Mo_send1 80 = .ok (.iand, 1) := by decide +kernel
theorem d_Mo_send1_81 : decode b_Mo_send1 81 = .ok (.invokestatic 160, 3) := by decide +kernel
theorem d_Mo_send1_84 : decode b_Mo_send1 84 = .ok (.isub, 1) := by decide +kernel
theorem d_Mo_send1_85 : decode b_Mo_send1 85 = .ok (.iastore, 1) := by decide +kernel
theorem d_Mo_send1_86 : decode b_Mo_send1 86 = .ok (.aload_n 0, 1) := by decide +kernel
theorem d_Mo_send1_87 : decode b_Mo_send1 87 = .ok (.dup, 1) := by decide +kernel
theorem d_Mo_send1_88 : decode b_Mo_send1 88 = .ok (.getfield 120, 3) := by decide +kernel
theorem d_Mo_send1_91 : decode b_Mo_send1 91 = .ok (.iconst 1, 1) := by decide +kernel
theorem d_Mo_send1_92 : decode b_Mo_send1 92 = .ok (.iadd, 1) := by decide +kernel
theorem d_Mo_send1_93 : decode b_Mo_send1 93 = .ok (.putfield 120, 3) := by decide +kernel
theorem d_Mo_send1_96 : decode b_Mo_send1 96 = .ok (.aload_n 0, 1) := by decide +kernel
theorem d_Mo_send1_97 : decode b_Mo_send1 97 = .ok (.dup, 1) := by decide +kernel
theorem d_Mo_send1_98 : decode b_Mo_send1 98 = .ok (.getfield 123, 3) := by decide +kernel
theorem d_Mo_send1_101 : decode b_Mo_send1 101 = .ok (.iconst 1, 1) := by decide +kernel
theorem d_Mo_send1_102 : decode b_Mo_send1 102 = .ok (.iadd, 1) := by decide +kernel
theorem d_Mo_send1_103 : decode b_Mo_send1 103 = .ok (.putfield 123, 3) := by decide +kernel
theorem d_Mo_send1_106 : decode b_Mo_send1 106 = .ok (.aload_n 0, 1) := by decide +kernel
theorem d_Mo_send1_107 : decode b_Mo_send1 107 = .ok (.iload_n 2, 1) := by decide +kernel
theorem d_Mo_send1_108 : decode b_Mo_send1 108 = .ok (.iconst 1, 1) := by decide +kernel
theorem d_Mo_send1_109 : decode b_Mo_send1 109 = .ok (.ishr, 1) := by decide +kernel
theorem d_Mo_send1_110 : decode b_Mo_send1 110 = .ok (.putfield 126, 3) := by decide +kernel
theorem d_Mo_send1_113 : decode b_Mo_send1 113 = .ok (.return_, 1) := by decide +kernel
theorem ok_Mo_send1 : OKv y_Mo_send1 b_Mo_send1 3 none "DeepChannelModel" 1 := ⟨k_1058, k_1057, k_22, k_55, by decide +kernel, by decide +kernel, by decide +kernel⟩
abbrev w_Mo_send1 (cI cJ : ClassId) (qM qM_begins qM_firsts qM_seconds qM_line : Nat) (M_thrown M_depth M_fill M_half M_craft M_powers M_logarithms M_forms M_elements M_mixer M_data M_waiting M_master M_counts M_places M_least M_row M_rowSize M_differ M_blocks M_marks M_wrongs M_bytes M_rights M_tells M_lastMaster M_lastCounts M_word M_values M_system M_solved M_wrong : Value) (M_pattern : Int32) (M_length : Int32) (M_sent : Int32) (M_state : Int32) (M_begins : Nat → Int32) (M_firsts : Nat → Int32) (M_seconds : Nat → Int32) (M_line : Nat → Int32) : va_W := [(qM, .inr (11, [M_thrown, M_depth, M_fill, M_half, .int M_pattern, M_craft, .ref qM_begins, .ref qM_firsts, .ref qM_seconds, M_powers, M_logarithms, M_forms, M_elements, M_mixer, M_data, M_waiting, M_master, M_counts, .ref qM_line, .int M_length, .int M_sent, .int M_state, M_places, M_least, M_row, M_rowSize, M_differ, M_blocks, M_marks, M_wrongs, M_bytes, M_rights, M_tells, M_lastMaster, M_lastCounts, M_word, M_values, M_system, M_solved, M_wrong])), (qM_begins, .inl (cI, 6, .inl M_begins)), (qM_firsts, .inl (cI, 18, .inl M_firsts)), (qM_seconds, .inl (cI, 18, .inl M_seconds)), (qM_line, .inl (cI, 4096, .inl M_line))]
def f_Mo_send1_96  (x2 : Int32) (M_length : Int32) (M_sent : Int32) (M_state : Int32) (M_line : Nat → Int32) : Option (Int32 × Int32 × Int32 × (Nat → Int32)) :=
  nm (M_sent + (1 : Int32)) fun v1 =>
  nm (x2 >>> ((1 : Int32) &&& 31)) fun v2 =>
  some (M_length, v1, v2, M_line)
def f_Mo_send1_52 (M_pattern : Int32) (M_begins : Nat → Int32) (M_seconds : Nat → Int32) (x2 : Int32) (M_length : Int32) (M_sent : Int32) (M_state : Int32) (M_line : Nat → Int32) : Option (Int32 × Int32 × Int32 × (Nat → Int32)) :=
  bd (f_Mo_kept M_pattern M_begins M_seconds 18 M_sent) fun u4 =>
  nm u4 fun r3 =>
  if r3 = (1 : Int32) then
    bd (f_Mo_odd (x2 &&& (91 : Int32))) fun u6 =>
    nm u6 fun r5 =>
    wrI M_line 4096 M_length ((1 : Int32) - r5) fun g7 =>
    nm (M_length + (1 : Int32)) fun v8 =>
    f_Mo_send1_96 x2 v8 M_sent M_state g7
  else
  f_Mo_send1_96 x2 M_length M_sent M_state M_line
def f_Mo_send1 (M_pattern : Int32) (M_length : Int32) (M_sent : Int32) (M_state : Int32) (M_begins : Nat → Int32) (M_firsts : Nat → Int32) (M_seconds : Nat → Int32) (M_line : Nat → Int32) (x1 : Int32) : Option (Int32 × Int32 × Int32 × (Nat → Int32)) :=
  nm ((x1 <<< ((6 : Int32) &&& 31)) ||| M_state) fun v9 =>
  bd (f_Mo_kept M_pattern M_begins M_firsts 18 M_sent) fun u11 =>
  nm u11 fun r10 =>
  if r10 = (1 : Int32) then
    bd (f_Mo_odd (v9 &&& (121 : Int32))) fun u13 =>
    nm u13 fun r12 =>
    wrI M_line 4096 M_length r12 fun g14 =>
    nm (M_length + (1 : Int32)) fun v15 =>
    f_Mo_send1_52 M_pattern M_begins M_seconds v9 v15 M_sent M_state g14
  else
  f_Mo_send1_52 M_pattern M_begins M_seconds v9 M_length M_sent M_state M_line
set_option maxHeartbeats 4000000 in
set_option maxRecDepth 100000 in
theorem c_Mo_send1 (l : Launch) (D : va_G) (cI cJ : ClassId) (tt : Nat → Nat) (qM qM_begins qM_firsts qM_seconds qM_line : Nat) (M_thrown M_depth M_fill M_half M_craft M_powers M_logarithms M_forms M_elements M_mixer M_data M_waiting M_master M_counts M_places M_least M_row M_rowSize M_differ M_blocks M_marks M_wrongs M_bytes M_rights M_tells M_lastMaster M_lastCounts M_word M_values M_system M_solved M_wrong : Value) (sz : Nat) (M_pattern : Int32) (M_length : Int32) (M_sent : Int32) (M_state : Int32) (M_begins : Nat → Int32) (M_firsts : Nat → Int32) (M_seconds : Nat → Int32) (M_line : Nat → Int32) (x1 : Int32) (M_length' : Int32) (M_sent' : Int32) (M_state' : Int32) (M_line' : Nat → Int32) (hm : f_Mo_send1 M_pattern M_length M_sent M_state M_begins M_firsts M_seconds M_line x1 = some (M_length', M_sent', M_state', M_line')) : CTv l y_Mo_send1 b_Mo_send1 3 none (RM 1 22) D cI cJ tt [.ref qM, .int x1] (w_Mo_send1 cI cJ qM qM_begins qM_firsts qM_seconds qM_line M_thrown M_depth M_fill M_half M_craft M_powers M_logarithms M_forms M_elements M_mixer M_data M_waiting M_master M_counts M_places M_least M_row M_rowSize M_differ M_blocks M_marks M_wrongs M_bytes M_rights M_tells M_lastMaster M_lastCounts M_word M_values M_system M_solved M_wrong M_pattern M_length M_sent M_state M_begins M_firsts M_seconds M_line) (w_Mo_send1 cI cJ qM qM_begins qM_firsts qM_seconds qM_line M_thrown M_depth M_fill M_half M_craft M_powers M_logarithms M_forms M_elements M_mixer M_data M_waiting M_master M_counts M_places M_least M_row M_rowSize M_differ M_blocks M_marks M_wrongs M_bytes M_rights M_tells M_lastMaster M_lastCounts M_word M_values M_system M_solved M_wrong M_pattern M_length' M_sent' M_state' M_begins M_firsts M_seconds M_line') sz := by
  refine Met.ofW (cc := b_Mo_send1) (maxL := 3) (ret := none) (by decide) rfl ?_
  intro p e s m args below meth c s₁ B hml hv
  obtain ⟨hargs, hsz, hP, hK, hD0, hE⟩ := hv
  have hx := B.exec
  have hb := B.bytes
  have hr := B.returns
  have hts : ∀ w ∈ TB, w.before args s = true := z_mV s (atoms_spec (ws := WD y_Mo_send1 b_Mo_send1 3 none) B.pre)
  have hown : s.vm.findClass "DeepChannelModel" = some m.cls := findClass_of_methodNamed B.named
  have hlocks := B.notSynchronized
  subst hsz
  have hD := hD0.self (sz := s.heap.size)
  generalize hAe : va_A (w_Mo_send1 cI cJ qM qM_begins qM_firsts qM_seconds qM_line M_thrown M_depth M_fill M_half M_craft M_powers M_logarithms M_forms M_elements M_mixer M_data M_waiting M_master M_counts M_places M_least M_row M_rowSize M_differ M_blocks M_marks M_wrongs M_bytes M_rights M_tells M_lastMaster M_lastCounts M_word M_values M_system M_solved M_wrong M_pattern M_length M_sent M_state M_begins M_firsts M_seconds M_line) s.heap.size = A at hD hE ⊢
  have hA : ∀ q : Nat, s.heap.size ≤ q → A q := fun q h => by rw [← hAe]; exact Or.inr h
  have hS : va_S A s.heap s.heap [] := va_S.rf
  refine z_entry (vs := [.ref qM, .int x1]) hargs (Nat.le_of_ble_eq_true rfl) (fun ls hl => ?_)
  have hl : lv_has ls 3 [(0, .ref qM), (1, .int x1)] := hl
  show W p l e (RM 1 22) s m args below meth c s.heap [] 0 0 _ _
  refine z_qi (fun Q0 hQ => ?_)
  have F : CallFix p m c b_Mo_send1 3 s args TB "DeepChannelModel" := ⟨hx, hb, hml, hown, hts⟩
  have T96 : ∀ (x2 : Int32) (M_length : Int32) (M_sent : Int32) (M_state : Int32) (M_line : Nat → Int32), f_Mo_send1_96 x2 M_length M_sent M_state M_line = some (M_length', M_sent', M_state', M_line') → ∀ (H : Heap) (locs : List Loc), va_P D classes (w_Mo_send1 cI cJ qM qM_begins qM_firsts qM_seconds qM_line M_thrown M_depth M_fill M_half M_craft M_powers M_logarithms M_forms M_elements M_mixer M_data M_waiting M_master M_counts M_places M_least M_row M_rowSize M_differ M_blocks M_marks M_wrongs M_bytes M_rights M_tells M_lastMaster M_lastCounts M_word M_values M_system M_solved M_wrong M_pattern M_length M_sent M_state M_begins M_firsts M_seconds M_line) H → va_D A (w_Mo_send1 cI cJ qM qM_begins qM_firsts qM_seconds qM_line M_thrown M_depth M_fill M_half M_craft M_powers M_logarithms M_forms M_elements M_mixer M_data M_waiting M_master M_counts M_places M_least M_row M_rowSize M_differ M_blocks M_marks M_wrongs M_bytes M_rights M_tells M_lastMaster M_lastCounts M_word M_values M_system M_solved M_wrong M_pattern M_length M_sent M_state M_begins M_firsts M_seconds M_line) → va_S A s.heap H locs → ∀ (ls : Array Slot), lv_has ls 3 [(0, .ref qM), (2, .int x2)] → W p l e (RM 1 22) s m args below meth c H locs 0 0 Q0 (F0 m 96 ls []) := by
    intro x2 M_length M_sent M_state M_line hm H locs hP hD hS ls hl
    unfold f_Mo_send1_96 at hm
    refine lv_aload_n hx hb d_Mo_send1_96 rfl (lv_at hl 0 rfl) ?_
    refine lv_dup hx hb d_Mo_send1_97 rfl ?_
    refine va_get (D := D) (ci := 11) (v := .int M_sent) (C := "DeepChannelModel") (T := fT_Mo) (N := 40) hx hb hts u_Mo hown hK hP 0 rfl rfl 20 (by decide) (hts _ k_906) (fun _ h9 => h9) rfl d_Mo_send1_98 ?_
    refine lv_iconst (v := (1 : Int32)) hx hb d_Mo_send1_101 (by decide) ?_
    refine lv_iadd hx hb d_Mo_send1_102 ?_
    refine z_nmi hm (fun v1 hm => ?_)
    refine va_put (D := D) (ci := 11) (v := .int v1) (ty := .int) (C := "DeepChannelModel") (T := fT_Mo) (N := 40) hx hb hts u_Mo fY_Mo fK_Mo fN_Mo hown hK hP hD hS 0 rfl rfl 20 (by decide) (hts _ k_906) (fun _ h9 => h9) rfl (by decide +kernel) rfl rfl (Nat.le_of_ble_eq_true rfl) d_Mo_send1_103 (fun H locs hP hD hS => ?_)
    have hP : va_P D classes (w_Mo_send1 cI cJ qM qM_begins qM_firsts qM_seconds qM_line M_thrown M_depth M_fill M_half M_craft M_powers M_logarithms M_forms M_elements M_mixer M_data M_waiting M_master M_counts M_places M_least M_row M_rowSize M_differ M_blocks M_marks M_wrongs M_bytes M_rights M_tells M_lastMaster M_lastCounts M_word M_values M_system M_solved M_wrong M_pattern M_length v1 M_state M_begins M_firsts M_seconds M_line) H := hP
    have hD : va_D A (w_Mo_send1 cI cJ qM qM_begins qM_firsts qM_seconds qM_line M_thrown M_depth M_fill M_half M_craft M_powers M_logarithms M_forms M_elements M_mixer M_data M_waiting M_master M_counts M_places M_least M_row M_rowSize M_differ M_blocks M_marks M_wrongs M_bytes M_rights M_tells M_lastMaster M_lastCounts M_word M_values M_system M_solved M_wrong M_pattern M_length v1 M_state M_begins M_firsts M_seconds M_line) := hD
    refine lv_aload_n hx hb d_Mo_send1_106 rfl (lv_at hl 0 rfl) ?_
    refine lv_iload_n hx hb d_Mo_send1_107 rfl (lv_at hl 1 rfl) ?_
    refine lv_iconst (v := (1 : Int32)) hx hb d_Mo_send1_108 (by decide) ?_
    refine lv_ishr hx hb d_Mo_send1_109 ?_
    refine z_nmi hm (fun v2 hm => ?_)
    refine va_put (D := D) (ci := 11) (v := .int v2) (ty := .int) (C := "DeepChannelModel") (T := fT_Mo) (N := 40) hx hb hts u_Mo fY_Mo fK_Mo fN_Mo hown hK hP hD hS 0 rfl rfl 21 (by decide) (hts _ k_907) (fun _ h9 => h9) rfl (by decide +kernel) rfl rfl (Nat.le_of_ble_eq_true rfl) d_Mo_send1_110 (fun H locs hP hD hS => ?_)
    have hP : va_P D classes (w_Mo_send1 cI cJ qM qM_begins qM_firsts qM_seconds qM_line M_thrown M_depth M_fill M_half M_craft M_powers M_logarithms M_forms M_elements M_mixer M_data M_waiting M_master M_counts M_places M_least M_row M_rowSize M_differ M_blocks M_marks M_wrongs M_bytes M_rights M_tells M_lastMaster M_lastCounts M_word M_values M_system M_solved M_wrong M_pattern M_length v1 v2 M_begins M_firsts M_seconds M_line) H := hP
    have hD : va_D A (w_Mo_send1 cI cJ qM qM_begins qM_firsts qM_seconds qM_line M_thrown M_depth M_fill M_half M_craft M_powers M_logarithms M_forms M_elements M_mixer M_data M_waiting M_master M_counts M_places M_least M_row M_rowSize M_differ M_blocks M_marks M_wrongs M_bytes M_rights M_tells M_lastMaster M_lastCounts M_word M_values M_system M_solved M_wrong M_pattern M_length v1 v2 M_begins M_firsts M_seconds M_line) := hD
    cases hm
    exact z_qo hQ (z_vret hr hx hb hlocks hK hP hD hS d_Mo_send1_113)
  have T52 : ∀ (x2 : Int32) (M_length : Int32) (M_sent : Int32) (M_state : Int32) (M_line : Nat → Int32), f_Mo_send1_52 M_pattern M_begins M_seconds x2 M_length M_sent M_state M_line = some (M_length', M_sent', M_state', M_line') → ∀ (H : Heap) (locs : List Loc), va_P D classes (w_Mo_send1 cI cJ qM qM_begins qM_firsts qM_seconds qM_line M_thrown M_depth M_fill M_half M_craft M_powers M_logarithms M_forms M_elements M_mixer M_data M_waiting M_master M_counts M_places M_least M_row M_rowSize M_differ M_blocks M_marks M_wrongs M_bytes M_rights M_tells M_lastMaster M_lastCounts M_word M_values M_system M_solved M_wrong M_pattern M_length M_sent M_state M_begins M_firsts M_seconds M_line) H → va_D A (w_Mo_send1 cI cJ qM qM_begins qM_firsts qM_seconds qM_line M_thrown M_depth M_fill M_half M_craft M_powers M_logarithms M_forms M_elements M_mixer M_data M_waiting M_master M_counts M_places M_least M_row M_rowSize M_differ M_blocks M_marks M_wrongs M_bytes M_rights M_tells M_lastMaster M_lastCounts M_word M_values M_system M_solved M_wrong M_pattern M_length M_sent M_state M_begins M_firsts M_seconds M_line) → va_S A s.heap H locs → ∀ (ls : Array Slot), lv_has ls 3 [(0, .ref qM), (2, .int x2)] → W p l e (RM 1 22) s m args below meth c H locs 0 0 Q0 (F0 m 52 ls []) := by
    intro x2 M_length M_sent M_state M_line hm H locs hP hD hS ls hl
    unfold f_Mo_send1_52 at hm
    refine lv_aload_n hx hb d_Mo_send1_52 rfl (lv_at hl 0 rfl) ?_
    refine lv_aload_n hx hb d_Mo_send1_53 rfl (lv_at hl 0 rfl) ?_
    refine va_get (D := D) (ci := 11) (v := .ref qM_seconds) (C := "DeepChannelModel") (T := fT_Mo) (N := 40) hx hb hts u_Mo hown hK hP 0 rfl rfl 8 (by decide) (hts _ k_894) (fun _ h9 => h9) rfl d_Mo_send1_54 ?_
    refine lv_aload_n hx hb d_Mo_send1_57 rfl (lv_at hl 0 rfl) ?_
    refine va_get (D := D) (ci := 11) (v := .int M_sent) (C := "DeepChannelModel") (T := fT_Mo) (N := 40) hx hb hts u_Mo hown hK hP 0 rfl rfl 20 (by decide) (hts _ k_906) (fun _ h9 => h9) rfl d_Mo_send1_58 ?_
    obtain ⟨r3, hu, hm⟩ := bd_el hm
    replace hm := nm_1 hm
    refine z_cVi (wc := w_Mo_kept cI cJ qM qM_begins qM_seconds M_thrown M_depth M_fill M_half M_craft (.ref qM_firsts) (.ref qM_seconds) M_powers M_logarithms M_forms M_elements M_mixer M_data M_waiting M_master M_counts (.ref qM_line) (.int M_length) (.int M_sent) (.int M_state) M_places M_least M_row M_rowSize M_differ M_blocks M_marks M_wrongs M_bytes M_rights M_tells M_lastMaster M_lastCounts M_word M_values M_system M_solved M_wrong 18 M_pattern M_begins M_seconds) (wc' := w_Mo_kept cI cJ qM qM_begins qM_seconds M_thrown M_depth M_fill M_half M_craft (.ref qM_firsts) (.ref qM_seconds) M_powers M_logarithms M_forms M_elements M_mixer M_data M_waiting M_master M_counts (.ref qM_line) (.int M_length) (.int M_sent) (.int M_state) M_places M_least M_row M_rowSize M_differ M_blocks M_marks M_wrongs M_bytes M_rights M_tells M_lastMaster M_lastCounts M_word M_values M_system M_solved M_wrong 18 M_pattern M_begins M_seconds) (wr := [(qM_firsts, .inl (cI, 18, .inl M_firsts)), (qM_line, .inl (cI, 4096, .inl M_line))]) (As := [.ref qM_seconds, .int M_sent]) (rest := []) (c_Mo_kept l D cI cJ tt qM qM_begins qM_seconds M_thrown M_depth M_fill M_half M_craft (.ref qM_firsts) (.ref qM_seconds) M_powers M_logarithms M_forms M_elements M_mixer M_data M_waiting M_master M_counts (.ref qM_line) (.int M_length) (.int M_sent) (.int M_state) M_places M_least M_row M_rowSize M_differ M_blocks M_marks M_wrongs M_bytes M_rights M_tells M_lastMaster M_lastCounts M_word M_values M_system M_solved M_wrong 18 _ M_pattern M_begins M_seconds M_sent r3 hu) F ok_Mo_kept rfl k_1051 hK hE hP hD hS hA [0, 1, 3] [2, 4] rfl rfl (by decide) (by decide) (by decide) 0 rfl rfl rfl ⟨rfl, rfl, Nat.le_of_ble_eq_true rfl, Nat.le_of_ble_eq_true rfl⟩ ⟨Nat.zero_le _, Nat.zero_le _⟩ rfl hl.1 rfl (Nat.le_of_ble_eq_true rfl) d_Mo_send1_61 (fun H locs hP hD hS => ?_)
    have hP : va_P D classes (w_Mo_send1 cI cJ qM qM_begins qM_firsts qM_seconds qM_line M_thrown M_depth M_fill M_half M_craft M_powers M_logarithms M_forms M_elements M_mixer M_data M_waiting M_master M_counts M_places M_least M_row M_rowSize M_differ M_blocks M_marks M_wrongs M_bytes M_rights M_tells M_lastMaster M_lastCounts M_word M_values M_system M_solved M_wrong M_pattern M_length M_sent M_state M_begins M_firsts M_seconds M_line) H := hP.sub [2, 3, 0, 4, 1] rfl
    have hD : va_D A (w_Mo_send1 cI cJ qM qM_begins qM_firsts qM_seconds qM_line M_thrown M_depth M_fill M_half M_craft M_powers M_logarithms M_forms M_elements M_mixer M_data M_waiting M_master M_counts M_places M_least M_row M_rowSize M_differ M_blocks M_marks M_wrongs M_bytes M_rights M_tells M_lastMaster M_lastCounts M_word M_values M_system M_solved M_wrong M_pattern M_length M_sent M_state M_begins M_firsts M_seconds M_line) := hD.sub [2, 3, 0, 4, 1] (by decide) rfl
    refine lv_iconst (v := (1 : Int32)) hx hb d_Mo_send1_64 (by decide) ?_
    refine z_ifn hm (lv_icmp_ne (tgt := 96) hx hb d_Mo_send1_65 (by decide)) (fun hm => ?_) (fun hm => ?_)
    · refine lv_aload_n hx hb d_Mo_send1_68 rfl (lv_at hl 0 rfl) ?_
      refine va_get (D := D) (ci := 11) (v := .ref qM_line) (C := "DeepChannelModel") (T := fT_Mo) (N := 40) hx hb hts u_Mo hown hK hP 0 rfl rfl 18 (by decide) (hts _ k_904) (fun _ h9 => h9) rfl d_Mo_send1_69 ?_
      refine lv_aload_n hx hb d_Mo_send1_72 rfl (lv_at hl 0 rfl) ?_
      refine va_get (D := D) (ci := 11) (v := .int M_length) (C := "DeepChannelModel") (T := fT_Mo) (N := 40) hx hb hts u_Mo hown hK hP 0 rfl rfl 19 (by decide) (hts _ k_905) (fun _ h9 => h9) rfl d_Mo_send1_73 ?_
      refine lv_iconst (v := (1 : Int32)) hx hb d_Mo_send1_76 (by decide) ?_
      refine lv_iload_n hx hb d_Mo_send1_77 rfl (lv_at hl 1 rfl) ?_
      refine lv_bipush (v := (91 : Int32)) hx hb d_Mo_send1_78 (by decide) ?_
      refine lv_iand hx hb d_Mo_send1_80 ?_
      obtain ⟨r5, hu, hm⟩ := bd_el hm
      replace hm := nm_1 hm
      refine z_cSi (wc := w_Mo_odd) (wc' := w_Mo_odd) (wr := [(qM, .inr (11, [M_thrown, M_depth, M_fill, M_half, .int M_pattern, M_craft, .ref qM_begins, .ref qM_firsts, .ref qM_seconds, M_powers, M_logarithms, M_forms, M_elements, M_mixer, M_data, M_waiting, M_master, M_counts, .ref qM_line, .int M_length, .int M_sent, .int M_state, M_places, M_least, M_row, M_rowSize, M_differ, M_blocks, M_marks, M_wrongs, M_bytes, M_rights, M_tells, M_lastMaster, M_lastCounts, M_word, M_values, M_system, M_solved, M_wrong])), (qM_begins, .inl (cI, 6, .inl M_begins)), (qM_firsts, .inl (cI, 18, .inl M_firsts)), (qM_seconds, .inl (cI, 18, .inl M_seconds)), (qM_line, .inl (cI, 4096, .inl M_line))]) (As := [.int (x2 &&& (91 : Int32))]) (rest := [.int (1 : Int32), .int M_length, .ref qM_line]) (c_Mo_odd l D cI cJ tt _ (x2 &&& (91 : Int32)) r5 hu) F ok_Mo_odd k_1059 hK hE hP hD hS hA [] [0, 1, 2, 3, 4] rfl rfl (by decide) (by decide) (by decide) ⟨rfl, rfl, Nat.le_of_ble_eq_true rfl, Nat.le_of_ble_eq_true rfl⟩ ⟨Nat.zero_le _, Nat.zero_le _⟩ rfl hl.1 rfl (Nat.le_of_ble_eq_true rfl) d_Mo_send1_81 (fun H locs hP hD hS => ?_)
      have hP : va_P D classes (w_Mo_send1 cI cJ qM qM_begins qM_firsts qM_seconds qM_line M_thrown M_depth M_fill M_half M_craft M_powers M_logarithms M_forms M_elements M_mixer M_data M_waiting M_master M_counts M_places M_least M_row M_rowSize M_differ M_blocks M_marks M_wrongs M_bytes M_rights M_tells M_lastMaster M_lastCounts M_word M_values M_system M_solved M_wrong M_pattern M_length M_sent M_state M_begins M_firsts M_seconds M_line) H := hP.sub [0, 1, 2, 3, 4] rfl
      have hD : va_D A (w_Mo_send1 cI cJ qM qM_begins qM_firsts qM_seconds qM_line M_thrown M_depth M_fill M_half M_craft M_powers M_logarithms M_forms M_elements M_mixer M_data M_waiting M_master M_counts M_places M_least M_row M_rowSize M_differ M_blocks M_marks M_wrongs M_bytes M_rights M_tells M_lastMaster M_lastCounts M_word M_values M_system M_solved M_wrong M_pattern M_length M_sent M_state M_begins M_firsts M_seconds M_line) := hD.sub [0, 1, 2, 3, 4] (by decide) rfl
      refine lv_isub hx hb d_Mo_send1_84 ?_
      refine z_iast hm hx hb hK hP hD hS 4 rfl d_Mo_send1_85 (fun g7 hm H locs hP hD hS => ?_)
      have hP : va_P D classes (w_Mo_send1 cI cJ qM qM_begins qM_firsts qM_seconds qM_line M_thrown M_depth M_fill M_half M_craft M_powers M_logarithms M_forms M_elements M_mixer M_data M_waiting M_master M_counts M_places M_least M_row M_rowSize M_differ M_blocks M_marks M_wrongs M_bytes M_rights M_tells M_lastMaster M_lastCounts M_word M_values M_system M_solved M_wrong M_pattern M_length M_sent M_state M_begins M_firsts M_seconds g7) H := hP
      have hD : va_D A (w_Mo_send1 cI cJ qM qM_begins qM_firsts qM_seconds qM_line M_thrown M_depth M_fill M_half M_craft M_powers M_logarithms M_forms M_elements M_mixer M_data M_waiting M_master M_counts M_places M_least M_row M_rowSize M_differ M_blocks M_marks M_wrongs M_bytes M_rights M_tells M_lastMaster M_lastCounts M_word M_values M_system M_solved M_wrong M_pattern M_length M_sent M_state M_begins M_firsts M_seconds g7) := hD
      refine lv_aload_n hx hb d_Mo_send1_86 rfl (lv_at hl 0 rfl) ?_
      refine lv_dup hx hb d_Mo_send1_87 rfl ?_
      refine va_get (D := D) (ci := 11) (v := .int M_length) (C := "DeepChannelModel") (T := fT_Mo) (N := 40) hx hb hts u_Mo hown hK hP 0 rfl rfl 19 (by decide) (hts _ k_905) (fun _ h9 => h9) rfl d_Mo_send1_88 ?_
      refine lv_iconst (v := (1 : Int32)) hx hb d_Mo_send1_91 (by decide) ?_
      refine lv_iadd hx hb d_Mo_send1_92 ?_
      refine z_nmi hm (fun v8 hm => ?_)
      refine va_put (D := D) (ci := 11) (v := .int v8) (ty := .int) (C := "DeepChannelModel") (T := fT_Mo) (N := 40) hx hb hts u_Mo fY_Mo fK_Mo fN_Mo hown hK hP hD hS 0 rfl rfl 19 (by decide) (hts _ k_905) (fun _ h9 => h9) rfl (by decide +kernel) rfl rfl (Nat.le_of_ble_eq_true rfl) d_Mo_send1_93 (fun H locs hP hD hS => ?_)
      have hP : va_P D classes (w_Mo_send1 cI cJ qM qM_begins qM_firsts qM_seconds qM_line M_thrown M_depth M_fill M_half M_craft M_powers M_logarithms M_forms M_elements M_mixer M_data M_waiting M_master M_counts M_places M_least M_row M_rowSize M_differ M_blocks M_marks M_wrongs M_bytes M_rights M_tells M_lastMaster M_lastCounts M_word M_values M_system M_solved M_wrong M_pattern v8 M_sent M_state M_begins M_firsts M_seconds g7) H := hP
      have hD : va_D A (w_Mo_send1 cI cJ qM qM_begins qM_firsts qM_seconds qM_line M_thrown M_depth M_fill M_half M_craft M_powers M_logarithms M_forms M_elements M_mixer M_data M_waiting M_master M_counts M_places M_least M_row M_rowSize M_differ M_blocks M_marks M_wrongs M_bytes M_rights M_tells M_lastMaster M_lastCounts M_word M_values M_system M_solved M_wrong M_pattern v8 M_sent M_state M_begins M_firsts M_seconds g7) := hD
      exact T96 x2 v8 M_sent M_state g7 hm _ _ hP hD hS _ (lv_sub hl [0, 1] rfl)
    · exact T96 x2 M_length M_sent M_state M_line hm _ _ hP hD hS _ (lv_sub hl [0, 1] rfl)
  unfold f_Mo_send1 at hm
  refine lv_iload_n hx hb d_Mo_send1_0 rfl (lv_at hl 1 rfl) ?_
  refine lv_bipush (v := (6 : Int32)) hx hb d_Mo_send1_1 (by decide) ?_
  refine lv_ishl hx hb d_Mo_send1_3 ?_
  refine lv_aload_n hx hb d_Mo_send1_4 rfl (lv_at hl 0 rfl) ?_
  refine va_get (D := D) (ci := 11) (v := .int M_state) (C := "DeepChannelModel") (T := fT_Mo) (N := 40) hx hb hts u_Mo hown hK hP 0 rfl rfl 21 (by decide) (hts _ k_907) (fun _ h9 => h9) rfl d_Mo_send1_5 ?_
  refine lv_ior hx hb d_Mo_send1_8 ?_
  refine z_nmi hm (fun v9 hm => ?_)
  refine lv_istore_n (lv' := [(2, .int v9), (0, .ref qM), (1, .int x1)]) hx hb d_Mo_send1_9 rfl hl (by decide) rfl (fun ls hl => ?_)
  refine lv_aload_n hx hb d_Mo_send1_10 rfl (lv_at hl 1 rfl) ?_
  refine lv_aload_n hx hb d_Mo_send1_11 rfl (lv_at hl 1 rfl) ?_
  refine va_get (D := D) (ci := 11) (v := .ref qM_firsts) (C := "DeepChannelModel") (T := fT_Mo) (N := 40) hx hb hts u_Mo hown hK hP 0 rfl rfl 7 (by decide) (hts _ k_893) (fun _ h9 => h9) rfl d_Mo_send1_12 ?_
  refine lv_aload_n hx hb d_Mo_send1_15 rfl (lv_at hl 1 rfl) ?_
  refine va_get (D := D) (ci := 11) (v := .int M_sent) (C := "DeepChannelModel") (T := fT_Mo) (N := 40) hx hb hts u_Mo hown hK hP 0 rfl rfl 20 (by decide) (hts _ k_906) (fun _ h9 => h9) rfl d_Mo_send1_16 ?_
  obtain ⟨r10, hu, hm⟩ := bd_el hm
  replace hm := nm_1 hm
  refine z_cVi (wc := w_Mo_kept cI cJ qM qM_begins qM_firsts M_thrown M_depth M_fill M_half M_craft (.ref qM_firsts) (.ref qM_seconds) M_powers M_logarithms M_forms M_elements M_mixer M_data M_waiting M_master M_counts (.ref qM_line) (.int M_length) (.int M_sent) (.int M_state) M_places M_least M_row M_rowSize M_differ M_blocks M_marks M_wrongs M_bytes M_rights M_tells M_lastMaster M_lastCounts M_word M_values M_system M_solved M_wrong 18 M_pattern M_begins M_firsts) (wc' := w_Mo_kept cI cJ qM qM_begins qM_firsts M_thrown M_depth M_fill M_half M_craft (.ref qM_firsts) (.ref qM_seconds) M_powers M_logarithms M_forms M_elements M_mixer M_data M_waiting M_master M_counts (.ref qM_line) (.int M_length) (.int M_sent) (.int M_state) M_places M_least M_row M_rowSize M_differ M_blocks M_marks M_wrongs M_bytes M_rights M_tells M_lastMaster M_lastCounts M_word M_values M_system M_solved M_wrong 18 M_pattern M_begins M_firsts) (wr := [(qM_seconds, .inl (cI, 18, .inl M_seconds)), (qM_line, .inl (cI, 4096, .inl M_line))]) (As := [.ref qM_firsts, .int M_sent]) (rest := []) (c_Mo_kept l D cI cJ tt qM qM_begins qM_firsts M_thrown M_depth M_fill M_half M_craft (.ref qM_firsts) (.ref qM_seconds) M_powers M_logarithms M_forms M_elements M_mixer M_data M_waiting M_master M_counts (.ref qM_line) (.int M_length) (.int M_sent) (.int M_state) M_places M_least M_row M_rowSize M_differ M_blocks M_marks M_wrongs M_bytes M_rights M_tells M_lastMaster M_lastCounts M_word M_values M_system M_solved M_wrong 18 _ M_pattern M_begins M_firsts M_sent r10 hu) F ok_Mo_kept rfl k_1051 hK hE hP hD hS hA [0, 1, 2] [3, 4] rfl rfl (by decide) (by decide) (by decide) 0 rfl rfl rfl ⟨rfl, rfl, Nat.le_of_ble_eq_true rfl, Nat.le_of_ble_eq_true rfl⟩ ⟨Nat.zero_le _, Nat.zero_le _⟩ rfl hl.1 rfl (Nat.le_of_ble_eq_true rfl) d_Mo_send1_19 (fun H locs hP hD hS => ?_)
  have hP : va_P D classes (w_Mo_send1 cI cJ qM qM_begins qM_firsts qM_seconds qM_line M_thrown M_depth M_fill M_half M_craft M_powers M_logarithms M_forms M_elements M_mixer M_data M_waiting M_master M_counts M_places M_least M_row M_rowSize M_differ M_blocks M_marks M_wrongs M_bytes M_rights M_tells M_lastMaster M_lastCounts M_word M_values M_system M_solved M_wrong M_pattern M_length M_sent M_state M_begins M_firsts M_seconds M_line) H := hP.sub [2, 3, 4, 0, 1] rfl
  have hD : va_D A (w_Mo_send1 cI cJ qM qM_begins qM_firsts qM_seconds qM_line M_thrown M_depth M_fill M_half M_craft M_powers M_logarithms M_forms M_elements M_mixer M_data M_waiting M_master M_counts M_places M_least M_row M_rowSize M_differ M_blocks M_marks M_wrongs M_bytes M_rights M_tells M_lastMaster M_lastCounts M_word M_values M_system M_solved M_wrong M_pattern M_length M_sent M_state M_begins M_firsts M_seconds M_line) := hD.sub [2, 3, 4, 0, 1] (by decide) rfl
  refine lv_iconst (v := (1 : Int32)) hx hb d_Mo_send1_22 (by decide) ?_
  refine z_ifn hm (lv_icmp_ne (tgt := 52) hx hb d_Mo_send1_23 (by decide)) (fun hm => ?_) (fun hm => ?_)
  · refine lv_aload_n hx hb d_Mo_send1_26 rfl (lv_at hl 1 rfl) ?_
    refine va_get (D := D) (ci := 11) (v := .ref qM_line) (C := "DeepChannelModel") (T := fT_Mo) (N := 40) hx hb hts u_Mo hown hK hP 0 rfl rfl 18 (by decide) (hts _ k_904) (fun _ h9 => h9) rfl d_Mo_send1_27 ?_
    refine lv_aload_n hx hb d_Mo_send1_30 rfl (lv_at hl 1 rfl) ?_
    refine va_get (D := D) (ci := 11) (v := .int M_length) (C := "DeepChannelModel") (T := fT_Mo) (N := 40) hx hb hts u_Mo hown hK hP 0 rfl rfl 19 (by decide) (hts _ k_905) (fun _ h9 => h9) rfl d_Mo_send1_31 ?_
    refine lv_iload_n hx hb d_Mo_send1_34 rfl (lv_at hl 0 rfl) ?_
    refine lv_bipush (v := (121 : Int32)) hx hb d_Mo_send1_35 (by decide) ?_
    refine lv_iand hx hb d_Mo_send1_37 ?_
    obtain ⟨r12, hu, hm⟩ := bd_el hm
    replace hm := nm_1 hm
    refine z_cSi (wc := w_Mo_odd) (wc' := w_Mo_odd) (wr := [(qM, .inr (11, [M_thrown, M_depth, M_fill, M_half, .int M_pattern, M_craft, .ref qM_begins, .ref qM_firsts, .ref qM_seconds, M_powers, M_logarithms, M_forms, M_elements, M_mixer, M_data, M_waiting, M_master, M_counts, .ref qM_line, .int M_length, .int M_sent, .int M_state, M_places, M_least, M_row, M_rowSize, M_differ, M_blocks, M_marks, M_wrongs, M_bytes, M_rights, M_tells, M_lastMaster, M_lastCounts, M_word, M_values, M_system, M_solved, M_wrong])), (qM_begins, .inl (cI, 6, .inl M_begins)), (qM_firsts, .inl (cI, 18, .inl M_firsts)), (qM_seconds, .inl (cI, 18, .inl M_seconds)), (qM_line, .inl (cI, 4096, .inl M_line))]) (As := [.int (v9 &&& (121 : Int32))]) (rest := [.int M_length, .ref qM_line]) (c_Mo_odd l D cI cJ tt _ (v9 &&& (121 : Int32)) r12 hu) F ok_Mo_odd k_1059 hK hE hP hD hS hA [] [0, 1, 2, 3, 4] rfl rfl (by decide) (by decide) (by decide) ⟨rfl, rfl, Nat.le_of_ble_eq_true rfl, Nat.le_of_ble_eq_true rfl⟩ ⟨Nat.zero_le _, Nat.zero_le _⟩ rfl hl.1 rfl (Nat.le_of_ble_eq_true rfl) d_Mo_send1_38 (fun H locs hP hD hS => ?_)
    have hP : va_P D classes (w_Mo_send1 cI cJ qM qM_begins qM_firsts qM_seconds qM_line M_thrown M_depth M_fill M_half M_craft M_powers M_logarithms M_forms M_elements M_mixer M_data M_waiting M_master M_counts M_places M_least M_row M_rowSize M_differ M_blocks M_marks M_wrongs M_bytes M_rights M_tells M_lastMaster M_lastCounts M_word M_values M_system M_solved M_wrong M_pattern M_length M_sent M_state M_begins M_firsts M_seconds M_line) H := hP.sub [0, 1, 2, 3, 4] rfl
    have hD : va_D A (w_Mo_send1 cI cJ qM qM_begins qM_firsts qM_seconds qM_line M_thrown M_depth M_fill M_half M_craft M_powers M_logarithms M_forms M_elements M_mixer M_data M_waiting M_master M_counts M_places M_least M_row M_rowSize M_differ M_blocks M_marks M_wrongs M_bytes M_rights M_tells M_lastMaster M_lastCounts M_word M_values M_system M_solved M_wrong M_pattern M_length M_sent M_state M_begins M_firsts M_seconds M_line) := hD.sub [0, 1, 2, 3, 4] (by decide) rfl
    refine z_iast hm hx hb hK hP hD hS 4 rfl d_Mo_send1_41 (fun g14 hm H locs hP hD hS => ?_)
    have hP : va_P D classes (w_Mo_send1 cI cJ qM qM_begins qM_firsts qM_seconds qM_line M_thrown M_depth M_fill M_half M_craft M_powers M_logarithms M_forms M_elements M_mixer M_data M_waiting M_master M_counts M_places M_least M_row M_rowSize M_differ M_blocks M_marks M_wrongs M_bytes M_rights M_tells M_lastMaster M_lastCounts M_word M_values M_system M_solved M_wrong M_pattern M_length M_sent M_state M_begins M_firsts M_seconds g14) H := hP
    have hD : va_D A (w_Mo_send1 cI cJ qM qM_begins qM_firsts qM_seconds qM_line M_thrown M_depth M_fill M_half M_craft M_powers M_logarithms M_forms M_elements M_mixer M_data M_waiting M_master M_counts M_places M_least M_row M_rowSize M_differ M_blocks M_marks M_wrongs M_bytes M_rights M_tells M_lastMaster M_lastCounts M_word M_values M_system M_solved M_wrong M_pattern M_length M_sent M_state M_begins M_firsts M_seconds g14) := hD
    refine lv_aload_n hx hb d_Mo_send1_42 rfl (lv_at hl 1 rfl) ?_
    refine lv_dup hx hb d_Mo_send1_43 rfl ?_
    refine va_get (D := D) (ci := 11) (v := .int M_length) (C := "DeepChannelModel") (T := fT_Mo) (N := 40) hx hb hts u_Mo hown hK hP 0 rfl rfl 19 (by decide) (hts _ k_905) (fun _ h9 => h9) rfl d_Mo_send1_44 ?_
    refine lv_iconst (v := (1 : Int32)) hx hb d_Mo_send1_47 (by decide) ?_
    refine lv_iadd hx hb d_Mo_send1_48 ?_
    refine z_nmi hm (fun v15 hm => ?_)
    refine va_put (D := D) (ci := 11) (v := .int v15) (ty := .int) (C := "DeepChannelModel") (T := fT_Mo) (N := 40) hx hb hts u_Mo fY_Mo fK_Mo fN_Mo hown hK hP hD hS 0 rfl rfl 19 (by decide) (hts _ k_905) (fun _ h9 => h9) rfl (by decide +kernel) rfl rfl (Nat.le_of_ble_eq_true rfl) d_Mo_send1_49 (fun H locs hP hD hS => ?_)
    have hP : va_P D classes (w_Mo_send1 cI cJ qM qM_begins qM_firsts qM_seconds qM_line M_thrown M_depth M_fill M_half M_craft M_powers M_logarithms M_forms M_elements M_mixer M_data M_waiting M_master M_counts M_places M_least M_row M_rowSize M_differ M_blocks M_marks M_wrongs M_bytes M_rights M_tells M_lastMaster M_lastCounts M_word M_values M_system M_solved M_wrong M_pattern v15 M_sent M_state M_begins M_firsts M_seconds g14) H := hP
    have hD : va_D A (w_Mo_send1 cI cJ qM qM_begins qM_firsts qM_seconds qM_line M_thrown M_depth M_fill M_half M_craft M_powers M_logarithms M_forms M_elements M_mixer M_data M_waiting M_master M_counts M_places M_least M_row M_rowSize M_differ M_blocks M_marks M_wrongs M_bytes M_rights M_tells M_lastMaster M_lastCounts M_word M_values M_system M_solved M_wrong M_pattern v15 M_sent M_state M_begins M_firsts M_seconds g14) := hD
    exact T52 v9 v15 M_sent M_state g14 hm _ _ hP hD hS _ (lv_sub hl [1, 0] rfl)
  · exact T52 v9 M_length M_sent M_state M_line hm _ _ hP hD hS _ (lv_sub hl [1, 0] rfl)
-- DeepChannelModel.sendByte(I)V
abbrev b_Mo_sendByte : ByteArray := prog_13_method_21_code
abbrev y_Mo_sendByte : MethodName := ⟨"DeepChannelModel", "sendByte", "(I)V"⟩
theorem d_Mo_sendByte_0 : decode b_Mo_sendByte 0 = .ok (.bipush 7, 2) := by decide +kernel
theorem d_Mo_sendByte_2 : decode b_Mo_sendByte 2 = .ok (.istore_n 2, 1) := by decide +kernel
theorem d_Mo_sendByte_3 : decode b_Mo_sendByte 3 = .ok (.iload_n 2, 1) := by decide +kernel
theorem d_Mo_sendByte_4 : decode b_Mo_sendByte 4 = .ok (.ifCond .lt 18, 3) := by decide +kernel
theorem d_Mo_sendByte_7 : decode b_Mo_sendByte 7 = .ok (.aload_n 0, 1) := by decide +kernel
theorem d_Mo_sendByte_8 : decode b_Mo_sendByte 8 = .ok (.iload_n 1, 1) := by decide +kernel
theorem d_Mo_sendByte_9 : decode b_Mo_sendByte 9 = .ok (.iload_n 2, 1) := by decide +kernel
theorem d_Mo_sendByte_10 : decode b_Mo_sendByte 10 = .ok (.ishr, 1) := by decide +kernel
theorem d_Mo_sendByte_11 : decode b_Mo_sendByte 11 = .ok (.iconst 1, 1) := by decide +kernel
theorem d_Mo_sendByte_12 : decode b_Mo_sendByte 12 = .ok (.iand, 1) := by decide +kernel
theorem d_Mo_sendByte_13 : decode b_Mo_sendByte 13 = .ok (.invokevirtual 163, 3) := by decide +kernel
theorem d_Mo_sendByte_16 : decode b_Mo_sendByte 16 = .ok (.iinc 2 (-1), 3) := by decide +kernel
theorem d_Mo_sendByte_19 : decode b_Mo_sendByte 19 = .ok (.goto (-16), 3) := by decide +kernel
theorem d_Mo_sendByte_22 : decode b_Mo_sendByte 22 = .ok (.return_, 1) := by decide +kernel
theorem ok_Mo_sendByte : OKv y_Mo_sendByte b_Mo_sendByte 3 none "DeepChannelModel" 1 := ⟨k_1106, k_1105, k_31, k_55, by decide +kernel, by decide +kernel, by decide +kernel⟩
abbrev w_Mo_sendByte (cI cJ : ClassId) (qM qM_begins qM_firsts qM_seconds qM_line : Nat) (M_thrown M_depth M_fill M_half M_craft M_powers M_logarithms M_forms M_elements M_mixer M_data M_waiting M_master M_counts M_places M_least M_row M_rowSize M_differ M_blocks M_marks M_wrongs M_bytes M_rights M_tells M_lastMaster M_lastCounts M_word M_values M_system M_solved M_wrong : Value) (M_pattern : Int32) (M_length : Int32) (M_sent : Int32) (M_state : Int32) (M_begins : Nat → Int32) (M_firsts : Nat → Int32) (M_seconds : Nat → Int32) (M_line : Nat → Int32) : va_W := [(qM, .inr (11, [M_thrown, M_depth, M_fill, M_half, .int M_pattern, M_craft, .ref qM_begins, .ref qM_firsts, .ref qM_seconds, M_powers, M_logarithms, M_forms, M_elements, M_mixer, M_data, M_waiting, M_master, M_counts, .ref qM_line, .int M_length, .int M_sent, .int M_state, M_places, M_least, M_row, M_rowSize, M_differ, M_blocks, M_marks, M_wrongs, M_bytes, M_rights, M_tells, M_lastMaster, M_lastCounts, M_word, M_values, M_system, M_solved, M_wrong])), (qM_begins, .inl (cI, 6, .inl M_begins)), (qM_firsts, .inl (cI, 18, .inl M_firsts)), (qM_seconds, .inl (cI, 18, .inl M_seconds)), (qM_line, .inl (cI, 4096, .inl M_line))]
def f_Mo_sendByte_3_b (M_pattern : Int32) (M_begins : Nat → Int32) (M_firsts : Nat → Int32) (M_seconds : Nat → Int32) (kh3 : Int32 → Int32 → Int32 → Int32 → Int32 → (Nat → Int32) → Option (Int32 × Int32 × Int32 × (Nat → Int32))) (x1 : Int32) (x2 : Int32) (M_length : Int32) (M_sent : Int32) (M_state : Int32) (M_line : Nat → Int32) : Option (Int32 × Int32 × Int32 × (Nat → Int32)) :=
  if x2 < 0 then
    some (M_length, M_sent, M_state, M_line)
  else
  bd (f_Mo_send1 M_pattern M_length M_sent M_state M_begins M_firsts M_seconds M_line ((x1 >>> (x2 &&& 31)) &&& (1 : Int32))) fun u5 =>
  nm u5.1 fun v1 =>
  nm u5.2.1 fun v2 =>
  nm u5.2.2.1 fun v3 =>
  nm u5.2.2.2 fun g4 =>
  nm (x2 + (-1 : Int32)) fun v6 =>
  kh3 x1 v6 v1 v2 v3 g4
def f_Mo_sendByte_3 (M_pattern : Int32) (M_begins : Nat → Int32) (M_firsts : Nat → Int32) (M_seconds : Nat → Int32) : Nat → Int32 → Int32 → Int32 → Int32 → Int32 → (Nat → Int32) → Option (Int32 × Int32 × Int32 × (Nat → Int32))
  | 0 => fun _ _ _ _ _ _ => none
  | n + 1 => fun x1 x2 M_length M_sent M_state M_line => f_Mo_sendByte_3_b M_pattern M_begins M_firsts M_seconds (f_Mo_sendByte_3 M_pattern M_begins M_firsts M_seconds n) x1 x2 M_length M_sent M_state M_line
def f_Mo_sendByte (M_pattern : Int32) (M_length : Int32) (M_sent : Int32) (M_state : Int32) (M_begins : Nat → Int32) (M_firsts : Nat → Int32) (M_seconds : Nat → Int32) (M_line : Nat → Int32) (x1 : Int32) : Option (Int32 × Int32 × Int32 × (Nat → Int32)) :=
  f_Mo_sendByte_3 M_pattern M_begins M_firsts M_seconds 10000 x1 (7 : Int32) M_length M_sent M_state M_line
set_option maxHeartbeats 4000000 in
set_option maxRecDepth 100000 in
theorem c_Mo_sendByte (l : Launch) (D : va_G) (cI cJ : ClassId) (tt : Nat → Nat) (qM qM_begins qM_firsts qM_seconds qM_line : Nat) (M_thrown M_depth M_fill M_half M_craft M_powers M_logarithms M_forms M_elements M_mixer M_data M_waiting M_master M_counts M_places M_least M_row M_rowSize M_differ M_blocks M_marks M_wrongs M_bytes M_rights M_tells M_lastMaster M_lastCounts M_word M_values M_system M_solved M_wrong : Value) (sz : Nat) (M_pattern : Int32) (M_length : Int32) (M_sent : Int32) (M_state : Int32) (M_begins : Nat → Int32) (M_firsts : Nat → Int32) (M_seconds : Nat → Int32) (M_line : Nat → Int32) (x1 : Int32) (M_length' : Int32) (M_sent' : Int32) (M_state' : Int32) (M_line' : Nat → Int32) (hm : f_Mo_sendByte M_pattern M_length M_sent M_state M_begins M_firsts M_seconds M_line x1 = some (M_length', M_sent', M_state', M_line')) : CTv l y_Mo_sendByte b_Mo_sendByte 3 none (RM 2 44) D cI cJ tt [.ref qM, .int x1] (w_Mo_sendByte cI cJ qM qM_begins qM_firsts qM_seconds qM_line M_thrown M_depth M_fill M_half M_craft M_powers M_logarithms M_forms M_elements M_mixer M_data M_waiting M_master M_counts M_places M_least M_row M_rowSize M_differ M_blocks M_marks M_wrongs M_bytes M_rights M_tells M_lastMaster M_lastCounts M_word M_values M_system M_solved M_wrong M_pattern M_length M_sent M_state M_begins M_firsts M_seconds M_line) (w_Mo_sendByte cI cJ qM qM_begins qM_firsts qM_seconds qM_line M_thrown M_depth M_fill M_half M_craft M_powers M_logarithms M_forms M_elements M_mixer M_data M_waiting M_master M_counts M_places M_least M_row M_rowSize M_differ M_blocks M_marks M_wrongs M_bytes M_rights M_tells M_lastMaster M_lastCounts M_word M_values M_system M_solved M_wrong M_pattern M_length' M_sent' M_state' M_begins M_firsts M_seconds M_line') sz := by
  refine Met.ofW (cc := b_Mo_sendByte) (maxL := 3) (ret := none) (by decide) rfl ?_
  intro p e s m args below meth c s₁ B hml hv
  obtain ⟨hargs, hsz, hP, hK, hD0, hE⟩ := hv
  have hx := B.exec
  have hb := B.bytes
  have hr := B.returns
  have hts : ∀ w ∈ TB, w.before args s = true := z_mV s (atoms_spec (ws := WD y_Mo_sendByte b_Mo_sendByte 3 none) B.pre)
  have hown : s.vm.findClass "DeepChannelModel" = some m.cls := findClass_of_methodNamed B.named
  have hlocks := B.notSynchronized
  subst hsz
  have hD := hD0.self (sz := s.heap.size)
  generalize hAe : va_A (w_Mo_sendByte cI cJ qM qM_begins qM_firsts qM_seconds qM_line M_thrown M_depth M_fill M_half M_craft M_powers M_logarithms M_forms M_elements M_mixer M_data M_waiting M_master M_counts M_places M_least M_row M_rowSize M_differ M_blocks M_marks M_wrongs M_bytes M_rights M_tells M_lastMaster M_lastCounts M_word M_values M_system M_solved M_wrong M_pattern M_length M_sent M_state M_begins M_firsts M_seconds M_line) s.heap.size = A at hD hE ⊢
  have hA : ∀ q : Nat, s.heap.size ≤ q → A q := fun q h => by rw [← hAe]; exact Or.inr h
  have hS : va_S A s.heap s.heap [] := va_S.rf
  refine z_entry (vs := [.ref qM, .int x1]) hargs (Nat.le_of_ble_eq_true rfl) (fun ls hl => ?_)
  have hl : lv_has ls 3 [(0, .ref qM), (1, .int x1)] := hl
  show W p l e (RM 2 44) s m args below meth c s.heap [] 0 0 _ _
  refine z_qi (fun Q0 hQ => ?_)
  have F : CallFix p m c b_Mo_sendByte 3 s args TB "DeepChannelModel" := ⟨hx, hb, hml, hown, hts⟩
  have T3 : ∀ (n3 : Nat) (x1 : Int32) (x2 : Int32) (M_length : Int32) (M_sent : Int32) (M_state : Int32) (M_line : Nat → Int32), f_Mo_sendByte_3 M_pattern M_begins M_firsts M_seconds n3 x1 x2 M_length M_sent M_state M_line = some (M_length', M_sent', M_state', M_line') → ∀ (H : Heap) (locs : List Loc), va_P D classes (w_Mo_sendByte cI cJ qM qM_begins qM_firsts qM_seconds qM_line M_thrown M_depth M_fill M_half M_craft M_powers M_logarithms M_forms M_elements M_mixer M_data M_waiting M_master M_counts M_places M_least M_row M_rowSize M_differ M_blocks M_marks M_wrongs M_bytes M_rights M_tells M_lastMaster M_lastCounts M_word M_values M_system M_solved M_wrong M_pattern M_length M_sent M_state M_begins M_firsts M_seconds M_line) H → va_D A (w_Mo_sendByte cI cJ qM qM_begins qM_firsts qM_seconds qM_line M_thrown M_depth M_fill M_half M_craft M_powers M_logarithms M_forms M_elements M_mixer M_data M_waiting M_master M_counts M_places M_least M_row M_rowSize M_differ M_blocks M_marks M_wrongs M_bytes M_rights M_tells M_lastMaster M_lastCounts M_word M_values M_system M_solved M_wrong M_pattern M_length M_sent M_state M_begins M_firsts M_seconds M_line) → va_S A s.heap H locs → ∀ (ls : Array Slot), lv_has ls 3 [(0, .ref qM), (1, .int x1), (2, .int x2)] → W p l e (RM 2 44) s m args below meth c H locs 0 0 Q0 (F0 m 3 ls []) := by
    intro n3
    induction n3 with
    | zero => intro x1 x2 M_length M_sent M_state M_line hm; cases hm
    | succ n3 ih3 =>
      intro x1 x2 M_length M_sent M_state M_line hm H locs hP hD hS ls hl
      replace hm : f_Mo_sendByte_3_b M_pattern M_begins M_firsts M_seconds (f_Mo_sendByte_3 M_pattern M_begins M_firsts M_seconds n3) x1 x2 M_length M_sent M_state M_line = some (M_length', M_sent', M_state', M_line') := hm
      unfold f_Mo_sendByte_3_b at hm
      refine lv_iload_n hx hb d_Mo_sendByte_3 rfl (lv_at hl 2 rfl) ?_
      refine z_if hm (lv_if_lt (tgt := 22) hx hb d_Mo_sendByte_4 (by decide)) (fun hm => ?_) (fun hm => ?_)
      · cases hm
        exact z_qo hQ (z_vret hr hx hb hlocks hK hP hD hS d_Mo_sendByte_22)
      · refine lv_aload_n hx hb d_Mo_sendByte_7 rfl (lv_at hl 0 rfl) ?_
        refine lv_iload_n hx hb d_Mo_sendByte_8 rfl (lv_at hl 1 rfl) ?_
        refine lv_iload_n hx hb d_Mo_sendByte_9 rfl (lv_at hl 2 rfl) ?_
        refine lv_ishr hx hb d_Mo_sendByte_10 ?_
        refine lv_iconst (v := (1 : Int32)) hx hb d_Mo_sendByte_11 (by decide) ?_
        refine lv_iand hx hb d_Mo_sendByte_12 ?_
        obtain ⟨⟨v1, v2, v3, g4⟩, hu, hm⟩ := bd_el hm
        replace hm := nm_4 hm
        refine z_cVv (wc := w_Mo_send1 cI cJ qM qM_begins qM_firsts qM_seconds qM_line M_thrown M_depth M_fill M_half M_craft M_powers M_logarithms M_forms M_elements M_mixer M_data M_waiting M_master M_counts M_places M_least M_row M_rowSize M_differ M_blocks M_marks M_wrongs M_bytes M_rights M_tells M_lastMaster M_lastCounts M_word M_values M_system M_solved M_wrong M_pattern M_length M_sent M_state M_begins M_firsts M_seconds M_line) (wc' := w_Mo_send1 cI cJ qM qM_begins qM_firsts qM_seconds qM_line M_thrown M_depth M_fill M_half M_craft M_powers M_logarithms M_forms M_elements M_mixer M_data M_waiting M_master M_counts M_places M_least M_row M_rowSize M_differ M_blocks M_marks M_wrongs M_bytes M_rights M_tells M_lastMaster M_lastCounts M_word M_values M_system M_solved M_wrong M_pattern v1 v2 v3 M_begins M_firsts M_seconds g4) (wr := []) (As := [.int ((x1 >>> (x2 &&& 31)) &&& (1 : Int32))]) (rest := []) (c_Mo_send1 l D cI cJ tt qM qM_begins qM_firsts qM_seconds qM_line M_thrown M_depth M_fill M_half M_craft M_powers M_logarithms M_forms M_elements M_mixer M_data M_waiting M_master M_counts M_places M_least M_row M_rowSize M_differ M_blocks M_marks M_wrongs M_bytes M_rights M_tells M_lastMaster M_lastCounts M_word M_values M_system M_solved M_wrong _ M_pattern M_length M_sent M_state M_begins M_firsts M_seconds M_line ((x1 >>> (x2 &&& 31)) &&& (1 : Int32)) v1 v2 v3 g4 hu) F ok_Mo_send1 rfl k_1055 hK hE hP hD hS hA [0, 1, 2, 3, 4] [] rfl rfl (by decide) (by decide) (by decide) 0 rfl rfl rfl ⟨rfl, rfl, Nat.le_of_ble_eq_true rfl, Nat.le_of_ble_eq_true rfl⟩ ⟨Nat.zero_le _, Nat.zero_le _⟩ rfl hl.1 rfl (Nat.le_of_ble_eq_true rfl) d_Mo_sendByte_13 (fun H locs hP hD hS => ?_)
        have hP : va_P D classes (w_Mo_sendByte cI cJ qM qM_begins qM_firsts qM_seconds qM_line M_thrown M_depth M_fill M_half M_craft M_powers M_logarithms M_forms M_elements M_mixer M_data M_waiting M_master M_counts M_places M_least M_row M_rowSize M_differ M_blocks M_marks M_wrongs M_bytes M_rights M_tells M_lastMaster M_lastCounts M_word M_values M_system M_solved M_wrong M_pattern v1 v2 v3 M_begins M_firsts M_seconds g4) H := hP.sub [0, 1, 2, 3, 4] rfl
        have hD : va_D A (w_Mo_sendByte cI cJ qM qM_begins qM_firsts qM_seconds qM_line M_thrown M_depth M_fill M_half M_craft M_powers M_logarithms M_forms M_elements M_mixer M_data M_waiting M_master M_counts M_places M_least M_row M_rowSize M_differ M_blocks M_marks M_wrongs M_bytes M_rights M_tells M_lastMaster M_lastCounts M_word M_values M_system M_solved M_wrong M_pattern v1 v2 v3 M_begins M_firsts M_seconds g4) := hD.sub [0, 1, 2, 3, 4] (by decide) rfl
        obtain ⟨v6, ev, hm⟩ := nm_el hm
        refine lv_iinc (v := v6) (lv' := [(2, .int v6), (0, .ref qM), (1, .int x1)]) hx hb d_Mo_sendByte_16 hl (k := 2) rfl (by rw [ev]; rfl) (by decide) rfl (fun ls hl => ?_)
        refine lv_goto (tgt := 3) hx hb d_Mo_sendByte_19 (by decide) ?_
        exact ih3 x1 v6 v1 v2 v3 g4 hm _ _ hP hD hS _ (lv_sub hl [1, 2, 0] rfl)
  unfold f_Mo_sendByte at hm
  refine lv_bipush (v := (7 : Int32)) hx hb d_Mo_sendByte_0 (by decide) ?_
  refine lv_istore_n (lv' := [(2, .int (7 : Int32)), (0, .ref qM), (1, .int x1)]) hx hb d_Mo_sendByte_2 rfl hl (by decide) rfl (fun ls hl => ?_)
  exact T3 10000 x1 (7 : Int32) M_length M_sent M_state M_line hm _ _ hP hD hS _ (lv_sub hl [1, 2, 0] rfl)
-- DeepChannelModel.plain(IJ)I
abbrev b_Mo_plain : ByteArray := prog_13_method_22_code
abbrev y_Mo_plain : MethodName := ⟨"DeepChannelModel", "plain", "(IJ)I"⟩
theorem d_Mo_plain_0 : decode b_Mo_plain 0 = .ok (.aload_n 0, 1) := by decide +kernel
theorem d_Mo_plain_1 : decode b_Mo_plain 1 = .ok (.iload_n 1, 1) := by decide +kernel
theorem d_Mo_plain_2 : decode b_Mo_plain 2 = .ok (.iconst 1, 1) := by decide +kernel
theorem d_Mo_plain_3 : decode b_Mo_plain 3 = .ok (.if_icmp .lt 9, 3) := by decide +kernel
theorem d_Mo_plain_6 : decode b_Mo_plain 6 = .ok (.iload_n 1, 1) := by decide +kernel
theorem d_Mo_plain_7 : decode b_Mo_plain 7 = .ok (.bipush 64, 2) := by decide +kernel
theorem d_Mo_plain_9 : decode b_Mo_plain 9 = .ok (.if_icmp .le 7, 3) := by decide +kernel
theorem d_Mo_plain_12 : decode b_Mo_plain 12 = .ok (.iconst 1, 1) := by decide +kernel
theorem d_Mo_plain_13 : decode b_Mo_plain 13 = .ok (.goto 4, 3) := by decide +kernel
theorem d_Mo_plain_16 : decode b_Mo_plain 16 = .ok (.iconst 0, 1) := by decide +kernel
theorem d_Mo_plain_17 : decode b_Mo_plain 17 = .ok (.putfield 103, 3) := by decide +kernel
theorem d_Mo_plain_20 : decode b_Mo_plain 20 = .ok (.aload_n 0, 1) := by decide +kernel
theorem d_Mo_plain_21 : decode b_Mo_plain 21 = .ok (.getfield 103, 3) := by decide +kernel
theorem d_Mo_plain_24 : decode b_Mo_plain 24 = .ok (.ifCond .le 5, 3) := by decide +kernel
theorem d_Mo_plain_27 : decode b_Mo_plain 27 = .ok (.iconst 0, 1) := by decide +kernel
theorem d_Mo_plain_28 : decode b_Mo_plain 28 = .ok (.ireturn, 1) := by decide +kernel
theorem d_Mo_plain_29 : decode b_Mo_plain 29 = .ok (.aload_n 0, 1) := by decide +kernel
theorem d_Mo_plain_30 : decode b_Mo_plain 30 = .ok (.getfield 120, 3) := by decide +kernel
theorem d_Mo_plain_33 : decode b_Mo_plain 33 = .ok (.aload_n 0, 1) := by decide +kernel
theorem d_Mo_plain_34 : decode b_Mo_plain 34 = .ok (.aload_n 0, 1) := by decide +kernel
theorem d_Mo_plain_35 : decode b_Mo_plain 35 = .ok (.getfield 123, 3) := by decide +kernel
theorem d_Mo_plain_38 : decode b_Mo_plain 38 = .ok (.iload_n 1, 1) := by decide +kernel
theorem d_Mo_plain_39 : decode b_Mo_plain 39 = .ok (.invokevirtual 167, 3) := by decide +kernel
theorem d_Mo_plain_42 : decode b_Mo_plain 42 = .ok (.iadd, 1) := by decide +kernel
theorem d_Mo_plain_43 : decode b_Mo_plain 43 = .ok (.sipush 4096, 3) := by decide +kernel
theorem d_Mo_plain_46 : decode b_Mo_plain 46 = .ok (.if_icmp .le 5, 3) := by decide +kernel
theorem d_Mo_plain_49 : decode b_Mo_plain 49 = .ok (.iconst (-1), 1) := by decide +kernel
theorem d_Mo_plain_50 : decode b_Mo_plain 50 = .ok (.ireturn, 1) := by decide +kernel
theorem d_Mo_plain_51 : decode b_Mo_plain 51 = .ok (.iconst 0, 1) := by decide +kernel
theorem d_Mo_plain_52 : decode b_Mo_plain 52 = .ok (.istore 4, 2) := by decide +kernel
theorem d_Mo_plain_54 : decode b_Mo_plain 54 = .ok (.iload 4, 2) := by decide +kernel
theorem d_Mo_plain_56 : decode b_Mo_plain 56 = .ok (.iload_n 1, 1) := by decide +kernel
theorem d_Mo_plain_57 : decode b_Mo_plain 57 = .ok (.if_icmp .ge 20, 3) := by decide +kernel
theorem d_Mo_plain_60 : decode b_Mo_plain 60 = .ok (.aload_n 0, 1) := by decide +kernel
theorem d_Mo_plain_61 : decode b_Mo_plain 61 = .ok (.lload_n 2, 1) := by decide +kernel
theorem d_Mo_plain_62 : decode b_Mo_plain 62 = .ok (.iload 4, 2) := by decide +kernel
theorem d_Mo_plain_64 : decode b_Mo_plain 64 = .ok (.lshr, 1) := by decide +kernel
theorem d_Mo_plain_65 : decode b_Mo_plain 65 = .ok (.lconst 1, 1) := by decide +kernel
theorem d_Mo_plain_66 : decode b_Mo_plain 66 = .ok (.land, 1) := by decide +kernel
theorem d_Mo_plain_67 : decode b_Mo_plain 67 = .ok (.l2i, 1) := by decide +kernel
theorem d_Mo_plain_68 : decode b_Mo_plain 68 = .ok (.invokevirtual 163, 3) := by decide +kernel
theorem d_Mo_plain_71 : decode b_Mo_plain 71 = .ok (.iinc 4 1, 3) := by decide +kernel
theorem d_Mo_plain_74 : decode b_Mo_plain 74 = .ok (.goto (-20), 3) := by decide +kernel
theorem d_Mo_plain_77 : decode b_Mo_plain 77 = .ok (.aload_n 0, 1) := by decide +kernel
theorem d_Mo_plain_78 : decode b_Mo_plain 78 = .ok (.getfield 120, 3) := by decide +kernel
theorem d_Mo_plain_81 : decode b_Mo_plain 81 = .ok (.ireturn, 1) := by decide +kernel
theorem ok_Mo_plain : OKv y_Mo_plain b_Mo_plain 5 (some .int) "DeepChannelModel" 2 := ⟨k_1046, k_1044, k_1045, k_55, by decide +kernel, by decide +kernel, by decide +kernel⟩
abbrev w_Mo_plain (cI cJ : ClassId) (qM qM_begins qM_firsts qM_seconds qM_line : Nat) (M_depth M_fill M_half M_craft M_powers M_logarithms M_forms M_elements M_mixer M_data M_waiting M_master M_counts M_places M_least M_row M_rowSize M_differ M_blocks M_marks M_wrongs M_bytes M_rights M_tells M_lastMaster M_lastCounts M_word M_values M_system M_solved M_wrong : Value) (M_thrown : Int32) (M_pattern : Int32) (M_length : Int32) (M_sent : Int32) (M_state : Int32) (M_begins : Nat → Int32) (M_firsts : Nat → Int32) (M_seconds : Nat → Int32) (M_line : Nat → Int32) : va_W := [(qM, .inr (11, [.int M_thrown, M_depth, M_fill, M_half, .int M_pattern, M_craft, .ref qM_begins, .ref qM_firsts, .ref qM_seconds, M_powers, M_logarithms, M_forms, M_elements, M_mixer, M_data, M_waiting, M_master, M_counts, .ref qM_line, .int M_length, .int M_sent, .int M_state, M_places, M_least, M_row, M_rowSize, M_differ, M_blocks, M_marks, M_wrongs, M_bytes, M_rights, M_tells, M_lastMaster, M_lastCounts, M_word, M_values, M_system, M_solved, M_wrong])), (qM_begins, .inl (cI, 6, .inl M_begins)), (qM_firsts, .inl (cI, 18, .inl M_firsts)), (qM_seconds, .inl (cI, 18, .inl M_seconds)), (qM_line, .inl (cI, 4096, .inl M_line))]
def f_Mo_plain_54_b (M_pattern : Int32) (M_begins : Nat → Int32) (M_firsts : Nat → Int32) (M_seconds : Nat → Int32) (kh54 : Int32 → Int64 → Int32 → Int32 → Int32 → Int32 → Int32 → (Nat → Int32) → Option (Int32 × Int32 × Int32 × Int32 × Int32 × (Nat → Int32))) (x1 : Int32) (x2 : Int64) (x4 : Int32) (M_thrown : Int32) (M_length : Int32) (M_sent : Int32) (M_state : Int32) (M_line : Nat → Int32) : Option (Int32 × Int32 × Int32 × Int32 × Int32 × (Nat → Int32)) :=
  if x1 ≤ x4 then
    some (M_length, M_thrown, M_length, M_sent, M_state, M_line)
  else
  bd (f_Mo_send1 M_pattern M_length M_sent M_state M_begins M_firsts M_seconds M_line ((x2 >>> (x4.toInt64 &&& 63)) &&& (1 : Int64)).toInt32) fun u5 =>
  nm u5.1 fun v1 =>
  nm u5.2.1 fun v2 =>
  nm u5.2.2.1 fun v3 =>
  nm u5.2.2.2 fun g4 =>
  nm (x4 + (1 : Int32)) fun v6 =>
  kh54 x1 x2 v6 M_thrown v1 v2 v3 g4
def f_Mo_plain_54 (M_pattern : Int32) (M_begins : Nat → Int32) (M_firsts : Nat → Int32) (M_seconds : Nat → Int32) : Nat → Int32 → Int64 → Int32 → Int32 → Int32 → Int32 → Int32 → (Nat → Int32) → Option (Int32 × Int32 × Int32 × Int32 × Int32 × (Nat → Int32))
  | 0 => fun _ _ _ _ _ _ _ _ => none
  | n + 1 => fun x1 x2 x4 M_thrown M_length M_sent M_state M_line => f_Mo_plain_54_b M_pattern M_begins M_firsts M_seconds (f_Mo_plain_54 M_pattern M_begins M_firsts M_seconds n) x1 x2 x4 M_thrown M_length M_sent M_state M_line
def f_Mo_plain_17 (M_pattern : Int32) (M_begins : Nat → Int32) (M_firsts : Nat → Int32) (M_seconds : Nat → Int32) (x1 : Int32) (x2 : Int64) (t1 : Int32) (M_thrown : Int32) (M_length : Int32) (M_sent : Int32) (M_state : Int32) (M_line : Nat → Int32) : Option (Int32 × Int32 × Int32 × Int32 × Int32 × (Nat → Int32)) :=
  if t1 ≤ 0 then
    bd (f_Mo_linesOf M_pattern M_begins M_firsts M_seconds M_sent x1) fun u8 =>
    nm u8 fun r7 =>
    if (M_length + r7) ≤ (4096 : Int32) then
      f_Mo_plain_54 M_pattern M_begins M_firsts M_seconds 10000 x1 x2 (0 : Int32) t1 M_length M_sent M_state M_line
    else
    some ((-1 : Int32), t1, M_length, M_sent, M_state, M_line)
  else
  some ((0 : Int32), t1, M_length, M_sent, M_state, M_line)
def f_Mo_plain_12 (M_pattern : Int32) (M_begins : Nat → Int32) (M_firsts : Nat → Int32) (M_seconds : Nat → Int32) (x1 : Int32) (x2 : Int64) (M_thrown : Int32) (M_length : Int32) (M_sent : Int32) (M_state : Int32) (M_line : Nat → Int32) : Option (Int32 × Int32 × Int32 × Int32 × Int32 × (Nat → Int32)) :=
  f_Mo_plain_17 M_pattern M_begins M_firsts M_seconds x1 x2 (1 : Int32) M_thrown M_length M_sent M_state M_line
def f_Mo_plain (M_thrown : Int32) (M_pattern : Int32) (M_length : Int32) (M_sent : Int32) (M_state : Int32) (M_begins : Nat → Int32) (M_firsts : Nat → Int32) (M_seconds : Nat → Int32) (M_line : Nat → Int32) (x1 : Int32) (x2 : Int64) : Option (Int32 × Int32 × Int32 × Int32 × Int32 × (Nat → Int32)) :=
  if x1 < (1 : Int32) then
    f_Mo_plain_12 M_pattern M_begins M_firsts M_seconds x1 x2 M_thrown M_length M_sent M_state M_line
  else
  if x1 ≤ (64 : Int32) then
    f_Mo_plain_17 M_pattern M_begins M_firsts M_seconds x1 x2 (0 : Int32) M_thrown M_length M_sent M_state M_line
  else
  f_Mo_plain_12 M_pattern M_begins M_firsts M_seconds x1 x2 M_thrown M_length M_sent M_state M_line
set_option maxHeartbeats 4000000 in
set_option maxRecDepth 100000 in
theorem c_Mo_plain (l : Launch) (D : va_G) (cI cJ : ClassId) (tt : Nat → Nat) (qM qM_begins qM_firsts qM_seconds qM_line : Nat) (M_depth M_fill M_half M_craft M_powers M_logarithms M_forms M_elements M_mixer M_data M_waiting M_master M_counts M_places M_least M_row M_rowSize M_differ M_blocks M_marks M_wrongs M_bytes M_rights M_tells M_lastMaster M_lastCounts M_word M_values M_system M_solved M_wrong : Value) (sz : Nat) (M_thrown : Int32) (M_pattern : Int32) (M_length : Int32) (M_sent : Int32) (M_state : Int32) (M_begins : Nat → Int32) (M_firsts : Nat → Int32) (M_seconds : Nat → Int32) (M_line : Nat → Int32) (x1 : Int32) (x2 : Int64) (rr : Int32) (M_thrown' : Int32) (M_length' : Int32) (M_sent' : Int32) (M_state' : Int32) (M_line' : Nat → Int32) (hm : f_Mo_plain M_thrown M_pattern M_length M_sent M_state M_begins M_firsts M_seconds M_line x1 x2 = some (rr, M_thrown', M_length', M_sent', M_state', M_line')) : CTi l y_Mo_plain b_Mo_plain 5 (some .int) (RM 2 46) D cI cJ tt [.ref qM, .int x1, .long x2] (w_Mo_plain cI cJ qM qM_begins qM_firsts qM_seconds qM_line M_depth M_fill M_half M_craft M_powers M_logarithms M_forms M_elements M_mixer M_data M_waiting M_master M_counts M_places M_least M_row M_rowSize M_differ M_blocks M_marks M_wrongs M_bytes M_rights M_tells M_lastMaster M_lastCounts M_word M_values M_system M_solved M_wrong M_thrown M_pattern M_length M_sent M_state M_begins M_firsts M_seconds M_line) (w_Mo_plain cI cJ qM qM_begins qM_firsts qM_seconds qM_line M_depth M_fill M_half M_craft M_powers M_logarithms M_forms M_elements M_mixer M_data M_waiting M_master M_counts M_places M_least M_row M_rowSize M_differ M_blocks M_marks M_wrongs M_bytes M_rights M_tells M_lastMaster M_lastCounts M_word M_values M_system M_solved M_wrong M_thrown' M_pattern M_length' M_sent' M_state' M_begins M_firsts M_seconds M_line') sz rr := by
  refine Met.ofW (cc := b_Mo_plain) (maxL := 5) (ret := (some .int)) (by decide) rfl ?_
  intro p e s m args below meth c s₁ B hml hv
  obtain ⟨hargs, hsz, hP, hK, hD0, hE⟩ := hv
  have hx := B.exec
  have hb := B.bytes
  have hr := B.returns
  have hts : ∀ w ∈ TB, w.before args s = true := z_mV s (atoms_spec (ws := WD y_Mo_plain b_Mo_plain 5 (some .int)) B.pre)
  have hown : s.vm.findClass "DeepChannelModel" = some m.cls := findClass_of_methodNamed B.named
  have hlocks := B.notSynchronized
  subst hsz
  have hD := hD0.self (sz := s.heap.size)
  generalize hAe : va_A (w_Mo_plain cI cJ qM qM_begins qM_firsts qM_seconds qM_line M_depth M_fill M_half M_craft M_powers M_logarithms M_forms M_elements M_mixer M_data M_waiting M_master M_counts M_places M_least M_row M_rowSize M_differ M_blocks M_marks M_wrongs M_bytes M_rights M_tells M_lastMaster M_lastCounts M_word M_values M_system M_solved M_wrong M_thrown M_pattern M_length M_sent M_state M_begins M_firsts M_seconds M_line) s.heap.size = A at hD hE ⊢
  have hA : ∀ q : Nat, s.heap.size ≤ q → A q := fun q h => by rw [← hAe]; exact Or.inr h
  have hS : va_S A s.heap s.heap [] := va_S.rf
  refine z_entry (vs := [.ref qM, .int x1, .long x2]) hargs (Nat.le_of_ble_eq_true rfl) (fun ls hl => ?_)
  have hl : lv_has ls 5 [(0, .ref qM), (1, .int x1), (2, .long x2)] := hl
  show W p l e (RM 2 46) s m args below meth c s.heap [] 0 0 _ _
  refine z_qi (fun Q0 hQ => ?_)
  have F : CallFix p m c b_Mo_plain 5 s args TB "DeepChannelModel" := ⟨hx, hb, hml, hown, hts⟩
  have T54 : ∀ (n54 : Nat) (x1 : Int32) (x2 : Int64) (x4 : Int32) (M_thrown : Int32) (M_length : Int32) (M_sent : Int32) (M_state : Int32) (M_line : Nat → Int32), f_Mo_plain_54 M_pattern M_begins M_firsts M_seconds n54 x1 x2 x4 M_thrown M_length M_sent M_state M_line = some (rr, M_thrown', M_length', M_sent', M_state', M_line') → ∀ (H : Heap) (locs : List Loc), va_P D classes (w_Mo_plain cI cJ qM qM_begins qM_firsts qM_seconds qM_line M_depth M_fill M_half M_craft M_powers M_logarithms M_forms M_elements M_mixer M_data M_waiting M_master M_counts M_places M_least M_row M_rowSize M_differ M_blocks M_marks M_wrongs M_bytes M_rights M_tells M_lastMaster M_lastCounts M_word M_values M_system M_solved M_wrong M_thrown M_pattern M_length M_sent M_state M_begins M_firsts M_seconds M_line) H → va_D A (w_Mo_plain cI cJ qM qM_begins qM_firsts qM_seconds qM_line M_depth M_fill M_half M_craft M_powers M_logarithms M_forms M_elements M_mixer M_data M_waiting M_master M_counts M_places M_least M_row M_rowSize M_differ M_blocks M_marks M_wrongs M_bytes M_rights M_tells M_lastMaster M_lastCounts M_word M_values M_system M_solved M_wrong M_thrown M_pattern M_length M_sent M_state M_begins M_firsts M_seconds M_line) → va_S A s.heap H locs → ∀ (ls : Array Slot), lv_has ls 5 [(0, .ref qM), (1, .int x1), (2, .long x2), (4, .int x4)] → W p l e (RM 2 46) s m args below meth c H locs 0 0 Q0 (F0 m 54 ls []) := by
    intro n54
    induction n54 with
    | zero => intro x1 x2 x4 M_thrown M_length M_sent M_state M_line hm; cases hm
    | succ n54 ih54 =>
      intro x1 x2 x4 M_thrown M_length M_sent M_state M_line hm H locs hP hD hS ls hl
      replace hm : f_Mo_plain_54_b M_pattern M_begins M_firsts M_seconds (f_Mo_plain_54 M_pattern M_begins M_firsts M_seconds n54) x1 x2 x4 M_thrown M_length M_sent M_state M_line = some (rr, M_thrown', M_length', M_sent', M_state', M_line') := hm
      unfold f_Mo_plain_54_b at hm
      refine lv_iload hx hb d_Mo_plain_54 (lv_at hl 3 rfl) ?_
      refine lv_iload_n hx hb d_Mo_plain_56 rfl (lv_at hl 1 rfl) ?_
      refine z_if hm (lv_icmp_ge (tgt := 77) hx hb d_Mo_plain_57 (by decide)) (fun hm => ?_) (fun hm => ?_)
      · refine lv_aload_n hx hb d_Mo_plain_77 rfl (lv_at hl 0 rfl) ?_
        refine va_get (D := D) (ci := 11) (v := .int M_length) (C := "DeepChannelModel") (T := fT_Mo) (N := 40) hx hb hts u_Mo hown hK hP 0 rfl rfl 19 (by decide) (hts _ k_905) (fun _ h9 => h9) rfl d_Mo_plain_78 ?_
        cases hm
        exact z_qo hQ (z_ireti hr hx hb hlocks hK hP hD hS d_Mo_plain_81)
      · refine lv_aload_n hx hb d_Mo_plain_60 rfl (lv_at hl 0 rfl) ?_
        refine lv_lload_n hx hb d_Mo_plain_61 rfl (lv_at hl 2 rfl) ?_
        refine lv_iload hx hb d_Mo_plain_62 (lv_at hl 3 rfl) ?_
        refine lv_lshr (v := (x2 >>> (x4.toInt64 &&& 63))) hx hb d_Mo_plain_64 rfl ?_
        refine lv_lconst (v := (1 : Int64)) hx hb d_Mo_plain_65 (by decide) ?_
        refine lv_land hx hb d_Mo_plain_66 ?_
        refine lv_l2i (v := ((x2 >>> (x4.toInt64 &&& 63)) &&& (1 : Int64)).toInt32) hx hb d_Mo_plain_67 rfl ?_
        obtain ⟨⟨v1, v2, v3, g4⟩, hu, hm⟩ := bd_el hm
        replace hm := nm_4 hm
        refine z_cVv (wc := w_Mo_send1 cI cJ qM qM_begins qM_firsts qM_seconds qM_line (.int M_thrown) M_depth M_fill M_half M_craft M_powers M_logarithms M_forms M_elements M_mixer M_data M_waiting M_master M_counts M_places M_least M_row M_rowSize M_differ M_blocks M_marks M_wrongs M_bytes M_rights M_tells M_lastMaster M_lastCounts M_word M_values M_system M_solved M_wrong M_pattern M_length M_sent M_state M_begins M_firsts M_seconds M_line) (wc' := w_Mo_send1 cI cJ qM qM_begins qM_firsts qM_seconds qM_line (.int M_thrown) M_depth M_fill M_half M_craft M_powers M_logarithms M_forms M_elements M_mixer M_data M_waiting M_master M_counts M_places M_least M_row M_rowSize M_differ M_blocks M_marks M_wrongs M_bytes M_rights M_tells M_lastMaster M_lastCounts M_word M_values M_system M_solved M_wrong M_pattern v1 v2 v3 M_begins M_firsts M_seconds g4) (wr := []) (As := [.int ((x2 >>> (x4.toInt64 &&& 63)) &&& (1 : Int64)).toInt32]) (rest := []) (c_Mo_send1 l D cI cJ tt qM qM_begins qM_firsts qM_seconds qM_line (.int M_thrown) M_depth M_fill M_half M_craft M_powers M_logarithms M_forms M_elements M_mixer M_data M_waiting M_master M_counts M_places M_least M_row M_rowSize M_differ M_blocks M_marks M_wrongs M_bytes M_rights M_tells M_lastMaster M_lastCounts M_word M_values M_system M_solved M_wrong _ M_pattern M_length M_sent M_state M_begins M_firsts M_seconds M_line ((x2 >>> (x4.toInt64 &&& 63)) &&& (1 : Int64)).toInt32 v1 v2 v3 g4 hu) F ok_Mo_send1 rfl k_1055 hK hE hP hD hS hA [0, 1, 2, 3, 4] [] rfl rfl (by decide) (by decide) (by decide) 0 rfl rfl rfl ⟨rfl, rfl, Nat.le_of_ble_eq_true rfl, Nat.le_of_ble_eq_true rfl⟩ ⟨Nat.zero_le _, Nat.zero_le _⟩ rfl hl.1 rfl (Nat.le_of_ble_eq_true rfl) d_Mo_plain_68 (fun H locs hP hD hS => ?_)
        have hP : va_P D classes (w_Mo_plain cI cJ qM qM_begins qM_firsts qM_seconds qM_line M_depth M_fill M_half M_craft M_powers M_logarithms M_forms M_elements M_mixer M_data M_waiting M_master M_counts M_places M_least M_row M_rowSize M_differ M_blocks M_marks M_wrongs M_bytes M_rights M_tells M_lastMaster M_lastCounts M_word M_values M_system M_solved M_wrong M_thrown M_pattern v1 v2 v3 M_begins M_firsts M_seconds g4) H := hP.sub [0, 1, 2, 3, 4] rfl
        have hD : va_D A (w_Mo_plain cI cJ qM qM_begins qM_firsts qM_seconds qM_line M_depth M_fill M_half M_craft M_powers M_logarithms M_forms M_elements M_mixer M_data M_waiting M_master M_counts M_places M_least M_row M_rowSize M_differ M_blocks M_marks M_wrongs M_bytes M_rights M_tells M_lastMaster M_lastCounts M_word M_values M_system M_solved M_wrong M_thrown M_pattern v1 v2 v3 M_begins M_firsts M_seconds g4) := hD.sub [0, 1, 2, 3, 4] (by decide) rfl
        obtain ⟨v6, ev, hm⟩ := nm_el hm
        refine lv_iinc (v := v6) (lv' := [(4, .int v6), (0, .ref qM), (1, .int x1), (2, .long x2)]) hx hb d_Mo_plain_71 hl (k := 3) rfl (by rw [ev]; rfl) (by decide) rfl (fun ls hl => ?_)
        refine lv_goto (tgt := 54) hx hb d_Mo_plain_74 (by decide) ?_
        exact ih54 x1 x2 v6 M_thrown v1 v2 v3 g4 hm _ _ hP hD hS _ (lv_sub hl [1, 2, 3, 0] rfl)
  have T17 : ∀ (x1 : Int32) (x2 : Int64) (t1 : Int32) (M_thrown : Int32) (M_length : Int32) (M_sent : Int32) (M_state : Int32) (M_line : Nat → Int32), f_Mo_plain_17 M_pattern M_begins M_firsts M_seconds x1 x2 t1 M_thrown M_length M_sent M_state M_line = some (rr, M_thrown', M_length', M_sent', M_state', M_line') → ∀ (H : Heap) (locs : List Loc), va_P D classes (w_Mo_plain cI cJ qM qM_begins qM_firsts qM_seconds qM_line M_depth M_fill M_half M_craft M_powers M_logarithms M_forms M_elements M_mixer M_data M_waiting M_master M_counts M_places M_least M_row M_rowSize M_differ M_blocks M_marks M_wrongs M_bytes M_rights M_tells M_lastMaster M_lastCounts M_word M_values M_system M_solved M_wrong M_thrown M_pattern M_length M_sent M_state M_begins M_firsts M_seconds M_line) H → va_D A (w_Mo_plain cI cJ qM qM_begins qM_firsts qM_seconds qM_line M_depth M_fill M_half M_craft M_powers M_logarithms M_forms M_elements M_mixer M_data M_waiting M_master M_counts M_places M_least M_row M_rowSize M_differ M_blocks M_marks M_wrongs M_bytes M_rights M_tells M_lastMaster M_lastCounts M_word M_values M_system M_solved M_wrong M_thrown M_pattern M_length M_sent M_state M_begins M_firsts M_seconds M_line) → va_S A s.heap H locs → ∀ (ls : Array Slot), lv_has ls 5 [(0, .ref qM), (1, .int x1), (2, .long x2)] → W p l e (RM 2 46) s m args below meth c H locs 0 0 Q0 (F0 m 17 ls [.int t1, .ref qM]) := by
    intro x1 x2 t1 M_thrown M_length M_sent M_state M_line hm H locs hP hD hS ls hl
    unfold f_Mo_plain_17 at hm
    refine va_put (D := D) (ci := 11) (v := .int t1) (ty := .int) (C := "DeepChannelModel") (T := fT_Mo) (N := 40) hx hb hts u_Mo fY_Mo fK_Mo fN_Mo hown hK hP hD hS 0 rfl rfl 0 (by decide) (hts _ k_886) (fun _ h9 => h9) rfl (by decide +kernel) rfl rfl (Nat.le_of_ble_eq_true rfl) d_Mo_plain_17 (fun H locs hP hD hS => ?_)
    have hP : va_P D classes (w_Mo_plain cI cJ qM qM_begins qM_firsts qM_seconds qM_line M_depth M_fill M_half M_craft M_powers M_logarithms M_forms M_elements M_mixer M_data M_waiting M_master M_counts M_places M_least M_row M_rowSize M_differ M_blocks M_marks M_wrongs M_bytes M_rights M_tells M_lastMaster M_lastCounts M_word M_values M_system M_solved M_wrong t1 M_pattern M_length M_sent M_state M_begins M_firsts M_seconds M_line) H := hP
    have hD : va_D A (w_Mo_plain cI cJ qM qM_begins qM_firsts qM_seconds qM_line M_depth M_fill M_half M_craft M_powers M_logarithms M_forms M_elements M_mixer M_data M_waiting M_master M_counts M_places M_least M_row M_rowSize M_differ M_blocks M_marks M_wrongs M_bytes M_rights M_tells M_lastMaster M_lastCounts M_word M_values M_system M_solved M_wrong t1 M_pattern M_length M_sent M_state M_begins M_firsts M_seconds M_line) := hD
    refine lv_aload_n hx hb d_Mo_plain_20 rfl (lv_at hl 0 rfl) ?_
    refine va_get (D := D) (ci := 11) (v := .int t1) (C := "DeepChannelModel") (T := fT_Mo) (N := 40) hx hb hts u_Mo hown hK hP 0 rfl rfl 0 (by decide) (hts _ k_886) (fun _ h9 => h9) rfl d_Mo_plain_21 ?_
    refine z_if hm (lv_if_le (tgt := 29) hx hb d_Mo_plain_24 (by decide)) (fun hm => ?_) (fun hm => ?_)
    · refine lv_aload_n hx hb d_Mo_plain_29 rfl (lv_at hl 0 rfl) ?_
      refine va_get (D := D) (ci := 11) (v := .int M_length) (C := "DeepChannelModel") (T := fT_Mo) (N := 40) hx hb hts u_Mo hown hK hP 0 rfl rfl 19 (by decide) (hts _ k_905) (fun _ h9 => h9) rfl d_Mo_plain_30 ?_
      refine lv_aload_n hx hb d_Mo_plain_33 rfl (lv_at hl 0 rfl) ?_
      refine lv_aload_n hx hb d_Mo_plain_34 rfl (lv_at hl 0 rfl) ?_
      refine va_get (D := D) (ci := 11) (v := .int M_sent) (C := "DeepChannelModel") (T := fT_Mo) (N := 40) hx hb hts u_Mo hown hK hP 0 rfl rfl 20 (by decide) (hts _ k_906) (fun _ h9 => h9) rfl d_Mo_plain_35 ?_
      refine lv_iload_n hx hb d_Mo_plain_38 rfl (lv_at hl 1 rfl) ?_
      obtain ⟨r7, hu, hm⟩ := bd_el hm
      replace hm := nm_1 hm
      refine z_cVi (wc := w_Mo_linesOf cI cJ qM qM_begins qM_firsts qM_seconds (.int t1) M_depth M_fill M_half M_craft M_powers M_logarithms M_forms M_elements M_mixer M_data M_waiting M_master M_counts (.ref qM_line) (.int M_length) (.int M_sent) (.int M_state) M_places M_least M_row M_rowSize M_differ M_blocks M_marks M_wrongs M_bytes M_rights M_tells M_lastMaster M_lastCounts M_word M_values M_system M_solved M_wrong M_pattern M_begins M_firsts M_seconds) (wc' := w_Mo_linesOf cI cJ qM qM_begins qM_firsts qM_seconds (.int t1) M_depth M_fill M_half M_craft M_powers M_logarithms M_forms M_elements M_mixer M_data M_waiting M_master M_counts (.ref qM_line) (.int M_length) (.int M_sent) (.int M_state) M_places M_least M_row M_rowSize M_differ M_blocks M_marks M_wrongs M_bytes M_rights M_tells M_lastMaster M_lastCounts M_word M_values M_system M_solved M_wrong M_pattern M_begins M_firsts M_seconds) (wr := [(qM_line, .inl (cI, 4096, .inl M_line))]) (As := [.int M_sent, .int x1]) (rest := [.int M_length]) (c_Mo_linesOf l D cI cJ tt qM qM_begins qM_firsts qM_seconds (.int t1) M_depth M_fill M_half M_craft M_powers M_logarithms M_forms M_elements M_mixer M_data M_waiting M_master M_counts (.ref qM_line) (.int M_length) (.int M_sent) (.int M_state) M_places M_least M_row M_rowSize M_differ M_blocks M_marks M_wrongs M_bytes M_rights M_tells M_lastMaster M_lastCounts M_word M_values M_system M_solved M_wrong _ M_pattern M_begins M_firsts M_seconds M_sent x1 r7 hu) F ok_Mo_linesOf rfl k_1047 hK hE hP hD hS hA [0, 1, 2, 3] [4] rfl rfl (by decide) (by decide) (by decide) 0 rfl rfl rfl ⟨rfl, rfl, Nat.le_of_ble_eq_true rfl, Nat.le_of_ble_eq_true rfl⟩ ⟨Nat.zero_le _, Nat.zero_le _⟩ rfl hl.1 rfl (Nat.le_of_ble_eq_true rfl) d_Mo_plain_39 (fun H locs hP hD hS => ?_)
      have hP : va_P D classes (w_Mo_plain cI cJ qM qM_begins qM_firsts qM_seconds qM_line M_depth M_fill M_half M_craft M_powers M_logarithms M_forms M_elements M_mixer M_data M_waiting M_master M_counts M_places M_least M_row M_rowSize M_differ M_blocks M_marks M_wrongs M_bytes M_rights M_tells M_lastMaster M_lastCounts M_word M_values M_system M_solved M_wrong t1 M_pattern M_length M_sent M_state M_begins M_firsts M_seconds M_line) H := hP.sub [1, 2, 3, 4, 0] rfl
      have hD : va_D A (w_Mo_plain cI cJ qM qM_begins qM_firsts qM_seconds qM_line M_depth M_fill M_half M_craft M_powers M_logarithms M_forms M_elements M_mixer M_data M_waiting M_master M_counts M_places M_least M_row M_rowSize M_differ M_blocks M_marks M_wrongs M_bytes M_rights M_tells M_lastMaster M_lastCounts M_word M_values M_system M_solved M_wrong t1 M_pattern M_length M_sent M_state M_begins M_firsts M_seconds M_line) := hD.sub [1, 2, 3, 4, 0] (by decide) rfl
      refine lv_iadd hx hb d_Mo_plain_42 ?_
      refine lv_sipush (v := (4096 : Int32)) hx hb d_Mo_plain_43 (by decide) ?_
      refine z_if hm (lv_icmp_le (tgt := 51) hx hb d_Mo_plain_46 (by decide)) (fun hm => ?_) (fun hm => ?_)
      · refine lv_iconst (v := (0 : Int32)) hx hb d_Mo_plain_51 (by decide) ?_
        refine lv_istore (lv' := [(4, .int (0 : Int32)), (0, .ref qM), (1, .int x1), (2, .long x2)]) hx hb d_Mo_plain_52 hl (by decide) rfl (fun ls hl => ?_)
        exact T54 10000 x1 x2 (0 : Int32) t1 M_length M_sent M_state M_line hm _ _ hP hD hS _ (lv_sub hl [1, 2, 3, 0] rfl)
      · refine lv_iconst (v := (-1 : Int32)) hx hb d_Mo_plain_49 (by decide) ?_
        cases hm
        exact z_qo hQ (z_ireti hr hx hb hlocks hK hP hD hS d_Mo_plain_50)
    · refine lv_iconst (v := (0 : Int32)) hx hb d_Mo_plain_27 (by decide) ?_
      cases hm
      exact z_qo hQ (z_ireti hr hx hb hlocks hK hP hD hS d_Mo_plain_28)
  have T12 : ∀ (x1 : Int32) (x2 : Int64) (M_thrown : Int32) (M_length : Int32) (M_sent : Int32) (M_state : Int32) (M_line : Nat → Int32), f_Mo_plain_12 M_pattern M_begins M_firsts M_seconds x1 x2 M_thrown M_length M_sent M_state M_line = some (rr, M_thrown', M_length', M_sent', M_state', M_line') → ∀ (H : Heap) (locs : List Loc), va_P D classes (w_Mo_plain cI cJ qM qM_begins qM_firsts qM_seconds qM_line M_depth M_fill M_half M_craft M_powers M_logarithms M_forms M_elements M_mixer M_data M_waiting M_master M_counts M_places M_least M_row M_rowSize M_differ M_blocks M_marks M_wrongs M_bytes M_rights M_tells M_lastMaster M_lastCounts M_word M_values M_system M_solved M_wrong M_thrown M_pattern M_length M_sent M_state M_begins M_firsts M_seconds M_line) H → va_D A (w_Mo_plain cI cJ qM qM_begins qM_firsts qM_seconds qM_line M_depth M_fill M_half M_craft M_powers M_logarithms M_forms M_elements M_mixer M_data M_waiting M_master M_counts M_places M_least M_row M_rowSize M_differ M_blocks M_marks M_wrongs M_bytes M_rights M_tells M_lastMaster M_lastCounts M_word M_values M_system M_solved M_wrong M_thrown M_pattern M_length M_sent M_state M_begins M_firsts M_seconds M_line) → va_S A s.heap H locs → ∀ (ls : Array Slot), lv_has ls 5 [(0, .ref qM), (1, .int x1), (2, .long x2)] → W p l e (RM 2 46) s m args below meth c H locs 0 0 Q0 (F0 m 12 ls [.ref qM]) := by
    intro x1 x2 M_thrown M_length M_sent M_state M_line hm H locs hP hD hS ls hl
    unfold f_Mo_plain_12 at hm
    refine lv_iconst (v := (1 : Int32)) hx hb d_Mo_plain_12 (by decide) ?_
    refine lv_goto (tgt := 17) hx hb d_Mo_plain_13 (by decide) ?_
    exact T17 x1 x2 (1 : Int32) M_thrown M_length M_sent M_state M_line hm _ _ hP hD hS _ (lv_sub hl [0, 1, 2] rfl)
  unfold f_Mo_plain at hm
  refine lv_aload_n hx hb d_Mo_plain_0 rfl (lv_at hl 0 rfl) ?_
  refine lv_iload_n hx hb d_Mo_plain_1 rfl (lv_at hl 1 rfl) ?_
  refine lv_iconst (v := (1 : Int32)) hx hb d_Mo_plain_2 (by decide) ?_
  refine z_if hm (lv_icmp_lt (tgt := 12) hx hb d_Mo_plain_3 (by decide)) (fun hm => ?_) (fun hm => ?_)
  · exact T12 x1 x2 M_thrown M_length M_sent M_state M_line hm _ _ hP hD hS _ (lv_sub hl [0, 1, 2] rfl)
  · refine lv_iload_n hx hb d_Mo_plain_6 rfl (lv_at hl 1 rfl) ?_
    refine lv_bipush (v := (64 : Int32)) hx hb d_Mo_plain_7 (by decide) ?_
    refine z_if hm (lv_icmp_le (tgt := 16) hx hb d_Mo_plain_9 (by decide)) (fun hm => ?_) (fun hm => ?_)
    · refine lv_iconst (v := (0 : Int32)) hx hb d_Mo_plain_16 (by decide) ?_
      exact T17 x1 x2 (0 : Int32) M_thrown M_length M_sent M_state M_line hm _ _ hP hD hS _ (lv_sub hl [0, 1, 2] rfl)
    · exact T12 x1 x2 M_thrown M_length M_sent M_state M_line hm _ _ hP hD hS _ (lv_sub hl [0, 1, 2] rfl)
-- DeepChannelModel.checkOn(II)I
abbrev b_Mo_checkOn : ByteArray := prog_13_method_23_code
abbrev y_Mo_checkOn : MethodName := ⟨"DeepChannelModel", "checkOn", "(II)I"⟩
theorem d_Mo_checkOn_0 : decode b_Mo_checkOn 0 = .ok (.iload_n 0, 1) := by decide +kernel
theorem d_Mo_checkOn_1 : decode b_Mo_checkOn 1 = .ok (.istore_n 2, 1) := by decide +kernel
theorem d_Mo_checkOn_2 : decode b_Mo_checkOn 2 = .ok (.bipush 7, 2) := by decide +kernel
theorem d_Mo_checkOn_4 : decode b_Mo_checkOn 4 = .ok (.istore_n 3, 1) := by decide +kernel
theorem d_Mo_checkOn_5 : decode b_Mo_checkOn 5 = .ok (.iload_n 3, 1) := by decide +kernel
theorem d_Mo_checkOn_6 : decode b_Mo_checkOn 6 = .ok (.ifCond .lt 44, 3) := by decide +kernel
theorem d_Mo_checkOn_9 : decode b_Mo_checkOn 9 = .ok (.iload_n 2, 1) := by decide +kernel
theorem d_Mo_checkOn_10 : decode b_Mo_checkOn 10 = .ok (.bipush 15, 2) := by decide +kernel
theorem d_Mo_checkOn_12 : decode b_Mo_checkOn 12 = .ok (.ishr, 1) := by decide +kernel
theorem d_Mo_checkOn_13 : decode b_Mo_checkOn 13 = .ok (.iload_n 1, 1) := by decide +kernel
theorem d_Mo_checkOn_14 : decode b_Mo_checkOn 14 = .ok (.iload_n 3, 1) := by decide +kernel
theorem d_Mo_checkOn_15 : decode b_Mo_checkOn 15 = .ok (.ishr, 1) := by decide +kernel
theorem d_Mo_checkOn_16 : decode b_Mo_checkOn 16 = .ok (.iconst 1, 1) := by decide +kernel
theorem d_Mo_checkOn_17 : decode b_Mo_checkOn 17 = .ok (.iand, 1) := by decide +kernel
theorem d_Mo_checkOn_18 : decode b_Mo_checkOn 18 = .ok (.ixor, 1) := by decide +kernel
theorem d_Mo_checkOn_19 : decode b_Mo_checkOn 19 = .ok (.istore 4, 2) := by decide +kernel
theorem d_Mo_checkOn_21 : decode b_Mo_checkOn 21 = .ok (.iload_n 2, 1) := by decide +kernel
theorem d_Mo_checkOn_22 : decode b_Mo_checkOn 22 = .ok (.iconst 1, 1) := by decide +kernel
theorem d_Mo_checkOn_23 : decode b_Mo_checkOn 23 = .ok (.ishl, 1) := by decide +kernel
theorem d_Mo_checkOn_24 : decode b_Mo_checkOn 24 = .ok (.ldc 171, 2) := by decide +kernel
theorem d_Mo_checkOn_26 : decode b_Mo_checkOn 26 = .ok (.iand, 1) := by decide +kernel
theorem d_Mo_checkOn_27 : decode b_Mo_checkOn 27 = .ok (.istore_n 2, 1) := by decide +kernel
theorem d_Mo_checkOn_28 : decode b_Mo_checkOn 28 = .ok (.iload 4, 2) := by decide +kernel
theorem d_Mo_checkOn_30 : decode b_Mo_checkOn 30 = .ok (.iconst 1, 1) := by decide +kernel
theorem d_Mo_checkOn_31 : decode b_Mo_checkOn 31 = .ok (.if_icmp .ne 11, 3) := by decide +kernel
theorem d_Mo_checkOn_34 : decode b_Mo_checkOn 34 = .ok (.iload_n 2, 1) := by decide +kernel
theorem d_Mo_checkOn_35 : decode b_Mo_checkOn 35 = .ok (.sipush 4129, 3) := by decide +kernel
theorem d_Mo_checkOn_38 : decode b_Mo_checkOn 38 = .ok (.ixor, 1) := by decide +kernel
theorem d_Mo_checkOn_39 : decode b_Mo_checkOn 39 = .ok (.goto 4, 3) := by decide +kernel
theorem d_Mo_checkOn_42 : decode b_Mo_checkOn 42 = .ok (.iload_n 2, 1) := by decide +kernel
theorem d_Mo_checkOn_43 : decode b_Mo_checkOn 43 = .ok (.istore_n 2, 1) := by decide +kernel
theorem d_Mo_checkOn_44 : decode b_Mo_checkOn 44 = .ok (.iinc 3 (-1), 3) := by decide +kernel
theorem d_Mo_checkOn_47 : decode b_Mo_checkOn 47 = .ok (.goto (-42), 3) := by decide +kernel
theorem d_Mo_checkOn_50 : decode b_Mo_checkOn 50 = .ok (.iload_n 2, 1) := by decide +kernel
theorem d_Mo_checkOn_51 : decode b_Mo_checkOn 51 = .ok (.ireturn, 1) := by decide +kernel
theorem ok_Mo_checkOn : OKs y_Mo_checkOn b_Mo_checkOn 5 (some .int) 2 := ⟨k_1077, k_1076, k_55, by decide +kernel, by decide +kernel, by decide +kernel⟩
abbrev w_Mo_checkOn  : va_W := []
def f_Mo_checkOn_43 (kh5 : Int32 → Int32 → Int32 → Option (Int32)) (x1 : Int32) (x3 : Int32) (t0 : Int32) : Option (Int32) :=
  nm (x3 + (-1 : Int32)) fun v1 =>
  kh5 x1 t0 v1
def f_Mo_checkOn_5_b  (kh5 : Int32 → Int32 → Int32 → Option (Int32)) (x1 : Int32) (x2 : Int32) (x3 : Int32) : Option (Int32) :=
  if x3 < 0 then
    some x2
  else
  nm ((x2 >>> ((15 : Int32) &&& 31)) ^^^ ((x1 >>> (x3 &&& 31)) &&& (1 : Int32))) fun v2 =>
  nm ((x2 <<< ((1 : Int32) &&& 31)) &&& (65535 : Int32)) fun v3 =>
  if v2 = (1 : Int32) then
    f_Mo_checkOn_43 kh5 x1 x3 (v3 ^^^ (4129 : Int32))
  else
  f_Mo_checkOn_43 kh5 x1 x3 v3
def f_Mo_checkOn_5  : Nat → Int32 → Int32 → Int32 → Option (Int32)
  | 0 => fun _ _ _ => none
  | n + 1 => fun x1 x2 x3 => f_Mo_checkOn_5_b (f_Mo_checkOn_5 n) x1 x2 x3
def f_Mo_checkOn (x0 : Int32) (x1 : Int32) : Option (Int32) :=
  f_Mo_checkOn_5 10000 x1 x0 (7 : Int32)
set_option maxHeartbeats 4000000 in
set_option maxRecDepth 100000 in
theorem c_Mo_checkOn (l : Launch) (D : va_G) (cI cJ : ClassId) (tt : Nat → Nat) (sz : Nat) (x0 : Int32) (x1 : Int32) (rr : Int32) (hm : f_Mo_checkOn x0 x1 = some rr) : CTi l y_Mo_checkOn b_Mo_checkOn 5 (some .int) (RM 0 0) D cI cJ tt [.int x0, .int x1] (w_Mo_checkOn) (w_Mo_checkOn) sz rr := by
  refine Met.ofW (cc := b_Mo_checkOn) (maxL := 5) (ret := (some .int)) (by decide) rfl ?_
  intro p e s m args below meth c s₁ B hml hv
  obtain ⟨hargs, hsz, hP, hK, hD0, hE⟩ := hv
  have hx := B.exec
  have hb := B.bytes
  have hr := B.returns
  have hts : ∀ w ∈ TB, w.before args s = true := z_mV s (atoms_spec (ws := WD y_Mo_checkOn b_Mo_checkOn 5 (some .int)) B.pre)
  have hown : s.vm.findClass "DeepChannelModel" = some m.cls := findClass_of_methodNamed B.named
  have hlocks := B.notSynchronized
  subst hsz
  have hD := hD0.self (sz := s.heap.size)
  generalize hAe : va_A (w_Mo_checkOn) s.heap.size = A at hD hE ⊢
  have hA : ∀ q : Nat, s.heap.size ≤ q → A q := fun q h => by rw [← hAe]; exact Or.inr h
  have hS : va_S A s.heap s.heap [] := va_S.rf
  refine z_entry (vs := [.int x0, .int x1]) hargs (Nat.le_of_ble_eq_true rfl) (fun ls hl => ?_)
  have hl : lv_has ls 5 [(0, .int x0), (1, .int x1)] := hl
  show W p l e (RM 0 0) s m args below meth c s.heap [] 0 0 _ _
  refine z_qi (fun Q0 hQ => ?_)
  have F : CallFix p m c b_Mo_checkOn 5 s args TB "DeepChannelModel" := ⟨hx, hb, hml, hown, hts⟩
  have T5 : ∀ (n5 : Nat) (x1 : Int32) (x2 : Int32) (x3 : Int32), f_Mo_checkOn_5 n5 x1 x2 x3 = some rr → ∀ (H : Heap) (locs : List Loc), va_P D classes (w_Mo_checkOn) H → va_D A (w_Mo_checkOn) → va_S A s.heap H locs → ∀ (ls : Array Slot), lv_has ls 5 [(1, .int x1), (2, .int x2), (3, .int x3)] → W p l e (RM 0 0) s m args below meth c H locs 0 0 Q0 (F0 m 5 ls []) := by
    intro n5
    induction n5 with
    | zero => intro x1 x2 x3 hm; cases hm
    | succ n5 ih5 =>
      have T43 : ∀ (x1 : Int32) (x3 : Int32) (t0 : Int32), f_Mo_checkOn_43 (f_Mo_checkOn_5 n5) x1 x3 t0 = some rr → ∀ (H : Heap) (locs : List Loc), va_P D classes (w_Mo_checkOn) H → va_D A (w_Mo_checkOn) → va_S A s.heap H locs → ∀ (ls : Array Slot), lv_has ls 5 [(1, .int x1), (3, .int x3)] → W p l e (RM 0 0) s m args below meth c H locs 0 0 Q0 (F0 m 43 ls [.int t0]) := by
        intro x1 x3 t0 hm H locs hP hD hS ls hl
        unfold f_Mo_checkOn_43 at hm
        refine lv_istore_n (lv' := [(2, .int t0), (1, .int x1), (3, .int x3)]) hx hb d_Mo_checkOn_43 rfl hl (by decide) rfl (fun ls hl => ?_)
        obtain ⟨v1, ev, hm⟩ := nm_el hm
        refine lv_iinc (v := v1) (lv' := [(3, .int v1), (2, .int t0), (1, .int x1)]) hx hb d_Mo_checkOn_44 hl (k := 2) rfl (by rw [ev]; rfl) (by decide) rfl (fun ls hl => ?_)
        refine lv_goto (tgt := 5) hx hb d_Mo_checkOn_47 (by decide) ?_
        exact ih5 x1 t0 v1 hm _ _ hP hD hS _ (lv_sub hl [2, 1, 0] rfl)
      intro x1 x2 x3 hm H locs hP hD hS ls hl
      replace hm : f_Mo_checkOn_5_b (f_Mo_checkOn_5 n5) x1 x2 x3 = some rr := hm
      unfold f_Mo_checkOn_5_b at hm
      refine lv_iload_n hx hb d_Mo_checkOn_5 rfl (lv_at hl 2 rfl) ?_
      refine z_if hm (lv_if_lt (tgt := 50) hx hb d_Mo_checkOn_6 (by decide)) (fun hm => ?_) (fun hm => ?_)
      · refine lv_iload_n hx hb d_Mo_checkOn_50 rfl (lv_at hl 1 rfl) ?_
        cases hm
        exact z_qo hQ (z_ireti hr hx hb hlocks hK hP hD hS d_Mo_checkOn_51)
      · refine lv_iload_n hx hb d_Mo_checkOn_9 rfl (lv_at hl 1 rfl) ?_
        refine lv_bipush (v := (15 : Int32)) hx hb d_Mo_checkOn_10 (by decide) ?_
        refine lv_ishr hx hb d_Mo_checkOn_12 ?_
        refine lv_iload_n hx hb d_Mo_checkOn_13 rfl (lv_at hl 0 rfl) ?_
        refine lv_iload_n hx hb d_Mo_checkOn_14 rfl (lv_at hl 2 rfl) ?_
        refine lv_ishr hx hb d_Mo_checkOn_15 ?_
        refine lv_iconst (v := (1 : Int32)) hx hb d_Mo_checkOn_16 (by decide) ?_
        refine lv_iand hx hb d_Mo_checkOn_17 ?_
        refine lv_ixor hx hb d_Mo_checkOn_18 ?_
        refine z_nmi hm (fun v2 hm => ?_)
        refine lv_istore (lv' := [(4, .int v2), (1, .int x1), (2, .int x2), (3, .int x3)]) hx hb d_Mo_checkOn_19 hl (by decide) rfl (fun ls hl => ?_)
        refine lv_iload_n hx hb d_Mo_checkOn_21 rfl (lv_at hl 2 rfl) ?_
        refine lv_iconst (v := (1 : Int32)) hx hb d_Mo_checkOn_22 (by decide) ?_
        refine lv_ishl hx hb d_Mo_checkOn_23 ?_
        refine lv_ldc (v := (65535 : Int32)) hx hb hown (hts _ k_1070) d_Mo_checkOn_24 ?_
        refine lv_iand hx hb d_Mo_checkOn_26 ?_
        refine z_nmi hm (fun v3 hm => ?_)
        refine lv_istore_n (lv' := [(2, .int v3), (4, .int v2), (1, .int x1), (3, .int x3)]) hx hb d_Mo_checkOn_27 rfl hl (by decide) rfl (fun ls hl => ?_)
        refine lv_iload hx hb d_Mo_checkOn_28 (lv_at hl 1 rfl) ?_
        refine lv_iconst (v := (1 : Int32)) hx hb d_Mo_checkOn_30 (by decide) ?_
        refine z_ifn hm (lv_icmp_ne (tgt := 42) hx hb d_Mo_checkOn_31 (by decide)) (fun hm => ?_) (fun hm => ?_)
        · refine lv_iload_n hx hb d_Mo_checkOn_34 rfl (lv_at hl 0 rfl) ?_
          refine lv_sipush (v := (4129 : Int32)) hx hb d_Mo_checkOn_35 (by decide) ?_
          refine lv_ixor hx hb d_Mo_checkOn_38 ?_
          refine lv_goto (tgt := 43) hx hb d_Mo_checkOn_39 (by decide) ?_
          exact T43 x1 x3 (v3 ^^^ (4129 : Int32)) hm _ _ hP hD hS _ (lv_sub hl [2, 3] rfl)
        · refine lv_iload_n hx hb d_Mo_checkOn_42 rfl (lv_at hl 0 rfl) ?_
          exact T43 x1 x3 v3 hm _ _ hP hD hS _ (lv_sub hl [2, 3] rfl)
  unfold f_Mo_checkOn at hm
  refine lv_iload_n hx hb d_Mo_checkOn_0 rfl (lv_at hl 0 rfl) ?_
  refine lv_istore_n (lv' := [(2, .int x0), (0, .int x0), (1, .int x1)]) hx hb d_Mo_checkOn_1 rfl hl (by decide) rfl (fun ls hl => ?_)
  refine lv_bipush (v := (7 : Int32)) hx hb d_Mo_checkOn_2 (by decide) ?_
  refine lv_istore_n (lv' := [(3, .int (7 : Int32)), (2, .int x0), (0, .int x0), (1, .int x1)]) hx hb d_Mo_checkOn_4 rfl hl (by decide) rfl (fun ls hl => ?_)
  exact T5 10000 x1 x0 (7 : Int32) hm _ _ hP hD hS _ (lv_sub hl [3, 1, 0] rfl)
-- DeepChannelModel.frameByte(II)I
abbrev b_Mo_frameByte : ByteArray := prog_13_method_24_code
abbrev y_Mo_frameByte : MethodName := ⟨"DeepChannelModel", "frameByte", "(II)I"⟩
theorem d_Mo_frameByte_0 : decode b_Mo_frameByte 0 = .ok (.bipush 16, 2) := by decide +kernel
theorem d_Mo_frameByte_2 : decode b_Mo_frameByte 2 = .ok (.aload_n 0, 1) := by decide +kernel
theorem d_Mo_frameByte_3 : decode b_Mo_frameByte 3 = .ok (.getfield 145, 3) := by decide +kernel
theorem d_Mo_frameByte_6 : decode b_Mo_frameByte 6 = .ok (.imul, 1) := by decide +kernel
theorem d_Mo_frameByte_7 : decode b_Mo_frameByte 7 = .ok (.iconst 2, 1) := by decide +kernel
theorem d_Mo_frameByte_8 : decode b_Mo_frameByte 8 = .ok (.iload_n 2, 1) := by decide +kernel
theorem d_Mo_frameByte_9 : decode b_Mo_frameByte 9 = .ok (.imul, 1) := by decide +kernel
theorem d_Mo_frameByte_10 : decode b_Mo_frameByte 10 = .ok (.iadd, 1) := by decide +kernel
theorem d_Mo_frameByte_11 : decode b_Mo_frameByte 11 = .ok (.istore_n 3, 1) := by decide +kernel
theorem d_Mo_frameByte_12 : decode b_Mo_frameByte 12 = .ok (.iload_n 1, 1) := by decide +kernel
theorem d_Mo_frameByte_13 : decode b_Mo_frameByte 13 = .ok (.tableswitch 75 0 5 #[39, 44, 50, 59, 70, 73], 39) := by decide +kernel
theorem d_Mo_frameByte_52 : decode b_Mo_frameByte 52 = .ok (.iload_n 3, 1) := by decide +kernel
theorem d_Mo_frameByte_53 : decode b_Mo_frameByte 53 = .ok (.bipush 8, 2) := by decide +kernel
theorem d_Mo_frameByte_55 : decode b_Mo_frameByte 55 = .ok (.ishr, 1) := by decide +kernel
theorem d_Mo_frameByte_56 : decode b_Mo_frameByte 56 = .ok (.ireturn, 1) := by decide +kernel
theorem d_Mo_frameByte_57 : decode b_Mo_frameByte 57 = .ok (.iload_n 3, 1) := by decide +kernel
theorem d_Mo_frameByte_58 : decode b_Mo_frameByte 58 = .ok (.sipush 255, 3) := by decide +kernel
theorem d_Mo_frameByte_61 : decode b_Mo_frameByte 61 = .ok (.iand, 1) := by decide +kernel
theorem d_Mo_frameByte_62 : decode b_Mo_frameByte 62 = .ok (.ireturn, 1) := by decide +kernel
theorem d_Mo_frameByte_63 : decode b_Mo_frameByte 63 = .ok (.aload_n 0, 1) := by decide +kernel
theorem d_Mo_frameByte_64 : decode b_Mo_frameByte 64 = .ok (.getfield 117, 3) := by decide +kernel
theorem d_Mo_frameByte_67 : decode b_Mo_frameByte 67 = .ok (.sipush 256, 3) := by decide +kernel
theorem d_Mo_frameByte_70 : decode b_Mo_frameByte 70 = .ok (.irem, 1) := by decide +kernel
theorem d_Mo_frameByte_71 : decode b_Mo_frameByte 71 = .ok (.ireturn, 1) := by decide +kernel
theorem d_Mo_frameByte_72 : decode b_Mo_frameByte 72 = .ok (.aload_n 0, 1) := by decide +kernel
theorem d_Mo_frameByte_73 : decode b_Mo_frameByte 73 = .ok (.getfield 47, 3) := by decide +kernel
theorem d_Mo_frameByte_76 : decode b_Mo_frameByte 76 = .ok (.iload_n 2, 1) := by decide +kernel
theorem d_Mo_frameByte_77 : decode b_Mo_frameByte 77 = .ok (.iaload, 1) := by decide +kernel
theorem d_Mo_frameByte_78 : decode b_Mo_frameByte 78 = .ok (.sipush 256, 3) := by decide +kernel
theorem d_Mo_frameByte_81 : decode b_Mo_frameByte 81 = .ok (.irem, 1) := by decide +kernel
theorem d_Mo_frameByte_82 : decode b_Mo_frameByte 82 = .ok (.ireturn, 1) := by decide +kernel
theorem d_Mo_frameByte_83 : decode b_Mo_frameByte 83 = .ok (.bipush 24, 2) := by decide +kernel
theorem d_Mo_frameByte_85 : decode b_Mo_frameByte 85 = .ok (.ireturn, 1) := by decide +kernel
theorem d_Mo_frameByte_86 : decode b_Mo_frameByte 86 = .ok (.iconst 0, 1) := by decide +kernel
theorem d_Mo_frameByte_87 : decode b_Mo_frameByte 87 = .ok (.ireturn, 1) := by decide +kernel
theorem d_Mo_frameByte_88 : decode b_Mo_frameByte 88 = .ok (.aload_n 0, 1) := by decide +kernel
theorem d_Mo_frameByte_89 : decode b_Mo_frameByte 89 = .ok (.getfield 44, 3) := by decide +kernel
theorem d_Mo_frameByte_92 : decode b_Mo_frameByte 92 = .ok (.iload_n 1, 1) := by decide +kernel
theorem d_Mo_frameByte_93 : decode b_Mo_frameByte 93 = .ok (.bipush 6, 2) := by decide +kernel
theorem d_Mo_frameByte_95 : decode b_Mo_frameByte 95 = .ok (.isub, 1) := by decide +kernel
theorem d_Mo_frameByte_96 : decode b_Mo_frameByte 96 = .ok (.iaload, 1) := by decide +kernel
theorem d_Mo_frameByte_97 : decode b_Mo_frameByte 97 = .ok (.ireturn, 1) := by decide +kernel
theorem ok_Mo_frameByte : OKv y_Mo_frameByte b_Mo_frameByte 4 (some .int) "DeepChannelModel" 2 := ⟨k_1074, k_1073, k_24, k_55, by decide +kernel, by decide +kernel, by decide +kernel⟩
abbrev w_Mo_frameByte (cI cJ : ClassId) (qM qM_counts qM_data : Nat) (M_thrown M_depth M_fill M_half M_pattern M_begins M_firsts M_seconds M_powers M_logarithms M_forms M_elements M_mixer M_waiting M_line M_length M_sent M_state M_places M_least M_row M_rowSize M_differ M_blocks M_marks M_wrongs M_bytes M_rights M_tells M_lastMaster M_lastCounts M_word M_values M_system M_solved M_wrong : Value) (M_craft : Int32) (M_master : Int32) (M_counts : Nat → Int32) (M_data : Nat → Int32) : va_W := [(qM, .inr (11, [M_thrown, M_depth, M_fill, M_half, M_pattern, .int M_craft, M_begins, M_firsts, M_seconds, M_powers, M_logarithms, M_forms, M_elements, M_mixer, .ref qM_data, M_waiting, .int M_master, .ref qM_counts, M_line, M_length, M_sent, M_state, M_places, M_least, M_row, M_rowSize, M_differ, M_blocks, M_marks, M_wrongs, M_bytes, M_rights, M_tells, M_lastMaster, M_lastCounts, M_word, M_values, M_system, M_solved, M_wrong])), (qM_counts, .inl (cI, 8, .inl M_counts)), (qM_data, .inl (cI, 250, .inl M_data))]
def f_Mo_frameByte (M_craft : Int32) (M_master : Int32) (M_counts : Nat → Int32) (M_data : Nat → Int32) (x1 : Int32) (x2 : Int32) : Option (Int32) :=
  nm (((16 : Int32) * M_craft) + ((2 : Int32) * x2)) fun v1 =>
  if x1 = (0 : Int32) then
    some (v1 >>> ((8 : Int32) &&& 31))
  else
  if x1 = (1 : Int32) then
    some (v1 &&& (255 : Int32))
  else
  if x1 = (2 : Int32) then
    dv (256 : Int32) <|
    some (M_master - M_master / (256 : Int32) * (256 : Int32))
  else
  if x1 = (3 : Int32) then
    rdI M_counts 8 x2 fun v2 =>
    dv (256 : Int32) <|
    some (v2 - v2 / (256 : Int32) * (256 : Int32))
  else
  if x1 = (4 : Int32) then
    some (24 : Int32)
  else
  if x1 = (5 : Int32) then
    some (0 : Int32)
  else
  rdI M_data 250 (x1 - (6 : Int32)) fun v3 =>
  some v3
set_option maxHeartbeats 4000000 in
set_option maxRecDepth 100000 in
theorem c_Mo_frameByte (l : Launch) (D : va_G) (cI cJ : ClassId) (tt : Nat → Nat) (qM qM_counts qM_data : Nat) (M_thrown M_depth M_fill M_half M_pattern M_begins M_firsts M_seconds M_powers M_logarithms M_forms M_elements M_mixer M_waiting M_line M_length M_sent M_state M_places M_least M_row M_rowSize M_differ M_blocks M_marks M_wrongs M_bytes M_rights M_tells M_lastMaster M_lastCounts M_word M_values M_system M_solved M_wrong : Value) (sz : Nat) (M_craft : Int32) (M_master : Int32) (M_counts : Nat → Int32) (M_data : Nat → Int32) (x1 : Int32) (x2 : Int32) (rr : Int32) (hm : f_Mo_frameByte M_craft M_master M_counts M_data x1 x2 = some rr) : CTi l y_Mo_frameByte b_Mo_frameByte 4 (some .int) (RM 0 0) D cI cJ tt [.ref qM, .int x1, .int x2] (w_Mo_frameByte cI cJ qM qM_counts qM_data M_thrown M_depth M_fill M_half M_pattern M_begins M_firsts M_seconds M_powers M_logarithms M_forms M_elements M_mixer M_waiting M_line M_length M_sent M_state M_places M_least M_row M_rowSize M_differ M_blocks M_marks M_wrongs M_bytes M_rights M_tells M_lastMaster M_lastCounts M_word M_values M_system M_solved M_wrong M_craft M_master M_counts M_data) (w_Mo_frameByte cI cJ qM qM_counts qM_data M_thrown M_depth M_fill M_half M_pattern M_begins M_firsts M_seconds M_powers M_logarithms M_forms M_elements M_mixer M_waiting M_line M_length M_sent M_state M_places M_least M_row M_rowSize M_differ M_blocks M_marks M_wrongs M_bytes M_rights M_tells M_lastMaster M_lastCounts M_word M_values M_system M_solved M_wrong M_craft M_master M_counts M_data) sz rr := by
  refine Met.ofW (cc := b_Mo_frameByte) (maxL := 4) (ret := (some .int)) (by decide) rfl ?_
  intro p e s m args below meth c s₁ B hml hv
  obtain ⟨hargs, hsz, hP, hK, hD0, hE⟩ := hv
  have hx := B.exec
  have hb := B.bytes
  have hr := B.returns
  have hts : ∀ w ∈ TB, w.before args s = true := z_mV s (atoms_spec (ws := WD y_Mo_frameByte b_Mo_frameByte 4 (some .int)) B.pre)
  have hown : s.vm.findClass "DeepChannelModel" = some m.cls := findClass_of_methodNamed B.named
  have hlocks := B.notSynchronized
  subst hsz
  have hD := hD0.self (sz := s.heap.size)
  generalize hAe : va_A (w_Mo_frameByte cI cJ qM qM_counts qM_data M_thrown M_depth M_fill M_half M_pattern M_begins M_firsts M_seconds M_powers M_logarithms M_forms M_elements M_mixer M_waiting M_line M_length M_sent M_state M_places M_least M_row M_rowSize M_differ M_blocks M_marks M_wrongs M_bytes M_rights M_tells M_lastMaster M_lastCounts M_word M_values M_system M_solved M_wrong M_craft M_master M_counts M_data) s.heap.size = A at hD hE ⊢
  have hA : ∀ q : Nat, s.heap.size ≤ q → A q := fun q h => by rw [← hAe]; exact Or.inr h
  have hS : va_S A s.heap s.heap [] := va_S.rf
  refine z_entry (vs := [.ref qM, .int x1, .int x2]) hargs (Nat.le_of_ble_eq_true rfl) (fun ls hl => ?_)
  have hl : lv_has ls 4 [(0, .ref qM), (1, .int x1), (2, .int x2)] := hl
  show W p l e (RM 0 0) s m args below meth c s.heap [] 0 0 _ _
  refine z_qi (fun Q0 hQ => ?_)
  have F : CallFix p m c b_Mo_frameByte 4 s args TB "DeepChannelModel" := ⟨hx, hb, hml, hown, hts⟩
  unfold f_Mo_frameByte at hm
  refine lv_bipush (v := (16 : Int32)) hx hb d_Mo_frameByte_0 (by decide) ?_
  refine lv_aload_n hx hb d_Mo_frameByte_2 rfl (lv_at hl 0 rfl) ?_
  refine va_get (D := D) (ci := 11) (v := .int M_craft) (C := "DeepChannelModel") (T := fT_Mo) (N := 40) hx hb hts u_Mo hown hK hP 0 rfl rfl 5 (by decide) (hts _ k_891) (fun _ h9 => h9) rfl d_Mo_frameByte_3 ?_
  refine lv_imul hx hb d_Mo_frameByte_6 ?_
  refine lv_iconst (v := (2 : Int32)) hx hb d_Mo_frameByte_7 (by decide) ?_
  refine lv_iload_n hx hb d_Mo_frameByte_8 rfl (lv_at hl 2 rfl) ?_
  refine lv_imul hx hb d_Mo_frameByte_9 ?_
  refine lv_iadd hx hb d_Mo_frameByte_10 ?_
  refine z_nmi hm (fun v1 hm => ?_)
  refine lv_istore_n (lv' := [(3, .int v1), (0, .ref qM), (1, .int x1), (2, .int x2)]) hx hb d_Mo_frameByte_11 rfl hl (by decide) rfl (fun ls hl => ?_)
  refine lv_iload_n hx hb d_Mo_frameByte_12 rfl (lv_at hl 2 rfl) ?_
  refine z_sp hm (fun e0 hm => z_swin (tgt := 52) (off := 39) e0 hx hb d_Mo_frameByte_13 (by decide) (by decide) (by decide) (by decide) ?_) (fun e0 hm => ?_)
  · refine lv_iload_n hx hb d_Mo_frameByte_52 rfl (lv_at hl 0 rfl) ?_
    refine lv_bipush (v := (8 : Int32)) hx hb d_Mo_frameByte_53 (by decide) ?_
    refine lv_ishr hx hb d_Mo_frameByte_55 ?_
    cases hm
    exact z_qo hQ (z_ireti hr hx hb hlocks hK hP hD hS d_Mo_frameByte_56)
  refine z_sp hm (fun e1 hm => z_swin (tgt := 57) (off := 44) e1 hx hb d_Mo_frameByte_13 (by decide) (by decide) (by decide) (by decide) ?_) (fun e1 hm => ?_)
  · refine lv_iload_n hx hb d_Mo_frameByte_57 rfl (lv_at hl 0 rfl) ?_
    refine lv_sipush (v := (255 : Int32)) hx hb d_Mo_frameByte_58 (by decide) ?_
    refine lv_iand hx hb d_Mo_frameByte_61 ?_
    cases hm
    exact z_qo hQ (z_ireti hr hx hb hlocks hK hP hD hS d_Mo_frameByte_62)
  refine z_sp hm (fun e2 hm => z_swin (tgt := 63) (off := 50) e2 hx hb d_Mo_frameByte_13 (by decide) (by decide) (by decide) (by decide) ?_) (fun e2 hm => ?_)
  · refine lv_aload_n hx hb d_Mo_frameByte_63 rfl (lv_at hl 1 rfl) ?_
    refine va_get (D := D) (ci := 11) (v := .int M_master) (C := "DeepChannelModel") (T := fT_Mo) (N := 40) hx hb hts u_Mo hown hK hP 0 rfl rfl 16 (by decide) (hts _ k_902) (fun _ h9 => h9) rfl d_Mo_frameByte_64 ?_
    refine lv_sipush (v := (256 : Int32)) hx hb d_Mo_frameByte_67 (by decide) ?_
    refine z_irem hm hx hb d_Mo_frameByte_70 (fun hm => ?_)
    cases hm
    exact z_qo hQ (z_ireti hr hx hb hlocks hK hP hD hS d_Mo_frameByte_71)
  refine z_sp hm (fun e3 hm => z_swin (tgt := 72) (off := 59) e3 hx hb d_Mo_frameByte_13 (by decide) (by decide) (by decide) (by decide) ?_) (fun e3 hm => ?_)
  · refine lv_aload_n hx hb d_Mo_frameByte_72 rfl (lv_at hl 1 rfl) ?_
    refine va_get (D := D) (ci := 11) (v := .ref qM_counts) (C := "DeepChannelModel") (T := fT_Mo) (N := 40) hx hb hts u_Mo hown hK hP 0 rfl rfl 17 (by decide) (hts _ k_903) (fun _ h9 => h9) rfl d_Mo_frameByte_73 ?_
    refine lv_iload_n hx hb d_Mo_frameByte_76 rfl (lv_at hl 3 rfl) ?_
    refine z_iald hm hx hb hK hP 1 rfl d_Mo_frameByte_77 (fun v2 hm => ?_)
    refine lv_sipush (v := (256 : Int32)) hx hb d_Mo_frameByte_78 (by decide) ?_
    refine z_irem hm hx hb d_Mo_frameByte_81 (fun hm => ?_)
    cases hm
    exact z_qo hQ (z_ireti hr hx hb hlocks hK hP hD hS d_Mo_frameByte_82)
  refine z_sp hm (fun e4 hm => z_swin (tgt := 83) (off := 70) e4 hx hb d_Mo_frameByte_13 (by decide) (by decide) (by decide) (by decide) ?_) (fun e4 hm => ?_)
  · refine lv_bipush (v := (24 : Int32)) hx hb d_Mo_frameByte_83 (by decide) ?_
    cases hm
    exact z_qo hQ (z_ireti hr hx hb hlocks hK hP hD hS d_Mo_frameByte_85)
  refine z_sp hm (fun e5 hm => z_swin (tgt := 86) (off := 73) e5 hx hb d_Mo_frameByte_13 (by decide) (by decide) (by decide) (by decide) ?_) (fun e5 hm => ?_)
  · refine lv_iconst (v := (0 : Int32)) hx hb d_Mo_frameByte_86 (by decide) ?_
    cases hm
    exact z_qo hQ (z_ireti hr hx hb hlocks hK hP hD hS d_Mo_frameByte_87)
  refine z_swout (tgt := 88) (z_swl [(0 : Int32), (1 : Int32), (2 : Int32), (3 : Int32), (4 : Int32), (5 : Int32)] ⟨e0, e1, e2, e3, e4, e5, trivial⟩ (by decide)) (by decide) hx hb d_Mo_frameByte_13 (by decide) ?_
  refine lv_aload_n hx hb d_Mo_frameByte_88 rfl (lv_at hl 1 rfl) ?_
  refine va_get (D := D) (ci := 11) (v := .ref qM_data) (C := "DeepChannelModel") (T := fT_Mo) (N := 40) hx hb hts u_Mo hown hK hP 0 rfl rfl 14 (by decide) (hts _ k_900) (fun _ h9 => h9) rfl d_Mo_frameByte_89 ?_
  refine lv_iload_n hx hb d_Mo_frameByte_92 rfl (lv_at hl 2 rfl) ?_
  refine lv_bipush (v := (6 : Int32)) hx hb d_Mo_frameByte_93 (by decide) ?_
  refine lv_isub hx hb d_Mo_frameByte_95 ?_
  refine z_iald hm hx hb hK hP 2 rfl d_Mo_frameByte_96 (fun v3 hm => ?_)
  cases hm
  exact z_qo hQ (z_ireti hr hx hb hlocks hK hP hD hS d_Mo_frameByte_97)
-- DeepChannelModel.solves(I)Z
abbrev b_Mo_solves : ByteArray := prog_13_method_25_code
abbrev y_Mo_solves : MethodName := ⟨"DeepChannelModel", "solves", "(I)Z"⟩
theorem d_Mo_solves_0 : decode b_Mo_solves 0 = .ok (.iconst 0, 1) := by decide +kernel
theorem d_Mo_solves_1 : decode b_Mo_solves 1 = .ok (.istore_n 2, 1) := by decide +kernel
theorem d_Mo_solves_2 : decode b_Mo_solves 2 = .ok (.iload_n 2, 1) := by decide +kernel
theorem d_Mo_solves_3 : decode b_Mo_solves 3 = .ok (.iload_n 1, 1) := by decide +kernel
theorem d_Mo_solves_4 : decode b_Mo_solves 4 = .ok (.if_icmp .ge 267, 3) := by decide +kernel
theorem d_Mo_solves_7 : decode b_Mo_solves 7 = .ok (.iload_n 2, 1) := by decide +kernel
theorem d_Mo_solves_8 : decode b_Mo_solves 8 = .ok (.istore_n 3, 1) := by decide +kernel
theorem d_Mo_solves_9 : decode b_Mo_solves 9 = .ok (.iload_n 3, 1) := by decide +kernel
theorem d_Mo_solves_10 : decode b_Mo_solves 10 = .ok (.iload_n 1, 1) := by decide +kernel
theorem d_Mo_solves_11 : decode b_Mo_solves 11 = .ok (.if_icmp .ge 23, 3) := by decide +kernel
theorem d_Mo_solves_14 : decode b_Mo_solves 14 = .ok (.aload_n 0, 1) := by decide +kernel
theorem d_Mo_solves_15 : decode b_Mo_solves 15 = .ok (.getfield 87, 3) := by decide +kernel
theorem d_Mo_solves_18 : decode b_Mo_solves 18 = .ok (.bipush 33, 2) := by decide +kernel
theorem d_Mo_solves_20 : decode b_Mo_solves 20 = .ok (.iload_n 3, 1) := by decide +kernel
theorem d_Mo_solves_21 : decode b_Mo_solves 21 = .ok (.imul, 1) := by decide +kernel
theorem d_Mo_solves_22 : decode b_Mo_solves 22 = .ok (.iload_n 2, 1) := by decide +kernel
theorem d_Mo_solves_23 : decode b_Mo_solves 23 = .ok (.iadd, 1) := by decide +kernel
theorem d_Mo_solves_24 : decode b_Mo_solves 24 = .ok (.iaload, 1) := by decide +kernel
theorem d_Mo_solves_25 : decode b_Mo_solves 25 = .ok (.ifCond .ne 9, 3) := by decide +kernel
theorem d_Mo_solves_28 : decode b_Mo_solves 28 = .ok (.iinc 3 1, 3) := by decide +kernel
theorem d_Mo_solves_31 : decode b_Mo_solves 31 = .ok (.goto (-22), 3) := by decide +kernel
theorem d_Mo_solves_34 : decode b_Mo_solves 34 = .ok (.iload_n 3, 1) := by decide +kernel
theorem d_Mo_solves_35 : decode b_Mo_solves 35 = .ok (.iload_n 1, 1) := by decide +kernel
theorem d_Mo_solves_36 : decode b_Mo_solves 36 = .ok (.if_icmp .ne 5, 3) := by decide +kernel
theorem d_Mo_solves_39 : decode b_Mo_solves 39 = .ok (.iconst 0, 1) := by decide +kernel
theorem d_Mo_solves_40 : decode b_Mo_solves 40 = .ok (.ireturn, 1) := by decide +kernel
theorem d_Mo_solves_41 : decode b_Mo_solves 41 = .ok (.iconst 0, 1) := by decide +kernel
theorem d_Mo_solves_42 : decode b_Mo_solves 42 = .ok (.istore 4, 2) := by decide +kernel
theorem d_Mo_solves_44 : decode b_Mo_solves 44 = .ok (.iload 4, 2) := by decide +kernel
theorem d_Mo_solves_46 : decode b_Mo_solves 46 = .ok (.iload_n 1, 1) := by decide +kernel
theorem d_Mo_solves_47 : decode b_Mo_solves 47 = .ok (.if_icmp .gt 61, 3) := by decide +kernel
theorem d_Mo_solves_50 : decode b_Mo_solves 50 = .ok (.aload_n 0, 1) := by decide +kernel
theorem d_Mo_solves_51 : decode b_Mo_solves 51 = .ok (.getfield 87, 3) := by decide +kernel
theorem d_Mo_solves_54 : decode b_Mo_solves 54 = .ok (.bipush 33, 2) := by decide +kernel
theorem d_Mo_solves_56 : decode b_Mo_solves 56 = .ok (.iload_n 3, 1) := by decide +kernel
theorem d_Mo_solves_57 : decode b_Mo_solves 57 = .ok (.imul, 1) := by decide +kernel
theorem d_Mo_solves_58 : decode b_Mo_solves 58 = .ok (.iload 4, 2) := by decide +kernel
theorem d_Mo_solves_60 : decode b_Mo_solves 60 = .ok (.iadd, 1) := by decide +kernel
theorem d_Mo_solves_61 : decode b_Mo_solves 61 = .ok (.iaload, 1) := by decide +kernel
theorem d_Mo_solves_62 : decode b_Mo_solves 62 = .ok (.istore 5, 2) := by decide +kernel
theorem d_Mo_solves_64 : decode b_Mo_solves 64 = .ok (.aload_n 0, 1) := by decide +kernel
theorem d_Mo_solves_65 : decode b_Mo_solves 65 = .ok (.getfield 87, 3) := by decide +kernel
theorem d_Mo_solves_68 : decode b_Mo_solves 68 = .ok (.bipush 33, 2) := by decide +kernel
theorem d_Mo_solves_70 : decode b_Mo_solves 70 = .ok (.iload_n 3, 1) := by decide +kernel
theorem d_Mo_solves_71 : decode b_Mo_solves 71 = .ok (.imul, 1) := by decide +kernel
theorem d_Mo_solves_72 : decode b_Mo_solves 72 = .ok (.iload 4, 2) := by decide +kernel
theorem d_Mo_solves_74 : decode b_Mo_solves 74 = .ok (.iadd, 1) := by decide +kernel
theorem d_Mo_solves_75 : decode b_Mo_solves 75 = .ok (.aload_n 0, 1) := by decide +kernel
theorem d_Mo_solves_76 : decode b_Mo_solves 76 = .ok (.getfield 87, 3) := by decide +kernel
theorem d_Mo_solves_79 : decode b_Mo_solves 79 = .ok (.bipush 33, 2) := by decide +kernel
theorem d_Mo_solves_81 : decode b_Mo_solves 81 = .ok (.iload_n 2, 1) := by decide +kernel
theorem d_Mo_solves_82 : decode b_Mo_solves 82 = .ok (.imul, 1) := by decide +kernel
theorem d_Mo_solves_83 : decode b_Mo_solves 83 = .ok (.iload 4, 2) := by decide +kernel
theorem d_Mo_solves_85 : decode b_Mo_solves 85 = .ok (.iadd, 1) := by decide +kernel
theorem d_Mo_solves_86 : decode b_Mo_solves 86 = .ok (.iaload, 1) := by decide +kernel
theorem d_Mo_solves_87 : decode b_Mo_solves 87 = .ok (.iastore, 1) := by decide +kernel
theorem d_Mo_solves_88 : decode b_Mo_solves 88 = .ok (.aload_n 0, 1) := by decide +kernel
theorem d_Mo_solves_89 : decode b_Mo_solves 89 = .ok (.getfield 87, 3) := by decide +kernel
theorem d_Mo_solves_92 : decode b_Mo_solves 92 = .ok (.bipush 33, 2) := by decide +kernel
theorem d_Mo_solves_94 : decode b_Mo_solves 94 = .ok (.iload_n 2, 1) := by decide +kernel
theorem d_Mo_solves_95 : decode b_Mo_solves 95 = .ok (.imul, 1) := by decide +kernel
theorem d_Mo_solves_96 : decode b_Mo_solves 96 = .ok (.iload 4, 2) := by decide +kernel
theorem d_Mo_solves_98 : decode b_Mo_solves 98 = .ok (.iadd, 1) := by decide +kernel
theorem d_Mo_solves_99 : decode b_Mo_solves 99 = .ok (.iload 5, 2) := by decide +kernel
theorem d_Mo_solves_101 : decode b_Mo_solves 101 = .ok (.iastore, 1) := by decide +kernel
theorem d_Mo_solves_102 : decode b_Mo_solves 102 = .ok (.iinc 4 1, 3) := by decide +kernel
theorem d_Mo_solves_105 : decode b_Mo_solves 105 = .ok (.goto (-61), 3) := by decide +kernel
theorem d_Mo_solves_108 : decode b_Mo_solves 108 = .ok (.aload_n 0, 1) := by decide +kernel
theorem d_Mo_solves_109 : decode b_Mo_solves 109 = .ok (.aload_n 0, 1) := by decide +kernel
theorem d_Mo_solves_110 : decode b_Mo_solves 110 = .ok (.getfield 87, 3) := by decide +kernel
theorem d_Mo_solves_113 : decode b_Mo_solves 113 = .ok (.bipush 33, 2) := by decide +kernel
theorem d_Mo_solves_115 : decode b_Mo_solves 115 = .ok (.iload_n 2, 1) := by decide +kernel
theorem d_Mo_solves_116 : decode b_Mo_solves 116 = .ok (.imul, 1) := by decide +kernel
theorem d_Mo_solves_117 : decode b_Mo_solves 117 = .ok (.iload_n 2, 1) := by decide +kernel
theorem d_Mo_solves_118 : decode b_Mo_solves 118 = .ok (.iadd, 1) := by decide +kernel
theorem d_Mo_solves_119 : decode b_Mo_solves 119 = .ok (.iaload, 1) := by decide +kernel
theorem d_Mo_solves_120 : decode b_Mo_solves 120 = .ok (.invokevirtual 172, 3) := by decide +kernel
theorem d_Mo_solves_123 : decode b_Mo_solves 123 = .ok (.istore 4, 2) := by decide +kernel
theorem d_Mo_solves_125 : decode b_Mo_solves 125 = .ok (.iconst 0, 1) := by decide +kernel
theorem d_Mo_solves_126 : decode b_Mo_solves 126 = .ok (.istore 5, 2) := by decide +kernel
theorem d_Mo_solves_128 : decode b_Mo_solves 128 = .ok (.iload 5, 2) := by decide +kernel
theorem d_Mo_solves_130 : decode b_Mo_solves 130 = .ok (.iload_n 1, 1) := by decide +kernel
theorem d_Mo_solves_131 : decode b_Mo_solves 131 = .ok (.if_icmp .gt 39, 3) := by decide +kernel
theorem d_Mo_solves_134 : decode b_Mo_solves 134 = .ok (.aload_n 0, 1) := by decide +kernel
theorem d_Mo_solves_135 : decode b_Mo_solves 135 = .ok (.getfield 87, 3) := by decide +kernel
theorem d_Mo_solves_138 : decode b_Mo_solves 138 = .ok (.bipush 33, 2) := by decide +kernel
theorem d_Mo_solves_140 : decode b_Mo_solves 140 = .ok (.iload_n 2, 1) := by decide +kernel
theorem d_Mo_solves_141 : decode b_Mo_solves 141 = .ok (.imul, 1) := by decide +kernel
theorem d_Mo_solves_142 : decode b_Mo_solves 142 = .ok (.iload 5, 2) := by decide +kernel
theorem d_Mo_solves_144 : decode b_Mo_solves 144 = .ok (.iadd, 1) := by decide +kernel
theorem d_Mo_solves_145 : decode b_Mo_solves 145 = .ok (.aload_n 0, 1) := by decide +kernel
theorem d_Mo_solves_146 : decode b_Mo_solves 146 = .ok (.aload_n 0, 1) := by decide +kernel
theorem d_Mo_solves_147 : decode b_Mo_solves 147 = .ok (.getfield 87, 3) := by decide +kernel
theorem d_Mo_solves_150 : decode b_Mo_solves 150 = .ok (.bipush 33, 2) := by decide +kernel
theorem d_Mo_solves_152 : decode b_Mo_solves 152 = .ok (.iload_n 2, 1) := by decide +kernel
theorem d_Mo_solves_153 : decode b_Mo_solves 153 = .ok (.imul, 1) := by decide +kernel
theorem d_Mo_solves_154 : decode b_Mo_solves 154 = .ok (.iload 5, 2) := by decide +kernel
theorem d_Mo_solves_156 : decode b_Mo_solves 156 = .ok (.iadd, 1) := by decide +kernel
theorem d_Mo_solves_157 : decode b_Mo_solves 157 = .ok (.iaload, 1) := by decide +kernel
theorem d_Mo_solves_158 : decode b_Mo_solves 158 = .ok (.iload 4, 2) := by decide +kernel
theorem d_Mo_solves_160 : decode b_Mo_solves 160 = .ok (.invokevirtual 175, 3) := by decide +kernel
theorem d_Mo_solves_163 : decode b_Mo_solves 163 = .ok (.iastore, 1) := by decide +kernel
theorem d_Mo_solves_164 : decode b_Mo_solves 164 = .ok (.iinc 5 1, 3) := by decide +kernel
theorem d_Mo_solves_167 : decode b_Mo_solves 167 = .ok (.goto (-39), 3) := by decide +kernel
theorem d_Mo_solves_170 : decode b_Mo_solves 170 = .ok (.iconst 0, 1) := by decide +kernel
theorem d_Mo_solves_171 : decode b_Mo_solves 171 = .ok (.istore 5, 2) := by decide +kernel
theorem d_Mo_solves_173 : decode b_Mo_solves 173 = .ok (.iload 5, 2) := by decide +kernel
theorem d_Mo_solves_175 : decode b_Mo_solves 175 = .ok (.iload_n 1, 1) := by decide +kernel
theorem d_Mo_solves_176 : decode b_Mo_solves 176 = .ok (.if_icmp .ge 89, 3) := by decide +kernel
theorem d_Mo_solves_179 : decode b_Mo_solves 179 = .ok (.aload_n 0, 1) := by decide +kernel
theorem d_Mo_solves_180 : decode b_Mo_solves 180 = .ok (.getfield 87, 3) := by decide +kernel
theorem d_Mo_solves_183 : decode b_Mo_solves 183 = .ok (.bipush 33, 2) := by decide +kernel
theorem d_Mo_solves_185 : decode b_Mo_solves 185 = .ok (.iload 5, 2) := by decide +kernel
theorem d_Mo_solves_187 : decode b_Mo_solves 187 = .ok (.imul, 1) := by decide +kernel
theorem d_Mo_solves_188 : decode b_Mo_solves 188 = .ok (.iload_n 2, 1) := by decide +kernel
theorem d_Mo_solves_189 : decode b_Mo_solves 189 = .ok (.iadd, 1) := by decide +kernel
theorem d_Mo_solves_190 : decode b_Mo_solves 190 = .ok (.iaload, 1) := by decide +kernel
theorem d_Mo_solves_191 : decode b_Mo_solves 191 = .ok (.istore 6, 2) := by decide +kernel
theorem d_Mo_solves_193 : decode b_Mo_solves 193 = .ok (.iconst 0, 1) := by decide +kernel
theorem d_Mo_solves_194 : decode b_Mo_solves 194 = .ok (.istore 7, 2) := by decide +kernel
theorem d_Mo_solves_196 : decode b_Mo_solves 196 = .ok (.iload 7, 2) := by decide +kernel
theorem d_Mo_solves_198 : decode b_Mo_solves 198 = .ok (.iload_n 1, 1) := by decide +kernel
theorem d_Mo_solves_199 : decode b_Mo_solves 199 = .ok (.if_icmp .gt 60, 3) := by decide +kernel
theorem d_Mo_solves_202 : decode b_Mo_solves 202 = .ok (.iload 5, 2) := by decide +kernel
theorem d_Mo_solves_204 : decode b_Mo_solves 204 = .ok (.iload_n 2, 1) := by decide +kernel
theorem d_Mo_solves_205 : decode b_Mo_solves 205 = .ok (.if_icmp .eq 54, 3) := by decide +kernel
theorem d_Mo_solves_208 : decode b_Mo_solves 208 = .ok (.aload_n 0, 1) := by decide +kernel
theorem d_Mo_solves_209 : decode b_Mo_solves 209 = .ok (.getfield 87, 3) := by decide +kernel
theorem d_Mo_solves_212 : decode b_Mo_solves 212 = .ok (.bipush 33, 2) := by decide +kernel
theorem d_Mo_solves_214 : decode b_Mo_solves 214 = .ok (.iload 5, 2) := by decide +kernel
theorem d_Mo_solves_216 : decode b_Mo_solves 216 = .ok (.imul, 1) := by decide +kernel
theorem d_Mo_solves_217 : decode b_Mo_solves 217 = .ok (.iload 7, 2) := by decide +kernel
theorem d_Mo_solves_219 : decode b_Mo_solves 219 = .ok (.iadd, 1) := by decide +kernel
theorem d_Mo_solves_220 : decode b_Mo_solves 220 = .ok (.aload_n 0, 1) := by decide +kernel
theorem d_Mo_solves_221 : decode b_Mo_solves 221 = .ok (.getfield 87, 3) := by decide +kernel
theorem d_Mo_solves_224 : decode b_Mo_solves 224 = .ok (.bipush 33, 2) := by decide +kernel
theorem d_Mo_solves_226 : decode b_Mo_solves 226 = .ok (.iload 5, 2) := by decide +kernel
theorem d_Mo_solves_228 : decode b_Mo_solves 228 = .ok (.imul, 1) := by decide +kernel
theorem d_Mo_solves_229 : decode b_Mo_solves 229 = .ok (.iload 7, 2) := by decide +kernel
theorem d_Mo_solves_231 : decode b_Mo_solves 231 = .ok (.iadd, 1) := by decide +kernel
theorem d_Mo_solves_232 : decode b_Mo_solves 232 = .ok (.iaload, 1) := by decide +kernel
theorem d_Mo_solves_233 : decode b_Mo_solves 233 = .ok (.aload_n 0, 1) := by decide +kernel
theorem d_Mo_solves_234 : decode b_Mo_solves 234 = .ok (.iload 6, 2) := by decide +kernel
theorem d_Mo_solves_236 : decode b_Mo_solves 236 = .ok (.aload_n 0, 1) := by decide +kernel
theorem d_Mo_solves_237 : decode b_Mo_solves 237 = .ok (.getfield 87, 3) := by decide +kernel
theorem d_Mo_solves_240 : decode b_Mo_solves 240 = .ok (.bipush 33, 2) := by decide +kernel
theorem d_Mo_solves_242 : decode b_Mo_solves 242 = .ok (.iload_n 2, 1) := by decide +kernel
theorem d_Mo_solves_243 : decode b_Mo_solves 243 = .ok (.imul, 1) := by decide +kernel
theorem d_Mo_solves_244 : decode b_Mo_solves 244 = .ok (.iload 7, 2) := by decide +kernel
theorem d_Mo_solves_246 : decode b_Mo_solves 246 = .ok (.iadd, 1) := by decide +kernel
theorem d_Mo_solves_247 : decode b_Mo_solves 247 = .ok (.iaload, 1) := by decide +kernel
theorem d_Mo_solves_248 : decode b_Mo_solves 248 = .ok (.invokevirtual 175, 3) := by decide +kernel
theorem d_Mo_solves_251 : decode b_Mo_solves 251 = .ok (.ixor, 1) := by decide +kernel
theorem d_Mo_solves_252 : decode b_Mo_solves 252 = .ok (.iastore, 1) := by decide +kernel
theorem d_Mo_solves_253 : decode b_Mo_solves 253 = .ok (.iinc 7 1, 3) := by decide +kernel
theorem d_Mo_solves_256 : decode b_Mo_solves 256 = .ok (.goto (-60), 3) := by decide +kernel
theorem d_Mo_solves_259 : decode b_Mo_solves 259 = .ok (.iinc 5 1, 3) := by decide +kernel
theorem d_Mo_solves_262 : decode b_Mo_solves 262 = .ok (.goto (-89), 3) := by decide +kernel
theorem d_Mo_solves_265 : decode b_Mo_solves 265 = .ok (.iinc 2 1, 3) := by decide +kernel
theorem d_Mo_solves_268 : decode b_Mo_solves 268 = .ok (.goto (-266), 3) := by decide +kernel
theorem d_Mo_solves_271 : decode b_Mo_solves 271 = .ok (.iconst 0, 1) := by decide +kernel
theorem d_Mo_solves_272 : decode b_Mo_solves 272 = .ok (.istore_n 2, 1) := by decide +kernel
theorem d_Mo_solves_273 : decode b_Mo_solves 273 = .ok (.iload_n 2, 1) := by decide +kernel
theorem d_Mo_solves_274 : decode b_Mo_solves 274 = .ok (.iload_n 1, 1) := by decide +kernel
theorem d_Mo_solves_275 : decode b_Mo_solves 275 = .ok (.if_icmp .ge 26, 3) := by decide +kernel
theorem d_Mo_solves_278 : decode b_Mo_solves 278 = .ok (.aload_n 0, 1) := by decide +kernel
theorem d_Mo_solves_279 : decode b_Mo_solves 279 = .ok (.getfield 90, 3) := by decide +kernel
theorem d_Mo_solves_282 : decode b_Mo_solves 282 = .ok (.iload_n 2, 1) := by decide +kernel
theorem d_Mo_solves_283 : decode b_Mo_solves 283 = .ok (.aload_n 0, 1) := by decide +kernel
theorem d_Mo_solves_284 : decode b_Mo_solves 284 = .ok (.getfield 87, 3) := by decide +kernel
theorem d_Mo_solves_287 : decode b_Mo_solves 287 = .ok (.bipush 33, 2) := by decide +kernel
theorem d_Mo_solves_289 : decode b_Mo_solves 289 = .ok (.iload_n 2, 1) := by decide +kernel
theorem d_Mo_solves_290 : decode b_Mo_solves 290 = .ok (.imul, 1) := by decide +kernel
theorem d_Mo_solves_291 : decode b_Mo_solves 291 = .ok (.iload_n 1, 1) := by decide +kernel
theorem d_Mo_solves_292 : decode b_Mo_solves 292 = .ok (.iadd, 1) := by decide +kernel
theorem d_Mo_solves_293 : decode b_Mo_solves 293 = .ok (.iaload, 1) := by decide +kernel
theorem d_Mo_solves_294 : decode b_Mo_solves 294 = .ok (.iastore, 1) := by decide +kernel
theorem d_Mo_solves_295 : decode b_Mo_solves 295 = .ok (.iinc 2 1, 3) := by decide +kernel
theorem d_Mo_solves_298 : decode b_Mo_solves 298 = .ok (.goto (-25), 3) := by decide +kernel
theorem d_Mo_solves_301 : decode b_Mo_solves 301 = .ok (.iconst 1, 1) := by decide +kernel
theorem d_Mo_solves_302 : decode b_Mo_solves 302 = .ok (.ireturn, 1) := by decide +kernel
theorem ok_Mo_solves : OKv y_Mo_solves b_Mo_solves 8 (some .boolean) "DeepChannelModel" 1 := ⟨k_1097, k_1096, k_29, k_55, by decide +kernel, by decide +kernel, by decide +kernel⟩
abbrev w_Mo_solves (cI cJ : ClassId) (qM qM_system qM_solved qM_logarithms qM_powers : Nat) (M_thrown M_depth M_fill M_half M_pattern M_craft M_begins M_firsts M_seconds M_forms M_elements M_mixer M_data M_waiting M_master M_counts M_line M_length M_sent M_state M_places M_least M_row M_rowSize M_differ M_blocks M_marks M_wrongs M_bytes M_rights M_tells M_lastMaster M_lastCounts M_word M_values M_wrong : Value) (M_system : Nat → Int32) (M_solved : Nat → Int32) (M_logarithms : Nat → Int32) (M_powers : Nat → Int32) : va_W := [(qM, .inr (11, [M_thrown, M_depth, M_fill, M_half, M_pattern, M_craft, M_begins, M_firsts, M_seconds, .ref qM_powers, .ref qM_logarithms, M_forms, M_elements, M_mixer, M_data, M_waiting, M_master, M_counts, M_line, M_length, M_sent, M_state, M_places, M_least, M_row, M_rowSize, M_differ, M_blocks, M_marks, M_wrongs, M_bytes, M_rights, M_tells, M_lastMaster, M_lastCounts, M_word, M_values, .ref qM_system, .ref qM_solved, M_wrong])), (qM_system, .inl (cI, 1056, .inl M_system)), (qM_solved, .inl (cI, 32, .inl M_solved)), (qM_logarithms, .inl (cI, 256, .inl M_logarithms)), (qM_powers, .inl (cI, 255, .inl M_powers))]
def f_Mo_solves_273_b  (kh273 : Int32 → Int32 → (Nat → Int32) → (Nat → Int32) → Option (Int32 × (Nat → Int32) × (Nat → Int32))) (x1 : Int32) (x2 : Int32) (M_system : Nat → Int32) (M_solved : Nat → Int32) : Option (Int32 × (Nat → Int32) × (Nat → Int32)) :=
  if x1 ≤ x2 then
    zb (1 : Int32) <|
    some ((1 : Int32), M_system, M_solved)
  else
  rdI M_system 1056 (((33 : Int32) * x2) + x1) fun v1 =>
  wrI M_solved 32 x2 v1 fun g2 =>
  nm (x2 + (1 : Int32)) fun v3 =>
  kh273 x1 v3 M_system g2
def f_Mo_solves_273  : Nat → Int32 → Int32 → (Nat → Int32) → (Nat → Int32) → Option (Int32 × (Nat → Int32) × (Nat → Int32))
  | 0 => fun _ _ _ _ => none
  | n + 1 => fun x1 x2 M_system M_solved => f_Mo_solves_273_b (f_Mo_solves_273 n) x1 x2 M_system M_solved
def f_Mo_solves_271  (x1 : Int32) (M_system : Nat → Int32) (M_solved : Nat → Int32) : Option (Int32 × (Nat → Int32) × (Nat → Int32)) :=
  f_Mo_solves_273 10000 x1 (0 : Int32) M_system M_solved
def f_Mo_solves_265 (kh2 : Int32 → Int32 → (Nat → Int32) → (Nat → Int32) → Option (Int32 × (Nat → Int32) × (Nat → Int32))) (x1 : Int32) (x2 : Int32) (M_system : Nat → Int32) (M_solved : Nat → Int32) : Option (Int32 × (Nat → Int32) × (Nat → Int32)) :=
  nm (x2 + (1 : Int32)) fun v4 =>
  kh2 x1 v4 M_system M_solved
def f_Mo_solves_259 (kh173 : Int32 → Int32 → Int32 → (Nat → Int32) → (Nat → Int32) → Option (Int32 × (Nat → Int32) × (Nat → Int32))) (x1 : Int32) (x2 : Int32) (x5 : Int32) (M_system : Nat → Int32) (M_solved : Nat → Int32) : Option (Int32 × (Nat → Int32) × (Nat → Int32)) :=
  nm (x5 + (1 : Int32)) fun v5 =>
  kh173 x1 x2 v5 M_system M_solved
def f_Mo_solves_196_b (M_logarithms : Nat → Int32) (M_powers : Nat → Int32) (kh173 : Int32 → Int32 → Int32 → (Nat → Int32) → (Nat → Int32) → Option (Int32 × (Nat → Int32) × (Nat → Int32))) (kh196 : Int32 → Int32 → Int32 → Int32 → Int32 → (Nat → Int32) → (Nat → Int32) → Option (Int32 × (Nat → Int32) × (Nat → Int32))) (x1 : Int32) (x2 : Int32) (x5 : Int32) (x6 : Int32) (x7 : Int32) (M_system : Nat → Int32) (M_solved : Nat → Int32) : Option (Int32 × (Nat → Int32) × (Nat → Int32)) :=
  if x1 < x7 then
    f_Mo_solves_259 kh173 x1 x2 x5 M_system M_solved
  else
  if x5 = x2 then
    f_Mo_solves_259 kh173 x1 x2 x5 M_system M_solved
  else
  rdI M_system 1056 (((33 : Int32) * x5) + x7) fun v6 =>
  rdI M_system 1056 (((33 : Int32) * x2) + x7) fun v7 =>
  bd (f_Mo_product M_logarithms M_powers x6 v7) fun u9 =>
  nm u9 fun r8 =>
  wrI M_system 1056 (((33 : Int32) * x5) + x7) (v6 ^^^ r8) fun g10 =>
  nm (x7 + (1 : Int32)) fun v11 =>
  kh196 x1 x2 x5 x6 v11 g10 M_solved
def f_Mo_solves_196 (M_logarithms : Nat → Int32) (M_powers : Nat → Int32) (kh173 : Int32 → Int32 → Int32 → (Nat → Int32) → (Nat → Int32) → Option (Int32 × (Nat → Int32) × (Nat → Int32))) : Nat → Int32 → Int32 → Int32 → Int32 → Int32 → (Nat → Int32) → (Nat → Int32) → Option (Int32 × (Nat → Int32) × (Nat → Int32))
  | 0 => fun _ _ _ _ _ _ _ => none
  | n + 1 => fun x1 x2 x5 x6 x7 M_system M_solved => f_Mo_solves_196_b M_logarithms M_powers kh173 (f_Mo_solves_196 M_logarithms M_powers kh173 n) x1 x2 x5 x6 x7 M_system M_solved
def f_Mo_solves_173_b (M_logarithms : Nat → Int32) (M_powers : Nat → Int32) (kh2 : Int32 → Int32 → (Nat → Int32) → (Nat → Int32) → Option (Int32 × (Nat → Int32) × (Nat → Int32))) (kh173 : Int32 → Int32 → Int32 → (Nat → Int32) → (Nat → Int32) → Option (Int32 × (Nat → Int32) × (Nat → Int32))) (x1 : Int32) (x2 : Int32) (x5 : Int32) (M_system : Nat → Int32) (M_solved : Nat → Int32) : Option (Int32 × (Nat → Int32) × (Nat → Int32)) :=
  if x1 ≤ x5 then
    f_Mo_solves_265 kh2 x1 x2 M_system M_solved
  else
  rdI M_system 1056 (((33 : Int32) * x5) + x2) fun v12 =>
  f_Mo_solves_196 M_logarithms M_powers kh173 10000 x1 x2 x5 v12 (0 : Int32) M_system M_solved
def f_Mo_solves_173 (M_logarithms : Nat → Int32) (M_powers : Nat → Int32) (kh2 : Int32 → Int32 → (Nat → Int32) → (Nat → Int32) → Option (Int32 × (Nat → Int32) × (Nat → Int32))) : Nat → Int32 → Int32 → Int32 → (Nat → Int32) → (Nat → Int32) → Option (Int32 × (Nat → Int32) × (Nat → Int32))
  | 0 => fun _ _ _ _ _ => none
  | n + 1 => fun x1 x2 x5 M_system M_solved => f_Mo_solves_173_b M_logarithms M_powers kh2 (f_Mo_solves_173 M_logarithms M_powers kh2 n) x1 x2 x5 M_system M_solved
def f_Mo_solves_170 (M_logarithms : Nat → Int32) (M_powers : Nat → Int32) (kh2 : Int32 → Int32 → (Nat → Int32) → (Nat → Int32) → Option (Int32 × (Nat → Int32) × (Nat → Int32))) (x1 : Int32) (x2 : Int32) (M_system : Nat → Int32) (M_solved : Nat → Int32) : Option (Int32 × (Nat → Int32) × (Nat → Int32)) :=
  f_Mo_solves_173 M_logarithms M_powers kh2 10000 x1 x2 (0 : Int32) M_system M_solved
def f_Mo_solves_128_b (M_logarithms : Nat → Int32) (M_powers : Nat → Int32) (kh2 : Int32 → Int32 → (Nat → Int32) → (Nat → Int32) → Option (Int32 × (Nat → Int32) × (Nat → Int32))) (kh128 : Int32 → Int32 → Int32 → Int32 → (Nat → Int32) → (Nat → Int32) → Option (Int32 × (Nat → Int32) × (Nat → Int32))) (x1 : Int32) (x2 : Int32) (x4 : Int32) (x5 : Int32) (M_system : Nat → Int32) (M_solved : Nat → Int32) : Option (Int32 × (Nat → Int32) × (Nat → Int32)) :=
  if x1 < x5 then
    f_Mo_solves_170 M_logarithms M_powers kh2 x1 x2 M_system M_solved
  else
  rdI M_system 1056 (((33 : Int32) * x2) + x5) fun v13 =>
  bd (f_Mo_product M_logarithms M_powers v13 x4) fun u15 =>
  nm u15 fun r14 =>
  wrI M_system 1056 (((33 : Int32) * x2) + x5) r14 fun g16 =>
  nm (x5 + (1 : Int32)) fun v17 =>
  kh128 x1 x2 x4 v17 g16 M_solved
def f_Mo_solves_128 (M_logarithms : Nat → Int32) (M_powers : Nat → Int32) (kh2 : Int32 → Int32 → (Nat → Int32) → (Nat → Int32) → Option (Int32 × (Nat → Int32) × (Nat → Int32))) : Nat → Int32 → Int32 → Int32 → Int32 → (Nat → Int32) → (Nat → Int32) → Option (Int32 × (Nat → Int32) × (Nat → Int32))
  | 0 => fun _ _ _ _ _ _ => none
  | n + 1 => fun x1 x2 x4 x5 M_system M_solved => f_Mo_solves_128_b M_logarithms M_powers kh2 (f_Mo_solves_128 M_logarithms M_powers kh2 n) x1 x2 x4 x5 M_system M_solved
def f_Mo_solves_108 (M_logarithms : Nat → Int32) (M_powers : Nat → Int32) (kh2 : Int32 → Int32 → (Nat → Int32) → (Nat → Int32) → Option (Int32 × (Nat → Int32) × (Nat → Int32))) (x1 : Int32) (x2 : Int32) (M_system : Nat → Int32) (M_solved : Nat → Int32) : Option (Int32 × (Nat → Int32) × (Nat → Int32)) :=
  rdI M_system 1056 (((33 : Int32) * x2) + x2) fun v18 =>
  bd (f_Mo_inverse M_logarithms M_powers v18) fun u20 =>
  nm u20 fun r19 =>
  f_Mo_solves_128 M_logarithms M_powers kh2 10000 x1 x2 r19 (0 : Int32) M_system M_solved
def f_Mo_solves_44_b (M_logarithms : Nat → Int32) (M_powers : Nat → Int32) (kh2 : Int32 → Int32 → (Nat → Int32) → (Nat → Int32) → Option (Int32 × (Nat → Int32) × (Nat → Int32))) (kh44 : Int32 → Int32 → Int32 → Int32 → (Nat → Int32) → (Nat → Int32) → Option (Int32 × (Nat → Int32) × (Nat → Int32))) (x1 : Int32) (x2 : Int32) (x3 : Int32) (x4 : Int32) (M_system : Nat → Int32) (M_solved : Nat → Int32) : Option (Int32 × (Nat → Int32) × (Nat → Int32)) :=
  if x1 < x4 then
    f_Mo_solves_108 M_logarithms M_powers kh2 x1 x2 M_system M_solved
  else
  rdI M_system 1056 (((33 : Int32) * x3) + x4) fun v21 =>
  rdI M_system 1056 (((33 : Int32) * x2) + x4) fun v22 =>
  wrI M_system 1056 (((33 : Int32) * x3) + x4) v22 fun g23 =>
  wrI g23 1056 (((33 : Int32) * x2) + x4) v21 fun g24 =>
  nm (x4 + (1 : Int32)) fun v25 =>
  kh44 x1 x2 x3 v25 g24 M_solved
def f_Mo_solves_44 (M_logarithms : Nat → Int32) (M_powers : Nat → Int32) (kh2 : Int32 → Int32 → (Nat → Int32) → (Nat → Int32) → Option (Int32 × (Nat → Int32) × (Nat → Int32))) : Nat → Int32 → Int32 → Int32 → Int32 → (Nat → Int32) → (Nat → Int32) → Option (Int32 × (Nat → Int32) × (Nat → Int32))
  | 0 => fun _ _ _ _ _ _ => none
  | n + 1 => fun x1 x2 x3 x4 M_system M_solved => f_Mo_solves_44_b M_logarithms M_powers kh2 (f_Mo_solves_44 M_logarithms M_powers kh2 n) x1 x2 x3 x4 M_system M_solved
def f_Mo_solves_34 (M_logarithms : Nat → Int32) (M_powers : Nat → Int32) (kh2 : Int32 → Int32 → (Nat → Int32) → (Nat → Int32) → Option (Int32 × (Nat → Int32) × (Nat → Int32))) (x1 : Int32) (x2 : Int32) (x3 : Int32) (M_system : Nat → Int32) (M_solved : Nat → Int32) : Option (Int32 × (Nat → Int32) × (Nat → Int32)) :=
  if x3 = x1 then
    zb (0 : Int32) <|
    some ((0 : Int32), M_system, M_solved)
  else
  f_Mo_solves_44 M_logarithms M_powers kh2 10000 x1 x2 x3 (0 : Int32) M_system M_solved
def f_Mo_solves_9_b (M_logarithms : Nat → Int32) (M_powers : Nat → Int32) (kh2 : Int32 → Int32 → (Nat → Int32) → (Nat → Int32) → Option (Int32 × (Nat → Int32) × (Nat → Int32))) (kh9 : Int32 → Int32 → Int32 → (Nat → Int32) → (Nat → Int32) → Option (Int32 × (Nat → Int32) × (Nat → Int32))) (x1 : Int32) (x2 : Int32) (x3 : Int32) (M_system : Nat → Int32) (M_solved : Nat → Int32) : Option (Int32 × (Nat → Int32) × (Nat → Int32)) :=
  if x1 ≤ x3 then
    f_Mo_solves_34 M_logarithms M_powers kh2 x1 x2 x3 M_system M_solved
  else
  rdI M_system 1056 (((33 : Int32) * x3) + x2) fun v26 =>
  if v26 = 0 then
    nm (x3 + (1 : Int32)) fun v27 =>
    kh9 x1 x2 v27 M_system M_solved
  else
  f_Mo_solves_34 M_logarithms M_powers kh2 x1 x2 x3 M_system M_solved
def f_Mo_solves_9 (M_logarithms : Nat → Int32) (M_powers : Nat → Int32) (kh2 : Int32 → Int32 → (Nat → Int32) → (Nat → Int32) → Option (Int32 × (Nat → Int32) × (Nat → Int32))) : Nat → Int32 → Int32 → Int32 → (Nat → Int32) → (Nat → Int32) → Option (Int32 × (Nat → Int32) × (Nat → Int32))
  | 0 => fun _ _ _ _ _ => none
  | n + 1 => fun x1 x2 x3 M_system M_solved => f_Mo_solves_9_b M_logarithms M_powers kh2 (f_Mo_solves_9 M_logarithms M_powers kh2 n) x1 x2 x3 M_system M_solved
def f_Mo_solves_2_b (M_logarithms : Nat → Int32) (M_powers : Nat → Int32) (kh2 : Int32 → Int32 → (Nat → Int32) → (Nat → Int32) → Option (Int32 × (Nat → Int32) × (Nat → Int32))) (x1 : Int32) (x2 : Int32) (M_system : Nat → Int32) (M_solved : Nat → Int32) : Option (Int32 × (Nat → Int32) × (Nat → Int32)) :=
  if x1 ≤ x2 then
    f_Mo_solves_271 x1 M_system M_solved
  else
  f_Mo_solves_9 M_logarithms M_powers kh2 10000 x1 x2 x2 M_system M_solved
def f_Mo_solves_2 (M_logarithms : Nat → Int32) (M_powers : Nat → Int32) : Nat → Int32 → Int32 → (Nat → Int32) → (Nat → Int32) → Option (Int32 × (Nat → Int32) × (Nat → Int32))
  | 0 => fun _ _ _ _ => none
  | n + 1 => fun x1 x2 M_system M_solved => f_Mo_solves_2_b M_logarithms M_powers (f_Mo_solves_2 M_logarithms M_powers n) x1 x2 M_system M_solved
def f_Mo_solves (M_system : Nat → Int32) (M_solved : Nat → Int32) (M_logarithms : Nat → Int32) (M_powers : Nat → Int32) (x1 : Int32) : Option (Int32 × (Nat → Int32) × (Nat → Int32)) :=
  f_Mo_solves_2 M_logarithms M_powers 10000 x1 (0 : Int32) M_system M_solved
set_option maxHeartbeats 4000000 in
set_option maxRecDepth 100000 in
theorem c_Mo_solves (l : Launch) (D : va_G) (cI cJ : ClassId) (tt : Nat → Nat) (qM qM_system qM_solved qM_logarithms qM_powers : Nat) (M_thrown M_depth M_fill M_half M_pattern M_craft M_begins M_firsts M_seconds M_forms M_elements M_mixer M_data M_waiting M_master M_counts M_line M_length M_sent M_state M_places M_least M_row M_rowSize M_differ M_blocks M_marks M_wrongs M_bytes M_rights M_tells M_lastMaster M_lastCounts M_word M_values M_wrong : Value) (sz : Nat) (M_system : Nat → Int32) (M_solved : Nat → Int32) (M_logarithms : Nat → Int32) (M_powers : Nat → Int32) (x1 : Int32) (rr : Int32) (M_system' : Nat → Int32) (M_solved' : Nat → Int32) (hm : f_Mo_solves M_system M_solved M_logarithms M_powers x1 = some (rr, M_system', M_solved')) : CTi l y_Mo_solves b_Mo_solves 8 (some .boolean) (RM 1 22) D cI cJ tt [.ref qM, .int x1] (w_Mo_solves cI cJ qM qM_system qM_solved qM_logarithms qM_powers M_thrown M_depth M_fill M_half M_pattern M_craft M_begins M_firsts M_seconds M_forms M_elements M_mixer M_data M_waiting M_master M_counts M_line M_length M_sent M_state M_places M_least M_row M_rowSize M_differ M_blocks M_marks M_wrongs M_bytes M_rights M_tells M_lastMaster M_lastCounts M_word M_values M_wrong M_system M_solved M_logarithms M_powers) (w_Mo_solves cI cJ qM qM_system qM_solved qM_logarithms qM_powers M_thrown M_depth M_fill M_half M_pattern M_craft M_begins M_firsts M_seconds M_forms M_elements M_mixer M_data M_waiting M_master M_counts M_line M_length M_sent M_state M_places M_least M_row M_rowSize M_differ M_blocks M_marks M_wrongs M_bytes M_rights M_tells M_lastMaster M_lastCounts M_word M_values M_wrong M_system' M_solved' M_logarithms M_powers) sz rr := by
  refine Met.ofW (cc := b_Mo_solves) (maxL := 8) (ret := (some .boolean)) (by decide) rfl ?_
  intro p e s m args below meth c s₁ B hml hv
  obtain ⟨hargs, hsz, hP, hK, hD0, hE⟩ := hv
  have hx := B.exec
  have hb := B.bytes
  have hr := B.returns
  have hts : ∀ w ∈ TB, w.before args s = true := z_mV s (atoms_spec (ws := WD y_Mo_solves b_Mo_solves 8 (some .boolean)) B.pre)
  have hown : s.vm.findClass "DeepChannelModel" = some m.cls := findClass_of_methodNamed B.named
  have hlocks := B.notSynchronized
  subst hsz
  have hD := hD0.self (sz := s.heap.size)
  generalize hAe : va_A (w_Mo_solves cI cJ qM qM_system qM_solved qM_logarithms qM_powers M_thrown M_depth M_fill M_half M_pattern M_craft M_begins M_firsts M_seconds M_forms M_elements M_mixer M_data M_waiting M_master M_counts M_line M_length M_sent M_state M_places M_least M_row M_rowSize M_differ M_blocks M_marks M_wrongs M_bytes M_rights M_tells M_lastMaster M_lastCounts M_word M_values M_wrong M_system M_solved M_logarithms M_powers) s.heap.size = A at hD hE ⊢
  have hA : ∀ q : Nat, s.heap.size ≤ q → A q := fun q h => by rw [← hAe]; exact Or.inr h
  have hS : va_S A s.heap s.heap [] := va_S.rf
  refine z_entry (vs := [.ref qM, .int x1]) hargs (Nat.le_of_ble_eq_true rfl) (fun ls hl => ?_)
  have hl : lv_has ls 8 [(0, .ref qM), (1, .int x1)] := hl
  show W p l e (RM 1 22) s m args below meth c s.heap [] 0 0 _ _
  refine z_qi (fun Q0 hQ => ?_)
  have F : CallFix p m c b_Mo_solves 8 s args TB "DeepChannelModel" := ⟨hx, hb, hml, hown, hts⟩
  have T273 : ∀ (n273 : Nat) (x1 : Int32) (x2 : Int32) (M_system : Nat → Int32) (M_solved : Nat → Int32), f_Mo_solves_273 n273 x1 x2 M_system M_solved = some (rr, M_system', M_solved') → ∀ (H : Heap) (locs : List Loc), va_P D classes (w_Mo_solves cI cJ qM qM_system qM_solved qM_logarithms qM_powers M_thrown M_depth M_fill M_half M_pattern M_craft M_begins M_firsts M_seconds M_forms M_elements M_mixer M_data M_waiting M_master M_counts M_line M_length M_sent M_state M_places M_least M_row M_rowSize M_differ M_blocks M_marks M_wrongs M_bytes M_rights M_tells M_lastMaster M_lastCounts M_word M_values M_wrong M_system M_solved M_logarithms M_powers) H → va_D A (w_Mo_solves cI cJ qM qM_system qM_solved qM_logarithms qM_powers M_thrown M_depth M_fill M_half M_pattern M_craft M_begins M_firsts M_seconds M_forms M_elements M_mixer M_data M_waiting M_master M_counts M_line M_length M_sent M_state M_places M_least M_row M_rowSize M_differ M_blocks M_marks M_wrongs M_bytes M_rights M_tells M_lastMaster M_lastCounts M_word M_values M_wrong M_system M_solved M_logarithms M_powers) → va_S A s.heap H locs → ∀ (ls : Array Slot), lv_has ls 8 [(0, .ref qM), (1, .int x1), (2, .int x2)] → W p l e (RM 1 22) s m args below meth c H locs 0 0 Q0 (F0 m 273 ls []) := by
    intro n273
    induction n273 with
    | zero => intro x1 x2 M_system M_solved hm; cases hm
    | succ n273 ih273 =>
      intro x1 x2 M_system M_solved hm H locs hP hD hS ls hl
      replace hm : f_Mo_solves_273_b (f_Mo_solves_273 n273) x1 x2 M_system M_solved = some (rr, M_system', M_solved') := hm
      unfold f_Mo_solves_273_b at hm
      refine lv_iload_n hx hb d_Mo_solves_273 rfl (lv_at hl 2 rfl) ?_
      refine lv_iload_n hx hb d_Mo_solves_274 rfl (lv_at hl 1 rfl) ?_
      refine z_if hm (lv_icmp_ge (tgt := 301) hx hb d_Mo_solves_275 (by decide)) (fun hm => ?_) (fun hm => ?_)
      · refine lv_iconst (v := (1 : Int32)) hx hb d_Mo_solves_301 (by decide) ?_
        obtain ⟨hz, hm⟩ := zb_el hm
        cases hm
        exact z_qo hQ (z_iretz hz hr hx hb hlocks hK hP hD hS d_Mo_solves_302)
      · refine lv_aload_n hx hb d_Mo_solves_278 rfl (lv_at hl 0 rfl) ?_
        refine va_get (D := D) (ci := 11) (v := .ref qM_solved) (C := "DeepChannelModel") (T := fT_Mo) (N := 40) hx hb hts u_Mo hown hK hP 0 rfl rfl 38 (by decide) (hts _ k_924) (fun _ h9 => h9) rfl d_Mo_solves_279 ?_
        refine lv_iload_n hx hb d_Mo_solves_282 rfl (lv_at hl 2 rfl) ?_
        refine lv_aload_n hx hb d_Mo_solves_283 rfl (lv_at hl 0 rfl) ?_
        refine va_get (D := D) (ci := 11) (v := .ref qM_system) (C := "DeepChannelModel") (T := fT_Mo) (N := 40) hx hb hts u_Mo hown hK hP 0 rfl rfl 37 (by decide) (hts _ k_923) (fun _ h9 => h9) rfl d_Mo_solves_284 ?_
        refine lv_bipush (v := (33 : Int32)) hx hb d_Mo_solves_287 (by decide) ?_
        refine lv_iload_n hx hb d_Mo_solves_289 rfl (lv_at hl 2 rfl) ?_
        refine lv_imul hx hb d_Mo_solves_290 ?_
        refine lv_iload_n hx hb d_Mo_solves_291 rfl (lv_at hl 1 rfl) ?_
        refine lv_iadd hx hb d_Mo_solves_292 ?_
        refine z_iald hm hx hb hK hP 1 rfl d_Mo_solves_293 (fun v1 hm => ?_)
        refine z_iast hm hx hb hK hP hD hS 2 rfl d_Mo_solves_294 (fun g2 hm H locs hP hD hS => ?_)
        have hP : va_P D classes (w_Mo_solves cI cJ qM qM_system qM_solved qM_logarithms qM_powers M_thrown M_depth M_fill M_half M_pattern M_craft M_begins M_firsts M_seconds M_forms M_elements M_mixer M_data M_waiting M_master M_counts M_line M_length M_sent M_state M_places M_least M_row M_rowSize M_differ M_blocks M_marks M_wrongs M_bytes M_rights M_tells M_lastMaster M_lastCounts M_word M_values M_wrong M_system g2 M_logarithms M_powers) H := hP
        have hD : va_D A (w_Mo_solves cI cJ qM qM_system qM_solved qM_logarithms qM_powers M_thrown M_depth M_fill M_half M_pattern M_craft M_begins M_firsts M_seconds M_forms M_elements M_mixer M_data M_waiting M_master M_counts M_line M_length M_sent M_state M_places M_least M_row M_rowSize M_differ M_blocks M_marks M_wrongs M_bytes M_rights M_tells M_lastMaster M_lastCounts M_word M_values M_wrong M_system g2 M_logarithms M_powers) := hD
        obtain ⟨v3, ev, hm⟩ := nm_el hm
        refine lv_iinc (v := v3) (lv' := [(2, .int v3), (0, .ref qM), (1, .int x1)]) hx hb d_Mo_solves_295 hl (k := 2) rfl (by rw [ev]; rfl) (by decide) rfl (fun ls hl => ?_)
        refine lv_goto (tgt := 273) hx hb d_Mo_solves_298 (by decide) ?_
        exact ih273 x1 v3 M_system g2 hm _ _ hP hD hS _ (lv_sub hl [1, 2, 0] rfl)
  have T271 : ∀ (x1 : Int32) (M_system : Nat → Int32) (M_solved : Nat → Int32), f_Mo_solves_271 x1 M_system M_solved = some (rr, M_system', M_solved') → ∀ (H : Heap) (locs : List Loc), va_P D classes (w_Mo_solves cI cJ qM qM_system qM_solved qM_logarithms qM_powers M_thrown M_depth M_fill M_half M_pattern M_craft M_begins M_firsts M_seconds M_forms M_elements M_mixer M_data M_waiting M_master M_counts M_line M_length M_sent M_state M_places M_least M_row M_rowSize M_differ M_blocks M_marks M_wrongs M_bytes M_rights M_tells M_lastMaster M_lastCounts M_word M_values M_wrong M_system M_solved M_logarithms M_powers) H → va_D A (w_Mo_solves cI cJ qM qM_system qM_solved qM_logarithms qM_powers M_thrown M_depth M_fill M_half M_pattern M_craft M_begins M_firsts M_seconds M_forms M_elements M_mixer M_data M_waiting M_master M_counts M_line M_length M_sent M_state M_places M_least M_row M_rowSize M_differ M_blocks M_marks M_wrongs M_bytes M_rights M_tells M_lastMaster M_lastCounts M_word M_values M_wrong M_system M_solved M_logarithms M_powers) → va_S A s.heap H locs → ∀ (ls : Array Slot), lv_has ls 8 [(0, .ref qM), (1, .int x1)] → W p l e (RM 1 22) s m args below meth c H locs 0 0 Q0 (F0 m 271 ls []) := by
    intro x1 M_system M_solved hm H locs hP hD hS ls hl
    unfold f_Mo_solves_271 at hm
    refine lv_iconst (v := (0 : Int32)) hx hb d_Mo_solves_271 (by decide) ?_
    refine lv_istore_n (lv' := [(2, .int (0 : Int32)), (0, .ref qM), (1, .int x1)]) hx hb d_Mo_solves_272 rfl hl (by decide) rfl (fun ls hl => ?_)
    exact T273 10000 x1 (0 : Int32) M_system M_solved hm _ _ hP hD hS _ (lv_sub hl [1, 2, 0] rfl)
  have T2 : ∀ (n2 : Nat) (x1 : Int32) (x2 : Int32) (M_system : Nat → Int32) (M_solved : Nat → Int32), f_Mo_solves_2 M_logarithms M_powers n2 x1 x2 M_system M_solved = some (rr, M_system', M_solved') → ∀ (H : Heap) (locs : List Loc), va_P D classes (w_Mo_solves cI cJ qM qM_system qM_solved qM_logarithms qM_powers M_thrown M_depth M_fill M_half M_pattern M_craft M_begins M_firsts M_seconds M_forms M_elements M_mixer M_data M_waiting M_master M_counts M_line M_length M_sent M_state M_places M_least M_row M_rowSize M_differ M_blocks M_marks M_wrongs M_bytes M_rights M_tells M_lastMaster M_lastCounts M_word M_values M_wrong M_system M_solved M_logarithms M_powers) H → va_D A (w_Mo_solves cI cJ qM qM_system qM_solved qM_logarithms qM_powers M_thrown M_depth M_fill M_half M_pattern M_craft M_begins M_firsts M_seconds M_forms M_elements M_mixer M_data M_waiting M_master M_counts M_line M_length M_sent M_state M_places M_least M_row M_rowSize M_differ M_blocks M_marks M_wrongs M_bytes M_rights M_tells M_lastMaster M_lastCounts M_word M_values M_wrong M_system M_solved M_logarithms M_powers) → va_S A s.heap H locs → ∀ (ls : Array Slot), lv_has ls 8 [(0, .ref qM), (1, .int x1), (2, .int x2)] → W p l e (RM 1 22) s m args below meth c H locs 0 0 Q0 (F0 m 2 ls []) := by
    intro n2
    induction n2 with
    | zero => intro x1 x2 M_system M_solved hm; cases hm
    | succ n2 ih2 =>
      have T265 : ∀ (x1 : Int32) (x2 : Int32) (M_system : Nat → Int32) (M_solved : Nat → Int32), f_Mo_solves_265 (f_Mo_solves_2 M_logarithms M_powers n2) x1 x2 M_system M_solved = some (rr, M_system', M_solved') → ∀ (H : Heap) (locs : List Loc), va_P D classes (w_Mo_solves cI cJ qM qM_system qM_solved qM_logarithms qM_powers M_thrown M_depth M_fill M_half M_pattern M_craft M_begins M_firsts M_seconds M_forms M_elements M_mixer M_data M_waiting M_master M_counts M_line M_length M_sent M_state M_places M_least M_row M_rowSize M_differ M_blocks M_marks M_wrongs M_bytes M_rights M_tells M_lastMaster M_lastCounts M_word M_values M_wrong M_system M_solved M_logarithms M_powers) H → va_D A (w_Mo_solves cI cJ qM qM_system qM_solved qM_logarithms qM_powers M_thrown M_depth M_fill M_half M_pattern M_craft M_begins M_firsts M_seconds M_forms M_elements M_mixer M_data M_waiting M_master M_counts M_line M_length M_sent M_state M_places M_least M_row M_rowSize M_differ M_blocks M_marks M_wrongs M_bytes M_rights M_tells M_lastMaster M_lastCounts M_word M_values M_wrong M_system M_solved M_logarithms M_powers) → va_S A s.heap H locs → ∀ (ls : Array Slot), lv_has ls 8 [(0, .ref qM), (1, .int x1), (2, .int x2)] → W p l e (RM 1 22) s m args below meth c H locs 0 0 Q0 (F0 m 265 ls []) := by
        intro x1 x2 M_system M_solved hm H locs hP hD hS ls hl
        unfold f_Mo_solves_265 at hm
        obtain ⟨v4, ev, hm⟩ := nm_el hm
        refine lv_iinc (v := v4) (lv' := [(2, .int v4), (0, .ref qM), (1, .int x1)]) hx hb d_Mo_solves_265 hl (k := 2) rfl (by rw [ev]; rfl) (by decide) rfl (fun ls hl => ?_)
        refine lv_goto (tgt := 2) hx hb d_Mo_solves_268 (by decide) ?_
        exact ih2 x1 v4 M_system M_solved hm _ _ hP hD hS _ (lv_sub hl [1, 2, 0] rfl)
      have T173 : ∀ (n173 : Nat) (x1 : Int32) (x2 : Int32) (x5 : Int32) (M_system : Nat → Int32) (M_solved : Nat → Int32), f_Mo_solves_173 M_logarithms M_powers (f_Mo_solves_2 M_logarithms M_powers n2) n173 x1 x2 x5 M_system M_solved = some (rr, M_system', M_solved') → ∀ (H : Heap) (locs : List Loc), va_P D classes (w_Mo_solves cI cJ qM qM_system qM_solved qM_logarithms qM_powers M_thrown M_depth M_fill M_half M_pattern M_craft M_begins M_firsts M_seconds M_forms M_elements M_mixer M_data M_waiting M_master M_counts M_line M_length M_sent M_state M_places M_least M_row M_rowSize M_differ M_blocks M_marks M_wrongs M_bytes M_rights M_tells M_lastMaster M_lastCounts M_word M_values M_wrong M_system M_solved M_logarithms M_powers) H → va_D A (w_Mo_solves cI cJ qM qM_system qM_solved qM_logarithms qM_powers M_thrown M_depth M_fill M_half M_pattern M_craft M_begins M_firsts M_seconds M_forms M_elements M_mixer M_data M_waiting M_master M_counts M_line M_length M_sent M_state M_places M_least M_row M_rowSize M_differ M_blocks M_marks M_wrongs M_bytes M_rights M_tells M_lastMaster M_lastCounts M_word M_values M_wrong M_system M_solved M_logarithms M_powers) → va_S A s.heap H locs → ∀ (ls : Array Slot), lv_has ls 8 [(0, .ref qM), (1, .int x1), (2, .int x2), (5, .int x5)] → W p l e (RM 1 22) s m args below meth c H locs 0 0 Q0 (F0 m 173 ls []) := by
        intro n173
        induction n173 with
        | zero => intro x1 x2 x5 M_system M_solved hm; cases hm
        | succ n173 ih173 =>
          have T259 : ∀ (x1 : Int32) (x2 : Int32) (x5 : Int32) (M_system : Nat → Int32) (M_solved : Nat → Int32), f_Mo_solves_259 (f_Mo_solves_173 M_logarithms M_powers (f_Mo_solves_2 M_logarithms M_powers n2) n173) x1 x2 x5 M_system M_solved = some (rr, M_system', M_solved') → ∀ (H : Heap) (locs : List Loc), va_P D classes (w_Mo_solves cI cJ qM qM_system qM_solved qM_logarithms qM_powers M_thrown M_depth M_fill M_half M_pattern M_craft M_begins M_firsts M_seconds M_forms M_elements M_mixer M_data M_waiting M_master M_counts M_line M_length M_sent M_state M_places M_least M_row M_rowSize M_differ M_blocks M_marks M_wrongs M_bytes M_rights M_tells M_lastMaster M_lastCounts M_word M_values M_wrong M_system M_solved M_logarithms M_powers) H → va_D A (w_Mo_solves cI cJ qM qM_system qM_solved qM_logarithms qM_powers M_thrown M_depth M_fill M_half M_pattern M_craft M_begins M_firsts M_seconds M_forms M_elements M_mixer M_data M_waiting M_master M_counts M_line M_length M_sent M_state M_places M_least M_row M_rowSize M_differ M_blocks M_marks M_wrongs M_bytes M_rights M_tells M_lastMaster M_lastCounts M_word M_values M_wrong M_system M_solved M_logarithms M_powers) → va_S A s.heap H locs → ∀ (ls : Array Slot), lv_has ls 8 [(0, .ref qM), (1, .int x1), (2, .int x2), (5, .int x5)] → W p l e (RM 1 22) s m args below meth c H locs 0 0 Q0 (F0 m 259 ls []) := by
            intro x1 x2 x5 M_system M_solved hm H locs hP hD hS ls hl
            unfold f_Mo_solves_259 at hm
            obtain ⟨v5, ev, hm⟩ := nm_el hm
            refine lv_iinc (v := v5) (lv' := [(5, .int v5), (0, .ref qM), (1, .int x1), (2, .int x2)]) hx hb d_Mo_solves_259 hl (k := 3) rfl (by rw [ev]; rfl) (by decide) rfl (fun ls hl => ?_)
            refine lv_goto (tgt := 173) hx hb d_Mo_solves_262 (by decide) ?_
            exact ih173 x1 x2 v5 M_system M_solved hm _ _ hP hD hS _ (lv_sub hl [1, 2, 3, 0] rfl)
          have T196 : ∀ (n196 : Nat) (x1 : Int32) (x2 : Int32) (x5 : Int32) (x6 : Int32) (x7 : Int32) (M_system : Nat → Int32) (M_solved : Nat → Int32), f_Mo_solves_196 M_logarithms M_powers (f_Mo_solves_173 M_logarithms M_powers (f_Mo_solves_2 M_logarithms M_powers n2) n173) n196 x1 x2 x5 x6 x7 M_system M_solved = some (rr, M_system', M_solved') → ∀ (H : Heap) (locs : List Loc), va_P D classes (w_Mo_solves cI cJ qM qM_system qM_solved qM_logarithms qM_powers M_thrown M_depth M_fill M_half M_pattern M_craft M_begins M_firsts M_seconds M_forms M_elements M_mixer M_data M_waiting M_master M_counts M_line M_length M_sent M_state M_places M_least M_row M_rowSize M_differ M_blocks M_marks M_wrongs M_bytes M_rights M_tells M_lastMaster M_lastCounts M_word M_values M_wrong M_system M_solved M_logarithms M_powers) H → va_D A (w_Mo_solves cI cJ qM qM_system qM_solved qM_logarithms qM_powers M_thrown M_depth M_fill M_half M_pattern M_craft M_begins M_firsts M_seconds M_forms M_elements M_mixer M_data M_waiting M_master M_counts M_line M_length M_sent M_state M_places M_least M_row M_rowSize M_differ M_blocks M_marks M_wrongs M_bytes M_rights M_tells M_lastMaster M_lastCounts M_word M_values M_wrong M_system M_solved M_logarithms M_powers) → va_S A s.heap H locs → ∀ (ls : Array Slot), lv_has ls 8 [(0, .ref qM), (1, .int x1), (2, .int x2), (5, .int x5), (6, .int x6), (7, .int x7)] → W p l e (RM 1 22) s m args below meth c H locs 0 0 Q0 (F0 m 196 ls []) := by
            intro n196
            induction n196 with
            | zero => intro x1 x2 x5 x6 x7 M_system M_solved hm; cases hm
            | succ n196 ih196 =>
              intro x1 x2 x5 x6 x7 M_system M_solved hm H locs hP hD hS ls hl
              replace hm : f_Mo_solves_196_b M_logarithms M_powers (f_Mo_solves_173 M_logarithms M_powers (f_Mo_solves_2 M_logarithms M_powers n2) n173) (f_Mo_solves_196 M_logarithms M_powers (f_Mo_solves_173 M_logarithms M_powers (f_Mo_solves_2 M_logarithms M_powers n2) n173) n196) x1 x2 x5 x6 x7 M_system M_solved = some (rr, M_system', M_solved') := hm
              unfold f_Mo_solves_196_b at hm
              refine lv_iload hx hb d_Mo_solves_196 (lv_at hl 5 rfl) ?_
              refine lv_iload_n hx hb d_Mo_solves_198 rfl (lv_at hl 1 rfl) ?_
              refine z_if hm (lv_icmp_gt (tgt := 259) hx hb d_Mo_solves_199 (by decide)) (fun hm => ?_) (fun hm => ?_)
              · exact T259 x1 x2 x5 M_system M_solved hm _ _ hP hD hS _ (lv_sub hl [0, 1, 2, 3] rfl)
              · refine lv_iload hx hb d_Mo_solves_202 (lv_at hl 3 rfl) ?_
                refine lv_iload_n hx hb d_Mo_solves_204 rfl (lv_at hl 2 rfl) ?_
                refine z_if hm (lv_icmp_eq (tgt := 259) hx hb d_Mo_solves_205 (by decide)) (fun hm => ?_) (fun hm => ?_)
                · exact T259 x1 x2 x5 M_system M_solved hm _ _ hP hD hS _ (lv_sub hl [0, 1, 2, 3] rfl)
                · refine lv_aload_n hx hb d_Mo_solves_208 rfl (lv_at hl 0 rfl) ?_
                  refine va_get (D := D) (ci := 11) (v := .ref qM_system) (C := "DeepChannelModel") (T := fT_Mo) (N := 40) hx hb hts u_Mo hown hK hP 0 rfl rfl 37 (by decide) (hts _ k_923) (fun _ h9 => h9) rfl d_Mo_solves_209 ?_
                  refine lv_bipush (v := (33 : Int32)) hx hb d_Mo_solves_212 (by decide) ?_
                  refine lv_iload hx hb d_Mo_solves_214 (lv_at hl 3 rfl) ?_
                  refine lv_imul hx hb d_Mo_solves_216 ?_
                  refine lv_iload hx hb d_Mo_solves_217 (lv_at hl 5 rfl) ?_
                  refine lv_iadd hx hb d_Mo_solves_219 ?_
                  refine lv_aload_n hx hb d_Mo_solves_220 rfl (lv_at hl 0 rfl) ?_
                  refine va_get (D := D) (ci := 11) (v := .ref qM_system) (C := "DeepChannelModel") (T := fT_Mo) (N := 40) hx hb hts u_Mo hown hK hP 0 rfl rfl 37 (by decide) (hts _ k_923) (fun _ h9 => h9) rfl d_Mo_solves_221 ?_
                  refine lv_bipush (v := (33 : Int32)) hx hb d_Mo_solves_224 (by decide) ?_
                  refine lv_iload hx hb d_Mo_solves_226 (lv_at hl 3 rfl) ?_
                  refine lv_imul hx hb d_Mo_solves_228 ?_
                  refine lv_iload hx hb d_Mo_solves_229 (lv_at hl 5 rfl) ?_
                  refine lv_iadd hx hb d_Mo_solves_231 ?_
                  refine z_iald hm hx hb hK hP 1 rfl d_Mo_solves_232 (fun v6 hm => ?_)
                  refine lv_aload_n hx hb d_Mo_solves_233 rfl (lv_at hl 0 rfl) ?_
                  refine lv_iload hx hb d_Mo_solves_234 (lv_at hl 4 rfl) ?_
                  refine lv_aload_n hx hb d_Mo_solves_236 rfl (lv_at hl 0 rfl) ?_
                  refine va_get (D := D) (ci := 11) (v := .ref qM_system) (C := "DeepChannelModel") (T := fT_Mo) (N := 40) hx hb hts u_Mo hown hK hP 0 rfl rfl 37 (by decide) (hts _ k_923) (fun _ h9 => h9) rfl d_Mo_solves_237 ?_
                  refine lv_bipush (v := (33 : Int32)) hx hb d_Mo_solves_240 (by decide) ?_
                  refine lv_iload_n hx hb d_Mo_solves_242 rfl (lv_at hl 2 rfl) ?_
                  refine lv_imul hx hb d_Mo_solves_243 ?_
                  refine lv_iload hx hb d_Mo_solves_244 (lv_at hl 5 rfl) ?_
                  refine lv_iadd hx hb d_Mo_solves_246 ?_
                  refine z_iald hm hx hb hK hP 1 rfl d_Mo_solves_247 (fun v7 hm => ?_)
                  obtain ⟨r8, hu, hm⟩ := bd_el hm
                  replace hm := nm_1 hm
                  refine z_cVi (wc := w_Mo_product cI cJ qM qM_logarithms qM_powers M_thrown M_depth M_fill M_half M_pattern M_craft M_begins M_firsts M_seconds M_forms M_elements M_mixer M_data M_waiting M_master M_counts M_line M_length M_sent M_state M_places M_least M_row M_rowSize M_differ M_blocks M_marks M_wrongs M_bytes M_rights M_tells M_lastMaster M_lastCounts M_word M_values (.ref qM_system) (.ref qM_solved) M_wrong M_logarithms M_powers) (wc' := w_Mo_product cI cJ qM qM_logarithms qM_powers M_thrown M_depth M_fill M_half M_pattern M_craft M_begins M_firsts M_seconds M_forms M_elements M_mixer M_data M_waiting M_master M_counts M_line M_length M_sent M_state M_places M_least M_row M_rowSize M_differ M_blocks M_marks M_wrongs M_bytes M_rights M_tells M_lastMaster M_lastCounts M_word M_values (.ref qM_system) (.ref qM_solved) M_wrong M_logarithms M_powers) (wr := [(qM_system, .inl (cI, 1056, .inl M_system)), (qM_solved, .inl (cI, 32, .inl M_solved))]) (As := [.int x6, .int v7]) (rest := [.int v6, .int (((33 : Int32) * x5) + x7), .ref qM_system]) (c_Mo_product l D cI cJ tt qM qM_logarithms qM_powers M_thrown M_depth M_fill M_half M_pattern M_craft M_begins M_firsts M_seconds M_forms M_elements M_mixer M_data M_waiting M_master M_counts M_line M_length M_sent M_state M_places M_least M_row M_rowSize M_differ M_blocks M_marks M_wrongs M_bytes M_rights M_tells M_lastMaster M_lastCounts M_word M_values (.ref qM_system) (.ref qM_solved) M_wrong _ M_logarithms M_powers x6 v7 r8 hu) F ok_Mo_product rfl k_1090 hK hE hP hD hS hA [0, 3, 4] [1, 2] rfl rfl (by decide) (by decide) (by decide) 0 rfl rfl rfl ⟨rfl, rfl, Nat.le_of_ble_eq_true rfl, Nat.le_of_ble_eq_true rfl⟩ ⟨Nat.zero_le _, Nat.zero_le _⟩ rfl hl.1 rfl (Nat.le_of_ble_eq_true rfl) d_Mo_solves_248 (fun H locs hP hD hS => ?_)
                  have hP : va_P D classes (w_Mo_solves cI cJ qM qM_system qM_solved qM_logarithms qM_powers M_thrown M_depth M_fill M_half M_pattern M_craft M_begins M_firsts M_seconds M_forms M_elements M_mixer M_data M_waiting M_master M_counts M_line M_length M_sent M_state M_places M_least M_row M_rowSize M_differ M_blocks M_marks M_wrongs M_bytes M_rights M_tells M_lastMaster M_lastCounts M_word M_values M_wrong M_system M_solved M_logarithms M_powers) H := hP.sub [2, 0, 1, 3, 4] rfl
                  have hD : va_D A (w_Mo_solves cI cJ qM qM_system qM_solved qM_logarithms qM_powers M_thrown M_depth M_fill M_half M_pattern M_craft M_begins M_firsts M_seconds M_forms M_elements M_mixer M_data M_waiting M_master M_counts M_line M_length M_sent M_state M_places M_least M_row M_rowSize M_differ M_blocks M_marks M_wrongs M_bytes M_rights M_tells M_lastMaster M_lastCounts M_word M_values M_wrong M_system M_solved M_logarithms M_powers) := hD.sub [2, 0, 1, 3, 4] (by decide) rfl
                  refine lv_ixor hx hb d_Mo_solves_251 ?_
                  refine z_iast hm hx hb hK hP hD hS 1 rfl d_Mo_solves_252 (fun g10 hm H locs hP hD hS => ?_)
                  have hP : va_P D classes (w_Mo_solves cI cJ qM qM_system qM_solved qM_logarithms qM_powers M_thrown M_depth M_fill M_half M_pattern M_craft M_begins M_firsts M_seconds M_forms M_elements M_mixer M_data M_waiting M_master M_counts M_line M_length M_sent M_state M_places M_least M_row M_rowSize M_differ M_blocks M_marks M_wrongs M_bytes M_rights M_tells M_lastMaster M_lastCounts M_word M_values M_wrong g10 M_solved M_logarithms M_powers) H := hP
                  have hD : va_D A (w_Mo_solves cI cJ qM qM_system qM_solved qM_logarithms qM_powers M_thrown M_depth M_fill M_half M_pattern M_craft M_begins M_firsts M_seconds M_forms M_elements M_mixer M_data M_waiting M_master M_counts M_line M_length M_sent M_state M_places M_least M_row M_rowSize M_differ M_blocks M_marks M_wrongs M_bytes M_rights M_tells M_lastMaster M_lastCounts M_word M_values M_wrong g10 M_solved M_logarithms M_powers) := hD
                  obtain ⟨v11, ev, hm⟩ := nm_el hm
                  refine lv_iinc (v := v11) (lv' := [(7, .int v11), (0, .ref qM), (1, .int x1), (2, .int x2), (5, .int x5), (6, .int x6)]) hx hb d_Mo_solves_253 hl (k := 5) rfl (by rw [ev]; rfl) (by decide) rfl (fun ls hl => ?_)
                  refine lv_goto (tgt := 196) hx hb d_Mo_solves_256 (by decide) ?_
                  exact ih196 x1 x2 x5 x6 v11 g10 M_solved hm _ _ hP hD hS _ (lv_sub hl [1, 2, 3, 4, 5, 0] rfl)
          intro x1 x2 x5 M_system M_solved hm H locs hP hD hS ls hl
          replace hm : f_Mo_solves_173_b M_logarithms M_powers (f_Mo_solves_2 M_logarithms M_powers n2) (f_Mo_solves_173 M_logarithms M_powers (f_Mo_solves_2 M_logarithms M_powers n2) n173) x1 x2 x5 M_system M_solved = some (rr, M_system', M_solved') := hm
          unfold f_Mo_solves_173_b at hm
          refine lv_iload hx hb d_Mo_solves_173 (lv_at hl 3 rfl) ?_
          refine lv_iload_n hx hb d_Mo_solves_175 rfl (lv_at hl 1 rfl) ?_
          refine z_if hm (lv_icmp_ge (tgt := 265) hx hb d_Mo_solves_176 (by decide)) (fun hm => ?_) (fun hm => ?_)
          · exact T265 x1 x2 M_system M_solved hm _ _ hP hD hS _ (lv_sub hl [0, 1, 2] rfl)
          · refine lv_aload_n hx hb d_Mo_solves_179 rfl (lv_at hl 0 rfl) ?_
            refine va_get (D := D) (ci := 11) (v := .ref qM_system) (C := "DeepChannelModel") (T := fT_Mo) (N := 40) hx hb hts u_Mo hown hK hP 0 rfl rfl 37 (by decide) (hts _ k_923) (fun _ h9 => h9) rfl d_Mo_solves_180 ?_
            refine lv_bipush (v := (33 : Int32)) hx hb d_Mo_solves_183 (by decide) ?_
            refine lv_iload hx hb d_Mo_solves_185 (lv_at hl 3 rfl) ?_
            refine lv_imul hx hb d_Mo_solves_187 ?_
            refine lv_iload_n hx hb d_Mo_solves_188 rfl (lv_at hl 2 rfl) ?_
            refine lv_iadd hx hb d_Mo_solves_189 ?_
            refine z_iald hm hx hb hK hP 1 rfl d_Mo_solves_190 (fun v12 hm => ?_)
            refine lv_istore (lv' := [(6, .int v12), (0, .ref qM), (1, .int x1), (2, .int x2), (5, .int x5)]) hx hb d_Mo_solves_191 hl (by decide) rfl (fun ls hl => ?_)
            refine lv_iconst (v := (0 : Int32)) hx hb d_Mo_solves_193 (by decide) ?_
            refine lv_istore (lv' := [(7, .int (0 : Int32)), (6, .int v12), (0, .ref qM), (1, .int x1), (2, .int x2), (5, .int x5)]) hx hb d_Mo_solves_194 hl (by decide) rfl (fun ls hl => ?_)
            exact T196 10000 x1 x2 x5 v12 (0 : Int32) M_system M_solved hm _ _ hP hD hS _ (lv_sub hl [2, 3, 4, 5, 1, 0] rfl)
      have T170 : ∀ (x1 : Int32) (x2 : Int32) (M_system : Nat → Int32) (M_solved : Nat → Int32), f_Mo_solves_170 M_logarithms M_powers (f_Mo_solves_2 M_logarithms M_powers n2) x1 x2 M_system M_solved = some (rr, M_system', M_solved') → ∀ (H : Heap) (locs : List Loc), va_P D classes (w_Mo_solves cI cJ qM qM_system qM_solved qM_logarithms qM_powers M_thrown M_depth M_fill M_half M_pattern M_craft M_begins M_firsts M_seconds M_forms M_elements M_mixer M_data M_waiting M_master M_counts M_line M_length M_sent M_state M_places M_least M_row M_rowSize M_differ M_blocks M_marks M_wrongs M_bytes M_rights M_tells M_lastMaster M_lastCounts M_word M_values M_wrong M_system M_solved M_logarithms M_powers) H → va_D A (w_Mo_solves cI cJ qM qM_system qM_solved qM_logarithms qM_powers M_thrown M_depth M_fill M_half M_pattern M_craft M_begins M_firsts M_seconds M_forms M_elements M_mixer M_data M_waiting M_master M_counts M_line M_length M_sent M_state M_places M_least M_row M_rowSize M_differ M_blocks M_marks M_wrongs M_bytes M_rights M_tells M_lastMaster M_lastCounts M_word M_values M_wrong M_system M_solved M_logarithms M_powers) → va_S A s.heap H locs → ∀ (ls : Array Slot), lv_has ls 8 [(0, .ref qM), (1, .int x1), (2, .int x2)] → W p l e (RM 1 22) s m args below meth c H locs 0 0 Q0 (F0 m 170 ls []) := by
        intro x1 x2 M_system M_solved hm H locs hP hD hS ls hl
        unfold f_Mo_solves_170 at hm
        refine lv_iconst (v := (0 : Int32)) hx hb d_Mo_solves_170 (by decide) ?_
        refine lv_istore (lv' := [(5, .int (0 : Int32)), (0, .ref qM), (1, .int x1), (2, .int x2)]) hx hb d_Mo_solves_171 hl (by decide) rfl (fun ls hl => ?_)
        exact T173 10000 x1 x2 (0 : Int32) M_system M_solved hm _ _ hP hD hS _ (lv_sub hl [1, 2, 3, 0] rfl)
      have T128 : ∀ (n128 : Nat) (x1 : Int32) (x2 : Int32) (x4 : Int32) (x5 : Int32) (M_system : Nat → Int32) (M_solved : Nat → Int32), f_Mo_solves_128 M_logarithms M_powers (f_Mo_solves_2 M_logarithms M_powers n2) n128 x1 x2 x4 x5 M_system M_solved = some (rr, M_system', M_solved') → ∀ (H : Heap) (locs : List Loc), va_P D classes (w_Mo_solves cI cJ qM qM_system qM_solved qM_logarithms qM_powers M_thrown M_depth M_fill M_half M_pattern M_craft M_begins M_firsts M_seconds M_forms M_elements M_mixer M_data M_waiting M_master M_counts M_line M_length M_sent M_state M_places M_least M_row M_rowSize M_differ M_blocks M_marks M_wrongs M_bytes M_rights M_tells M_lastMaster M_lastCounts M_word M_values M_wrong M_system M_solved M_logarithms M_powers) H → va_D A (w_Mo_solves cI cJ qM qM_system qM_solved qM_logarithms qM_powers M_thrown M_depth M_fill M_half M_pattern M_craft M_begins M_firsts M_seconds M_forms M_elements M_mixer M_data M_waiting M_master M_counts M_line M_length M_sent M_state M_places M_least M_row M_rowSize M_differ M_blocks M_marks M_wrongs M_bytes M_rights M_tells M_lastMaster M_lastCounts M_word M_values M_wrong M_system M_solved M_logarithms M_powers) → va_S A s.heap H locs → ∀ (ls : Array Slot), lv_has ls 8 [(0, .ref qM), (1, .int x1), (2, .int x2), (4, .int x4), (5, .int x5)] → W p l e (RM 1 22) s m args below meth c H locs 0 0 Q0 (F0 m 128 ls []) := by
        intro n128
        induction n128 with
        | zero => intro x1 x2 x4 x5 M_system M_solved hm; cases hm
        | succ n128 ih128 =>
          intro x1 x2 x4 x5 M_system M_solved hm H locs hP hD hS ls hl
          replace hm : f_Mo_solves_128_b M_logarithms M_powers (f_Mo_solves_2 M_logarithms M_powers n2) (f_Mo_solves_128 M_logarithms M_powers (f_Mo_solves_2 M_logarithms M_powers n2) n128) x1 x2 x4 x5 M_system M_solved = some (rr, M_system', M_solved') := hm
          unfold f_Mo_solves_128_b at hm
          refine lv_iload hx hb d_Mo_solves_128 (lv_at hl 4 rfl) ?_
          refine lv_iload_n hx hb d_Mo_solves_130 rfl (lv_at hl 1 rfl) ?_
          refine z_if hm (lv_icmp_gt (tgt := 170) hx hb d_Mo_solves_131 (by decide)) (fun hm => ?_) (fun hm => ?_)
          · exact T170 x1 x2 M_system M_solved hm _ _ hP hD hS _ (lv_sub hl [0, 1, 2] rfl)
          · refine lv_aload_n hx hb d_Mo_solves_134 rfl (lv_at hl 0 rfl) ?_
            refine va_get (D := D) (ci := 11) (v := .ref qM_system) (C := "DeepChannelModel") (T := fT_Mo) (N := 40) hx hb hts u_Mo hown hK hP 0 rfl rfl 37 (by decide) (hts _ k_923) (fun _ h9 => h9) rfl d_Mo_solves_135 ?_
            refine lv_bipush (v := (33 : Int32)) hx hb d_Mo_solves_138 (by decide) ?_
            refine lv_iload_n hx hb d_Mo_solves_140 rfl (lv_at hl 2 rfl) ?_
            refine lv_imul hx hb d_Mo_solves_141 ?_
            refine lv_iload hx hb d_Mo_solves_142 (lv_at hl 4 rfl) ?_
            refine lv_iadd hx hb d_Mo_solves_144 ?_
            refine lv_aload_n hx hb d_Mo_solves_145 rfl (lv_at hl 0 rfl) ?_
            refine lv_aload_n hx hb d_Mo_solves_146 rfl (lv_at hl 0 rfl) ?_
            refine va_get (D := D) (ci := 11) (v := .ref qM_system) (C := "DeepChannelModel") (T := fT_Mo) (N := 40) hx hb hts u_Mo hown hK hP 0 rfl rfl 37 (by decide) (hts _ k_923) (fun _ h9 => h9) rfl d_Mo_solves_147 ?_
            refine lv_bipush (v := (33 : Int32)) hx hb d_Mo_solves_150 (by decide) ?_
            refine lv_iload_n hx hb d_Mo_solves_152 rfl (lv_at hl 2 rfl) ?_
            refine lv_imul hx hb d_Mo_solves_153 ?_
            refine lv_iload hx hb d_Mo_solves_154 (lv_at hl 4 rfl) ?_
            refine lv_iadd hx hb d_Mo_solves_156 ?_
            refine z_iald hm hx hb hK hP 1 rfl d_Mo_solves_157 (fun v13 hm => ?_)
            refine lv_iload hx hb d_Mo_solves_158 (lv_at hl 3 rfl) ?_
            obtain ⟨r14, hu, hm⟩ := bd_el hm
            replace hm := nm_1 hm
            refine z_cVi (wc := w_Mo_product cI cJ qM qM_logarithms qM_powers M_thrown M_depth M_fill M_half M_pattern M_craft M_begins M_firsts M_seconds M_forms M_elements M_mixer M_data M_waiting M_master M_counts M_line M_length M_sent M_state M_places M_least M_row M_rowSize M_differ M_blocks M_marks M_wrongs M_bytes M_rights M_tells M_lastMaster M_lastCounts M_word M_values (.ref qM_system) (.ref qM_solved) M_wrong M_logarithms M_powers) (wc' := w_Mo_product cI cJ qM qM_logarithms qM_powers M_thrown M_depth M_fill M_half M_pattern M_craft M_begins M_firsts M_seconds M_forms M_elements M_mixer M_data M_waiting M_master M_counts M_line M_length M_sent M_state M_places M_least M_row M_rowSize M_differ M_blocks M_marks M_wrongs M_bytes M_rights M_tells M_lastMaster M_lastCounts M_word M_values (.ref qM_system) (.ref qM_solved) M_wrong M_logarithms M_powers) (wr := [(qM_system, .inl (cI, 1056, .inl M_system)), (qM_solved, .inl (cI, 32, .inl M_solved))]) (As := [.int v13, .int x4]) (rest := [.int (((33 : Int32) * x2) + x5), .ref qM_system]) (c_Mo_product l D cI cJ tt qM qM_logarithms qM_powers M_thrown M_depth M_fill M_half M_pattern M_craft M_begins M_firsts M_seconds M_forms M_elements M_mixer M_data M_waiting M_master M_counts M_line M_length M_sent M_state M_places M_least M_row M_rowSize M_differ M_blocks M_marks M_wrongs M_bytes M_rights M_tells M_lastMaster M_lastCounts M_word M_values (.ref qM_system) (.ref qM_solved) M_wrong _ M_logarithms M_powers v13 x4 r14 hu) F ok_Mo_product rfl k_1090 hK hE hP hD hS hA [0, 3, 4] [1, 2] rfl rfl (by decide) (by decide) (by decide) 0 rfl rfl rfl ⟨rfl, rfl, Nat.le_of_ble_eq_true rfl, Nat.le_of_ble_eq_true rfl⟩ ⟨Nat.zero_le _, Nat.zero_le _⟩ rfl hl.1 rfl (Nat.le_of_ble_eq_true rfl) d_Mo_solves_160 (fun H locs hP hD hS => ?_)
            have hP : va_P D classes (w_Mo_solves cI cJ qM qM_system qM_solved qM_logarithms qM_powers M_thrown M_depth M_fill M_half M_pattern M_craft M_begins M_firsts M_seconds M_forms M_elements M_mixer M_data M_waiting M_master M_counts M_line M_length M_sent M_state M_places M_least M_row M_rowSize M_differ M_blocks M_marks M_wrongs M_bytes M_rights M_tells M_lastMaster M_lastCounts M_word M_values M_wrong M_system M_solved M_logarithms M_powers) H := hP.sub [2, 0, 1, 3, 4] rfl
            have hD : va_D A (w_Mo_solves cI cJ qM qM_system qM_solved qM_logarithms qM_powers M_thrown M_depth M_fill M_half M_pattern M_craft M_begins M_firsts M_seconds M_forms M_elements M_mixer M_data M_waiting M_master M_counts M_line M_length M_sent M_state M_places M_least M_row M_rowSize M_differ M_blocks M_marks M_wrongs M_bytes M_rights M_tells M_lastMaster M_lastCounts M_word M_values M_wrong M_system M_solved M_logarithms M_powers) := hD.sub [2, 0, 1, 3, 4] (by decide) rfl
            refine z_iast hm hx hb hK hP hD hS 1 rfl d_Mo_solves_163 (fun g16 hm H locs hP hD hS => ?_)
            have hP : va_P D classes (w_Mo_solves cI cJ qM qM_system qM_solved qM_logarithms qM_powers M_thrown M_depth M_fill M_half M_pattern M_craft M_begins M_firsts M_seconds M_forms M_elements M_mixer M_data M_waiting M_master M_counts M_line M_length M_sent M_state M_places M_least M_row M_rowSize M_differ M_blocks M_marks M_wrongs M_bytes M_rights M_tells M_lastMaster M_lastCounts M_word M_values M_wrong g16 M_solved M_logarithms M_powers) H := hP
            have hD : va_D A (w_Mo_solves cI cJ qM qM_system qM_solved qM_logarithms qM_powers M_thrown M_depth M_fill M_half M_pattern M_craft M_begins M_firsts M_seconds M_forms M_elements M_mixer M_data M_waiting M_master M_counts M_line M_length M_sent M_state M_places M_least M_row M_rowSize M_differ M_blocks M_marks M_wrongs M_bytes M_rights M_tells M_lastMaster M_lastCounts M_word M_values M_wrong g16 M_solved M_logarithms M_powers) := hD
            obtain ⟨v17, ev, hm⟩ := nm_el hm
            refine lv_iinc (v := v17) (lv' := [(5, .int v17), (0, .ref qM), (1, .int x1), (2, .int x2), (4, .int x4)]) hx hb d_Mo_solves_164 hl (k := 4) rfl (by rw [ev]; rfl) (by decide) rfl (fun ls hl => ?_)
            refine lv_goto (tgt := 128) hx hb d_Mo_solves_167 (by decide) ?_
            exact ih128 x1 x2 x4 v17 g16 M_solved hm _ _ hP hD hS _ (lv_sub hl [1, 2, 3, 4, 0] rfl)
      have T108 : ∀ (x1 : Int32) (x2 : Int32) (M_system : Nat → Int32) (M_solved : Nat → Int32), f_Mo_solves_108 M_logarithms M_powers (f_Mo_solves_2 M_logarithms M_powers n2) x1 x2 M_system M_solved = some (rr, M_system', M_solved') → ∀ (H : Heap) (locs : List Loc), va_P D classes (w_Mo_solves cI cJ qM qM_system qM_solved qM_logarithms qM_powers M_thrown M_depth M_fill M_half M_pattern M_craft M_begins M_firsts M_seconds M_forms M_elements M_mixer M_data M_waiting M_master M_counts M_line M_length M_sent M_state M_places M_least M_row M_rowSize M_differ M_blocks M_marks M_wrongs M_bytes M_rights M_tells M_lastMaster M_lastCounts M_word M_values M_wrong M_system M_solved M_logarithms M_powers) H → va_D A (w_Mo_solves cI cJ qM qM_system qM_solved qM_logarithms qM_powers M_thrown M_depth M_fill M_half M_pattern M_craft M_begins M_firsts M_seconds M_forms M_elements M_mixer M_data M_waiting M_master M_counts M_line M_length M_sent M_state M_places M_least M_row M_rowSize M_differ M_blocks M_marks M_wrongs M_bytes M_rights M_tells M_lastMaster M_lastCounts M_word M_values M_wrong M_system M_solved M_logarithms M_powers) → va_S A s.heap H locs → ∀ (ls : Array Slot), lv_has ls 8 [(0, .ref qM), (1, .int x1), (2, .int x2)] → W p l e (RM 1 22) s m args below meth c H locs 0 0 Q0 (F0 m 108 ls []) := by
        intro x1 x2 M_system M_solved hm H locs hP hD hS ls hl
        unfold f_Mo_solves_108 at hm
        refine lv_aload_n hx hb d_Mo_solves_108 rfl (lv_at hl 0 rfl) ?_
        refine lv_aload_n hx hb d_Mo_solves_109 rfl (lv_at hl 0 rfl) ?_
        refine va_get (D := D) (ci := 11) (v := .ref qM_system) (C := "DeepChannelModel") (T := fT_Mo) (N := 40) hx hb hts u_Mo hown hK hP 0 rfl rfl 37 (by decide) (hts _ k_923) (fun _ h9 => h9) rfl d_Mo_solves_110 ?_
        refine lv_bipush (v := (33 : Int32)) hx hb d_Mo_solves_113 (by decide) ?_
        refine lv_iload_n hx hb d_Mo_solves_115 rfl (lv_at hl 2 rfl) ?_
        refine lv_imul hx hb d_Mo_solves_116 ?_
        refine lv_iload_n hx hb d_Mo_solves_117 rfl (lv_at hl 2 rfl) ?_
        refine lv_iadd hx hb d_Mo_solves_118 ?_
        refine z_iald hm hx hb hK hP 1 rfl d_Mo_solves_119 (fun v18 hm => ?_)
        obtain ⟨r19, hu, hm⟩ := bd_el hm
        replace hm := nm_1 hm
        refine z_cVi (wc := w_Mo_inverse cI cJ qM qM_logarithms qM_powers M_thrown M_depth M_fill M_half M_pattern M_craft M_begins M_firsts M_seconds M_forms M_elements M_mixer M_data M_waiting M_master M_counts M_line M_length M_sent M_state M_places M_least M_row M_rowSize M_differ M_blocks M_marks M_wrongs M_bytes M_rights M_tells M_lastMaster M_lastCounts M_word M_values (.ref qM_system) (.ref qM_solved) M_wrong M_logarithms M_powers) (wc' := w_Mo_inverse cI cJ qM qM_logarithms qM_powers M_thrown M_depth M_fill M_half M_pattern M_craft M_begins M_firsts M_seconds M_forms M_elements M_mixer M_data M_waiting M_master M_counts M_line M_length M_sent M_state M_places M_least M_row M_rowSize M_differ M_blocks M_marks M_wrongs M_bytes M_rights M_tells M_lastMaster M_lastCounts M_word M_values (.ref qM_system) (.ref qM_solved) M_wrong M_logarithms M_powers) (wr := [(qM_system, .inl (cI, 1056, .inl M_system)), (qM_solved, .inl (cI, 32, .inl M_solved))]) (As := [.int v18]) (rest := []) (c_Mo_inverse l D cI cJ tt qM qM_logarithms qM_powers M_thrown M_depth M_fill M_half M_pattern M_craft M_begins M_firsts M_seconds M_forms M_elements M_mixer M_data M_waiting M_master M_counts M_line M_length M_sent M_state M_places M_least M_row M_rowSize M_differ M_blocks M_marks M_wrongs M_bytes M_rights M_tells M_lastMaster M_lastCounts M_word M_values (.ref qM_system) (.ref qM_solved) M_wrong _ M_logarithms M_powers v18 r19 hu) F ok_Mo_inverse rfl k_1098 hK hE hP hD hS hA [0, 3, 4] [1, 2] rfl rfl (by decide) (by decide) (by decide) 0 rfl rfl rfl ⟨rfl, rfl, Nat.le_of_ble_eq_true rfl, Nat.le_of_ble_eq_true rfl⟩ ⟨Nat.zero_le _, Nat.zero_le _⟩ rfl hl.1 rfl (Nat.le_of_ble_eq_true rfl) d_Mo_solves_120 (fun H locs hP hD hS => ?_)
        have hP : va_P D classes (w_Mo_solves cI cJ qM qM_system qM_solved qM_logarithms qM_powers M_thrown M_depth M_fill M_half M_pattern M_craft M_begins M_firsts M_seconds M_forms M_elements M_mixer M_data M_waiting M_master M_counts M_line M_length M_sent M_state M_places M_least M_row M_rowSize M_differ M_blocks M_marks M_wrongs M_bytes M_rights M_tells M_lastMaster M_lastCounts M_word M_values M_wrong M_system M_solved M_logarithms M_powers) H := hP.sub [2, 0, 1, 3, 4] rfl
        have hD : va_D A (w_Mo_solves cI cJ qM qM_system qM_solved qM_logarithms qM_powers M_thrown M_depth M_fill M_half M_pattern M_craft M_begins M_firsts M_seconds M_forms M_elements M_mixer M_data M_waiting M_master M_counts M_line M_length M_sent M_state M_places M_least M_row M_rowSize M_differ M_blocks M_marks M_wrongs M_bytes M_rights M_tells M_lastMaster M_lastCounts M_word M_values M_wrong M_system M_solved M_logarithms M_powers) := hD.sub [2, 0, 1, 3, 4] (by decide) rfl
        refine lv_istore (lv' := [(4, .int r19), (0, .ref qM), (1, .int x1), (2, .int x2)]) hx hb d_Mo_solves_123 hl (by decide) rfl (fun ls hl => ?_)
        refine lv_iconst (v := (0 : Int32)) hx hb d_Mo_solves_125 (by decide) ?_
        refine lv_istore (lv' := [(5, .int (0 : Int32)), (4, .int r19), (0, .ref qM), (1, .int x1), (2, .int x2)]) hx hb d_Mo_solves_126 hl (by decide) rfl (fun ls hl => ?_)
        exact T128 10000 x1 x2 r19 (0 : Int32) M_system M_solved hm _ _ hP hD hS _ (lv_sub hl [2, 3, 4, 1, 0] rfl)
      have T44 : ∀ (n44 : Nat) (x1 : Int32) (x2 : Int32) (x3 : Int32) (x4 : Int32) (M_system : Nat → Int32) (M_solved : Nat → Int32), f_Mo_solves_44 M_logarithms M_powers (f_Mo_solves_2 M_logarithms M_powers n2) n44 x1 x2 x3 x4 M_system M_solved = some (rr, M_system', M_solved') → ∀ (H : Heap) (locs : List Loc), va_P D classes (w_Mo_solves cI cJ qM qM_system qM_solved qM_logarithms qM_powers M_thrown M_depth M_fill M_half M_pattern M_craft M_begins M_firsts M_seconds M_forms M_elements M_mixer M_data M_waiting M_master M_counts M_line M_length M_sent M_state M_places M_least M_row M_rowSize M_differ M_blocks M_marks M_wrongs M_bytes M_rights M_tells M_lastMaster M_lastCounts M_word M_values M_wrong M_system M_solved M_logarithms M_powers) H → va_D A (w_Mo_solves cI cJ qM qM_system qM_solved qM_logarithms qM_powers M_thrown M_depth M_fill M_half M_pattern M_craft M_begins M_firsts M_seconds M_forms M_elements M_mixer M_data M_waiting M_master M_counts M_line M_length M_sent M_state M_places M_least M_row M_rowSize M_differ M_blocks M_marks M_wrongs M_bytes M_rights M_tells M_lastMaster M_lastCounts M_word M_values M_wrong M_system M_solved M_logarithms M_powers) → va_S A s.heap H locs → ∀ (ls : Array Slot), lv_has ls 8 [(0, .ref qM), (1, .int x1), (2, .int x2), (3, .int x3), (4, .int x4)] → W p l e (RM 1 22) s m args below meth c H locs 0 0 Q0 (F0 m 44 ls []) := by
        intro n44
        induction n44 with
        | zero => intro x1 x2 x3 x4 M_system M_solved hm; cases hm
        | succ n44 ih44 =>
          intro x1 x2 x3 x4 M_system M_solved hm H locs hP hD hS ls hl
          replace hm : f_Mo_solves_44_b M_logarithms M_powers (f_Mo_solves_2 M_logarithms M_powers n2) (f_Mo_solves_44 M_logarithms M_powers (f_Mo_solves_2 M_logarithms M_powers n2) n44) x1 x2 x3 x4 M_system M_solved = some (rr, M_system', M_solved') := hm
          unfold f_Mo_solves_44_b at hm
          refine lv_iload hx hb d_Mo_solves_44 (lv_at hl 4 rfl) ?_
          refine lv_iload_n hx hb d_Mo_solves_46 rfl (lv_at hl 1 rfl) ?_
          refine z_if hm (lv_icmp_gt (tgt := 108) hx hb d_Mo_solves_47 (by decide)) (fun hm => ?_) (fun hm => ?_)
          · exact T108 x1 x2 M_system M_solved hm _ _ hP hD hS _ (lv_sub hl [0, 1, 2] rfl)
          · refine lv_aload_n hx hb d_Mo_solves_50 rfl (lv_at hl 0 rfl) ?_
            refine va_get (D := D) (ci := 11) (v := .ref qM_system) (C := "DeepChannelModel") (T := fT_Mo) (N := 40) hx hb hts u_Mo hown hK hP 0 rfl rfl 37 (by decide) (hts _ k_923) (fun _ h9 => h9) rfl d_Mo_solves_51 ?_
            refine lv_bipush (v := (33 : Int32)) hx hb d_Mo_solves_54 (by decide) ?_
            refine lv_iload_n hx hb d_Mo_solves_56 rfl (lv_at hl 3 rfl) ?_
            refine lv_imul hx hb d_Mo_solves_57 ?_
            refine lv_iload hx hb d_Mo_solves_58 (lv_at hl 4 rfl) ?_
            refine lv_iadd hx hb d_Mo_solves_60 ?_
            refine z_iald hm hx hb hK hP 1 rfl d_Mo_solves_61 (fun v21 hm => ?_)
            refine lv_istore (lv' := [(5, .int v21), (0, .ref qM), (1, .int x1), (2, .int x2), (3, .int x3), (4, .int x4)]) hx hb d_Mo_solves_62 hl (by decide) rfl (fun ls hl => ?_)
            refine lv_aload_n hx hb d_Mo_solves_64 rfl (lv_at hl 1 rfl) ?_
            refine va_get (D := D) (ci := 11) (v := .ref qM_system) (C := "DeepChannelModel") (T := fT_Mo) (N := 40) hx hb hts u_Mo hown hK hP 0 rfl rfl 37 (by decide) (hts _ k_923) (fun _ h9 => h9) rfl d_Mo_solves_65 ?_
            refine lv_bipush (v := (33 : Int32)) hx hb d_Mo_solves_68 (by decide) ?_
            refine lv_iload_n hx hb d_Mo_solves_70 rfl (lv_at hl 4 rfl) ?_
            refine lv_imul hx hb d_Mo_solves_71 ?_
            refine lv_iload hx hb d_Mo_solves_72 (lv_at hl 5 rfl) ?_
            refine lv_iadd hx hb d_Mo_solves_74 ?_
            refine lv_aload_n hx hb d_Mo_solves_75 rfl (lv_at hl 1 rfl) ?_
            refine va_get (D := D) (ci := 11) (v := .ref qM_system) (C := "DeepChannelModel") (T := fT_Mo) (N := 40) hx hb hts u_Mo hown hK hP 0 rfl rfl 37 (by decide) (hts _ k_923) (fun _ h9 => h9) rfl d_Mo_solves_76 ?_
            refine lv_bipush (v := (33 : Int32)) hx hb d_Mo_solves_79 (by decide) ?_
            refine lv_iload_n hx hb d_Mo_solves_81 rfl (lv_at hl 3 rfl) ?_
            refine lv_imul hx hb d_Mo_solves_82 ?_
            refine lv_iload hx hb d_Mo_solves_83 (lv_at hl 5 rfl) ?_
            refine lv_iadd hx hb d_Mo_solves_85 ?_
            refine z_iald hm hx hb hK hP 1 rfl d_Mo_solves_86 (fun v22 hm => ?_)
            refine z_iast hm hx hb hK hP hD hS 1 rfl d_Mo_solves_87 (fun g23 hm H locs hP hD hS => ?_)
            have hP : va_P D classes (w_Mo_solves cI cJ qM qM_system qM_solved qM_logarithms qM_powers M_thrown M_depth M_fill M_half M_pattern M_craft M_begins M_firsts M_seconds M_forms M_elements M_mixer M_data M_waiting M_master M_counts M_line M_length M_sent M_state M_places M_least M_row M_rowSize M_differ M_blocks M_marks M_wrongs M_bytes M_rights M_tells M_lastMaster M_lastCounts M_word M_values M_wrong g23 M_solved M_logarithms M_powers) H := hP
            have hD : va_D A (w_Mo_solves cI cJ qM qM_system qM_solved qM_logarithms qM_powers M_thrown M_depth M_fill M_half M_pattern M_craft M_begins M_firsts M_seconds M_forms M_elements M_mixer M_data M_waiting M_master M_counts M_line M_length M_sent M_state M_places M_least M_row M_rowSize M_differ M_blocks M_marks M_wrongs M_bytes M_rights M_tells M_lastMaster M_lastCounts M_word M_values M_wrong g23 M_solved M_logarithms M_powers) := hD
            refine lv_aload_n hx hb d_Mo_solves_88 rfl (lv_at hl 1 rfl) ?_
            refine va_get (D := D) (ci := 11) (v := .ref qM_system) (C := "DeepChannelModel") (T := fT_Mo) (N := 40) hx hb hts u_Mo hown hK hP 0 rfl rfl 37 (by decide) (hts _ k_923) (fun _ h9 => h9) rfl d_Mo_solves_89 ?_
            refine lv_bipush (v := (33 : Int32)) hx hb d_Mo_solves_92 (by decide) ?_
            refine lv_iload_n hx hb d_Mo_solves_94 rfl (lv_at hl 3 rfl) ?_
            refine lv_imul hx hb d_Mo_solves_95 ?_
            refine lv_iload hx hb d_Mo_solves_96 (lv_at hl 5 rfl) ?_
            refine lv_iadd hx hb d_Mo_solves_98 ?_
            refine lv_iload hx hb d_Mo_solves_99 (lv_at hl 0 rfl) ?_
            refine z_iast hm hx hb hK hP hD hS 1 rfl d_Mo_solves_101 (fun g24 hm H locs hP hD hS => ?_)
            have hP : va_P D classes (w_Mo_solves cI cJ qM qM_system qM_solved qM_logarithms qM_powers M_thrown M_depth M_fill M_half M_pattern M_craft M_begins M_firsts M_seconds M_forms M_elements M_mixer M_data M_waiting M_master M_counts M_line M_length M_sent M_state M_places M_least M_row M_rowSize M_differ M_blocks M_marks M_wrongs M_bytes M_rights M_tells M_lastMaster M_lastCounts M_word M_values M_wrong g24 M_solved M_logarithms M_powers) H := hP
            have hD : va_D A (w_Mo_solves cI cJ qM qM_system qM_solved qM_logarithms qM_powers M_thrown M_depth M_fill M_half M_pattern M_craft M_begins M_firsts M_seconds M_forms M_elements M_mixer M_data M_waiting M_master M_counts M_line M_length M_sent M_state M_places M_least M_row M_rowSize M_differ M_blocks M_marks M_wrongs M_bytes M_rights M_tells M_lastMaster M_lastCounts M_word M_values M_wrong g24 M_solved M_logarithms M_powers) := hD
            obtain ⟨v25, ev, hm⟩ := nm_el hm
            refine lv_iinc (v := v25) (lv' := [(4, .int v25), (5, .int v21), (0, .ref qM), (1, .int x1), (2, .int x2), (3, .int x3)]) hx hb d_Mo_solves_102 hl (k := 5) rfl (by rw [ev]; rfl) (by decide) rfl (fun ls hl => ?_)
            refine lv_goto (tgt := 44) hx hb d_Mo_solves_105 (by decide) ?_
            exact ih44 x1 x2 x3 v25 g24 M_solved hm _ _ hP hD hS _ (lv_sub hl [2, 3, 4, 5, 0] rfl)
      have T34 : ∀ (x1 : Int32) (x2 : Int32) (x3 : Int32) (M_system : Nat → Int32) (M_solved : Nat → Int32), f_Mo_solves_34 M_logarithms M_powers (f_Mo_solves_2 M_logarithms M_powers n2) x1 x2 x3 M_system M_solved = some (rr, M_system', M_solved') → ∀ (H : Heap) (locs : List Loc), va_P D classes (w_Mo_solves cI cJ qM qM_system qM_solved qM_logarithms qM_powers M_thrown M_depth M_fill M_half M_pattern M_craft M_begins M_firsts M_seconds M_forms M_elements M_mixer M_data M_waiting M_master M_counts M_line M_length M_sent M_state M_places M_least M_row M_rowSize M_differ M_blocks M_marks M_wrongs M_bytes M_rights M_tells M_lastMaster M_lastCounts M_word M_values M_wrong M_system M_solved M_logarithms M_powers) H → va_D A (w_Mo_solves cI cJ qM qM_system qM_solved qM_logarithms qM_powers M_thrown M_depth M_fill M_half M_pattern M_craft M_begins M_firsts M_seconds M_forms M_elements M_mixer M_data M_waiting M_master M_counts M_line M_length M_sent M_state M_places M_least M_row M_rowSize M_differ M_blocks M_marks M_wrongs M_bytes M_rights M_tells M_lastMaster M_lastCounts M_word M_values M_wrong M_system M_solved M_logarithms M_powers) → va_S A s.heap H locs → ∀ (ls : Array Slot), lv_has ls 8 [(0, .ref qM), (1, .int x1), (2, .int x2), (3, .int x3)] → W p l e (RM 1 22) s m args below meth c H locs 0 0 Q0 (F0 m 34 ls []) := by
        intro x1 x2 x3 M_system M_solved hm H locs hP hD hS ls hl
        unfold f_Mo_solves_34 at hm
        refine lv_iload_n hx hb d_Mo_solves_34 rfl (lv_at hl 3 rfl) ?_
        refine lv_iload_n hx hb d_Mo_solves_35 rfl (lv_at hl 1 rfl) ?_
        refine z_ifn hm (lv_icmp_ne (tgt := 41) hx hb d_Mo_solves_36 (by decide)) (fun hm => ?_) (fun hm => ?_)
        · refine lv_iconst (v := (0 : Int32)) hx hb d_Mo_solves_39 (by decide) ?_
          obtain ⟨hz, hm⟩ := zb_el hm
          cases hm
          exact z_qo hQ (z_iretz hz hr hx hb hlocks hK hP hD hS d_Mo_solves_40)
        · refine lv_iconst (v := (0 : Int32)) hx hb d_Mo_solves_41 (by decide) ?_
          refine lv_istore (lv' := [(4, .int (0 : Int32)), (0, .ref qM), (1, .int x1), (2, .int x2), (3, .int x3)]) hx hb d_Mo_solves_42 hl (by decide) rfl (fun ls hl => ?_)
          exact T44 10000 x1 x2 x3 (0 : Int32) M_system M_solved hm _ _ hP hD hS _ (lv_sub hl [1, 2, 3, 4, 0] rfl)
      have T9 : ∀ (n9 : Nat) (x1 : Int32) (x2 : Int32) (x3 : Int32) (M_system : Nat → Int32) (M_solved : Nat → Int32), f_Mo_solves_9 M_logarithms M_powers (f_Mo_solves_2 M_logarithms M_powers n2) n9 x1 x2 x3 M_system M_solved = some (rr, M_system', M_solved') → ∀ (H : Heap) (locs : List Loc), va_P D classes (w_Mo_solves cI cJ qM qM_system qM_solved qM_logarithms qM_powers M_thrown M_depth M_fill M_half M_pattern M_craft M_begins M_firsts M_seconds M_forms M_elements M_mixer M_data M_waiting M_master M_counts M_line M_length M_sent M_state M_places M_least M_row M_rowSize M_differ M_blocks M_marks M_wrongs M_bytes M_rights M_tells M_lastMaster M_lastCounts M_word M_values M_wrong M_system M_solved M_logarithms M_powers) H → va_D A (w_Mo_solves cI cJ qM qM_system qM_solved qM_logarithms qM_powers M_thrown M_depth M_fill M_half M_pattern M_craft M_begins M_firsts M_seconds M_forms M_elements M_mixer M_data M_waiting M_master M_counts M_line M_length M_sent M_state M_places M_least M_row M_rowSize M_differ M_blocks M_marks M_wrongs M_bytes M_rights M_tells M_lastMaster M_lastCounts M_word M_values M_wrong M_system M_solved M_logarithms M_powers) → va_S A s.heap H locs → ∀ (ls : Array Slot), lv_has ls 8 [(0, .ref qM), (1, .int x1), (2, .int x2), (3, .int x3)] → W p l e (RM 1 22) s m args below meth c H locs 0 0 Q0 (F0 m 9 ls []) := by
        intro n9
        induction n9 with
        | zero => intro x1 x2 x3 M_system M_solved hm; cases hm
        | succ n9 ih9 =>
          intro x1 x2 x3 M_system M_solved hm H locs hP hD hS ls hl
          replace hm : f_Mo_solves_9_b M_logarithms M_powers (f_Mo_solves_2 M_logarithms M_powers n2) (f_Mo_solves_9 M_logarithms M_powers (f_Mo_solves_2 M_logarithms M_powers n2) n9) x1 x2 x3 M_system M_solved = some (rr, M_system', M_solved') := hm
          unfold f_Mo_solves_9_b at hm
          refine lv_iload_n hx hb d_Mo_solves_9 rfl (lv_at hl 3 rfl) ?_
          refine lv_iload_n hx hb d_Mo_solves_10 rfl (lv_at hl 1 rfl) ?_
          refine z_if hm (lv_icmp_ge (tgt := 34) hx hb d_Mo_solves_11 (by decide)) (fun hm => ?_) (fun hm => ?_)
          · exact T34 x1 x2 x3 M_system M_solved hm _ _ hP hD hS _ (lv_sub hl [0, 1, 2, 3] rfl)
          · refine lv_aload_n hx hb d_Mo_solves_14 rfl (lv_at hl 0 rfl) ?_
            refine va_get (D := D) (ci := 11) (v := .ref qM_system) (C := "DeepChannelModel") (T := fT_Mo) (N := 40) hx hb hts u_Mo hown hK hP 0 rfl rfl 37 (by decide) (hts _ k_923) (fun _ h9 => h9) rfl d_Mo_solves_15 ?_
            refine lv_bipush (v := (33 : Int32)) hx hb d_Mo_solves_18 (by decide) ?_
            refine lv_iload_n hx hb d_Mo_solves_20 rfl (lv_at hl 3 rfl) ?_
            refine lv_imul hx hb d_Mo_solves_21 ?_
            refine lv_iload_n hx hb d_Mo_solves_22 rfl (lv_at hl 2 rfl) ?_
            refine lv_iadd hx hb d_Mo_solves_23 ?_
            refine z_iald hm hx hb hK hP 1 rfl d_Mo_solves_24 (fun v26 hm => ?_)
            refine z_ifn hm (lv_if_ne (tgt := 34) hx hb d_Mo_solves_25 (by decide)) (fun hm => ?_) (fun hm => ?_)
            · obtain ⟨v27, ev, hm⟩ := nm_el hm
              refine lv_iinc (v := v27) (lv' := [(3, .int v27), (0, .ref qM), (1, .int x1), (2, .int x2)]) hx hb d_Mo_solves_28 hl (k := 3) rfl (by rw [ev]; rfl) (by decide) rfl (fun ls hl => ?_)
              refine lv_goto (tgt := 9) hx hb d_Mo_solves_31 (by decide) ?_
              exact ih9 x1 x2 v27 M_system M_solved hm _ _ hP hD hS _ (lv_sub hl [1, 2, 3, 0] rfl)
            · exact T34 x1 x2 x3 M_system M_solved hm _ _ hP hD hS _ (lv_sub hl [0, 1, 2, 3] rfl)
      intro x1 x2 M_system M_solved hm H locs hP hD hS ls hl
      replace hm : f_Mo_solves_2_b M_logarithms M_powers (f_Mo_solves_2 M_logarithms M_powers n2) x1 x2 M_system M_solved = some (rr, M_system', M_solved') := hm
      unfold f_Mo_solves_2_b at hm
      refine lv_iload_n hx hb d_Mo_solves_2 rfl (lv_at hl 2 rfl) ?_
      refine lv_iload_n hx hb d_Mo_solves_3 rfl (lv_at hl 1 rfl) ?_
      refine z_if hm (lv_icmp_ge (tgt := 271) hx hb d_Mo_solves_4 (by decide)) (fun hm => ?_) (fun hm => ?_)
      · exact T271 x1 M_system M_solved hm _ _ hP hD hS _ (lv_sub hl [0, 1] rfl)
      · refine lv_iload_n hx hb d_Mo_solves_7 rfl (lv_at hl 2 rfl) ?_
        refine lv_istore_n (lv' := [(3, .int x2), (0, .ref qM), (1, .int x1), (2, .int x2)]) hx hb d_Mo_solves_8 rfl hl (by decide) rfl (fun ls hl => ?_)
        exact T9 10000 x1 x2 x2 M_system M_solved hm _ _ hP hD hS _ (lv_sub hl [1, 2, 3, 0] rfl)
  unfold f_Mo_solves at hm
  refine lv_iconst (v := (0 : Int32)) hx hb d_Mo_solves_0 (by decide) ?_
  refine lv_istore_n (lv' := [(2, .int (0 : Int32)), (0, .ref qM), (1, .int x1)]) hx hb d_Mo_solves_1 rfl hl (by decide) rfl (fun ls hl => ?_)
  exact T2 10000 x1 (0 : Int32) M_system M_solved hm _ _ hP hD hS _ (lv_sub hl [1, 2, 0] rfl)
-- DeepChannelModel.isCodeword()Z
abbrev b_Mo_isCodeword : ByteArray := prog_13_method_26_code
abbrev y_Mo_isCodeword : MethodName := ⟨"DeepChannelModel", "isCodeword", "()Z"⟩
theorem d_Mo_isCodeword_0 : decode b_Mo_isCodeword 0 = .ok (.iconst 1, 1) := by decide +kernel
theorem d_Mo_isCodeword_1 : decode b_Mo_isCodeword 1 = .ok (.istore_n 1, 1) := by decide +kernel
theorem d_Mo_isCodeword_2 : decode b_Mo_isCodeword 2 = .ok (.iconst 0, 1) := by decide +kernel
theorem d_Mo_isCodeword_3 : decode b_Mo_isCodeword 3 = .ok (.istore_n 2, 1) := by decide +kernel
theorem d_Mo_isCodeword_4 : decode b_Mo_isCodeword 4 = .ok (.iload_n 2, 1) := by decide +kernel
theorem d_Mo_isCodeword_5 : decode b_Mo_isCodeword 5 = .ok (.iconst 2, 1) := by decide +kernel
theorem d_Mo_isCodeword_6 : decode b_Mo_isCodeword 6 = .ok (.aload_n 0, 1) := by decide +kernel
theorem d_Mo_isCodeword_7 : decode b_Mo_isCodeword 7 = .ok (.getfield 16, 3) := by decide +kernel
theorem d_Mo_isCodeword_10 : decode b_Mo_isCodeword 10 = .ok (.imul, 1) := by decide +kernel
theorem d_Mo_isCodeword_11 : decode b_Mo_isCodeword 11 = .ok (.if_icmp .ge 85, 3) := by decide +kernel
theorem d_Mo_isCodeword_14 : decode b_Mo_isCodeword 14 = .ok (.aload_n 0, 1) := by decide +kernel
theorem d_Mo_isCodeword_15 : decode b_Mo_isCodeword 15 = .ok (.sipush 128, 3) := by decide +kernel
theorem d_Mo_isCodeword_18 : decode b_Mo_isCodeword 18 = .ok (.aload_n 0, 1) := by decide +kernel
theorem d_Mo_isCodeword_19 : decode b_Mo_isCodeword 19 = .ok (.getfield 16, 3) := by decide +kernel
theorem d_Mo_isCodeword_22 : decode b_Mo_isCodeword 22 = .ok (.isub, 1) := by decide +kernel
theorem d_Mo_isCodeword_23 : decode b_Mo_isCodeword 23 = .ok (.iload_n 2, 1) := by decide +kernel
theorem d_Mo_isCodeword_24 : decode b_Mo_isCodeword 24 = .ok (.iadd, 1) := by decide +kernel
theorem d_Mo_isCodeword_25 : decode b_Mo_isCodeword 25 = .ok (.invokevirtual 178, 3) := by decide +kernel
theorem d_Mo_isCodeword_28 : decode b_Mo_isCodeword 28 = .ok (.istore_n 3, 1) := by decide +kernel
theorem d_Mo_isCodeword_29 : decode b_Mo_isCodeword 29 = .ok (.iconst 0, 1) := by decide +kernel
theorem d_Mo_isCodeword_30 : decode b_Mo_isCodeword 30 = .ok (.istore 4, 2) := by decide +kernel
theorem d_Mo_isCodeword_32 : decode b_Mo_isCodeword 32 = .ok (.iconst 0, 1) := by decide +kernel
theorem d_Mo_isCodeword_33 : decode b_Mo_isCodeword 33 = .ok (.istore 5, 2) := by decide +kernel
theorem d_Mo_isCodeword_35 : decode b_Mo_isCodeword 35 = .ok (.iload 5, 2) := by decide +kernel
theorem d_Mo_isCodeword_37 : decode b_Mo_isCodeword 37 = .ok (.aload_n 0, 1) := by decide +kernel
theorem d_Mo_isCodeword_38 : decode b_Mo_isCodeword 38 = .ok (.invokevirtual 110, 3) := by decide +kernel
theorem d_Mo_isCodeword_41 : decode b_Mo_isCodeword 41 = .ok (.if_icmp .ge 26, 3) := by decide +kernel
theorem d_Mo_isCodeword_44 : decode b_Mo_isCodeword 44 = .ok (.aload_n 0, 1) := by decide +kernel
theorem d_Mo_isCodeword_45 : decode b_Mo_isCodeword 45 = .ok (.iload 4, 2) := by decide +kernel
theorem d_Mo_isCodeword_47 : decode b_Mo_isCodeword 47 = .ok (.iload_n 3, 1) := by decide +kernel
theorem d_Mo_isCodeword_48 : decode b_Mo_isCodeword 48 = .ok (.invokevirtual 175, 3) := by decide +kernel
theorem d_Mo_isCodeword_51 : decode b_Mo_isCodeword 51 = .ok (.aload_n 0, 1) := by decide +kernel
theorem d_Mo_isCodeword_52 : decode b_Mo_isCodeword 52 = .ok (.getfield 81, 3) := by decide +kernel
theorem d_Mo_isCodeword_55 : decode b_Mo_isCodeword 55 = .ok (.iload 5, 2) := by decide +kernel
theorem d_Mo_isCodeword_57 : decode b_Mo_isCodeword 57 = .ok (.iaload, 1) := by decide +kernel
theorem d_Mo_isCodeword_58 : decode b_Mo_isCodeword 58 = .ok (.ixor, 1) := by decide +kernel
theorem d_Mo_isCodeword_59 : decode b_Mo_isCodeword 59 = .ok (.istore 4, 2) := by decide +kernel
theorem d_Mo_isCodeword_61 : decode b_Mo_isCodeword 61 = .ok (.iinc 5 1, 3) := by decide +kernel
theorem d_Mo_isCodeword_64 : decode b_Mo_isCodeword 64 = .ok (.goto (-29), 3) := by decide +kernel
theorem d_Mo_isCodeword_67 : decode b_Mo_isCodeword 67 = .ok (.aload_n 0, 1) := by decide +kernel
theorem d_Mo_isCodeword_68 : decode b_Mo_isCodeword 68 = .ok (.getfield 84, 3) := by decide +kernel
theorem d_Mo_isCodeword_71 : decode b_Mo_isCodeword 71 = .ok (.iload_n 2, 1) := by decide +kernel
theorem d_Mo_isCodeword_72 : decode b_Mo_isCodeword 72 = .ok (.iload 4, 2) := by decide +kernel
theorem d_Mo_isCodeword_74 : decode b_Mo_isCodeword 74 = .ok (.iastore, 1) := by decide +kernel
theorem d_Mo_isCodeword_75 : decode b_Mo_isCodeword 75 = .ok (.iload_n 1, 1) := by decide +kernel
theorem d_Mo_isCodeword_76 : decode b_Mo_isCodeword 76 = .ok (.ifCond .eq 12, 3) := by decide +kernel
theorem d_Mo_isCodeword_79 : decode b_Mo_isCodeword 79 = .ok (.iload 4, 2) := by decide +kernel
theorem d_Mo_isCodeword_81 : decode b_Mo_isCodeword 81 = .ok (.ifCond .ne 7, 3) := by decide +kernel
theorem d_Mo_isCodeword_84 : decode b_Mo_isCodeword 84 = .ok (.iconst 1, 1) := by decide +kernel
theorem d_Mo_isCodeword_85 : decode b_Mo_isCodeword 85 = .ok (.goto 4, 3) := by decide +kernel
theorem d_Mo_isCodeword_88 : decode b_Mo_isCodeword 88 = .ok (.iconst 0, 1) := by decide +kernel
theorem d_Mo_isCodeword_89 : decode b_Mo_isCodeword 89 = .ok (.istore_n 1, 1) := by decide +kernel
theorem d_Mo_isCodeword_90 : decode b_Mo_isCodeword 90 = .ok (.iinc 2 1, 3) := by decide +kernel
theorem d_Mo_isCodeword_93 : decode b_Mo_isCodeword 93 = .ok (.goto (-89), 3) := by decide +kernel
theorem d_Mo_isCodeword_96 : decode b_Mo_isCodeword 96 = .ok (.iload_n 1, 1) := by decide +kernel
theorem d_Mo_isCodeword_97 : decode b_Mo_isCodeword 97 = .ok (.ireturn, 1) := by decide +kernel
theorem ok_Mo_isCodeword : OKv y_Mo_isCodeword b_Mo_isCodeword 6 (some .boolean) "DeepChannelModel" 0 := ⟨k_1085, k_1084, k_26, k_55, by decide +kernel, by decide +kernel, by decide +kernel⟩
abbrev w_Mo_isCodeword (cI cJ : ClassId) (qM qM_powers qM_values qM_logarithms qM_word : Nat) (M_thrown M_depth M_pattern M_craft M_begins M_firsts M_seconds M_forms M_elements M_mixer M_data M_waiting M_master M_counts M_line M_length M_sent M_state M_places M_least M_row M_rowSize M_differ M_blocks M_marks M_wrongs M_bytes M_rights M_tells M_lastMaster M_lastCounts M_system M_solved M_wrong : Value) (M_fill : Int32) (M_half : Int32) (M_powers : Nat → Int32) (M_values : Nat → Int32) (M_logarithms : Nat → Int32) (M_word : Nat → Int32) : va_W := [(qM, .inr (11, [M_thrown, M_depth, .int M_fill, .int M_half, M_pattern, M_craft, M_begins, M_firsts, M_seconds, .ref qM_powers, .ref qM_logarithms, M_forms, M_elements, M_mixer, M_data, M_waiting, M_master, M_counts, M_line, M_length, M_sent, M_state, M_places, M_least, M_row, M_rowSize, M_differ, M_blocks, M_marks, M_wrongs, M_bytes, M_rights, M_tells, M_lastMaster, M_lastCounts, .ref qM_word, .ref qM_values, M_system, M_solved, M_wrong])), (qM_powers, .inl (cI, 255, .inl M_powers)), (qM_values, .inl (cI, 32, .inl M_values)), (qM_logarithms, .inl (cI, 256, .inl M_logarithms)), (qM_word, .inl (cI, 255, .inl M_word))]
def f_Mo_isCodeword_89 (kh4 : Int32 → Int32 → (Nat → Int32) → Option (Int32 × (Nat → Int32))) (x2 : Int32) (t0 : Int32) (M_values : Nat → Int32) : Option (Int32 × (Nat → Int32)) :=
  nm (x2 + (1 : Int32)) fun v1 =>
  kh4 t0 v1 M_values
def f_Mo_isCodeword_88 (kh4 : Int32 → Int32 → (Nat → Int32) → Option (Int32 × (Nat → Int32))) (x2 : Int32) (M_values : Nat → Int32) : Option (Int32 × (Nat → Int32)) :=
  f_Mo_isCodeword_89 kh4 x2 (0 : Int32) M_values
def f_Mo_isCodeword_67 (kh4 : Int32 → Int32 → (Nat → Int32) → Option (Int32 × (Nat → Int32))) (x1 : Int32) (x2 : Int32) (x4 : Int32) (M_values : Nat → Int32) : Option (Int32 × (Nat → Int32)) :=
  wrI M_values 32 x2 x4 fun g2 =>
  if x1 = 0 then
    f_Mo_isCodeword_88 kh4 x2 g2
  else
  if x4 = 0 then
    f_Mo_isCodeword_89 kh4 x2 (1 : Int32) g2
  else
  f_Mo_isCodeword_88 kh4 x2 g2
def f_Mo_isCodeword_35_b (M_fill : Int32) (M_powers : Nat → Int32) (M_logarithms : Nat → Int32) (M_word : Nat → Int32) (kh4 : Int32 → Int32 → (Nat → Int32) → Option (Int32 × (Nat → Int32))) (kh35 : Int32 → Int32 → Int32 → Int32 → Int32 → (Nat → Int32) → Option (Int32 × (Nat → Int32))) (x1 : Int32) (x2 : Int32) (x3 : Int32) (x4 : Int32) (x5 : Int32) (M_values : Nat → Int32) : Option (Int32 × (Nat → Int32)) :=
  bd (f_Mo_wordSize M_fill) fun u4 =>
  nm u4 fun r3 =>
  if r3 ≤ x5 then
    f_Mo_isCodeword_67 kh4 x1 x2 x4 M_values
  else
  bd (f_Mo_product M_logarithms M_powers x4 x3) fun u6 =>
  nm u6 fun r5 =>
  rdI M_word 255 x5 fun v7 =>
  nm (r5 ^^^ v7) fun v8 =>
  nm (x5 + (1 : Int32)) fun v9 =>
  kh35 x1 x2 x3 v8 v9 M_values
def f_Mo_isCodeword_35 (M_fill : Int32) (M_powers : Nat → Int32) (M_logarithms : Nat → Int32) (M_word : Nat → Int32) (kh4 : Int32 → Int32 → (Nat → Int32) → Option (Int32 × (Nat → Int32))) : Nat → Int32 → Int32 → Int32 → Int32 → Int32 → (Nat → Int32) → Option (Int32 × (Nat → Int32))
  | 0 => fun _ _ _ _ _ _ => none
  | n + 1 => fun x1 x2 x3 x4 x5 M_values => f_Mo_isCodeword_35_b M_fill M_powers M_logarithms M_word kh4 (f_Mo_isCodeword_35 M_fill M_powers M_logarithms M_word kh4 n) x1 x2 x3 x4 x5 M_values
def f_Mo_isCodeword_4_b (M_fill : Int32) (M_half : Int32) (M_powers : Nat → Int32) (M_logarithms : Nat → Int32) (M_word : Nat → Int32) (kh4 : Int32 → Int32 → (Nat → Int32) → Option (Int32 × (Nat → Int32))) (x1 : Int32) (x2 : Int32) (M_values : Nat → Int32) : Option (Int32 × (Nat → Int32)) :=
  if ((2 : Int32) * M_half) ≤ x2 then
    zb x1 <|
    some (x1, M_values)
  else
  bd (f_Mo_ofG M_powers (((128 : Int32) - M_half) + x2)) fun u11 =>
  nm u11 fun r10 =>
  f_Mo_isCodeword_35 M_fill M_powers M_logarithms M_word kh4 10000 x1 x2 r10 (0 : Int32) (0 : Int32) M_values
def f_Mo_isCodeword_4 (M_fill : Int32) (M_half : Int32) (M_powers : Nat → Int32) (M_logarithms : Nat → Int32) (M_word : Nat → Int32) : Nat → Int32 → Int32 → (Nat → Int32) → Option (Int32 × (Nat → Int32))
  | 0 => fun _ _ _ => none
  | n + 1 => fun x1 x2 M_values => f_Mo_isCodeword_4_b M_fill M_half M_powers M_logarithms M_word (f_Mo_isCodeword_4 M_fill M_half M_powers M_logarithms M_word n) x1 x2 M_values
def f_Mo_isCodeword (M_fill : Int32) (M_half : Int32) (M_powers : Nat → Int32) (M_values : Nat → Int32) (M_logarithms : Nat → Int32) (M_word : Nat → Int32) : Option (Int32 × (Nat → Int32)) :=
  f_Mo_isCodeword_4 M_fill M_half M_powers M_logarithms M_word 10000 (1 : Int32) (0 : Int32) M_values
set_option maxHeartbeats 4000000 in
set_option maxRecDepth 100000 in
theorem c_Mo_isCodeword (l : Launch) (D : va_G) (cI cJ : ClassId) (tt : Nat → Nat) (qM qM_powers qM_values qM_logarithms qM_word : Nat) (M_thrown M_depth M_pattern M_craft M_begins M_firsts M_seconds M_forms M_elements M_mixer M_data M_waiting M_master M_counts M_line M_length M_sent M_state M_places M_least M_row M_rowSize M_differ M_blocks M_marks M_wrongs M_bytes M_rights M_tells M_lastMaster M_lastCounts M_system M_solved M_wrong : Value) (sz : Nat) (M_fill : Int32) (M_half : Int32) (M_powers : Nat → Int32) (M_values : Nat → Int32) (M_logarithms : Nat → Int32) (M_word : Nat → Int32) (rr : Int32) (M_values' : Nat → Int32) (hm : f_Mo_isCodeword M_fill M_half M_powers M_values M_logarithms M_word = some (rr, M_values')) : CTi l y_Mo_isCodeword b_Mo_isCodeword 6 (some .boolean) (RM 1 22) D cI cJ tt [.ref qM] (w_Mo_isCodeword cI cJ qM qM_powers qM_values qM_logarithms qM_word M_thrown M_depth M_pattern M_craft M_begins M_firsts M_seconds M_forms M_elements M_mixer M_data M_waiting M_master M_counts M_line M_length M_sent M_state M_places M_least M_row M_rowSize M_differ M_blocks M_marks M_wrongs M_bytes M_rights M_tells M_lastMaster M_lastCounts M_system M_solved M_wrong M_fill M_half M_powers M_values M_logarithms M_word) (w_Mo_isCodeword cI cJ qM qM_powers qM_values qM_logarithms qM_word M_thrown M_depth M_pattern M_craft M_begins M_firsts M_seconds M_forms M_elements M_mixer M_data M_waiting M_master M_counts M_line M_length M_sent M_state M_places M_least M_row M_rowSize M_differ M_blocks M_marks M_wrongs M_bytes M_rights M_tells M_lastMaster M_lastCounts M_system M_solved M_wrong M_fill M_half M_powers M_values' M_logarithms M_word) sz rr := by
  refine Met.ofW (cc := b_Mo_isCodeword) (maxL := 6) (ret := (some .boolean)) (by decide) rfl ?_
  intro p e s m args below meth c s₁ B hml hv
  obtain ⟨hargs, hsz, hP, hK, hD0, hE⟩ := hv
  have hx := B.exec
  have hb := B.bytes
  have hr := B.returns
  have hts : ∀ w ∈ TB, w.before args s = true := z_mV s (atoms_spec (ws := WD y_Mo_isCodeword b_Mo_isCodeword 6 (some .boolean)) B.pre)
  have hown : s.vm.findClass "DeepChannelModel" = some m.cls := findClass_of_methodNamed B.named
  have hlocks := B.notSynchronized
  subst hsz
  have hD := hD0.self (sz := s.heap.size)
  generalize hAe : va_A (w_Mo_isCodeword cI cJ qM qM_powers qM_values qM_logarithms qM_word M_thrown M_depth M_pattern M_craft M_begins M_firsts M_seconds M_forms M_elements M_mixer M_data M_waiting M_master M_counts M_line M_length M_sent M_state M_places M_least M_row M_rowSize M_differ M_blocks M_marks M_wrongs M_bytes M_rights M_tells M_lastMaster M_lastCounts M_system M_solved M_wrong M_fill M_half M_powers M_values M_logarithms M_word) s.heap.size = A at hD hE ⊢
  have hA : ∀ q : Nat, s.heap.size ≤ q → A q := fun q h => by rw [← hAe]; exact Or.inr h
  have hS : va_S A s.heap s.heap [] := va_S.rf
  refine z_entry (vs := [.ref qM]) hargs (Nat.le_of_ble_eq_true rfl) (fun ls hl => ?_)
  have hl : lv_has ls 6 [(0, .ref qM)] := hl
  show W p l e (RM 1 22) s m args below meth c s.heap [] 0 0 _ _
  refine z_qi (fun Q0 hQ => ?_)
  have F : CallFix p m c b_Mo_isCodeword 6 s args TB "DeepChannelModel" := ⟨hx, hb, hml, hown, hts⟩
  have T4 : ∀ (n4 : Nat) (x1 : Int32) (x2 : Int32) (M_values : Nat → Int32), f_Mo_isCodeword_4 M_fill M_half M_powers M_logarithms M_word n4 x1 x2 M_values = some (rr, M_values') → ∀ (H : Heap) (locs : List Loc), va_P D classes (w_Mo_isCodeword cI cJ qM qM_powers qM_values qM_logarithms qM_word M_thrown M_depth M_pattern M_craft M_begins M_firsts M_seconds M_forms M_elements M_mixer M_data M_waiting M_master M_counts M_line M_length M_sent M_state M_places M_least M_row M_rowSize M_differ M_blocks M_marks M_wrongs M_bytes M_rights M_tells M_lastMaster M_lastCounts M_system M_solved M_wrong M_fill M_half M_powers M_values M_logarithms M_word) H → va_D A (w_Mo_isCodeword cI cJ qM qM_powers qM_values qM_logarithms qM_word M_thrown M_depth M_pattern M_craft M_begins M_firsts M_seconds M_forms M_elements M_mixer M_data M_waiting M_master M_counts M_line M_length M_sent M_state M_places M_least M_row M_rowSize M_differ M_blocks M_marks M_wrongs M_bytes M_rights M_tells M_lastMaster M_lastCounts M_system M_solved M_wrong M_fill M_half M_powers M_values M_logarithms M_word) → va_S A s.heap H locs → ∀ (ls : Array Slot), lv_has ls 6 [(0, .ref qM), (1, .int x1), (2, .int x2)] → W p l e (RM 1 22) s m args below meth c H locs 0 0 Q0 (F0 m 4 ls []) := by
    intro n4
    induction n4 with
    | zero => intro x1 x2 M_values hm; cases hm
    | succ n4 ih4 =>
      have T89 : ∀ (x2 : Int32) (t0 : Int32) (M_values : Nat → Int32), f_Mo_isCodeword_89 (f_Mo_isCodeword_4 M_fill M_half M_powers M_logarithms M_word n4) x2 t0 M_values = some (rr, M_values') → ∀ (H : Heap) (locs : List Loc), va_P D classes (w_Mo_isCodeword cI cJ qM qM_powers qM_values qM_logarithms qM_word M_thrown M_depth M_pattern M_craft M_begins M_firsts M_seconds M_forms M_elements M_mixer M_data M_waiting M_master M_counts M_line M_length M_sent M_state M_places M_least M_row M_rowSize M_differ M_blocks M_marks M_wrongs M_bytes M_rights M_tells M_lastMaster M_lastCounts M_system M_solved M_wrong M_fill M_half M_powers M_values M_logarithms M_word) H → va_D A (w_Mo_isCodeword cI cJ qM qM_powers qM_values qM_logarithms qM_word M_thrown M_depth M_pattern M_craft M_begins M_firsts M_seconds M_forms M_elements M_mixer M_data M_waiting M_master M_counts M_line M_length M_sent M_state M_places M_least M_row M_rowSize M_differ M_blocks M_marks M_wrongs M_bytes M_rights M_tells M_lastMaster M_lastCounts M_system M_solved M_wrong M_fill M_half M_powers M_values M_logarithms M_word) → va_S A s.heap H locs → ∀ (ls : Array Slot), lv_has ls 6 [(0, .ref qM), (2, .int x2)] → W p l e (RM 1 22) s m args below meth c H locs 0 0 Q0 (F0 m 89 ls [.int t0]) := by
        intro x2 t0 M_values hm H locs hP hD hS ls hl
        unfold f_Mo_isCodeword_89 at hm
        refine lv_istore_n (lv' := [(1, .int t0), (0, .ref qM), (2, .int x2)]) hx hb d_Mo_isCodeword_89 rfl hl (by decide) rfl (fun ls hl => ?_)
        obtain ⟨v1, ev, hm⟩ := nm_el hm
        refine lv_iinc (v := v1) (lv' := [(2, .int v1), (1, .int t0), (0, .ref qM)]) hx hb d_Mo_isCodeword_90 hl (k := 2) rfl (by rw [ev]; rfl) (by decide) rfl (fun ls hl => ?_)
        refine lv_goto (tgt := 4) hx hb d_Mo_isCodeword_93 (by decide) ?_
        exact ih4 t0 v1 M_values hm _ _ hP hD hS _ (lv_sub hl [2, 1, 0] rfl)
      have T88 : ∀ (x2 : Int32) (M_values : Nat → Int32), f_Mo_isCodeword_88 (f_Mo_isCodeword_4 M_fill M_half M_powers M_logarithms M_word n4) x2 M_values = some (rr, M_values') → ∀ (H : Heap) (locs : List Loc), va_P D classes (w_Mo_isCodeword cI cJ qM qM_powers qM_values qM_logarithms qM_word M_thrown M_depth M_pattern M_craft M_begins M_firsts M_seconds M_forms M_elements M_mixer M_data M_waiting M_master M_counts M_line M_length M_sent M_state M_places M_least M_row M_rowSize M_differ M_blocks M_marks M_wrongs M_bytes M_rights M_tells M_lastMaster M_lastCounts M_system M_solved M_wrong M_fill M_half M_powers M_values M_logarithms M_word) H → va_D A (w_Mo_isCodeword cI cJ qM qM_powers qM_values qM_logarithms qM_word M_thrown M_depth M_pattern M_craft M_begins M_firsts M_seconds M_forms M_elements M_mixer M_data M_waiting M_master M_counts M_line M_length M_sent M_state M_places M_least M_row M_rowSize M_differ M_blocks M_marks M_wrongs M_bytes M_rights M_tells M_lastMaster M_lastCounts M_system M_solved M_wrong M_fill M_half M_powers M_values M_logarithms M_word) → va_S A s.heap H locs → ∀ (ls : Array Slot), lv_has ls 6 [(0, .ref qM), (2, .int x2)] → W p l e (RM 1 22) s m args below meth c H locs 0 0 Q0 (F0 m 88 ls []) := by
        intro x2 M_values hm H locs hP hD hS ls hl
        unfold f_Mo_isCodeword_88 at hm
        refine lv_iconst (v := (0 : Int32)) hx hb d_Mo_isCodeword_88 (by decide) ?_
        exact T89 x2 (0 : Int32) M_values hm _ _ hP hD hS _ (lv_sub hl [0, 1] rfl)
      have T67 : ∀ (x1 : Int32) (x2 : Int32) (x4 : Int32) (M_values : Nat → Int32), f_Mo_isCodeword_67 (f_Mo_isCodeword_4 M_fill M_half M_powers M_logarithms M_word n4) x1 x2 x4 M_values = some (rr, M_values') → ∀ (H : Heap) (locs : List Loc), va_P D classes (w_Mo_isCodeword cI cJ qM qM_powers qM_values qM_logarithms qM_word M_thrown M_depth M_pattern M_craft M_begins M_firsts M_seconds M_forms M_elements M_mixer M_data M_waiting M_master M_counts M_line M_length M_sent M_state M_places M_least M_row M_rowSize M_differ M_blocks M_marks M_wrongs M_bytes M_rights M_tells M_lastMaster M_lastCounts M_system M_solved M_wrong M_fill M_half M_powers M_values M_logarithms M_word) H → va_D A (w_Mo_isCodeword cI cJ qM qM_powers qM_values qM_logarithms qM_word M_thrown M_depth M_pattern M_craft M_begins M_firsts M_seconds M_forms M_elements M_mixer M_data M_waiting M_master M_counts M_line M_length M_sent M_state M_places M_least M_row M_rowSize M_differ M_blocks M_marks M_wrongs M_bytes M_rights M_tells M_lastMaster M_lastCounts M_system M_solved M_wrong M_fill M_half M_powers M_values M_logarithms M_word) → va_S A s.heap H locs → ∀ (ls : Array Slot), lv_has ls 6 [(0, .ref qM), (1, .int x1), (2, .int x2), (4, .int x4)] → W p l e (RM 1 22) s m args below meth c H locs 0 0 Q0 (F0 m 67 ls []) := by
        intro x1 x2 x4 M_values hm H locs hP hD hS ls hl
        unfold f_Mo_isCodeword_67 at hm
        refine lv_aload_n hx hb d_Mo_isCodeword_67 rfl (lv_at hl 0 rfl) ?_
        refine va_get (D := D) (ci := 11) (v := .ref qM_values) (C := "DeepChannelModel") (T := fT_Mo) (N := 40) hx hb hts u_Mo hown hK hP 0 rfl rfl 36 (by decide) (hts _ k_922) (fun _ h9 => h9) rfl d_Mo_isCodeword_68 ?_
        refine lv_iload_n hx hb d_Mo_isCodeword_71 rfl (lv_at hl 2 rfl) ?_
        refine lv_iload hx hb d_Mo_isCodeword_72 (lv_at hl 3 rfl) ?_
        refine z_iast hm hx hb hK hP hD hS 2 rfl d_Mo_isCodeword_74 (fun g2 hm H locs hP hD hS => ?_)
        have hP : va_P D classes (w_Mo_isCodeword cI cJ qM qM_powers qM_values qM_logarithms qM_word M_thrown M_depth M_pattern M_craft M_begins M_firsts M_seconds M_forms M_elements M_mixer M_data M_waiting M_master M_counts M_line M_length M_sent M_state M_places M_least M_row M_rowSize M_differ M_blocks M_marks M_wrongs M_bytes M_rights M_tells M_lastMaster M_lastCounts M_system M_solved M_wrong M_fill M_half M_powers g2 M_logarithms M_word) H := hP
        have hD : va_D A (w_Mo_isCodeword cI cJ qM qM_powers qM_values qM_logarithms qM_word M_thrown M_depth M_pattern M_craft M_begins M_firsts M_seconds M_forms M_elements M_mixer M_data M_waiting M_master M_counts M_line M_length M_sent M_state M_places M_least M_row M_rowSize M_differ M_blocks M_marks M_wrongs M_bytes M_rights M_tells M_lastMaster M_lastCounts M_system M_solved M_wrong M_fill M_half M_powers g2 M_logarithms M_word) := hD
        refine lv_iload_n hx hb d_Mo_isCodeword_75 rfl (lv_at hl 1 rfl) ?_
        refine z_if hm (lv_if_eq (tgt := 88) hx hb d_Mo_isCodeword_76 (by decide)) (fun hm => ?_) (fun hm => ?_)
        · exact T88 x2 g2 hm _ _ hP hD hS _ (lv_sub hl [0, 2] rfl)
        · refine lv_iload hx hb d_Mo_isCodeword_79 (lv_at hl 3 rfl) ?_
          refine z_ifn hm (lv_if_ne (tgt := 88) hx hb d_Mo_isCodeword_81 (by decide)) (fun hm => ?_) (fun hm => ?_)
          · refine lv_iconst (v := (1 : Int32)) hx hb d_Mo_isCodeword_84 (by decide) ?_
            refine lv_goto (tgt := 89) hx hb d_Mo_isCodeword_85 (by decide) ?_
            exact T89 x2 (1 : Int32) g2 hm _ _ hP hD hS _ (lv_sub hl [0, 2] rfl)
          · exact T88 x2 g2 hm _ _ hP hD hS _ (lv_sub hl [0, 2] rfl)
      have T35 : ∀ (n35 : Nat) (x1 : Int32) (x2 : Int32) (x3 : Int32) (x4 : Int32) (x5 : Int32) (M_values : Nat → Int32), f_Mo_isCodeword_35 M_fill M_powers M_logarithms M_word (f_Mo_isCodeword_4 M_fill M_half M_powers M_logarithms M_word n4) n35 x1 x2 x3 x4 x5 M_values = some (rr, M_values') → ∀ (H : Heap) (locs : List Loc), va_P D classes (w_Mo_isCodeword cI cJ qM qM_powers qM_values qM_logarithms qM_word M_thrown M_depth M_pattern M_craft M_begins M_firsts M_seconds M_forms M_elements M_mixer M_data M_waiting M_master M_counts M_line M_length M_sent M_state M_places M_least M_row M_rowSize M_differ M_blocks M_marks M_wrongs M_bytes M_rights M_tells M_lastMaster M_lastCounts M_system M_solved M_wrong M_fill M_half M_powers M_values M_logarithms M_word) H → va_D A (w_Mo_isCodeword cI cJ qM qM_powers qM_values qM_logarithms qM_word M_thrown M_depth M_pattern M_craft M_begins M_firsts M_seconds M_forms M_elements M_mixer M_data M_waiting M_master M_counts M_line M_length M_sent M_state M_places M_least M_row M_rowSize M_differ M_blocks M_marks M_wrongs M_bytes M_rights M_tells M_lastMaster M_lastCounts M_system M_solved M_wrong M_fill M_half M_powers M_values M_logarithms M_word) → va_S A s.heap H locs → ∀ (ls : Array Slot), lv_has ls 6 [(0, .ref qM), (1, .int x1), (2, .int x2), (3, .int x3), (4, .int x4), (5, .int x5)] → W p l e (RM 1 22) s m args below meth c H locs 0 0 Q0 (F0 m 35 ls []) := by
        intro n35
        induction n35 with
        | zero => intro x1 x2 x3 x4 x5 M_values hm; cases hm
        | succ n35 ih35 =>
          intro x1 x2 x3 x4 x5 M_values hm H locs hP hD hS ls hl
          replace hm : f_Mo_isCodeword_35_b M_fill M_powers M_logarithms M_word (f_Mo_isCodeword_4 M_fill M_half M_powers M_logarithms M_word n4) (f_Mo_isCodeword_35 M_fill M_powers M_logarithms M_word (f_Mo_isCodeword_4 M_fill M_half M_powers M_logarithms M_word n4) n35) x1 x2 x3 x4 x5 M_values = some (rr, M_values') := hm
          unfold f_Mo_isCodeword_35_b at hm
          refine lv_iload hx hb d_Mo_isCodeword_35 (lv_at hl 5 rfl) ?_
          refine lv_aload_n hx hb d_Mo_isCodeword_37 rfl (lv_at hl 0 rfl) ?_
          obtain ⟨r3, hu, hm⟩ := bd_el hm
          replace hm := nm_1 hm
          refine z_cVi (wc := w_Mo_wordSize cI cJ qM M_thrown M_depth (.int M_half) M_pattern M_craft M_begins M_firsts M_seconds (.ref qM_powers) (.ref qM_logarithms) M_forms M_elements M_mixer M_data M_waiting M_master M_counts M_line M_length M_sent M_state M_places M_least M_row M_rowSize M_differ M_blocks M_marks M_wrongs M_bytes M_rights M_tells M_lastMaster M_lastCounts (.ref qM_word) (.ref qM_values) M_system M_solved M_wrong M_fill) (wc' := w_Mo_wordSize cI cJ qM M_thrown M_depth (.int M_half) M_pattern M_craft M_begins M_firsts M_seconds (.ref qM_powers) (.ref qM_logarithms) M_forms M_elements M_mixer M_data M_waiting M_master M_counts M_line M_length M_sent M_state M_places M_least M_row M_rowSize M_differ M_blocks M_marks M_wrongs M_bytes M_rights M_tells M_lastMaster M_lastCounts (.ref qM_word) (.ref qM_values) M_system M_solved M_wrong M_fill) (wr := [(qM_powers, .inl (cI, 255, .inl M_powers)), (qM_values, .inl (cI, 32, .inl M_values)), (qM_logarithms, .inl (cI, 256, .inl M_logarithms)), (qM_word, .inl (cI, 255, .inl M_word))]) (As := []) (rest := [.int x5]) (c_Mo_wordSize l D cI cJ tt qM M_thrown M_depth (.int M_half) M_pattern M_craft M_begins M_firsts M_seconds (.ref qM_powers) (.ref qM_logarithms) M_forms M_elements M_mixer M_data M_waiting M_master M_counts M_line M_length M_sent M_state M_places M_least M_row M_rowSize M_differ M_blocks M_marks M_wrongs M_bytes M_rights M_tells M_lastMaster M_lastCounts (.ref qM_word) (.ref qM_values) M_system M_solved M_wrong _ M_fill r3 hu) F ok_Mo_wordSize rfl k_1030 hK hE hP hD hS hA [0] [1, 2, 3, 4] rfl rfl (by decide) (by decide) (by decide) 0 rfl rfl rfl ⟨rfl, rfl, Nat.le_of_ble_eq_true rfl, Nat.le_of_ble_eq_true rfl⟩ ⟨Nat.zero_le _, Nat.zero_le _⟩ rfl hl.1 rfl (Nat.le_of_ble_eq_true rfl) d_Mo_isCodeword_38 (fun H locs hP hD hS => ?_)
          have hP : va_P D classes (w_Mo_isCodeword cI cJ qM qM_powers qM_values qM_logarithms qM_word M_thrown M_depth M_pattern M_craft M_begins M_firsts M_seconds M_forms M_elements M_mixer M_data M_waiting M_master M_counts M_line M_length M_sent M_state M_places M_least M_row M_rowSize M_differ M_blocks M_marks M_wrongs M_bytes M_rights M_tells M_lastMaster M_lastCounts M_system M_solved M_wrong M_fill M_half M_powers M_values M_logarithms M_word) H := hP.sub [4, 0, 1, 2, 3] rfl
          have hD : va_D A (w_Mo_isCodeword cI cJ qM qM_powers qM_values qM_logarithms qM_word M_thrown M_depth M_pattern M_craft M_begins M_firsts M_seconds M_forms M_elements M_mixer M_data M_waiting M_master M_counts M_line M_length M_sent M_state M_places M_least M_row M_rowSize M_differ M_blocks M_marks M_wrongs M_bytes M_rights M_tells M_lastMaster M_lastCounts M_system M_solved M_wrong M_fill M_half M_powers M_values M_logarithms M_word) := hD.sub [4, 0, 1, 2, 3] (by decide) rfl
          refine z_if hm (lv_icmp_ge (tgt := 67) hx hb d_Mo_isCodeword_41 (by decide)) (fun hm => ?_) (fun hm => ?_)
          · exact T67 x1 x2 x4 M_values hm _ _ hP hD hS _ (lv_sub hl [0, 1, 2, 4] rfl)
          · refine lv_aload_n hx hb d_Mo_isCodeword_44 rfl (lv_at hl 0 rfl) ?_
            refine lv_iload hx hb d_Mo_isCodeword_45 (lv_at hl 4 rfl) ?_
            refine lv_iload_n hx hb d_Mo_isCodeword_47 rfl (lv_at hl 3 rfl) ?_
            obtain ⟨r5, hu, hm⟩ := bd_el hm
            replace hm := nm_1 hm
            refine z_cVi (wc := w_Mo_product cI cJ qM qM_logarithms qM_powers M_thrown M_depth (.int M_fill) (.int M_half) M_pattern M_craft M_begins M_firsts M_seconds M_forms M_elements M_mixer M_data M_waiting M_master M_counts M_line M_length M_sent M_state M_places M_least M_row M_rowSize M_differ M_blocks M_marks M_wrongs M_bytes M_rights M_tells M_lastMaster M_lastCounts (.ref qM_word) (.ref qM_values) M_system M_solved M_wrong M_logarithms M_powers) (wc' := w_Mo_product cI cJ qM qM_logarithms qM_powers M_thrown M_depth (.int M_fill) (.int M_half) M_pattern M_craft M_begins M_firsts M_seconds M_forms M_elements M_mixer M_data M_waiting M_master M_counts M_line M_length M_sent M_state M_places M_least M_row M_rowSize M_differ M_blocks M_marks M_wrongs M_bytes M_rights M_tells M_lastMaster M_lastCounts (.ref qM_word) (.ref qM_values) M_system M_solved M_wrong M_logarithms M_powers) (wr := [(qM_values, .inl (cI, 32, .inl M_values)), (qM_word, .inl (cI, 255, .inl M_word))]) (As := [.int x4, .int x3]) (rest := []) (c_Mo_product l D cI cJ tt qM qM_logarithms qM_powers M_thrown M_depth (.int M_fill) (.int M_half) M_pattern M_craft M_begins M_firsts M_seconds M_forms M_elements M_mixer M_data M_waiting M_master M_counts M_line M_length M_sent M_state M_places M_least M_row M_rowSize M_differ M_blocks M_marks M_wrongs M_bytes M_rights M_tells M_lastMaster M_lastCounts (.ref qM_word) (.ref qM_values) M_system M_solved M_wrong _ M_logarithms M_powers x4 x3 r5 hu) F ok_Mo_product rfl k_1090 hK hE hP hD hS hA [0, 3, 1] [2, 4] rfl rfl (by decide) (by decide) (by decide) 0 rfl rfl rfl ⟨rfl, rfl, Nat.le_of_ble_eq_true rfl, Nat.le_of_ble_eq_true rfl⟩ ⟨Nat.zero_le _, Nat.zero_le _⟩ rfl hl.1 rfl (Nat.le_of_ble_eq_true rfl) d_Mo_isCodeword_48 (fun H locs hP hD hS => ?_)
            have hP : va_P D classes (w_Mo_isCodeword cI cJ qM qM_powers qM_values qM_logarithms qM_word M_thrown M_depth M_pattern M_craft M_begins M_firsts M_seconds M_forms M_elements M_mixer M_data M_waiting M_master M_counts M_line M_length M_sent M_state M_places M_least M_row M_rowSize M_differ M_blocks M_marks M_wrongs M_bytes M_rights M_tells M_lastMaster M_lastCounts M_system M_solved M_wrong M_fill M_half M_powers M_values M_logarithms M_word) H := hP.sub [2, 4, 0, 3, 1] rfl
            have hD : va_D A (w_Mo_isCodeword cI cJ qM qM_powers qM_values qM_logarithms qM_word M_thrown M_depth M_pattern M_craft M_begins M_firsts M_seconds M_forms M_elements M_mixer M_data M_waiting M_master M_counts M_line M_length M_sent M_state M_places M_least M_row M_rowSize M_differ M_blocks M_marks M_wrongs M_bytes M_rights M_tells M_lastMaster M_lastCounts M_system M_solved M_wrong M_fill M_half M_powers M_values M_logarithms M_word) := hD.sub [2, 4, 0, 3, 1] (by decide) rfl
            refine lv_aload_n hx hb d_Mo_isCodeword_51 rfl (lv_at hl 0 rfl) ?_
            refine va_get (D := D) (ci := 11) (v := .ref qM_word) (C := "DeepChannelModel") (T := fT_Mo) (N := 40) hx hb hts u_Mo hown hK hP 0 rfl rfl 35 (by decide) (hts _ k_921) (fun _ h9 => h9) rfl d_Mo_isCodeword_52 ?_
            refine lv_iload hx hb d_Mo_isCodeword_55 (lv_at hl 5 rfl) ?_
            refine z_iald hm hx hb hK hP 4 rfl d_Mo_isCodeword_57 (fun v7 hm => ?_)
            refine lv_ixor hx hb d_Mo_isCodeword_58 ?_
            refine z_nmi hm (fun v8 hm => ?_)
            refine lv_istore (lv' := [(4, .int v8), (0, .ref qM), (1, .int x1), (2, .int x2), (3, .int x3), (5, .int x5)]) hx hb d_Mo_isCodeword_59 hl (by decide) rfl (fun ls hl => ?_)
            obtain ⟨v9, ev, hm⟩ := nm_el hm
            refine lv_iinc (v := v9) (lv' := [(5, .int v9), (4, .int v8), (0, .ref qM), (1, .int x1), (2, .int x2), (3, .int x3)]) hx hb d_Mo_isCodeword_61 hl (k := 5) rfl (by rw [ev]; rfl) (by decide) rfl (fun ls hl => ?_)
            refine lv_goto (tgt := 35) hx hb d_Mo_isCodeword_64 (by decide) ?_
            exact ih35 x1 x2 x3 v8 v9 M_values hm _ _ hP hD hS _ (lv_sub hl [2, 3, 4, 5, 1, 0] rfl)
      intro x1 x2 M_values hm H locs hP hD hS ls hl
      replace hm : f_Mo_isCodeword_4_b M_fill M_half M_powers M_logarithms M_word (f_Mo_isCodeword_4 M_fill M_half M_powers M_logarithms M_word n4) x1 x2 M_values = some (rr, M_values') := hm
      unfold f_Mo_isCodeword_4_b at hm
      refine lv_iload_n hx hb d_Mo_isCodeword_4 rfl (lv_at hl 2 rfl) ?_
      refine lv_iconst (v := (2 : Int32)) hx hb d_Mo_isCodeword_5 (by decide) ?_
      refine lv_aload_n hx hb d_Mo_isCodeword_6 rfl (lv_at hl 0 rfl) ?_
      refine va_get (D := D) (ci := 11) (v := .int M_half) (C := "DeepChannelModel") (T := fT_Mo) (N := 40) hx hb hts u_Mo hown hK hP 0 rfl rfl 3 (by decide) (hts _ k_889) (fun _ h9 => h9) rfl d_Mo_isCodeword_7 ?_
      refine lv_imul hx hb d_Mo_isCodeword_10 ?_
      refine z_if hm (lv_icmp_ge (tgt := 96) hx hb d_Mo_isCodeword_11 (by decide)) (fun hm => ?_) (fun hm => ?_)
      · refine lv_iload_n hx hb d_Mo_isCodeword_96 rfl (lv_at hl 1 rfl) ?_
        obtain ⟨hz, hm⟩ := zb_el hm
        cases hm
        exact z_qo hQ (z_iretz hz hr hx hb hlocks hK hP hD hS d_Mo_isCodeword_97)
      · refine lv_aload_n hx hb d_Mo_isCodeword_14 rfl (lv_at hl 0 rfl) ?_
        refine lv_sipush (v := (128 : Int32)) hx hb d_Mo_isCodeword_15 (by decide) ?_
        refine lv_aload_n hx hb d_Mo_isCodeword_18 rfl (lv_at hl 0 rfl) ?_
        refine va_get (D := D) (ci := 11) (v := .int M_half) (C := "DeepChannelModel") (T := fT_Mo) (N := 40) hx hb hts u_Mo hown hK hP 0 rfl rfl 3 (by decide) (hts _ k_889) (fun _ h9 => h9) rfl d_Mo_isCodeword_19 ?_
        refine lv_isub hx hb d_Mo_isCodeword_22 ?_
        refine lv_iload_n hx hb d_Mo_isCodeword_23 rfl (lv_at hl 2 rfl) ?_
        refine lv_iadd hx hb d_Mo_isCodeword_24 ?_
        obtain ⟨r10, hu, hm⟩ := bd_el hm
        replace hm := nm_1 hm
        refine z_cVi (wc := w_Mo_ofG cI cJ qM qM_powers M_thrown M_depth (.int M_fill) (.int M_half) M_pattern M_craft M_begins M_firsts M_seconds (.ref qM_logarithms) M_forms M_elements M_mixer M_data M_waiting M_master M_counts M_line M_length M_sent M_state M_places M_least M_row M_rowSize M_differ M_blocks M_marks M_wrongs M_bytes M_rights M_tells M_lastMaster M_lastCounts (.ref qM_word) (.ref qM_values) M_system M_solved M_wrong M_powers) (wc' := w_Mo_ofG cI cJ qM qM_powers M_thrown M_depth (.int M_fill) (.int M_half) M_pattern M_craft M_begins M_firsts M_seconds (.ref qM_logarithms) M_forms M_elements M_mixer M_data M_waiting M_master M_counts M_line M_length M_sent M_state M_places M_least M_row M_rowSize M_differ M_blocks M_marks M_wrongs M_bytes M_rights M_tells M_lastMaster M_lastCounts (.ref qM_word) (.ref qM_values) M_system M_solved M_wrong M_powers) (wr := [(qM_values, .inl (cI, 32, .inl M_values)), (qM_logarithms, .inl (cI, 256, .inl M_logarithms)), (qM_word, .inl (cI, 255, .inl M_word))]) (As := [.int (((128 : Int32) - M_half) + x2)]) (rest := []) (c_Mo_ofG l D cI cJ tt qM qM_powers M_thrown M_depth (.int M_fill) (.int M_half) M_pattern M_craft M_begins M_firsts M_seconds (.ref qM_logarithms) M_forms M_elements M_mixer M_data M_waiting M_master M_counts M_line M_length M_sent M_state M_places M_least M_row M_rowSize M_differ M_blocks M_marks M_wrongs M_bytes M_rights M_tells M_lastMaster M_lastCounts (.ref qM_word) (.ref qM_values) M_system M_solved M_wrong _ M_powers (((128 : Int32) - M_half) + x2) r10 hu) F ok_Mo_ofG rfl k_1086 hK hE hP hD hS hA [0, 1] [2, 3, 4] rfl rfl (by decide) (by decide) (by decide) 0 rfl rfl rfl ⟨rfl, rfl, Nat.le_of_ble_eq_true rfl, Nat.le_of_ble_eq_true rfl⟩ ⟨Nat.zero_le _, Nat.zero_le _⟩ rfl hl.1 rfl (Nat.le_of_ble_eq_true rfl) d_Mo_isCodeword_25 (fun H locs hP hD hS => ?_)
        have hP : va_P D classes (w_Mo_isCodeword cI cJ qM qM_powers qM_values qM_logarithms qM_word M_thrown M_depth M_pattern M_craft M_begins M_firsts M_seconds M_forms M_elements M_mixer M_data M_waiting M_master M_counts M_line M_length M_sent M_state M_places M_least M_row M_rowSize M_differ M_blocks M_marks M_wrongs M_bytes M_rights M_tells M_lastMaster M_lastCounts M_system M_solved M_wrong M_fill M_half M_powers M_values M_logarithms M_word) H := hP.sub [3, 4, 0, 1, 2] rfl
        have hD : va_D A (w_Mo_isCodeword cI cJ qM qM_powers qM_values qM_logarithms qM_word M_thrown M_depth M_pattern M_craft M_begins M_firsts M_seconds M_forms M_elements M_mixer M_data M_waiting M_master M_counts M_line M_length M_sent M_state M_places M_least M_row M_rowSize M_differ M_blocks M_marks M_wrongs M_bytes M_rights M_tells M_lastMaster M_lastCounts M_system M_solved M_wrong M_fill M_half M_powers M_values M_logarithms M_word) := hD.sub [3, 4, 0, 1, 2] (by decide) rfl
        refine lv_istore_n (lv' := [(3, .int r10), (0, .ref qM), (1, .int x1), (2, .int x2)]) hx hb d_Mo_isCodeword_28 rfl hl (by decide) rfl (fun ls hl => ?_)
        refine lv_iconst (v := (0 : Int32)) hx hb d_Mo_isCodeword_29 (by decide) ?_
        refine lv_istore (lv' := [(4, .int (0 : Int32)), (3, .int r10), (0, .ref qM), (1, .int x1), (2, .int x2)]) hx hb d_Mo_isCodeword_30 hl (by decide) rfl (fun ls hl => ?_)
        refine lv_iconst (v := (0 : Int32)) hx hb d_Mo_isCodeword_32 (by decide) ?_
        refine lv_istore (lv' := [(5, .int (0 : Int32)), (4, .int (0 : Int32)), (3, .int r10), (0, .ref qM), (1, .int x1), (2, .int x2)]) hx hb d_Mo_isCodeword_33 hl (by decide) rfl (fun ls hl => ?_)
        exact T35 10000 x1 x2 r10 (0 : Int32) (0 : Int32) M_values hm _ _ hP hD hS _ (lv_sub hl [3, 4, 5, 2, 1, 0] rfl)
  unfold f_Mo_isCodeword at hm
  refine lv_iconst (v := (1 : Int32)) hx hb d_Mo_isCodeword_0 (by decide) ?_
  refine lv_istore_n (lv' := [(1, .int (1 : Int32)), (0, .ref qM)]) hx hb d_Mo_isCodeword_1 rfl hl (by decide) rfl (fun ls hl => ?_)
  refine lv_iconst (v := (0 : Int32)) hx hb d_Mo_isCodeword_2 (by decide) ?_
  refine lv_istore_n (lv' := [(2, .int (0 : Int32)), (1, .int (1 : Int32)), (0, .ref qM)]) hx hb d_Mo_isCodeword_3 rfl hl (by decide) rfl (fun ls hl => ?_)
  exact T4 10000 (1 : Int32) (0 : Int32) M_values hm _ _ hP hD hS _ (lv_sub hl [2, 1, 0] rfl)
-- DeepChannelModel.check()V
abbrev b_Mo_check : ByteArray := prog_13_method_27_code
abbrev y_Mo_check : MethodName := ⟨"DeepChannelModel", "check", "()V"⟩
theorem d_Mo_check_0 : decode b_Mo_check 0 = .ok (.iconst 2, 1) := by decide +kernel
theorem d_Mo_check_1 : decode b_Mo_check 1 = .ok (.aload_n 0, 1) := by decide +kernel
theorem d_Mo_check_2 : decode b_Mo_check 2 = .ok (.getfield 16, 3) := by decide +kernel
theorem d_Mo_check_5 : decode b_Mo_check 5 = .ok (.imul, 1) := by decide +kernel
theorem d_Mo_check_6 : decode b_Mo_check 6 = .ok (.istore_n 1, 1) := by decide +kernel
theorem d_Mo_check_7 : decode b_Mo_check 7 = .ok (.aload_n 0, 1) := by decide +kernel
theorem d_Mo_check_8 : decode b_Mo_check 8 = .ok (.invokevirtual 181, 3) := by decide +kernel
theorem d_Mo_check_11 : decode b_Mo_check 11 = .ok (.istore_n 2, 1) := by decide +kernel
theorem d_Mo_check_12 : decode b_Mo_check 12 = .ok (.iconst 0, 1) := by decide +kernel
theorem d_Mo_check_13 : decode b_Mo_check 13 = .ok (.istore_n 3, 1) := by decide +kernel
theorem d_Mo_check_14 : decode b_Mo_check 14 = .ok (.iload_n 3, 1) := by decide +kernel
theorem d_Mo_check_15 : decode b_Mo_check 15 = .ok (.iload_n 1, 1) := by decide +kernel
theorem d_Mo_check_16 : decode b_Mo_check 16 = .ok (.if_icmp .ge 74, 3) := by decide +kernel
theorem d_Mo_check_19 : decode b_Mo_check 19 = .ok (.iload_n 2, 1) := by decide +kernel
theorem d_Mo_check_20 : decode b_Mo_check 20 = .ok (.ifCond .ne 70, 3) := by decide +kernel
theorem d_Mo_check_23 : decode b_Mo_check 23 = .ok (.iconst 0, 1) := by decide +kernel
theorem d_Mo_check_24 : decode b_Mo_check 24 = .ok (.istore 4, 2) := by decide +kernel
theorem d_Mo_check_26 : decode b_Mo_check 26 = .ok (.iload 4, 2) := by decide +kernel
theorem d_Mo_check_28 : decode b_Mo_check 28 = .ok (.iload_n 1, 1) := by decide +kernel
theorem d_Mo_check_29 : decode b_Mo_check 29 = .ok (.if_icmp .ge 38, 3) := by decide +kernel
theorem d_Mo_check_32 : decode b_Mo_check 32 = .ok (.aload_n 0, 1) := by decide +kernel
theorem d_Mo_check_33 : decode b_Mo_check 33 = .ok (.getfield 87, 3) := by decide +kernel
theorem d_Mo_check_36 : decode b_Mo_check 36 = .ok (.bipush 33, 2) := by decide +kernel
theorem d_Mo_check_38 : decode b_Mo_check 38 = .ok (.iload_n 3, 1) := by decide +kernel
theorem d_Mo_check_39 : decode b_Mo_check 39 = .ok (.imul, 1) := by decide +kernel
theorem d_Mo_check_40 : decode b_Mo_check 40 = .ok (.iload 4, 2) := by decide +kernel
theorem d_Mo_check_42 : decode b_Mo_check 42 = .ok (.iadd, 1) := by decide +kernel
theorem d_Mo_check_43 : decode b_Mo_check 43 = .ok (.aload_n 0, 1) := by decide +kernel
theorem d_Mo_check_44 : decode b_Mo_check 44 = .ok (.sipush 128, 3) := by decide +kernel
theorem d_Mo_check_47 : decode b_Mo_check 47 = .ok (.aload_n 0, 1) := by decide +kernel
theorem d_Mo_check_48 : decode b_Mo_check 48 = .ok (.getfield 16, 3) := by decide +kernel
theorem d_Mo_check_51 : decode b_Mo_check 51 = .ok (.isub, 1) := by decide +kernel
theorem d_Mo_check_52 : decode b_Mo_check 52 = .ok (.iload_n 3, 1) := by decide +kernel
theorem d_Mo_check_53 : decode b_Mo_check 53 = .ok (.iadd, 1) := by decide +kernel
theorem d_Mo_check_54 : decode b_Mo_check 54 = .ok (.iload 4, 2) := by decide +kernel
theorem d_Mo_check_56 : decode b_Mo_check 56 = .ok (.imul, 1) := by decide +kernel
theorem d_Mo_check_57 : decode b_Mo_check 57 = .ok (.invokevirtual 178, 3) := by decide +kernel
theorem d_Mo_check_60 : decode b_Mo_check 60 = .ok (.iastore, 1) := by decide +kernel
theorem d_Mo_check_61 : decode b_Mo_check 61 = .ok (.iinc 4 1, 3) := by decide +kernel
theorem d_Mo_check_64 : decode b_Mo_check 64 = .ok (.goto (-38), 3) := by decide +kernel
theorem d_Mo_check_67 : decode b_Mo_check 67 = .ok (.aload_n 0, 1) := by decide +kernel
theorem d_Mo_check_68 : decode b_Mo_check 68 = .ok (.getfield 87, 3) := by decide +kernel
theorem d_Mo_check_71 : decode b_Mo_check 71 = .ok (.bipush 33, 2) := by decide +kernel
theorem d_Mo_check_73 : decode b_Mo_check 73 = .ok (.iload_n 3, 1) := by decide +kernel
theorem d_Mo_check_74 : decode b_Mo_check 74 = .ok (.imul, 1) := by decide +kernel
theorem d_Mo_check_75 : decode b_Mo_check 75 = .ok (.iload_n 1, 1) := by decide +kernel
theorem d_Mo_check_76 : decode b_Mo_check 76 = .ok (.iadd, 1) := by decide +kernel
theorem d_Mo_check_77 : decode b_Mo_check 77 = .ok (.aload_n 0, 1) := by decide +kernel
theorem d_Mo_check_78 : decode b_Mo_check 78 = .ok (.getfield 84, 3) := by decide +kernel
theorem d_Mo_check_81 : decode b_Mo_check 81 = .ok (.iload_n 3, 1) := by decide +kernel
theorem d_Mo_check_82 : decode b_Mo_check 82 = .ok (.iaload, 1) := by decide +kernel
theorem d_Mo_check_83 : decode b_Mo_check 83 = .ok (.iastore, 1) := by decide +kernel
theorem d_Mo_check_84 : decode b_Mo_check 84 = .ok (.iinc 3 1, 3) := by decide +kernel
theorem d_Mo_check_87 : decode b_Mo_check 87 = .ok (.goto (-73), 3) := by decide +kernel
theorem d_Mo_check_90 : decode b_Mo_check 90 = .ok (.iload_n 2, 1) := by decide +kernel
theorem d_Mo_check_91 : decode b_Mo_check 91 = .ok (.ifCond .ne 15, 3) := by decide +kernel
theorem d_Mo_check_94 : decode b_Mo_check 94 = .ok (.aload_n 0, 1) := by decide +kernel
theorem d_Mo_check_95 : decode b_Mo_check 95 = .ok (.iload_n 1, 1) := by decide +kernel
theorem d_Mo_check_96 : decode b_Mo_check 96 = .ok (.invokevirtual 185, 3) := by decide +kernel
theorem d_Mo_check_99 : decode b_Mo_check 99 = .ok (.ifCond .eq 7, 3) := by decide +kernel
theorem d_Mo_check_102 : decode b_Mo_check 102 = .ok (.iconst 1, 1) := by decide +kernel
theorem d_Mo_check_103 : decode b_Mo_check 103 = .ok (.goto 4, 3) := by decide +kernel
theorem d_Mo_check_106 : decode b_Mo_check 106 = .ok (.iconst 0, 1) := by decide +kernel
theorem d_Mo_check_107 : decode b_Mo_check 107 = .ok (.istore_n 3, 1) := by decide +kernel
theorem d_Mo_check_108 : decode b_Mo_check 108 = .ok (.iconst 0, 1) := by decide +kernel
theorem d_Mo_check_109 : decode b_Mo_check 109 = .ok (.istore 4, 2) := by decide +kernel
theorem d_Mo_check_111 : decode b_Mo_check 111 = .ok (.iload 4, 2) := by decide +kernel
theorem d_Mo_check_113 : decode b_Mo_check 113 = .ok (.iload_n 1, 1) := by decide +kernel
theorem d_Mo_check_114 : decode b_Mo_check 114 = .ok (.if_icmp .ge 34, 3) := by decide +kernel
theorem d_Mo_check_117 : decode b_Mo_check 117 = .ok (.iload_n 3, 1) := by decide +kernel
theorem d_Mo_check_118 : decode b_Mo_check 118 = .ok (.ifCond .eq 30, 3) := by decide +kernel
theorem d_Mo_check_121 : decode b_Mo_check 121 = .ok (.aload_n 0, 1) := by decide +kernel
theorem d_Mo_check_122 : decode b_Mo_check 122 = .ok (.getfield 81, 3) := by decide +kernel
theorem d_Mo_check_125 : decode b_Mo_check 125 = .ok (.aload_n 0, 1) := by decide +kernel
theorem d_Mo_check_126 : decode b_Mo_check 126 = .ok (.invokevirtual 110, 3) := by decide +kernel
theorem d_Mo_check_129 : decode b_Mo_check 129 = .ok (.iconst 1, 1) := by decide +kernel
theorem d_Mo_check_130 : decode b_Mo_check 130 = .ok (.isub, 1) := by decide +kernel
theorem d_Mo_check_131 : decode b_Mo_check 131 = .ok (.iload 4, 2) := by decide +kernel
theorem d_Mo_check_133 : decode b_Mo_check 133 = .ok (.isub, 1) := by decide +kernel
theorem d_Mo_check_134 : decode b_Mo_check 134 = .ok (.aload_n 0, 1) := by decide +kernel
theorem d_Mo_check_135 : decode b_Mo_check 135 = .ok (.getfield 90, 3) := by decide +kernel
theorem d_Mo_check_138 : decode b_Mo_check 138 = .ok (.iload 4, 2) := by decide +kernel
theorem d_Mo_check_140 : decode b_Mo_check 140 = .ok (.iaload, 1) := by decide +kernel
theorem d_Mo_check_141 : decode b_Mo_check 141 = .ok (.iastore, 1) := by decide +kernel
theorem d_Mo_check_142 : decode b_Mo_check 142 = .ok (.iinc 4 1, 3) := by decide +kernel
theorem d_Mo_check_145 : decode b_Mo_check 145 = .ok (.goto (-34), 3) := by decide +kernel
theorem d_Mo_check_148 : decode b_Mo_check 148 = .ok (.return_, 1) := by decide +kernel
theorem ok_Mo_check : OKv y_Mo_check b_Mo_check 5 none "DeepChannelModel" 0 := ⟨k_1081, k_1080, k_25, k_55, by decide +kernel, by decide +kernel, by decide +kernel⟩
abbrev w_Mo_check (cI cJ : ClassId) (qM qM_powers qM_values qM_logarithms qM_word qM_solved qM_system : Nat) (M_thrown M_depth M_pattern M_craft M_begins M_firsts M_seconds M_forms M_elements M_mixer M_data M_waiting M_master M_counts M_line M_length M_sent M_state M_places M_least M_row M_rowSize M_differ M_blocks M_marks M_wrongs M_bytes M_rights M_tells M_lastMaster M_lastCounts M_wrong : Value) (M_fill : Int32) (M_half : Int32) (M_powers : Nat → Int32) (M_values : Nat → Int32) (M_logarithms : Nat → Int32) (M_word : Nat → Int32) (M_solved : Nat → Int32) (M_system : Nat → Int32) : va_W := [(qM, .inr (11, [M_thrown, M_depth, .int M_fill, .int M_half, M_pattern, M_craft, M_begins, M_firsts, M_seconds, .ref qM_powers, .ref qM_logarithms, M_forms, M_elements, M_mixer, M_data, M_waiting, M_master, M_counts, M_line, M_length, M_sent, M_state, M_places, M_least, M_row, M_rowSize, M_differ, M_blocks, M_marks, M_wrongs, M_bytes, M_rights, M_tells, M_lastMaster, M_lastCounts, .ref qM_word, .ref qM_values, .ref qM_system, .ref qM_solved, M_wrong])), (qM_powers, .inl (cI, 255, .inl M_powers)), (qM_values, .inl (cI, 32, .inl M_values)), (qM_logarithms, .inl (cI, 256, .inl M_logarithms)), (qM_word, .inl (cI, 255, .inl M_word)), (qM_solved, .inl (cI, 32, .inl M_solved)), (qM_system, .inl (cI, 1056, .inl M_system))]
def f_Mo_check_111_b (M_fill : Int32) (kh111 : Int32 → Int32 → Int32 → (Nat → Int32) → (Nat → Int32) → (Nat → Int32) → (Nat → Int32) → Option ((Nat → Int32) × (Nat → Int32) × (Nat → Int32) × (Nat → Int32))) (x1 : Int32) (x3 : Int32) (x4 : Int32) (M_values : Nat → Int32) (M_word : Nat → Int32) (M_solved : Nat → Int32) (M_system : Nat → Int32) : Option ((Nat → Int32) × (Nat → Int32) × (Nat → Int32) × (Nat → Int32)) :=
  if x1 ≤ x4 then
    some (M_values, M_word, M_solved, M_system)
  else
  if x3 = 0 then
    some (M_values, M_word, M_solved, M_system)
  else
  bd (f_Mo_wordSize M_fill) fun u2 =>
  nm u2 fun r1 =>
  rdI M_solved 32 x4 fun v3 =>
  wrI M_word 255 ((r1 - (1 : Int32)) - x4) v3 fun g4 =>
  nm (x4 + (1 : Int32)) fun v5 =>
  kh111 x1 x3 v5 M_values g4 M_solved M_system
def f_Mo_check_111 (M_fill : Int32) : Nat → Int32 → Int32 → Int32 → (Nat → Int32) → (Nat → Int32) → (Nat → Int32) → (Nat → Int32) → Option ((Nat → Int32) × (Nat → Int32) × (Nat → Int32) × (Nat → Int32))
  | 0 => fun _ _ _ _ _ _ _ => none
  | n + 1 => fun x1 x3 x4 M_values M_word M_solved M_system => f_Mo_check_111_b M_fill (f_Mo_check_111 M_fill n) x1 x3 x4 M_values M_word M_solved M_system
def f_Mo_check_107 (M_fill : Int32) (x1 : Int32) (t0 : Int32) (M_values : Nat → Int32) (M_word : Nat → Int32) (M_solved : Nat → Int32) (M_system : Nat → Int32) : Option ((Nat → Int32) × (Nat → Int32) × (Nat → Int32) × (Nat → Int32)) :=
  f_Mo_check_111 M_fill 10000 x1 t0 (0 : Int32) M_values M_word M_solved M_system
def f_Mo_check_106 (M_fill : Int32) (x1 : Int32) (M_values : Nat → Int32) (M_word : Nat → Int32) (M_solved : Nat → Int32) (M_system : Nat → Int32) : Option ((Nat → Int32) × (Nat → Int32) × (Nat → Int32) × (Nat → Int32)) :=
  f_Mo_check_107 M_fill x1 (0 : Int32) M_values M_word M_solved M_system
def f_Mo_check_90 (M_fill : Int32) (M_powers : Nat → Int32) (M_logarithms : Nat → Int32) (x1 : Int32) (x2 : Int32) (M_values : Nat → Int32) (M_word : Nat → Int32) (M_solved : Nat → Int32) (M_system : Nat → Int32) : Option ((Nat → Int32) × (Nat → Int32) × (Nat → Int32) × (Nat → Int32)) :=
  if x2 = 0 then
    bd (f_Mo_solves M_system M_solved M_logarithms M_powers x1) fun u9 =>
    nm u9.1 fun r6 =>
    nm u9.2.1 fun g7 =>
    nm u9.2.2 fun g8 =>
    if r6 = 0 then
      f_Mo_check_106 M_fill x1 M_values M_word g8 g7
    else
    f_Mo_check_107 M_fill x1 (1 : Int32) M_values M_word g8 g7
  else
  f_Mo_check_106 M_fill x1 M_values M_word M_solved M_system
def f_Mo_check_67 (kh14 : Int32 → Int32 → Int32 → (Nat → Int32) → (Nat → Int32) → (Nat → Int32) → (Nat → Int32) → Option ((Nat → Int32) × (Nat → Int32) × (Nat → Int32) × (Nat → Int32))) (x1 : Int32) (x2 : Int32) (x3 : Int32) (M_values : Nat → Int32) (M_word : Nat → Int32) (M_solved : Nat → Int32) (M_system : Nat → Int32) : Option ((Nat → Int32) × (Nat → Int32) × (Nat → Int32) × (Nat → Int32)) :=
  rdI M_values 32 x3 fun v10 =>
  wrI M_system 1056 (((33 : Int32) * x3) + x1) v10 fun g11 =>
  nm (x3 + (1 : Int32)) fun v12 =>
  kh14 x1 x2 v12 M_values M_word M_solved g11
def f_Mo_check_26_b (M_half : Int32) (M_powers : Nat → Int32) (kh14 : Int32 → Int32 → Int32 → (Nat → Int32) → (Nat → Int32) → (Nat → Int32) → (Nat → Int32) → Option ((Nat → Int32) × (Nat → Int32) × (Nat → Int32) × (Nat → Int32))) (kh26 : Int32 → Int32 → Int32 → Int32 → (Nat → Int32) → (Nat → Int32) → (Nat → Int32) → (Nat → Int32) → Option ((Nat → Int32) × (Nat → Int32) × (Nat → Int32) × (Nat → Int32))) (x1 : Int32) (x2 : Int32) (x3 : Int32) (x4 : Int32) (M_values : Nat → Int32) (M_word : Nat → Int32) (M_solved : Nat → Int32) (M_system : Nat → Int32) : Option ((Nat → Int32) × (Nat → Int32) × (Nat → Int32) × (Nat → Int32)) :=
  if x1 ≤ x4 then
    f_Mo_check_67 kh14 x1 x2 x3 M_values M_word M_solved M_system
  else
  bd (f_Mo_ofG M_powers ((((128 : Int32) - M_half) + x3) * x4)) fun u14 =>
  nm u14 fun r13 =>
  wrI M_system 1056 (((33 : Int32) * x3) + x4) r13 fun g15 =>
  nm (x4 + (1 : Int32)) fun v16 =>
  kh26 x1 x2 x3 v16 M_values M_word M_solved g15
def f_Mo_check_26 (M_half : Int32) (M_powers : Nat → Int32) (kh14 : Int32 → Int32 → Int32 → (Nat → Int32) → (Nat → Int32) → (Nat → Int32) → (Nat → Int32) → Option ((Nat → Int32) × (Nat → Int32) × (Nat → Int32) × (Nat → Int32))) : Nat → Int32 → Int32 → Int32 → Int32 → (Nat → Int32) → (Nat → Int32) → (Nat → Int32) → (Nat → Int32) → Option ((Nat → Int32) × (Nat → Int32) × (Nat → Int32) × (Nat → Int32))
  | 0 => fun _ _ _ _ _ _ _ _ => none
  | n + 1 => fun x1 x2 x3 x4 M_values M_word M_solved M_system => f_Mo_check_26_b M_half M_powers kh14 (f_Mo_check_26 M_half M_powers kh14 n) x1 x2 x3 x4 M_values M_word M_solved M_system
def f_Mo_check_14_b (M_fill : Int32) (M_half : Int32) (M_powers : Nat → Int32) (M_logarithms : Nat → Int32) (kh14 : Int32 → Int32 → Int32 → (Nat → Int32) → (Nat → Int32) → (Nat → Int32) → (Nat → Int32) → Option ((Nat → Int32) × (Nat → Int32) × (Nat → Int32) × (Nat → Int32))) (x1 : Int32) (x2 : Int32) (x3 : Int32) (M_values : Nat → Int32) (M_word : Nat → Int32) (M_solved : Nat → Int32) (M_system : Nat → Int32) : Option ((Nat → Int32) × (Nat → Int32) × (Nat → Int32) × (Nat → Int32)) :=
  if x1 ≤ x3 then
    f_Mo_check_90 M_fill M_powers M_logarithms x1 x2 M_values M_word M_solved M_system
  else
  if x2 = 0 then
    f_Mo_check_26 M_half M_powers kh14 10000 x1 x2 x3 (0 : Int32) M_values M_word M_solved M_system
  else
  f_Mo_check_90 M_fill M_powers M_logarithms x1 x2 M_values M_word M_solved M_system
def f_Mo_check_14 (M_fill : Int32) (M_half : Int32) (M_powers : Nat → Int32) (M_logarithms : Nat → Int32) : Nat → Int32 → Int32 → Int32 → (Nat → Int32) → (Nat → Int32) → (Nat → Int32) → (Nat → Int32) → Option ((Nat → Int32) × (Nat → Int32) × (Nat → Int32) × (Nat → Int32))
  | 0 => fun _ _ _ _ _ _ _ => none
  | n + 1 => fun x1 x2 x3 M_values M_word M_solved M_system => f_Mo_check_14_b M_fill M_half M_powers M_logarithms (f_Mo_check_14 M_fill M_half M_powers M_logarithms n) x1 x2 x3 M_values M_word M_solved M_system
def f_Mo_check (M_fill : Int32) (M_half : Int32) (M_powers : Nat → Int32) (M_values : Nat → Int32) (M_logarithms : Nat → Int32) (M_word : Nat → Int32) (M_solved : Nat → Int32) (M_system : Nat → Int32) : Option ((Nat → Int32) × (Nat → Int32) × (Nat → Int32) × (Nat → Int32)) :=
  nm ((2 : Int32) * M_half) fun v17 =>
  bd (f_Mo_isCodeword M_fill M_half M_powers M_values M_logarithms M_word) fun u20 =>
  nm u20.1 fun r18 =>
  nm u20.2 fun g19 =>
  f_Mo_check_14 M_fill M_half M_powers M_logarithms 10000 v17 r18 (0 : Int32) g19 M_word M_solved M_system
set_option maxHeartbeats 4000000 in
set_option maxRecDepth 100000 in
theorem c_Mo_check (l : Launch) (D : va_G) (cI cJ : ClassId) (tt : Nat → Nat) (qM qM_powers qM_values qM_logarithms qM_word qM_solved qM_system : Nat) (M_thrown M_depth M_pattern M_craft M_begins M_firsts M_seconds M_forms M_elements M_mixer M_data M_waiting M_master M_counts M_line M_length M_sent M_state M_places M_least M_row M_rowSize M_differ M_blocks M_marks M_wrongs M_bytes M_rights M_tells M_lastMaster M_lastCounts M_wrong : Value) (sz : Nat) (M_fill : Int32) (M_half : Int32) (M_powers : Nat → Int32) (M_values : Nat → Int32) (M_logarithms : Nat → Int32) (M_word : Nat → Int32) (M_solved : Nat → Int32) (M_system : Nat → Int32) (M_values' : Nat → Int32) (M_word' : Nat → Int32) (M_solved' : Nat → Int32) (M_system' : Nat → Int32) (hm : f_Mo_check M_fill M_half M_powers M_values M_logarithms M_word M_solved M_system = some (M_values', M_word', M_solved', M_system')) : CTv l y_Mo_check b_Mo_check 5 none (RM 2 49) D cI cJ tt [.ref qM] (w_Mo_check cI cJ qM qM_powers qM_values qM_logarithms qM_word qM_solved qM_system M_thrown M_depth M_pattern M_craft M_begins M_firsts M_seconds M_forms M_elements M_mixer M_data M_waiting M_master M_counts M_line M_length M_sent M_state M_places M_least M_row M_rowSize M_differ M_blocks M_marks M_wrongs M_bytes M_rights M_tells M_lastMaster M_lastCounts M_wrong M_fill M_half M_powers M_values M_logarithms M_word M_solved M_system) (w_Mo_check cI cJ qM qM_powers qM_values qM_logarithms qM_word qM_solved qM_system M_thrown M_depth M_pattern M_craft M_begins M_firsts M_seconds M_forms M_elements M_mixer M_data M_waiting M_master M_counts M_line M_length M_sent M_state M_places M_least M_row M_rowSize M_differ M_blocks M_marks M_wrongs M_bytes M_rights M_tells M_lastMaster M_lastCounts M_wrong M_fill M_half M_powers M_values' M_logarithms M_word' M_solved' M_system') sz := by
  refine Met.ofW (cc := b_Mo_check) (maxL := 5) (ret := none) (by decide) rfl ?_
  intro p e s m args below meth c s₁ B hml hv
  obtain ⟨hargs, hsz, hP, hK, hD0, hE⟩ := hv
  have hx := B.exec
  have hb := B.bytes
  have hr := B.returns
  have hts : ∀ w ∈ TB, w.before args s = true := z_mV s (atoms_spec (ws := WD y_Mo_check b_Mo_check 5 none) B.pre)
  have hown : s.vm.findClass "DeepChannelModel" = some m.cls := findClass_of_methodNamed B.named
  have hlocks := B.notSynchronized
  subst hsz
  have hD := hD0.self (sz := s.heap.size)
  generalize hAe : va_A (w_Mo_check cI cJ qM qM_powers qM_values qM_logarithms qM_word qM_solved qM_system M_thrown M_depth M_pattern M_craft M_begins M_firsts M_seconds M_forms M_elements M_mixer M_data M_waiting M_master M_counts M_line M_length M_sent M_state M_places M_least M_row M_rowSize M_differ M_blocks M_marks M_wrongs M_bytes M_rights M_tells M_lastMaster M_lastCounts M_wrong M_fill M_half M_powers M_values M_logarithms M_word M_solved M_system) s.heap.size = A at hD hE ⊢
  have hA : ∀ q : Nat, s.heap.size ≤ q → A q := fun q h => by rw [← hAe]; exact Or.inr h
  have hS : va_S A s.heap s.heap [] := va_S.rf
  refine z_entry (vs := [.ref qM]) hargs (Nat.le_of_ble_eq_true rfl) (fun ls hl => ?_)
  have hl : lv_has ls 5 [(0, .ref qM)] := hl
  show W p l e (RM 2 49) s m args below meth c s.heap [] 0 0 _ _
  refine z_qi (fun Q0 hQ => ?_)
  have F : CallFix p m c b_Mo_check 5 s args TB "DeepChannelModel" := ⟨hx, hb, hml, hown, hts⟩
  have T111 : ∀ (n111 : Nat) (x1 : Int32) (x3 : Int32) (x4 : Int32) (M_values : Nat → Int32) (M_word : Nat → Int32) (M_solved : Nat → Int32) (M_system : Nat → Int32), f_Mo_check_111 M_fill n111 x1 x3 x4 M_values M_word M_solved M_system = some (M_values', M_word', M_solved', M_system') → ∀ (H : Heap) (locs : List Loc), va_P D classes (w_Mo_check cI cJ qM qM_powers qM_values qM_logarithms qM_word qM_solved qM_system M_thrown M_depth M_pattern M_craft M_begins M_firsts M_seconds M_forms M_elements M_mixer M_data M_waiting M_master M_counts M_line M_length M_sent M_state M_places M_least M_row M_rowSize M_differ M_blocks M_marks M_wrongs M_bytes M_rights M_tells M_lastMaster M_lastCounts M_wrong M_fill M_half M_powers M_values M_logarithms M_word M_solved M_system) H → va_D A (w_Mo_check cI cJ qM qM_powers qM_values qM_logarithms qM_word qM_solved qM_system M_thrown M_depth M_pattern M_craft M_begins M_firsts M_seconds M_forms M_elements M_mixer M_data M_waiting M_master M_counts M_line M_length M_sent M_state M_places M_least M_row M_rowSize M_differ M_blocks M_marks M_wrongs M_bytes M_rights M_tells M_lastMaster M_lastCounts M_wrong M_fill M_half M_powers M_values M_logarithms M_word M_solved M_system) → va_S A s.heap H locs → ∀ (ls : Array Slot), lv_has ls 5 [(0, .ref qM), (1, .int x1), (3, .int x3), (4, .int x4)] → W p l e (RM 2 49) s m args below meth c H locs 0 0 Q0 (F0 m 111 ls []) := by
    intro n111
    induction n111 with
    | zero => intro x1 x3 x4 M_values M_word M_solved M_system hm; cases hm
    | succ n111 ih111 =>
      intro x1 x3 x4 M_values M_word M_solved M_system hm H locs hP hD hS ls hl
      replace hm : f_Mo_check_111_b M_fill (f_Mo_check_111 M_fill n111) x1 x3 x4 M_values M_word M_solved M_system = some (M_values', M_word', M_solved', M_system') := hm
      unfold f_Mo_check_111_b at hm
      refine lv_iload hx hb d_Mo_check_111 (lv_at hl 3 rfl) ?_
      refine lv_iload_n hx hb d_Mo_check_113 rfl (lv_at hl 1 rfl) ?_
      refine z_if hm (lv_icmp_ge (tgt := 148) hx hb d_Mo_check_114 (by decide)) (fun hm => ?_) (fun hm => ?_)
      · cases hm
        exact z_qo hQ (z_vret hr hx hb hlocks hK hP hD hS d_Mo_check_148)
      · refine lv_iload_n hx hb d_Mo_check_117 rfl (lv_at hl 2 rfl) ?_
        refine z_if hm (lv_if_eq (tgt := 148) hx hb d_Mo_check_118 (by decide)) (fun hm => ?_) (fun hm => ?_)
        · cases hm
          exact z_qo hQ (z_vret hr hx hb hlocks hK hP hD hS d_Mo_check_148)
        · refine lv_aload_n hx hb d_Mo_check_121 rfl (lv_at hl 0 rfl) ?_
          refine va_get (D := D) (ci := 11) (v := .ref qM_word) (C := "DeepChannelModel") (T := fT_Mo) (N := 40) hx hb hts u_Mo hown hK hP 0 rfl rfl 35 (by decide) (hts _ k_921) (fun _ h9 => h9) rfl d_Mo_check_122 ?_
          refine lv_aload_n hx hb d_Mo_check_125 rfl (lv_at hl 0 rfl) ?_
          obtain ⟨r1, hu, hm⟩ := bd_el hm
          replace hm := nm_1 hm
          refine z_cVi (wc := w_Mo_wordSize cI cJ qM M_thrown M_depth (.int M_half) M_pattern M_craft M_begins M_firsts M_seconds (.ref qM_powers) (.ref qM_logarithms) M_forms M_elements M_mixer M_data M_waiting M_master M_counts M_line M_length M_sent M_state M_places M_least M_row M_rowSize M_differ M_blocks M_marks M_wrongs M_bytes M_rights M_tells M_lastMaster M_lastCounts (.ref qM_word) (.ref qM_values) (.ref qM_system) (.ref qM_solved) M_wrong M_fill) (wc' := w_Mo_wordSize cI cJ qM M_thrown M_depth (.int M_half) M_pattern M_craft M_begins M_firsts M_seconds (.ref qM_powers) (.ref qM_logarithms) M_forms M_elements M_mixer M_data M_waiting M_master M_counts M_line M_length M_sent M_state M_places M_least M_row M_rowSize M_differ M_blocks M_marks M_wrongs M_bytes M_rights M_tells M_lastMaster M_lastCounts (.ref qM_word) (.ref qM_values) (.ref qM_system) (.ref qM_solved) M_wrong M_fill) (wr := [(qM_powers, .inl (cI, 255, .inl M_powers)), (qM_values, .inl (cI, 32, .inl M_values)), (qM_logarithms, .inl (cI, 256, .inl M_logarithms)), (qM_word, .inl (cI, 255, .inl M_word)), (qM_solved, .inl (cI, 32, .inl M_solved)), (qM_system, .inl (cI, 1056, .inl M_system))]) (As := []) (rest := [.ref qM_word]) (c_Mo_wordSize l D cI cJ tt qM M_thrown M_depth (.int M_half) M_pattern M_craft M_begins M_firsts M_seconds (.ref qM_powers) (.ref qM_logarithms) M_forms M_elements M_mixer M_data M_waiting M_master M_counts M_line M_length M_sent M_state M_places M_least M_row M_rowSize M_differ M_blocks M_marks M_wrongs M_bytes M_rights M_tells M_lastMaster M_lastCounts (.ref qM_word) (.ref qM_values) (.ref qM_system) (.ref qM_solved) M_wrong _ M_fill r1 hu) F ok_Mo_wordSize rfl k_1030 hK hE hP hD hS hA [0] [1, 2, 3, 4, 5, 6] rfl rfl (by decide) (by decide) (by decide) 0 rfl rfl rfl ⟨rfl, rfl, Nat.le_of_ble_eq_true rfl, Nat.le_of_ble_eq_true rfl⟩ ⟨Nat.zero_le _, Nat.zero_le _⟩ rfl hl.1 rfl (Nat.le_of_ble_eq_true rfl) d_Mo_check_126 (fun H locs hP hD hS => ?_)
          have hP : va_P D classes (w_Mo_check cI cJ qM qM_powers qM_values qM_logarithms qM_word qM_solved qM_system M_thrown M_depth M_pattern M_craft M_begins M_firsts M_seconds M_forms M_elements M_mixer M_data M_waiting M_master M_counts M_line M_length M_sent M_state M_places M_least M_row M_rowSize M_differ M_blocks M_marks M_wrongs M_bytes M_rights M_tells M_lastMaster M_lastCounts M_wrong M_fill M_half M_powers M_values M_logarithms M_word M_solved M_system) H := hP.sub [6, 0, 1, 2, 3, 4, 5] rfl
          have hD : va_D A (w_Mo_check cI cJ qM qM_powers qM_values qM_logarithms qM_word qM_solved qM_system M_thrown M_depth M_pattern M_craft M_begins M_firsts M_seconds M_forms M_elements M_mixer M_data M_waiting M_master M_counts M_line M_length M_sent M_state M_places M_least M_row M_rowSize M_differ M_blocks M_marks M_wrongs M_bytes M_rights M_tells M_lastMaster M_lastCounts M_wrong M_fill M_half M_powers M_values M_logarithms M_word M_solved M_system) := hD.sub [6, 0, 1, 2, 3, 4, 5] (by decide) rfl
          refine lv_iconst (v := (1 : Int32)) hx hb d_Mo_check_129 (by decide) ?_
          refine lv_isub hx hb d_Mo_check_130 ?_
          refine lv_iload hx hb d_Mo_check_131 (lv_at hl 3 rfl) ?_
          refine lv_isub hx hb d_Mo_check_133 ?_
          refine lv_aload_n hx hb d_Mo_check_134 rfl (lv_at hl 0 rfl) ?_
          refine va_get (D := D) (ci := 11) (v := .ref qM_solved) (C := "DeepChannelModel") (T := fT_Mo) (N := 40) hx hb hts u_Mo hown hK hP 0 rfl rfl 38 (by decide) (hts _ k_924) (fun _ h9 => h9) rfl d_Mo_check_135 ?_
          refine lv_iload hx hb d_Mo_check_138 (lv_at hl 3 rfl) ?_
          refine z_iald hm hx hb hK hP 5 rfl d_Mo_check_140 (fun v3 hm => ?_)
          refine z_iast hm hx hb hK hP hD hS 4 rfl d_Mo_check_141 (fun g4 hm H locs hP hD hS => ?_)
          have hP : va_P D classes (w_Mo_check cI cJ qM qM_powers qM_values qM_logarithms qM_word qM_solved qM_system M_thrown M_depth M_pattern M_craft M_begins M_firsts M_seconds M_forms M_elements M_mixer M_data M_waiting M_master M_counts M_line M_length M_sent M_state M_places M_least M_row M_rowSize M_differ M_blocks M_marks M_wrongs M_bytes M_rights M_tells M_lastMaster M_lastCounts M_wrong M_fill M_half M_powers M_values M_logarithms g4 M_solved M_system) H := hP
          have hD : va_D A (w_Mo_check cI cJ qM qM_powers qM_values qM_logarithms qM_word qM_solved qM_system M_thrown M_depth M_pattern M_craft M_begins M_firsts M_seconds M_forms M_elements M_mixer M_data M_waiting M_master M_counts M_line M_length M_sent M_state M_places M_least M_row M_rowSize M_differ M_blocks M_marks M_wrongs M_bytes M_rights M_tells M_lastMaster M_lastCounts M_wrong M_fill M_half M_powers M_values M_logarithms g4 M_solved M_system) := hD
          obtain ⟨v5, ev, hm⟩ := nm_el hm
          refine lv_iinc (v := v5) (lv' := [(4, .int v5), (0, .ref qM), (1, .int x1), (3, .int x3)]) hx hb d_Mo_check_142 hl (k := 3) rfl (by rw [ev]; rfl) (by decide) rfl (fun ls hl => ?_)
          refine lv_goto (tgt := 111) hx hb d_Mo_check_145 (by decide) ?_
          exact ih111 x1 x3 v5 M_values g4 M_solved M_system hm _ _ hP hD hS _ (lv_sub hl [1, 2, 3, 0] rfl)
  have T107 : ∀ (x1 : Int32) (t0 : Int32) (M_values : Nat → Int32) (M_word : Nat → Int32) (M_solved : Nat → Int32) (M_system : Nat → Int32), f_Mo_check_107 M_fill x1 t0 M_values M_word M_solved M_system = some (M_values', M_word', M_solved', M_system') → ∀ (H : Heap) (locs : List Loc), va_P D classes (w_Mo_check cI cJ qM qM_powers qM_values qM_logarithms qM_word qM_solved qM_system M_thrown M_depth M_pattern M_craft M_begins M_firsts M_seconds M_forms M_elements M_mixer M_data M_waiting M_master M_counts M_line M_length M_sent M_state M_places M_least M_row M_rowSize M_differ M_blocks M_marks M_wrongs M_bytes M_rights M_tells M_lastMaster M_lastCounts M_wrong M_fill M_half M_powers M_values M_logarithms M_word M_solved M_system) H → va_D A (w_Mo_check cI cJ qM qM_powers qM_values qM_logarithms qM_word qM_solved qM_system M_thrown M_depth M_pattern M_craft M_begins M_firsts M_seconds M_forms M_elements M_mixer M_data M_waiting M_master M_counts M_line M_length M_sent M_state M_places M_least M_row M_rowSize M_differ M_blocks M_marks M_wrongs M_bytes M_rights M_tells M_lastMaster M_lastCounts M_wrong M_fill M_half M_powers M_values M_logarithms M_word M_solved M_system) → va_S A s.heap H locs → ∀ (ls : Array Slot), lv_has ls 5 [(0, .ref qM), (1, .int x1)] → W p l e (RM 2 49) s m args below meth c H locs 0 0 Q0 (F0 m 107 ls [.int t0]) := by
    intro x1 t0 M_values M_word M_solved M_system hm H locs hP hD hS ls hl
    unfold f_Mo_check_107 at hm
    refine lv_istore_n (lv' := [(3, .int t0), (0, .ref qM), (1, .int x1)]) hx hb d_Mo_check_107 rfl hl (by decide) rfl (fun ls hl => ?_)
    refine lv_iconst (v := (0 : Int32)) hx hb d_Mo_check_108 (by decide) ?_
    refine lv_istore (lv' := [(4, .int (0 : Int32)), (3, .int t0), (0, .ref qM), (1, .int x1)]) hx hb d_Mo_check_109 hl (by decide) rfl (fun ls hl => ?_)
    exact T111 10000 x1 t0 (0 : Int32) M_values M_word M_solved M_system hm _ _ hP hD hS _ (lv_sub hl [2, 3, 1, 0] rfl)
  have T106 : ∀ (x1 : Int32) (M_values : Nat → Int32) (M_word : Nat → Int32) (M_solved : Nat → Int32) (M_system : Nat → Int32), f_Mo_check_106 M_fill x1 M_values M_word M_solved M_system = some (M_values', M_word', M_solved', M_system') → ∀ (H : Heap) (locs : List Loc), va_P D classes (w_Mo_check cI cJ qM qM_powers qM_values qM_logarithms qM_word qM_solved qM_system M_thrown M_depth M_pattern M_craft M_begins M_firsts M_seconds M_forms M_elements M_mixer M_data M_waiting M_master M_counts M_line M_length M_sent M_state M_places M_least M_row M_rowSize M_differ M_blocks M_marks M_wrongs M_bytes M_rights M_tells M_lastMaster M_lastCounts M_wrong M_fill M_half M_powers M_values M_logarithms M_word M_solved M_system) H → va_D A (w_Mo_check cI cJ qM qM_powers qM_values qM_logarithms qM_word qM_solved qM_system M_thrown M_depth M_pattern M_craft M_begins M_firsts M_seconds M_forms M_elements M_mixer M_data M_waiting M_master M_counts M_line M_length M_sent M_state M_places M_least M_row M_rowSize M_differ M_blocks M_marks M_wrongs M_bytes M_rights M_tells M_lastMaster M_lastCounts M_wrong M_fill M_half M_powers M_values M_logarithms M_word M_solved M_system) → va_S A s.heap H locs → ∀ (ls : Array Slot), lv_has ls 5 [(0, .ref qM), (1, .int x1)] → W p l e (RM 2 49) s m args below meth c H locs 0 0 Q0 (F0 m 106 ls []) := by
    intro x1 M_values M_word M_solved M_system hm H locs hP hD hS ls hl
    unfold f_Mo_check_106 at hm
    refine lv_iconst (v := (0 : Int32)) hx hb d_Mo_check_106 (by decide) ?_
    exact T107 x1 (0 : Int32) M_values M_word M_solved M_system hm _ _ hP hD hS _ (lv_sub hl [0, 1] rfl)
  have T90 : ∀ (x1 : Int32) (x2 : Int32) (M_values : Nat → Int32) (M_word : Nat → Int32) (M_solved : Nat → Int32) (M_system : Nat → Int32), f_Mo_check_90 M_fill M_powers M_logarithms x1 x2 M_values M_word M_solved M_system = some (M_values', M_word', M_solved', M_system') → ∀ (H : Heap) (locs : List Loc), va_P D classes (w_Mo_check cI cJ qM qM_powers qM_values qM_logarithms qM_word qM_solved qM_system M_thrown M_depth M_pattern M_craft M_begins M_firsts M_seconds M_forms M_elements M_mixer M_data M_waiting M_master M_counts M_line M_length M_sent M_state M_places M_least M_row M_rowSize M_differ M_blocks M_marks M_wrongs M_bytes M_rights M_tells M_lastMaster M_lastCounts M_wrong M_fill M_half M_powers M_values M_logarithms M_word M_solved M_system) H → va_D A (w_Mo_check cI cJ qM qM_powers qM_values qM_logarithms qM_word qM_solved qM_system M_thrown M_depth M_pattern M_craft M_begins M_firsts M_seconds M_forms M_elements M_mixer M_data M_waiting M_master M_counts M_line M_length M_sent M_state M_places M_least M_row M_rowSize M_differ M_blocks M_marks M_wrongs M_bytes M_rights M_tells M_lastMaster M_lastCounts M_wrong M_fill M_half M_powers M_values M_logarithms M_word M_solved M_system) → va_S A s.heap H locs → ∀ (ls : Array Slot), lv_has ls 5 [(0, .ref qM), (1, .int x1), (2, .int x2)] → W p l e (RM 2 49) s m args below meth c H locs 0 0 Q0 (F0 m 90 ls []) := by
    intro x1 x2 M_values M_word M_solved M_system hm H locs hP hD hS ls hl
    unfold f_Mo_check_90 at hm
    refine lv_iload_n hx hb d_Mo_check_90 rfl (lv_at hl 2 rfl) ?_
    refine z_ifn hm (lv_if_ne (tgt := 106) hx hb d_Mo_check_91 (by decide)) (fun hm => ?_) (fun hm => ?_)
    · refine lv_aload_n hx hb d_Mo_check_94 rfl (lv_at hl 0 rfl) ?_
      refine lv_iload_n hx hb d_Mo_check_95 rfl (lv_at hl 1 rfl) ?_
      obtain ⟨⟨r6, g7, g8⟩, hu, hm⟩ := bd_el hm
      replace hm := nm_3 hm
      refine z_cVi (wc := w_Mo_solves cI cJ qM qM_system qM_solved qM_logarithms qM_powers M_thrown M_depth (.int M_fill) (.int M_half) M_pattern M_craft M_begins M_firsts M_seconds M_forms M_elements M_mixer M_data M_waiting M_master M_counts M_line M_length M_sent M_state M_places M_least M_row M_rowSize M_differ M_blocks M_marks M_wrongs M_bytes M_rights M_tells M_lastMaster M_lastCounts (.ref qM_word) (.ref qM_values) M_wrong M_system M_solved M_logarithms M_powers) (wc' := w_Mo_solves cI cJ qM qM_system qM_solved qM_logarithms qM_powers M_thrown M_depth (.int M_fill) (.int M_half) M_pattern M_craft M_begins M_firsts M_seconds M_forms M_elements M_mixer M_data M_waiting M_master M_counts M_line M_length M_sent M_state M_places M_least M_row M_rowSize M_differ M_blocks M_marks M_wrongs M_bytes M_rights M_tells M_lastMaster M_lastCounts (.ref qM_word) (.ref qM_values) M_wrong g7 g8 M_logarithms M_powers) (wr := [(qM_values, .inl (cI, 32, .inl M_values)), (qM_word, .inl (cI, 255, .inl M_word))]) (As := [.int x1]) (rest := []) (c_Mo_solves l D cI cJ tt qM qM_system qM_solved qM_logarithms qM_powers M_thrown M_depth (.int M_fill) (.int M_half) M_pattern M_craft M_begins M_firsts M_seconds M_forms M_elements M_mixer M_data M_waiting M_master M_counts M_line M_length M_sent M_state M_places M_least M_row M_rowSize M_differ M_blocks M_marks M_wrongs M_bytes M_rights M_tells M_lastMaster M_lastCounts (.ref qM_word) (.ref qM_values) M_wrong _ M_system M_solved M_logarithms M_powers x1 r6 g7 g8 hu) F ok_Mo_solves rfl k_1094 hK hE hP hD hS hA [0, 6, 5, 3, 1] [2, 4] rfl rfl (by decide) (by decide) (by decide) 0 rfl rfl rfl ⟨rfl, rfl, Nat.le_of_ble_eq_true rfl, Nat.le_of_ble_eq_true rfl⟩ ⟨Nat.zero_le _, Nat.zero_le _⟩ rfl hl.1 rfl (Nat.le_of_ble_eq_true rfl) d_Mo_check_96 (fun H locs hP hD hS => ?_)
      have hP : va_P D classes (w_Mo_check cI cJ qM qM_powers qM_values qM_logarithms qM_word qM_solved qM_system M_thrown M_depth M_pattern M_craft M_begins M_firsts M_seconds M_forms M_elements M_mixer M_data M_waiting M_master M_counts M_line M_length M_sent M_state M_places M_least M_row M_rowSize M_differ M_blocks M_marks M_wrongs M_bytes M_rights M_tells M_lastMaster M_lastCounts M_wrong M_fill M_half M_powers M_values M_logarithms M_word g8 g7) H := hP.sub [2, 6, 0, 5, 1, 4, 3] rfl
      have hD : va_D A (w_Mo_check cI cJ qM qM_powers qM_values qM_logarithms qM_word qM_solved qM_system M_thrown M_depth M_pattern M_craft M_begins M_firsts M_seconds M_forms M_elements M_mixer M_data M_waiting M_master M_counts M_line M_length M_sent M_state M_places M_least M_row M_rowSize M_differ M_blocks M_marks M_wrongs M_bytes M_rights M_tells M_lastMaster M_lastCounts M_wrong M_fill M_half M_powers M_values M_logarithms M_word g8 g7) := hD.sub [2, 6, 0, 5, 1, 4, 3] (by decide) rfl
      refine z_if hm (lv_if_eq (tgt := 106) hx hb d_Mo_check_99 (by decide)) (fun hm => ?_) (fun hm => ?_)
      · exact T106 x1 M_values M_word g8 g7 hm _ _ hP hD hS _ (lv_sub hl [0, 1] rfl)
      · refine lv_iconst (v := (1 : Int32)) hx hb d_Mo_check_102 (by decide) ?_
        refine lv_goto (tgt := 107) hx hb d_Mo_check_103 (by decide) ?_
        exact T107 x1 (1 : Int32) M_values M_word g8 g7 hm _ _ hP hD hS _ (lv_sub hl [0, 1] rfl)
    · exact T106 x1 M_values M_word M_solved M_system hm _ _ hP hD hS _ (lv_sub hl [0, 1] rfl)
  have T14 : ∀ (n14 : Nat) (x1 : Int32) (x2 : Int32) (x3 : Int32) (M_values : Nat → Int32) (M_word : Nat → Int32) (M_solved : Nat → Int32) (M_system : Nat → Int32), f_Mo_check_14 M_fill M_half M_powers M_logarithms n14 x1 x2 x3 M_values M_word M_solved M_system = some (M_values', M_word', M_solved', M_system') → ∀ (H : Heap) (locs : List Loc), va_P D classes (w_Mo_check cI cJ qM qM_powers qM_values qM_logarithms qM_word qM_solved qM_system M_thrown M_depth M_pattern M_craft M_begins M_firsts M_seconds M_forms M_elements M_mixer M_data M_waiting M_master M_counts M_line M_length M_sent M_state M_places M_least M_row M_rowSize M_differ M_blocks M_marks M_wrongs M_bytes M_rights M_tells M_lastMaster M_lastCounts M_wrong M_fill M_half M_powers M_values M_logarithms M_word M_solved M_system) H → va_D A (w_Mo_check cI cJ qM qM_powers qM_values qM_logarithms qM_word qM_solved qM_system M_thrown M_depth M_pattern M_craft M_begins M_firsts M_seconds M_forms M_elements M_mixer M_data M_waiting M_master M_counts M_line M_length M_sent M_state M_places M_least M_row M_rowSize M_differ M_blocks M_marks M_wrongs M_bytes M_rights M_tells M_lastMaster M_lastCounts M_wrong M_fill M_half M_powers M_values M_logarithms M_word M_solved M_system) → va_S A s.heap H locs → ∀ (ls : Array Slot), lv_has ls 5 [(0, .ref qM), (1, .int x1), (2, .int x2), (3, .int x3)] → W p l e (RM 2 49) s m args below meth c H locs 0 0 Q0 (F0 m 14 ls []) := by
    intro n14
    induction n14 with
    | zero => intro x1 x2 x3 M_values M_word M_solved M_system hm; cases hm
    | succ n14 ih14 =>
      have T67 : ∀ (x1 : Int32) (x2 : Int32) (x3 : Int32) (M_values : Nat → Int32) (M_word : Nat → Int32) (M_solved : Nat → Int32) (M_system : Nat → Int32), f_Mo_check_67 (f_Mo_check_14 M_fill M_half M_powers M_logarithms n14) x1 x2 x3 M_values M_word M_solved M_system = some (M_values', M_word', M_solved', M_system') → ∀ (H : Heap) (locs : List Loc), va_P D classes (w_Mo_check cI cJ qM qM_powers qM_values qM_logarithms qM_word qM_solved qM_system M_thrown M_depth M_pattern M_craft M_begins M_firsts M_seconds M_forms M_elements M_mixer M_data M_waiting M_master M_counts M_line M_length M_sent M_state M_places M_least M_row M_rowSize M_differ M_blocks M_marks M_wrongs M_bytes M_rights M_tells M_lastMaster M_lastCounts M_wrong M_fill M_half M_powers M_values M_logarithms M_word M_solved M_system) H → va_D A (w_Mo_check cI cJ qM qM_powers qM_values qM_logarithms qM_word qM_solved qM_system M_thrown M_depth M_pattern M_craft M_begins M_firsts M_seconds M_forms M_elements M_mixer M_data M_waiting M_master M_counts M_line M_length M_sent M_state M_places M_least M_row M_rowSize M_differ M_blocks M_marks M_wrongs M_bytes M_rights M_tells M_lastMaster M_lastCounts M_wrong M_fill M_half M_powers M_values M_logarithms M_word M_solved M_system) → va_S A s.heap H locs → ∀ (ls : Array Slot), lv_has ls 5 [(0, .ref qM), (1, .int x1), (2, .int x2), (3, .int x3)] → W p l e (RM 2 49) s m args below meth c H locs 0 0 Q0 (F0 m 67 ls []) := by
        intro x1 x2 x3 M_values M_word M_solved M_system hm H locs hP hD hS ls hl
        unfold f_Mo_check_67 at hm
        refine lv_aload_n hx hb d_Mo_check_67 rfl (lv_at hl 0 rfl) ?_
        refine va_get (D := D) (ci := 11) (v := .ref qM_system) (C := "DeepChannelModel") (T := fT_Mo) (N := 40) hx hb hts u_Mo hown hK hP 0 rfl rfl 37 (by decide) (hts _ k_923) (fun _ h9 => h9) rfl d_Mo_check_68 ?_
        refine lv_bipush (v := (33 : Int32)) hx hb d_Mo_check_71 (by decide) ?_
        refine lv_iload_n hx hb d_Mo_check_73 rfl (lv_at hl 3 rfl) ?_
        refine lv_imul hx hb d_Mo_check_74 ?_
        refine lv_iload_n hx hb d_Mo_check_75 rfl (lv_at hl 1 rfl) ?_
        refine lv_iadd hx hb d_Mo_check_76 ?_
        refine lv_aload_n hx hb d_Mo_check_77 rfl (lv_at hl 0 rfl) ?_
        refine va_get (D := D) (ci := 11) (v := .ref qM_values) (C := "DeepChannelModel") (T := fT_Mo) (N := 40) hx hb hts u_Mo hown hK hP 0 rfl rfl 36 (by decide) (hts _ k_922) (fun _ h9 => h9) rfl d_Mo_check_78 ?_
        refine lv_iload_n hx hb d_Mo_check_81 rfl (lv_at hl 3 rfl) ?_
        refine z_iald hm hx hb hK hP 2 rfl d_Mo_check_82 (fun v10 hm => ?_)
        refine z_iast hm hx hb hK hP hD hS 6 rfl d_Mo_check_83 (fun g11 hm H locs hP hD hS => ?_)
        have hP : va_P D classes (w_Mo_check cI cJ qM qM_powers qM_values qM_logarithms qM_word qM_solved qM_system M_thrown M_depth M_pattern M_craft M_begins M_firsts M_seconds M_forms M_elements M_mixer M_data M_waiting M_master M_counts M_line M_length M_sent M_state M_places M_least M_row M_rowSize M_differ M_blocks M_marks M_wrongs M_bytes M_rights M_tells M_lastMaster M_lastCounts M_wrong M_fill M_half M_powers M_values M_logarithms M_word M_solved g11) H := hP
        have hD : va_D A (w_Mo_check cI cJ qM qM_powers qM_values qM_logarithms qM_word qM_solved qM_system M_thrown M_depth M_pattern M_craft M_begins M_firsts M_seconds M_forms M_elements M_mixer M_data M_waiting M_master M_counts M_line M_length M_sent M_state M_places M_least M_row M_rowSize M_differ M_blocks M_marks M_wrongs M_bytes M_rights M_tells M_lastMaster M_lastCounts M_wrong M_fill M_half M_powers M_values M_logarithms M_word M_solved g11) := hD
        obtain ⟨v12, ev, hm⟩ := nm_el hm
        refine lv_iinc (v := v12) (lv' := [(3, .int v12), (0, .ref qM), (1, .int x1), (2, .int x2)]) hx hb d_Mo_check_84 hl (k := 3) rfl (by rw [ev]; rfl) (by decide) rfl (fun ls hl => ?_)
        refine lv_goto (tgt := 14) hx hb d_Mo_check_87 (by decide) ?_
        exact ih14 x1 x2 v12 M_values M_word M_solved g11 hm _ _ hP hD hS _ (lv_sub hl [1, 2, 3, 0] rfl)
      have T26 : ∀ (n26 : Nat) (x1 : Int32) (x2 : Int32) (x3 : Int32) (x4 : Int32) (M_values : Nat → Int32) (M_word : Nat → Int32) (M_solved : Nat → Int32) (M_system : Nat → Int32), f_Mo_check_26 M_half M_powers (f_Mo_check_14 M_fill M_half M_powers M_logarithms n14) n26 x1 x2 x3 x4 M_values M_word M_solved M_system = some (M_values', M_word', M_solved', M_system') → ∀ (H : Heap) (locs : List Loc), va_P D classes (w_Mo_check cI cJ qM qM_powers qM_values qM_logarithms qM_word qM_solved qM_system M_thrown M_depth M_pattern M_craft M_begins M_firsts M_seconds M_forms M_elements M_mixer M_data M_waiting M_master M_counts M_line M_length M_sent M_state M_places M_least M_row M_rowSize M_differ M_blocks M_marks M_wrongs M_bytes M_rights M_tells M_lastMaster M_lastCounts M_wrong M_fill M_half M_powers M_values M_logarithms M_word M_solved M_system) H → va_D A (w_Mo_check cI cJ qM qM_powers qM_values qM_logarithms qM_word qM_solved qM_system M_thrown M_depth M_pattern M_craft M_begins M_firsts M_seconds M_forms M_elements M_mixer M_data M_waiting M_master M_counts M_line M_length M_sent M_state M_places M_least M_row M_rowSize M_differ M_blocks M_marks M_wrongs M_bytes M_rights M_tells M_lastMaster M_lastCounts M_wrong M_fill M_half M_powers M_values M_logarithms M_word M_solved M_system) → va_S A s.heap H locs → ∀ (ls : Array Slot), lv_has ls 5 [(0, .ref qM), (1, .int x1), (2, .int x2), (3, .int x3), (4, .int x4)] → W p l e (RM 2 49) s m args below meth c H locs 0 0 Q0 (F0 m 26 ls []) := by
        intro n26
        induction n26 with
        | zero => intro x1 x2 x3 x4 M_values M_word M_solved M_system hm; cases hm
        | succ n26 ih26 =>
          intro x1 x2 x3 x4 M_values M_word M_solved M_system hm H locs hP hD hS ls hl
          replace hm : f_Mo_check_26_b M_half M_powers (f_Mo_check_14 M_fill M_half M_powers M_logarithms n14) (f_Mo_check_26 M_half M_powers (f_Mo_check_14 M_fill M_half M_powers M_logarithms n14) n26) x1 x2 x3 x4 M_values M_word M_solved M_system = some (M_values', M_word', M_solved', M_system') := hm
          unfold f_Mo_check_26_b at hm
          refine lv_iload hx hb d_Mo_check_26 (lv_at hl 4 rfl) ?_
          refine lv_iload_n hx hb d_Mo_check_28 rfl (lv_at hl 1 rfl) ?_
          refine z_if hm (lv_icmp_ge (tgt := 67) hx hb d_Mo_check_29 (by decide)) (fun hm => ?_) (fun hm => ?_)
          · exact T67 x1 x2 x3 M_values M_word M_solved M_system hm _ _ hP hD hS _ (lv_sub hl [0, 1, 2, 3] rfl)
          · refine lv_aload_n hx hb d_Mo_check_32 rfl (lv_at hl 0 rfl) ?_
            refine va_get (D := D) (ci := 11) (v := .ref qM_system) (C := "DeepChannelModel") (T := fT_Mo) (N := 40) hx hb hts u_Mo hown hK hP 0 rfl rfl 37 (by decide) (hts _ k_923) (fun _ h9 => h9) rfl d_Mo_check_33 ?_
            refine lv_bipush (v := (33 : Int32)) hx hb d_Mo_check_36 (by decide) ?_
            refine lv_iload_n hx hb d_Mo_check_38 rfl (lv_at hl 3 rfl) ?_
            refine lv_imul hx hb d_Mo_check_39 ?_
            refine lv_iload hx hb d_Mo_check_40 (lv_at hl 4 rfl) ?_
            refine lv_iadd hx hb d_Mo_check_42 ?_
            refine lv_aload_n hx hb d_Mo_check_43 rfl (lv_at hl 0 rfl) ?_
            refine lv_sipush (v := (128 : Int32)) hx hb d_Mo_check_44 (by decide) ?_
            refine lv_aload_n hx hb d_Mo_check_47 rfl (lv_at hl 0 rfl) ?_
            refine va_get (D := D) (ci := 11) (v := .int M_half) (C := "DeepChannelModel") (T := fT_Mo) (N := 40) hx hb hts u_Mo hown hK hP 0 rfl rfl 3 (by decide) (hts _ k_889) (fun _ h9 => h9) rfl d_Mo_check_48 ?_
            refine lv_isub hx hb d_Mo_check_51 ?_
            refine lv_iload_n hx hb d_Mo_check_52 rfl (lv_at hl 3 rfl) ?_
            refine lv_iadd hx hb d_Mo_check_53 ?_
            refine lv_iload hx hb d_Mo_check_54 (lv_at hl 4 rfl) ?_
            refine lv_imul hx hb d_Mo_check_56 ?_
            obtain ⟨r13, hu, hm⟩ := bd_el hm
            replace hm := nm_1 hm
            refine z_cVi (wc := w_Mo_ofG cI cJ qM qM_powers M_thrown M_depth (.int M_fill) (.int M_half) M_pattern M_craft M_begins M_firsts M_seconds (.ref qM_logarithms) M_forms M_elements M_mixer M_data M_waiting M_master M_counts M_line M_length M_sent M_state M_places M_least M_row M_rowSize M_differ M_blocks M_marks M_wrongs M_bytes M_rights M_tells M_lastMaster M_lastCounts (.ref qM_word) (.ref qM_values) (.ref qM_system) (.ref qM_solved) M_wrong M_powers) (wc' := w_Mo_ofG cI cJ qM qM_powers M_thrown M_depth (.int M_fill) (.int M_half) M_pattern M_craft M_begins M_firsts M_seconds (.ref qM_logarithms) M_forms M_elements M_mixer M_data M_waiting M_master M_counts M_line M_length M_sent M_state M_places M_least M_row M_rowSize M_differ M_blocks M_marks M_wrongs M_bytes M_rights M_tells M_lastMaster M_lastCounts (.ref qM_word) (.ref qM_values) (.ref qM_system) (.ref qM_solved) M_wrong M_powers) (wr := [(qM_values, .inl (cI, 32, .inl M_values)), (qM_logarithms, .inl (cI, 256, .inl M_logarithms)), (qM_word, .inl (cI, 255, .inl M_word)), (qM_solved, .inl (cI, 32, .inl M_solved)), (qM_system, .inl (cI, 1056, .inl M_system))]) (As := [.int ((((128 : Int32) - M_half) + x3) * x4)]) (rest := [.int (((33 : Int32) * x3) + x4), .ref qM_system]) (c_Mo_ofG l D cI cJ tt qM qM_powers M_thrown M_depth (.int M_fill) (.int M_half) M_pattern M_craft M_begins M_firsts M_seconds (.ref qM_logarithms) M_forms M_elements M_mixer M_data M_waiting M_master M_counts M_line M_length M_sent M_state M_places M_least M_row M_rowSize M_differ M_blocks M_marks M_wrongs M_bytes M_rights M_tells M_lastMaster M_lastCounts (.ref qM_word) (.ref qM_values) (.ref qM_system) (.ref qM_solved) M_wrong _ M_powers ((((128 : Int32) - M_half) + x3) * x4) r13 hu) F ok_Mo_ofG rfl k_1086 hK hE hP hD hS hA [0, 1] [2, 3, 4, 5, 6] rfl rfl (by decide) (by decide) (by decide) 0 rfl rfl rfl ⟨rfl, rfl, Nat.le_of_ble_eq_true rfl, Nat.le_of_ble_eq_true rfl⟩ ⟨Nat.zero_le _, Nat.zero_le _⟩ rfl hl.1 rfl (Nat.le_of_ble_eq_true rfl) d_Mo_check_57 (fun H locs hP hD hS => ?_)
            have hP : va_P D classes (w_Mo_check cI cJ qM qM_powers qM_values qM_logarithms qM_word qM_solved qM_system M_thrown M_depth M_pattern M_craft M_begins M_firsts M_seconds M_forms M_elements M_mixer M_data M_waiting M_master M_counts M_line M_length M_sent M_state M_places M_least M_row M_rowSize M_differ M_blocks M_marks M_wrongs M_bytes M_rights M_tells M_lastMaster M_lastCounts M_wrong M_fill M_half M_powers M_values M_logarithms M_word M_solved M_system) H := hP.sub [5, 6, 0, 1, 2, 3, 4] rfl
            have hD : va_D A (w_Mo_check cI cJ qM qM_powers qM_values qM_logarithms qM_word qM_solved qM_system M_thrown M_depth M_pattern M_craft M_begins M_firsts M_seconds M_forms M_elements M_mixer M_data M_waiting M_master M_counts M_line M_length M_sent M_state M_places M_least M_row M_rowSize M_differ M_blocks M_marks M_wrongs M_bytes M_rights M_tells M_lastMaster M_lastCounts M_wrong M_fill M_half M_powers M_values M_logarithms M_word M_solved M_system) := hD.sub [5, 6, 0, 1, 2, 3, 4] (by decide) rfl
            refine z_iast hm hx hb hK hP hD hS 6 rfl d_Mo_check_60 (fun g15 hm H locs hP hD hS => ?_)
            have hP : va_P D classes (w_Mo_check cI cJ qM qM_powers qM_values qM_logarithms qM_word qM_solved qM_system M_thrown M_depth M_pattern M_craft M_begins M_firsts M_seconds M_forms M_elements M_mixer M_data M_waiting M_master M_counts M_line M_length M_sent M_state M_places M_least M_row M_rowSize M_differ M_blocks M_marks M_wrongs M_bytes M_rights M_tells M_lastMaster M_lastCounts M_wrong M_fill M_half M_powers M_values M_logarithms M_word M_solved g15) H := hP
            have hD : va_D A (w_Mo_check cI cJ qM qM_powers qM_values qM_logarithms qM_word qM_solved qM_system M_thrown M_depth M_pattern M_craft M_begins M_firsts M_seconds M_forms M_elements M_mixer M_data M_waiting M_master M_counts M_line M_length M_sent M_state M_places M_least M_row M_rowSize M_differ M_blocks M_marks M_wrongs M_bytes M_rights M_tells M_lastMaster M_lastCounts M_wrong M_fill M_half M_powers M_values M_logarithms M_word M_solved g15) := hD
            obtain ⟨v16, ev, hm⟩ := nm_el hm
            refine lv_iinc (v := v16) (lv' := [(4, .int v16), (0, .ref qM), (1, .int x1), (2, .int x2), (3, .int x3)]) hx hb d_Mo_check_61 hl (k := 4) rfl (by rw [ev]; rfl) (by decide) rfl (fun ls hl => ?_)
            refine lv_goto (tgt := 26) hx hb d_Mo_check_64 (by decide) ?_
            exact ih26 x1 x2 x3 v16 M_values M_word M_solved g15 hm _ _ hP hD hS _ (lv_sub hl [1, 2, 3, 4, 0] rfl)
      intro x1 x2 x3 M_values M_word M_solved M_system hm H locs hP hD hS ls hl
      replace hm : f_Mo_check_14_b M_fill M_half M_powers M_logarithms (f_Mo_check_14 M_fill M_half M_powers M_logarithms n14) x1 x2 x3 M_values M_word M_solved M_system = some (M_values', M_word', M_solved', M_system') := hm
      unfold f_Mo_check_14_b at hm
      refine lv_iload_n hx hb d_Mo_check_14 rfl (lv_at hl 3 rfl) ?_
      refine lv_iload_n hx hb d_Mo_check_15 rfl (lv_at hl 1 rfl) ?_
      refine z_if hm (lv_icmp_ge (tgt := 90) hx hb d_Mo_check_16 (by decide)) (fun hm => ?_) (fun hm => ?_)
      · exact T90 x1 x2 M_values M_word M_solved M_system hm _ _ hP hD hS _ (lv_sub hl [0, 1, 2] rfl)
      · refine lv_iload_n hx hb d_Mo_check_19 rfl (lv_at hl 2 rfl) ?_
        refine z_ifn hm (lv_if_ne (tgt := 90) hx hb d_Mo_check_20 (by decide)) (fun hm => ?_) (fun hm => ?_)
        · refine lv_iconst (v := (0 : Int32)) hx hb d_Mo_check_23 (by decide) ?_
          refine lv_istore (lv' := [(4, .int (0 : Int32)), (0, .ref qM), (1, .int x1), (2, .int x2), (3, .int x3)]) hx hb d_Mo_check_24 hl (by decide) rfl (fun ls hl => ?_)
          exact T26 10000 x1 x2 x3 (0 : Int32) M_values M_word M_solved M_system hm _ _ hP hD hS _ (lv_sub hl [1, 2, 3, 4, 0] rfl)
        · exact T90 x1 x2 M_values M_word M_solved M_system hm _ _ hP hD hS _ (lv_sub hl [0, 1, 2] rfl)
  unfold f_Mo_check at hm
  refine lv_iconst (v := (2 : Int32)) hx hb d_Mo_check_0 (by decide) ?_
  refine lv_aload_n hx hb d_Mo_check_1 rfl (lv_at hl 0 rfl) ?_
  refine va_get (D := D) (ci := 11) (v := .int M_half) (C := "DeepChannelModel") (T := fT_Mo) (N := 40) hx hb hts u_Mo hown hK hP 0 rfl rfl 3 (by decide) (hts _ k_889) (fun _ h9 => h9) rfl d_Mo_check_2 ?_
  refine lv_imul hx hb d_Mo_check_5 ?_
  refine z_nmi hm (fun v17 hm => ?_)
  refine lv_istore_n (lv' := [(1, .int v17), (0, .ref qM)]) hx hb d_Mo_check_6 rfl hl (by decide) rfl (fun ls hl => ?_)
  refine lv_aload_n hx hb d_Mo_check_7 rfl (lv_at hl 1 rfl) ?_
  obtain ⟨⟨r18, g19⟩, hu, hm⟩ := bd_el hm
  replace hm := nm_2 hm
  refine z_cVi (wc := w_Mo_isCodeword cI cJ qM qM_powers qM_values qM_logarithms qM_word M_thrown M_depth M_pattern M_craft M_begins M_firsts M_seconds M_forms M_elements M_mixer M_data M_waiting M_master M_counts M_line M_length M_sent M_state M_places M_least M_row M_rowSize M_differ M_blocks M_marks M_wrongs M_bytes M_rights M_tells M_lastMaster M_lastCounts (.ref qM_system) (.ref qM_solved) M_wrong M_fill M_half M_powers M_values M_logarithms M_word) (wc' := w_Mo_isCodeword cI cJ qM qM_powers qM_values qM_logarithms qM_word M_thrown M_depth M_pattern M_craft M_begins M_firsts M_seconds M_forms M_elements M_mixer M_data M_waiting M_master M_counts M_line M_length M_sent M_state M_places M_least M_row M_rowSize M_differ M_blocks M_marks M_wrongs M_bytes M_rights M_tells M_lastMaster M_lastCounts (.ref qM_system) (.ref qM_solved) M_wrong M_fill M_half M_powers g19 M_logarithms M_word) (wr := [(qM_solved, .inl (cI, 32, .inl M_solved)), (qM_system, .inl (cI, 1056, .inl M_system))]) (As := []) (rest := []) (c_Mo_isCodeword l D cI cJ tt qM qM_powers qM_values qM_logarithms qM_word M_thrown M_depth M_pattern M_craft M_begins M_firsts M_seconds M_forms M_elements M_mixer M_data M_waiting M_master M_counts M_line M_length M_sent M_state M_places M_least M_row M_rowSize M_differ M_blocks M_marks M_wrongs M_bytes M_rights M_tells M_lastMaster M_lastCounts (.ref qM_system) (.ref qM_solved) M_wrong _ M_fill M_half M_powers M_values M_logarithms M_word r18 g19 hu) F ok_Mo_isCodeword rfl k_1082 hK hE hP hD hS hA [0, 1, 2, 3, 4] [5, 6] rfl rfl (by decide) (by decide) (by decide) 0 rfl rfl rfl ⟨rfl, rfl, Nat.le_of_ble_eq_true rfl, Nat.le_of_ble_eq_true rfl⟩ ⟨Nat.zero_le _, Nat.zero_le _⟩ rfl hl.1 rfl (Nat.le_of_ble_eq_true rfl) d_Mo_check_8 (fun H locs hP hD hS => ?_)
  have hP : va_P D classes (w_Mo_check cI cJ qM qM_powers qM_values qM_logarithms qM_word qM_solved qM_system M_thrown M_depth M_pattern M_craft M_begins M_firsts M_seconds M_forms M_elements M_mixer M_data M_waiting M_master M_counts M_line M_length M_sent M_state M_places M_least M_row M_rowSize M_differ M_blocks M_marks M_wrongs M_bytes M_rights M_tells M_lastMaster M_lastCounts M_wrong M_fill M_half M_powers g19 M_logarithms M_word M_solved M_system) H := hP.sub [2, 3, 4, 5, 6, 0, 1] rfl
  have hD : va_D A (w_Mo_check cI cJ qM qM_powers qM_values qM_logarithms qM_word qM_solved qM_system M_thrown M_depth M_pattern M_craft M_begins M_firsts M_seconds M_forms M_elements M_mixer M_data M_waiting M_master M_counts M_line M_length M_sent M_state M_places M_least M_row M_rowSize M_differ M_blocks M_marks M_wrongs M_bytes M_rights M_tells M_lastMaster M_lastCounts M_wrong M_fill M_half M_powers g19 M_logarithms M_word M_solved M_system) := hD.sub [2, 3, 4, 5, 6, 0, 1] (by decide) rfl
  refine lv_istore_n (lv' := [(2, .int r18), (1, .int v17), (0, .ref qM)]) hx hb d_Mo_check_11 rfl hl (by decide) rfl (fun ls hl => ?_)
  refine lv_iconst (v := (0 : Int32)) hx hb d_Mo_check_12 (by decide) ?_
  refine lv_istore_n (lv' := [(3, .int (0 : Int32)), (2, .int r18), (1, .int v17), (0, .ref qM)]) hx hb d_Mo_check_13 rfl hl (by decide) rfl (fun ls hl => ?_)
  exact T14 10000 v17 r18 (0 : Int32) g19 M_word M_solved M_system hm _ _ hP hD hS _ (lv_sub hl [3, 2, 1, 0] rfl)
-- DeepChannelModel.lay(II)V
abbrev b_Mo_lay : ByteArray := prog_13_method_28_code
abbrev y_Mo_lay : MethodName := ⟨"DeepChannelModel", "lay", "(II)V"⟩
theorem d_Mo_lay_0 : decode b_Mo_lay 0 = .ok (.aload_n 0, 1) := by decide +kernel
theorem d_Mo_lay_1 : decode b_Mo_lay 1 = .ok (.invokevirtual 148, 3) := by decide +kernel
theorem d_Mo_lay_4 : decode b_Mo_lay 4 = .ok (.istore_n 3, 1) := by decide +kernel
theorem d_Mo_lay_5 : decode b_Mo_lay 5 = .ok (.ldc 171, 2) := by decide +kernel
theorem d_Mo_lay_7 : decode b_Mo_lay 7 = .ok (.istore 4, 2) := by decide +kernel
theorem d_Mo_lay_9 : decode b_Mo_lay 9 = .ok (.iconst 0, 1) := by decide +kernel
theorem d_Mo_lay_10 : decode b_Mo_lay 10 = .ok (.istore 5, 2) := by decide +kernel
theorem d_Mo_lay_12 : decode b_Mo_lay 12 = .ok (.iload 5, 2) := by decide +kernel
theorem d_Mo_lay_14 : decode b_Mo_lay 14 = .ok (.iload_n 3, 1) := by decide +kernel
theorem d_Mo_lay_15 : decode b_Mo_lay 15 = .ok (.iconst 2, 1) := by decide +kernel
theorem d_Mo_lay_16 : decode b_Mo_lay 16 = .ok (.isub, 1) := by decide +kernel
theorem d_Mo_lay_17 : decode b_Mo_lay 17 = .ok (.if_icmp .ge 38, 3) := by decide +kernel
theorem d_Mo_lay_20 : decode b_Mo_lay 20 = .ok (.aload_n 0, 1) := by decide +kernel
theorem d_Mo_lay_21 : decode b_Mo_lay 21 = .ok (.iload 5, 2) := by decide +kernel
theorem d_Mo_lay_23 : decode b_Mo_lay 23 = .ok (.iload_n 2, 1) := by decide +kernel
theorem d_Mo_lay_24 : decode b_Mo_lay 24 = .ok (.invokevirtual 189, 3) := by decide +kernel
theorem d_Mo_lay_27 : decode b_Mo_lay 27 = .ok (.istore 6, 2) := by decide +kernel
theorem d_Mo_lay_29 : decode b_Mo_lay 29 = .ok (.aload_n 0, 1) := by decide +kernel
theorem d_Mo_lay_30 : decode b_Mo_lay 30 = .ok (.getfield 69, 3) := by decide +kernel
theorem d_Mo_lay_33 : decode b_Mo_lay 33 = .ok (.iload_n 1, 1) := by decide +kernel
theorem d_Mo_lay_34 : decode b_Mo_lay 34 = .ok (.iload 5, 2) := by decide +kernel
theorem d_Mo_lay_36 : decode b_Mo_lay 36 = .ok (.iadd, 1) := by decide +kernel
theorem d_Mo_lay_37 : decode b_Mo_lay 37 = .ok (.iload 6, 2) := by decide +kernel
theorem d_Mo_lay_39 : decode b_Mo_lay 39 = .ok (.iastore, 1) := by decide +kernel
theorem d_Mo_lay_40 : decode b_Mo_lay 40 = .ok (.iload 4, 2) := by decide +kernel
theorem d_Mo_lay_42 : decode b_Mo_lay 42 = .ok (.iload 6, 2) := by decide +kernel
theorem d_Mo_lay_44 : decode b_Mo_lay 44 = .ok (.invokestatic 192, 3) := by decide +kernel
theorem d_Mo_lay_47 : decode b_Mo_lay 47 = .ok (.istore 4, 2) := by decide +kernel
theorem d_Mo_lay_49 : decode b_Mo_lay 49 = .ok (.iinc 5 1, 3) := by decide +kernel
theorem d_Mo_lay_52 : decode b_Mo_lay 52 = .ok (.goto (-40), 3) := by decide +kernel
theorem d_Mo_lay_55 : decode b_Mo_lay 55 = .ok (.aload_n 0, 1) := by decide +kernel
theorem d_Mo_lay_56 : decode b_Mo_lay 56 = .ok (.getfield 69, 3) := by decide +kernel
theorem d_Mo_lay_59 : decode b_Mo_lay 59 = .ok (.iload_n 1, 1) := by decide +kernel
theorem d_Mo_lay_60 : decode b_Mo_lay 60 = .ok (.iload_n 3, 1) := by decide +kernel
theorem d_Mo_lay_61 : decode b_Mo_lay 61 = .ok (.iadd, 1) := by decide +kernel
theorem d_Mo_lay_62 : decode b_Mo_lay 62 = .ok (.iconst 2, 1) := by decide +kernel
theorem d_Mo_lay_63 : decode b_Mo_lay 63 = .ok (.isub, 1) := by decide +kernel
theorem d_Mo_lay_64 : decode b_Mo_lay 64 = .ok (.iload 4, 2) := by decide +kernel
theorem d_Mo_lay_66 : decode b_Mo_lay 66 = .ok (.bipush 8, 2) := by decide +kernel
theorem d_Mo_lay_68 : decode b_Mo_lay 68 = .ok (.ishr, 1) := by decide +kernel
theorem d_Mo_lay_69 : decode b_Mo_lay 69 = .ok (.iastore, 1) := by decide +kernel
theorem d_Mo_lay_70 : decode b_Mo_lay 70 = .ok (.aload_n 0, 1) := by decide +kernel
theorem d_Mo_lay_71 : decode b_Mo_lay 71 = .ok (.getfield 69, 3) := by decide +kernel
theorem d_Mo_lay_74 : decode b_Mo_lay 74 = .ok (.iload_n 1, 1) := by decide +kernel
theorem d_Mo_lay_75 : decode b_Mo_lay 75 = .ok (.iload_n 3, 1) := by decide +kernel
theorem d_Mo_lay_76 : decode b_Mo_lay 76 = .ok (.iadd, 1) := by decide +kernel
theorem d_Mo_lay_77 : decode b_Mo_lay 77 = .ok (.iconst 1, 1) := by decide +kernel
theorem d_Mo_lay_78 : decode b_Mo_lay 78 = .ok (.isub, 1) := by decide +kernel
theorem d_Mo_lay_79 : decode b_Mo_lay 79 = .ok (.iload 4, 2) := by decide +kernel
theorem d_Mo_lay_81 : decode b_Mo_lay 81 = .ok (.sipush 255, 3) := by decide +kernel
theorem d_Mo_lay_84 : decode b_Mo_lay 84 = .ok (.iand, 1) := by decide +kernel
theorem d_Mo_lay_85 : decode b_Mo_lay 85 = .ok (.iastore, 1) := by decide +kernel
theorem d_Mo_lay_86 : decode b_Mo_lay 86 = .ok (.iconst 0, 1) := by decide +kernel
theorem d_Mo_lay_87 : decode b_Mo_lay 87 = .ok (.istore 5, 2) := by decide +kernel
theorem d_Mo_lay_89 : decode b_Mo_lay 89 = .ok (.iload 5, 2) := by decide +kernel
theorem d_Mo_lay_91 : decode b_Mo_lay 91 = .ok (.aload_n 0, 1) := by decide +kernel
theorem d_Mo_lay_92 : decode b_Mo_lay 92 = .ok (.getfield 7, 3) := by decide +kernel
theorem d_Mo_lay_95 : decode b_Mo_lay 95 = .ok (.if_icmp .ge 137, 3) := by decide +kernel
theorem d_Mo_lay_98 : decode b_Mo_lay 98 = .ok (.iconst 0, 1) := by decide +kernel
theorem d_Mo_lay_99 : decode b_Mo_lay 99 = .ok (.istore 6, 2) := by decide +kernel
theorem d_Mo_lay_101 : decode b_Mo_lay 101 = .ok (.iload 6, 2) := by decide +kernel
theorem d_Mo_lay_103 : decode b_Mo_lay 103 = .ok (.aload_n 0, 1) := by decide +kernel
theorem d_Mo_lay_104 : decode b_Mo_lay 104 = .ok (.invokevirtual 110, 3) := by decide +kernel
theorem d_Mo_lay_107 : decode b_Mo_lay 107 = .ok (.if_icmp .ge 58, 3) := by decide +kernel
theorem d_Mo_lay_110 : decode b_Mo_lay 110 = .ok (.aload_n 0, 1) := by decide +kernel
theorem d_Mo_lay_111 : decode b_Mo_lay 111 = .ok (.getfield 81, 3) := by decide +kernel
theorem d_Mo_lay_114 : decode b_Mo_lay 114 = .ok (.iload 6, 2) := by decide +kernel
theorem d_Mo_lay_116 : decode b_Mo_lay 116 = .ok (.iload 6, 2) := by decide +kernel
theorem d_Mo_lay_118 : decode b_Mo_lay 118 = .ok (.aload_n 0, 1) := by decide +kernel
theorem d_Mo_lay_119 : decode b_Mo_lay 119 = .ok (.invokevirtual 110, 3) := by decide +kernel
theorem d_Mo_lay_122 : decode b_Mo_lay 122 = .ok (.iconst 2, 1) := by decide +kernel
theorem d_Mo_lay_123 : decode b_Mo_lay 123 = .ok (.aload_n 0, 1) := by decide +kernel
theorem d_Mo_lay_124 : decode b_Mo_lay 124 = .ok (.getfield 16, 3) := by decide +kernel
theorem d_Mo_lay_127 : decode b_Mo_lay 127 = .ok (.imul, 1) := by decide +kernel
theorem d_Mo_lay_128 : decode b_Mo_lay 128 = .ok (.isub, 1) := by decide +kernel
theorem d_Mo_lay_129 : decode b_Mo_lay 129 = .ok (.if_icmp .ge 28, 3) := by decide +kernel
theorem d_Mo_lay_132 : decode b_Mo_lay 132 = .ok (.aload_n 0, 1) := by decide +kernel
theorem d_Mo_lay_133 : decode b_Mo_lay 133 = .ok (.getfield 38, 3) := by decide +kernel
theorem d_Mo_lay_136 : decode b_Mo_lay 136 = .ok (.aload_n 0, 1) := by decide +kernel
theorem d_Mo_lay_137 : decode b_Mo_lay 137 = .ok (.getfield 69, 3) := by decide +kernel
theorem d_Mo_lay_140 : decode b_Mo_lay 140 = .ok (.iload_n 1, 1) := by decide +kernel
theorem d_Mo_lay_141 : decode b_Mo_lay 141 = .ok (.aload_n 0, 1) := by decide +kernel
theorem d_Mo_lay_142 : decode b_Mo_lay 142 = .ok (.getfield 7, 3) := by decide +kernel
theorem d_Mo_lay_145 : decode b_Mo_lay 145 = .ok (.iload 6, 2) := by decide +kernel
theorem d_Mo_lay_147 : decode b_Mo_lay 147 = .ok (.imul, 1) := by decide +kernel
theorem d_Mo_lay_148 : decode b_Mo_lay 148 = .ok (.iadd, 1) := by decide +kernel
theorem d_Mo_lay_149 : decode b_Mo_lay 149 = .ok (.iload 5, 2) := by decide +kernel
theorem d_Mo_lay_151 : decode b_Mo_lay 151 = .ok (.iadd, 1) := by decide +kernel
theorem d_Mo_lay_152 : decode b_Mo_lay 152 = .ok (.iaload, 1) := by decide +kernel
theorem d_Mo_lay_153 : decode b_Mo_lay 153 = .ok (.iaload, 1) := by decide +kernel
theorem d_Mo_lay_154 : decode b_Mo_lay 154 = .ok (.goto 4, 3) := by decide +kernel
theorem d_Mo_lay_157 : decode b_Mo_lay 157 = .ok (.iconst 0, 1) := by decide +kernel
theorem d_Mo_lay_158 : decode b_Mo_lay 158 = .ok (.iastore, 1) := by decide +kernel
theorem d_Mo_lay_159 : decode b_Mo_lay 159 = .ok (.iinc 6 1, 3) := by decide +kernel
theorem d_Mo_lay_162 : decode b_Mo_lay 162 = .ok (.goto (-61), 3) := by decide +kernel
theorem d_Mo_lay_165 : decode b_Mo_lay 165 = .ok (.aload_n 0, 1) := by decide +kernel
theorem d_Mo_lay_166 : decode b_Mo_lay 166 = .ok (.invokevirtual 195, 3) := by decide +kernel
theorem d_Mo_lay_169 : decode b_Mo_lay 169 = .ok (.aload_n 0, 1) := by decide +kernel
theorem d_Mo_lay_170 : decode b_Mo_lay 170 = .ok (.invokevirtual 110, 3) := by decide +kernel
theorem d_Mo_lay_173 : decode b_Mo_lay 173 = .ok (.iconst 2, 1) := by decide +kernel
theorem d_Mo_lay_174 : decode b_Mo_lay 174 = .ok (.aload_n 0, 1) := by decide +kernel
theorem d_Mo_lay_175 : decode b_Mo_lay 175 = .ok (.getfield 16, 3) := by decide +kernel
theorem d_Mo_lay_178 : decode b_Mo_lay 178 = .ok (.imul, 1) := by decide +kernel
theorem d_Mo_lay_179 : decode b_Mo_lay 179 = .ok (.isub, 1) := by decide +kernel
theorem d_Mo_lay_180 : decode b_Mo_lay 180 = .ok (.istore 6, 2) := by decide +kernel
theorem d_Mo_lay_182 : decode b_Mo_lay 182 = .ok (.iload 6, 2) := by decide +kernel
theorem d_Mo_lay_184 : decode b_Mo_lay 184 = .ok (.aload_n 0, 1) := by decide +kernel
theorem d_Mo_lay_185 : decode b_Mo_lay 185 = .ok (.invokevirtual 110, 3) := by decide +kernel
theorem d_Mo_lay_188 : decode b_Mo_lay 188 = .ok (.if_icmp .ge 38, 3) := by decide +kernel
theorem d_Mo_lay_191 : decode b_Mo_lay 191 = .ok (.aload_n 0, 1) := by decide +kernel
theorem d_Mo_lay_192 : decode b_Mo_lay 192 = .ok (.getfield 69, 3) := by decide +kernel
theorem d_Mo_lay_195 : decode b_Mo_lay 195 = .ok (.iload_n 1, 1) := by decide +kernel
theorem d_Mo_lay_196 : decode b_Mo_lay 196 = .ok (.aload_n 0, 1) := by decide +kernel
theorem d_Mo_lay_197 : decode b_Mo_lay 197 = .ok (.getfield 7, 3) := by decide +kernel
theorem d_Mo_lay_200 : decode b_Mo_lay 200 = .ok (.iload 6, 2) := by decide +kernel
theorem d_Mo_lay_202 : decode b_Mo_lay 202 = .ok (.imul, 1) := by decide +kernel
theorem d_Mo_lay_203 : decode b_Mo_lay 203 = .ok (.iadd, 1) := by decide +kernel
theorem d_Mo_lay_204 : decode b_Mo_lay 204 = .ok (.iload 5, 2) := by decide +kernel
theorem d_Mo_lay_206 : decode b_Mo_lay 206 = .ok (.iadd, 1) := by decide +kernel
theorem d_Mo_lay_207 : decode b_Mo_lay 207 = .ok (.aload_n 0, 1) := by decide +kernel
theorem d_Mo_lay_208 : decode b_Mo_lay 208 = .ok (.getfield 35, 3) := by decide +kernel
theorem d_Mo_lay_211 : decode b_Mo_lay 211 = .ok (.aload_n 0, 1) := by decide +kernel
theorem d_Mo_lay_212 : decode b_Mo_lay 212 = .ok (.getfield 81, 3) := by decide +kernel
theorem d_Mo_lay_215 : decode b_Mo_lay 215 = .ok (.iload 6, 2) := by decide +kernel
theorem d_Mo_lay_217 : decode b_Mo_lay 217 = .ok (.iaload, 1) := by decide +kernel
theorem d_Mo_lay_218 : decode b_Mo_lay 218 = .ok (.iaload, 1) := by decide +kernel
theorem d_Mo_lay_219 : decode b_Mo_lay 219 = .ok (.iastore, 1) := by decide +kernel
theorem d_Mo_lay_220 : decode b_Mo_lay 220 = .ok (.iinc 6 1, 3) := by decide +kernel
theorem d_Mo_lay_223 : decode b_Mo_lay 223 = .ok (.goto (-41), 3) := by decide +kernel
theorem d_Mo_lay_226 : decode b_Mo_lay 226 = .ok (.iinc 5 1, 3) := by decide +kernel
theorem d_Mo_lay_229 : decode b_Mo_lay 229 = .ok (.goto (-140), 3) := by decide +kernel
theorem d_Mo_lay_232 : decode b_Mo_lay 232 = .ok (.return_, 1) := by decide +kernel
theorem ok_Mo_lay : OKv y_Mo_lay b_Mo_lay 7 none "DeepChannelModel" 2 := ⟨k_1069, k_1068, k_23, k_55, by decide +kernel, by decide +kernel, by decide +kernel⟩
abbrev w_Mo_lay (cI cJ : ClassId) (qM qM_bytes qM_powers qM_values qM_logarithms qM_word qM_solved qM_system qM_forms qM_elements qM_counts qM_data : Nat) (M_thrown M_pattern M_begins M_firsts M_seconds M_mixer M_waiting M_line M_length M_sent M_state M_places M_least M_row M_rowSize M_differ M_blocks M_marks M_wrongs M_rights M_tells M_lastMaster M_lastCounts M_wrong : Value) (M_depth : Int32) (M_fill : Int32) (M_half : Int32) (M_craft : Int32) (M_master : Int32) (M_bytes : Nat → Int32) (M_powers : Nat → Int32) (M_values : Nat → Int32) (M_logarithms : Nat → Int32) (M_word : Nat → Int32) (M_solved : Nat → Int32) (M_system : Nat → Int32) (M_forms : Nat → Int32) (M_elements : Nat → Int32) (M_counts : Nat → Int32) (M_data : Nat → Int32) : va_W := [(qM, .inr (11, [M_thrown, .int M_depth, .int M_fill, .int M_half, M_pattern, .int M_craft, M_begins, M_firsts, M_seconds, .ref qM_powers, .ref qM_logarithms, .ref qM_forms, .ref qM_elements, M_mixer, .ref qM_data, M_waiting, .int M_master, .ref qM_counts, M_line, M_length, M_sent, M_state, M_places, M_least, M_row, M_rowSize, M_differ, M_blocks, M_marks, M_wrongs, .ref qM_bytes, M_rights, M_tells, M_lastMaster, M_lastCounts, .ref qM_word, .ref qM_values, .ref qM_system, .ref qM_solved, M_wrong])), (qM_bytes, .inl (cI, 4000, .inl M_bytes)), (qM_powers, .inl (cI, 255, .inl M_powers)), (qM_values, .inl (cI, 32, .inl M_values)), (qM_logarithms, .inl (cI, 256, .inl M_logarithms)), (qM_word, .inl (cI, 255, .inl M_word)), (qM_solved, .inl (cI, 32, .inl M_solved)), (qM_system, .inl (cI, 1056, .inl M_system)), (qM_forms, .inl (cI, 256, .inl M_forms)), (qM_elements, .inl (cI, 256, .inl M_elements)), (qM_counts, .inl (cI, 8, .inl M_counts)), (qM_data, .inl (cI, 250, .inl M_data))]
def f_Mo_lay_226 (kh89 : Int32 → Int32 → (Nat → Int32) → (Nat → Int32) → (Nat → Int32) → (Nat → Int32) → (Nat → Int32) → Option ((Nat → Int32) × (Nat → Int32) × (Nat → Int32) × (Nat → Int32) × (Nat → Int32))) (x1 : Int32) (x5 : Int32) (M_bytes : Nat → Int32) (M_values : Nat → Int32) (M_word : Nat → Int32) (M_solved : Nat → Int32) (M_system : Nat → Int32) : Option ((Nat → Int32) × (Nat → Int32) × (Nat → Int32) × (Nat → Int32) × (Nat → Int32)) :=
  nm (x5 + (1 : Int32)) fun v1 =>
  kh89 x1 v1 M_bytes M_values M_word M_solved M_system
def f_Mo_lay_182_b (M_depth : Int32) (M_fill : Int32) (M_forms : Nat → Int32) (kh89 : Int32 → Int32 → (Nat → Int32) → (Nat → Int32) → (Nat → Int32) → (Nat → Int32) → (Nat → Int32) → Option ((Nat → Int32) × (Nat → Int32) × (Nat → Int32) × (Nat → Int32) × (Nat → Int32))) (kh182 : Int32 → Int32 → Int32 → (Nat → Int32) → (Nat → Int32) → (Nat → Int32) → (Nat → Int32) → (Nat → Int32) → Option ((Nat → Int32) × (Nat → Int32) × (Nat → Int32) × (Nat → Int32) × (Nat → Int32))) (x1 : Int32) (x5 : Int32) (x6 : Int32) (M_bytes : Nat → Int32) (M_values : Nat → Int32) (M_word : Nat → Int32) (M_solved : Nat → Int32) (M_system : Nat → Int32) : Option ((Nat → Int32) × (Nat → Int32) × (Nat → Int32) × (Nat → Int32) × (Nat → Int32)) :=
  bd (f_Mo_wordSize M_fill) fun u3 =>
  nm u3 fun r2 =>
  if r2 ≤ x6 then
    f_Mo_lay_226 kh89 x1 x5 M_bytes M_values M_word M_solved M_system
  else
  rdI M_word 255 x6 fun v4 =>
  rdI M_forms 256 v4 fun v5 =>
  wrI M_bytes 4000 ((x1 + (M_depth * x6)) + x5) v5 fun g6 =>
  nm (x6 + (1 : Int32)) fun v7 =>
  kh182 x1 x5 v7 g6 M_values M_word M_solved M_system
def f_Mo_lay_182 (M_depth : Int32) (M_fill : Int32) (M_forms : Nat → Int32) (kh89 : Int32 → Int32 → (Nat → Int32) → (Nat → Int32) → (Nat → Int32) → (Nat → Int32) → (Nat → Int32) → Option ((Nat → Int32) × (Nat → Int32) × (Nat → Int32) × (Nat → Int32) × (Nat → Int32))) : Nat → Int32 → Int32 → Int32 → (Nat → Int32) → (Nat → Int32) → (Nat → Int32) → (Nat → Int32) → (Nat → Int32) → Option ((Nat → Int32) × (Nat → Int32) × (Nat → Int32) × (Nat → Int32) × (Nat → Int32))
  | 0 => fun _ _ _ _ _ _ _ _ => none
  | n + 1 => fun x1 x5 x6 M_bytes M_values M_word M_solved M_system => f_Mo_lay_182_b M_depth M_fill M_forms kh89 (f_Mo_lay_182 M_depth M_fill M_forms kh89 n) x1 x5 x6 M_bytes M_values M_word M_solved M_system
def f_Mo_lay_165 (M_depth : Int32) (M_fill : Int32) (M_half : Int32) (M_powers : Nat → Int32) (M_logarithms : Nat → Int32) (M_forms : Nat → Int32) (kh89 : Int32 → Int32 → (Nat → Int32) → (Nat → Int32) → (Nat → Int32) → (Nat → Int32) → (Nat → Int32) → Option ((Nat → Int32) × (Nat → Int32) × (Nat → Int32) × (Nat → Int32) × (Nat → Int32))) (x1 : Int32) (x5 : Int32) (M_bytes : Nat → Int32) (M_values : Nat → Int32) (M_word : Nat → Int32) (M_solved : Nat → Int32) (M_system : Nat → Int32) : Option ((Nat → Int32) × (Nat → Int32) × (Nat → Int32) × (Nat → Int32) × (Nat → Int32)) :=
  bd (f_Mo_check M_fill M_half M_powers M_values M_logarithms M_word M_solved M_system) fun u12 =>
  nm u12.1 fun g8 =>
  nm u12.2.1 fun g9 =>
  nm u12.2.2.1 fun g10 =>
  nm u12.2.2.2 fun g11 =>
  bd (f_Mo_wordSize M_fill) fun u14 =>
  nm u14 fun r13 =>
  nm (r13 - ((2 : Int32) * M_half)) fun v15 =>
  f_Mo_lay_182 M_depth M_fill M_forms kh89 10000 x1 x5 v15 M_bytes g8 g9 g10 g11
def f_Mo_lay_158 (kh101 : Int32 → Int32 → Int32 → (Nat → Int32) → (Nat → Int32) → (Nat → Int32) → (Nat → Int32) → (Nat → Int32) → Option ((Nat → Int32) × (Nat → Int32) × (Nat → Int32) × (Nat → Int32) × (Nat → Int32))) (x1 : Int32) (x5 : Int32) (x6 : Int32) (t1 : Int32) (t2 : Int32) (M_bytes : Nat → Int32) (M_values : Nat → Int32) (M_word : Nat → Int32) (M_solved : Nat → Int32) (M_system : Nat → Int32) : Option ((Nat → Int32) × (Nat → Int32) × (Nat → Int32) × (Nat → Int32) × (Nat → Int32)) :=
  wrI M_word 255 t1 t2 fun g16 =>
  nm (x6 + (1 : Int32)) fun v17 =>
  kh101 x1 x5 v17 M_bytes M_values g16 M_solved M_system
def f_Mo_lay_101_b (M_depth : Int32) (M_fill : Int32) (M_half : Int32) (M_powers : Nat → Int32) (M_logarithms : Nat → Int32) (M_forms : Nat → Int32) (M_elements : Nat → Int32) (kh89 : Int32 → Int32 → (Nat → Int32) → (Nat → Int32) → (Nat → Int32) → (Nat → Int32) → (Nat → Int32) → Option ((Nat → Int32) × (Nat → Int32) × (Nat → Int32) × (Nat → Int32) × (Nat → Int32))) (kh101 : Int32 → Int32 → Int32 → (Nat → Int32) → (Nat → Int32) → (Nat → Int32) → (Nat → Int32) → (Nat → Int32) → Option ((Nat → Int32) × (Nat → Int32) × (Nat → Int32) × (Nat → Int32) × (Nat → Int32))) (x1 : Int32) (x5 : Int32) (x6 : Int32) (M_bytes : Nat → Int32) (M_values : Nat → Int32) (M_word : Nat → Int32) (M_solved : Nat → Int32) (M_system : Nat → Int32) : Option ((Nat → Int32) × (Nat → Int32) × (Nat → Int32) × (Nat → Int32) × (Nat → Int32)) :=
  bd (f_Mo_wordSize M_fill) fun u19 =>
  nm u19 fun r18 =>
  if r18 ≤ x6 then
    f_Mo_lay_165 M_depth M_fill M_half M_powers M_logarithms M_forms kh89 x1 x5 M_bytes M_values M_word M_solved M_system
  else
  bd (f_Mo_wordSize M_fill) fun u21 =>
  nm u21 fun r20 =>
  if (r20 - ((2 : Int32) * M_half)) ≤ x6 then
    f_Mo_lay_158 kh101 x1 x5 x6 x6 (0 : Int32) M_bytes M_values M_word M_solved M_system
  else
  rdI M_bytes 4000 ((x1 + (M_depth * x6)) + x5) fun v22 =>
  rdI M_elements 256 v22 fun v23 =>
  f_Mo_lay_158 kh101 x1 x5 x6 x6 v23 M_bytes M_values M_word M_solved M_system
def f_Mo_lay_101 (M_depth : Int32) (M_fill : Int32) (M_half : Int32) (M_powers : Nat → Int32) (M_logarithms : Nat → Int32) (M_forms : Nat → Int32) (M_elements : Nat → Int32) (kh89 : Int32 → Int32 → (Nat → Int32) → (Nat → Int32) → (Nat → Int32) → (Nat → Int32) → (Nat → Int32) → Option ((Nat → Int32) × (Nat → Int32) × (Nat → Int32) × (Nat → Int32) × (Nat → Int32))) : Nat → Int32 → Int32 → Int32 → (Nat → Int32) → (Nat → Int32) → (Nat → Int32) → (Nat → Int32) → (Nat → Int32) → Option ((Nat → Int32) × (Nat → Int32) × (Nat → Int32) × (Nat → Int32) × (Nat → Int32))
  | 0 => fun _ _ _ _ _ _ _ _ => none
  | n + 1 => fun x1 x5 x6 M_bytes M_values M_word M_solved M_system => f_Mo_lay_101_b M_depth M_fill M_half M_powers M_logarithms M_forms M_elements kh89 (f_Mo_lay_101 M_depth M_fill M_half M_powers M_logarithms M_forms M_elements kh89 n) x1 x5 x6 M_bytes M_values M_word M_solved M_system
def f_Mo_lay_89_b (M_depth : Int32) (M_fill : Int32) (M_half : Int32) (M_powers : Nat → Int32) (M_logarithms : Nat → Int32) (M_forms : Nat → Int32) (M_elements : Nat → Int32) (kh89 : Int32 → Int32 → (Nat → Int32) → (Nat → Int32) → (Nat → Int32) → (Nat → Int32) → (Nat → Int32) → Option ((Nat → Int32) × (Nat → Int32) × (Nat → Int32) × (Nat → Int32) × (Nat → Int32))) (x1 : Int32) (x5 : Int32) (M_bytes : Nat → Int32) (M_values : Nat → Int32) (M_word : Nat → Int32) (M_solved : Nat → Int32) (M_system : Nat → Int32) : Option ((Nat → Int32) × (Nat → Int32) × (Nat → Int32) × (Nat → Int32) × (Nat → Int32)) :=
  if M_depth ≤ x5 then
    some (M_bytes, M_values, M_word, M_solved, M_system)
  else
  f_Mo_lay_101 M_depth M_fill M_half M_powers M_logarithms M_forms M_elements kh89 10000 x1 x5 (0 : Int32) M_bytes M_values M_word M_solved M_system
def f_Mo_lay_89 (M_depth : Int32) (M_fill : Int32) (M_half : Int32) (M_powers : Nat → Int32) (M_logarithms : Nat → Int32) (M_forms : Nat → Int32) (M_elements : Nat → Int32) : Nat → Int32 → Int32 → (Nat → Int32) → (Nat → Int32) → (Nat → Int32) → (Nat → Int32) → (Nat → Int32) → Option ((Nat → Int32) × (Nat → Int32) × (Nat → Int32) × (Nat → Int32) × (Nat → Int32))
  | 0 => fun _ _ _ _ _ _ _ => none
  | n + 1 => fun x1 x5 M_bytes M_values M_word M_solved M_system => f_Mo_lay_89_b M_depth M_fill M_half M_powers M_logarithms M_forms M_elements (f_Mo_lay_89 M_depth M_fill M_half M_powers M_logarithms M_forms M_elements n) x1 x5 M_bytes M_values M_word M_solved M_system
def f_Mo_lay_55 (M_depth : Int32) (M_fill : Int32) (M_half : Int32) (M_powers : Nat → Int32) (M_logarithms : Nat → Int32) (M_forms : Nat → Int32) (M_elements : Nat → Int32) (x1 : Int32) (x3 : Int32) (x4 : Int32) (M_bytes : Nat → Int32) (M_values : Nat → Int32) (M_word : Nat → Int32) (M_solved : Nat → Int32) (M_system : Nat → Int32) : Option ((Nat → Int32) × (Nat → Int32) × (Nat → Int32) × (Nat → Int32) × (Nat → Int32)) :=
  wrI M_bytes 4000 ((x1 + x3) - (2 : Int32)) (x4 >>> ((8 : Int32) &&& 31)) fun g24 =>
  wrI g24 4000 ((x1 + x3) - (1 : Int32)) (x4 &&& (255 : Int32)) fun g25 =>
  f_Mo_lay_89 M_depth M_fill M_half M_powers M_logarithms M_forms M_elements 10000 x1 (0 : Int32) g25 M_values M_word M_solved M_system
def f_Mo_lay_12_b (M_depth : Int32) (M_fill : Int32) (M_half : Int32) (M_craft : Int32) (M_master : Int32) (M_powers : Nat → Int32) (M_logarithms : Nat → Int32) (M_forms : Nat → Int32) (M_elements : Nat → Int32) (M_counts : Nat → Int32) (M_data : Nat → Int32) (kh12 : Int32 → Int32 → Int32 → Int32 → Int32 → (Nat → Int32) → (Nat → Int32) → (Nat → Int32) → (Nat → Int32) → (Nat → Int32) → Option ((Nat → Int32) × (Nat → Int32) × (Nat → Int32) × (Nat → Int32) × (Nat → Int32))) (x1 : Int32) (x2 : Int32) (x3 : Int32) (x4 : Int32) (x5 : Int32) (M_bytes : Nat → Int32) (M_values : Nat → Int32) (M_word : Nat → Int32) (M_solved : Nat → Int32) (M_system : Nat → Int32) : Option ((Nat → Int32) × (Nat → Int32) × (Nat → Int32) × (Nat → Int32) × (Nat → Int32)) :=
  if (x3 - (2 : Int32)) ≤ x5 then
    f_Mo_lay_55 M_depth M_fill M_half M_powers M_logarithms M_forms M_elements x1 x3 x4 M_bytes M_values M_word M_solved M_system
  else
  bd (f_Mo_frameByte M_craft M_master M_counts M_data x5 x2) fun u27 =>
  nm u27 fun r26 =>
  wrI M_bytes 4000 (x1 + x5) r26 fun g28 =>
  bd (f_Mo_checkOn x4 r26) fun u30 =>
  nm u30 fun r29 =>
  nm (x5 + (1 : Int32)) fun v31 =>
  kh12 x1 x2 x3 r29 v31 g28 M_values M_word M_solved M_system
def f_Mo_lay_12 (M_depth : Int32) (M_fill : Int32) (M_half : Int32) (M_craft : Int32) (M_master : Int32) (M_powers : Nat → Int32) (M_logarithms : Nat → Int32) (M_forms : Nat → Int32) (M_elements : Nat → Int32) (M_counts : Nat → Int32) (M_data : Nat → Int32) : Nat → Int32 → Int32 → Int32 → Int32 → Int32 → (Nat → Int32) → (Nat → Int32) → (Nat → Int32) → (Nat → Int32) → (Nat → Int32) → Option ((Nat → Int32) × (Nat → Int32) × (Nat → Int32) × (Nat → Int32) × (Nat → Int32))
  | 0 => fun _ _ _ _ _ _ _ _ _ _ => none
  | n + 1 => fun x1 x2 x3 x4 x5 M_bytes M_values M_word M_solved M_system => f_Mo_lay_12_b M_depth M_fill M_half M_craft M_master M_powers M_logarithms M_forms M_elements M_counts M_data (f_Mo_lay_12 M_depth M_fill M_half M_craft M_master M_powers M_logarithms M_forms M_elements M_counts M_data n) x1 x2 x3 x4 x5 M_bytes M_values M_word M_solved M_system
def f_Mo_lay (M_depth : Int32) (M_fill : Int32) (M_half : Int32) (M_craft : Int32) (M_master : Int32) (M_bytes : Nat → Int32) (M_powers : Nat → Int32) (M_values : Nat → Int32) (M_logarithms : Nat → Int32) (M_word : Nat → Int32) (M_solved : Nat → Int32) (M_system : Nat → Int32) (M_forms : Nat → Int32) (M_elements : Nat → Int32) (M_counts : Nat → Int32) (M_data : Nat → Int32) (x1 : Int32) (x2 : Int32) : Option ((Nat → Int32) × (Nat → Int32) × (Nat → Int32) × (Nat → Int32) × (Nat → Int32)) :=
  bd (f_Mo_frameSize M_depth M_fill M_half) fun u33 =>
  nm u33 fun r32 =>
  f_Mo_lay_12 M_depth M_fill M_half M_craft M_master M_powers M_logarithms M_forms M_elements M_counts M_data 10000 x1 x2 r32 (65535 : Int32) (0 : Int32) M_bytes M_values M_word M_solved M_system
set_option maxHeartbeats 4000000 in
set_option maxRecDepth 100000 in
theorem c_Mo_lay (l : Launch) (D : va_G) (cI cJ : ClassId) (tt : Nat → Nat) (qM qM_bytes qM_powers qM_values qM_logarithms qM_word qM_solved qM_system qM_forms qM_elements qM_counts qM_data : Nat) (M_thrown M_pattern M_begins M_firsts M_seconds M_mixer M_waiting M_line M_length M_sent M_state M_places M_least M_row M_rowSize M_differ M_blocks M_marks M_wrongs M_rights M_tells M_lastMaster M_lastCounts M_wrong : Value) (sz : Nat) (M_depth : Int32) (M_fill : Int32) (M_half : Int32) (M_craft : Int32) (M_master : Int32) (M_bytes : Nat → Int32) (M_powers : Nat → Int32) (M_values : Nat → Int32) (M_logarithms : Nat → Int32) (M_word : Nat → Int32) (M_solved : Nat → Int32) (M_system : Nat → Int32) (M_forms : Nat → Int32) (M_elements : Nat → Int32) (M_counts : Nat → Int32) (M_data : Nat → Int32) (x1 : Int32) (x2 : Int32) (M_bytes' : Nat → Int32) (M_values' : Nat → Int32) (M_word' : Nat → Int32) (M_solved' : Nat → Int32) (M_system' : Nat → Int32) (hm : f_Mo_lay M_depth M_fill M_half M_craft M_master M_bytes M_powers M_values M_logarithms M_word M_solved M_system M_forms M_elements M_counts M_data x1 x2 = some (M_bytes', M_values', M_word', M_solved', M_system')) : CTv l y_Mo_lay b_Mo_lay 7 none (RM 3 73) D cI cJ tt [.ref qM, .int x1, .int x2] (w_Mo_lay cI cJ qM qM_bytes qM_powers qM_values qM_logarithms qM_word qM_solved qM_system qM_forms qM_elements qM_counts qM_data M_thrown M_pattern M_begins M_firsts M_seconds M_mixer M_waiting M_line M_length M_sent M_state M_places M_least M_row M_rowSize M_differ M_blocks M_marks M_wrongs M_rights M_tells M_lastMaster M_lastCounts M_wrong M_depth M_fill M_half M_craft M_master M_bytes M_powers M_values M_logarithms M_word M_solved M_system M_forms M_elements M_counts M_data) (w_Mo_lay cI cJ qM qM_bytes qM_powers qM_values qM_logarithms qM_word qM_solved qM_system qM_forms qM_elements qM_counts qM_data M_thrown M_pattern M_begins M_firsts M_seconds M_mixer M_waiting M_line M_length M_sent M_state M_places M_least M_row M_rowSize M_differ M_blocks M_marks M_wrongs M_rights M_tells M_lastMaster M_lastCounts M_wrong M_depth M_fill M_half M_craft M_master M_bytes' M_powers M_values' M_logarithms M_word' M_solved' M_system' M_forms M_elements M_counts M_data) sz := by
  refine Met.ofW (cc := b_Mo_lay) (maxL := 7) (ret := none) (by decide) rfl ?_
  intro p e s m args below meth c s₁ B hml hv
  obtain ⟨hargs, hsz, hP, hK, hD0, hE⟩ := hv
  have hx := B.exec
  have hb := B.bytes
  have hr := B.returns
  have hts : ∀ w ∈ TB, w.before args s = true := z_mV s (atoms_spec (ws := WD y_Mo_lay b_Mo_lay 7 none) B.pre)
  have hown : s.vm.findClass "DeepChannelModel" = some m.cls := findClass_of_methodNamed B.named
  have hlocks := B.notSynchronized
  subst hsz
  have hD := hD0.self (sz := s.heap.size)
  generalize hAe : va_A (w_Mo_lay cI cJ qM qM_bytes qM_powers qM_values qM_logarithms qM_word qM_solved qM_system qM_forms qM_elements qM_counts qM_data M_thrown M_pattern M_begins M_firsts M_seconds M_mixer M_waiting M_line M_length M_sent M_state M_places M_least M_row M_rowSize M_differ M_blocks M_marks M_wrongs M_rights M_tells M_lastMaster M_lastCounts M_wrong M_depth M_fill M_half M_craft M_master M_bytes M_powers M_values M_logarithms M_word M_solved M_system M_forms M_elements M_counts M_data) s.heap.size = A at hD hE ⊢
  have hA : ∀ q : Nat, s.heap.size ≤ q → A q := fun q h => by rw [← hAe]; exact Or.inr h
  have hS : va_S A s.heap s.heap [] := va_S.rf
  refine z_entry (vs := [.ref qM, .int x1, .int x2]) hargs (Nat.le_of_ble_eq_true rfl) (fun ls hl => ?_)
  have hl : lv_has ls 7 [(0, .ref qM), (1, .int x1), (2, .int x2)] := hl
  show W p l e (RM 3 73) s m args below meth c s.heap [] 0 0 _ _
  refine z_qi (fun Q0 hQ => ?_)
  have F : CallFix p m c b_Mo_lay 7 s args TB "DeepChannelModel" := ⟨hx, hb, hml, hown, hts⟩
  have T89 : ∀ (n89 : Nat) (x1 : Int32) (x5 : Int32) (M_bytes : Nat → Int32) (M_values : Nat → Int32) (M_word : Nat → Int32) (M_solved : Nat → Int32) (M_system : Nat → Int32), f_Mo_lay_89 M_depth M_fill M_half M_powers M_logarithms M_forms M_elements n89 x1 x5 M_bytes M_values M_word M_solved M_system = some (M_bytes', M_values', M_word', M_solved', M_system') → ∀ (H : Heap) (locs : List Loc), va_P D classes (w_Mo_lay cI cJ qM qM_bytes qM_powers qM_values qM_logarithms qM_word qM_solved qM_system qM_forms qM_elements qM_counts qM_data M_thrown M_pattern M_begins M_firsts M_seconds M_mixer M_waiting M_line M_length M_sent M_state M_places M_least M_row M_rowSize M_differ M_blocks M_marks M_wrongs M_rights M_tells M_lastMaster M_lastCounts M_wrong M_depth M_fill M_half M_craft M_master M_bytes M_powers M_values M_logarithms M_word M_solved M_system M_forms M_elements M_counts M_data) H → va_D A (w_Mo_lay cI cJ qM qM_bytes qM_powers qM_values qM_logarithms qM_word qM_solved qM_system qM_forms qM_elements qM_counts qM_data M_thrown M_pattern M_begins M_firsts M_seconds M_mixer M_waiting M_line M_length M_sent M_state M_places M_least M_row M_rowSize M_differ M_blocks M_marks M_wrongs M_rights M_tells M_lastMaster M_lastCounts M_wrong M_depth M_fill M_half M_craft M_master M_bytes M_powers M_values M_logarithms M_word M_solved M_system M_forms M_elements M_counts M_data) → va_S A s.heap H locs → ∀ (ls : Array Slot), lv_has ls 7 [(0, .ref qM), (1, .int x1), (5, .int x5)] → W p l e (RM 3 73) s m args below meth c H locs 0 0 Q0 (F0 m 89 ls []) := by
    intro n89
    induction n89 with
    | zero => intro x1 x5 M_bytes M_values M_word M_solved M_system hm; cases hm
    | succ n89 ih89 =>
      have T226 : ∀ (x1 : Int32) (x5 : Int32) (M_bytes : Nat → Int32) (M_values : Nat → Int32) (M_word : Nat → Int32) (M_solved : Nat → Int32) (M_system : Nat → Int32), f_Mo_lay_226 (f_Mo_lay_89 M_depth M_fill M_half M_powers M_logarithms M_forms M_elements n89) x1 x5 M_bytes M_values M_word M_solved M_system = some (M_bytes', M_values', M_word', M_solved', M_system') → ∀ (H : Heap) (locs : List Loc), va_P D classes (w_Mo_lay cI cJ qM qM_bytes qM_powers qM_values qM_logarithms qM_word qM_solved qM_system qM_forms qM_elements qM_counts qM_data M_thrown M_pattern M_begins M_firsts M_seconds M_mixer M_waiting M_line M_length M_sent M_state M_places M_least M_row M_rowSize M_differ M_blocks M_marks M_wrongs M_rights M_tells M_lastMaster M_lastCounts M_wrong M_depth M_fill M_half M_craft M_master M_bytes M_powers M_values M_logarithms M_word M_solved M_system M_forms M_elements M_counts M_data) H → va_D A (w_Mo_lay cI cJ qM qM_bytes qM_powers qM_values qM_logarithms qM_word qM_solved qM_system qM_forms qM_elements qM_counts qM_data M_thrown M_pattern M_begins M_firsts M_seconds M_mixer M_waiting M_line M_length M_sent M_state M_places M_least M_row M_rowSize M_differ M_blocks M_marks M_wrongs M_rights M_tells M_lastMaster M_lastCounts M_wrong M_depth M_fill M_half M_craft M_master M_bytes M_powers M_values M_logarithms M_word M_solved M_system M_forms M_elements M_counts M_data) → va_S A s.heap H locs → ∀ (ls : Array Slot), lv_has ls 7 [(0, .ref qM), (1, .int x1), (5, .int x5)] → W p l e (RM 3 73) s m args below meth c H locs 0 0 Q0 (F0 m 226 ls []) := by
        intro x1 x5 M_bytes M_values M_word M_solved M_system hm H locs hP hD hS ls hl
        unfold f_Mo_lay_226 at hm
        obtain ⟨v1, ev, hm⟩ := nm_el hm
        refine lv_iinc (v := v1) (lv' := [(5, .int v1), (0, .ref qM), (1, .int x1)]) hx hb d_Mo_lay_226 hl (k := 2) rfl (by rw [ev]; rfl) (by decide) rfl (fun ls hl => ?_)
        refine lv_goto (tgt := 89) hx hb d_Mo_lay_229 (by decide) ?_
        exact ih89 x1 v1 M_bytes M_values M_word M_solved M_system hm _ _ hP hD hS _ (lv_sub hl [1, 2, 0] rfl)
      have T182 : ∀ (n182 : Nat) (x1 : Int32) (x5 : Int32) (x6 : Int32) (M_bytes : Nat → Int32) (M_values : Nat → Int32) (M_word : Nat → Int32) (M_solved : Nat → Int32) (M_system : Nat → Int32), f_Mo_lay_182 M_depth M_fill M_forms (f_Mo_lay_89 M_depth M_fill M_half M_powers M_logarithms M_forms M_elements n89) n182 x1 x5 x6 M_bytes M_values M_word M_solved M_system = some (M_bytes', M_values', M_word', M_solved', M_system') → ∀ (H : Heap) (locs : List Loc), va_P D classes (w_Mo_lay cI cJ qM qM_bytes qM_powers qM_values qM_logarithms qM_word qM_solved qM_system qM_forms qM_elements qM_counts qM_data M_thrown M_pattern M_begins M_firsts M_seconds M_mixer M_waiting M_line M_length M_sent M_state M_places M_least M_row M_rowSize M_differ M_blocks M_marks M_wrongs M_rights M_tells M_lastMaster M_lastCounts M_wrong M_depth M_fill M_half M_craft M_master M_bytes M_powers M_values M_logarithms M_word M_solved M_system M_forms M_elements M_counts M_data) H → va_D A (w_Mo_lay cI cJ qM qM_bytes qM_powers qM_values qM_logarithms qM_word qM_solved qM_system qM_forms qM_elements qM_counts qM_data M_thrown M_pattern M_begins M_firsts M_seconds M_mixer M_waiting M_line M_length M_sent M_state M_places M_least M_row M_rowSize M_differ M_blocks M_marks M_wrongs M_rights M_tells M_lastMaster M_lastCounts M_wrong M_depth M_fill M_half M_craft M_master M_bytes M_powers M_values M_logarithms M_word M_solved M_system M_forms M_elements M_counts M_data) → va_S A s.heap H locs → ∀ (ls : Array Slot), lv_has ls 7 [(0, .ref qM), (1, .int x1), (5, .int x5), (6, .int x6)] → W p l e (RM 3 73) s m args below meth c H locs 0 0 Q0 (F0 m 182 ls []) := by
        intro n182
        induction n182 with
        | zero => intro x1 x5 x6 M_bytes M_values M_word M_solved M_system hm; cases hm
        | succ n182 ih182 =>
          intro x1 x5 x6 M_bytes M_values M_word M_solved M_system hm H locs hP hD hS ls hl
          replace hm : f_Mo_lay_182_b M_depth M_fill M_forms (f_Mo_lay_89 M_depth M_fill M_half M_powers M_logarithms M_forms M_elements n89) (f_Mo_lay_182 M_depth M_fill M_forms (f_Mo_lay_89 M_depth M_fill M_half M_powers M_logarithms M_forms M_elements n89) n182) x1 x5 x6 M_bytes M_values M_word M_solved M_system = some (M_bytes', M_values', M_word', M_solved', M_system') := hm
          unfold f_Mo_lay_182_b at hm
          refine lv_iload hx hb d_Mo_lay_182 (lv_at hl 3 rfl) ?_
          refine lv_aload_n hx hb d_Mo_lay_184 rfl (lv_at hl 0 rfl) ?_
          obtain ⟨r2, hu, hm⟩ := bd_el hm
          replace hm := nm_1 hm
          refine z_cVi (wc := w_Mo_wordSize cI cJ qM M_thrown (.int M_depth) (.int M_half) M_pattern (.int M_craft) M_begins M_firsts M_seconds (.ref qM_powers) (.ref qM_logarithms) (.ref qM_forms) (.ref qM_elements) M_mixer (.ref qM_data) M_waiting (.int M_master) (.ref qM_counts) M_line M_length M_sent M_state M_places M_least M_row M_rowSize M_differ M_blocks M_marks M_wrongs (.ref qM_bytes) M_rights M_tells M_lastMaster M_lastCounts (.ref qM_word) (.ref qM_values) (.ref qM_system) (.ref qM_solved) M_wrong M_fill) (wc' := w_Mo_wordSize cI cJ qM M_thrown (.int M_depth) (.int M_half) M_pattern (.int M_craft) M_begins M_firsts M_seconds (.ref qM_powers) (.ref qM_logarithms) (.ref qM_forms) (.ref qM_elements) M_mixer (.ref qM_data) M_waiting (.int M_master) (.ref qM_counts) M_line M_length M_sent M_state M_places M_least M_row M_rowSize M_differ M_blocks M_marks M_wrongs (.ref qM_bytes) M_rights M_tells M_lastMaster M_lastCounts (.ref qM_word) (.ref qM_values) (.ref qM_system) (.ref qM_solved) M_wrong M_fill) (wr := [(qM_bytes, .inl (cI, 4000, .inl M_bytes)), (qM_powers, .inl (cI, 255, .inl M_powers)), (qM_values, .inl (cI, 32, .inl M_values)), (qM_logarithms, .inl (cI, 256, .inl M_logarithms)), (qM_word, .inl (cI, 255, .inl M_word)), (qM_solved, .inl (cI, 32, .inl M_solved)), (qM_system, .inl (cI, 1056, .inl M_system)), (qM_forms, .inl (cI, 256, .inl M_forms)), (qM_elements, .inl (cI, 256, .inl M_elements)), (qM_counts, .inl (cI, 8, .inl M_counts)), (qM_data, .inl (cI, 250, .inl M_data))]) (As := []) (rest := [.int x6]) (c_Mo_wordSize l D cI cJ tt qM M_thrown (.int M_depth) (.int M_half) M_pattern (.int M_craft) M_begins M_firsts M_seconds (.ref qM_powers) (.ref qM_logarithms) (.ref qM_forms) (.ref qM_elements) M_mixer (.ref qM_data) M_waiting (.int M_master) (.ref qM_counts) M_line M_length M_sent M_state M_places M_least M_row M_rowSize M_differ M_blocks M_marks M_wrongs (.ref qM_bytes) M_rights M_tells M_lastMaster M_lastCounts (.ref qM_word) (.ref qM_values) (.ref qM_system) (.ref qM_solved) M_wrong _ M_fill r2 hu) F ok_Mo_wordSize rfl k_1030 hK hE hP hD hS hA [0] [1, 2, 3, 4, 5, 6, 7, 8, 9, 10, 11] rfl rfl (by decide) (by decide) (by decide) 0 rfl rfl rfl ⟨rfl, rfl, Nat.le_of_ble_eq_true rfl, Nat.le_of_ble_eq_true rfl⟩ ⟨Nat.zero_le _, Nat.zero_le _⟩ rfl hl.1 rfl (Nat.le_of_ble_eq_true rfl) d_Mo_lay_185 (fun H locs hP hD hS => ?_)
          have hP : va_P D classes (w_Mo_lay cI cJ qM qM_bytes qM_powers qM_values qM_logarithms qM_word qM_solved qM_system qM_forms qM_elements qM_counts qM_data M_thrown M_pattern M_begins M_firsts M_seconds M_mixer M_waiting M_line M_length M_sent M_state M_places M_least M_row M_rowSize M_differ M_blocks M_marks M_wrongs M_rights M_tells M_lastMaster M_lastCounts M_wrong M_depth M_fill M_half M_craft M_master M_bytes M_powers M_values M_logarithms M_word M_solved M_system M_forms M_elements M_counts M_data) H := hP.sub [11, 0, 1, 2, 3, 4, 5, 6, 7, 8, 9, 10] rfl
          have hD : va_D A (w_Mo_lay cI cJ qM qM_bytes qM_powers qM_values qM_logarithms qM_word qM_solved qM_system qM_forms qM_elements qM_counts qM_data M_thrown M_pattern M_begins M_firsts M_seconds M_mixer M_waiting M_line M_length M_sent M_state M_places M_least M_row M_rowSize M_differ M_blocks M_marks M_wrongs M_rights M_tells M_lastMaster M_lastCounts M_wrong M_depth M_fill M_half M_craft M_master M_bytes M_powers M_values M_logarithms M_word M_solved M_system M_forms M_elements M_counts M_data) := hD.sub [11, 0, 1, 2, 3, 4, 5, 6, 7, 8, 9, 10] (by decide) rfl
          refine z_if hm (lv_icmp_ge (tgt := 226) hx hb d_Mo_lay_188 (by decide)) (fun hm => ?_) (fun hm => ?_)
          · exact T226 x1 x5 M_bytes M_values M_word M_solved M_system hm _ _ hP hD hS _ (lv_sub hl [0, 1, 2] rfl)
          · refine lv_aload_n hx hb d_Mo_lay_191 rfl (lv_at hl 0 rfl) ?_
            refine va_get (D := D) (ci := 11) (v := .ref qM_bytes) (C := "DeepChannelModel") (T := fT_Mo) (N := 40) hx hb hts u_Mo hown hK hP 0 rfl rfl 30 (by decide) (hts _ k_916) (fun _ h9 => h9) rfl d_Mo_lay_192 ?_
            refine lv_iload_n hx hb d_Mo_lay_195 rfl (lv_at hl 1 rfl) ?_
            refine lv_aload_n hx hb d_Mo_lay_196 rfl (lv_at hl 0 rfl) ?_
            refine va_get (D := D) (ci := 11) (v := .int M_depth) (C := "DeepChannelModel") (T := fT_Mo) (N := 40) hx hb hts u_Mo hown hK hP 0 rfl rfl 1 (by decide) (hts _ k_887) (fun _ h9 => h9) rfl d_Mo_lay_197 ?_
            refine lv_iload hx hb d_Mo_lay_200 (lv_at hl 3 rfl) ?_
            refine lv_imul hx hb d_Mo_lay_202 ?_
            refine lv_iadd hx hb d_Mo_lay_203 ?_
            refine lv_iload hx hb d_Mo_lay_204 (lv_at hl 2 rfl) ?_
            refine lv_iadd hx hb d_Mo_lay_206 ?_
            refine lv_aload_n hx hb d_Mo_lay_207 rfl (lv_at hl 0 rfl) ?_
            refine va_get (D := D) (ci := 11) (v := .ref qM_forms) (C := "DeepChannelModel") (T := fT_Mo) (N := 40) hx hb hts u_Mo hown hK hP 0 rfl rfl 11 (by decide) (hts _ k_897) (fun _ h9 => h9) rfl d_Mo_lay_208 ?_
            refine lv_aload_n hx hb d_Mo_lay_211 rfl (lv_at hl 0 rfl) ?_
            refine va_get (D := D) (ci := 11) (v := .ref qM_word) (C := "DeepChannelModel") (T := fT_Mo) (N := 40) hx hb hts u_Mo hown hK hP 0 rfl rfl 35 (by decide) (hts _ k_921) (fun _ h9 => h9) rfl d_Mo_lay_212 ?_
            refine lv_iload hx hb d_Mo_lay_215 (lv_at hl 3 rfl) ?_
            refine z_iald hm hx hb hK hP 5 rfl d_Mo_lay_217 (fun v4 hm => ?_)
            refine z_iald hm hx hb hK hP 8 rfl d_Mo_lay_218 (fun v5 hm => ?_)
            refine z_iast hm hx hb hK hP hD hS 1 rfl d_Mo_lay_219 (fun g6 hm H locs hP hD hS => ?_)
            have hP : va_P D classes (w_Mo_lay cI cJ qM qM_bytes qM_powers qM_values qM_logarithms qM_word qM_solved qM_system qM_forms qM_elements qM_counts qM_data M_thrown M_pattern M_begins M_firsts M_seconds M_mixer M_waiting M_line M_length M_sent M_state M_places M_least M_row M_rowSize M_differ M_blocks M_marks M_wrongs M_rights M_tells M_lastMaster M_lastCounts M_wrong M_depth M_fill M_half M_craft M_master g6 M_powers M_values M_logarithms M_word M_solved M_system M_forms M_elements M_counts M_data) H := hP
            have hD : va_D A (w_Mo_lay cI cJ qM qM_bytes qM_powers qM_values qM_logarithms qM_word qM_solved qM_system qM_forms qM_elements qM_counts qM_data M_thrown M_pattern M_begins M_firsts M_seconds M_mixer M_waiting M_line M_length M_sent M_state M_places M_least M_row M_rowSize M_differ M_blocks M_marks M_wrongs M_rights M_tells M_lastMaster M_lastCounts M_wrong M_depth M_fill M_half M_craft M_master g6 M_powers M_values M_logarithms M_word M_solved M_system M_forms M_elements M_counts M_data) := hD
            obtain ⟨v7, ev, hm⟩ := nm_el hm
            refine lv_iinc (v := v7) (lv' := [(6, .int v7), (0, .ref qM), (1, .int x1), (5, .int x5)]) hx hb d_Mo_lay_220 hl (k := 3) rfl (by rw [ev]; rfl) (by decide) rfl (fun ls hl => ?_)
            refine lv_goto (tgt := 182) hx hb d_Mo_lay_223 (by decide) ?_
            exact ih182 x1 x5 v7 g6 M_values M_word M_solved M_system hm _ _ hP hD hS _ (lv_sub hl [1, 2, 3, 0] rfl)
      have T165 : ∀ (x1 : Int32) (x5 : Int32) (M_bytes : Nat → Int32) (M_values : Nat → Int32) (M_word : Nat → Int32) (M_solved : Nat → Int32) (M_system : Nat → Int32), f_Mo_lay_165 M_depth M_fill M_half M_powers M_logarithms M_forms (f_Mo_lay_89 M_depth M_fill M_half M_powers M_logarithms M_forms M_elements n89) x1 x5 M_bytes M_values M_word M_solved M_system = some (M_bytes', M_values', M_word', M_solved', M_system') → ∀ (H : Heap) (locs : List Loc), va_P D classes (w_Mo_lay cI cJ qM qM_bytes qM_powers qM_values qM_logarithms qM_word qM_solved qM_system qM_forms qM_elements qM_counts qM_data M_thrown M_pattern M_begins M_firsts M_seconds M_mixer M_waiting M_line M_length M_sent M_state M_places M_least M_row M_rowSize M_differ M_blocks M_marks M_wrongs M_rights M_tells M_lastMaster M_lastCounts M_wrong M_depth M_fill M_half M_craft M_master M_bytes M_powers M_values M_logarithms M_word M_solved M_system M_forms M_elements M_counts M_data) H → va_D A (w_Mo_lay cI cJ qM qM_bytes qM_powers qM_values qM_logarithms qM_word qM_solved qM_system qM_forms qM_elements qM_counts qM_data M_thrown M_pattern M_begins M_firsts M_seconds M_mixer M_waiting M_line M_length M_sent M_state M_places M_least M_row M_rowSize M_differ M_blocks M_marks M_wrongs M_rights M_tells M_lastMaster M_lastCounts M_wrong M_depth M_fill M_half M_craft M_master M_bytes M_powers M_values M_logarithms M_word M_solved M_system M_forms M_elements M_counts M_data) → va_S A s.heap H locs → ∀ (ls : Array Slot), lv_has ls 7 [(0, .ref qM), (1, .int x1), (5, .int x5)] → W p l e (RM 3 73) s m args below meth c H locs 0 0 Q0 (F0 m 165 ls []) := by
        intro x1 x5 M_bytes M_values M_word M_solved M_system hm H locs hP hD hS ls hl
        unfold f_Mo_lay_165 at hm
        refine lv_aload_n hx hb d_Mo_lay_165 rfl (lv_at hl 0 rfl) ?_
        obtain ⟨⟨g8, g9, g10, g11⟩, hu, hm⟩ := bd_el hm
        replace hm := nm_4 hm
        refine z_cVv (wc := w_Mo_check cI cJ qM qM_powers qM_values qM_logarithms qM_word qM_solved qM_system M_thrown (.int M_depth) M_pattern (.int M_craft) M_begins M_firsts M_seconds (.ref qM_forms) (.ref qM_elements) M_mixer (.ref qM_data) M_waiting (.int M_master) (.ref qM_counts) M_line M_length M_sent M_state M_places M_least M_row M_rowSize M_differ M_blocks M_marks M_wrongs (.ref qM_bytes) M_rights M_tells M_lastMaster M_lastCounts M_wrong M_fill M_half M_powers M_values M_logarithms M_word M_solved M_system) (wc' := w_Mo_check cI cJ qM qM_powers qM_values qM_logarithms qM_word qM_solved qM_system M_thrown (.int M_depth) M_pattern (.int M_craft) M_begins M_firsts M_seconds (.ref qM_forms) (.ref qM_elements) M_mixer (.ref qM_data) M_waiting (.int M_master) (.ref qM_counts) M_line M_length M_sent M_state M_places M_least M_row M_rowSize M_differ M_blocks M_marks M_wrongs (.ref qM_bytes) M_rights M_tells M_lastMaster M_lastCounts M_wrong M_fill M_half M_powers g8 M_logarithms g9 g10 g11) (wr := [(qM_bytes, .inl (cI, 4000, .inl M_bytes)), (qM_forms, .inl (cI, 256, .inl M_forms)), (qM_elements, .inl (cI, 256, .inl M_elements)), (qM_counts, .inl (cI, 8, .inl M_counts)), (qM_data, .inl (cI, 250, .inl M_data))]) (As := []) (rest := []) (c_Mo_check l D cI cJ tt qM qM_powers qM_values qM_logarithms qM_word qM_solved qM_system M_thrown (.int M_depth) M_pattern (.int M_craft) M_begins M_firsts M_seconds (.ref qM_forms) (.ref qM_elements) M_mixer (.ref qM_data) M_waiting (.int M_master) (.ref qM_counts) M_line M_length M_sent M_state M_places M_least M_row M_rowSize M_differ M_blocks M_marks M_wrongs (.ref qM_bytes) M_rights M_tells M_lastMaster M_lastCounts M_wrong _ M_fill M_half M_powers M_values M_logarithms M_word M_solved M_system g8 g9 g10 g11 hu) F ok_Mo_check rfl k_1078 hK hE hP hD hS hA [0, 2, 3, 4, 5, 6, 7] [1, 8, 9, 10, 11] rfl rfl (by decide) (by decide) (by decide) 0 rfl rfl rfl ⟨rfl, rfl, Nat.le_of_ble_eq_true rfl, Nat.le_of_ble_eq_true rfl⟩ ⟨Nat.zero_le _, Nat.zero_le _⟩ rfl hl.1 rfl (Nat.le_of_ble_eq_true rfl) d_Mo_lay_166 (fun H locs hP hD hS => ?_)
        have hP : va_P D classes (w_Mo_lay cI cJ qM qM_bytes qM_powers qM_values qM_logarithms qM_word qM_solved qM_system qM_forms qM_elements qM_counts qM_data M_thrown M_pattern M_begins M_firsts M_seconds M_mixer M_waiting M_line M_length M_sent M_state M_places M_least M_row M_rowSize M_differ M_blocks M_marks M_wrongs M_rights M_tells M_lastMaster M_lastCounts M_wrong M_depth M_fill M_half M_craft M_master M_bytes M_powers g8 M_logarithms g9 g10 g11 M_forms M_elements M_counts M_data) H := hP.sub [5, 0, 6, 7, 8, 9, 10, 11, 1, 2, 3, 4] rfl
        have hD : va_D A (w_Mo_lay cI cJ qM qM_bytes qM_powers qM_values qM_logarithms qM_word qM_solved qM_system qM_forms qM_elements qM_counts qM_data M_thrown M_pattern M_begins M_firsts M_seconds M_mixer M_waiting M_line M_length M_sent M_state M_places M_least M_row M_rowSize M_differ M_blocks M_marks M_wrongs M_rights M_tells M_lastMaster M_lastCounts M_wrong M_depth M_fill M_half M_craft M_master M_bytes M_powers g8 M_logarithms g9 g10 g11 M_forms M_elements M_counts M_data) := hD.sub [5, 0, 6, 7, 8, 9, 10, 11, 1, 2, 3, 4] (by decide) rfl
        refine lv_aload_n hx hb d_Mo_lay_169 rfl (lv_at hl 0 rfl) ?_
        obtain ⟨r13, hu, hm⟩ := bd_el hm
        replace hm := nm_1 hm
        refine z_cVi (wc := w_Mo_wordSize cI cJ qM M_thrown (.int M_depth) (.int M_half) M_pattern (.int M_craft) M_begins M_firsts M_seconds (.ref qM_powers) (.ref qM_logarithms) (.ref qM_forms) (.ref qM_elements) M_mixer (.ref qM_data) M_waiting (.int M_master) (.ref qM_counts) M_line M_length M_sent M_state M_places M_least M_row M_rowSize M_differ M_blocks M_marks M_wrongs (.ref qM_bytes) M_rights M_tells M_lastMaster M_lastCounts (.ref qM_word) (.ref qM_values) (.ref qM_system) (.ref qM_solved) M_wrong M_fill) (wc' := w_Mo_wordSize cI cJ qM M_thrown (.int M_depth) (.int M_half) M_pattern (.int M_craft) M_begins M_firsts M_seconds (.ref qM_powers) (.ref qM_logarithms) (.ref qM_forms) (.ref qM_elements) M_mixer (.ref qM_data) M_waiting (.int M_master) (.ref qM_counts) M_line M_length M_sent M_state M_places M_least M_row M_rowSize M_differ M_blocks M_marks M_wrongs (.ref qM_bytes) M_rights M_tells M_lastMaster M_lastCounts (.ref qM_word) (.ref qM_values) (.ref qM_system) (.ref qM_solved) M_wrong M_fill) (wr := [(qM_bytes, .inl (cI, 4000, .inl M_bytes)), (qM_powers, .inl (cI, 255, .inl M_powers)), (qM_values, .inl (cI, 32, .inl g8)), (qM_logarithms, .inl (cI, 256, .inl M_logarithms)), (qM_word, .inl (cI, 255, .inl g9)), (qM_solved, .inl (cI, 32, .inl g10)), (qM_system, .inl (cI, 1056, .inl g11)), (qM_forms, .inl (cI, 256, .inl M_forms)), (qM_elements, .inl (cI, 256, .inl M_elements)), (qM_counts, .inl (cI, 8, .inl M_counts)), (qM_data, .inl (cI, 250, .inl M_data))]) (As := []) (rest := []) (c_Mo_wordSize l D cI cJ tt qM M_thrown (.int M_depth) (.int M_half) M_pattern (.int M_craft) M_begins M_firsts M_seconds (.ref qM_powers) (.ref qM_logarithms) (.ref qM_forms) (.ref qM_elements) M_mixer (.ref qM_data) M_waiting (.int M_master) (.ref qM_counts) M_line M_length M_sent M_state M_places M_least M_row M_rowSize M_differ M_blocks M_marks M_wrongs (.ref qM_bytes) M_rights M_tells M_lastMaster M_lastCounts (.ref qM_word) (.ref qM_values) (.ref qM_system) (.ref qM_solved) M_wrong _ M_fill r13 hu) F ok_Mo_wordSize rfl k_1030 hK hE hP hD hS hA [0] [1, 2, 3, 4, 5, 6, 7, 8, 9, 10, 11] rfl rfl (by decide) (by decide) (by decide) 0 rfl rfl rfl ⟨rfl, rfl, Nat.le_of_ble_eq_true rfl, Nat.le_of_ble_eq_true rfl⟩ ⟨Nat.zero_le _, Nat.zero_le _⟩ rfl hl.1 rfl (Nat.le_of_ble_eq_true rfl) d_Mo_lay_170 (fun H locs hP hD hS => ?_)
        have hP : va_P D classes (w_Mo_lay cI cJ qM qM_bytes qM_powers qM_values qM_logarithms qM_word qM_solved qM_system qM_forms qM_elements qM_counts qM_data M_thrown M_pattern M_begins M_firsts M_seconds M_mixer M_waiting M_line M_length M_sent M_state M_places M_least M_row M_rowSize M_differ M_blocks M_marks M_wrongs M_rights M_tells M_lastMaster M_lastCounts M_wrong M_depth M_fill M_half M_craft M_master M_bytes M_powers g8 M_logarithms g9 g10 g11 M_forms M_elements M_counts M_data) H := hP.sub [11, 0, 1, 2, 3, 4, 5, 6, 7, 8, 9, 10] rfl
        have hD : va_D A (w_Mo_lay cI cJ qM qM_bytes qM_powers qM_values qM_logarithms qM_word qM_solved qM_system qM_forms qM_elements qM_counts qM_data M_thrown M_pattern M_begins M_firsts M_seconds M_mixer M_waiting M_line M_length M_sent M_state M_places M_least M_row M_rowSize M_differ M_blocks M_marks M_wrongs M_rights M_tells M_lastMaster M_lastCounts M_wrong M_depth M_fill M_half M_craft M_master M_bytes M_powers g8 M_logarithms g9 g10 g11 M_forms M_elements M_counts M_data) := hD.sub [11, 0, 1, 2, 3, 4, 5, 6, 7, 8, 9, 10] (by decide) rfl
        refine lv_iconst (v := (2 : Int32)) hx hb d_Mo_lay_173 (by decide) ?_
        refine lv_aload_n hx hb d_Mo_lay_174 rfl (lv_at hl 0 rfl) ?_
        refine va_get (D := D) (ci := 11) (v := .int M_half) (C := "DeepChannelModel") (T := fT_Mo) (N := 40) hx hb hts u_Mo hown hK hP 0 rfl rfl 3 (by decide) (hts _ k_889) (fun _ h9 => h9) rfl d_Mo_lay_175 ?_
        refine lv_imul hx hb d_Mo_lay_178 ?_
        refine lv_isub hx hb d_Mo_lay_179 ?_
        refine z_nmi hm (fun v15 hm => ?_)
        refine lv_istore (lv' := [(6, .int v15), (0, .ref qM), (1, .int x1), (5, .int x5)]) hx hb d_Mo_lay_180 hl (by decide) rfl (fun ls hl => ?_)
        exact T182 10000 x1 x5 v15 M_bytes g8 g9 g10 g11 hm _ _ hP hD hS _ (lv_sub hl [1, 2, 3, 0] rfl)
      have T101 : ∀ (n101 : Nat) (x1 : Int32) (x5 : Int32) (x6 : Int32) (M_bytes : Nat → Int32) (M_values : Nat → Int32) (M_word : Nat → Int32) (M_solved : Nat → Int32) (M_system : Nat → Int32), f_Mo_lay_101 M_depth M_fill M_half M_powers M_logarithms M_forms M_elements (f_Mo_lay_89 M_depth M_fill M_half M_powers M_logarithms M_forms M_elements n89) n101 x1 x5 x6 M_bytes M_values M_word M_solved M_system = some (M_bytes', M_values', M_word', M_solved', M_system') → ∀ (H : Heap) (locs : List Loc), va_P D classes (w_Mo_lay cI cJ qM qM_bytes qM_powers qM_values qM_logarithms qM_word qM_solved qM_system qM_forms qM_elements qM_counts qM_data M_thrown M_pattern M_begins M_firsts M_seconds M_mixer M_waiting M_line M_length M_sent M_state M_places M_least M_row M_rowSize M_differ M_blocks M_marks M_wrongs M_rights M_tells M_lastMaster M_lastCounts M_wrong M_depth M_fill M_half M_craft M_master M_bytes M_powers M_values M_logarithms M_word M_solved M_system M_forms M_elements M_counts M_data) H → va_D A (w_Mo_lay cI cJ qM qM_bytes qM_powers qM_values qM_logarithms qM_word qM_solved qM_system qM_forms qM_elements qM_counts qM_data M_thrown M_pattern M_begins M_firsts M_seconds M_mixer M_waiting M_line M_length M_sent M_state M_places M_least M_row M_rowSize M_differ M_blocks M_marks M_wrongs M_rights M_tells M_lastMaster M_lastCounts M_wrong M_depth M_fill M_half M_craft M_master M_bytes M_powers M_values M_logarithms M_word M_solved M_system M_forms M_elements M_counts M_data) → va_S A s.heap H locs → ∀ (ls : Array Slot), lv_has ls 7 [(0, .ref qM), (1, .int x1), (5, .int x5), (6, .int x6)] → W p l e (RM 3 73) s m args below meth c H locs 0 0 Q0 (F0 m 101 ls []) := by
        intro n101
        induction n101 with
        | zero => intro x1 x5 x6 M_bytes M_values M_word M_solved M_system hm; cases hm
        | succ n101 ih101 =>
          have T158 : ∀ (x1 : Int32) (x5 : Int32) (x6 : Int32) (t1 : Int32) (t2 : Int32) (M_bytes : Nat → Int32) (M_values : Nat → Int32) (M_word : Nat → Int32) (M_solved : Nat → Int32) (M_system : Nat → Int32), f_Mo_lay_158 (f_Mo_lay_101 M_depth M_fill M_half M_powers M_logarithms M_forms M_elements (f_Mo_lay_89 M_depth M_fill M_half M_powers M_logarithms M_forms M_elements n89) n101) x1 x5 x6 t1 t2 M_bytes M_values M_word M_solved M_system = some (M_bytes', M_values', M_word', M_solved', M_system') → ∀ (H : Heap) (locs : List Loc), va_P D classes (w_Mo_lay cI cJ qM qM_bytes qM_powers qM_values qM_logarithms qM_word qM_solved qM_system qM_forms qM_elements qM_counts qM_data M_thrown M_pattern M_begins M_firsts M_seconds M_mixer M_waiting M_line M_length M_sent M_state M_places M_least M_row M_rowSize M_differ M_blocks M_marks M_wrongs M_rights M_tells M_lastMaster M_lastCounts M_wrong M_depth M_fill M_half M_craft M_master M_bytes M_powers M_values M_logarithms M_word M_solved M_system M_forms M_elements M_counts M_data) H → va_D A (w_Mo_lay cI cJ qM qM_bytes qM_powers qM_values qM_logarithms qM_word qM_solved qM_system qM_forms qM_elements qM_counts qM_data M_thrown M_pattern M_begins M_firsts M_seconds M_mixer M_waiting M_line M_length M_sent M_state M_places M_least M_row M_rowSize M_differ M_blocks M_marks M_wrongs M_rights M_tells M_lastMaster M_lastCounts M_wrong M_depth M_fill M_half M_craft M_master M_bytes M_powers M_values M_logarithms M_word M_solved M_system M_forms M_elements M_counts M_data) → va_S A s.heap H locs → ∀ (ls : Array Slot), lv_has ls 7 [(0, .ref qM), (1, .int x1), (5, .int x5), (6, .int x6)] → W p l e (RM 3 73) s m args below meth c H locs 0 0 Q0 (F0 m 158 ls [.int t2, .int t1, .ref qM_word]) := by
            intro x1 x5 x6 t1 t2 M_bytes M_values M_word M_solved M_system hm H locs hP hD hS ls hl
            unfold f_Mo_lay_158 at hm
            refine z_iast hm hx hb hK hP hD hS 5 rfl d_Mo_lay_158 (fun g16 hm H locs hP hD hS => ?_)
            have hP : va_P D classes (w_Mo_lay cI cJ qM qM_bytes qM_powers qM_values qM_logarithms qM_word qM_solved qM_system qM_forms qM_elements qM_counts qM_data M_thrown M_pattern M_begins M_firsts M_seconds M_mixer M_waiting M_line M_length M_sent M_state M_places M_least M_row M_rowSize M_differ M_blocks M_marks M_wrongs M_rights M_tells M_lastMaster M_lastCounts M_wrong M_depth M_fill M_half M_craft M_master M_bytes M_powers M_values M_logarithms g16 M_solved M_system M_forms M_elements M_counts M_data) H := hP
            have hD : va_D A (w_Mo_lay cI cJ qM qM_bytes qM_powers qM_values qM_logarithms qM_word qM_solved qM_system qM_forms qM_elements qM_counts qM_data M_thrown M_pattern M_begins M_firsts M_seconds M_mixer M_waiting M_line M_length M_sent M_state M_places M_least M_row M_rowSize M_differ M_blocks M_marks M_wrongs M_rights M_tells M_lastMaster M_lastCounts M_wrong M_depth M_fill M_half M_craft M_master M_bytes M_powers M_values M_logarithms g16 M_solved M_system M_forms M_elements M_counts M_data) := hD
            obtain ⟨v17, ev, hm⟩ := nm_el hm
            refine lv_iinc (v := v17) (lv' := [(6, .int v17), (0, .ref qM), (1, .int x1), (5, .int x5)]) hx hb d_Mo_lay_159 hl (k := 3) rfl (by rw [ev]; rfl) (by decide) rfl (fun ls hl => ?_)
            refine lv_goto (tgt := 101) hx hb d_Mo_lay_162 (by decide) ?_
            exact ih101 x1 x5 v17 M_bytes M_values g16 M_solved M_system hm _ _ hP hD hS _ (lv_sub hl [1, 2, 3, 0] rfl)
          intro x1 x5 x6 M_bytes M_values M_word M_solved M_system hm H locs hP hD hS ls hl
          replace hm : f_Mo_lay_101_b M_depth M_fill M_half M_powers M_logarithms M_forms M_elements (f_Mo_lay_89 M_depth M_fill M_half M_powers M_logarithms M_forms M_elements n89) (f_Mo_lay_101 M_depth M_fill M_half M_powers M_logarithms M_forms M_elements (f_Mo_lay_89 M_depth M_fill M_half M_powers M_logarithms M_forms M_elements n89) n101) x1 x5 x6 M_bytes M_values M_word M_solved M_system = some (M_bytes', M_values', M_word', M_solved', M_system') := hm
          unfold f_Mo_lay_101_b at hm
          refine lv_iload hx hb d_Mo_lay_101 (lv_at hl 3 rfl) ?_
          refine lv_aload_n hx hb d_Mo_lay_103 rfl (lv_at hl 0 rfl) ?_
          obtain ⟨r18, hu, hm⟩ := bd_el hm
          replace hm := nm_1 hm
          refine z_cVi (wc := w_Mo_wordSize cI cJ qM M_thrown (.int M_depth) (.int M_half) M_pattern (.int M_craft) M_begins M_firsts M_seconds (.ref qM_powers) (.ref qM_logarithms) (.ref qM_forms) (.ref qM_elements) M_mixer (.ref qM_data) M_waiting (.int M_master) (.ref qM_counts) M_line M_length M_sent M_state M_places M_least M_row M_rowSize M_differ M_blocks M_marks M_wrongs (.ref qM_bytes) M_rights M_tells M_lastMaster M_lastCounts (.ref qM_word) (.ref qM_values) (.ref qM_system) (.ref qM_solved) M_wrong M_fill) (wc' := w_Mo_wordSize cI cJ qM M_thrown (.int M_depth) (.int M_half) M_pattern (.int M_craft) M_begins M_firsts M_seconds (.ref qM_powers) (.ref qM_logarithms) (.ref qM_forms) (.ref qM_elements) M_mixer (.ref qM_data) M_waiting (.int M_master) (.ref qM_counts) M_line M_length M_sent M_state M_places M_least M_row M_rowSize M_differ M_blocks M_marks M_wrongs (.ref qM_bytes) M_rights M_tells M_lastMaster M_lastCounts (.ref qM_word) (.ref qM_values) (.ref qM_system) (.ref qM_solved) M_wrong M_fill) (wr := [(qM_bytes, .inl (cI, 4000, .inl M_bytes)), (qM_powers, .inl (cI, 255, .inl M_powers)), (qM_values, .inl (cI, 32, .inl M_values)), (qM_logarithms, .inl (cI, 256, .inl M_logarithms)), (qM_word, .inl (cI, 255, .inl M_word)), (qM_solved, .inl (cI, 32, .inl M_solved)), (qM_system, .inl (cI, 1056, .inl M_system)), (qM_forms, .inl (cI, 256, .inl M_forms)), (qM_elements, .inl (cI, 256, .inl M_elements)), (qM_counts, .inl (cI, 8, .inl M_counts)), (qM_data, .inl (cI, 250, .inl M_data))]) (As := []) (rest := [.int x6]) (c_Mo_wordSize l D cI cJ tt qM M_thrown (.int M_depth) (.int M_half) M_pattern (.int M_craft) M_begins M_firsts M_seconds (.ref qM_powers) (.ref qM_logarithms) (.ref qM_forms) (.ref qM_elements) M_mixer (.ref qM_data) M_waiting (.int M_master) (.ref qM_counts) M_line M_length M_sent M_state M_places M_least M_row M_rowSize M_differ M_blocks M_marks M_wrongs (.ref qM_bytes) M_rights M_tells M_lastMaster M_lastCounts (.ref qM_word) (.ref qM_values) (.ref qM_system) (.ref qM_solved) M_wrong _ M_fill r18 hu) F ok_Mo_wordSize rfl k_1030 hK hE hP hD hS hA [0] [1, 2, 3, 4, 5, 6, 7, 8, 9, 10, 11] rfl rfl (by decide) (by decide) (by decide) 0 rfl rfl rfl ⟨rfl, rfl, Nat.le_of_ble_eq_true rfl, Nat.le_of_ble_eq_true rfl⟩ ⟨Nat.zero_le _, Nat.zero_le _⟩ rfl hl.1 rfl (Nat.le_of_ble_eq_true rfl) d_Mo_lay_104 (fun H locs hP hD hS => ?_)
          have hP : va_P D classes (w_Mo_lay cI cJ qM qM_bytes qM_powers qM_values qM_logarithms qM_word qM_solved qM_system qM_forms qM_elements qM_counts qM_data M_thrown M_pattern M_begins M_firsts M_seconds M_mixer M_waiting M_line M_length M_sent M_state M_places M_least M_row M_rowSize M_differ M_blocks M_marks M_wrongs M_rights M_tells M_lastMaster M_lastCounts M_wrong M_depth M_fill M_half M_craft M_master M_bytes M_powers M_values M_logarithms M_word M_solved M_system M_forms M_elements M_counts M_data) H := hP.sub [11, 0, 1, 2, 3, 4, 5, 6, 7, 8, 9, 10] rfl
          have hD : va_D A (w_Mo_lay cI cJ qM qM_bytes qM_powers qM_values qM_logarithms qM_word qM_solved qM_system qM_forms qM_elements qM_counts qM_data M_thrown M_pattern M_begins M_firsts M_seconds M_mixer M_waiting M_line M_length M_sent M_state M_places M_least M_row M_rowSize M_differ M_blocks M_marks M_wrongs M_rights M_tells M_lastMaster M_lastCounts M_wrong M_depth M_fill M_half M_craft M_master M_bytes M_powers M_values M_logarithms M_word M_solved M_system M_forms M_elements M_counts M_data) := hD.sub [11, 0, 1, 2, 3, 4, 5, 6, 7, 8, 9, 10] (by decide) rfl
          refine z_if hm (lv_icmp_ge (tgt := 165) hx hb d_Mo_lay_107 (by decide)) (fun hm => ?_) (fun hm => ?_)
          · exact T165 x1 x5 M_bytes M_values M_word M_solved M_system hm _ _ hP hD hS _ (lv_sub hl [0, 1, 2] rfl)
          · refine lv_aload_n hx hb d_Mo_lay_110 rfl (lv_at hl 0 rfl) ?_
            refine va_get (D := D) (ci := 11) (v := .ref qM_word) (C := "DeepChannelModel") (T := fT_Mo) (N := 40) hx hb hts u_Mo hown hK hP 0 rfl rfl 35 (by decide) (hts _ k_921) (fun _ h9 => h9) rfl d_Mo_lay_111 ?_
            refine lv_iload hx hb d_Mo_lay_114 (lv_at hl 3 rfl) ?_
            refine lv_iload hx hb d_Mo_lay_116 (lv_at hl 3 rfl) ?_
            refine lv_aload_n hx hb d_Mo_lay_118 rfl (lv_at hl 0 rfl) ?_
            obtain ⟨r20, hu, hm⟩ := bd_el hm
            replace hm := nm_1 hm
            refine z_cVi (wc := w_Mo_wordSize cI cJ qM M_thrown (.int M_depth) (.int M_half) M_pattern (.int M_craft) M_begins M_firsts M_seconds (.ref qM_powers) (.ref qM_logarithms) (.ref qM_forms) (.ref qM_elements) M_mixer (.ref qM_data) M_waiting (.int M_master) (.ref qM_counts) M_line M_length M_sent M_state M_places M_least M_row M_rowSize M_differ M_blocks M_marks M_wrongs (.ref qM_bytes) M_rights M_tells M_lastMaster M_lastCounts (.ref qM_word) (.ref qM_values) (.ref qM_system) (.ref qM_solved) M_wrong M_fill) (wc' := w_Mo_wordSize cI cJ qM M_thrown (.int M_depth) (.int M_half) M_pattern (.int M_craft) M_begins M_firsts M_seconds (.ref qM_powers) (.ref qM_logarithms) (.ref qM_forms) (.ref qM_elements) M_mixer (.ref qM_data) M_waiting (.int M_master) (.ref qM_counts) M_line M_length M_sent M_state M_places M_least M_row M_rowSize M_differ M_blocks M_marks M_wrongs (.ref qM_bytes) M_rights M_tells M_lastMaster M_lastCounts (.ref qM_word) (.ref qM_values) (.ref qM_system) (.ref qM_solved) M_wrong M_fill) (wr := [(qM_bytes, .inl (cI, 4000, .inl M_bytes)), (qM_powers, .inl (cI, 255, .inl M_powers)), (qM_values, .inl (cI, 32, .inl M_values)), (qM_logarithms, .inl (cI, 256, .inl M_logarithms)), (qM_word, .inl (cI, 255, .inl M_word)), (qM_solved, .inl (cI, 32, .inl M_solved)), (qM_system, .inl (cI, 1056, .inl M_system)), (qM_forms, .inl (cI, 256, .inl M_forms)), (qM_elements, .inl (cI, 256, .inl M_elements)), (qM_counts, .inl (cI, 8, .inl M_counts)), (qM_data, .inl (cI, 250, .inl M_data))]) (As := []) (rest := [.int x6, .int x6, .ref qM_word]) (c_Mo_wordSize l D cI cJ tt qM M_thrown (.int M_depth) (.int M_half) M_pattern (.int M_craft) M_begins M_firsts M_seconds (.ref qM_powers) (.ref qM_logarithms) (.ref qM_forms) (.ref qM_elements) M_mixer (.ref qM_data) M_waiting (.int M_master) (.ref qM_counts) M_line M_length M_sent M_state M_places M_least M_row M_rowSize M_differ M_blocks M_marks M_wrongs (.ref qM_bytes) M_rights M_tells M_lastMaster M_lastCounts (.ref qM_word) (.ref qM_values) (.ref qM_system) (.ref qM_solved) M_wrong _ M_fill r20 hu) F ok_Mo_wordSize rfl k_1030 hK hE hP hD hS hA [0] [1, 2, 3, 4, 5, 6, 7, 8, 9, 10, 11] rfl rfl (by decide) (by decide) (by decide) 0 rfl rfl rfl ⟨rfl, rfl, Nat.le_of_ble_eq_true rfl, Nat.le_of_ble_eq_true rfl⟩ ⟨Nat.zero_le _, Nat.zero_le _⟩ rfl hl.1 rfl (Nat.le_of_ble_eq_true rfl) d_Mo_lay_119 (fun H locs hP hD hS => ?_)
            have hP : va_P D classes (w_Mo_lay cI cJ qM qM_bytes qM_powers qM_values qM_logarithms qM_word qM_solved qM_system qM_forms qM_elements qM_counts qM_data M_thrown M_pattern M_begins M_firsts M_seconds M_mixer M_waiting M_line M_length M_sent M_state M_places M_least M_row M_rowSize M_differ M_blocks M_marks M_wrongs M_rights M_tells M_lastMaster M_lastCounts M_wrong M_depth M_fill M_half M_craft M_master M_bytes M_powers M_values M_logarithms M_word M_solved M_system M_forms M_elements M_counts M_data) H := hP.sub [11, 0, 1, 2, 3, 4, 5, 6, 7, 8, 9, 10] rfl
            have hD : va_D A (w_Mo_lay cI cJ qM qM_bytes qM_powers qM_values qM_logarithms qM_word qM_solved qM_system qM_forms qM_elements qM_counts qM_data M_thrown M_pattern M_begins M_firsts M_seconds M_mixer M_waiting M_line M_length M_sent M_state M_places M_least M_row M_rowSize M_differ M_blocks M_marks M_wrongs M_rights M_tells M_lastMaster M_lastCounts M_wrong M_depth M_fill M_half M_craft M_master M_bytes M_powers M_values M_logarithms M_word M_solved M_system M_forms M_elements M_counts M_data) := hD.sub [11, 0, 1, 2, 3, 4, 5, 6, 7, 8, 9, 10] (by decide) rfl
            refine lv_iconst (v := (2 : Int32)) hx hb d_Mo_lay_122 (by decide) ?_
            refine lv_aload_n hx hb d_Mo_lay_123 rfl (lv_at hl 0 rfl) ?_
            refine va_get (D := D) (ci := 11) (v := .int M_half) (C := "DeepChannelModel") (T := fT_Mo) (N := 40) hx hb hts u_Mo hown hK hP 0 rfl rfl 3 (by decide) (hts _ k_889) (fun _ h9 => h9) rfl d_Mo_lay_124 ?_
            refine lv_imul hx hb d_Mo_lay_127 ?_
            refine lv_isub hx hb d_Mo_lay_128 ?_
            refine z_if hm (lv_icmp_ge (tgt := 157) hx hb d_Mo_lay_129 (by decide)) (fun hm => ?_) (fun hm => ?_)
            · refine lv_iconst (v := (0 : Int32)) hx hb d_Mo_lay_157 (by decide) ?_
              exact T158 x1 x5 x6 x6 (0 : Int32) M_bytes M_values M_word M_solved M_system hm _ _ hP hD hS _ (lv_sub hl [0, 1, 2, 3] rfl)
            · refine lv_aload_n hx hb d_Mo_lay_132 rfl (lv_at hl 0 rfl) ?_
              refine va_get (D := D) (ci := 11) (v := .ref qM_elements) (C := "DeepChannelModel") (T := fT_Mo) (N := 40) hx hb hts u_Mo hown hK hP 0 rfl rfl 12 (by decide) (hts _ k_898) (fun _ h9 => h9) rfl d_Mo_lay_133 ?_
              refine lv_aload_n hx hb d_Mo_lay_136 rfl (lv_at hl 0 rfl) ?_
              refine va_get (D := D) (ci := 11) (v := .ref qM_bytes) (C := "DeepChannelModel") (T := fT_Mo) (N := 40) hx hb hts u_Mo hown hK hP 0 rfl rfl 30 (by decide) (hts _ k_916) (fun _ h9 => h9) rfl d_Mo_lay_137 ?_
              refine lv_iload_n hx hb d_Mo_lay_140 rfl (lv_at hl 1 rfl) ?_
              refine lv_aload_n hx hb d_Mo_lay_141 rfl (lv_at hl 0 rfl) ?_
              refine va_get (D := D) (ci := 11) (v := .int M_depth) (C := "DeepChannelModel") (T := fT_Mo) (N := 40) hx hb hts u_Mo hown hK hP 0 rfl rfl 1 (by decide) (hts _ k_887) (fun _ h9 => h9) rfl d_Mo_lay_142 ?_
              refine lv_iload hx hb d_Mo_lay_145 (lv_at hl 3 rfl) ?_
              refine lv_imul hx hb d_Mo_lay_147 ?_
              refine lv_iadd hx hb d_Mo_lay_148 ?_
              refine lv_iload hx hb d_Mo_lay_149 (lv_at hl 2 rfl) ?_
              refine lv_iadd hx hb d_Mo_lay_151 ?_
              refine z_iald hm hx hb hK hP 1 rfl d_Mo_lay_152 (fun v22 hm => ?_)
              refine z_iald hm hx hb hK hP 9 rfl d_Mo_lay_153 (fun v23 hm => ?_)
              refine lv_goto (tgt := 158) hx hb d_Mo_lay_154 (by decide) ?_
              exact T158 x1 x5 x6 x6 v23 M_bytes M_values M_word M_solved M_system hm _ _ hP hD hS _ (lv_sub hl [0, 1, 2, 3] rfl)
      intro x1 x5 M_bytes M_values M_word M_solved M_system hm H locs hP hD hS ls hl
      replace hm : f_Mo_lay_89_b M_depth M_fill M_half M_powers M_logarithms M_forms M_elements (f_Mo_lay_89 M_depth M_fill M_half M_powers M_logarithms M_forms M_elements n89) x1 x5 M_bytes M_values M_word M_solved M_system = some (M_bytes', M_values', M_word', M_solved', M_system') := hm
      unfold f_Mo_lay_89_b at hm
      refine lv_iload hx hb d_Mo_lay_89 (lv_at hl 2 rfl) ?_
      refine lv_aload_n hx hb d_Mo_lay_91 rfl (lv_at hl 0 rfl) ?_
      refine va_get (D := D) (ci := 11) (v := .int M_depth) (C := "DeepChannelModel") (T := fT_Mo) (N := 40) hx hb hts u_Mo hown hK hP 0 rfl rfl 1 (by decide) (hts _ k_887) (fun _ h9 => h9) rfl d_Mo_lay_92 ?_
      refine z_if hm (lv_icmp_ge (tgt := 232) hx hb d_Mo_lay_95 (by decide)) (fun hm => ?_) (fun hm => ?_)
      · cases hm
        exact z_qo hQ (z_vret hr hx hb hlocks hK hP hD hS d_Mo_lay_232)
      · refine lv_iconst (v := (0 : Int32)) hx hb d_Mo_lay_98 (by decide) ?_
        refine lv_istore (lv' := [(6, .int (0 : Int32)), (0, .ref qM), (1, .int x1), (5, .int x5)]) hx hb d_Mo_lay_99 hl (by decide) rfl (fun ls hl => ?_)
        exact T101 10000 x1 x5 (0 : Int32) M_bytes M_values M_word M_solved M_system hm _ _ hP hD hS _ (lv_sub hl [1, 2, 3, 0] rfl)
  have T55 : ∀ (x1 : Int32) (x3 : Int32) (x4 : Int32) (M_bytes : Nat → Int32) (M_values : Nat → Int32) (M_word : Nat → Int32) (M_solved : Nat → Int32) (M_system : Nat → Int32), f_Mo_lay_55 M_depth M_fill M_half M_powers M_logarithms M_forms M_elements x1 x3 x4 M_bytes M_values M_word M_solved M_system = some (M_bytes', M_values', M_word', M_solved', M_system') → ∀ (H : Heap) (locs : List Loc), va_P D classes (w_Mo_lay cI cJ qM qM_bytes qM_powers qM_values qM_logarithms qM_word qM_solved qM_system qM_forms qM_elements qM_counts qM_data M_thrown M_pattern M_begins M_firsts M_seconds M_mixer M_waiting M_line M_length M_sent M_state M_places M_least M_row M_rowSize M_differ M_blocks M_marks M_wrongs M_rights M_tells M_lastMaster M_lastCounts M_wrong M_depth M_fill M_half M_craft M_master M_bytes M_powers M_values M_logarithms M_word M_solved M_system M_forms M_elements M_counts M_data) H → va_D A (w_Mo_lay cI cJ qM qM_bytes qM_powers qM_values qM_logarithms qM_word qM_solved qM_system qM_forms qM_elements qM_counts qM_data M_thrown M_pattern M_begins M_firsts M_seconds M_mixer M_waiting M_line M_length M_sent M_state M_places M_least M_row M_rowSize M_differ M_blocks M_marks M_wrongs M_rights M_tells M_lastMaster M_lastCounts M_wrong M_depth M_fill M_half M_craft M_master M_bytes M_powers M_values M_logarithms M_word M_solved M_system M_forms M_elements M_counts M_data) → va_S A s.heap H locs → ∀ (ls : Array Slot), lv_has ls 7 [(0, .ref qM), (1, .int x1), (3, .int x3), (4, .int x4)] → W p l e (RM 3 73) s m args below meth c H locs 0 0 Q0 (F0 m 55 ls []) := by
    intro x1 x3 x4 M_bytes M_values M_word M_solved M_system hm H locs hP hD hS ls hl
    unfold f_Mo_lay_55 at hm
    refine lv_aload_n hx hb d_Mo_lay_55 rfl (lv_at hl 0 rfl) ?_
    refine va_get (D := D) (ci := 11) (v := .ref qM_bytes) (C := "DeepChannelModel") (T := fT_Mo) (N := 40) hx hb hts u_Mo hown hK hP 0 rfl rfl 30 (by decide) (hts _ k_916) (fun _ h9 => h9) rfl d_Mo_lay_56 ?_
    refine lv_iload_n hx hb d_Mo_lay_59 rfl (lv_at hl 1 rfl) ?_
    refine lv_iload_n hx hb d_Mo_lay_60 rfl (lv_at hl 2 rfl) ?_
    refine lv_iadd hx hb d_Mo_lay_61 ?_
    refine lv_iconst (v := (2 : Int32)) hx hb d_Mo_lay_62 (by decide) ?_
    refine lv_isub hx hb d_Mo_lay_63 ?_
    refine lv_iload hx hb d_Mo_lay_64 (lv_at hl 3 rfl) ?_
    refine lv_bipush (v := (8 : Int32)) hx hb d_Mo_lay_66 (by decide) ?_
    refine lv_ishr hx hb d_Mo_lay_68 ?_
    refine z_iast hm hx hb hK hP hD hS 1 rfl d_Mo_lay_69 (fun g24 hm H locs hP hD hS => ?_)
    have hP : va_P D classes (w_Mo_lay cI cJ qM qM_bytes qM_powers qM_values qM_logarithms qM_word qM_solved qM_system qM_forms qM_elements qM_counts qM_data M_thrown M_pattern M_begins M_firsts M_seconds M_mixer M_waiting M_line M_length M_sent M_state M_places M_least M_row M_rowSize M_differ M_blocks M_marks M_wrongs M_rights M_tells M_lastMaster M_lastCounts M_wrong M_depth M_fill M_half M_craft M_master g24 M_powers M_values M_logarithms M_word M_solved M_system M_forms M_elements M_counts M_data) H := hP
    have hD : va_D A (w_Mo_lay cI cJ qM qM_bytes qM_powers qM_values qM_logarithms qM_word qM_solved qM_system qM_forms qM_elements qM_counts qM_data M_thrown M_pattern M_begins M_firsts M_seconds M_mixer M_waiting M_line M_length M_sent M_state M_places M_least M_row M_rowSize M_differ M_blocks M_marks M_wrongs M_rights M_tells M_lastMaster M_lastCounts M_wrong M_depth M_fill M_half M_craft M_master g24 M_powers M_values M_logarithms M_word M_solved M_system M_forms M_elements M_counts M_data) := hD
    refine lv_aload_n hx hb d_Mo_lay_70 rfl (lv_at hl 0 rfl) ?_
    refine va_get (D := D) (ci := 11) (v := .ref qM_bytes) (C := "DeepChannelModel") (T := fT_Mo) (N := 40) hx hb hts u_Mo hown hK hP 0 rfl rfl 30 (by decide) (hts _ k_916) (fun _ h9 => h9) rfl d_Mo_lay_71 ?_
    refine lv_iload_n hx hb d_Mo_lay_74 rfl (lv_at hl 1 rfl) ?_
    refine lv_iload_n hx hb d_Mo_lay_75 rfl (lv_at hl 2 rfl) ?_
    refine lv_iadd hx hb d_Mo_lay_76 ?_
    refine lv_iconst (v := (1 : Int32)) hx hb d_Mo_lay_77 (by decide) ?_
    refine lv_isub hx hb d_Mo_lay_78 ?_
    refine lv_iload hx hb d_Mo_lay_79 (lv_at hl 3 rfl) ?_
    refine lv_sipush (v := (255 : Int32)) hx hb d_Mo_lay_81 (by decide) ?_
    refine lv_iand hx hb d_Mo_lay_84 ?_
    refine z_iast hm hx hb hK hP hD hS 1 rfl d_Mo_lay_85 (fun g25 hm H locs hP hD hS => ?_)
    have hP : va_P D classes (w_Mo_lay cI cJ qM qM_bytes qM_powers qM_values qM_logarithms qM_word qM_solved qM_system qM_forms qM_elements qM_counts qM_data M_thrown M_pattern M_begins M_firsts M_seconds M_mixer M_waiting M_line M_length M_sent M_state M_places M_least M_row M_rowSize M_differ M_blocks M_marks M_wrongs M_rights M_tells M_lastMaster M_lastCounts M_wrong M_depth M_fill M_half M_craft M_master g25 M_powers M_values M_logarithms M_word M_solved M_system M_forms M_elements M_counts M_data) H := hP
    have hD : va_D A (w_Mo_lay cI cJ qM qM_bytes qM_powers qM_values qM_logarithms qM_word qM_solved qM_system qM_forms qM_elements qM_counts qM_data M_thrown M_pattern M_begins M_firsts M_seconds M_mixer M_waiting M_line M_length M_sent M_state M_places M_least M_row M_rowSize M_differ M_blocks M_marks M_wrongs M_rights M_tells M_lastMaster M_lastCounts M_wrong M_depth M_fill M_half M_craft M_master g25 M_powers M_values M_logarithms M_word M_solved M_system M_forms M_elements M_counts M_data) := hD
    refine lv_iconst (v := (0 : Int32)) hx hb d_Mo_lay_86 (by decide) ?_
    refine lv_istore (lv' := [(5, .int (0 : Int32)), (0, .ref qM), (1, .int x1), (3, .int x3), (4, .int x4)]) hx hb d_Mo_lay_87 hl (by decide) rfl (fun ls hl => ?_)
    exact T89 10000 x1 (0 : Int32) g25 M_values M_word M_solved M_system hm _ _ hP hD hS _ (lv_sub hl [1, 2, 0] rfl)
  have T12 : ∀ (n12 : Nat) (x1 : Int32) (x2 : Int32) (x3 : Int32) (x4 : Int32) (x5 : Int32) (M_bytes : Nat → Int32) (M_values : Nat → Int32) (M_word : Nat → Int32) (M_solved : Nat → Int32) (M_system : Nat → Int32), f_Mo_lay_12 M_depth M_fill M_half M_craft M_master M_powers M_logarithms M_forms M_elements M_counts M_data n12 x1 x2 x3 x4 x5 M_bytes M_values M_word M_solved M_system = some (M_bytes', M_values', M_word', M_solved', M_system') → ∀ (H : Heap) (locs : List Loc), va_P D classes (w_Mo_lay cI cJ qM qM_bytes qM_powers qM_values qM_logarithms qM_word qM_solved qM_system qM_forms qM_elements qM_counts qM_data M_thrown M_pattern M_begins M_firsts M_seconds M_mixer M_waiting M_line M_length M_sent M_state M_places M_least M_row M_rowSize M_differ M_blocks M_marks M_wrongs M_rights M_tells M_lastMaster M_lastCounts M_wrong M_depth M_fill M_half M_craft M_master M_bytes M_powers M_values M_logarithms M_word M_solved M_system M_forms M_elements M_counts M_data) H → va_D A (w_Mo_lay cI cJ qM qM_bytes qM_powers qM_values qM_logarithms qM_word qM_solved qM_system qM_forms qM_elements qM_counts qM_data M_thrown M_pattern M_begins M_firsts M_seconds M_mixer M_waiting M_line M_length M_sent M_state M_places M_least M_row M_rowSize M_differ M_blocks M_marks M_wrongs M_rights M_tells M_lastMaster M_lastCounts M_wrong M_depth M_fill M_half M_craft M_master M_bytes M_powers M_values M_logarithms M_word M_solved M_system M_forms M_elements M_counts M_data) → va_S A s.heap H locs → ∀ (ls : Array Slot), lv_has ls 7 [(0, .ref qM), (1, .int x1), (2, .int x2), (3, .int x3), (4, .int x4), (5, .int x5)] → W p l e (RM 3 73) s m args below meth c H locs 0 0 Q0 (F0 m 12 ls []) := by
    intro n12
    induction n12 with
    | zero => intro x1 x2 x3 x4 x5 M_bytes M_values M_word M_solved M_system hm; cases hm
    | succ n12 ih12 =>
      intro x1 x2 x3 x4 x5 M_bytes M_values M_word M_solved M_system hm H locs hP hD hS ls hl
      replace hm : f_Mo_lay_12_b M_depth M_fill M_half M_craft M_master M_powers M_logarithms M_forms M_elements M_counts M_data (f_Mo_lay_12 M_depth M_fill M_half M_craft M_master M_powers M_logarithms M_forms M_elements M_counts M_data n12) x1 x2 x3 x4 x5 M_bytes M_values M_word M_solved M_system = some (M_bytes', M_values', M_word', M_solved', M_system') := hm
      unfold f_Mo_lay_12_b at hm
      refine lv_iload hx hb d_Mo_lay_12 (lv_at hl 5 rfl) ?_
      refine lv_iload_n hx hb d_Mo_lay_14 rfl (lv_at hl 3 rfl) ?_
      refine lv_iconst (v := (2 : Int32)) hx hb d_Mo_lay_15 (by decide) ?_
      refine lv_isub hx hb d_Mo_lay_16 ?_
      refine z_if hm (lv_icmp_ge (tgt := 55) hx hb d_Mo_lay_17 (by decide)) (fun hm => ?_) (fun hm => ?_)
      · exact T55 x1 x3 x4 M_bytes M_values M_word M_solved M_system hm _ _ hP hD hS _ (lv_sub hl [0, 1, 3, 4] rfl)
      · refine lv_aload_n hx hb d_Mo_lay_20 rfl (lv_at hl 0 rfl) ?_
        refine lv_iload hx hb d_Mo_lay_21 (lv_at hl 5 rfl) ?_
        refine lv_iload_n hx hb d_Mo_lay_23 rfl (lv_at hl 2 rfl) ?_
        obtain ⟨r26, hu, hm⟩ := bd_el hm
        replace hm := nm_1 hm
        refine z_cVi (wc := w_Mo_frameByte cI cJ qM qM_counts qM_data M_thrown (.int M_depth) (.int M_fill) (.int M_half) M_pattern M_begins M_firsts M_seconds (.ref qM_powers) (.ref qM_logarithms) (.ref qM_forms) (.ref qM_elements) M_mixer M_waiting M_line M_length M_sent M_state M_places M_least M_row M_rowSize M_differ M_blocks M_marks M_wrongs (.ref qM_bytes) M_rights M_tells M_lastMaster M_lastCounts (.ref qM_word) (.ref qM_values) (.ref qM_system) (.ref qM_solved) M_wrong M_craft M_master M_counts M_data) (wc' := w_Mo_frameByte cI cJ qM qM_counts qM_data M_thrown (.int M_depth) (.int M_fill) (.int M_half) M_pattern M_begins M_firsts M_seconds (.ref qM_powers) (.ref qM_logarithms) (.ref qM_forms) (.ref qM_elements) M_mixer M_waiting M_line M_length M_sent M_state M_places M_least M_row M_rowSize M_differ M_blocks M_marks M_wrongs (.ref qM_bytes) M_rights M_tells M_lastMaster M_lastCounts (.ref qM_word) (.ref qM_values) (.ref qM_system) (.ref qM_solved) M_wrong M_craft M_master M_counts M_data) (wr := [(qM_bytes, .inl (cI, 4000, .inl M_bytes)), (qM_powers, .inl (cI, 255, .inl M_powers)), (qM_values, .inl (cI, 32, .inl M_values)), (qM_logarithms, .inl (cI, 256, .inl M_logarithms)), (qM_word, .inl (cI, 255, .inl M_word)), (qM_solved, .inl (cI, 32, .inl M_solved)), (qM_system, .inl (cI, 1056, .inl M_system)), (qM_forms, .inl (cI, 256, .inl M_forms)), (qM_elements, .inl (cI, 256, .inl M_elements))]) (As := [.int x5, .int x2]) (rest := []) (c_Mo_frameByte l D cI cJ tt qM qM_counts qM_data M_thrown (.int M_depth) (.int M_fill) (.int M_half) M_pattern M_begins M_firsts M_seconds (.ref qM_powers) (.ref qM_logarithms) (.ref qM_forms) (.ref qM_elements) M_mixer M_waiting M_line M_length M_sent M_state M_places M_least M_row M_rowSize M_differ M_blocks M_marks M_wrongs (.ref qM_bytes) M_rights M_tells M_lastMaster M_lastCounts (.ref qM_word) (.ref qM_values) (.ref qM_system) (.ref qM_solved) M_wrong _ M_craft M_master M_counts M_data x5 x2 r26 hu) F ok_Mo_frameByte rfl k_1071 hK hE hP hD hS hA [0, 10, 11] [1, 2, 3, 4, 5, 6, 7, 8, 9] rfl rfl (by decide) (by decide) (by decide) 0 rfl rfl rfl ⟨rfl, rfl, Nat.le_of_ble_eq_true rfl, Nat.le_of_ble_eq_true rfl⟩ ⟨Nat.zero_le _, Nat.zero_le _⟩ rfl hl.1 rfl (Nat.le_of_ble_eq_true rfl) d_Mo_lay_24 (fun H locs hP hD hS => ?_)
        have hP : va_P D classes (w_Mo_lay cI cJ qM qM_bytes qM_powers qM_values qM_logarithms qM_word qM_solved qM_system qM_forms qM_elements qM_counts qM_data M_thrown M_pattern M_begins M_firsts M_seconds M_mixer M_waiting M_line M_length M_sent M_state M_places M_least M_row M_rowSize M_differ M_blocks M_marks M_wrongs M_rights M_tells M_lastMaster M_lastCounts M_wrong M_depth M_fill M_half M_craft M_master M_bytes M_powers M_values M_logarithms M_word M_solved M_system M_forms M_elements M_counts M_data) H := hP.sub [9, 0, 1, 2, 3, 4, 5, 6, 7, 8, 10, 11] rfl
        have hD : va_D A (w_Mo_lay cI cJ qM qM_bytes qM_powers qM_values qM_logarithms qM_word qM_solved qM_system qM_forms qM_elements qM_counts qM_data M_thrown M_pattern M_begins M_firsts M_seconds M_mixer M_waiting M_line M_length M_sent M_state M_places M_least M_row M_rowSize M_differ M_blocks M_marks M_wrongs M_rights M_tells M_lastMaster M_lastCounts M_wrong M_depth M_fill M_half M_craft M_master M_bytes M_powers M_values M_logarithms M_word M_solved M_system M_forms M_elements M_counts M_data) := hD.sub [9, 0, 1, 2, 3, 4, 5, 6, 7, 8, 10, 11] (by decide) rfl
        refine lv_istore (lv' := [(6, .int r26), (0, .ref qM), (1, .int x1), (2, .int x2), (3, .int x3), (4, .int x4), (5, .int x5)]) hx hb d_Mo_lay_27 hl (by decide) rfl (fun ls hl => ?_)
        refine lv_aload_n hx hb d_Mo_lay_29 rfl (lv_at hl 1 rfl) ?_
        refine va_get (D := D) (ci := 11) (v := .ref qM_bytes) (C := "DeepChannelModel") (T := fT_Mo) (N := 40) hx hb hts u_Mo hown hK hP 0 rfl rfl 30 (by decide) (hts _ k_916) (fun _ h9 => h9) rfl d_Mo_lay_30 ?_
        refine lv_iload_n hx hb d_Mo_lay_33 rfl (lv_at hl 2 rfl) ?_
        refine lv_iload hx hb d_Mo_lay_34 (lv_at hl 6 rfl) ?_
        refine lv_iadd hx hb d_Mo_lay_36 ?_
        refine lv_iload hx hb d_Mo_lay_37 (lv_at hl 0 rfl) ?_
        refine z_iast hm hx hb hK hP hD hS 1 rfl d_Mo_lay_39 (fun g28 hm H locs hP hD hS => ?_)
        have hP : va_P D classes (w_Mo_lay cI cJ qM qM_bytes qM_powers qM_values qM_logarithms qM_word qM_solved qM_system qM_forms qM_elements qM_counts qM_data M_thrown M_pattern M_begins M_firsts M_seconds M_mixer M_waiting M_line M_length M_sent M_state M_places M_least M_row M_rowSize M_differ M_blocks M_marks M_wrongs M_rights M_tells M_lastMaster M_lastCounts M_wrong M_depth M_fill M_half M_craft M_master g28 M_powers M_values M_logarithms M_word M_solved M_system M_forms M_elements M_counts M_data) H := hP
        have hD : va_D A (w_Mo_lay cI cJ qM qM_bytes qM_powers qM_values qM_logarithms qM_word qM_solved qM_system qM_forms qM_elements qM_counts qM_data M_thrown M_pattern M_begins M_firsts M_seconds M_mixer M_waiting M_line M_length M_sent M_state M_places M_least M_row M_rowSize M_differ M_blocks M_marks M_wrongs M_rights M_tells M_lastMaster M_lastCounts M_wrong M_depth M_fill M_half M_craft M_master g28 M_powers M_values M_logarithms M_word M_solved M_system M_forms M_elements M_counts M_data) := hD
        refine lv_iload hx hb d_Mo_lay_40 (lv_at hl 5 rfl) ?_
        refine lv_iload hx hb d_Mo_lay_42 (lv_at hl 0 rfl) ?_
        obtain ⟨r29, hu, hm⟩ := bd_el hm
        replace hm := nm_1 hm
        refine z_cSi (wc := w_Mo_checkOn) (wc' := w_Mo_checkOn) (wr := [(qM, .inr (11, [M_thrown, .int M_depth, .int M_fill, .int M_half, M_pattern, .int M_craft, M_begins, M_firsts, M_seconds, .ref qM_powers, .ref qM_logarithms, .ref qM_forms, .ref qM_elements, M_mixer, .ref qM_data, M_waiting, .int M_master, .ref qM_counts, M_line, M_length, M_sent, M_state, M_places, M_least, M_row, M_rowSize, M_differ, M_blocks, M_marks, M_wrongs, .ref qM_bytes, M_rights, M_tells, M_lastMaster, M_lastCounts, .ref qM_word, .ref qM_values, .ref qM_system, .ref qM_solved, M_wrong])), (qM_bytes, .inl (cI, 4000, .inl g28)), (qM_powers, .inl (cI, 255, .inl M_powers)), (qM_values, .inl (cI, 32, .inl M_values)), (qM_logarithms, .inl (cI, 256, .inl M_logarithms)), (qM_word, .inl (cI, 255, .inl M_word)), (qM_solved, .inl (cI, 32, .inl M_solved)), (qM_system, .inl (cI, 1056, .inl M_system)), (qM_forms, .inl (cI, 256, .inl M_forms)), (qM_elements, .inl (cI, 256, .inl M_elements)), (qM_counts, .inl (cI, 8, .inl M_counts)), (qM_data, .inl (cI, 250, .inl M_data))]) (As := [.int x4, .int r26]) (rest := []) (c_Mo_checkOn l D cI cJ tt _ x4 r26 r29 hu) F ok_Mo_checkOn k_1075 hK hE hP hD hS hA [] [0, 1, 2, 3, 4, 5, 6, 7, 8, 9, 10, 11] rfl rfl (by decide) (by decide) (by decide) ⟨rfl, rfl, Nat.le_of_ble_eq_true rfl, Nat.le_of_ble_eq_true rfl⟩ ⟨Nat.zero_le _, Nat.zero_le _⟩ rfl hl.1 rfl (Nat.le_of_ble_eq_true rfl) d_Mo_lay_44 (fun H locs hP hD hS => ?_)
        have hP : va_P D classes (w_Mo_lay cI cJ qM qM_bytes qM_powers qM_values qM_logarithms qM_word qM_solved qM_system qM_forms qM_elements qM_counts qM_data M_thrown M_pattern M_begins M_firsts M_seconds M_mixer M_waiting M_line M_length M_sent M_state M_places M_least M_row M_rowSize M_differ M_blocks M_marks M_wrongs M_rights M_tells M_lastMaster M_lastCounts M_wrong M_depth M_fill M_half M_craft M_master g28 M_powers M_values M_logarithms M_word M_solved M_system M_forms M_elements M_counts M_data) H := hP.sub [0, 1, 2, 3, 4, 5, 6, 7, 8, 9, 10, 11] rfl
        have hD : va_D A (w_Mo_lay cI cJ qM qM_bytes qM_powers qM_values qM_logarithms qM_word qM_solved qM_system qM_forms qM_elements qM_counts qM_data M_thrown M_pattern M_begins M_firsts M_seconds M_mixer M_waiting M_line M_length M_sent M_state M_places M_least M_row M_rowSize M_differ M_blocks M_marks M_wrongs M_rights M_tells M_lastMaster M_lastCounts M_wrong M_depth M_fill M_half M_craft M_master g28 M_powers M_values M_logarithms M_word M_solved M_system M_forms M_elements M_counts M_data) := hD.sub [0, 1, 2, 3, 4, 5, 6, 7, 8, 9, 10, 11] (by decide) rfl
        refine lv_istore (lv' := [(4, .int r29), (6, .int r26), (0, .ref qM), (1, .int x1), (2, .int x2), (3, .int x3), (5, .int x5)]) hx hb d_Mo_lay_47 hl (by decide) rfl (fun ls hl => ?_)
        obtain ⟨v31, ev, hm⟩ := nm_el hm
        refine lv_iinc (v := v31) (lv' := [(5, .int v31), (4, .int r29), (6, .int r26), (0, .ref qM), (1, .int x1), (2, .int x2), (3, .int x3)]) hx hb d_Mo_lay_49 hl (k := 6) rfl (by rw [ev]; rfl) (by decide) rfl (fun ls hl => ?_)
        refine lv_goto (tgt := 12) hx hb d_Mo_lay_52 (by decide) ?_
        exact ih12 x1 x2 x3 r29 v31 g28 M_values M_word M_solved M_system hm _ _ hP hD hS _ (lv_sub hl [3, 4, 5, 6, 1, 0] rfl)
  unfold f_Mo_lay at hm
  refine lv_aload_n hx hb d_Mo_lay_0 rfl (lv_at hl 0 rfl) ?_
  obtain ⟨r32, hu, hm⟩ := bd_el hm
  replace hm := nm_1 hm
  refine z_cVi (wc := w_Mo_frameSize cI cJ qM M_thrown M_pattern (.int M_craft) M_begins M_firsts M_seconds (.ref qM_powers) (.ref qM_logarithms) (.ref qM_forms) (.ref qM_elements) M_mixer (.ref qM_data) M_waiting (.int M_master) (.ref qM_counts) M_line M_length M_sent M_state M_places M_least M_row M_rowSize M_differ M_blocks M_marks M_wrongs (.ref qM_bytes) M_rights M_tells M_lastMaster M_lastCounts (.ref qM_word) (.ref qM_values) (.ref qM_system) (.ref qM_solved) M_wrong M_depth M_fill M_half) (wc' := w_Mo_frameSize cI cJ qM M_thrown M_pattern (.int M_craft) M_begins M_firsts M_seconds (.ref qM_powers) (.ref qM_logarithms) (.ref qM_forms) (.ref qM_elements) M_mixer (.ref qM_data) M_waiting (.int M_master) (.ref qM_counts) M_line M_length M_sent M_state M_places M_least M_row M_rowSize M_differ M_blocks M_marks M_wrongs (.ref qM_bytes) M_rights M_tells M_lastMaster M_lastCounts (.ref qM_word) (.ref qM_values) (.ref qM_system) (.ref qM_solved) M_wrong M_depth M_fill M_half) (wr := [(qM_bytes, .inl (cI, 4000, .inl M_bytes)), (qM_powers, .inl (cI, 255, .inl M_powers)), (qM_values, .inl (cI, 32, .inl M_values)), (qM_logarithms, .inl (cI, 256, .inl M_logarithms)), (qM_word, .inl (cI, 255, .inl M_word)), (qM_solved, .inl (cI, 32, .inl M_solved)), (qM_system, .inl (cI, 1056, .inl M_system)), (qM_forms, .inl (cI, 256, .inl M_forms)), (qM_elements, .inl (cI, 256, .inl M_elements)), (qM_counts, .inl (cI, 8, .inl M_counts)), (qM_data, .inl (cI, 250, .inl M_data))]) (As := []) (rest := []) (c_Mo_frameSize l D cI cJ tt qM M_thrown M_pattern (.int M_craft) M_begins M_firsts M_seconds (.ref qM_powers) (.ref qM_logarithms) (.ref qM_forms) (.ref qM_elements) M_mixer (.ref qM_data) M_waiting (.int M_master) (.ref qM_counts) M_line M_length M_sent M_state M_places M_least M_row M_rowSize M_differ M_blocks M_marks M_wrongs (.ref qM_bytes) M_rights M_tells M_lastMaster M_lastCounts (.ref qM_word) (.ref qM_values) (.ref qM_system) (.ref qM_solved) M_wrong _ M_depth M_fill M_half r32 hu) F ok_Mo_frameSize rfl k_1026 hK hE hP hD hS hA [0] [1, 2, 3, 4, 5, 6, 7, 8, 9, 10, 11] rfl rfl (by decide) (by decide) (by decide) 0 rfl rfl rfl ⟨rfl, rfl, Nat.le_of_ble_eq_true rfl, Nat.le_of_ble_eq_true rfl⟩ ⟨Nat.zero_le _, Nat.zero_le _⟩ rfl hl.1 rfl (Nat.le_of_ble_eq_true rfl) d_Mo_lay_1 (fun H locs hP hD hS => ?_)
  have hP : va_P D classes (w_Mo_lay cI cJ qM qM_bytes qM_powers qM_values qM_logarithms qM_word qM_solved qM_system qM_forms qM_elements qM_counts qM_data M_thrown M_pattern M_begins M_firsts M_seconds M_mixer M_waiting M_line M_length M_sent M_state M_places M_least M_row M_rowSize M_differ M_blocks M_marks M_wrongs M_rights M_tells M_lastMaster M_lastCounts M_wrong M_depth M_fill M_half M_craft M_master M_bytes M_powers M_values M_logarithms M_word M_solved M_system M_forms M_elements M_counts M_data) H := hP.sub [11, 0, 1, 2, 3, 4, 5, 6, 7, 8, 9, 10] rfl
  have hD : va_D A (w_Mo_lay cI cJ qM qM_bytes qM_powers qM_values qM_logarithms qM_word qM_solved qM_system qM_forms qM_elements qM_counts qM_data M_thrown M_pattern M_begins M_firsts M_seconds M_mixer M_waiting M_line M_length M_sent M_state M_places M_least M_row M_rowSize M_differ M_blocks M_marks M_wrongs M_rights M_tells M_lastMaster M_lastCounts M_wrong M_depth M_fill M_half M_craft M_master M_bytes M_powers M_values M_logarithms M_word M_solved M_system M_forms M_elements M_counts M_data) := hD.sub [11, 0, 1, 2, 3, 4, 5, 6, 7, 8, 9, 10] (by decide) rfl
  refine lv_istore_n (lv' := [(3, .int r32), (0, .ref qM), (1, .int x1), (2, .int x2)]) hx hb d_Mo_lay_4 rfl hl (by decide) rfl (fun ls hl => ?_)
  refine lv_ldc (v := (65535 : Int32)) hx hb hown (hts _ k_1070) d_Mo_lay_5 ?_
  refine lv_istore (lv' := [(4, .int (65535 : Int32)), (3, .int r32), (0, .ref qM), (1, .int x1), (2, .int x2)]) hx hb d_Mo_lay_7 hl (by decide) rfl (fun ls hl => ?_)
  refine lv_iconst (v := (0 : Int32)) hx hb d_Mo_lay_9 (by decide) ?_
  refine lv_istore (lv' := [(5, .int (0 : Int32)), (4, .int (65535 : Int32)), (3, .int r32), (0, .ref qM), (1, .int x1), (2, .int x2)]) hx hb d_Mo_lay_10 hl (by decide) rfl (fun ls hl => ?_)
  exact T12 10000 x1 x2 r32 (65535 : Int32) (0 : Int32) M_bytes M_values M_word M_solved M_system hm _ _ hP hD hS _ (lv_sub hl [3, 4, 5, 2, 1, 0] rfl)
