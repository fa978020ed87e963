-- DeepChannelModel.skip(I)V
abbrev b_Mo_skip : ByteArray := prog_13_method_30_code
abbrev y_Mo_skip : MethodName := ⟨"DeepChannelModel", "skip", "(I)V"⟩
theorem d_Mo_skip_0 : decode b_Mo_skip 0 = .ok (.aload_n 0, 1) := by decide +kernel
theorem d_Mo_skip_1 : decode b_Mo_skip 1 = .ok (.iload_n 1, 1) := by decide +kernel
theorem d_Mo_skip_2 : decode b_Mo_skip 2 = .ok (.ifCond .lt 9, 3) := by decide +kernel
theorem d_Mo_skip_5 : decode b_Mo_skip 5 = .ok (.iload_n 1, 1) := by decide +kernel
theorem d_Mo_skip_6 : decode b_Mo_skip 6 = .ok (.bipush 7, 2) := by decide +kernel
theorem d_Mo_skip_8 : decode b_Mo_skip 8 = .ok (.if_icmp .le 7, 3) := by decide +kernel
theorem d_Mo_skip_11 : decode b_Mo_skip 11 = .ok (.iconst 1, 1) := by decide +kernel
theorem d_Mo_skip_12 : decode b_Mo_skip 12 = .ok (.goto 4, 3) := by decide +kernel
theorem d_Mo_skip_15 : decode b_Mo_skip 15 = .ok (.iconst 0, 1) := by decide +kernel
theorem d_Mo_skip_16 : decode b_Mo_skip 16 = .ok (.putfield 103, 3) := by decide +kernel
theorem d_Mo_skip_19 : decode b_Mo_skip 19 = .ok (.aload_n 0, 1) := by decide +kernel
theorem d_Mo_skip_20 : decode b_Mo_skip 20 = .ok (.getfield 103, 3) := by decide +kernel
theorem d_Mo_skip_23 : decode b_Mo_skip 23 = .ok (.ifCond .ne 23, 3) := by decide +kernel
theorem d_Mo_skip_26 : decode b_Mo_skip 26 = .ok (.aload_n 0, 1) := by decide +kernel
theorem d_Mo_skip_27 : decode b_Mo_skip 27 = .ok (.dup, 1) := by decide +kernel
theorem d_Mo_skip_28 : decode b_Mo_skip 28 = .ok (.getfield 117, 3) := by decide +kernel
theorem d_Mo_skip_31 : decode b_Mo_skip 31 = .ok (.iconst 1, 1) := by decide +kernel
theorem d_Mo_skip_32 : decode b_Mo_skip 32 = .ok (.iadd, 1) := by decide +kernel
theorem d_Mo_skip_33 : decode b_Mo_skip 33 = .ok (.putfield 117, 3) := by decide +kernel
theorem d_Mo_skip_36 : decode b_Mo_skip 36 = .ok (.aload_n 0, 1) := by decide +kernel
theorem d_Mo_skip_37 : decode b_Mo_skip 37 = .ok (.getfield 47, 3) := by decide +kernel
theorem d_Mo_skip_40 : decode b_Mo_skip 40 = .ok (.iload_n 1, 1) := by decide +kernel
theorem d_Mo_skip_41 : decode b_Mo_skip 41 = .ok (.dup2, 1) := by decide +kernel
theorem d_Mo_skip_42 : decode b_Mo_skip 42 = .ok (.iaload, 1) := by decide +kernel
theorem d_Mo_skip_43 : decode b_Mo_skip 43 = .ok (.iconst 1, 1) := by decide +kernel
theorem d_Mo_skip_44 : decode b_Mo_skip 44 = .ok (.iadd, 1) := by decide +kernel
theorem d_Mo_skip_45 : decode b_Mo_skip 45 = .ok (.iastore, 1) := by decide +kernel
theorem d_Mo_skip_46 : decode b_Mo_skip 46 = .ok (.return_, 1) := by decide +kernel
theorem ok_Mo_skip : OKv y_Mo_skip b_Mo_skip 2 none "DeepChannelModel" 1 := ⟨k_1110, k_1108, k_1109, k_55, by decide +kernel, by decide +kernel, by decide +kernel⟩
abbrev w_Mo_skip (cI cJ : ClassId) (qM qM_counts : Nat) (M_depth M_fill M_half M_pattern M_craft M_begins M_firsts M_seconds M_powers M_logarithms M_forms M_elements M_mixer M_data M_waiting M_line M_length M_sent M_state M_places M_least M_row M_rowSize M_differ M_blocks M_marks M_wrongs M_bytes M_rights M_tells M_lastMaster M_lastCounts M_word M_values M_system M_solved M_wrong : Value) (M_thrown : Int32) (M_master : Int32) (M_counts : Nat → Int32) : va_W := [(qM, .inr (11, [.int M_thrown, M_depth, M_fill, M_half, M_pattern, M_craft, M_begins, M_firsts, M_seconds, M_powers, M_logarithms, M_forms, M_elements, M_mixer, M_data, M_waiting, .int M_master, .ref qM_counts, M_line, M_length, M_sent, M_state, M_places, M_least, M_row, M_rowSize, M_differ, M_blocks, M_marks, M_wrongs, M_bytes, M_rights, M_tells, M_lastMaster, M_lastCounts, M_word, M_values, M_system, M_solved, M_wrong])), (qM_counts, .inl (cI, 8, .inl M_counts))]
def f_Mo_skip_16  (x1 : Int32) (t1 : Int32) (M_thrown : Int32) (M_master : Int32) (M_counts : Nat → Int32) : Option (Int32 × Int32 × (Nat → Int32)) :=
  if t1 = 0 then
    nm (M_master + (1 : Int32)) fun v1 =>
    rdI M_counts 8 x1 fun v2 =>
    wrI M_counts 8 x1 (v2 + (1 : Int32)) fun g3 =>
    some (t1, v1, g3)
  else
  some (t1, M_master, M_counts)
def f_Mo_skip_11  (x1 : Int32) (M_thrown : Int32) (M_master : Int32) (M_counts : Nat → Int32) : Option (Int32 × Int32 × (Nat → Int32)) :=
  f_Mo_skip_16 x1 (1 : Int32) M_thrown M_master M_counts
def f_Mo_skip (M_thrown : Int32) (M_master : Int32) (M_counts : Nat → Int32) (x1 : Int32) : Option (Int32 × Int32 × (Nat → Int32)) :=
  if x1 < 0 then
    f_Mo_skip_11 x1 M_thrown M_master M_counts
  else
  if x1 ≤ (7 : Int32) then
    f_Mo_skip_16 x1 (0 : Int32) M_thrown M_master M_counts
  else
  f_Mo_skip_11 x1 M_thrown M_master M_counts
set_option maxHeartbeats 4000000 in
set_option maxRecDepth 100000 in
theorem c_Mo_skip (l : Launch) (D : va_G) (cI cJ : ClassId) (tt : Nat → Nat) (qM qM_counts : Nat) (M_depth M_fill M_half M_pattern M_craft M_begins M_firsts M_seconds M_powers M_logarithms M_forms M_elements M_mixer M_data M_waiting M_line M_length M_sent M_state M_places M_least M_row M_rowSize M_differ M_blocks M_marks M_wrongs M_bytes M_rights M_tells M_lastMaster M_lastCounts M_word M_values M_system M_solved M_wrong : Value) (sz : Nat) (M_thrown : Int32) (M_master : Int32) (M_counts : Nat → Int32) (x1 : Int32) (M_thrown' : Int32) (M_master' : Int32) (M_counts' : Nat → Int32) (hm : f_Mo_skip M_thrown M_master M_counts x1 = some (M_thrown', M_master', M_counts')) : CTv l y_Mo_skip b_Mo_skip 2 none (RM 0 0) D cI cJ tt [.ref qM, .int x1] (w_Mo_skip cI cJ qM qM_counts M_depth M_fill M_half M_pattern M_craft M_begins M_firsts M_seconds M_powers M_logarithms M_forms M_elements M_mixer M_data M_waiting M_line M_length M_sent M_state M_places M_least M_row M_rowSize M_differ M_blocks M_marks M_wrongs M_bytes M_rights M_tells M_lastMaster M_lastCounts M_word M_values M_system M_solved M_wrong M_thrown M_master M_counts) (w_Mo_skip cI cJ qM qM_counts M_depth M_fill M_half M_pattern M_craft M_begins M_firsts M_seconds M_powers M_logarithms M_forms M_elements M_mixer M_data M_waiting M_line M_length M_sent M_state M_places M_least M_row M_rowSize M_differ M_blocks M_marks M_wrongs M_bytes M_rights M_tells M_lastMaster M_lastCounts M_word M_values M_system M_solved M_wrong M_thrown' M_master' M_counts') sz := by
  refine Met.ofW (cc := b_Mo_skip) (maxL := 2) (ret := none) (by decide) rfl ?_
  intro p e s m args below meth c s₁ B hml hv
  obtain ⟨hargs, hsz, hP, hK, hD0, hE⟩ := hv
  have hx := B.exec
  have hb := B.bytes
  have hr := B.returns
  have hts : ∀ w ∈ TB, w.before args s = true := z_mV s (atoms_spec (ws := WD y_Mo_skip b_Mo_skip 2 none) B.pre)
  have hown : s.vm.findClass "DeepChannelModel" = some m.cls := findClass_of_methodNamed B.named
  have hlocks := B.notSynchronized
  subst hsz
  have hD := hD0.self (sz := s.heap.size)
  generalize hAe : va_A (w_Mo_skip cI cJ qM qM_counts M_depth M_fill M_half M_pattern M_craft M_begins M_firsts M_seconds M_powers M_logarithms M_forms M_elements M_mixer M_data M_waiting M_line M_length M_sent M_state M_places M_least M_row M_rowSize M_differ M_blocks M_marks M_wrongs M_bytes M_rights M_tells M_lastMaster M_lastCounts M_word M_values M_system M_solved M_wrong M_thrown M_master M_counts) s.heap.size = A at hD hE ⊢
  have hA : ∀ q : Nat, s.heap.size ≤ q → A q := fun q h => by rw [← hAe]; exact Or.inr h
  have hS : va_S A s.heap s.heap [] := va_S.rf
  refine z_entry (vs := [.ref qM, .int x1]) hargs (Nat.le_of_ble_eq_true rfl) (fun ls hl => ?_)
  have hl : lv_has ls 2 [(0, .ref qM), (1, .int x1)] := hl
  show W p l e (RM 0 0) s m args below meth c s.heap [] 0 0 _ _
  refine z_qi (fun Q0 hQ => ?_)
  have F : CallFix p m c b_Mo_skip 2 s args TB "DeepChannelModel" := ⟨hx, hb, hml, hown, hts⟩
  have T16 : ∀ (x1 : Int32) (t1 : Int32) (M_thrown : Int32) (M_master : Int32) (M_counts : Nat → Int32), f_Mo_skip_16 x1 t1 M_thrown M_master M_counts = some (M_thrown', M_master', M_counts') → ∀ (H : Heap) (locs : List Loc), va_P D classes (w_Mo_skip cI cJ qM qM_counts M_depth M_fill M_half M_pattern M_craft M_begins M_firsts M_seconds M_powers M_logarithms M_forms M_elements M_mixer M_data M_waiting M_line M_length M_sent M_state M_places M_least M_row M_rowSize M_differ M_blocks M_marks M_wrongs M_bytes M_rights M_tells M_lastMaster M_lastCounts M_word M_values M_system M_solved M_wrong M_thrown M_master M_counts) H → va_D A (w_Mo_skip cI cJ qM qM_counts M_depth M_fill M_half M_pattern M_craft M_begins M_firsts M_seconds M_powers M_logarithms M_forms M_elements M_mixer M_data M_waiting M_line M_length M_sent M_state M_places M_least M_row M_rowSize M_differ M_blocks M_marks M_wrongs M_bytes M_rights M_tells M_lastMaster M_lastCounts M_word M_values M_system M_solved M_wrong M_thrown M_master M_counts) → va_S A s.heap H locs → ∀ (ls : Array Slot), lv_has ls 2 [(0, .ref qM), (1, .int x1)] → W p l e (RM 0 0) s m args below meth c H locs 0 0 Q0 (F0 m 16 ls [.int t1, .ref qM]) := by
    intro x1 t1 M_thrown M_master M_counts hm H locs hP hD hS ls hl
    unfold f_Mo_skip_16 at hm
    refine va_put (D := D) (ci := 11) (v := .int t1) (ty := .int) (C := "DeepChannelModel") (T := fT_Mo) (N := 40) hx hb hts u_Mo fY_Mo fK_Mo fN_Mo hown hK hP hD hS 0 rfl rfl 0 (by decide) (hts _ k_886) (fun _ h9 => h9) rfl (by decide +kernel) rfl rfl (Nat.le_of_ble_eq_true rfl) d_Mo_skip_16 (fun H locs hP hD hS => ?_)
    have hP : va_P D classes (w_Mo_skip cI cJ qM qM_counts M_depth M_fill M_half M_pattern M_craft M_begins M_firsts M_seconds M_powers M_logarithms M_forms M_elements M_mixer M_data M_waiting M_line M_length M_sent M_state M_places M_least M_row M_rowSize M_differ M_blocks M_marks M_wrongs M_bytes M_rights M_tells M_lastMaster M_lastCounts M_word M_values M_system M_solved M_wrong t1 M_master M_counts) H := hP
    have hD : va_D A (w_Mo_skip cI cJ qM qM_counts M_depth M_fill M_half M_pattern M_craft M_begins M_firsts M_seconds M_powers M_logarithms M_forms M_elements M_mixer M_data M_waiting M_line M_length M_sent M_state M_places M_least M_row M_rowSize M_differ M_blocks M_marks M_wrongs M_bytes M_rights M_tells M_lastMaster M_lastCounts M_word M_values M_system M_solved M_wrong t1 M_master M_counts) := hD
    refine lv_aload_n hx hb d_Mo_skip_19 rfl (lv_at hl 0 rfl) ?_
    refine va_get (D := D) (ci := 11) (v := .int t1) (C := "DeepChannelModel") (T := fT_Mo) (N := 40) hx hb hts u_Mo hown hK hP 0 rfl rfl 0 (by decide) (hts _ k_886) (fun _ h9 => h9) rfl d_Mo_skip_20 ?_
    refine z_ifn hm (lv_if_ne (tgt := 46) hx hb d_Mo_skip_23 (by decide)) (fun hm => ?_) (fun hm => ?_)
    · refine lv_aload_n hx hb d_Mo_skip_26 rfl (lv_at hl 0 rfl) ?_
      refine lv_dup hx hb d_Mo_skip_27 rfl ?_
      refine va_get (D := D) (ci := 11) (v := .int M_master) (C := "DeepChannelModel") (T := fT_Mo) (N := 40) hx hb hts u_Mo hown hK hP 0 rfl rfl 16 (by decide) (hts _ k_902) (fun _ h9 => h9) rfl d_Mo_skip_28 ?_
      refine lv_iconst (v := (1 : Int32)) hx hb d_Mo_skip_31 (by decide) ?_
      refine lv_iadd hx hb d_Mo_skip_32 ?_
      refine z_nmi hm (fun v1 hm => ?_)
      refine va_put (D := D) (ci := 11) (v := .int v1) (ty := .int) (C := "DeepChannelModel") (T := fT_Mo) (N := 40) hx hb hts u_Mo fY_Mo fK_Mo fN_Mo hown hK hP hD hS 0 rfl rfl 16 (by decide) (hts _ k_902) (fun _ h9 => h9) rfl (by decide +kernel) rfl rfl (Nat.le_of_ble_eq_true rfl) d_Mo_skip_33 (fun H locs hP hD hS => ?_)
      have hP : va_P D classes (w_Mo_skip cI cJ qM qM_counts M_depth M_fill M_half M_pattern M_craft M_begins M_firsts M_seconds M_powers M_logarithms M_forms M_elements M_mixer M_data M_waiting M_line M_length M_sent M_state M_places M_least M_row M_rowSize M_differ M_blocks M_marks M_wrongs M_bytes M_rights M_tells M_lastMaster M_lastCounts M_word M_values M_system M_solved M_wrong t1 v1 M_counts) H := hP
      have hD : va_D A (w_Mo_skip cI cJ qM qM_counts M_depth M_fill M_half M_pattern M_craft M_begins M_firsts M_seconds M_powers M_logarithms M_forms M_elements M_mixer M_data M_waiting M_line M_length M_sent M_state M_places M_least M_row M_rowSize M_differ M_blocks M_marks M_wrongs M_bytes M_rights M_tells M_lastMaster M_lastCounts M_word M_values M_system M_solved M_wrong t1 v1 M_counts) := hD
      refine lv_aload_n hx hb d_Mo_skip_36 rfl (lv_at hl 0 rfl) ?_
      refine va_get (D := D) (ci := 11) (v := .ref qM_counts) (C := "DeepChannelModel") (T := fT_Mo) (N := 40) hx hb hts u_Mo hown hK hP 0 rfl rfl 17 (by decide) (hts _ k_903) (fun _ h9 => h9) rfl d_Mo_skip_37 ?_
      refine lv_iload_n hx hb d_Mo_skip_40 rfl (lv_at hl 1 rfl) ?_
      refine lv_dup2_11 hx hb d_Mo_skip_41 rfl rfl ?_
      refine z_iald hm hx hb hK hP 1 rfl d_Mo_skip_42 (fun v2 hm => ?_)
      refine lv_iconst (v := (1 : Int32)) hx hb d_Mo_skip_43 (by decide) ?_
      refine lv_iadd hx hb d_Mo_skip_44 ?_
      refine z_iast hm hx hb hK hP hD hS 1 rfl d_Mo_skip_45 (fun g3 hm H locs hP hD hS => ?_)
      have hP : va_P D classes (w_Mo_skip cI cJ qM qM_counts M_depth M_fill M_half M_pattern M_craft M_begins M_firsts M_seconds M_powers M_logarithms M_forms M_elements M_mixer M_data M_waiting M_line M_length M_sent M_state M_places M_least M_row M_rowSize M_differ M_blocks M_marks M_wrongs M_bytes M_rights M_tells M_lastMaster M_lastCounts M_word M_values M_system M_solved M_wrong t1 v1 g3) H := hP
      have hD : va_D A (w_Mo_skip cI cJ qM qM_counts M_depth M_fill M_half M_pattern M_craft M_begins M_firsts M_seconds M_powers M_logarithms M_forms M_elements M_mixer M_data M_waiting M_line M_length M_sent M_state M_places M_least M_row M_rowSize M_differ M_blocks M_marks M_wrongs M_bytes M_rights M_tells M_lastMaster M_lastCounts M_word M_values M_system M_solved M_wrong t1 v1 g3) := hD
      cases hm
      exact z_qo hQ (z_vret hr hx hb hlocks hK hP hD hS d_Mo_skip_46)
    · cases hm
      exact z_qo hQ (z_vret hr hx hb hlocks hK hP hD hS d_Mo_skip_46)
  have T11 : ∀ (x1 : Int32) (M_thrown : Int32) (M_master : Int32) (M_counts : Nat → Int32), f_Mo_skip_11 x1 M_thrown M_master M_counts = some (M_thrown', M_master', M_counts') → ∀ (H : Heap) (locs : List Loc), va_P D classes (w_Mo_skip cI cJ qM qM_counts M_depth M_fill M_half M_pattern M_craft M_begins M_firsts M_seconds M_powers M_logarithms M_forms M_elements M_mixer M_data M_waiting M_line M_length M_sent M_state M_places M_least M_row M_rowSize M_differ M_blocks M_marks M_wrongs M_bytes M_rights M_tells M_lastMaster M_lastCounts M_word M_values M_system M_solved M_wrong M_thrown M_master M_counts) H → va_D A (w_Mo_skip cI cJ qM qM_counts M_depth M_fill M_half M_pattern M_craft M_begins M_firsts M_seconds M_powers M_logarithms M_forms M_elements M_mixer M_data M_waiting M_line M_length M_sent M_state M_places M_least M_row M_rowSize M_differ M_blocks M_marks M_wrongs M_bytes M_rights M_tells M_lastMaster M_lastCounts M_word M_values M_system M_solved M_wrong M_thrown M_master M_counts) → va_S A s.heap H locs → ∀ (ls : Array Slot), lv_has ls 2 [(0, .ref qM), (1, .int x1)] → W p l e (RM 0 0) s m args below meth c H locs 0 0 Q0 (F0 m 11 ls [.ref qM]) := by
    intro x1 M_thrown M_master M_counts hm H locs hP hD hS ls hl
    unfold f_Mo_skip_11 at hm
    refine lv_iconst (v := (1 : Int32)) hx hb d_Mo_skip_11 (by decide) ?_
    refine lv_goto (tgt := 16) hx hb d_Mo_skip_12 (by decide) ?_
    exact T16 x1 (1 : Int32) M_thrown M_master M_counts hm _ _ hP hD hS _ (lv_sub hl [0, 1] rfl)
  unfold f_Mo_skip at hm
  refine lv_aload_n hx hb d_Mo_skip_0 rfl (lv_at hl 0 rfl) ?_
  refine lv_iload_n hx hb d_Mo_skip_1 rfl (lv_at hl 1 rfl) ?_
  refine z_if hm (lv_if_lt (tgt := 11) hx hb d_Mo_skip_2 (by decide)) (fun hm => ?_) (fun hm => ?_)
  · exact T11 x1 M_thrown M_master M_counts hm _ _ hP hD hS _ (lv_sub hl [0, 1] rfl)
  · refine lv_iload_n hx hb d_Mo_skip_5 rfl (lv_at hl 1 rfl) ?_
    refine lv_bipush (v := (7 : Int32)) hx hb d_Mo_skip_6 (by decide) ?_
    refine z_if hm (lv_icmp_le (tgt := 15) hx hb d_Mo_skip_8 (by decide)) (fun hm => ?_) (fun hm => ?_)
    · refine lv_iconst (v := (0 : Int32)) hx hb d_Mo_skip_15 (by decide) ?_
      exact T16 x1 (0 : Int32) M_thrown M_master M_counts hm _ _ hP hD hS _ (lv_sub hl [0, 1] rfl)
    · exact T11 x1 M_thrown M_master M_counts hm _ _ hP hD hS _ (lv_sub hl [0, 1] rfl)
-- DeepChannelModel.send(I)I
abbrev b_Mo_send : ByteArray := prog_13_method_29_code
abbrev y_Mo_send : MethodName := ⟨"DeepChannelModel", "send", "(I)I"⟩
theorem d_Mo_send_0 : decode b_Mo_send 0 = .ok (.aload_n 0, 1) := by decide +kernel
theorem d_Mo_send_1 : decode b_Mo_send 1 = .ok (.iload_n 1, 1) := by decide +kernel
theorem d_Mo_send_2 : decode b_Mo_send 2 = .ok (.ifCond .lt 9, 3) := by decide +kernel
theorem d_Mo_send_5 : decode b_Mo_send 5 = .ok (.iload_n 1, 1) := by decide +kernel
theorem d_Mo_send_6 : decode b_Mo_send 6 = .ok (.bipush 7, 2) := by decide +kernel
theorem d_Mo_send_8 : decode b_Mo_send 8 = .ok (.if_icmp .le 7, 3) := by decide +kernel
theorem d_Mo_send_11 : decode b_Mo_send 11 = .ok (.iconst 1, 1) := by decide +kernel
theorem d_Mo_send_12 : decode b_Mo_send 12 = .ok (.goto 22, 3) := by decide +kernel
theorem d_Mo_send_15 : decode b_Mo_send 15 = .ok (.aload_n 0, 1) := by decide +kernel
theorem d_Mo_send_16 : decode b_Mo_send 16 = .ok (.getfield 114, 3) := by decide +kernel
theorem d_Mo_send_19 : decode b_Mo_send 19 = .ok (.aload_n 0, 1) := by decide +kernel
theorem d_Mo_send_20 : decode b_Mo_send 20 = .ok (.invokevirtual 148, 3) := by decide +kernel
theorem d_Mo_send_23 : decode b_Mo_send 23 = .ok (.bipush 8, 2) := by decide +kernel
theorem d_Mo_send_25 : decode b_Mo_send 25 = .ok (.isub, 1) := by decide +kernel
theorem d_Mo_send_26 : decode b_Mo_send 26 = .ok (.if_icmp .ge 7, 3) := by decide +kernel
theorem d_Mo_send_29 : decode b_Mo_send 29 = .ok (.iconst 2, 1) := by decide +kernel
theorem d_Mo_send_30 : decode b_Mo_send 30 = .ok (.goto 4, 3) := by decide +kernel
theorem d_Mo_send_33 : decode b_Mo_send 33 = .ok (.iconst 0, 1) := by decide +kernel
theorem d_Mo_send_34 : decode b_Mo_send 34 = .ok (.putfield 103, 3) := by decide +kernel
theorem d_Mo_send_37 : decode b_Mo_send 37 = .ok (.aload_n 0, 1) := by decide +kernel
theorem d_Mo_send_38 : decode b_Mo_send 38 = .ok (.getfield 103, 3) := by decide +kernel
theorem d_Mo_send_41 : decode b_Mo_send 41 = .ok (.ifCond .le 5, 3) := by decide +kernel
theorem d_Mo_send_44 : decode b_Mo_send 44 = .ok (.iconst 0, 1) := by decide +kernel
theorem d_Mo_send_45 : decode b_Mo_send 45 = .ok (.ireturn, 1) := by decide +kernel
theorem d_Mo_send_46 : decode b_Mo_send 46 = .ok (.aload_n 0, 1) := by decide +kernel
theorem d_Mo_send_47 : decode b_Mo_send 47 = .ok (.getfield 120, 3) := by decide +kernel
theorem d_Mo_send_50 : decode b_Mo_send 50 = .ok (.aload_n 0, 1) := by decide +kernel
theorem d_Mo_send_51 : decode b_Mo_send 51 = .ok (.aload_n 0, 1) := by decide +kernel
theorem d_Mo_send_52 : decode b_Mo_send 52 = .ok (.getfield 123, 3) := by decide +kernel
theorem d_Mo_send_55 : decode b_Mo_send 55 = .ok (.bipush 32, 2) := by decide +kernel
theorem d_Mo_send_57 : decode b_Mo_send 57 = .ok (.bipush 8, 2) := by decide +kernel
theorem d_Mo_send_59 : decode b_Mo_send 59 = .ok (.aload_n 0, 1) := by decide +kernel
theorem d_Mo_send_60 : decode b_Mo_send 60 = .ok (.invokevirtual 151, 3) := by decide +kernel
theorem d_Mo_send_63 : decode b_Mo_send 63 = .ok (.imul, 1) := by decide +kernel
theorem d_Mo_send_64 : decode b_Mo_send 64 = .ok (.iadd, 1) := by decide +kernel
theorem d_Mo_send_65 : decode b_Mo_send 65 = .ok (.invokevirtual 167, 3) := by decide +kernel
theorem d_Mo_send_68 : decode b_Mo_send 68 = .ok (.iadd, 1) := by decide +kernel
theorem d_Mo_send_69 : decode b_Mo_send 69 = .ok (.sipush 4096, 3) := by decide +kernel
theorem d_Mo_send_72 : decode b_Mo_send 72 = .ok (.if_icmp .le 5, 3) := by decide +kernel
theorem d_Mo_send_75 : decode b_Mo_send 75 = .ok (.iconst (-1), 1) := by decide +kernel
theorem d_Mo_send_76 : decode b_Mo_send 76 = .ok (.ireturn, 1) := by decide +kernel
theorem d_Mo_send_77 : decode b_Mo_send 77 = .ok (.sipush 3750, 3) := by decide +kernel
theorem d_Mo_send_80 : decode b_Mo_send 80 = .ok (.istore_n 2, 1) := by decide +kernel
theorem d_Mo_send_81 : decode b_Mo_send 81 = .ok (.aload_n 0, 1) := by decide +kernel
theorem d_Mo_send_82 : decode b_Mo_send 82 = .ok (.iload_n 2, 1) := by decide +kernel
theorem d_Mo_send_83 : decode b_Mo_send 83 = .ok (.iload_n 1, 1) := by decide +kernel
theorem d_Mo_send_84 : decode b_Mo_send 84 = .ok (.invokevirtual 198, 3) := by decide +kernel
theorem d_Mo_send_87 : decode b_Mo_send 87 = .ok (.iconst 3, 1) := by decide +kernel
theorem d_Mo_send_88 : decode b_Mo_send 88 = .ok (.istore_n 3, 1) := by decide +kernel
theorem d_Mo_send_89 : decode b_Mo_send 89 = .ok (.iload_n 3, 1) := by decide +kernel
theorem d_Mo_send_90 : decode b_Mo_send 90 = .ok (.ifCond .lt 24, 3) := by decide +kernel
theorem d_Mo_send_93 : decode b_Mo_send 93 = .ok (.aload_n 0, 1) := by decide +kernel
theorem d_Mo_send_94 : decode b_Mo_send 94 = .ok (.ldc 202, 2) := by decide +kernel
theorem d_Mo_send_96 : decode b_Mo_send 96 = .ok (.bipush 8, 2) := by decide +kernel
theorem d_Mo_send_98 : decode b_Mo_send 98 = .ok (.iload_n 3, 1) := by decide +kernel
theorem d_Mo_send_99 : decode b_Mo_send 99 = .ok (.imul, 1) := by decide +kernel
theorem d_Mo_send_100 : decode b_Mo_send 100 = .ok (.ishr, 1) := by decide +kernel
theorem d_Mo_send_101 : decode b_Mo_send 101 = .ok (.sipush 255, 3) := by decide +kernel
theorem d_Mo_send_104 : decode b_Mo_send 104 = .ok (.iand, 1) := by decide +kernel
theorem d_Mo_send_105 : decode b_Mo_send 105 = .ok (.invokevirtual 203, 3) := by decide +kernel
theorem d_Mo_send_108 : decode b_Mo_send 108 = .ok (.iinc 3 (-1), 3) := by decide +kernel
theorem d_Mo_send_111 : decode b_Mo_send 111 = .ok (.goto (-22), 3) := by decide +kernel
theorem d_Mo_send_114 : decode b_Mo_send 114 = .ok (.iconst 0, 1) := by decide +kernel
theorem d_Mo_send_115 : decode b_Mo_send 115 = .ok (.istore_n 3, 1) := by decide +kernel
theorem d_Mo_send_116 : decode b_Mo_send 116 = .ok (.iload_n 3, 1) := by decide +kernel
theorem d_Mo_send_117 : decode b_Mo_send 117 = .ok (.aload_n 0, 1) := by decide +kernel
theorem d_Mo_send_118 : decode b_Mo_send 118 = .ok (.invokevirtual 151, 3) := by decide +kernel
theorem d_Mo_send_121 : decode b_Mo_send 121 = .ok (.if_icmp .ge 28, 3) := by decide +kernel
theorem d_Mo_send_124 : decode b_Mo_send 124 = .ok (.aload_n 0, 1) := by decide +kernel
theorem d_Mo_send_125 : decode b_Mo_send 125 = .ok (.aload_n 0, 1) := by decide +kernel
theorem d_Mo_send_126 : decode b_Mo_send 126 = .ok (.getfield 69, 3) := by decide +kernel
theorem d_Mo_send_129 : decode b_Mo_send 129 = .ok (.iload_n 2, 1) := by decide +kernel
theorem d_Mo_send_130 : decode b_Mo_send 130 = .ok (.iload_n 3, 1) := by decide +kernel
theorem d_Mo_send_131 : decode b_Mo_send 131 = .ok (.iadd, 1) := by decide +kernel
theorem d_Mo_send_132 : decode b_Mo_send 132 = .ok (.iaload, 1) := by decide +kernel
theorem d_Mo_send_133 : decode b_Mo_send 133 = .ok (.aload_n 0, 1) := by decide +kernel
theorem d_Mo_send_134 : decode b_Mo_send 134 = .ok (.getfield 41, 3) := by decide +kernel
theorem d_Mo_send_137 : decode b_Mo_send 137 = .ok (.iload_n 3, 1) := by decide +kernel
theorem d_Mo_send_138 : decode b_Mo_send 138 = .ok (.iaload, 1) := by decide +kernel
theorem d_Mo_send_139 : decode b_Mo_send 139 = .ok (.ixor, 1) := by decide +kernel
theorem d_Mo_send_140 : decode b_Mo_send 140 = .ok (.invokevirtual 203, 3) := by decide +kernel
theorem d_Mo_send_143 : decode b_Mo_send 143 = .ok (.iinc 3 1, 3) := by decide +kernel
theorem d_Mo_send_146 : decode b_Mo_send 146 = .ok (.goto (-30), 3) := by decide +kernel
theorem d_Mo_send_149 : decode b_Mo_send 149 = .ok (.aload_n 0, 1) := by decide +kernel
theorem d_Mo_send_150 : decode b_Mo_send 150 = .ok (.iconst 0, 1) := by decide +kernel
theorem d_Mo_send_151 : decode b_Mo_send 151 = .ok (.putfield 114, 3) := by decide +kernel
theorem d_Mo_send_154 : decode b_Mo_send 154 = .ok (.aload_n 0, 1) := by decide +kernel
theorem d_Mo_send_155 : decode b_Mo_send 155 = .ok (.iload_n 1, 1) := by decide +kernel
theorem d_Mo_send_156 : decode b_Mo_send 156 = .ok (.invokevirtual 206, 3) := by decide +kernel
theorem d_Mo_send_159 : decode b_Mo_send 159 = .ok (.aload_n 0, 1) := by decide +kernel
theorem d_Mo_send_160 : decode b_Mo_send 160 = .ok (.getfield 120, 3) := by decide +kernel
theorem d_Mo_send_163 : decode b_Mo_send 163 = .ok (.ireturn, 1) := by decide +kernel
theorem ok_Mo_send : OKv y_Mo_send b_Mo_send 4 (some .int) "DeepChannelModel" 1 := ⟨k_1065, k_1063, k_1064, k_55, by decide +kernel, by decide +kernel, by decide +kernel⟩
abbrev w_Mo_send (cI cJ : ClassId) (qM qM_begins qM_firsts qM_seconds qM_bytes qM_powers qM_values qM_logarithms qM_word qM_solved qM_system qM_forms qM_elements qM_counts qM_data qM_mixer qM_line : Nat) (M_places M_least M_row M_rowSize M_differ M_blocks M_marks M_wrongs M_rights M_tells M_lastMaster M_lastCounts M_wrong : Value) (M_thrown : Int32) (M_depth : Int32) (M_fill : Int32) (M_half : Int32) (M_pattern : Int32) (M_craft : Int32) (M_waiting : Int32) (M_master : Int32) (M_length : Int32) (M_sent : Int32) (M_state : Int32) (M_begins : Nat → Int32) (M_firsts : Nat → Int32) (M_seconds : Nat → Int32) (M_bytes : Nat → Int32) (M_powers : Nat → Int32) (M_values : Nat → Int32) (M_logarithms : Nat → Int32) (M_word : Nat → Int32) (M_solved : Nat → Int32) (M_system : Nat → Int32) (M_forms : Nat → Int32) (M_elements : Nat → Int32) (M_counts : Nat → Int32) (M_data : Nat → Int32) (M_mixer : Nat → Int32) (M_line : Nat → Int32) : va_W := [(qM, .inr (11, [.int M_thrown, .int M_depth, .int M_fill, .int M_half, .int M_pattern, .int M_craft, .ref qM_begins, .ref qM_firsts, .ref qM_seconds, .ref qM_powers, .ref qM_logarithms, .ref qM_forms, .ref qM_elements, .ref qM_mixer, .ref qM_data, .int M_waiting, .int M_master, .ref qM_counts, .ref qM_line, .int M_length, .int M_sent, .int M_state, M_places, M_least, M_row, M_rowSize, M_differ, M_blocks, M_marks, M_wrongs, .ref qM_bytes, M_rights, M_tells, M_lastMaster, M_lastCounts, .ref qM_word, .ref qM_values, .ref qM_system, .ref qM_solved, M_wrong])), (qM_begins, .inl (cI, 6, .inl M_begins)), (qM_firsts, .inl (cI, 18, .inl M_firsts)), (qM_seconds, .inl (cI, 18, .inl M_seconds)), (qM_bytes, .inl (cI, 4000, .inl M_bytes)), (qM_powers, .inl (cI, 255, .inl M_powers)), (qM_values, .inl (cI, 32, .inl M_values)), (qM_logarithms, .inl (cI, 256, .inl M_logarithms)), (qM_word, .inl (cI, 255, .inl M_word)), (qM_solved, .inl (cI, 32, .inl M_solved)), (qM_system, .inl (cI, 1056, .inl M_system)), (qM_forms, .inl (cI, 256, .inl M_forms)), (qM_elements, .inl (cI, 256, .inl M_elements)), (qM_counts, .inl (cI, 8, .inl M_counts)), (qM_data, .inl (cI, 250, .inl M_data)), (qM_mixer, .inl (cI, 250, .inl M_mixer)), (qM_line, .inl (cI, 4096, .inl M_line))]
def f_Mo_send_149  (x1 : Int32) (M_thrown : Int32) (M_waiting : Int32) (M_master : Int32) (M_length : Int32) (M_sent : Int32) (M_state : Int32) (M_bytes : Nat → Int32) (M_values : Nat → Int32) (M_word : Nat → Int32) (M_solved : Nat → Int32) (M_system : Nat → Int32) (M_counts : Nat → Int32) (M_line : Nat → Int32) : Option (Int32 × Int32 × Int32 × Int32 × Int32 × Int32 × Int32 × (Nat → Int32) × (Nat → Int32) × (Nat → Int32) × (Nat → Int32) × (Nat → Int32) × (Nat → Int32) × (Nat → Int32)) :=
  bd (f_Mo_skip M_thrown M_master M_counts x1) fun u4 =>
  nm u4.1 fun v1 =>
  nm u4.2.1 fun v2 =>
  nm u4.2.2 fun g3 =>
  some (M_length, v1, (0 : Int32), v2, M_length, M_sent, M_state, M_bytes, M_values, M_word, M_solved, M_system, g3, M_line)
def f_Mo_send_116_b (M_depth : Int32) (M_fill : Int32) (M_pattern : Int32) (M_begins : Nat → Int32) (M_firsts : Nat → Int32) (M_seconds : Nat → Int32) (M_mixer : Nat → Int32) (kh116 : Int32 → Int32 → Int32 → Int32 → Int32 → Int32 → Int32 → Int32 → Int32 → (Nat → Int32) → (Nat → Int32) → (Nat → Int32) → (Nat → Int32) → (Nat → Int32) → (Nat → Int32) → (Nat → Int32) → Option (Int32 × Int32 × Int32 × Int32 × Int32 × Int32 × Int32 × (Nat → Int32) × (Nat → Int32) × (Nat → Int32) × (Nat → Int32) × (Nat → Int32) × (Nat → Int32) × (Nat → Int32))) (x1 : Int32) (x2 : Int32) (x3 : Int32) (M_thrown : Int32) (M_waiting : Int32) (M_master : Int32) (M_length : Int32) (M_sent : Int32) (M_state : Int32) (M_bytes : Nat → Int32) (M_values : Nat → Int32) (M_word : Nat → Int32) (M_solved : Nat → Int32) (M_system : Nat → Int32) (M_counts : Nat → Int32) (M_line : Nat → Int32) : Option (Int32 × Int32 × Int32 × Int32 × Int32 × Int32 × Int32 × (Nat → Int32) × (Nat → Int32) × (Nat → Int32) × (Nat → Int32) × (Nat → Int32) × (Nat → Int32) × (Nat → Int32)) :=
  bd (f_Mo_blockSize M_depth M_fill) fun u6 =>
  nm u6 fun r5 =>
  if r5 ≤ x3 then
    f_Mo_send_149 x1 M_thrown M_waiting M_master M_length M_sent M_state M_bytes M_values M_word M_solved M_system M_counts M_line
  else
  rdI M_bytes 4000 (x2 + x3) fun v7 =>
  rdI M_mixer 250 x3 fun v8 =>
  bd (f_Mo_sendByte M_pattern M_length M_sent M_state M_begins M_firsts M_seconds M_line (v7 ^^^ v8)) fun u13 =>
  nm u13.1 fun v9 =>
  nm u13.2.1 fun v10 =>
  nm u13.2.2.1 fun v11 =>
  nm u13.2.2.2 fun g12 =>
  nm (x3 + (1 : Int32)) fun v14 =>
  kh116 x1 x2 v14 M_thrown M_waiting M_master v9 v10 v11 M_bytes M_values M_word M_solved M_system M_counts g12
def f_Mo_send_116 (M_depth : Int32) (M_fill : Int32) (M_pattern : Int32) (M_begins : Nat → Int32) (M_firsts : Nat → Int32) (M_seconds : Nat → Int32) (M_mixer : Nat → Int32) : Nat → Int32 → Int32 → Int32 → Int32 → Int32 → Int32 → Int32 → Int32 → Int32 → (Nat → Int32) → (Nat → Int32) → (Nat → Int32) → (Nat → Int32) → (Nat → Int32) → (Nat → Int32) → (Nat → Int32) → Option (Int32 × Int32 × Int32 × Int32 × Int32 × Int32 × Int32 × (Nat → Int32) × (Nat → Int32) × (Nat → Int32) × (Nat → Int32) × (Nat → Int32) × (Nat → Int32) × (Nat → Int32))
  | 0 => fun _ _ _ _ _ _ _ _ _ _ _ _ _ _ _ _ => none
  | n + 1 => fun x1 x2 x3 M_thrown M_waiting M_master M_length M_sent M_state M_bytes M_values M_word M_solved M_system M_counts M_line => f_Mo_send_116_b M_depth M_fill M_pattern M_begins M_firsts M_seconds M_mixer (f_Mo_send_116 M_depth M_fill M_pattern M_begins M_firsts M_seconds M_mixer n) x1 x2 x3 M_thrown M_waiting M_master M_length M_sent M_state M_bytes M_values M_word M_solved M_system M_counts M_line
def f_Mo_send_114 (M_depth : Int32) (M_fill : Int32) (M_pattern : Int32) (M_begins : Nat → Int32) (M_firsts : Nat → Int32) (M_seconds : Nat → Int32) (M_mixer : Nat → Int32) (x1 : Int32) (x2 : Int32) (M_thrown : Int32) (M_waiting : Int32) (M_master : Int32) (M_length : Int32) (M_sent : Int32) (M_state : Int32) (M_bytes : Nat → Int32) (M_values : Nat → Int32) (M_word : Nat → Int32) (M_solved : Nat → Int32) (M_system : Nat → Int32) (M_counts : Nat → Int32) (M_line : Nat → Int32) : Option (Int32 × Int32 × Int32 × Int32 × Int32 × Int32 × Int32 × (Nat → Int32) × (Nat → Int32) × (Nat → Int32) × (Nat → Int32) × (Nat → Int32) × (Nat → Int32) × (Nat → Int32)) :=
  f_Mo_send_116 M_depth M_fill M_pattern M_begins M_firsts M_seconds M_mixer 10000 x1 x2 (0 : Int32) M_thrown M_waiting M_master M_length M_sent M_state M_bytes M_values M_word M_solved M_system M_counts M_line
def f_Mo_send_89_b (M_depth : Int32) (M_fill : Int32) (M_pattern : Int32) (M_begins : Nat → Int32) (M_firsts : Nat → Int32) (M_seconds : Nat → Int32) (M_mixer : Nat → Int32) (kh89 : Int32 → Int32 → Int32 → Int32 → Int32 → Int32 → Int32 → Int32 → Int32 → (Nat → Int32) → (Nat → Int32) → (Nat → Int32) → (Nat → Int32) → (Nat → Int32) → (Nat → Int32) → (Nat → Int32) → Option (Int32 × Int32 × Int32 × Int32 × Int32 × Int32 × Int32 × (Nat → Int32) × (Nat → Int32) × (Nat → Int32) × (Nat → Int32) × (Nat → Int32) × (Nat → Int32) × (Nat → Int32))) (x1 : Int32) (x2 : Int32) (x3 : Int32) (M_thrown : Int32) (M_waiting : Int32) (M_master : Int32) (M_length : Int32) (M_sent : Int32) (M_state : Int32) (M_bytes : Nat → Int32) (M_values : Nat → Int32) (M_word : Nat → Int32) (M_solved : Nat → Int32) (M_system : Nat → Int32) (M_counts : Nat → Int32) (M_line : Nat → Int32) : Option (Int32 × Int32 × Int32 × Int32 × Int32 × Int32 × Int32 × (Nat → Int32) × (Nat → Int32) × (Nat → Int32) × (Nat → Int32) × (Nat → Int32) × (Nat → Int32) × (Nat → Int32)) :=
  if x3 < 0 then
    f_Mo_send_114 M_depth M_fill M_pattern M_begins M_firsts M_seconds M_mixer x1 x2 M_thrown M_waiting M_master M_length M_sent M_state M_bytes M_values M_word M_solved M_system M_counts M_line
  else
  bd (f_Mo_sendByte M_pattern M_length M_sent M_state M_begins M_firsts M_seconds M_line (((449838109 : Int32) >>> (((8 : Int32) * x3) &&& 31)) &&& (255 : Int32))) fun u19 =>
  nm u19.1 fun v15 =>
  nm u19.2.1 fun v16 =>
  nm u19.2.2.1 fun v17 =>
  nm u19.2.2.2 fun g18 =>
  nm (x3 + (-1 : Int32)) fun v20 =>
  kh89 x1 x2 v20 M_thrown M_waiting M_master v15 v16 v17 M_bytes M_values M_word M_solved M_system M_counts g18
def f_Mo_send_89 (M_depth : Int32) (M_fill : Int32) (M_pattern : Int32) (M_begins : Nat → Int32) (M_firsts : Nat → Int32) (M_seconds : Nat → Int32) (M_mixer : Nat → Int32) : Nat → Int32 → Int32 → Int32 → Int32 → Int32 → Int32 → Int32 → Int32 → Int32 → (Nat → Int32) → (Nat → Int32) → (Nat → Int32) → (Nat → Int32) → (Nat → Int32) → (Nat → Int32) → (Nat → Int32) → Option (Int32 × Int32 × Int32 × Int32 × Int32 × Int32 × Int32 × (Nat → Int32) × (Nat → Int32) × (Nat → Int32) × (Nat → Int32) × (Nat → Int32) × (Nat → Int32) × (Nat → Int32))
  | 0 => fun _ _ _ _ _ _ _ _ _ _ _ _ _ _ _ _ => none
  | n + 1 => fun x1 x2 x3 M_thrown M_waiting M_master M_length M_sent M_state M_bytes M_values M_word M_solved M_system M_counts M_line => f_Mo_send_89_b M_depth M_fill M_pattern M_begins M_firsts M_seconds M_mixer (f_Mo_send_89 M_depth M_fill M_pattern M_begins M_firsts M_seconds M_mixer n) x1 x2 x3 M_thrown M_waiting M_master M_length M_sent M_state M_bytes M_values M_word M_solved M_system M_counts M_line
def f_Mo_send_34 (M_depth : Int32) (M_fill : Int32) (M_half : Int32) (M_pattern : Int32) (M_craft : Int32) (M_begins : Nat → Int32) (M_firsts : Nat → Int32) (M_seconds : Nat → Int32) (M_powers : Nat → Int32) (M_logarithms : Nat → Int32) (M_forms : Nat → Int32) (M_elements : Nat → Int32) (M_data : Nat → Int32) (M_mixer : Nat → Int32) (x1 : Int32) (t1 : Int32) (M_thrown : Int32) (M_waiting : Int32) (M_master : Int32) (M_length : Int32) (M_sent : Int32) (M_state : Int32) (M_bytes : Nat → Int32) (M_values : Nat → Int32) (M_word : Nat → Int32) (M_solved : Nat → Int32) (M_system : Nat → Int32) (M_counts : Nat → Int32) (M_line : Nat → Int32) : Option (Int32 × Int32 × Int32 × Int32 × Int32 × Int32 × Int32 × (Nat → Int32) × (Nat → Int32) × (Nat → Int32) × (Nat → Int32) × (Nat → Int32) × (Nat → Int32) × (Nat → Int32)) :=
  if t1 ≤ 0 then
    bd (f_Mo_blockSize M_depth M_fill) fun u22 =>
    nm u22 fun r21 =>
    bd (f_Mo_linesOf M_pattern M_begins M_firsts M_seconds M_sent ((32 : Int32) + ((8 : Int32) * r21))) fun u24 =>
    nm u24 fun r23 =>
    if (M_length + r23) ≤ (4096 : Int32) then
      bd (f_Mo_lay M_depth M_fill M_half M_craft M_master M_bytes M_powers M_values M_logarithms M_word M_solved M_system M_forms M_elements M_counts M_data (3750 : Int32) x1) fun u30 =>
      nm u30.1 fun g25 =>
      nm u30.2.1 fun g26 =>
      nm u30.2.2.1 fun g27 =>
      nm u30.2.2.2.1 fun g28 =>
      nm u30.2.2.2.2 fun g29 =>
      f_Mo_send_89 M_depth M_fill M_pattern M_begins M_firsts M_seconds M_mixer 10000 x1 (3750 : Int32) (3 : Int32) t1 M_waiting M_master M_length M_sent M_state g25 g26 g27 g28 g29 M_counts M_line
    else
    some ((-1 : Int32), t1, M_waiting, M_master, M_length, M_sent, M_state, M_bytes, M_values, M_word, M_solved, M_system, M_counts, M_line)
  else
  some ((0 : Int32), t1, M_waiting, M_master, M_length, M_sent, M_state, M_bytes, M_values, M_word, M_solved, M_system, M_counts, M_line)
def f_Mo_send_11 (M_depth : Int32) (M_fill : Int32) (M_half : Int32) (M_pattern : Int32) (M_craft : Int32) (M_begins : Nat → Int32) (M_firsts : Nat → Int32) (M_seconds : Nat → Int32) (M_powers : Nat → Int32) (M_logarithms : Nat → Int32) (M_forms : Nat → Int32) (M_elements : Nat → Int32) (M_data : Nat → Int32) (M_mixer : Nat → Int32) (x1 : Int32) (M_thrown : Int32) (M_waiting : Int32) (M_master : Int32) (M_length : Int32) (M_sent : Int32) (M_state : Int32) (M_bytes : Nat → Int32) (M_values : Nat → Int32) (M_word : Nat → Int32) (M_solved : Nat → Int32) (M_system : Nat → Int32) (M_counts : Nat → Int32) (M_line : Nat → Int32) : Option (Int32 × Int32 × Int32 × Int32 × Int32 × Int32 × Int32 × (Nat → Int32) × (Nat → Int32) × (Nat → Int32) × (Nat → Int32) × (Nat → Int32) × (Nat → Int32) × (Nat → Int32)) :=
  f_Mo_send_34 M_depth M_fill M_half M_pattern M_craft M_begins M_firsts M_seconds M_powers M_logarithms M_forms M_elements M_data M_mixer x1 (1 : Int32) M_thrown M_waiting M_master M_length M_sent M_state M_bytes M_values M_word M_solved M_system M_counts M_line
def f_Mo_send (M_thrown : Int32) (M_depth : Int32) (M_fill : Int32) (M_half : Int32) (M_pattern : Int32) (M_craft : Int32) (M_waiting : Int32) (M_master : Int32) (M_length : Int32) (M_sent : Int32) (M_state : Int32) (M_begins : Nat → Int32) (M_firsts : Nat → Int32) (M_seconds : Nat → Int32) (M_bytes : Nat → Int32) (M_powers : Nat → Int32) (M_values : Nat → Int32) (M_logarithms : Nat → Int32) (M_word : Nat → Int32) (M_solved : Nat → Int32) (M_system : Nat → Int32) (M_forms : Nat → Int32) (M_elements : Nat → Int32) (M_counts : Nat → Int32) (M_data : Nat → Int32) (M_mixer : Nat → Int32) (M_line : Nat → Int32) (x1 : Int32) : Option (Int32 × Int32 × Int32 × Int32 × Int32 × Int32 × Int32 × (Nat → Int32) × (Nat → Int32) × (Nat → Int32) × (Nat → Int32) × (Nat → Int32) × (Nat → Int32) × (Nat → Int32)) :=
  if x1 < 0 then
    f_Mo_send_11 M_depth M_fill M_half M_pattern M_craft M_begins M_firsts M_seconds M_powers M_logarithms M_forms M_elements M_data M_mixer x1 M_thrown M_waiting M_master M_length M_sent M_state M_bytes M_values M_word M_solved M_system M_counts M_line
  else
  if x1 ≤ (7 : Int32) then
    bd (f_Mo_frameSize M_depth M_fill M_half) fun u32 =>
    nm u32 fun r31 =>
    if (r31 - (8 : Int32)) ≤ M_waiting then
      f_Mo_send_34 M_depth M_fill M_half M_pattern M_craft M_begins M_firsts M_seconds M_powers M_logarithms M_forms M_elements M_data M_mixer x1 (0 : Int32) M_thrown M_waiting M_master M_length M_sent M_state M_bytes M_values M_word M_solved M_system M_counts M_line
    else
    f_Mo_send_34 M_depth M_fill M_half M_pattern M_craft M_begins M_firsts M_seconds M_powers M_logarithms M_forms M_elements M_data M_mixer x1 (2 : Int32) M_thrown M_waiting M_master M_length M_sent M_state M_bytes M_values M_word M_solved M_system M_counts M_line
  else
  f_Mo_send_11 M_depth M_fill M_half M_pattern M_craft M_begins M_firsts M_seconds M_powers M_logarithms M_forms M_elements M_data M_mixer x1 M_thrown M_waiting M_master M_length M_sent M_state M_bytes M_values M_word M_solved M_system M_counts M_line
set_option maxHeartbeats 4000000 in
set_option maxRecDepth 100000 in
theorem c_Mo_send (l : Launch) (D : va_G) (cI cJ : ClassId) (tt : Nat → Nat) (qM qM_begins qM_firsts qM_seconds qM_bytes qM_powers qM_values qM_logarithms qM_word qM_solved qM_system qM_forms qM_elements qM_counts qM_data qM_mixer qM_line : Nat) (M_places M_least M_row M_rowSize M_differ M_blocks M_marks M_wrongs M_rights M_tells M_lastMaster M_lastCounts M_wrong : Value) (sz : Nat) (M_thrown : Int32) (M_depth : Int32) (M_fill : Int32) (M_half : Int32) (M_pattern : Int32) (M_craft : Int32) (M_waiting : Int32) (M_master : Int32) (M_length : Int32) (M_sent : Int32) (M_state : Int32) (M_begins : Nat → Int32) (M_firsts : Nat → Int32) (M_seconds : Nat → Int32) (M_bytes : Nat → Int32) (M_powers : Nat → Int32) (M_values : Nat → Int32) (M_logarithms : Nat → Int32) (M_word : Nat → Int32) (M_solved : Nat → Int32) (M_system : Nat → Int32) (M_forms : Nat → Int32) (M_elements : Nat → Int32) (M_counts : Nat → Int32) (M_data : Nat → Int32) (M_mixer : Nat → Int32) (M_line : Nat → Int32) (x1 : Int32) (rr : Int32) (M_thrown' : Int32) (M_waiting' : Int32) (M_master' : Int32) (M_length' : Int32) (M_sent' : Int32) (M_state' : Int32) (M_bytes' : Nat → Int32) (M_values' : Nat → Int32) (M_word' : Nat → Int32) (M_solved' : Nat → Int32) (M_system' : Nat → Int32) (M_counts' : Nat → Int32) (M_line' : Nat → Int32) (hm : f_Mo_send M_thrown M_depth M_fill M_half M_pattern M_craft M_waiting M_master M_length M_sent M_state M_begins M_firsts M_seconds M_bytes M_powers M_values M_logarithms M_word M_solved M_system M_forms M_elements M_counts M_data M_mixer M_line x1 = some (rr, M_thrown', M_waiting', M_master', M_length', M_sent', M_state', M_bytes', M_values', M_word', M_solved', M_system', M_counts', M_line')) : CTi l y_Mo_send b_Mo_send 4 (some .int) (RM 4 99) D cI cJ tt [.ref qM, .int x1] (w_Mo_send cI cJ qM qM_begins qM_firsts qM_seconds qM_bytes qM_powers qM_values qM_logarithms qM_word qM_solved qM_system qM_forms qM_elements qM_counts qM_data qM_mixer qM_line M_places M_least M_row M_rowSize M_differ M_blocks M_marks M_wrongs M_rights M_tells M_lastMaster M_lastCounts M_wrong M_thrown M_depth M_fill M_half M_pattern M_craft M_waiting M_master M_length M_sent M_state M_begins M_firsts M_seconds M_bytes M_powers M_values M_logarithms M_word M_solved M_system M_forms M_elements M_counts M_data M_mixer M_line) (w_Mo_send cI cJ qM qM_begins qM_firsts qM_seconds qM_bytes qM_powers qM_values qM_logarithms qM_word qM_solved qM_system qM_forms qM_elements qM_counts qM_data qM_mixer qM_line M_places M_least M_row M_rowSize M_differ M_blocks M_marks M_wrongs M_rights M_tells M_lastMaster M_lastCounts M_wrong M_thrown' M_depth M_fill M_half M_pattern M_craft M_waiting' M_master' M_length' M_sent' M_state' M_begins M_firsts M_seconds M_bytes' M_powers M_values' M_logarithms M_word' M_solved' M_system' M_forms M_elements M_counts' M_data M_mixer M_line') sz rr := by
  refine Met.ofW (cc := b_Mo_send) (maxL := 4) (ret := (some .int)) (by decide) rfl ?_
  intro p e s m args below meth c s₁ B hml hv
  obtain ⟨hargs, hsz, hP, hK, hD0, hE⟩ := hv
  have hx := B.exec
  have hb := B.bytes
  have hr := B.returns
  have hts : ∀ w ∈ TB, w.before args s = true := z_mV s (atoms_spec (ws := WD y_Mo_send b_Mo_send 4 (some .int)) B.pre)
  have hown : s.vm.findClass "DeepChannelModel" = some m.cls := findClass_of_methodNamed B.named
  have hlocks := B.notSynchronized
  subst hsz
  have hD := hD0.self (sz := s.heap.size)
  generalize hAe : va_A (w_Mo_send cI cJ qM qM_begins qM_firsts qM_seconds qM_bytes qM_powers qM_values qM_logarithms qM_word qM_solved qM_system qM_forms qM_elements qM_counts qM_data qM_mixer qM_line M_places M_least M_row M_rowSize M_differ M_blocks M_marks M_wrongs M_rights M_tells M_lastMaster M_lastCounts M_wrong M_thrown M_depth M_fill M_half M_pattern M_craft M_waiting M_master M_length M_sent M_state M_begins M_firsts M_seconds M_bytes M_powers M_values M_logarithms M_word M_solved M_system M_forms M_elements M_counts M_data M_mixer M_line) s.heap.size = A at hD hE ⊢
  have hA : ∀ q : Nat, s.heap.size ≤ q → A q := fun q h => by rw [← hAe]; exact Or.inr h
  have hS : va_S A s.heap s.heap [] := va_S.rf
  refine z_entry (vs := [.ref qM, .int x1]) hargs (Nat.le_of_ble_eq_true rfl) (fun ls hl => ?_)
  have hl : lv_has ls 4 [(0, .ref qM), (1, .int x1)] := hl
  show W p l e (RM 4 99) s m args below meth c s.heap [] 0 0 _ _
  refine z_qi (fun Q0 hQ => ?_)
  have F : CallFix p m c b_Mo_send 4 s args TB "DeepChannelModel" := ⟨hx, hb, hml, hown, hts⟩
  have T149 : ∀ (x1 : Int32) (M_thrown : Int32) (M_waiting : Int32) (M_master : Int32) (M_length : Int32) (M_sent : Int32) (M_state : Int32) (M_bytes : Nat → Int32) (M_values : Nat → Int32) (M_word : Nat → Int32) (M_solved : Nat → Int32) (M_system : Nat → Int32) (M_counts : Nat → Int32) (M_line : Nat → Int32), f_Mo_send_149 x1 M_thrown M_waiting M_master M_length M_sent M_state M_bytes M_values M_word M_solved M_system M_counts M_line = some (rr, M_thrown', M_waiting', M_master', M_length', M_sent', M_state', M_bytes', M_values', M_word', M_solved', M_system', M_counts', M_line') → ∀ (H : Heap) (locs : List Loc), va_P D classes (w_Mo_send cI cJ qM qM_begins qM_firsts qM_seconds qM_bytes qM_powers qM_values qM_logarithms qM_word qM_solved qM_system qM_forms qM_elements qM_counts qM_data qM_mixer qM_line M_places M_least M_row M_rowSize M_differ M_blocks M_marks M_wrongs M_rights M_tells M_lastMaster M_lastCounts M_wrong M_thrown M_depth M_fill M_half M_pattern M_craft M_waiting M_master M_length M_sent M_state M_begins M_firsts M_seconds M_bytes M_powers M_values M_logarithms M_word M_solved M_system M_forms M_elements M_counts M_data M_mixer M_line) H → va_D A (w_Mo_send cI cJ qM qM_begins qM_firsts qM_seconds qM_bytes qM_powers qM_values qM_logarithms qM_word qM_solved qM_system qM_forms qM_elements qM_counts qM_data qM_mixer qM_line M_places M_least M_row M_rowSize M_differ M_blocks M_marks M_wrongs M_rights M_tells M_lastMaster M_lastCounts M_wrong M_thrown M_depth M_fill M_half M_pattern M_craft M_waiting M_master M_length M_sent M_state M_begins M_firsts M_seconds M_bytes M_powers M_values M_logarithms M_word M_solved M_system M_forms M_elements M_counts M_data M_mixer M_line) → va_S A s.heap H locs → ∀ (ls : Array Slot), lv_has ls 4 [(0, .ref qM), (1, .int x1)] → W p l e (RM 4 99) s m args below meth c H locs 0 0 Q0 (F0 m 149 ls []) := by
    intro x1 M_thrown M_waiting M_master M_length M_sent M_state M_bytes M_values M_word M_solved M_system M_counts M_line hm H locs hP hD hS ls hl
    unfold f_Mo_send_149 at hm
    refine lv_aload_n hx hb d_Mo_send_149 rfl (lv_at hl 0 rfl) ?_
    refine lv_iconst (v := (0 : Int32)) hx hb d_Mo_send_150 (by decide) ?_
    refine va_put (D := D) (ci := 11) (v := .int (0 : Int32)) (ty := .int) (C := "DeepChannelModel") (T := fT_Mo) (N := 40) hx hb hts u_Mo fY_Mo fK_Mo fN_Mo hown hK hP hD hS 0 rfl rfl 15 (by decide) (hts _ k_901) (fun _ h9 => h9) rfl (by decide +kernel) rfl rfl (Nat.le_of_ble_eq_true rfl) d_Mo_send_151 (fun H locs hP hD hS => ?_)
    have hP : va_P D classes (w_Mo_send cI cJ qM qM_begins qM_firsts qM_seconds qM_bytes qM_powers qM_values qM_logarithms qM_word qM_solved qM_system qM_forms qM_elements qM_counts qM_data qM_mixer qM_line M_places M_least M_row M_rowSize M_differ M_blocks M_marks M_wrongs M_rights M_tells M_lastMaster M_lastCounts M_wrong M_thrown M_depth M_fill M_half M_pattern M_craft (0 : Int32) M_master M_length M_sent M_state M_begins M_firsts M_seconds M_bytes M_powers M_values M_logarithms M_word M_solved M_system M_forms M_elements M_counts M_data M_mixer M_line) H := hP
    have hD : va_D A (w_Mo_send cI cJ qM qM_begins qM_firsts qM_seconds qM_bytes qM_powers qM_values qM_logarithms qM_word qM_solved qM_system qM_forms qM_elements qM_counts qM_data qM_mixer qM_line M_places M_least M_row M_rowSize M_differ M_blocks M_marks M_wrongs M_rights M_tells M_lastMaster M_lastCounts M_wrong M_thrown M_depth M_fill M_half M_pattern M_craft (0 : Int32) M_master M_length M_sent M_state M_begins M_firsts M_seconds M_bytes M_powers M_values M_logarithms M_word M_solved M_system M_forms M_elements M_counts M_data M_mixer M_line) := hD
    refine lv_aload_n hx hb d_Mo_send_154 rfl (lv_at hl 0 rfl) ?_
    refine lv_iload_n hx hb d_Mo_send_155 rfl (lv_at hl 1 rfl) ?_
    obtain ⟨⟨v1, v2, g3⟩, hu, hm⟩ := bd_el hm
    replace hm := nm_3 hm
    refine z_cVv (wc := w_Mo_skip cI cJ qM qM_counts (.int M_depth) (.int M_fill) (.int M_half) (.int M_pattern) (.int M_craft) (.ref qM_begins) (.ref qM_firsts) (.ref qM_seconds) (.ref qM_powers) (.ref qM_logarithms) (.ref qM_forms) (.ref qM_elements) (.ref qM_mixer) (.ref qM_data) (.int (0 : Int32)) (.ref qM_line) (.int M_length) (.int M_sent) (.int M_state) M_places M_least M_row M_rowSize M_differ M_blocks M_marks M_wrongs (.ref qM_bytes) M_rights M_tells M_lastMaster M_lastCounts (.ref qM_word) (.ref qM_values) (.ref qM_system) (.ref qM_solved) M_wrong M_thrown M_master M_counts) (wc' := w_Mo_skip cI cJ qM qM_counts (.int M_depth) (.int M_fill) (.int M_half) (.int M_pattern) (.int M_craft) (.ref qM_begins) (.ref qM_firsts) (.ref qM_seconds) (.ref qM_powers) (.ref qM_logarithms) (.ref qM_forms) (.ref qM_elements) (.ref qM_mixer) (.ref qM_data) (.int (0 : Int32)) (.ref qM_line) (.int M_length) (.int M_sent) (.int M_state) M_places M_least M_row M_rowSize M_differ M_blocks M_marks M_wrongs (.ref qM_bytes) M_rights M_tells M_lastMaster M_lastCounts (.ref qM_word) (.ref qM_values) (.ref qM_system) (.ref qM_solved) M_wrong v1 v2 g3) (wr := [(qM_begins, .inl (cI, 6, .inl M_begins)), (qM_firsts, .inl (cI, 18, .inl M_firsts)), (qM_seconds, .inl (cI, 18, .inl M_seconds)), (qM_bytes, .inl (cI, 4000, .inl M_bytes)), (qM_powers, .inl (cI, 255, .inl M_powers)), (qM_values, .inl (cI, 32, .inl M_values)), (qM_logarithms, .inl (cI, 256, .inl M_logarithms)), (qM_word, .inl (cI, 255, .inl M_word)), (qM_solved, .inl (cI, 32, .inl M_solved)), (qM_system, .inl (cI, 1056, .inl M_system)), (qM_forms, .inl (cI, 256, .inl M_forms)), (qM_elements, .inl (cI, 256, .inl M_elements)), (qM_data, .inl (cI, 250, .inl M_data)), (qM_mixer, .inl (cI, 250, .inl M_mixer)), (qM_line, .inl (cI, 4096, .inl M_line))]) (As := [.int x1]) (rest := []) (c_Mo_skip l D cI cJ tt qM qM_counts (.int M_depth) (.int M_fill) (.int M_half) (.int M_pattern) (.int M_craft) (.ref qM_begins) (.ref qM_firsts) (.ref qM_seconds) (.ref qM_powers) (.ref qM_logarithms) (.ref qM_forms) (.ref qM_elements) (.ref qM_mixer) (.ref qM_data) (.int (0 : Int32)) (.ref qM_line) (.int M_length) (.int M_sent) (.int M_state) M_places M_least M_row M_rowSize M_differ M_blocks M_marks M_wrongs (.ref qM_bytes) M_rights M_tells M_lastMaster M_lastCounts (.ref qM_word) (.ref qM_values) (.ref qM_system) (.ref qM_solved) M_wrong _ M_thrown M_master M_counts x1 v1 v2 g3 hu) F ok_Mo_skip rfl k_1107 hK hE hP hD hS hA [0, 13] [1, 2, 3, 4, 5, 6, 7, 8, 9, 10, 11, 12, 14, 15, 16] rfl rfl (by decide) (by decide) (by decide) 0 rfl rfl rfl ⟨rfl, rfl, Nat.le_of_ble_eq_true rfl, Nat.le_of_ble_eq_true rfl⟩ ⟨Nat.zero_le _, Nat.zero_le _⟩ rfl hl.1 rfl (Nat.le_of_ble_eq_true rfl) d_Mo_send_156 (fun H locs hP hD hS => ?_)
    have hP : va_P D classes (w_Mo_send cI cJ qM qM_begins qM_firsts qM_seconds qM_bytes qM_powers qM_values qM_logarithms qM_word qM_solved qM_system qM_forms qM_elements qM_counts qM_data qM_mixer qM_line M_places M_least M_row M_rowSize M_differ M_blocks M_marks M_wrongs M_rights M_tells M_lastMaster M_lastCounts M_wrong v1 M_depth M_fill M_half M_pattern M_craft (0 : Int32) v2 M_length M_sent M_state M_begins M_firsts M_seconds M_bytes M_powers M_values M_logarithms M_word M_solved M_system M_forms M_elements g3 M_data M_mixer M_line) H := hP.sub [15, 0, 1, 2, 3, 4, 5, 6, 7, 8, 9, 10, 11, 16, 12, 13, 14] rfl
    have hD : va_D A (w_Mo_send cI cJ qM qM_begins qM_firsts qM_seconds qM_bytes qM_powers qM_values qM_logarithms qM_word qM_solved qM_system qM_forms qM_elements qM_counts qM_data qM_mixer qM_line M_places M_least M_row M_rowSize M_differ M_blocks M_marks M_wrongs M_rights M_tells M_lastMaster M_lastCounts M_wrong v1 M_depth M_fill M_half M_pattern M_craft (0 : Int32) v2 M_length M_sent M_state M_begins M_firsts M_seconds M_bytes M_powers M_values M_logarithms M_word M_solved M_system M_forms M_elements g3 M_data M_mixer M_line) := hD.sub [15, 0, 1, 2, 3, 4, 5, 6, 7, 8, 9, 10, 11, 16, 12, 13, 14] (by decide) rfl
    refine lv_aload_n hx hb d_Mo_send_159 rfl (lv_at hl 0 rfl) ?_
    refine va_get (D := D) (ci := 11) (v := .int M_length) (C := "DeepChannelModel") (T := fT_Mo) (N := 40) hx hb hts u_Mo hown hK hP 0 rfl rfl 19 (by decide) (hts _ k_905) (fun _ h9 => h9) rfl d_Mo_send_160 ?_
    cases hm
    exact z_qo hQ (z_ireti hr hx hb hlocks hK hP hD hS d_Mo_send_163)
  have T116 : ∀ (n116 : Nat) (x1 : Int32) (x2 : Int32) (x3 : Int32) (M_thrown : Int32) (M_waiting : Int32) (M_master : Int32) (M_length : Int32) (M_sent : Int32) (M_state : Int32) (M_bytes : Nat → Int32) (M_values : Nat → Int32) (M_word : Nat → Int32) (M_solved : Nat → Int32) (M_system : Nat → Int32) (M_counts : Nat → Int32) (M_line : Nat → Int32), f_Mo_send_116 M_depth M_fill M_pattern M_begins M_firsts M_seconds M_mixer n116 x1 x2 x3 M_thrown M_waiting M_master M_length M_sent M_state M_bytes M_values M_word M_solved M_system M_counts M_line = some (rr, M_thrown', M_waiting', M_master', M_length', M_sent', M_state', M_bytes', M_values', M_word', M_solved', M_system', M_counts', M_line') → ∀ (H : Heap) (locs : List Loc), va_P D classes (w_Mo_send cI cJ qM qM_begins qM_firsts qM_seconds qM_bytes qM_powers qM_values qM_logarithms qM_word qM_solved qM_system qM_forms qM_elements qM_counts qM_data qM_mixer qM_line M_places M_least M_row M_rowSize M_differ M_blocks M_marks M_wrongs M_rights M_tells M_lastMaster M_lastCounts M_wrong M_thrown M_depth M_fill M_half M_pattern M_craft M_waiting M_master M_length M_sent M_state M_begins M_firsts M_seconds M_bytes M_powers M_values M_logarithms M_word M_solved M_system M_forms M_elements M_counts M_data M_mixer M_line) H → va_D A (w_Mo_send cI cJ qM qM_begins qM_firsts qM_seconds qM_bytes qM_powers qM_values qM_logarithms qM_word qM_solved qM_system qM_forms qM_elements qM_counts qM_data qM_mixer qM_line M_places M_least M_row M_rowSize M_differ M_blocks M_marks M_wrongs M_rights M_tells M_lastMaster M_lastCounts M_wrong M_thrown M_depth M_fill M_half M_pattern M_craft M_waiting M_master M_length M_sent M_state M_begins M_firsts M_seconds M_bytes M_powers M_values M_logarithms M_word M_solved M_system M_forms M_elements M_counts M_data M_mixer M_line) → va_S A s.heap H locs → ∀ (ls : Array Slot), lv_has ls 4 [(0, .ref qM), (1, .int x1), (2, .int x2), (3, .int x3)] → W p l e (RM 4 99) s m args below meth c H locs 0 0 Q0 (F0 m 116 ls []) := by
    intro n116
    induction n116 with
    | zero => intro x1 x2 x3 M_thrown M_waiting M_master M_length M_sent M_state M_bytes M_values M_word M_solved M_system M_counts M_line hm; cases hm
    | succ n116 ih116 =>
      intro x1 x2 x3 M_thrown M_waiting M_master M_length M_sent M_state M_bytes M_values M_word M_solved M_system M_counts M_line hm H locs hP hD hS ls hl
      replace hm : f_Mo_send_116_b M_depth M_fill M_pattern M_begins M_firsts M_seconds M_mixer (f_Mo_send_116 M_depth M_fill M_pattern M_begins M_firsts M_seconds M_mixer n116) x1 x2 x3 M_thrown M_waiting M_master M_length M_sent M_state M_bytes M_values M_word M_solved M_system M_counts M_line = some (rr, M_thrown', M_waiting', M_master', M_length', M_sent', M_state', M_bytes', M_values', M_word', M_solved', M_system', M_counts', M_line') := hm
      unfold f_Mo_send_116_b at hm
      refine lv_iload_n hx hb d_Mo_send_116 rfl (lv_at hl 3 rfl) ?_
      refine lv_aload_n hx hb d_Mo_send_117 rfl (lv_at hl 0 rfl) ?_
      obtain ⟨r5, hu, hm⟩ := bd_el hm
      replace hm := nm_1 hm
      refine z_cVi (wc := w_Mo_blockSize cI cJ qM (.int M_thrown) (.int M_half) (.int M_pattern) (.int M_craft) (.ref qM_begins) (.ref qM_firsts) (.ref qM_seconds) (.ref qM_powers) (.ref qM_logarithms) (.ref qM_forms) (.ref qM_elements) (.ref qM_mixer) (.ref qM_data) (.int M_waiting) (.int M_master) (.ref qM_counts) (.ref qM_line) (.int M_length) (.int M_sent) (.int M_state) M_places M_least M_row M_rowSize M_differ M_blocks M_marks M_wrongs (.ref qM_bytes) M_rights M_tells M_lastMaster M_lastCounts (.ref qM_word) (.ref qM_values) (.ref qM_system) (.ref qM_solved) M_wrong M_depth M_fill) (wc' := w_Mo_blockSize cI cJ qM (.int M_thrown) (.int M_half) (.int M_pattern) (.int M_craft) (.ref qM_begins) (.ref qM_firsts) (.ref qM_seconds) (.ref qM_powers) (.ref qM_logarithms) (.ref qM_forms) (.ref qM_elements) (.ref qM_mixer) (.ref qM_data) (.int M_waiting) (.int M_master) (.ref qM_counts) (.ref qM_line) (.int M_length) (.int M_sent) (.int M_state) M_places M_least M_row M_rowSize M_differ M_blocks M_marks M_wrongs (.ref qM_bytes) M_rights M_tells M_lastMaster M_lastCounts (.ref qM_word) (.ref qM_values) (.ref qM_system) (.ref qM_solved) M_wrong M_depth M_fill) (wr := [(qM_begins, .inl (cI, 6, .inl M_begins)), (qM_firsts, .inl (cI, 18, .inl M_firsts)), (qM_seconds, .inl (cI, 18, .inl M_seconds)), (qM_bytes, .inl (cI, 4000, .inl M_bytes)), (qM_powers, .inl (cI, 255, .inl M_powers)), (qM_values, .inl (cI, 32, .inl M_values)), (qM_logarithms, .inl (cI, 256, .inl M_logarithms)), (qM_word, .inl (cI, 255, .inl M_word)), (qM_solved, .inl (cI, 32, .inl M_solved)), (qM_system, .inl (cI, 1056, .inl M_system)), (qM_forms, .inl (cI, 256, .inl M_forms)), (qM_elements, .inl (cI, 256, .inl M_elements)), (qM_counts, .inl (cI, 8, .inl M_counts)), (qM_data, .inl (cI, 250, .inl M_data)), (qM_mixer, .inl (cI, 250, .inl M_mixer)), (qM_line, .inl (cI, 4096, .inl M_line))]) (As := []) (rest := [.int x3]) (c_Mo_blockSize l D cI cJ tt qM (.int M_thrown) (.int M_half) (.int M_pattern) (.int M_craft) (.ref qM_begins) (.ref qM_firsts) (.ref qM_seconds) (.ref qM_powers) (.ref qM_logarithms) (.ref qM_forms) (.ref qM_elements) (.ref qM_mixer) (.ref qM_data) (.int M_waiting) (.int M_master) (.ref qM_counts) (.ref qM_line) (.int M_length) (.int M_sent) (.int M_state) M_places M_least M_row M_rowSize M_differ M_blocks M_marks M_wrongs (.ref qM_bytes) M_rights M_tells M_lastMaster M_lastCounts (.ref qM_word) (.ref qM_values) (.ref qM_system) (.ref qM_solved) M_wrong _ M_depth M_fill r5 hu) F ok_Mo_blockSize rfl k_1034 hK hE hP hD hS hA [0] [1, 2, 3, 4, 5, 6, 7, 8, 9, 10, 11, 12, 13, 14, 15, 16] rfl rfl (by decide) (by decide) (by decide) 0 rfl rfl rfl ⟨rfl, rfl, Nat.le_of_ble_eq_true rfl, Nat.le_of_ble_eq_true rfl⟩ ⟨Nat.zero_le _, Nat.zero_le _⟩ rfl hl.1 rfl (Nat.le_of_ble_eq_true rfl) d_Mo_send_118 (fun H locs hP hD hS => ?_)
      have hP : va_P D classes (w_Mo_send cI cJ qM qM_begins qM_firsts qM_seconds qM_bytes qM_powers qM_values qM_logarithms qM_word qM_solved qM_system qM_forms qM_elements qM_counts qM_data qM_mixer qM_line M_places M_least M_row M_rowSize M_differ M_blocks M_marks M_wrongs M_rights M_tells M_lastMaster M_lastCounts M_wrong M_thrown M_depth M_fill M_half M_pattern M_craft M_waiting M_master M_length M_sent M_state M_begins M_firsts M_seconds M_bytes M_powers M_values M_logarithms M_word M_solved M_system M_forms M_elements M_counts M_data M_mixer M_line) H := hP.sub [16, 0, 1, 2, 3, 4, 5, 6, 7, 8, 9, 10, 11, 12, 13, 14, 15] rfl
      have hD : va_D A (w_Mo_send cI cJ qM qM_begins qM_firsts qM_seconds qM_bytes qM_powers qM_values qM_logarithms qM_word qM_solved qM_system qM_forms qM_elements qM_counts qM_data qM_mixer qM_line M_places M_least M_row M_rowSize M_differ M_blocks M_marks M_wrongs M_rights M_tells M_lastMaster M_lastCounts M_wrong M_thrown M_depth M_fill M_half M_pattern M_craft M_waiting M_master M_length M_sent M_state M_begins M_firsts M_seconds M_bytes M_powers M_values M_logarithms M_word M_solved M_system M_forms M_elements M_counts M_data M_mixer M_line) := hD.sub [16, 0, 1, 2, 3, 4, 5, 6, 7, 8, 9, 10, 11, 12, 13, 14, 15] (by decide) rfl
      refine z_if hm (lv_icmp_ge (tgt := 149) hx hb d_Mo_send_121 (by decide)) (fun hm => ?_) (fun hm => ?_)
      · exact T149 x1 M_thrown M_waiting M_master M_length M_sent M_state M_bytes M_values M_word M_solved M_system M_counts M_line hm _ _ hP hD hS _ (lv_sub hl [0, 1] rfl)
      · refine lv_aload_n hx hb d_Mo_send_124 rfl (lv_at hl 0 rfl) ?_
        refine lv_aload_n hx hb d_Mo_send_125 rfl (lv_at hl 0 rfl) ?_
        refine va_get (D := D) (ci := 11) (v := .ref qM_bytes) (C := "DeepChannelModel") (T := fT_Mo) (N := 40) hx hb hts u_Mo hown hK hP 0 rfl rfl 30 (by decide) (hts _ k_916) (fun _ h9 => h9) rfl d_Mo_send_126 ?_
        refine lv_iload_n hx hb d_Mo_send_129 rfl (lv_at hl 2 rfl) ?_
        refine lv_iload_n hx hb d_Mo_send_130 rfl (lv_at hl 3 rfl) ?_
        refine lv_iadd hx hb d_Mo_send_131 ?_
        refine z_iald hm hx hb hK hP 4 rfl d_Mo_send_132 (fun v7 hm => ?_)
        refine lv_aload_n hx hb d_Mo_send_133 rfl (lv_at hl 0 rfl) ?_
        refine va_get (D := D) (ci := 11) (v := .ref qM_mixer) (C := "DeepChannelModel") (T := fT_Mo) (N := 40) hx hb hts u_Mo hown hK hP 0 rfl rfl 13 (by decide) (hts _ k_899) (fun _ h9 => h9) rfl d_Mo_send_134 ?_
        refine lv_iload_n hx hb d_Mo_send_137 rfl (lv_at hl 3 rfl) ?_
        refine z_iald hm hx hb hK hP 15 rfl d_Mo_send_138 (fun v8 hm => ?_)
        refine lv_ixor hx hb d_Mo_send_139 ?_
        obtain ⟨⟨v9, v10, v11, g12⟩, hu, hm⟩ := bd_el hm
        replace hm := nm_4 hm
        refine z_cVv (wc := w_Mo_sendByte cI cJ qM qM_begins qM_firsts qM_seconds qM_line (.int M_thrown) (.int M_depth) (.int M_fill) (.int M_half) (.int M_craft) (.ref qM_powers) (.ref qM_logarithms) (.ref qM_forms) (.ref qM_elements) (.ref qM_mixer) (.ref qM_data) (.int M_waiting) (.int M_master) (.ref qM_counts) M_places M_least M_row M_rowSize M_differ M_blocks M_marks M_wrongs (.ref qM_bytes) M_rights M_tells M_lastMaster M_lastCounts (.ref qM_word) (.ref qM_values) (.ref qM_system) (.ref qM_solved) M_wrong M_pattern M_length M_sent M_state M_begins M_firsts M_seconds M_line) (wc' := w_Mo_sendByte cI cJ qM qM_begins qM_firsts qM_seconds qM_line (.int M_thrown) (.int M_depth) (.int M_fill) (.int M_half) (.int M_craft) (.ref qM_powers) (.ref qM_logarithms) (.ref qM_forms) (.ref qM_elements) (.ref qM_mixer) (.ref qM_data) (.int M_waiting) (.int M_master) (.ref qM_counts) M_places M_least M_row M_rowSize M_differ M_blocks M_marks M_wrongs (.ref qM_bytes) M_rights M_tells M_lastMaster M_lastCounts (.ref qM_word) (.ref qM_values) (.ref qM_system) (.ref qM_solved) M_wrong M_pattern v9 v10 v11 M_begins M_firsts M_seconds g12) (wr := [(qM_bytes, .inl (cI, 4000, .inl M_bytes)), (qM_powers, .inl (cI, 255, .inl M_powers)), (qM_values, .inl (cI, 32, .inl M_values)), (qM_logarithms, .inl (cI, 256, .inl M_logarithms)), (qM_word, .inl (cI, 255, .inl M_word)), (qM_solved, .inl (cI, 32, .inl M_solved)), (qM_system, .inl (cI, 1056, .inl M_system)), (qM_forms, .inl (cI, 256, .inl M_forms)), (qM_elements, .inl (cI, 256, .inl M_elements)), (qM_counts, .inl (cI, 8, .inl M_counts)), (qM_data, .inl (cI, 250, .inl M_data)), (qM_mixer, .inl (cI, 250, .inl M_mixer))]) (As := [.int (v7 ^^^ v8)]) (rest := []) (c_Mo_sendByte l D cI cJ tt qM qM_begins qM_firsts qM_seconds qM_line (.int M_thrown) (.int M_depth) (.int M_fill) (.int M_half) (.int M_craft) (.ref qM_powers) (.ref qM_logarithms) (.ref qM_forms) (.ref qM_elements) (.ref qM_mixer) (.ref qM_data) (.int M_waiting) (.int M_master) (.ref qM_counts) M_places M_least M_row M_rowSize M_differ M_blocks M_marks M_wrongs (.ref qM_bytes) M_rights M_tells M_lastMaster M_lastCounts (.ref qM_word) (.ref qM_values) (.ref qM_system) (.ref qM_solved) M_wrong _ M_pattern M_length M_sent M_state M_begins M_firsts M_seconds M_line (v7 ^^^ v8) v9 v10 v11 g12 hu) F ok_Mo_sendByte rfl k_1103 hK hE hP hD hS hA [0, 1, 2, 3, 16] [4, 5, 6, 7, 8, 9, 10, 11, 12, 13, 14, 15] rfl rfl (by decide) (by decide) (by decide) 0 rfl rfl rfl ⟨rfl, rfl, Nat.le_of_ble_eq_true rfl, Nat.le_of_ble_eq_true rfl⟩ ⟨Nat.zero_le _, Nat.zero_le _⟩ rfl hl.1 rfl (Nat.le_of_ble_eq_true rfl) d_Mo_send_140 (fun H locs hP hD hS => ?_)
        have hP : va_P D classes (w_Mo_send cI cJ qM qM_begins qM_firsts qM_seconds qM_bytes qM_powers qM_values qM_logarithms qM_word qM_solved qM_system qM_forms qM_elements qM_counts qM_data qM_mixer qM_line M_places M_least M_row M_rowSize M_differ M_blocks M_marks M_wrongs M_rights M_tells M_lastMaster M_lastCounts M_wrong M_thrown M_depth M_fill M_half M_pattern M_craft M_waiting M_master v9 v10 v11 M_begins M_firsts M_seconds M_bytes M_powers M_values M_logarithms M_word M_solved M_system M_forms M_elements M_counts M_data M_mixer g12) H := hP.sub [12, 13, 14, 15, 0, 1, 2, 3, 4, 5, 6, 7, 8, 9, 10, 11, 16] rfl
        have hD : va_D A (w_Mo_send cI cJ qM qM_begins qM_firsts qM_seconds qM_bytes qM_powers qM_values qM_logarithms qM_word qM_solved qM_system qM_forms qM_elements qM_counts qM_data qM_mixer qM_line M_places M_least M_row M_rowSize M_differ M_blocks M_marks M_wrongs M_rights M_tells M_lastMaster M_lastCounts M_wrong M_thrown M_depth M_fill M_half M_pattern M_craft M_waiting M_master v9 v10 v11 M_begins M_firsts M_seconds M_bytes M_powers M_values M_logarithms M_word M_solved M_system M_forms M_elements M_counts M_data M_mixer g12) := hD.sub [12, 13, 14, 15, 0, 1, 2, 3, 4, 5, 6, 7, 8, 9, 10, 11, 16] (by decide) rfl
        obtain ⟨v14, ev, hm⟩ := nm_el hm
        refine lv_iinc (v := v14) (lv' := [(3, .int v14), (0, .ref qM), (1, .int x1), (2, .int x2)]) hx hb d_Mo_send_143 hl (k := 3) rfl (by rw [ev]; rfl) (by decide) rfl (fun ls hl => ?_)
        refine lv_goto (tgt := 116) hx hb d_Mo_send_146 (by decide) ?_
        exact ih116 x1 x2 v14 M_thrown M_waiting M_master v9 v10 v11 M_bytes M_values M_word M_solved M_system M_counts g12 hm _ _ hP hD hS _ (lv_sub hl [1, 2, 3, 0] rfl)
  have T114 : ∀ (x1 : Int32) (x2 : Int32) (M_thrown : Int32) (M_waiting : Int32) (M_master : Int32) (M_length : Int32) (M_sent : Int32) (M_state : Int32) (M_bytes : Nat → Int32) (M_values : Nat → Int32) (M_word : Nat → Int32) (M_solved : Nat → Int32) (M_system : Nat → Int32) (M_counts : Nat → Int32) (M_line : Nat → Int32), f_Mo_send_114 M_depth M_fill M_pattern M_begins M_firsts M_seconds M_mixer x1 x2 M_thrown M_waiting M_master M_length M_sent M_state M_bytes M_values M_word M_solved M_system M_counts M_line = some (rr, M_thrown', M_waiting', M_master', M_length', M_sent', M_state', M_bytes', M_values', M_word', M_solved', M_system', M_counts', M_line') → ∀ (H : Heap) (locs : List Loc), va_P D classes (w_Mo_send cI cJ qM qM_begins qM_firsts qM_seconds qM_bytes qM_powers qM_values qM_logarithms qM_word qM_solved qM_system qM_forms qM_elements qM_counts qM_data qM_mixer qM_line M_places M_least M_row M_rowSize M_differ M_blocks M_marks M_wrongs M_rights M_tells M_lastMaster M_lastCounts M_wrong M_thrown M_depth M_fill M_half M_pattern M_craft M_waiting M_master M_length M_sent M_state M_begins M_firsts M_seconds M_bytes M_powers M_values M_logarithms M_word M_solved M_system M_forms M_elements M_counts M_data M_mixer M_line) H → va_D A (w_Mo_send cI cJ qM qM_begins qM_firsts qM_seconds qM_bytes qM_powers qM_values qM_logarithms qM_word qM_solved qM_system qM_forms qM_elements qM_counts qM_data qM_mixer qM_line M_places M_least M_row M_rowSize M_differ M_blocks M_marks M_wrongs M_rights M_tells M_lastMaster M_lastCounts M_wrong M_thrown M_depth M_fill M_half M_pattern M_craft M_waiting M_master M_length M_sent M_state M_begins M_firsts M_seconds M_bytes M_powers M_values M_logarithms M_word M_solved M_system M_forms M_elements M_counts M_data M_mixer M_line) → va_S A s.heap H locs → ∀ (ls : Array Slot), lv_has ls 4 [(0, .ref qM), (1, .int x1), (2, .int x2)] → W p l e (RM 4 99) s m args below meth c H locs 0 0 Q0 (F0 m 114 ls []) := by
    intro x1 x2 M_thrown M_waiting M_master M_length M_sent M_state M_bytes M_values M_word M_solved M_system M_counts M_line hm H locs hP hD hS ls hl
    unfold f_Mo_send_114 at hm
    refine lv_iconst (v := (0 : Int32)) hx hb d_Mo_send_114 (by decide) ?_
    refine lv_istore_n (lv' := [(3, .int (0 : Int32)), (0, .ref qM), (1, .int x1), (2, .int x2)]) hx hb d_Mo_send_115 rfl hl (by decide) rfl (fun ls hl => ?_)
    exact T116 10000 x1 x2 (0 : Int32) M_thrown M_waiting M_master M_length M_sent M_state M_bytes M_values M_word M_solved M_system M_counts M_line hm _ _ hP hD hS _ (lv_sub hl [1, 2, 3, 0] rfl)
  have T89 : ∀ (n89 : Nat) (x1 : Int32) (x2 : Int32) (x3 : Int32) (M_thrown : Int32) (M_waiting : Int32) (M_master : Int32) (M_length : Int32) (M_sent : Int32) (M_state : Int32) (M_bytes : Nat → Int32) (M_values : Nat → Int32) (M_word : Nat → Int32) (M_solved : Nat → Int32) (M_system : Nat → Int32) (M_counts : Nat → Int32) (M_line : Nat → Int32), f_Mo_send_89 M_depth M_fill M_pattern M_begins M_firsts M_seconds M_mixer n89 x1 x2 x3 M_thrown M_waiting M_master M_length M_sent M_state M_bytes M_values M_word M_solved M_system M_counts M_line = some (rr, M_thrown', M_waiting', M_master', M_length', M_sent', M_state', M_bytes', M_values', M_word', M_solved', M_system', M_counts', M_line') → ∀ (H : Heap) (locs : List Loc), va_P D classes (w_Mo_send cI cJ qM qM_begins qM_firsts qM_seconds qM_bytes qM_powers qM_values qM_logarithms qM_word qM_solved qM_system qM_forms qM_elements qM_counts qM_data qM_mixer qM_line M_places M_least M_row M_rowSize M_differ M_blocks M_marks M_wrongs M_rights M_tells M_lastMaster M_lastCounts M_wrong M_thrown M_depth M_fill M_half M_pattern M_craft M_waiting M_master M_length M_sent M_state M_begins M_firsts M_seconds M_bytes M_powers M_values M_logarithms M_word M_solved M_system M_forms M_elements M_counts M_data M_mixer M_line) H → va_D A (w_Mo_send cI cJ qM qM_begins qM_firsts qM_seconds qM_bytes qM_powers qM_values qM_logarithms qM_word qM_solved qM_system qM_forms qM_elements qM_counts qM_data qM_mixer qM_line M_places M_least M_row M_rowSize M_differ M_blocks M_marks M_wrongs M_rights M_tells M_lastMaster M_lastCounts M_wrong M_thrown M_depth M_fill M_half M_pattern M_craft M_waiting M_master M_length M_sent M_state M_begins M_firsts M_seconds M_bytes M_powers M_values M_logarithms M_word M_solved M_system M_forms M_elements M_counts M_data M_mixer M_line) → va_S A s.heap H locs → ∀ (ls : Array Slot), lv_has ls 4 [(0, .ref qM), (1, .int x1), (2, .int x2), (3, .int x3)] → W p l e (RM 4 99) s m args below meth c H locs 0 0 Q0 (F0 m 89 ls []) := by
    intro n89
    induction n89 with
    | zero => intro x1 x2 x3 M_thrown M_waiting M_master M_length M_sent M_state M_bytes M_values M_word M_solved M_system M_counts M_line hm; cases hm
    | succ n89 ih89 =>
      intro x1 x2 x3 M_thrown M_waiting M_master M_length M_sent M_state M_bytes M_values M_word M_solved M_system M_counts M_line hm H locs hP hD hS ls hl
      replace hm : f_Mo_send_89_b M_depth M_fill M_pattern M_begins M_firsts M_seconds M_mixer (f_Mo_send_89 M_depth M_fill M_pattern M_begins M_firsts M_seconds M_mixer n89) x1 x2 x3 M_thrown M_waiting M_master M_length M_sent M_state M_bytes M_values M_word M_solved M_system M_counts M_line = some (rr, M_thrown', M_waiting', M_master', M_length', M_sent', M_state', M_bytes', M_values', M_word', M_solved', M_system', M_counts', M_line') := hm
      unfold f_Mo_send_89_b at hm
      refine lv_iload_n hx hb d_Mo_send_89 rfl (lv_at hl 3 rfl) ?_
      refine z_if hm (lv_if_lt (tgt := 114) hx hb d_Mo_send_90 (by decide)) (fun hm => ?_) (fun hm => ?_)
      · exact T114 x1 x2 M_thrown M_waiting M_master M_length M_sent M_state M_bytes M_values M_word M_solved M_system M_counts M_line hm _ _ hP hD hS _ (lv_sub hl [0, 1, 2] rfl)
      · refine lv_aload_n hx hb d_Mo_send_93 rfl (lv_at hl 0 rfl) ?_
        refine lv_ldc (v := (449838109 : Int32)) hx hb hown (hts _ k_1102) d_Mo_send_94 ?_
        refine lv_bipush (v := (8 : Int32)) hx hb d_Mo_send_96 (by decide) ?_
        refine lv_iload_n hx hb d_Mo_send_98 rfl (lv_at hl 3 rfl) ?_
        refine lv_imul hx hb d_Mo_send_99 ?_
        refine lv_ishr hx hb d_Mo_send_100 ?_
        refine lv_sipush (v := (255 : Int32)) hx hb d_Mo_send_101 (by decide) ?_
        refine lv_iand hx hb d_Mo_send_104 ?_
        obtain ⟨⟨v15, v16, v17, g18⟩, hu, hm⟩ := bd_el hm
        replace hm := nm_4 hm
        refine z_cVv (wc := w_Mo_sendByte cI cJ qM qM_begins qM_firsts qM_seconds qM_line (.int M_thrown) (.int M_depth) (.int M_fill) (.int M_half) (.int M_craft) (.ref qM_powers) (.ref qM_logarithms) (.ref qM_forms) (.ref qM_elements) (.ref qM_mixer) (.ref qM_data) (.int M_waiting) (.int M_master) (.ref qM_counts) M_places M_least M_row M_rowSize M_differ M_blocks M_marks M_wrongs (.ref qM_bytes) M_rights M_tells M_lastMaster M_lastCounts (.ref qM_word) (.ref qM_values) (.ref qM_system) (.ref qM_solved) M_wrong M_pattern M_length M_sent M_state M_begins M_firsts M_seconds M_line) (wc' := w_Mo_sendByte cI cJ qM qM_begins qM_firsts qM_seconds qM_line (.int M_thrown) (.int M_depth) (.int M_fill) (.int M_half) (.int M_craft) (.ref qM_powers) (.ref qM_logarithms) (.ref qM_forms) (.ref qM_elements) (.ref qM_mixer) (.ref qM_data) (.int M_waiting) (.int M_master) (.ref qM_counts) M_places M_least M_row M_rowSize M_differ M_blocks M_marks M_wrongs (.ref qM_bytes) M_rights M_tells M_lastMaster M_lastCounts (.ref qM_word) (.ref qM_values) (.ref qM_system) (.ref qM_solved) M_wrong M_pattern v15 v16 v17 M_begins M_firsts M_seconds g18) (wr := [(qM_bytes, .inl (cI, 4000, .inl M_bytes)), (qM_powers, .inl (cI, 255, .inl M_powers)), (qM_values, .inl (cI, 32, .inl M_values)), (qM_logarithms, .inl (cI, 256, .inl M_logarithms)), (qM_word, .inl (cI, 255, .inl M_word)), (qM_solved, .inl (cI, 32, .inl M_solved)), (qM_system, .inl (cI, 1056, .inl M_system)), (qM_forms, .inl (cI, 256, .inl M_forms)), (qM_elements, .inl (cI, 256, .inl M_elements)), (qM_counts, .inl (cI, 8, .inl M_counts)), (qM_data, .inl (cI, 250, .inl M_data)), (qM_mixer, .inl (cI, 250, .inl M_mixer))]) (As := [.int (((449838109 : Int32) >>> (((8 : Int32) * x3) &&& 31)) &&& (255 : Int32))]) (rest := []) (c_Mo_sendByte l D cI cJ tt qM qM_begins qM_firsts qM_seconds qM_line (.int M_thrown) (.int M_depth) (.int M_fill) (.int M_half) (.int M_craft) (.ref qM_powers) (.ref qM_logarithms) (.ref qM_forms) (.ref qM_elements) (.ref qM_mixer) (.ref qM_data) (.int M_waiting) (.int M_master) (.ref qM_counts) M_places M_least M_row M_rowSize M_differ M_blocks M_marks M_wrongs (.ref qM_bytes) M_rights M_tells M_lastMaster M_lastCounts (.ref qM_word) (.ref qM_values) (.ref qM_system) (.ref qM_solved) M_wrong _ M_pattern M_length M_sent M_state M_begins M_firsts M_seconds M_line (((449838109 : Int32) >>> (((8 : Int32) * x3) &&& 31)) &&& (255 : Int32)) v15 v16 v17 g18 hu) F ok_Mo_sendByte rfl k_1103 hK hE hP hD hS hA [0, 1, 2, 3, 16] [4, 5, 6, 7, 8, 9, 10, 11, 12, 13, 14, 15] rfl rfl (by decide) (by decide) (by decide) 0 rfl rfl rfl ⟨rfl, rfl, Nat.le_of_ble_eq_true rfl, Nat.le_of_ble_eq_true rfl⟩ ⟨Nat.zero_le _, Nat.zero_le _⟩ rfl hl.1 rfl (Nat.le_of_ble_eq_true rfl) d_Mo_send_105 (fun H locs hP hD hS => ?_)
        have hP : va_P D classes (w_Mo_send cI cJ qM qM_begins qM_firsts qM_seconds qM_bytes qM_powers qM_values qM_logarithms qM_word qM_solved qM_system qM_forms qM_elements qM_counts qM_data qM_mixer qM_line M_places M_least M_row M_rowSize M_differ M_blocks M_marks M_wrongs M_rights M_tells M_lastMaster M_lastCounts M_wrong M_thrown M_depth M_fill M_half M_pattern M_craft M_waiting M_master v15 v16 v17 M_begins M_firsts M_seconds M_bytes M_powers M_values M_logarithms M_word M_solved M_system M_forms M_elements M_counts M_data M_mixer g18) H := hP.sub [12, 13, 14, 15, 0, 1, 2, 3, 4, 5, 6, 7, 8, 9, 10, 11, 16] rfl
        have hD : va_D A (w_Mo_send cI cJ qM qM_begins qM_firsts qM_seconds qM_bytes qM_powers qM_values qM_logarithms qM_word qM_solved qM_system qM_forms qM_elements qM_counts qM_data qM_mixer qM_line M_places M_least M_row M_rowSize M_differ M_blocks M_marks M_wrongs M_rights M_tells M_lastMaster M_lastCounts M_wrong M_thrown M_depth M_fill M_half M_pattern M_craft M_waiting M_master v15 v16 v17 M_begins M_firsts M_seconds M_bytes M_powers M_values M_logarithms M_word M_solved M_system M_forms M_elements M_counts M_data M_mixer g18) := hD.sub [12, 13, 14, 15, 0, 1, 2, 3, 4, 5, 6, 7, 8, 9, 10, 11, 16] (by decide) rfl
        obtain ⟨v20, ev, hm⟩ := nm_el hm
        refine lv_iinc (v := v20) (lv' := [(3, .int v20), (0, .ref qM), (1, .int x1), (2, .int x2)]) hx hb d_Mo_send_108 hl (k := 3) rfl (by rw [ev]; rfl) (by decide) rfl (fun ls hl => ?_)
        refine lv_goto (tgt := 89) hx hb d_Mo_send_111 (by decide) ?_
        exact ih89 x1 x2 v20 M_thrown M_waiting M_master v15 v16 v17 M_bytes M_values M_word M_solved M_system M_counts g18 hm _ _ hP hD hS _ (lv_sub hl [1, 2, 3, 0] rfl)
  have T34 : ∀ (x1 : Int32) (t1 : Int32) (M_thrown : Int32) (M_waiting : Int32) (M_master : Int32) (M_length : Int32) (M_sent : Int32) (M_state : Int32) (M_bytes : Nat → Int32) (M_values : Nat → Int32) (M_word : Nat → Int32) (M_solved : Nat → Int32) (M_system : Nat → Int32) (M_counts : Nat → Int32) (M_line : Nat → Int32), f_Mo_send_34 M_depth M_fill M_half M_pattern M_craft M_begins M_firsts M_seconds M_powers M_logarithms M_forms M_elements M_data M_mixer x1 t1 M_thrown M_waiting M_master M_length M_sent M_state M_bytes M_values M_word M_solved M_system M_counts M_line = some (rr, M_thrown', M_waiting', M_master', M_length', M_sent', M_state', M_bytes', M_values', M_word', M_solved', M_system', M_counts', M_line') → ∀ (H : Heap) (locs : List Loc), va_P D classes (w_Mo_send cI cJ qM qM_begins qM_firsts qM_seconds qM_bytes qM_powers qM_values qM_logarithms qM_word qM_solved qM_system qM_forms qM_elements qM_counts qM_data qM_mixer qM_line M_places M_least M_row M_rowSize M_differ M_blocks M_marks M_wrongs M_rights M_tells M_lastMaster M_lastCounts M_wrong M_thrown M_depth M_fill M_half M_pattern M_craft M_waiting M_master M_length M_sent M_state M_begins M_firsts M_seconds M_bytes M_powers M_values M_logarithms M_word M_solved M_system M_forms M_elements M_counts M_data M_mixer M_line) H → va_D A (w_Mo_send cI cJ qM qM_begins qM_firsts qM_seconds qM_bytes qM_powers qM_values qM_logarithms qM_word qM_solved qM_system qM_forms qM_elements qM_counts qM_data qM_mixer qM_line M_places M_least M_row M_rowSize M_differ M_blocks M_marks M_wrongs M_rights M_tells M_lastMaster M_lastCounts M_wrong M_thrown M_depth M_fill M_half M_pattern M_craft M_waiting M_master M_length M_sent M_state M_begins M_firsts M_seconds M_bytes M_powers M_values M_logarithms M_word M_solved M_system M_forms M_elements M_counts M_data M_mixer M_line) → va_S A s.heap H locs → ∀ (ls : Array Slot), lv_has ls 4 [(0, .ref qM), (1, .int x1)] → W p l e (RM 4 99) s m args below meth c H locs 0 0 Q0 (F0 m 34 ls [.int t1, .ref qM]) := by
    intro x1 t1 M_thrown M_waiting M_master M_length M_sent M_state M_bytes M_values M_word M_solved M_system M_counts M_line hm H locs hP hD hS ls hl
    unfold f_Mo_send_34 at hm
    refine va_put (D := D) (ci := 11) (v := .int t1) (ty := .int) (C := "DeepChannelModel") (T := fT_Mo) (N := 40) hx hb hts u_Mo fY_Mo fK_Mo fN_Mo hown hK hP hD hS 0 rfl rfl 0 (by decide) (hts _ k_886) (fun _ h9 => h9) rfl (by decide +kernel) rfl rfl (Nat.le_of_ble_eq_true rfl) d_Mo_send_34 (fun H locs hP hD hS => ?_)
    have hP : va_P D classes (w_Mo_send cI cJ qM qM_begins qM_firsts qM_seconds qM_bytes qM_powers qM_values qM_logarithms qM_word qM_solved qM_system qM_forms qM_elements qM_counts qM_data qM_mixer qM_line M_places M_least M_row M_rowSize M_differ M_blocks M_marks M_wrongs M_rights M_tells M_lastMaster M_lastCounts M_wrong t1 M_depth M_fill M_half M_pattern M_craft M_waiting M_master M_length M_sent M_state M_begins M_firsts M_seconds M_bytes M_powers M_values M_logarithms M_word M_solved M_system M_forms M_elements M_counts M_data M_mixer M_line) H := hP
    have hD : va_D A (w_Mo_send cI cJ qM qM_begins qM_firsts qM_seconds qM_bytes qM_powers qM_values qM_logarithms qM_word qM_solved qM_system qM_forms qM_elements qM_counts qM_data qM_mixer qM_line M_places M_least M_row M_rowSize M_differ M_blocks M_marks M_wrongs M_rights M_tells M_lastMaster M_lastCounts M_wrong t1 M_depth M_fill M_half M_pattern M_craft M_waiting M_master M_length M_sent M_state M_begins M_firsts M_seconds M_bytes M_powers M_values M_logarithms M_word M_solved M_system M_forms M_elements M_counts M_data M_mixer M_line) := hD
    refine lv_aload_n hx hb d_Mo_send_37 rfl (lv_at hl 0 rfl) ?_
    refine va_get (D := D) (ci := 11) (v := .int t1) (C := "DeepChannelModel") (T := fT_Mo) (N := 40) hx hb hts u_Mo hown hK hP 0 rfl rfl 0 (by decide) (hts _ k_886) (fun _ h9 => h9) rfl d_Mo_send_38 ?_
    refine z_if hm (lv_if_le (tgt := 46) hx hb d_Mo_send_41 (by decide)) (fun hm => ?_) (fun hm => ?_)
    · refine lv_aload_n hx hb d_Mo_send_46 rfl (lv_at hl 0 rfl) ?_
      refine va_get (D := D) (ci := 11) (v := .int M_length) (C := "DeepChannelModel") (T := fT_Mo) (N := 40) hx hb hts u_Mo hown hK hP 0 rfl rfl 19 (by decide) (hts _ k_905) (fun _ h9 => h9) rfl d_Mo_send_47 ?_
      refine lv_aload_n hx hb d_Mo_send_50 rfl (lv_at hl 0 rfl) ?_
      refine lv_aload_n hx hb d_Mo_send_51 rfl (lv_at hl 0 rfl) ?_
      refine va_get (D := D) (ci := 11) (v := .int M_sent) (C := "DeepChannelModel") (T := fT_Mo) (N := 40) hx hb hts u_Mo hown hK hP 0 rfl rfl 20 (by decide) (hts _ k_906) (fun _ h9 => h9) rfl d_Mo_send_52 ?_
      refine lv_bipush (v := (32 : Int32)) hx hb d_Mo_send_55 (by decide) ?_
      refine lv_bipush (v := (8 : Int32)) hx hb d_Mo_send_57 (by decide) ?_
      refine lv_aload_n hx hb d_Mo_send_59 rfl (lv_at hl 0 rfl) ?_
      obtain ⟨r21, hu, hm⟩ := bd_el hm
      replace hm := nm_1 hm
      refine z_cVi (wc := w_Mo_blockSize cI cJ qM (.int t1) (.int M_half) (.int M_pattern) (.int M_craft) (.ref qM_begins) (.ref qM_firsts) (.ref qM_seconds) (.ref qM_powers) (.ref qM_logarithms) (.ref qM_forms) (.ref qM_elements) (.ref qM_mixer) (.ref qM_data) (.int M_waiting) (.int M_master) (.ref qM_counts) (.ref qM_line) (.int M_length) (.int M_sent) (.int M_state) M_places M_least M_row M_rowSize M_differ M_blocks M_marks M_wrongs (.ref qM_bytes) M_rights M_tells M_lastMaster M_lastCounts (.ref qM_word) (.ref qM_values) (.ref qM_system) (.ref qM_solved) M_wrong M_depth M_fill) (wc' := w_Mo_blockSize cI cJ qM (.int t1) (.int M_half) (.int M_pattern) (.int M_craft) (.ref qM_begins) (.ref qM_firsts) (.ref qM_seconds) (.ref qM_powers) (.ref qM_logarithms) (.ref qM_forms) (.ref qM_elements) (.ref qM_mixer) (.ref qM_data) (.int M_waiting) (.int M_master) (.ref qM_counts) (.ref qM_line) (.int M_length) (.int M_sent) (.int M_state) M_places M_least M_row M_rowSize M_differ M_blocks M_marks M_wrongs (.ref qM_bytes) M_rights M_tells M_lastMaster M_lastCounts (.ref qM_word) (.ref qM_values) (.ref qM_system) (.ref qM_solved) M_wrong M_depth M_fill) (wr := [(qM_begins, .inl (cI, 6, .inl M_begins)), (qM_firsts, .inl (cI, 18, .inl M_firsts)), (qM_seconds, .inl (cI, 18, .inl M_seconds)), (qM_bytes, .inl (cI, 4000, .inl M_bytes)), (qM_powers, .inl (cI, 255, .inl M_powers)), (qM_values, .inl (cI, 32, .inl M_values)), (qM_logarithms, .inl (cI, 256, .inl M_logarithms)), (qM_word, .inl (cI, 255, .inl M_word)), (qM_solved, .inl (cI, 32, .inl M_solved)), (qM_system, .inl (cI, 1056, .inl M_system)), (qM_forms, .inl (cI, 256, .inl M_forms)), (qM_elements, .inl (cI, 256, .inl M_elements)), (qM_counts, .inl (cI, 8, .inl M_counts)), (qM_data, .inl (cI, 250, .inl M_data)), (qM_mixer, .inl (cI, 250, .inl M_mixer)), (qM_line, .inl (cI, 4096, .inl M_line))]) (As := []) (rest := [.int (8 : Int32), .int (32 : Int32), .int M_sent, .ref qM, .int M_length]) (c_Mo_blockSize l D cI cJ tt qM (.int t1) (.int M_half) (.int M_pattern) (.int M_craft) (.ref qM_begins) (.ref qM_firsts) (.ref qM_seconds) (.ref qM_powers) (.ref qM_logarithms) (.ref qM_forms) (.ref qM_elements) (.ref qM_mixer) (.ref qM_data) (.int M_waiting) (.int M_master) (.ref qM_counts) (.ref qM_line) (.int M_length) (.int M_sent) (.int M_state) M_places M_least M_row M_rowSize M_differ M_blocks M_marks M_wrongs (.ref qM_bytes) M_rights M_tells M_lastMaster M_lastCounts (.ref qM_word) (.ref qM_values) (.ref qM_system) (.ref qM_solved) M_wrong _ M_depth M_fill r21 hu) F ok_Mo_blockSize rfl k_1034 hK hE hP hD hS hA [0] [1, 2, 3, 4, 5, 6, 7, 8, 9, 10, 11, 12, 13, 14, 15, 16] rfl rfl (by decide) (by decide) (by decide) 0 rfl rfl rfl ⟨rfl, rfl, Nat.le_of_ble_eq_true rfl, Nat.le_of_ble_eq_true rfl⟩ ⟨Nat.zero_le _, Nat.zero_le _⟩ rfl hl.1 rfl (Nat.le_of_ble_eq_true rfl) d_Mo_send_60 (fun H locs hP hD hS => ?_)
      have hP : va_P D classes (w_Mo_send cI cJ qM qM_begins qM_firsts qM_seconds qM_bytes qM_powers qM_values qM_logarithms qM_word qM_solved qM_system qM_forms qM_elements qM_counts qM_data qM_mixer qM_line M_places M_least M_row M_rowSize M_differ M_blocks M_marks M_wrongs M_rights M_tells M_lastMaster M_lastCounts M_wrong t1 M_depth M_fill M_half M_pattern M_craft M_waiting M_master M_length M_sent M_state M_begins M_firsts M_seconds M_bytes M_powers M_values M_logarithms M_word M_solved M_system M_forms M_elements M_counts M_data M_mixer M_line) H := hP.sub [16, 0, 1, 2, 3, 4, 5, 6, 7, 8, 9, 10, 11, 12, 13, 14, 15] rfl
      have hD : va_D A (w_Mo_send cI cJ qM qM_begins qM_firsts qM_seconds qM_bytes qM_powers qM_values qM_logarithms qM_word qM_solved qM_system qM_forms qM_elements qM_counts qM_data qM_mixer qM_line M_places M_least M_row M_rowSize M_differ M_blocks M_marks M_wrongs M_rights M_tells M_lastMaster M_lastCounts M_wrong t1 M_depth M_fill M_half M_pattern M_craft M_waiting M_master M_length M_sent M_state M_begins M_firsts M_seconds M_bytes M_powers M_values M_logarithms M_word M_solved M_system M_forms M_elements M_counts M_data M_mixer M_line) := hD.sub [16, 0, 1, 2, 3, 4, 5, 6, 7, 8, 9, 10, 11, 12, 13, 14, 15] (by decide) rfl
      refine lv_imul hx hb d_Mo_send_63 ?_
      refine lv_iadd hx hb d_Mo_send_64 ?_
      obtain ⟨r23, hu, hm⟩ := bd_el hm
      replace hm := nm_1 hm
      refine z_cVi (wc := w_Mo_linesOf cI cJ qM qM_begins qM_firsts qM_seconds (.int t1) (.int M_depth) (.int M_fill) (.int M_half) (.int M_craft) (.ref qM_powers) (.ref qM_logarithms) (.ref qM_forms) (.ref qM_elements) (.ref qM_mixer) (.ref qM_data) (.int M_waiting) (.int M_master) (.ref qM_counts) (.ref qM_line) (.int M_length) (.int M_sent) (.int M_state) M_places M_least M_row M_rowSize M_differ M_blocks M_marks M_wrongs (.ref qM_bytes) M_rights M_tells M_lastMaster M_lastCounts (.ref qM_word) (.ref qM_values) (.ref qM_system) (.ref qM_solved) M_wrong M_pattern M_begins M_firsts M_seconds) (wc' := w_Mo_linesOf cI cJ qM qM_begins qM_firsts qM_seconds (.int t1) (.int M_depth) (.int M_fill) (.int M_half) (.int M_craft) (.ref qM_powers) (.ref qM_logarithms) (.ref qM_forms) (.ref qM_elements) (.ref qM_mixer) (.ref qM_data) (.int M_waiting) (.int M_master) (.ref qM_counts) (.ref qM_line) (.int M_length) (.int M_sent) (.int M_state) M_places M_least M_row M_rowSize M_differ M_blocks M_marks M_wrongs (.ref qM_bytes) M_rights M_tells M_lastMaster M_lastCounts (.ref qM_word) (.ref qM_values) (.ref qM_system) (.ref qM_solved) M_wrong M_pattern M_begins M_firsts M_seconds) (wr := [(qM_bytes, .inl (cI, 4000, .inl M_bytes)), (qM_powers, .inl (cI, 255, .inl M_powers)), (qM_values, .inl (cI, 32, .inl M_values)), (qM_logarithms, .inl (cI, 256, .inl M_logarithms)), (qM_word, .inl (cI, 255, .inl M_word)), (qM_solved, .inl (cI, 32, .inl M_solved)), (qM_system, .inl (cI, 1056, .inl M_system)), (qM_forms, .inl (cI, 256, .inl M_forms)), (qM_elements, .inl (cI, 256, .inl M_elements)), (qM_counts, .inl (cI, 8, .inl M_counts)), (qM_data, .inl (cI, 250, .inl M_data)), (qM_mixer, .inl (cI, 250, .inl M_mixer)), (qM_line, .inl (cI, 4096, .inl M_line))]) (As := [.int M_sent, .int ((32 : Int32) + ((8 : Int32) * r21))]) (rest := [.int M_length]) (c_Mo_linesOf l D cI cJ tt qM qM_begins qM_firsts qM_seconds (.int t1) (.int M_depth) (.int M_fill) (.int M_half) (.int M_craft) (.ref qM_powers) (.ref qM_logarithms) (.ref qM_forms) (.ref qM_elements) (.ref qM_mixer) (.ref qM_data) (.int M_waiting) (.int M_master) (.ref qM_counts) (.ref qM_line) (.int M_length) (.int M_sent) (.int M_state) M_places M_least M_row M_rowSize M_differ M_blocks M_marks M_wrongs (.ref qM_bytes) M_rights M_tells M_lastMaster M_lastCounts (.ref qM_word) (.ref qM_values) (.ref qM_system) (.ref qM_solved) M_wrong _ M_pattern M_begins M_firsts M_seconds M_sent ((32 : Int32) + ((8 : Int32) * r21)) r23 hu) F ok_Mo_linesOf rfl k_1047 hK hE hP hD hS hA [0, 1, 2, 3] [4, 5, 6, 7, 8, 9, 10, 11, 12, 13, 14, 15, 16] rfl rfl (by decide) (by decide) (by decide) 0 rfl rfl rfl ⟨rfl, rfl, Nat.le_of_ble_eq_true rfl, Nat.le_of_ble_eq_true rfl⟩ ⟨Nat.zero_le _, Nat.zero_le _⟩ rfl hl.1 rfl (Nat.le_of_ble_eq_true rfl) d_Mo_send_65 (fun H locs hP hD hS => ?_)
      have hP : va_P D classes (w_Mo_send cI cJ qM qM_begins qM_firsts qM_seconds qM_bytes qM_powers qM_values qM_logarithms qM_word qM_solved qM_system qM_forms qM_elements qM_counts qM_data qM_mixer qM_line M_places M_least M_row M_rowSize M_differ M_blocks M_marks M_wrongs M_rights M_tells M_lastMaster M_lastCounts M_wrong t1 M_depth M_fill M_half M_pattern M_craft M_waiting M_master M_length M_sent M_state M_begins M_firsts M_seconds M_bytes M_powers M_values M_logarithms M_word M_solved M_system M_forms M_elements M_counts M_data M_mixer M_line) H := hP.sub [13, 14, 15, 16, 0, 1, 2, 3, 4, 5, 6, 7, 8, 9, 10, 11, 12] rfl
      have hD : va_D A (w_Mo_send cI cJ qM qM_begins qM_firsts qM_seconds qM_bytes qM_powers qM_values qM_logarithms qM_word qM_solved qM_system qM_forms qM_elements qM_counts qM_data qM_mixer qM_line M_places M_least M_row M_rowSize M_differ M_blocks M_marks M_wrongs M_rights M_tells M_lastMaster M_lastCounts M_wrong t1 M_depth M_fill M_half M_pattern M_craft M_waiting M_master M_length M_sent M_state M_begins M_firsts M_seconds M_bytes M_powers M_values M_logarithms M_word M_solved M_system M_forms M_elements M_counts M_data M_mixer M_line) := hD.sub [13, 14, 15, 16, 0, 1, 2, 3, 4, 5, 6, 7, 8, 9, 10, 11, 12] (by decide) rfl
      refine lv_iadd hx hb d_Mo_send_68 ?_
      refine lv_sipush (v := (4096 : Int32)) hx hb d_Mo_send_69 (by decide) ?_
      refine z_if hm (lv_icmp_le (tgt := 77) hx hb d_Mo_send_72 (by decide)) (fun hm => ?_) (fun hm => ?_)
      · refine lv_sipush (v := (3750 : Int32)) hx hb d_Mo_send_77 (by decide) ?_
        refine lv_istore_n (lv' := [(2, .int (3750 : Int32)), (0, .ref qM), (1, .int x1)]) hx hb d_Mo_send_80 rfl hl (by decide) rfl (fun ls hl => ?_)
        refine lv_aload_n hx hb d_Mo_send_81 rfl (lv_at hl 1 rfl) ?_
        refine lv_iload_n hx hb d_Mo_send_82 rfl (lv_at hl 0 rfl) ?_
        refine lv_iload_n hx hb d_Mo_send_83 rfl (lv_at hl 2 rfl) ?_
        obtain ⟨⟨g25, g26, g27, g28, g29⟩, hu, hm⟩ := bd_el hm
        replace hm := nm_5 hm
        refine z_cVv (wc := w_Mo_lay cI cJ qM qM_bytes qM_powers qM_values qM_logarithms qM_word qM_solved qM_system qM_forms qM_elements qM_counts qM_data (.int t1) (.int M_pattern) (.ref qM_begins) (.ref qM_firsts) (.ref qM_seconds) (.ref qM_mixer) (.int M_waiting) (.ref qM_line) (.int M_length) (.int M_sent) (.int M_state) M_places M_least M_row M_rowSize M_differ M_blocks M_marks M_wrongs M_rights M_tells M_lastMaster M_lastCounts M_wrong M_depth M_fill M_half M_craft M_master M_bytes M_powers M_values M_logarithms M_word M_solved M_system M_forms M_elements M_counts M_data) (wc' := w_Mo_lay cI cJ qM qM_bytes qM_powers qM_values qM_logarithms qM_word qM_solved qM_system qM_forms qM_elements qM_counts qM_data (.int t1) (.int M_pattern) (.ref qM_begins) (.ref qM_firsts) (.ref qM_seconds) (.ref qM_mixer) (.int M_waiting) (.ref qM_line) (.int M_length) (.int M_sent) (.int M_state) M_places M_least M_row M_rowSize M_differ M_blocks M_marks M_wrongs M_rights M_tells M_lastMaster M_lastCounts M_wrong M_depth M_fill M_half M_craft M_master g25 M_powers g26 M_logarithms g27 g28 g29 M_forms M_elements M_counts M_data) (wr := [(qM_begins, .inl (cI, 6, .inl M_begins)), (qM_firsts, .inl (cI, 18, .inl M_firsts)), (qM_seconds, .inl (cI, 18, .inl M_seconds)), (qM_mixer, .inl (cI, 250, .inl M_mixer)), (qM_line, .inl (cI, 4096, .inl M_line))]) (As := [.int (3750 : Int32), .int x1]) (rest := []) (c_Mo_lay l D cI cJ tt qM qM_bytes qM_powers qM_values qM_logarithms qM_word qM_solved qM_system qM_forms qM_elements qM_counts qM_data (.int t1) (.int M_pattern) (.ref qM_begins) (.ref qM_firsts) (.ref qM_seconds) (.ref qM_mixer) (.int M_waiting) (.ref qM_line) (.int M_length) (.int M_sent) (.int M_state) M_places M_least M_row M_rowSize M_differ M_blocks M_marks M_wrongs M_rights M_tells M_lastMaster M_lastCounts M_wrong _ M_depth M_fill M_half M_craft M_master M_bytes M_powers M_values M_logarithms M_word M_solved M_system M_forms M_elements M_counts M_data (3750 : Int32) x1 g25 g26 g27 g28 g29 hu) F ok_Mo_lay rfl k_1066 hK hE hP hD hS hA [0, 4, 5, 6, 7, 8, 9, 10, 11, 12, 13, 14] [1, 2, 3, 15, 16] rfl rfl (by decide) (by decide) (by decide) 0 rfl rfl rfl ⟨rfl, rfl, Nat.le_of_ble_eq_true rfl, Nat.le_of_ble_eq_true rfl⟩ ⟨Nat.zero_le _, Nat.zero_le _⟩ rfl hl.1 rfl (Nat.le_of_ble_eq_true rfl) d_Mo_send_84 (fun H locs hP hD hS => ?_)
        have hP : va_P D classes (w_Mo_send cI cJ qM qM_begins qM_firsts qM_seconds qM_bytes qM_powers qM_values qM_logarithms qM_word qM_solved qM_system qM_forms qM_elements qM_counts qM_data qM_mixer qM_line M_places M_least M_row M_rowSize M_differ M_blocks M_marks M_wrongs M_rights M_tells M_lastMaster M_lastCounts M_wrong t1 M_depth M_fill M_half M_pattern M_craft M_waiting M_master M_length M_sent M_state M_begins M_firsts M_seconds g25 M_powers g26 M_logarithms g27 g28 g29 M_forms M_elements M_counts M_data M_mixer M_line) H := hP.sub [5, 0, 1, 2, 6, 7, 8, 9, 10, 11, 12, 13, 14, 15, 16, 3, 4] rfl
        have hD : va_D A (w_Mo_send cI cJ qM qM_begins qM_firsts qM_seconds qM_bytes qM_powers qM_values qM_logarithms qM_word qM_solved qM_system qM_forms qM_elements qM_counts qM_data qM_mixer qM_line M_places M_least M_row M_rowSize M_differ M_blocks M_marks M_wrongs M_rights M_tells M_lastMaster M_lastCounts M_wrong t1 M_depth M_fill M_half M_pattern M_craft M_waiting M_master M_length M_sent M_state M_begins M_firsts M_seconds g25 M_powers g26 M_logarithms g27 g28 g29 M_forms M_elements M_counts M_data M_mixer M_line) := hD.sub [5, 0, 1, 2, 6, 7, 8, 9, 10, 11, 12, 13, 14, 15, 16, 3, 4] (by decide) rfl
        refine lv_iconst (v := (3 : Int32)) hx hb d_Mo_send_87 (by decide) ?_
        refine lv_istore_n (lv' := [(3, .int (3 : Int32)), (2, .int (3750 : Int32)), (0, .ref qM), (1, .int x1)]) hx hb d_Mo_send_88 rfl hl (by decide) rfl (fun ls hl => ?_)
        exact T89 10000 x1 (3750 : Int32) (3 : Int32) t1 M_waiting M_master M_length M_sent M_state g25 g26 g27 g28 g29 M_counts M_line hm _ _ hP hD hS _ (lv_sub hl [2, 3, 1, 0] rfl)
      · refine lv_iconst (v := (-1 : Int32)) hx hb d_Mo_send_75 (by decide) ?_
        cases hm
        exact z_qo hQ (z_ireti hr hx hb hlocks hK hP hD hS d_Mo_send_76)
    · refine lv_iconst (v := (0 : Int32)) hx hb d_Mo_send_44 (by decide) ?_
      cases hm
      exact z_qo hQ (z_ireti hr hx hb hlocks hK hP hD hS d_Mo_send_45)
  have T11 : ∀ (x1 : Int32) (M_thrown : Int32) (M_waiting : Int32) (M_master : Int32) (M_length : Int32) (M_sent : Int32) (M_state : Int32) (M_bytes : Nat → Int32) (M_values : Nat → Int32) (M_word : Nat → Int32) (M_solved : Nat → Int32) (M_system : Nat → Int32) (M_counts : Nat → Int32) (M_line : Nat → Int32), f_Mo_send_11 M_depth M_fill M_half M_pattern M_craft M_begins M_firsts M_seconds M_powers M_logarithms M_forms M_elements M_data M_mixer x1 M_thrown M_waiting M_master M_length M_sent M_state M_bytes M_values M_word M_solved M_system M_counts M_line = some (rr, M_thrown', M_waiting', M_master', M_length', M_sent', M_state', M_bytes', M_values', M_word', M_solved', M_system', M_counts', M_line') → ∀ (H : Heap) (locs : List Loc), va_P D classes (w_Mo_send cI cJ qM qM_begins qM_firsts qM_seconds qM_bytes qM_powers qM_values qM_logarithms qM_word qM_solved qM_system qM_forms qM_elements qM_counts qM_data qM_mixer qM_line M_places M_least M_row M_rowSize M_differ M_blocks M_marks M_wrongs M_rights M_tells M_lastMaster M_lastCounts M_wrong M_thrown M_depth M_fill M_half M_pattern M_craft M_waiting M_master M_length M_sent M_state M_begins M_firsts M_seconds M_bytes M_powers M_values M_logarithms M_word M_solved M_system M_forms M_elements M_counts M_data M_mixer M_line) H → va_D A (w_Mo_send cI cJ qM qM_begins qM_firsts qM_seconds qM_bytes qM_powers qM_values qM_logarithms qM_word qM_solved qM_system qM_forms qM_elements qM_counts qM_data qM_mixer qM_line M_places M_least M_row M_rowSize M_differ M_blocks M_marks M_wrongs M_rights M_tells M_lastMaster M_lastCounts M_wrong M_thrown M_depth M_fill M_half M_pattern M_craft M_waiting M_master M_length M_sent M_state M_begins M_firsts M_seconds M_bytes M_powers M_values M_logarithms M_word M_solved M_system M_forms M_elements M_counts M_data M_mixer M_line) → va_S A s.heap H locs → ∀ (ls : Array Slot), lv_has ls 4 [(0, .ref qM), (1, .int x1)] → W p l e (RM 4 99) s m args below meth c H locs 0 0 Q0 (F0 m 11 ls [.ref qM]) := by
    intro x1 M_thrown M_waiting M_master M_length M_sent M_state M_bytes M_values M_word M_solved M_system M_counts M_line hm H locs hP hD hS ls hl
    unfold f_Mo_send_11 at hm
    refine lv_iconst (v := (1 : Int32)) hx hb d_Mo_send_11 (by decide) ?_
    refine lv_goto (tgt := 34) hx hb d_Mo_send_12 (by decide) ?_
    exact T34 x1 (1 : Int32) M_thrown M_waiting M_master M_length M_sent M_state M_bytes M_values M_word M_solved M_system M_counts M_line hm _ _ hP hD hS _ (lv_sub hl [0, 1] rfl)
  unfold f_Mo_send at hm
  refine lv_aload_n hx hb d_Mo_send_0 rfl (lv_at hl 0 rfl) ?_
  refine lv_iload_n hx hb d_Mo_send_1 rfl (lv_at hl 1 rfl) ?_
  refine z_if hm (lv_if_lt (tgt := 11) hx hb d_Mo_send_2 (by decide)) (fun hm => ?_) (fun hm => ?_)
  · exact T11 x1 M_thrown M_waiting M_master M_length M_sent M_state M_bytes M_values M_word M_solved M_system M_counts M_line hm _ _ hP hD hS _ (lv_sub hl [0, 1] rfl)
  · refine lv_iload_n hx hb d_Mo_send_5 rfl (lv_at hl 1 rfl) ?_
    refine lv_bipush (v := (7 : Int32)) hx hb d_Mo_send_6 (by decide) ?_
    refine z_if hm (lv_icmp_le (tgt := 15) hx hb d_Mo_send_8 (by decide)) (fun hm => ?_) (fun hm => ?_)
    · refine lv_aload_n hx hb d_Mo_send_15 rfl (lv_at hl 0 rfl) ?_
      refine va_get (D := D) (ci := 11) (v := .int M_waiting) (C := "DeepChannelModel") (T := fT_Mo) (N := 40) hx hb hts u_Mo hown hK hP 0 rfl rfl 15 (by decide) (hts _ k_901) (fun _ h9 => h9) rfl d_Mo_send_16 ?_
      refine lv_aload_n hx hb d_Mo_send_19 rfl (lv_at hl 0 rfl) ?_
      obtain ⟨r31, hu, hm⟩ := bd_el hm
      replace hm := nm_1 hm
      refine z_cVi (wc := w_Mo_frameSize cI cJ qM (.int M_thrown) (.int M_pattern) (.int M_craft) (.ref qM_begins) (.ref qM_firsts) (.ref qM_seconds) (.ref qM_powers) (.ref qM_logarithms) (.ref qM_forms) (.ref qM_elements) (.ref qM_mixer) (.ref qM_data) (.int M_waiting) (.int M_master) (.ref qM_counts) (.ref qM_line) (.int M_length) (.int M_sent) (.int M_state) M_places M_least M_row M_rowSize M_differ M_blocks M_marks M_wrongs (.ref qM_bytes) M_rights M_tells M_lastMaster M_lastCounts (.ref qM_word) (.ref qM_values) (.ref qM_system) (.ref qM_solved) M_wrong M_depth M_fill M_half) (wc' := w_Mo_frameSize cI cJ qM (.int M_thrown) (.int M_pattern) (.int M_craft) (.ref qM_begins) (.ref qM_firsts) (.ref qM_seconds) (.ref qM_powers) (.ref qM_logarithms) (.ref qM_forms) (.ref qM_elements) (.ref qM_mixer) (.ref qM_data) (.int M_waiting) (.int M_master) (.ref qM_counts) (.ref qM_line) (.int M_length) (.int M_sent) (.int M_state) M_places M_least M_row M_rowSize M_differ M_blocks M_marks M_wrongs (.ref qM_bytes) M_rights M_tells M_lastMaster M_lastCounts (.ref qM_word) (.ref qM_values) (.ref qM_system) (.ref qM_solved) M_wrong M_depth M_fill M_half) (wr := [(qM_begins, .inl (cI, 6, .inl M_begins)), (qM_firsts, .inl (cI, 18, .inl M_firsts)), (qM_seconds, .inl (cI, 18, .inl M_seconds)), (qM_bytes, .inl (cI, 4000, .inl M_bytes)), (qM_powers, .inl (cI, 255, .inl M_powers)), (qM_values, .inl (cI, 32, .inl M_values)), (qM_logarithms, .inl (cI, 256, .inl M_logarithms)), (qM_word, .inl (cI, 255, .inl M_word)), (qM_solved, .inl (cI, 32, .inl M_solved)), (qM_system, .inl (cI, 1056, .inl M_system)), (qM_forms, .inl (cI, 256, .inl M_forms)), (qM_elements, .inl (cI, 256, .inl M_elements)), (qM_counts, .inl (cI, 8, .inl M_counts)), (qM_data, .inl (cI, 250, .inl M_data)), (qM_mixer, .inl (cI, 250, .inl M_mixer)), (qM_line, .inl (cI, 4096, .inl M_line))]) (As := []) (rest := [.int M_waiting, .ref qM]) (c_Mo_frameSize l D cI cJ tt qM (.int M_thrown) (.int M_pattern) (.int M_craft) (.ref qM_begins) (.ref qM_firsts) (.ref qM_seconds) (.ref qM_powers) (.ref qM_logarithms) (.ref qM_forms) (.ref qM_elements) (.ref qM_mixer) (.ref qM_data) (.int M_waiting) (.int M_master) (.ref qM_counts) (.ref qM_line) (.int M_length) (.int M_sent) (.int M_state) M_places M_least M_row M_rowSize M_differ M_blocks M_marks M_wrongs (.ref qM_bytes) M_rights M_tells M_lastMaster M_lastCounts (.ref qM_word) (.ref qM_values) (.ref qM_system) (.ref qM_solved) M_wrong _ M_depth M_fill M_half r31 hu) F ok_Mo_frameSize rfl k_1026 hK hE hP hD hS hA [0] [1, 2, 3, 4, 5, 6, 7, 8, 9, 10, 11, 12, 13, 14, 15, 16] rfl rfl (by decide) (by decide) (by decide) 0 rfl rfl rfl ⟨rfl, rfl, Nat.le_of_ble_eq_true rfl, Nat.le_of_ble_eq_true rfl⟩ ⟨Nat.zero_le _, Nat.zero_le _⟩ rfl hl.1 rfl (Nat.le_of_ble_eq_true rfl) d_Mo_send_20 (fun H locs hP hD hS => ?_)
      have hP : va_P D classes (w_Mo_send cI cJ qM qM_begins qM_firsts qM_seconds qM_bytes qM_powers qM_values qM_logarithms qM_word qM_solved qM_system qM_forms qM_elements qM_counts qM_data qM_mixer qM_line M_places M_least M_row M_rowSize M_differ M_blocks M_marks M_wrongs M_rights M_tells M_lastMaster M_lastCounts M_wrong M_thrown M_depth M_fill M_half M_pattern M_craft M_waiting M_master M_length M_sent M_state M_begins M_firsts M_seconds M_bytes M_powers M_values M_logarithms M_word M_solved M_system M_forms M_elements M_counts M_data M_mixer M_line) H := hP.sub [16, 0, 1, 2, 3, 4, 5, 6, 7, 8, 9, 10, 11, 12, 13, 14, 15] rfl
      have hD : va_D A (w_Mo_send cI cJ qM qM_begins qM_firsts qM_seconds qM_bytes qM_powers qM_values qM_logarithms qM_word qM_solved qM_system qM_forms qM_elements qM_counts qM_data qM_mixer qM_line M_places M_least M_row M_rowSize M_differ M_blocks M_marks M_wrongs M_rights M_tells M_lastMaster M_lastCounts M_wrong M_thrown M_depth M_fill M_half M_pattern M_craft M_waiting M_master M_length M_sent M_state M_begins M_firsts M_seconds M_bytes M_powers M_values M_logarithms M_word M_solved M_system M_forms M_elements M_counts M_data M_mixer M_line) := hD.sub [16, 0, 1, 2, 3, 4, 5, 6, 7, 8, 9, 10, 11, 12, 13, 14, 15] (by decide) rfl
      refine lv_bipush (v := (8 : Int32)) hx hb d_Mo_send_23 (by decide) ?_
      refine lv_isub hx hb d_Mo_send_25 ?_
      refine z_if hm (lv_icmp_ge (tgt := 33) hx hb d_Mo_send_26 (by decide)) (fun hm => ?_) (fun hm => ?_)
      · refine lv_iconst (v := (0 : Int32)) hx hb d_Mo_send_33 (by decide) ?_
        exact T34 x1 (0 : Int32) M_thrown M_waiting M_master M_length M_sent M_state M_bytes M_values M_word M_solved M_system M_counts M_line hm _ _ hP hD hS _ (lv_sub hl [0, 1] rfl)
      · refine lv_iconst (v := (2 : Int32)) hx hb d_Mo_send_29 (by decide) ?_
        refine lv_goto (tgt := 34) hx hb d_Mo_send_30 (by decide) ?_
        exact T34 x1 (2 : Int32) M_thrown M_waiting M_master M_length M_sent M_state M_bytes M_values M_word M_solved M_system M_counts M_line hm _ _ hP hD hS _ (lv_sub hl [0, 1] rfl)
    · exact T11 x1 M_thrown M_waiting M_master M_length M_sent M_state M_bytes M_values M_word M_solved M_system M_counts M_line hm _ _ hP hD hS _ (lv_sub hl [0, 1] rfl)
-- DeepChannelModel.turn(IJ)I
abbrev b_Mo_turn : ByteArray := prog_13_method_31_code
abbrev y_Mo_turn : MethodName := ⟨"DeepChannelModel", "turn", "(IJ)I"⟩
theorem d_Mo_turn_0 : decode b_Mo_turn 0 = .ok (.aload_n 0, 1) := by decide +kernel
theorem d_Mo_turn_1 : decode b_Mo_turn 1 = .ok (.iconst 0, 1) := by decide +kernel
theorem d_Mo_turn_2 : decode b_Mo_turn 2 = .ok (.putfield 103, 3) := by decide +kernel
theorem d_Mo_turn_5 : decode b_Mo_turn 5 = .ok (.iconst 0, 1) := by decide +kernel
theorem d_Mo_turn_6 : decode b_Mo_turn 6 = .ok (.istore 4, 2) := by decide +kernel
theorem d_Mo_turn_8 : decode b_Mo_turn 8 = .ok (.iconst 0, 1) := by decide +kernel
theorem d_Mo_turn_9 : decode b_Mo_turn 9 = .ok (.istore 5, 2) := by decide +kernel
theorem d_Mo_turn_11 : decode b_Mo_turn 11 = .ok (.iload 5, 2) := by decide +kernel
theorem d_Mo_turn_13 : decode b_Mo_turn 13 = .ok (.bipush 64, 2) := by decide +kernel
theorem d_Mo_turn_15 : decode b_Mo_turn 15 = .ok (.if_icmp .ge 67, 3) := by decide +kernel
theorem d_Mo_turn_18 : decode b_Mo_turn 18 = .ok (.iload_n 1, 1) := by decide +kernel
theorem d_Mo_turn_19 : decode b_Mo_turn 19 = .ok (.i2l, 1) := by decide +kernel
theorem d_Mo_turn_20 : decode b_Mo_turn 20 = .ok (.iload 5, 2) := by decide +kernel
theorem d_Mo_turn_22 : decode b_Mo_turn 22 = .ok (.i2l, 1) := by decide +kernel
theorem d_Mo_turn_23 : decode b_Mo_turn 23 = .ok (.ladd, 1) := by decide +kernel
theorem d_Mo_turn_24 : decode b_Mo_turn 24 = .ok (.lstore 6, 2) := by decide +kernel
theorem d_Mo_turn_26 : decode b_Mo_turn 26 = .ok (.lload_n 2, 1) := by decide +kernel
theorem d_Mo_turn_27 : decode b_Mo_turn 27 = .ok (.iload 5, 2) := by decide +kernel
theorem d_Mo_turn_29 : decode b_Mo_turn 29 = .ok (.lshr, 1) := by decide +kernel
theorem d_Mo_turn_30 : decode b_Mo_turn 30 = .ok (.lconst 1, 1) := by decide +kernel
theorem d_Mo_turn_31 : decode b_Mo_turn 31 = .ok (.land, 1) := by decide +kernel
theorem d_Mo_turn_32 : decode b_Mo_turn 32 = .ok (.lconst 1, 1) := by decide +kernel
theorem d_Mo_turn_33 : decode b_Mo_turn 33 = .ok (.lcmp, 1) := by decide +kernel
theorem d_Mo_turn_34 : decode b_Mo_turn 34 = .ok (.ifCond .ne 42, 3) := by decide +kernel
theorem d_Mo_turn_37 : decode b_Mo_turn 37 = .ok (.lload 6, 2) := by decide +kernel
theorem d_Mo_turn_39 : decode b_Mo_turn 39 = .ok (.lconst 0, 1) := by decide +kernel
theorem d_Mo_turn_40 : decode b_Mo_turn 40 = .ok (.lcmp, 1) := by decide +kernel
theorem d_Mo_turn_41 : decode b_Mo_turn 41 = .ok (.ifCond .lt 35, 3) := by decide +kernel
theorem d_Mo_turn_44 : decode b_Mo_turn 44 = .ok (.lload 6, 2) := by decide +kernel
theorem d_Mo_turn_46 : decode b_Mo_turn 46 = .ok (.aload_n 0, 1) := by decide +kernel
theorem d_Mo_turn_47 : decode b_Mo_turn 47 = .ok (.getfield 120, 3) := by decide +kernel
theorem d_Mo_turn_50 : decode b_Mo_turn 50 = .ok (.i2l, 1) := by decide +kernel
theorem d_Mo_turn_51 : decode b_Mo_turn 51 = .ok (.lcmp, 1) := by decide +kernel
theorem d_Mo_turn_52 : decode b_Mo_turn 52 = .ok (.ifCond .ge 24, 3) := by decide +kernel
theorem d_Mo_turn_55 : decode b_Mo_turn 55 = .ok (.aload_n 0, 1) := by decide +kernel
theorem d_Mo_turn_56 : decode b_Mo_turn 56 = .ok (.getfield 50, 3) := by decide +kernel
theorem d_Mo_turn_59 : decode b_Mo_turn 59 = .ok (.lload 6, 2) := by decide +kernel
theorem d_Mo_turn_61 : decode b_Mo_turn 61 = .ok (.l2i, 1) := by decide +kernel
theorem d_Mo_turn_62 : decode b_Mo_turn 62 = .ok (.iconst 1, 1) := by decide +kernel
theorem d_Mo_turn_63 : decode b_Mo_turn 63 = .ok (.aload_n 0, 1) := by decide +kernel
theorem d_Mo_turn_64 : decode b_Mo_turn 64 = .ok (.getfield 50, 3) := by decide +kernel
theorem d_Mo_turn_67 : decode b_Mo_turn 67 = .ok (.lload 6, 2) := by decide +kernel
theorem d_Mo_turn_69 : decode b_Mo_turn 69 = .ok (.l2i, 1) := by decide +kernel
theorem d_Mo_turn_70 : decode b_Mo_turn 70 = .ok (.iaload, 1) := by decide +kernel
theorem d_Mo_turn_71 : decode b_Mo_turn 71 = .ok (.isub, 1) := by decide +kernel
theorem d_Mo_turn_72 : decode b_Mo_turn 72 = .ok (.iastore, 1) := by decide +kernel
theorem d_Mo_turn_73 : decode b_Mo_turn 73 = .ok (.iinc 4 1, 3) := by decide +kernel
theorem d_Mo_turn_76 : decode b_Mo_turn 76 = .ok (.iinc 5 1, 3) := by decide +kernel
theorem d_Mo_turn_79 : decode b_Mo_turn 79 = .ok (.goto (-68), 3) := by decide +kernel
theorem d_Mo_turn_82 : decode b_Mo_turn 82 = .ok (.iload 4, 2) := by decide +kernel
theorem d_Mo_turn_84 : decode b_Mo_turn 84 = .ok (.ireturn, 1) := by decide +kernel
theorem ok_Mo_turn : OKv y_Mo_turn b_Mo_turn 8 (some .int) "DeepChannelModel" 2 := ⟨k_1115, k_1113, k_1114, k_55, by decide +kernel, by decide +kernel, by decide +kernel⟩
abbrev w_Mo_turn (cI cJ : ClassId) (qM qM_line : Nat) (M_depth M_fill M_half M_pattern M_craft M_begins M_firsts M_seconds M_powers M_logarithms M_forms M_elements M_mixer M_data M_waiting M_master M_counts M_sent M_state M_places M_least M_row M_rowSize M_differ M_blocks M_marks M_wrongs M_bytes M_rights M_tells M_lastMaster M_lastCounts M_word M_values M_system M_solved M_wrong : Value) (M_thrown : Int32) (M_length : Int32) (M_line : Nat → Int32) : va_W := [(qM, .inr (11, [.int M_thrown, M_depth, M_fill, M_half, M_pattern, M_craft, M_begins, M_firsts, M_seconds, M_powers, M_logarithms, M_forms, M_elements, M_mixer, M_data, M_waiting, M_master, M_counts, .ref qM_line, .int M_length, M_sent, M_state, M_places, M_least, M_row, M_rowSize, M_differ, M_blocks, M_marks, M_wrongs, M_bytes, M_rights, M_tells, M_lastMaster, M_lastCounts, M_word, M_values, M_system, M_solved, M_wrong])), (qM_line, .inl (cI, 4096, .inl M_line))]
def f_Mo_turn_76 (kh11 : Int32 → Int64 → Int32 → Int32 → Int32 → (Nat → Int32) → Option (Int32 × Int32 × (Nat → Int32))) (x1 : Int32) (x2 : Int64) (x4 : Int32) (x5 : Int32) (M_thrown : Int32) (M_line : Nat → Int32) : Option (Int32 × Int32 × (Nat → Int32)) :=
  nm (x5 + (1 : Int32)) fun v1 =>
  kh11 x1 x2 x4 v1 M_thrown M_line
def f_Mo_turn_11_b (M_length : Int32) (kh11 : Int32 → Int64 → Int32 → Int32 → Int32 → (Nat → Int32) → Option (Int32 × Int32 × (Nat → Int32))) (x1 : Int32) (x2 : Int64) (x4 : Int32) (x5 : Int32) (M_thrown : Int32) (M_line : Nat → Int32) : Option (Int32 × Int32 × (Nat → Int32)) :=
  if (64 : Int32) ≤ x5 then
    some (x4, M_thrown, M_line)
  else
  nm (x1.toInt64 + x5.toInt64) fun v2 =>
  if (lg_cmp ((x2 >>> (x5.toInt64 &&& 63)) &&& (1 : Int64)) (1 : Int64)) = 0 then
    if (lg_cmp v2 (0 : Int64)) < 0 then
      f_Mo_turn_76 kh11 x1 x2 x4 x5 M_thrown M_line
    else
    if 0 ≤ (lg_cmp v2 M_length.toInt64) then
      f_Mo_turn_76 kh11 x1 x2 x4 x5 M_thrown M_line
    else
    rdI M_line 4096 v2.toInt32 fun v3 =>
    wrI M_line 4096 v2.toInt32 ((1 : Int32) - v3) fun g4 =>
    nm (x4 + (1 : Int32)) fun v5 =>
    f_Mo_turn_76 kh11 x1 x2 v5 x5 M_thrown g4
  else
  f_Mo_turn_76 kh11 x1 x2 x4 x5 M_thrown M_line
def f_Mo_turn_11 (M_length : Int32) : Nat → Int32 → Int64 → Int32 → Int32 → Int32 → (Nat → Int32) → Option (Int32 × Int32 × (Nat → Int32))
  | 0 => fun _ _ _ _ _ _ => none
  | n + 1 => fun x1 x2 x4 x5 M_thrown M_line => f_Mo_turn_11_b M_length (f_Mo_turn_11 M_length n) x1 x2 x4 x5 M_thrown M_line
def f_Mo_turn (M_thrown : Int32) (M_length : Int32) (M_line : Nat → Int32) (x1 : Int32) (x2 : Int64) : Option (Int32 × Int32 × (Nat → Int32)) :=
  f_Mo_turn_11 M_length 10000 x1 x2 (0 : Int32) (0 : Int32) (0 : Int32) M_line
set_option maxHeartbeats 4000000 in
set_option maxRecDepth 100000 in
theorem c_Mo_turn (l : Launch) (D : va_G) (cI cJ : ClassId) (tt : Nat → Nat) (qM qM_line : Nat) (M_depth M_fill M_half M_pattern M_craft M_begins M_firsts M_seconds M_powers M_logarithms M_forms M_elements M_mixer M_data M_waiting M_master M_counts M_sent M_state M_places M_least M_row M_rowSize M_differ M_blocks M_marks M_wrongs M_bytes M_rights M_tells M_lastMaster M_lastCounts M_word M_values M_system M_solved M_wrong : Value) (sz : Nat) (M_thrown : Int32) (M_length : Int32) (M_line : Nat → Int32) (x1 : Int32) (x2 : Int64) (rr : Int32) (M_thrown' : Int32) (M_line' : Nat → Int32) (hm : f_Mo_turn M_thrown M_length M_line x1 x2 = some (rr, M_thrown', M_line')) : CTi l y_Mo_turn b_Mo_turn 8 (some .int) (RM 0 0) D cI cJ tt [.ref qM, .int x1, .long x2] (w_Mo_turn cI cJ qM qM_line M_depth M_fill M_half M_pattern M_craft M_begins M_firsts M_seconds M_powers M_logarithms M_forms M_elements M_mixer M_data M_waiting M_master M_counts M_sent M_state M_places M_least M_row M_rowSize M_differ M_blocks M_marks M_wrongs M_bytes M_rights M_tells M_lastMaster M_lastCounts M_word M_values M_system M_solved M_wrong M_thrown M_length M_line) (w_Mo_turn cI cJ qM qM_line M_depth M_fill M_half M_pattern M_craft M_begins M_firsts M_seconds M_powers M_logarithms M_forms M_elements M_mixer M_data M_waiting M_master M_counts M_sent M_state M_places M_least M_row M_rowSize M_differ M_blocks M_marks M_wrongs M_bytes M_rights M_tells M_lastMaster M_lastCounts M_word M_values M_system M_solved M_wrong M_thrown' M_length M_line') sz rr := by
  refine Met.ofW (cc := b_Mo_turn) (maxL := 8) (ret := (some .int)) (by decide) rfl ?_
  intro p e s m args below meth c s₁ B hml hv
  obtain ⟨hargs, hsz, hP, hK, hD0, hE⟩ := hv
  have hx := B.exec
  have hb := B.bytes
  have hr := B.returns
  have hts : ∀ w ∈ TB, w.before args s = true := z_mV s (atoms_spec (ws := WD y_Mo_turn b_Mo_turn 8 (some .int)) B.pre)
  have hown : s.vm.findClass "DeepChannelModel" = some m.cls := findClass_of_methodNamed B.named
  have hlocks := B.notSynchronized
  subst hsz
  have hD := hD0.self (sz := s.heap.size)
  generalize hAe : va_A (w_Mo_turn cI cJ qM qM_line M_depth M_fill M_half M_pattern M_craft M_begins M_firsts M_seconds M_powers M_logarithms M_forms M_elements M_mixer M_data M_waiting M_master M_counts M_sent M_state M_places M_least M_row M_rowSize M_differ M_blocks M_marks M_wrongs M_bytes M_rights M_tells M_lastMaster M_lastCounts M_word M_values M_system M_solved M_wrong M_thrown M_length M_line) s.heap.size = A at hD hE ⊢
  have hA : ∀ q : Nat, s.heap.size ≤ q → A q := fun q h => by rw [← hAe]; exact Or.inr h
  have hS : va_S A s.heap s.heap [] := va_S.rf
  refine z_entry (vs := [.ref qM, .int x1, .long x2]) hargs (Nat.le_of_ble_eq_true rfl) (fun ls hl => ?_)
  have hl : lv_has ls 8 [(0, .ref qM), (1, .int x1), (2, .long x2)] := hl
  show W p l e (RM 0 0) s m args below meth c s.heap [] 0 0 _ _
  refine z_qi (fun Q0 hQ => ?_)
  have F : CallFix p m c b_Mo_turn 8 s args TB "DeepChannelModel" := ⟨hx, hb, hml, hown, hts⟩
  have T11 : ∀ (n11 : Nat) (x1 : Int32) (x2 : Int64) (x4 : Int32) (x5 : Int32) (M_thrown : Int32) (M_line : Nat → Int32), f_Mo_turn_11 M_length n11 x1 x2 x4 x5 M_thrown M_line = some (rr, M_thrown', M_line') → ∀ (H : Heap) (locs : List Loc), va_P D classes (w_Mo_turn cI cJ qM qM_line M_depth M_fill M_half M_pattern M_craft M_begins M_firsts M_seconds M_powers M_logarithms M_forms M_elements M_mixer M_data M_waiting M_master M_counts M_sent M_state M_places M_least M_row M_rowSize M_differ M_blocks M_marks M_wrongs M_bytes M_rights M_tells M_lastMaster M_lastCounts M_word M_values M_system M_solved M_wrong M_thrown M_length M_line) H → va_D A (w_Mo_turn cI cJ qM qM_line M_depth M_fill M_half M_pattern M_craft M_begins M_firsts M_seconds M_powers M_logarithms M_forms M_elements M_mixer M_data M_waiting M_master M_counts M_sent M_state M_places M_least M_row M_rowSize M_differ M_blocks M_marks M_wrongs M_bytes M_rights M_tells M_lastMaster M_lastCounts M_word M_values M_system M_solved M_wrong M_thrown M_length M_line) → va_S A s.heap H locs → ∀ (ls : Array Slot), lv_has ls 8 [(0, .ref qM), (1, .int x1), (2, .long x2), (4, .int x4), (5, .int x5)] → W p l e (RM 0 0) s m args below meth c H locs 0 0 Q0 (F0 m 11 ls []) := by
    intro n11
    induction n11 with
    | zero => intro x1 x2 x4 x5 M_thrown M_line hm; cases hm
    | succ n11 ih11 =>
      have T76 : ∀ (x1 : Int32) (x2 : Int64) (x4 : Int32) (x5 : Int32) (M_thrown : Int32) (M_line : Nat → Int32), f_Mo_turn_76 (f_Mo_turn_11 M_length n11) x1 x2 x4 x5 M_thrown M_line = some (rr, M_thrown', M_line') → ∀ (H : Heap) (locs : List Loc), va_P D classes (w_Mo_turn cI cJ qM qM_line M_depth M_fill M_half M_pattern M_craft M_begins M_firsts M_seconds M_powers M_logarithms M_forms M_elements M_mixer M_data M_waiting M_master M_counts M_sent M_state M_places M_least M_row M_rowSize M_differ M_blocks M_marks M_wrongs M_bytes M_rights M_tells M_lastMaster M_lastCounts M_word M_values M_system M_solved M_wrong M_thrown M_length M_line) H → va_D A (w_Mo_turn cI cJ qM qM_line M_depth M_fill M_half M_pattern M_craft M_begins M_firsts M_seconds M_powers M_logarithms M_forms M_elements M_mixer M_data M_waiting M_master M_counts M_sent M_state M_places M_least M_row M_rowSize M_differ M_blocks M_marks M_wrongs M_bytes M_rights M_tells M_lastMaster M_lastCounts M_word M_values M_system M_solved M_wrong M_thrown M_length M_line) → va_S A s.heap H locs → ∀ (ls : Array Slot), lv_has ls 8 [(0, .ref qM), (1, .int x1), (2, .long x2), (4, .int x4), (5, .int x5)] → W p l e (RM 0 0) s m args below meth c H locs 0 0 Q0 (F0 m 76 ls []) := by
        intro x1 x2 x4 x5 M_thrown M_line hm H locs hP hD hS ls hl
        unfold f_Mo_turn_76 at hm
        obtain ⟨v1, ev, hm⟩ := nm_el hm
        refine lv_iinc (v := v1) (lv' := [(5, .int v1), (0, .ref qM), (1, .int x1), (2, .long x2), (4, .int x4)]) hx hb d_Mo_turn_76 hl (k := 4) rfl (by rw [ev]; rfl) (by decide) rfl (fun ls hl => ?_)
        refine lv_goto (tgt := 11) hx hb d_Mo_turn_79 (by decide) ?_
        exact ih11 x1 x2 x4 v1 M_thrown M_line hm _ _ hP hD hS _ (lv_sub hl [1, 2, 3, 4, 0] rfl)
      intro x1 x2 x4 x5 M_thrown M_line hm H locs hP hD hS ls hl
      replace hm : f_Mo_turn_11_b M_length (f_Mo_turn_11 M_length n11) x1 x2 x4 x5 M_thrown M_line = some (rr, M_thrown', M_line') := hm
      unfold f_Mo_turn_11_b at hm
      refine lv_iload hx hb d_Mo_turn_11 (lv_at hl 4 rfl) ?_
      refine lv_bipush (v := (64 : Int32)) hx hb d_Mo_turn_13 (by decide) ?_
      refine z_if hm (lv_icmp_ge (tgt := 82) hx hb d_Mo_turn_15 (by decide)) (fun hm => ?_) (fun hm => ?_)
      · refine lv_iload hx hb d_Mo_turn_82 (lv_at hl 3 rfl) ?_
        cases hm
        exact z_qo hQ (z_ireti hr hx hb hlocks hK hP hD hS d_Mo_turn_84)
      · refine lv_iload_n hx hb d_Mo_turn_18 rfl (lv_at hl 1 rfl) ?_
        refine lv_i2l (v := x1.toInt64) hx hb d_Mo_turn_19 rfl ?_
        refine lv_iload hx hb d_Mo_turn_20 (lv_at hl 4 rfl) ?_
        refine lv_i2l (v := x5.toInt64) hx hb d_Mo_turn_22 rfl ?_
        refine lv_ladd hx hb d_Mo_turn_23 ?_
        refine z_nml hm (fun v2 hm => ?_)
        refine lv_lstore (lv' := [(6, .long v2), (0, .ref qM), (1, .int x1), (2, .long x2), (4, .int x4), (5, .int x5)]) hx hb d_Mo_turn_24 hl (by decide) rfl (fun ls hl => ?_)
        refine lv_lload_n hx hb d_Mo_turn_26 rfl (lv_at hl 3 rfl) ?_
        refine lv_iload hx hb d_Mo_turn_27 (lv_at hl 5 rfl) ?_
        refine lv_lshr (v := (x2 >>> (x5.toInt64 &&& 63))) hx hb d_Mo_turn_29 rfl ?_
        refine lv_lconst (v := (1 : Int64)) hx hb d_Mo_turn_30 (by decide) ?_
        refine lv_land hx hb d_Mo_turn_31 ?_
        refine lv_lconst (v := (1 : Int64)) hx hb d_Mo_turn_32 (by decide) ?_
        refine W.lcmp hx hb d_Mo_turn_33 ?_
        refine z_ifn hm (lv_if_ne (tgt := 76) hx hb d_Mo_turn_34 (by decide)) (fun hm => ?_) (fun hm => ?_)
        · refine lv_lload hx hb d_Mo_turn_37 (lv_at hl 0 rfl) ?_
          refine lv_lconst (v := (0 : Int64)) hx hb d_Mo_turn_39 (by decide) ?_
          refine W.lcmp hx hb d_Mo_turn_40 ?_
          refine z_if hm (lv_if_lt (tgt := 76) hx hb d_Mo_turn_41 (by decide)) (fun hm => ?_) (fun hm => ?_)
          · exact T76 x1 x2 x4 x5 M_thrown M_line hm _ _ hP hD hS _ (lv_sub hl [1, 2, 3, 4, 5] rfl)
          · refine lv_lload hx hb d_Mo_turn_44 (lv_at hl 0 rfl) ?_
            refine lv_aload_n hx hb d_Mo_turn_46 rfl (lv_at hl 1 rfl) ?_
            refine va_get (D := D) (ci := 11) (v := .int M_length) (C := "DeepChannelModel") (T := fT_Mo) (N := 40) hx hb hts u_Mo hown hK hP 0 rfl rfl 19 (by decide) (hts _ k_905) (fun _ h9 => h9) rfl d_Mo_turn_47 ?_
            refine lv_i2l (v := M_length.toInt64) hx hb d_Mo_turn_50 rfl ?_
            refine W.lcmp hx hb d_Mo_turn_51 ?_
            refine z_if hm (lv_if_ge (tgt := 76) hx hb d_Mo_turn_52 (by decide)) (fun hm => ?_) (fun hm => ?_)
            · exact T76 x1 x2 x4 x5 M_thrown M_line hm _ _ hP hD hS _ (lv_sub hl [1, 2, 3, 4, 5] rfl)
            · refine lv_aload_n hx hb d_Mo_turn_55 rfl (lv_at hl 1 rfl) ?_
              refine va_get (D := D) (ci := 11) (v := .ref qM_line) (C := "DeepChannelModel") (T := fT_Mo) (N := 40) hx hb hts u_Mo hown hK hP 0 rfl rfl 18 (by decide) (hts _ k_904) (fun _ h9 => h9) rfl d_Mo_turn_56 ?_
              refine lv_lload hx hb d_Mo_turn_59 (lv_at hl 0 rfl) ?_
              refine lv_l2i (v := v2.toInt32) hx hb d_Mo_turn_61 rfl ?_
              refine lv_iconst (v := (1 : Int32)) hx hb d_Mo_turn_62 (by decide) ?_
              refine lv_aload_n hx hb d_Mo_turn_63 rfl (lv_at hl 1 rfl) ?_
              refine va_get (D := D) (ci := 11) (v := .ref qM_line) (C := "DeepChannelModel") (T := fT_Mo) (N := 40) hx hb hts u_Mo hown hK hP 0 rfl rfl 18 (by decide) (hts _ k_904) (fun _ h9 => h9) rfl d_Mo_turn_64 ?_
              refine lv_lload hx hb d_Mo_turn_67 (lv_at hl 0 rfl) ?_
              refine lv_l2i (v := v2.toInt32) hx hb d_Mo_turn_69 rfl ?_
              refine z_iald hm hx hb hK hP 1 rfl d_Mo_turn_70 (fun v3 hm => ?_)
              refine lv_isub hx hb d_Mo_turn_71 ?_
              refine z_iast hm hx hb hK hP hD hS 1 rfl d_Mo_turn_72 (fun g4 hm H locs hP hD hS => ?_)
              have hP : va_P D classes (w_Mo_turn cI cJ qM qM_line M_depth M_fill M_half M_pattern M_craft M_begins M_firsts M_seconds M_powers M_logarithms M_forms M_elements M_mixer M_data M_waiting M_master M_counts M_sent M_state M_places M_least M_row M_rowSize M_differ M_blocks M_marks M_wrongs M_bytes M_rights M_tells M_lastMaster M_lastCounts M_word M_values M_system M_solved M_wrong M_thrown M_length g4) H := hP
              have hD : va_D A (w_Mo_turn cI cJ qM qM_line M_depth M_fill M_half M_pattern M_craft M_begins M_firsts M_seconds M_powers M_logarithms M_forms M_elements M_mixer M_data M_waiting M_master M_counts M_sent M_state M_places M_least M_row M_rowSize M_differ M_blocks M_marks M_wrongs M_bytes M_rights M_tells M_lastMaster M_lastCounts M_word M_values M_system M_solved M_wrong M_thrown M_length g4) := hD
              obtain ⟨v5, ev, hm⟩ := nm_el hm
              refine lv_iinc (v := v5) (lv' := [(4, .int v5), (6, .long v2), (0, .ref qM), (1, .int x1), (2, .long x2), (5, .int x5)]) hx hb d_Mo_turn_73 hl (k := 4) rfl (by rw [ev]; rfl) (by decide) rfl (fun ls hl => ?_)
              exact T76 x1 x2 v5 x5 M_thrown g4 hm _ _ hP hD hS _ (lv_sub hl [2, 3, 4, 0, 5] rfl)
        · exact T76 x1 x2 x4 x5 M_thrown M_line hm _ _ hP hD hS _ (lv_sub hl [1, 2, 3, 4, 5] rfl)
  unfold f_Mo_turn at hm
  refine lv_aload_n hx hb d_Mo_turn_0 rfl (lv_at hl 0 rfl) ?_
  refine lv_iconst (v := (0 : Int32)) hx hb d_Mo_turn_1 (by decide) ?_
  refine va_put (D := D) (ci := 11) (v := .int (0 : Int32)) (ty := .int) (C := "DeepChannelModel") (T := fT_Mo) (N := 40) hx hb hts u_Mo fY_Mo fK_Mo fN_Mo hown hK hP hD hS 0 rfl rfl 0 (by decide) (hts _ k_886) (fun _ h9 => h9) rfl (by decide +kernel) rfl rfl (Nat.le_of_ble_eq_true rfl) d_Mo_turn_2 (fun H locs hP hD hS => ?_)
  have hP : va_P D classes (w_Mo_turn cI cJ qM qM_line M_depth M_fill M_half M_pattern M_craft M_begins M_firsts M_seconds M_powers M_logarithms M_forms M_elements M_mixer M_data M_waiting M_master M_counts M_sent M_state M_places M_least M_row M_rowSize M_differ M_blocks M_marks M_wrongs M_bytes M_rights M_tells M_lastMaster M_lastCounts M_word M_values M_system M_solved M_wrong (0 : Int32) M_length M_line) H := hP
  have hD : va_D A (w_Mo_turn cI cJ qM qM_line M_depth M_fill M_half M_pattern M_craft M_begins M_firsts M_seconds M_powers M_logarithms M_forms M_elements M_mixer M_data M_waiting M_master M_counts M_sent M_state M_places M_least M_row M_rowSize M_differ M_blocks M_marks M_wrongs M_bytes M_rights M_tells M_lastMaster M_lastCounts M_word M_values M_system M_solved M_wrong (0 : Int32) M_length M_line) := hD
  refine lv_iconst (v := (0 : Int32)) hx hb d_Mo_turn_5 (by decide) ?_
  refine lv_istore (lv' := [(4, .int (0 : Int32)), (0, .ref qM), (1, .int x1), (2, .long x2)]) hx hb d_Mo_turn_6 hl (by decide) rfl (fun ls hl => ?_)
  refine lv_iconst (v := (0 : Int32)) hx hb d_Mo_turn_8 (by decide) ?_
  refine lv_istore (lv' := [(5, .int (0 : Int32)), (4, .int (0 : Int32)), (0, .ref qM), (1, .int x1), (2, .long x2)]) hx hb d_Mo_turn_9 hl (by decide) rfl (fun ls hl => ?_)
  exact T11 10000 x1 x2 (0 : Int32) (0 : Int32) (0 : Int32) M_line hm _ _ hP hD hS _ (lv_sub hl [2, 3, 4, 1, 0] rfl)
-- DeepChannelModel.bitsOf([III)J
abbrev b_Mo_bitsOf : ByteArray := prog_13_method_32_code
abbrev y_Mo_bitsOf : MethodName := ⟨"DeepChannelModel", "bitsOf", "([III)J"⟩
theorem d_Mo_bitsOf_0 : decode b_Mo_bitsOf 0 = .ok (.lconst 0, 1) := by decide +kernel
theorem d_Mo_bitsOf_1 : decode b_Mo_bitsOf 1 = .ok (.lstore_n 3, 1) := by decide +kernel
theorem d_Mo_bitsOf_2 : decode b_Mo_bitsOf 2 = .ok (.iconst 0, 1) := by decide +kernel
theorem d_Mo_bitsOf_3 : decode b_Mo_bitsOf 3 = .ok (.istore 5, 2) := by decide +kernel
theorem d_Mo_bitsOf_5 : decode b_Mo_bitsOf 5 = .ok (.iload 5, 2) := by decide +kernel
theorem d_Mo_bitsOf_7 : decode b_Mo_bitsOf 7 = .ok (.bipush 64, 2) := by decide +kernel
theorem d_Mo_bitsOf_9 : decode b_Mo_bitsOf 9 = .ok (.if_icmp .ge 52, 3) := by decide +kernel
theorem d_Mo_bitsOf_12 : decode b_Mo_bitsOf 12 = .ok (.iload_n 2, 1) := by decide +kernel
theorem d_Mo_bitsOf_13 : decode b_Mo_bitsOf 13 = .ok (.i2l, 1) := by decide +kernel
theorem d_Mo_bitsOf_14 : decode b_Mo_bitsOf 14 = .ok (.iload 5, 2) := by decide +kernel
theorem d_Mo_bitsOf_16 : decode b_Mo_bitsOf 16 = .ok (.i2l, 1) := by decide +kernel
theorem d_Mo_bitsOf_17 : decode b_Mo_bitsOf 17 = .ok (.ladd, 1) := by decide +kernel
theorem d_Mo_bitsOf_18 : decode b_Mo_bitsOf 18 = .ok (.lstore 6, 2) := by decide +kernel
theorem d_Mo_bitsOf_20 : decode b_Mo_bitsOf 20 = .ok (.lload 6, 2) := by decide +kernel
theorem d_Mo_bitsOf_22 : decode b_Mo_bitsOf 22 = .ok (.lconst 0, 1) := by decide +kernel
theorem d_Mo_bitsOf_23 : decode b_Mo_bitsOf 23 = .ok (.lcmp, 1) := by decide +kernel
theorem d_Mo_bitsOf_24 : decode b_Mo_bitsOf 24 = .ok (.ifCond .lt 29, 3) := by decide +kernel
theorem d_Mo_bitsOf_27 : decode b_Mo_bitsOf 27 = .ok (.lload 6, 2) := by decide +kernel
theorem d_Mo_bitsOf_29 : decode b_Mo_bitsOf 29 = .ok (.iload_n 1, 1) := by decide +kernel
theorem d_Mo_bitsOf_30 : decode b_Mo_bitsOf 30 = .ok (.i2l, 1) := by decide +kernel
theorem d_Mo_bitsOf_31 : decode b_Mo_bitsOf 31 = .ok (.lcmp, 1) := by decide +kernel
theorem d_Mo_bitsOf_32 : decode b_Mo_bitsOf 32 = .ok (.ifCond .ge 21, 3) := by decide +kernel
theorem d_Mo_bitsOf_35 : decode b_Mo_bitsOf 35 = .ok (.aload_n 0, 1) := by decide +kernel
theorem d_Mo_bitsOf_36 : decode b_Mo_bitsOf 36 = .ok (.lload 6, 2) := by decide +kernel
theorem d_Mo_bitsOf_38 : decode b_Mo_bitsOf 38 = .ok (.l2i, 1) := by decide +kernel
theorem d_Mo_bitsOf_39 : decode b_Mo_bitsOf 39 = .ok (.iaload, 1) := by decide +kernel
theorem d_Mo_bitsOf_40 : decode b_Mo_bitsOf 40 = .ok (.iconst 1, 1) := by decide +kernel
theorem d_Mo_bitsOf_41 : decode b_Mo_bitsOf 41 = .ok (.if_icmp .ne 12, 3) := by decide +kernel
theorem d_Mo_bitsOf_44 : decode b_Mo_bitsOf 44 = .ok (.lload_n 3, 1) := by decide +kernel
theorem d_Mo_bitsOf_45 : decode b_Mo_bitsOf 45 = .ok (.lconst 1, 1) := by decide +kernel
theorem d_Mo_bitsOf_46 : decode b_Mo_bitsOf 46 = .ok (.iload 5, 2) := by decide +kernel
theorem d_Mo_bitsOf_48 : decode b_Mo_bitsOf 48 = .ok (.lshl, 1) := by decide +kernel
theorem d_Mo_bitsOf_49 : decode b_Mo_bitsOf 49 = .ok (.lor, 1) := by decide +kernel
theorem d_Mo_bitsOf_50 : decode b_Mo_bitsOf 50 = .ok (.goto 4, 3) := by decide +kernel
theorem d_Mo_bitsOf_53 : decode b_Mo_bitsOf 53 = .ok (.lload_n 3, 1) := by decide +kernel
theorem d_Mo_bitsOf_54 : decode b_Mo_bitsOf 54 = .ok (.lstore_n 3, 1) := by decide +kernel
theorem d_Mo_bitsOf_55 : decode b_Mo_bitsOf 55 = .ok (.iinc 5 1, 3) := by decide +kernel
theorem d_Mo_bitsOf_58 : decode b_Mo_bitsOf 58 = .ok (.goto (-53), 3) := by decide +kernel
theorem d_Mo_bitsOf_61 : decode b_Mo_bitsOf 61 = .ok (.lload_n 3, 1) := by decide +kernel
theorem d_Mo_bitsOf_62 : decode b_Mo_bitsOf 62 = .ok (.lreturn, 1) := by decide +kernel
theorem ok_Mo_bitsOf : OKs y_Mo_bitsOf b_Mo_bitsOf 8 (some .long) 3 := ⟨k_1122, k_1121, k_55, by decide +kernel, by decide +kernel, by decide +kernel⟩
abbrev w_Mo_bitsOf (cI cJ : ClassId) (qP0 : Nat) (nP0 : Nat) (p0 : Nat → Int32) : va_W := [(qP0, .inl (cI, nP0, .inl p0))]
def f_Mo_bitsOf_54 (kh5 : Int32 → Int32 → Int64 → Int32 → Option (Int64)) (x1 : Int32) (x2 : Int32) (x5 : Int32) (t0 : Int64) : Option (Int64) :=
  nm (x5 + (1 : Int32)) fun v1 =>
  kh5 x1 x2 t0 v1
def f_Mo_bitsOf_53 (kh5 : Int32 → Int32 → Int64 → Int32 → Option (Int64)) (x1 : Int32) (x2 : Int32) (x3 : Int64) (x5 : Int32) : Option (Int64) :=
  f_Mo_bitsOf_54 kh5 x1 x2 x5 x3
def f_Mo_bitsOf_5_b (p0 : Nat → Int32) (nP0 : Nat) (kh5 : Int32 → Int32 → Int64 → Int32 → Option (Int64)) (x1 : Int32) (x2 : Int32) (x3 : Int64) (x5 : Int32) : Option (Int64) :=
  if (64 : Int32) ≤ x5 then
    some x3
  else
  nm (x2.toInt64 + x5.toInt64) fun v2 =>
  if (lg_cmp v2 (0 : Int64)) < 0 then
    f_Mo_bitsOf_53 kh5 x1 x2 x3 x5
  else
  if 0 ≤ (lg_cmp v2 x1.toInt64) then
    f_Mo_bitsOf_53 kh5 x1 x2 x3 x5
  else
  rdI p0 nP0 v2.toInt32 fun v3 =>
  if v3 = (1 : Int32) then
    f_Mo_bitsOf_54 kh5 x1 x2 x5 (x3 ||| ((1 : Int64) <<< (x5.toInt64 &&& 63)))
  else
  f_Mo_bitsOf_53 kh5 x1 x2 x3 x5
def f_Mo_bitsOf_5 (p0 : Nat → Int32) (nP0 : Nat) : Nat → Int32 → Int32 → Int64 → Int32 → Option (Int64)
  | 0 => fun _ _ _ _ => none
  | n + 1 => fun x1 x2 x3 x5 => f_Mo_bitsOf_5_b p0 nP0 (f_Mo_bitsOf_5 p0 nP0 n) x1 x2 x3 x5
def f_Mo_bitsOf (p0 : Nat → Int32) (nP0 : Nat) (x1 : Int32) (x2 : Int32) : Option (Int64) :=
  f_Mo_bitsOf_5 p0 nP0 10000 x1 x2 (0 : Int64) (0 : Int32)
set_option maxHeartbeats 4000000 in
set_option maxRecDepth 100000 in
theorem c_Mo_bitsOf (l : Launch) (D : va_G) (cI cJ : ClassId) (tt : Nat → Nat) (qP0 : Nat) (nP0 : Nat) (sz : Nat) (p0 : Nat → Int32) (x1 : Int32) (x2 : Int32) (rr : Int64) (hm : f_Mo_bitsOf p0 nP0 x1 x2 = some rr) : CTl l y_Mo_bitsOf b_Mo_bitsOf 8 (some .long) (RM 0 0) D cI cJ tt [.ref qP0, .int x1, .int x2] (w_Mo_bitsOf cI cJ qP0 nP0 p0) (w_Mo_bitsOf cI cJ qP0 nP0 p0) sz rr := by
  refine Met.ofW (cc := b_Mo_bitsOf) (maxL := 8) (ret := (some .long)) (by decide) rfl ?_
  intro p e s m args below meth c s₁ B hml hv
  obtain ⟨hargs, hsz, hP, hK, hD0, hE⟩ := hv
  have hx := B.exec
  have hb := B.bytes
  have hr := B.returns
  have hts : ∀ w ∈ TB, w.before args s = true := z_mV s (atoms_spec (ws := WD y_Mo_bitsOf b_Mo_bitsOf 8 (some .long)) B.pre)
  have hown : s.vm.findClass "DeepChannelModel" = some m.cls := findClass_of_methodNamed B.named
  have hlocks := B.notSynchronized
  subst hsz
  have hD := hD0.self (sz := s.heap.size)
  generalize hAe : va_A (w_Mo_bitsOf cI cJ qP0 nP0 p0) s.heap.size = A at hD hE ⊢
  have hA : ∀ q : Nat, s.heap.size ≤ q → A q := fun q h => by rw [← hAe]; exact Or.inr h
  have hS : va_S A s.heap s.heap [] := va_S.rf
  refine z_entry (vs := [.ref qP0, .int x1, .int x2]) hargs (Nat.le_of_ble_eq_true rfl) (fun ls hl => ?_)
  have hl : lv_has ls 8 [(0, .ref qP0), (1, .int x1), (2, .int x2)] := hl
  show W p l e (RM 0 0) s m args below meth c s.heap [] 0 0 _ _
  refine z_qi (fun Q0 hQ => ?_)
  have F : CallFix p m c b_Mo_bitsOf 8 s args TB "DeepChannelModel" := ⟨hx, hb, hml, hown, hts⟩
  have T5 : ∀ (n5 : Nat) (x1 : Int32) (x2 : Int32) (x3 : Int64) (x5 : Int32), f_Mo_bitsOf_5 p0 nP0 n5 x1 x2 x3 x5 = some rr → ∀ (H : Heap) (locs : List Loc), va_P D classes (w_Mo_bitsOf cI cJ qP0 nP0 p0) H → va_D A (w_Mo_bitsOf cI cJ qP0 nP0 p0) → va_S A s.heap H locs → ∀ (ls : Array Slot), lv_has ls 8 [(0, .ref qP0), (1, .int x1), (2, .int x2), (3, .long x3), (5, .int x5)] → W p l e (RM 0 0) s m args below meth c H locs 0 0 Q0 (F0 m 5 ls []) := by
    intro n5
    induction n5 with
    | zero => intro x1 x2 x3 x5 hm; cases hm
    | succ n5 ih5 =>
      have T54 : ∀ (x1 : Int32) (x2 : Int32) (x5 : Int32) (t0 : Int64), f_Mo_bitsOf_54 (f_Mo_bitsOf_5 p0 nP0 n5) x1 x2 x5 t0 = some rr → ∀ (H : Heap) (locs : List Loc), va_P D classes (w_Mo_bitsOf cI cJ qP0 nP0 p0) H → va_D A (w_Mo_bitsOf cI cJ qP0 nP0 p0) → va_S A s.heap H locs → ∀ (ls : Array Slot), lv_has ls 8 [(0, .ref qP0), (1, .int x1), (2, .int x2), (5, .int x5)] → W p l e (RM 0 0) s m args below meth c H locs 0 0 Q0 (F0 m 54 ls [.long t0]) := by
        intro x1 x2 x5 t0 hm H locs hP hD hS ls hl
        unfold f_Mo_bitsOf_54 at hm
        refine lv_lstore_n (lv' := [(3, .long t0), (0, .ref qP0), (1, .int x1), (2, .int x2), (5, .int x5)]) hx hb d_Mo_bitsOf_54 rfl hl (by decide) rfl (fun ls hl => ?_)
        obtain ⟨v1, ev, hm⟩ := nm_el hm
        refine lv_iinc (v := v1) (lv' := [(5, .int v1), (3, .long t0), (0, .ref qP0), (1, .int x1), (2, .int x2)]) hx hb d_Mo_bitsOf_55 hl (k := 4) rfl (by rw [ev]; rfl) (by decide) rfl (fun ls hl => ?_)
        refine lv_goto (tgt := 5) hx hb d_Mo_bitsOf_58 (by decide) ?_
        exact ih5 x1 x2 t0 v1 hm _ _ hP hD hS _ (lv_sub hl [2, 3, 4, 1, 0] rfl)
      have T53 : ∀ (x1 : Int32) (x2 : Int32) (x3 : Int64) (x5 : Int32), f_Mo_bitsOf_53 (f_Mo_bitsOf_5 p0 nP0 n5) x1 x2 x3 x5 = some rr → ∀ (H : Heap) (locs : List Loc), va_P D classes (w_Mo_bitsOf cI cJ qP0 nP0 p0) H → va_D A (w_Mo_bitsOf cI cJ qP0 nP0 p0) → va_S A s.heap H locs → ∀ (ls : Array Slot), lv_has ls 8 [(0, .ref qP0), (1, .int x1), (2, .int x2), (3, .long x3), (5, .int x5)] → W p l e (RM 0 0) s m args below meth c H locs 0 0 Q0 (F0 m 53 ls []) := by
        intro x1 x2 x3 x5 hm H locs hP hD hS ls hl
        unfold f_Mo_bitsOf_53 at hm
        refine lv_lload_n hx hb d_Mo_bitsOf_53 rfl (lv_at hl 3 rfl) ?_
        exact T54 x1 x2 x5 x3 hm _ _ hP hD hS _ (lv_sub hl [0, 1, 2, 4] rfl)
      intro x1 x2 x3 x5 hm H locs hP hD hS ls hl
      replace hm : f_Mo_bitsOf_5_b p0 nP0 (f_Mo_bitsOf_5 p0 nP0 n5) x1 x2 x3 x5 = some rr := hm
      unfold f_Mo_bitsOf_5_b at hm
      refine lv_iload hx hb d_Mo_bitsOf_5 (lv_at hl 4 rfl) ?_
      refine lv_bipush (v := (64 : Int32)) hx hb d_Mo_bitsOf_7 (by decide) ?_
      refine z_if hm (lv_icmp_ge (tgt := 61) hx hb d_Mo_bitsOf_9 (by decide)) (fun hm => ?_) (fun hm => ?_)
      · refine lv_lload_n hx hb d_Mo_bitsOf_61 rfl (lv_at hl 3 rfl) ?_
        cases hm
        exact z_qo hQ (z_lret hr hx hb hlocks hK hP hD hS d_Mo_bitsOf_62)
      · refine lv_iload_n hx hb d_Mo_bitsOf_12 rfl (lv_at hl 2 rfl) ?_
        refine lv_i2l (v := x2.toInt64) hx hb d_Mo_bitsOf_13 rfl ?_
        refine lv_iload hx hb d_Mo_bitsOf_14 (lv_at hl 4 rfl) ?_
        refine lv_i2l (v := x5.toInt64) hx hb d_Mo_bitsOf_16 rfl ?_
        refine lv_ladd hx hb d_Mo_bitsOf_17 ?_
        refine z_nml hm (fun v2 hm => ?_)
        refine lv_lstore (lv' := [(6, .long v2), (0, .ref qP0), (1, .int x1), (2, .int x2), (3, .long x3), (5, .int x5)]) hx hb d_Mo_bitsOf_18 hl (by decide) rfl (fun ls hl => ?_)
        refine lv_lload hx hb d_Mo_bitsOf_20 (lv_at hl 0 rfl) ?_
        refine lv_lconst (v := (0 : Int64)) hx hb d_Mo_bitsOf_22 (by decide) ?_
        refine W.lcmp hx hb d_Mo_bitsOf_23 ?_
        refine z_if hm (lv_if_lt (tgt := 53) hx hb d_Mo_bitsOf_24 (by decide)) (fun hm => ?_) (fun hm => ?_)
        · exact T53 x1 x2 x3 x5 hm _ _ hP hD hS _ (lv_sub hl [1, 2, 3, 4, 5] rfl)
        · refine lv_lload hx hb d_Mo_bitsOf_27 (lv_at hl 0 rfl) ?_
          refine lv_iload_n hx hb d_Mo_bitsOf_29 rfl (lv_at hl 2 rfl) ?_
          refine lv_i2l (v := x1.toInt64) hx hb d_Mo_bitsOf_30 rfl ?_
          refine W.lcmp hx hb d_Mo_bitsOf_31 ?_
          refine z_if hm (lv_if_ge (tgt := 53) hx hb d_Mo_bitsOf_32 (by decide)) (fun hm => ?_) (fun hm => ?_)
          · exact T53 x1 x2 x3 x5 hm _ _ hP hD hS _ (lv_sub hl [1, 2, 3, 4, 5] rfl)
          · refine lv_aload_n hx hb d_Mo_bitsOf_35 rfl (lv_at hl 1 rfl) ?_
            refine lv_lload hx hb d_Mo_bitsOf_36 (lv_at hl 0 rfl) ?_
            refine lv_l2i (v := v2.toInt32) hx hb d_Mo_bitsOf_38 rfl ?_
            refine z_iald hm hx hb hK hP 0 rfl d_Mo_bitsOf_39 (fun v3 hm => ?_)
            refine lv_iconst (v := (1 : Int32)) hx hb d_Mo_bitsOf_40 (by decide) ?_
            refine z_ifn hm (lv_icmp_ne (tgt := 53) hx hb d_Mo_bitsOf_41 (by decide)) (fun hm => ?_) (fun hm => ?_)
            · refine lv_lload_n hx hb d_Mo_bitsOf_44 rfl (lv_at hl 4 rfl) ?_
              refine lv_lconst (v := (1 : Int64)) hx hb d_Mo_bitsOf_45 (by decide) ?_
              refine lv_iload hx hb d_Mo_bitsOf_46 (lv_at hl 5 rfl) ?_
              refine lv_lshl (v := ((1 : Int64) <<< (x5.toInt64 &&& 63))) hx hb d_Mo_bitsOf_48 rfl ?_
              refine lv_lor hx hb d_Mo_bitsOf_49 ?_
              refine lv_goto (tgt := 54) hx hb d_Mo_bitsOf_50 (by decide) ?_
              exact T54 x1 x2 x5 (x3 ||| ((1 : Int64) <<< (x5.toInt64 &&& 63))) hm _ _ hP hD hS _ (lv_sub hl [1, 2, 3, 5] rfl)
            · exact T53 x1 x2 x3 x5 hm _ _ hP hD hS _ (lv_sub hl [1, 2, 3, 4, 5] rfl)
  unfold f_Mo_bitsOf at hm
  refine lv_lconst (v := (0 : Int64)) hx hb d_Mo_bitsOf_0 (by decide) ?_
  refine lv_lstore_n (lv' := [(3, .long (0 : Int64)), (0, .ref qP0), (1, .int x1), (2, .int x2)]) hx hb d_Mo_bitsOf_1 rfl hl (by decide) rfl (fun ls hl => ?_)
  refine lv_iconst (v := (0 : Int32)) hx hb d_Mo_bitsOf_2 (by decide) ?_
  refine lv_istore (lv' := [(5, .int (0 : Int32)), (3, .long (0 : Int64)), (0, .ref qP0), (1, .int x1), (2, .int x2)]) hx hb d_Mo_bitsOf_3 hl (by decide) rfl (fun ls hl => ?_)
  exact T5 10000 x1 x2 (0 : Int64) (0 : Int32) hm _ _ hP hD hS _ (lv_sub hl [2, 3, 4, 1, 0] rfl)
-- DeepChannelModel.line(I)J
abbrev b_Mo_line : ByteArray := prog_13_method_33_code
abbrev y_Mo_line : MethodName := ⟨"DeepChannelModel", "line", "(I)J"⟩
theorem d_Mo_line_0 : decode b_Mo_line 0 = .ok (.aload_n 0, 1) := by decide +kernel
theorem d_Mo_line_1 : decode b_Mo_line 1 = .ok (.iconst 0, 1) := by decide +kernel
theorem d_Mo_line_2 : decode b_Mo_line 2 = .ok (.putfield 103, 3) := by decide +kernel
theorem d_Mo_line_5 : decode b_Mo_line 5 = .ok (.aload_n 0, 1) := by decide +kernel
theorem d_Mo_line_6 : decode b_Mo_line 6 = .ok (.getfield 50, 3) := by decide +kernel
theorem d_Mo_line_9 : decode b_Mo_line 9 = .ok (.aload_n 0, 1) := by decide +kernel
theorem d_Mo_line_10 : decode b_Mo_line 10 = .ok (.getfield 120, 3) := by decide +kernel
theorem d_Mo_line_13 : decode b_Mo_line 13 = .ok (.iload_n 1, 1) := by decide +kernel
theorem d_Mo_line_14 : decode b_Mo_line 14 = .ok (.invokestatic 209, 3) := by decide +kernel
theorem d_Mo_line_17 : decode b_Mo_line 17 = .ok (.lreturn, 1) := by decide +kernel
theorem ok_Mo_line : OKv y_Mo_line b_Mo_line 2 (some .long) "DeepChannelModel" 1 := ⟨k_1119, k_1117, k_1118, k_55, by decide +kernel, by decide +kernel, by decide +kernel⟩
abbrev w_Mo_line (cI cJ : ClassId) (qM qM_line : Nat) (M_depth M_fill M_half M_pattern M_craft M_begins M_firsts M_seconds M_powers M_logarithms M_forms M_elements M_mixer M_data M_waiting M_master M_counts M_sent M_state M_places M_least M_row M_rowSize M_differ M_blocks M_marks M_wrongs M_bytes M_rights M_tells M_lastMaster M_lastCounts M_word M_values M_system M_solved M_wrong : Value) (M_thrown : Int32) (M_length : Int32) (M_line : Nat → Int32) : va_W := [(qM, .inr (11, [.int M_thrown, M_depth, M_fill, M_half, M_pattern, M_craft, M_begins, M_firsts, M_seconds, M_powers, M_logarithms, M_forms, M_elements, M_mixer, M_data, M_waiting, M_master, M_counts, .ref qM_line, .int M_length, M_sent, M_state, M_places, M_least, M_row, M_rowSize, M_differ, M_blocks, M_marks, M_wrongs, M_bytes, M_rights, M_tells, M_lastMaster, M_lastCounts, M_word, M_values, M_system, M_solved, M_wrong])), (qM_line, .inl (cI, 4096, .inl M_line))]
def f_Mo_line (M_thrown : Int32) (M_length : Int32) (M_line : Nat → Int32) (x1 : Int32) : Option (Int64 × Int32) :=
  bd (f_Mo_bitsOf M_line 4096 M_length x1) fun u2 =>
  nm u2 fun r1 =>
  some (r1, (0 : Int32))
set_option maxHeartbeats 4000000 in
set_option maxRecDepth 100000 in
theorem c_Mo_line (l : Launch) (D : va_G) (cI cJ : ClassId) (tt : Nat → Nat) (qM qM_line : Nat) (M_depth M_fill M_half M_pattern M_craft M_begins M_firsts M_seconds M_powers M_logarithms M_forms M_elements M_mixer M_data M_waiting M_master M_counts M_sent M_state M_places M_least M_row M_rowSize M_differ M_blocks M_marks M_wrongs M_bytes M_rights M_tells M_lastMaster M_lastCounts M_word M_values M_system M_solved M_wrong : Value) (sz : Nat) (M_thrown : Int32) (M_length : Int32) (M_line : Nat → Int32) (x1 : Int32) (rr : Int64) (M_thrown' : Int32) (hm : f_Mo_line M_thrown M_length M_line x1 = some (rr, M_thrown')) : CTl l y_Mo_line b_Mo_line 2 (some .long) (RM 1 27) D cI cJ tt [.ref qM, .int x1] (w_Mo_line cI cJ qM qM_line M_depth M_fill M_half M_pattern M_craft M_begins M_firsts M_seconds M_powers M_logarithms M_forms M_elements M_mixer M_data M_waiting M_master M_counts M_sent M_state M_places M_least M_row M_rowSize M_differ M_blocks M_marks M_wrongs M_bytes M_rights M_tells M_lastMaster M_lastCounts M_word M_values M_system M_solved M_wrong M_thrown M_length M_line) (w_Mo_line cI cJ qM qM_line M_depth M_fill M_half M_pattern M_craft M_begins M_firsts M_seconds M_powers M_logarithms M_forms M_elements M_mixer M_data M_waiting M_master M_counts M_sent M_state M_places M_least M_row M_rowSize M_differ M_blocks M_marks M_wrongs M_bytes M_rights M_tells M_lastMaster M_lastCounts M_word M_values M_system M_solved M_wrong M_thrown' M_length M_line) sz rr := by
  refine Met.ofW (cc := b_Mo_line) (maxL := 2) (ret := (some .long)) (by decide) rfl ?_
  intro p e s m args below meth c s₁ B hml hv
  obtain ⟨hargs, hsz, hP, hK, hD0, hE⟩ := hv
  have hx := B.exec
  have hb := B.bytes
  have hr := B.returns
  have hts : ∀ w ∈ TB, w.before args s = true := z_mV s (atoms_spec (ws := WD y_Mo_line b_Mo_line 2 (some .long)) B.pre)
  have hown : s.vm.findClass "DeepChannelModel" = some m.cls := findClass_of_methodNamed B.named
  have hlocks := B.notSynchronized
  subst hsz
  have hD := hD0.self (sz := s.heap.size)
  generalize hAe : va_A (w_Mo_line cI cJ qM qM_line M_depth M_fill M_half M_pattern M_craft M_begins M_firsts M_seconds M_powers M_logarithms M_forms M_elements M_mixer M_data M_waiting M_master M_counts M_sent M_state M_places M_least M_row M_rowSize M_differ M_blocks M_marks M_wrongs M_bytes M_rights M_tells M_lastMaster M_lastCounts M_word M_values M_system M_solved M_wrong M_thrown M_length M_line) s.heap.size = A at hD hE ⊢
  have hA : ∀ q : Nat, s.heap.size ≤ q → A q := fun q h => by rw [← hAe]; exact Or.inr h
  have hS : va_S A s.heap s.heap [] := va_S.rf
  refine z_entry (vs := [.ref qM, .int x1]) hargs (Nat.le_of_ble_eq_true rfl) (fun ls hl => ?_)
  have hl : lv_has ls 2 [(0, .ref qM), (1, .int x1)] := hl
  show W p l e (RM 1 27) s m args below meth c s.heap [] 0 0 _ _
  refine z_qi (fun Q0 hQ => ?_)
  have F : CallFix p m c b_Mo_line 2 s args TB "DeepChannelModel" := ⟨hx, hb, hml, hown, hts⟩
  unfold f_Mo_line at hm
  refine lv_aload_n hx hb d_Mo_line_0 rfl (lv_at hl 0 rfl) ?_
  refine lv_iconst (v := (0 : Int32)) hx hb d_Mo_line_1 (by decide) ?_
  refine va_put (D := D) (ci := 11) (v := .int (0 : Int32)) (ty := .int) (C := "DeepChannelModel") (T := fT_Mo) (N := 40) hx hb hts u_Mo fY_Mo fK_Mo fN_Mo hown hK hP hD hS 0 rfl rfl 0 (by decide) (hts _ k_886) (fun _ h9 => h9) rfl (by decide +kernel) rfl rfl (Nat.le_of_ble_eq_true rfl) d_Mo_line_2 (fun H locs hP hD hS => ?_)
  have hP : va_P D classes (w_Mo_line cI cJ qM qM_line M_depth M_fill M_half M_pattern M_craft M_begins M_firsts M_seconds M_powers M_logarithms M_forms M_elements M_mixer M_data M_waiting M_master M_counts M_sent M_state M_places M_least M_row M_rowSize M_differ M_blocks M_marks M_wrongs M_bytes M_rights M_tells M_lastMaster M_lastCounts M_word M_values M_system M_solved M_wrong (0 : Int32) M_length M_line) H := hP
  have hD : va_D A (w_Mo_line cI cJ qM qM_line M_depth M_fill M_half M_pattern M_craft M_begins M_firsts M_seconds M_powers M_logarithms M_forms M_elements M_mixer M_data M_waiting M_master M_counts M_sent M_state M_places M_least M_row M_rowSize M_differ M_blocks M_marks M_wrongs M_bytes M_rights M_tells M_lastMaster M_lastCounts M_word M_values M_system M_solved M_wrong (0 : Int32) M_length M_line) := hD
  refine lv_aload_n hx hb d_Mo_line_5 rfl (lv_at hl 0 rfl) ?_
  refine va_get (D := D) (ci := 11) (v := .ref qM_line) (C := "DeepChannelModel") (T := fT_Mo) (N := 40) hx hb hts u_Mo hown hK hP 0 rfl rfl 18 (by decide) (hts _ k_904) (fun _ h9 => h9) rfl d_Mo_line_6 ?_
  refine lv_aload_n hx hb d_Mo_line_9 rfl (lv_at hl 0 rfl) ?_
  refine va_get (D := D) (ci := 11) (v := .int M_length) (C := "DeepChannelModel") (T := fT_Mo) (N := 40) hx hb hts u_Mo hown hK hP 0 rfl rfl 19 (by decide) (hts _ k_905) (fun _ h9 => h9) rfl d_Mo_line_10 ?_
  refine lv_iload_n hx hb d_Mo_line_13 rfl (lv_at hl 1 rfl) ?_
  obtain ⟨r1, hu, hm⟩ := bd_el hm
  replace hm := nm_1 hm
  refine z_cSl (wc := w_Mo_bitsOf cI cJ qM_line 4096 M_line) (wc' := w_Mo_bitsOf cI cJ qM_line 4096 M_line) (wr := [(qM, .inr (11, [.int (0 : Int32), M_depth, M_fill, M_half, M_pattern, M_craft, M_begins, M_firsts, M_seconds, M_powers, M_logarithms, M_forms, M_elements, M_mixer, M_data, M_waiting, M_master, M_counts, .ref qM_line, .int M_length, M_sent, M_state, M_places, M_least, M_row, M_rowSize, M_differ, M_blocks, M_marks, M_wrongs, M_bytes, M_rights, M_tells, M_lastMaster, M_lastCounts, M_word, M_values, M_system, M_solved, M_wrong]))]) (As := [.ref qM_line, .int M_length, .int x1]) (rest := []) (c_Mo_bitsOf l D cI cJ tt qM_line 4096 _ M_line M_length x1 r1 hu) F ok_Mo_bitsOf k_1120 hK hE hP hD hS hA [1] [0] rfl rfl (by decide) (by decide) (by decide) ⟨rfl, rfl, Nat.le_of_ble_eq_true rfl, Nat.le_of_ble_eq_true rfl⟩ ⟨Nat.zero_le _, Nat.zero_le _⟩ rfl hl.1 rfl (Nat.le_of_ble_eq_true rfl) d_Mo_line_14 (fun H locs hP hD hS => ?_)
  have hP : va_P D classes (w_Mo_line cI cJ qM qM_line M_depth M_fill M_half M_pattern M_craft M_begins M_firsts M_seconds M_powers M_logarithms M_forms M_elements M_mixer M_data M_waiting M_master M_counts M_sent M_state M_places M_least M_row M_rowSize M_differ M_blocks M_marks M_wrongs M_bytes M_rights M_tells M_lastMaster M_lastCounts M_word M_values M_system M_solved M_wrong (0 : Int32) M_length M_line) H := hP.sub [0, 1] rfl
  have hD : va_D A (w_Mo_line cI cJ qM qM_line M_depth M_fill M_half M_pattern M_craft M_begins M_firsts M_seconds M_powers M_logarithms M_forms M_elements M_mixer M_data M_waiting M_master M_counts M_sent M_state M_places M_least M_row M_rowSize M_differ M_blocks M_marks M_wrongs M_bytes M_rights M_tells M_lastMaster M_lastCounts M_word M_values M_system M_solved M_wrong (0 : Int32) M_length M_line) := hD.sub [0, 1] (by decide) rfl
  cases hm
  exact z_qo hQ (z_lret hr hx hb hlocks hK hP hD hS d_Mo_line_17)
-- DeepChannelModel.decoded(I)J
abbrev b_Mo_decoded : ByteArray := prog_13_method_34_code
abbrev y_Mo_decoded : MethodName := ⟨"DeepChannelModel", "decoded", "(I)J"⟩
theorem d_Mo_decoded_0 : decode b_Mo_decoded 0 = .ok (.aload_n 0, 1) := by decide +kernel
theorem d_Mo_decoded_1 : decode b_Mo_decoded 1 = .ok (.iconst 0, 1) := by decide +kernel
theorem d_Mo_decoded_2 : decode b_Mo_decoded 2 = .ok (.putfield 103, 3) := by decide +kernel
theorem d_Mo_decoded_5 : decode b_Mo_decoded 5 = .ok (.aload_n 0, 1) := by decide +kernel
theorem d_Mo_decoded_6 : decode b_Mo_decoded 6 = .ok (.getfield 60, 3) := by decide +kernel
theorem d_Mo_decoded_9 : decode b_Mo_decoded 9 = .ok (.aload_n 0, 1) := by decide +kernel
theorem d_Mo_decoded_10 : decode b_Mo_decoded 10 = .ok (.getfield 129, 3) := by decide +kernel
theorem d_Mo_decoded_13 : decode b_Mo_decoded 13 = .ok (.iload_n 1, 1) := by decide +kernel
theorem d_Mo_decoded_14 : decode b_Mo_decoded 14 = .ok (.invokestatic 209, 3) := by decide +kernel
theorem d_Mo_decoded_17 : decode b_Mo_decoded 17 = .ok (.lreturn, 1) := by decide +kernel
theorem ok_Mo_decoded : OKv y_Mo_decoded b_Mo_decoded 2 (some .long) "DeepChannelModel" 1 := ⟨k_1126, k_1124, k_1125, k_55, by decide +kernel, by decide +kernel, by decide +kernel⟩
abbrev w_Mo_decoded (cI cJ : ClassId) (qM qM_row : Nat) (M_depth M_fill M_half M_pattern M_craft M_begins M_firsts M_seconds M_powers M_logarithms M_forms M_elements M_mixer M_data M_waiting M_master M_counts M_line M_length M_sent M_state M_places M_least M_differ M_blocks M_marks M_wrongs M_bytes M_rights M_tells M_lastMaster M_lastCounts M_word M_values M_system M_solved M_wrong : Value) (M_thrown : Int32) (M_rowSize : Int32) (M_row : Nat → Int32) : va_W := [(qM, .inr (11, [.int M_thrown, M_depth, M_fill, M_half, M_pattern, M_craft, M_begins, M_firsts, M_seconds, M_powers, M_logarithms, M_forms, M_elements, M_mixer, M_data, M_waiting, M_master, M_counts, M_line, M_length, M_sent, M_state, M_places, M_least, .ref qM_row, .int M_rowSize, M_differ, M_blocks, M_marks, M_wrongs, M_bytes, M_rights, M_tells, M_lastMaster, M_lastCounts, M_word, M_values, M_system, M_solved, M_wrong])), (qM_row, .inl (cI, 3600, .inl M_row))]
def f_Mo_decoded (M_thrown : Int32) (M_rowSize : Int32) (M_row : Nat → Int32) (x1 : Int32) : Option (Int64 × Int32) :=
  bd (f_Mo_bitsOf M_row 3600 M_rowSize x1) fun u2 =>
  nm u2 fun r1 =>
  some (r1, (0 : Int32))
set_option maxHeartbeats 4000000 in
set_option maxRecDepth 100000 in
theorem c_Mo_decoded (l : Launch) (D : va_G) (cI cJ : ClassId) (tt : Nat → Nat) (qM qM_row : Nat) (M_depth M_fill M_half M_pattern M_craft M_begins M_firsts M_seconds M_powers M_logarithms M_forms M_elements M_mixer M_data M_waiting M_master M_counts M_line M_length M_sent M_state M_places M_least M_differ M_blocks M_marks M_wrongs M_bytes M_rights M_tells M_lastMaster M_lastCounts M_word M_values M_system M_solved M_wrong : Value) (sz : Nat) (M_thrown : Int32) (M_rowSize : Int32) (M_row : Nat → Int32) (x1 : Int32) (rr : Int64) (M_thrown' : Int32) (hm : f_Mo_decoded M_thrown M_rowSize M_row x1 = some (rr, M_thrown')) : CTl l y_Mo_decoded b_Mo_decoded 2 (some .long) (RM 1 27) D cI cJ tt [.ref qM, .int x1] (w_Mo_decoded cI cJ qM qM_row M_depth M_fill M_half M_pattern M_craft M_begins M_firsts M_seconds M_powers M_logarithms M_forms M_elements M_mixer M_data M_waiting M_master M_counts M_line M_length M_sent M_state M_places M_least M_differ M_blocks M_marks M_wrongs M_bytes M_rights M_tells M_lastMaster M_lastCounts M_word M_values M_system M_solved M_wrong M_thrown M_rowSize M_row) (w_Mo_decoded cI cJ qM qM_row M_depth M_fill M_half M_pattern M_craft M_begins M_firsts M_seconds M_powers M_logarithms M_forms M_elements M_mixer M_data M_waiting M_master M_counts M_line M_length M_sent M_state M_places M_least M_differ M_blocks M_marks M_wrongs M_bytes M_rights M_tells M_lastMaster M_lastCounts M_word M_values M_system M_solved M_wrong M_thrown' M_rowSize M_row) sz rr := by
  refine Met.ofW (cc := b_Mo_decoded) (maxL := 2) (ret := (some .long)) (by decide) rfl ?_
  intro p e s m args below meth c s₁ B hml hv
  obtain ⟨hargs, hsz, hP, hK, hD0, hE⟩ := hv
  have hx := B.exec
  have hb := B.bytes
  have hr := B.returns
  have hts : ∀ w ∈ TB, w.before args s = true := z_mV s (atoms_spec (ws := WD y_Mo_decoded b_Mo_decoded 2 (some .long)) B.pre)
  have hown : s.vm.findClass "DeepChannelModel" = some m.cls := findClass_of_methodNamed B.named
  have hlocks := B.notSynchronized
  subst hsz
  have hD := hD0.self (sz := s.heap.size)
  generalize hAe : va_A (w_Mo_decoded cI cJ qM qM_row M_depth M_fill M_half M_pattern M_craft M_begins M_firsts M_seconds M_powers M_logarithms M_forms M_elements M_mixer M_data M_waiting M_master M_counts M_line M_length M_sent M_state M_places M_least M_differ M_blocks M_marks M_wrongs M_bytes M_rights M_tells M_lastMaster M_lastCounts M_word M_values M_system M_solved M_wrong M_thrown M_rowSize M_row) s.heap.size = A at hD hE ⊢
  have hA : ∀ q : Nat, s.heap.size ≤ q → A q := fun q h => by rw [← hAe]; exact Or.inr h
  have hS : va_S A s.heap s.heap [] := va_S.rf
  refine z_entry (vs := [.ref qM, .int x1]) hargs (Nat.le_of_ble_eq_true rfl) (fun ls hl => ?_)
  have hl : lv_has ls 2 [(0, .ref qM), (1, .int x1)] := hl
  show W p l e (RM 1 27) s m args below meth c s.heap [] 0 0 _ _
  refine z_qi (fun Q0 hQ => ?_)
  have F : CallFix p m c b_Mo_decoded 2 s args TB "DeepChannelModel" := ⟨hx, hb, hml, hown, hts⟩
  unfold f_Mo_decoded at hm
  refine lv_aload_n hx hb d_Mo_decoded_0 rfl (lv_at hl 0 rfl) ?_
  refine lv_iconst (v := (0 : Int32)) hx hb d_Mo_decoded_1 (by decide) ?_
  refine va_put (D := D) (ci := 11) (v := .int (0 : Int32)) (ty := .int) (C := "DeepChannelModel") (T := fT_Mo) (N := 40) hx hb hts u_Mo fY_Mo fK_Mo fN_Mo hown hK hP hD hS 0 rfl rfl 0 (by decide) (hts _ k_886) (fun _ h9 => h9) rfl (by decide +kernel) rfl rfl (Nat.le_of_ble_eq_true rfl) d_Mo_decoded_2 (fun H locs hP hD hS => ?_)
  have hP : va_P D classes (w_Mo_decoded cI cJ qM qM_row M_depth M_fill M_half M_pattern M_craft M_begins M_firsts M_seconds M_powers M_logarithms M_forms M_elements M_mixer M_data M_waiting M_master M_counts M_line M_length M_sent M_state M_places M_least M_differ M_blocks M_marks M_wrongs M_bytes M_rights M_tells M_lastMaster M_lastCounts M_word M_values M_system M_solved M_wrong (0 : Int32) M_rowSize M_row) H := hP
  have hD : va_D A (w_Mo_decoded cI cJ qM qM_row M_depth M_fill M_half M_pattern M_craft M_begins M_firsts M_seconds M_powers M_logarithms M_forms M_elements M_mixer M_data M_waiting M_master M_counts M_line M_length M_sent M_state M_places M_least M_differ M_blocks M_marks M_wrongs M_bytes M_rights M_tells M_lastMaster M_lastCounts M_word M_values M_system M_solved M_wrong (0 : Int32) M_rowSize M_row) := hD
  refine lv_aload_n hx hb d_Mo_decoded_5 rfl (lv_at hl 0 rfl) ?_
  refine va_get (D := D) (ci := 11) (v := .ref qM_row) (C := "DeepChannelModel") (T := fT_Mo) (N := 40) hx hb hts u_Mo hown hK hP 0 rfl rfl 24 (by decide) (hts _ k_910) (fun _ h9 => h9) rfl d_Mo_decoded_6 ?_
  refine lv_aload_n hx hb d_Mo_decoded_9 rfl (lv_at hl 0 rfl) ?_
  refine va_get (D := D) (ci := 11) (v := .int M_rowSize) (C := "DeepChannelModel") (T := fT_Mo) (N := 40) hx hb hts u_Mo hown hK hP 0 rfl rfl 25 (by decide) (hts _ k_911) (fun _ h9 => h9) rfl d_Mo_decoded_10 ?_
  refine lv_iload_n hx hb d_Mo_decoded_13 rfl (lv_at hl 1 rfl) ?_
  obtain ⟨r1, hu, hm⟩ := bd_el hm
  replace hm := nm_1 hm
  refine z_cSl (wc := w_Mo_bitsOf cI cJ qM_row 3600 M_row) (wc' := w_Mo_bitsOf cI cJ qM_row 3600 M_row) (wr := [(qM, .inr (11, [.int (0 : Int32), M_depth, M_fill, M_half, M_pattern, M_craft, M_begins, M_firsts, M_seconds, M_powers, M_logarithms, M_forms, M_elements, M_mixer, M_data, M_waiting, M_master, M_counts, M_line, M_length, M_sent, M_state, M_places, M_least, .ref qM_row, .int M_rowSize, M_differ, M_blocks, M_marks, M_wrongs, M_bytes, M_rights, M_tells, M_lastMaster, M_lastCounts, M_word, M_values, M_system, M_solved, M_wrong]))]) (As := [.ref qM_row, .int M_rowSize, .int x1]) (rest := []) (c_Mo_bitsOf l D cI cJ tt qM_row 3600 _ M_row M_rowSize x1 r1 hu) F ok_Mo_bitsOf k_1120 hK hE hP hD hS hA [1] [0] rfl rfl (by decide) (by decide) (by decide) ⟨rfl, rfl, Nat.le_of_ble_eq_true rfl, Nat.le_of_ble_eq_true rfl⟩ ⟨Nat.zero_le _, Nat.zero_le _⟩ rfl hl.1 rfl (Nat.le_of_ble_eq_true rfl) d_Mo_decoded_14 (fun H locs hP hD hS => ?_)
  have hP : va_P D classes (w_Mo_decoded cI cJ qM qM_row M_depth M_fill M_half M_pattern M_craft M_begins M_firsts M_seconds M_powers M_logarithms M_forms M_elements M_mixer M_data M_waiting M_master M_counts M_line M_length M_sent M_state M_places M_least M_differ M_blocks M_marks M_wrongs M_bytes M_rights M_tells M_lastMaster M_lastCounts M_word M_values M_system M_solved M_wrong (0 : Int32) M_rowSize M_row) H := hP.sub [0, 1] rfl
  have hD : va_D A (w_Mo_decoded cI cJ qM qM_row M_depth M_fill M_half M_pattern M_craft M_begins M_firsts M_seconds M_powers M_logarithms M_forms M_elements M_mixer M_data M_waiting M_master M_counts M_line M_length M_sent M_state M_places M_least M_differ M_blocks M_marks M_wrongs M_bytes M_rights M_tells M_lastMaster M_lastCounts M_word M_values M_system M_solved M_wrong (0 : Int32) M_rowSize M_row) := hD.sub [0, 1] (by decide) rfl
  cases hm
  exact z_qo hQ (z_lret hr hx hb hlocks hK hP hD hS d_Mo_decoded_17)
-- DeepChannelModel.cost(III)I
abbrev b_Mo_cost : ByteArray := prog_13_method_35_code
abbrev y_Mo_cost : MethodName := ⟨"DeepChannelModel", "cost", "(III)I"⟩
theorem d_Mo_cost_0 : decode b_Mo_cost 0 = .ok (.iload_n 3, 1) := by decide +kernel
theorem d_Mo_cost_1 : decode b_Mo_cost 1 = .ok (.bipush 6, 2) := by decide +kernel
theorem d_Mo_cost_3 : decode b_Mo_cost 3 = .ok (.ishl, 1) := by decide +kernel
theorem d_Mo_cost_4 : decode b_Mo_cost 4 = .ok (.iload_n 2, 1) := by decide +kernel
theorem d_Mo_cost_5 : decode b_Mo_cost 5 = .ok (.ior, 1) := by decide +kernel
theorem d_Mo_cost_6 : decode b_Mo_cost 6 = .ok (.istore 4, 2) := by decide +kernel
theorem d_Mo_cost_8 : decode b_Mo_cost 8 = .ok (.aload_n 0, 1) := by decide +kernel
theorem d_Mo_cost_9 : decode b_Mo_cost 9 = .ok (.getfield 53, 3) := by decide +kernel
theorem d_Mo_cost_12 : decode b_Mo_cost 12 = .ok (.iload_n 1, 1) := by decide +kernel
theorem d_Mo_cost_13 : decode b_Mo_cost 13 = .ok (.iaload, 1) := by decide +kernel
theorem d_Mo_cost_14 : decode b_Mo_cost 14 = .ok (.istore 5, 2) := by decide +kernel
theorem d_Mo_cost_16 : decode b_Mo_cost 16 = .ok (.iconst 0, 1) := by decide +kernel
theorem d_Mo_cost_17 : decode b_Mo_cost 17 = .ok (.istore 6, 2) := by decide +kernel
theorem d_Mo_cost_19 : decode b_Mo_cost 19 = .ok (.aload_n 0, 1) := by decide +kernel
theorem d_Mo_cost_20 : decode b_Mo_cost 20 = .ok (.aload_n 0, 1) := by decide +kernel
theorem d_Mo_cost_21 : decode b_Mo_cost 21 = .ok (.getfield 23, 3) := by decide +kernel
theorem d_Mo_cost_24 : decode b_Mo_cost 24 = .ok (.iload_n 1, 1) := by decide +kernel
theorem d_Mo_cost_25 : decode b_Mo_cost 25 = .ok (.invokevirtual 156, 3) := by decide +kernel
theorem d_Mo_cost_28 : decode b_Mo_cost 28 = .ok (.iconst 1, 1) := by decide +kernel
theorem d_Mo_cost_29 : decode b_Mo_cost 29 = .ok (.if_icmp .ne 31, 3) := by decide +kernel
theorem d_Mo_cost_32 : decode b_Mo_cost 32 = .ok (.aload_n 0, 1) := by decide +kernel
theorem d_Mo_cost_33 : decode b_Mo_cost 33 = .ok (.getfield 50, 3) := by decide +kernel
theorem d_Mo_cost_36 : decode b_Mo_cost 36 = .ok (.iload 5, 2) := by decide +kernel
theorem d_Mo_cost_38 : decode b_Mo_cost 38 = .ok (.iaload, 1) := by decide +kernel
theorem d_Mo_cost_39 : decode b_Mo_cost 39 = .ok (.iload 4, 2) := by decide +kernel
theorem d_Mo_cost_41 : decode b_Mo_cost 41 = .ok (.bipush 121, 2) := by decide +kernel
theorem d_Mo_cost_43 : decode b_Mo_cost 43 = .ok (.iand, 1) := by decide +kernel
theorem d_Mo_cost_44 : decode b_Mo_cost 44 = .ok (.invokestatic 160, 3) := by decide +kernel
theorem d_Mo_cost_47 : decode b_Mo_cost 47 = .ok (.if_icmp .eq 7, 3) := by decide +kernel
theorem d_Mo_cost_50 : decode b_Mo_cost 50 = .ok (.iconst 1, 1) := by decide +kernel
theorem d_Mo_cost_51 : decode b_Mo_cost 51 = .ok (.goto 4, 3) := by decide +kernel
theorem d_Mo_cost_54 : decode b_Mo_cost 54 = .ok (.iconst 0, 1) := by decide +kernel
theorem d_Mo_cost_55 : decode b_Mo_cost 55 = .ok (.istore 6, 2) := by decide +kernel
theorem d_Mo_cost_57 : decode b_Mo_cost 57 = .ok (.iinc 5 1, 3) := by decide +kernel
theorem d_Mo_cost_60 : decode b_Mo_cost 60 = .ok (.aload_n 0, 1) := by decide +kernel
theorem d_Mo_cost_61 : decode b_Mo_cost 61 = .ok (.aload_n 0, 1) := by decide +kernel
theorem d_Mo_cost_62 : decode b_Mo_cost 62 = .ok (.getfield 26, 3) := by decide +kernel
theorem d_Mo_cost_65 : decode b_Mo_cost 65 = .ok (.iload_n 1, 1) := by decide +kernel
theorem d_Mo_cost_66 : decode b_Mo_cost 66 = .ok (.invokevirtual 156, 3) := by decide +kernel
theorem d_Mo_cost_69 : decode b_Mo_cost 69 = .ok (.iconst 1, 1) := by decide +kernel
theorem d_Mo_cost_70 : decode b_Mo_cost 70 = .ok (.if_icmp .ne 31, 3) := by decide +kernel
theorem d_Mo_cost_73 : decode b_Mo_cost 73 = .ok (.iload 6, 2) := by decide +kernel
theorem d_Mo_cost_75 : decode b_Mo_cost 75 = .ok (.aload_n 0, 1) := by decide +kernel
theorem d_Mo_cost_76 : decode b_Mo_cost 76 = .ok (.getfield 50, 3) := by decide +kernel
theorem d_Mo_cost_79 : decode b_Mo_cost 79 = .ok (.iload 5, 2) := by decide +kernel
theorem d_Mo_cost_81 : decode b_Mo_cost 81 = .ok (.iaload, 1) := by decide +kernel
theorem d_Mo_cost_82 : decode b_Mo_cost 82 = .ok (.iload 4, 2) := by decide +kernel
theorem d_Mo_cost_84 : decode b_Mo_cost 84 = .ok (.bipush 91, 2) := by decide +kernel
theorem d_Mo_cost_86 : decode b_Mo_cost 86 = .ok (.iand, 1) := by decide +kernel
theorem d_Mo_cost_87 : decode b_Mo_cost 87 = .ok (.invokestatic 160, 3) := by decide +kernel
theorem d_Mo_cost_90 : decode b_Mo_cost 90 = .ok (.if_icmp .ne 7, 3) := by decide +kernel
theorem d_Mo_cost_93 : decode b_Mo_cost 93 = .ok (.iconst 1, 1) := by decide +kernel
theorem d_Mo_cost_94 : decode b_Mo_cost 94 = .ok (.goto 4, 3) := by decide +kernel
theorem d_Mo_cost_97 : decode b_Mo_cost 97 = .ok (.iconst 0, 1) := by decide +kernel
theorem d_Mo_cost_98 : decode b_Mo_cost 98 = .ok (.iadd, 1) := by decide +kernel
theorem d_Mo_cost_99 : decode b_Mo_cost 99 = .ok (.istore 6, 2) := by decide +kernel
theorem d_Mo_cost_101 : decode b_Mo_cost 101 = .ok (.iload 6, 2) := by decide +kernel
theorem d_Mo_cost_103 : decode b_Mo_cost 103 = .ok (.ireturn, 1) := by decide +kernel
theorem ok_Mo_cost : OKv y_Mo_cost b_Mo_cost 7 (some .int) "DeepChannelModel" 3 := ⟨k_1142, k_1141, k_34, k_55, by decide +kernel, by decide +kernel, by decide +kernel⟩
abbrev w_Mo_cost (cI cJ : ClassId) (qM qM_places qM_begins qM_firsts qM_seconds qM_line : Nat) (M_thrown M_depth M_fill M_half M_craft M_powers M_logarithms M_forms M_elements M_mixer M_data M_waiting M_master M_counts M_length M_sent M_state M_least M_row M_rowSize M_differ M_blocks M_marks M_wrongs M_bytes M_rights M_tells M_lastMaster M_lastCounts M_word M_values M_system M_solved M_wrong : Value) (M_pattern : Int32) (M_places : Nat → Int32) (M_begins : Nat → Int32) (M_firsts : Nat → Int32) (M_seconds : Nat → Int32) (M_line : Nat → Int32) : va_W := [(qM, .inr (11, [M_thrown, M_depth, M_fill, M_half, .int M_pattern, M_craft, .ref qM_begins, .ref qM_firsts, .ref qM_seconds, M_powers, M_logarithms, M_forms, M_elements, M_mixer, M_data, M_waiting, M_master, M_counts, .ref qM_line, M_length, M_sent, M_state, .ref qM_places, M_least, M_row, M_rowSize, M_differ, M_blocks, M_marks, M_wrongs, M_bytes, M_rights, M_tells, M_lastMaster, M_lastCounts, M_word, M_values, M_system, M_solved, M_wrong])), (qM_places, .inl (cI, 3600, .inl M_places)), (qM_begins, .inl (cI, 6, .inl M_begins)), (qM_firsts, .inl (cI, 18, .inl M_firsts)), (qM_seconds, .inl (cI, 18, .inl M_seconds)), (qM_line, .inl (cI, 4096, .inl M_line))]
def f_Mo_cost_60 (M_pattern : Int32) (M_begins : Nat → Int32) (M_seconds : Nat → Int32) (M_line : Nat → Int32) (x1 : Int32) (x4 : Int32) (x5 : Int32) (x6 : Int32) : Option (Int32) :=
  bd (f_Mo_kept M_pattern M_begins M_seconds 18 x1) fun u2 =>
  nm u2 fun r1 =>
  if r1 = (1 : Int32) then
    rdI M_line 4096 x5 fun v3 =>
    bd (f_Mo_odd (x4 &&& (91 : Int32))) fun u5 =>
    nm u5 fun r4 =>
    if v3 = r4 then
      nm (x6 + (1 : Int32)) fun v7 =>
      some v7
    else
    nm (x6 + (0 : Int32)) fun v6 =>
    some v6
  else
  some x6
def f_Mo_cost_55 (M_pattern : Int32) (M_begins : Nat → Int32) (M_seconds : Nat → Int32) (M_line : Nat → Int32) (x1 : Int32) (x4 : Int32) (x5 : Int32) (t0 : Int32) : Option (Int32) :=
  nm (x5 + (1 : Int32)) fun v8 =>
  f_Mo_cost_60 M_pattern M_begins M_seconds M_line x1 x4 v8 t0
def f_Mo_cost (M_pattern : Int32) (M_places : Nat → Int32) (M_begins : Nat → Int32) (M_firsts : Nat → Int32) (M_seconds : Nat → Int32) (M_line : Nat → Int32) (x1 : Int32) (x2 : Int32) (x3 : Int32) : Option (Int32) :=
  nm ((x3 <<< ((6 : Int32) &&& 31)) ||| x2) fun v9 =>
  rdI M_places 3600 x1 fun v10 =>
  bd (f_Mo_kept M_pattern M_begins M_firsts 18 x1) fun u12 =>
  nm u12 fun r11 =>
  if r11 = (1 : Int32) then
    rdI M_line 4096 v10 fun v13 =>
    bd (f_Mo_odd (v9 &&& (121 : Int32))) fun u15 =>
    nm u15 fun r14 =>
    if v13 = r14 then
      f_Mo_cost_55 M_pattern M_begins M_seconds M_line x1 v9 v10 (0 : Int32)
    else
    f_Mo_cost_55 M_pattern M_begins M_seconds M_line x1 v9 v10 (1 : Int32)
  else
  f_Mo_cost_60 M_pattern M_begins M_seconds M_line x1 v9 v10 (0 : Int32)
set_option maxHeartbeats 4000000 in
set_option maxRecDepth 100000 in
theorem c_Mo_cost (l : Launch) (D : va_G) (cI cJ : ClassId) (tt : Nat → Nat) (qM qM_places qM_begins qM_firsts qM_seconds qM_line : Nat) (M_thrown M_depth M_fill M_half M_craft M_powers M_logarithms M_forms M_elements M_mixer M_data M_waiting M_master M_counts M_length M_sent M_state M_least M_row M_rowSize M_differ M_blocks M_marks M_wrongs M_bytes M_rights M_tells M_lastMaster M_lastCounts M_word M_values M_system M_solved M_wrong : Value) (sz : Nat) (M_pattern : Int32) (M_places : Nat → Int32) (M_begins : Nat → Int32) (M_firsts : Nat → Int32) (M_seconds : Nat → Int32) (M_line : Nat → Int32) (x1 : Int32) (x2 : Int32) (x3 : Int32) (rr : Int32) (hm : f_Mo_cost M_pattern M_places M_begins M_firsts M_seconds M_line x1 x2 x3 = some rr) : CTi l y_Mo_cost b_Mo_cost 7 (some .int) (RM 1 22) D cI cJ tt [.ref qM, .int x1, .int x2, .int x3] (w_Mo_cost cI cJ qM qM_places qM_begins qM_firsts qM_seconds qM_line M_thrown M_depth M_fill M_half M_craft M_powers M_logarithms M_forms M_elements M_mixer M_data M_waiting M_master M_counts M_length M_sent M_state M_least M_row M_rowSize M_differ M_blocks M_marks M_wrongs M_bytes M_rights M_tells M_lastMaster M_lastCounts M_word M_values M_system M_solved M_wrong M_pattern M_places M_begins M_firsts M_seconds M_line) (w_Mo_cost cI cJ qM qM_places qM_begins qM_firsts qM_seconds qM_line M_thrown M_depth M_fill M_half M_craft M_powers M_logarithms M_forms M_elements M_mixer M_data M_waiting M_master M_counts M_length M_sent M_state M_least M_row M_rowSize M_differ M_blocks M_marks M_wrongs M_bytes M_rights M_tells M_lastMaster M_lastCounts M_word M_values M_system M_solved M_wrong M_pattern M_places M_begins M_firsts M_seconds M_line) sz rr := by
  refine Met.ofW (cc := b_Mo_cost) (maxL := 7) (ret := (some .int)) (by decide) rfl ?_
  intro p e s m args below meth c s₁ B hml hv
  obtain ⟨hargs, hsz, hP, hK, hD0, hE⟩ := hv
  have hx := B.exec
  have hb := B.bytes
  have hr := B.returns
  have hts : ∀ w ∈ TB, w.before args s = true := z_mV s (atoms_spec (ws := WD y_Mo_cost b_Mo_cost 7 (some .int)) B.pre)
  have hown : s.vm.findClass "DeepChannelModel" = some m.cls := findClass_of_methodNamed B.named
  have hlocks := B.notSynchronized
  subst hsz
  have hD := hD0.self (sz := s.heap.size)
  generalize hAe : va_A (w_Mo_cost cI cJ qM qM_places qM_begins qM_firsts qM_seconds qM_line M_thrown M_depth M_fill M_half M_craft M_powers M_logarithms M_forms M_elements M_mixer M_data M_waiting M_master M_counts M_length M_sent M_state M_least M_row M_rowSize M_differ M_blocks M_marks M_wrongs M_bytes M_rights M_tells M_lastMaster M_lastCounts M_word M_values M_system M_solved M_wrong M_pattern M_places M_begins M_firsts M_seconds M_line) s.heap.size = A at hD hE ⊢
  have hA : ∀ q : Nat, s.heap.size ≤ q → A q := fun q h => by rw [← hAe]; exact Or.inr h
  have hS : va_S A s.heap s.heap [] := va_S.rf
  refine z_entry (vs := [.ref qM, .int x1, .int x2, .int x3]) hargs (Nat.le_of_ble_eq_true rfl) (fun ls hl => ?_)
  have hl : lv_has ls 7 [(0, .ref qM), (1, .int x1), (2, .int x2), (3, .int x3)] := hl
  show W p l e (RM 1 22) s m args below meth c s.heap [] 0 0 _ _
  refine z_qi (fun Q0 hQ => ?_)
  have F : CallFix p m c b_Mo_cost 7 s args TB "DeepChannelModel" := ⟨hx, hb, hml, hown, hts⟩
  have T60 : ∀ (x1 : Int32) (x4 : Int32) (x5 : Int32) (x6 : Int32), f_Mo_cost_60 M_pattern M_begins M_seconds M_line x1 x4 x5 x6 = some rr → ∀ (H : Heap) (locs : List Loc), va_P D classes (w_Mo_cost cI cJ qM qM_places qM_begins qM_firsts qM_seconds qM_line M_thrown M_depth M_fill M_half M_craft M_powers M_logarithms M_forms M_elements M_mixer M_data M_waiting M_master M_counts M_length M_sent M_state M_least M_row M_rowSize M_differ M_blocks M_marks M_wrongs M_bytes M_rights M_tells M_lastMaster M_lastCounts M_word M_values M_system M_solved M_wrong M_pattern M_places M_begins M_firsts M_seconds M_line) H → va_D A (w_Mo_cost cI cJ qM qM_places qM_begins qM_firsts qM_seconds qM_line M_thrown M_depth M_fill M_half M_craft M_powers M_logarithms M_forms M_elements M_mixer M_data M_waiting M_master M_counts M_length M_sent M_state M_least M_row M_rowSize M_differ M_blocks M_marks M_wrongs M_bytes M_rights M_tells M_lastMaster M_lastCounts M_word M_values M_system M_solved M_wrong M_pattern M_places M_begins M_firsts M_seconds M_line) → va_S A s.heap H locs → ∀ (ls : Array Slot), lv_has ls 7 [(0, .ref qM), (1, .int x1), (4, .int x4), (5, .int x5), (6, .int x6)] → W p l e (RM 1 22) s m args below meth c H locs 0 0 Q0 (F0 m 60 ls []) := by
    intro x1 x4 x5 x6 hm H locs hP hD hS ls hl
    unfold f_Mo_cost_60 at hm
    refine lv_aload_n hx hb d_Mo_cost_60 rfl (lv_at hl 0 rfl) ?_
    refine lv_aload_n hx hb d_Mo_cost_61 rfl (lv_at hl 0 rfl) ?_
    refine va_get (D := D) (ci := 11) (v := .ref qM_seconds) (C := "DeepChannelModel") (T := fT_Mo) (N := 40) hx hb hts u_Mo hown hK hP 0 rfl rfl 8 (by decide) (hts _ k_894) (fun _ h9 => h9) rfl d_Mo_cost_62 ?_
    refine lv_iload_n hx hb d_Mo_cost_65 rfl (lv_at hl 1 rfl) ?_
    obtain ⟨r1, hu, hm⟩ := bd_el hm
    replace hm := nm_1 hm
    refine z_cVi (wc := w_Mo_kept cI cJ qM qM_begins qM_seconds M_thrown M_depth M_fill M_half M_craft (.ref qM_firsts) (.ref qM_seconds) M_powers M_logarithms M_forms M_elements M_mixer M_data M_waiting M_master M_counts (.ref qM_line) M_length M_sent M_state (.ref qM_places) M_least M_row M_rowSize M_differ M_blocks M_marks M_wrongs M_bytes M_rights M_tells M_lastMaster M_lastCounts M_word M_values M_system M_solved M_wrong 18 M_pattern M_begins M_seconds) (wc' := w_Mo_kept cI cJ qM qM_begins qM_seconds M_thrown M_depth M_fill M_half M_craft (.ref qM_firsts) (.ref qM_seconds) M_powers M_logarithms M_forms M_elements M_mixer M_data M_waiting M_master M_counts (.ref qM_line) M_length M_sent M_state (.ref qM_places) M_least M_row M_rowSize M_differ M_blocks M_marks M_wrongs M_bytes M_rights M_tells M_lastMaster M_lastCounts M_word M_values M_system M_solved M_wrong 18 M_pattern M_begins M_seconds) (wr := [(qM_places, .inl (cI, 3600, .inl M_places)), (qM_firsts, .inl (cI, 18, .inl M_firsts)), (qM_line, .inl (cI, 4096, .inl M_line))]) (As := [.ref qM_seconds, .int x1]) (rest := []) (c_Mo_kept l D cI cJ tt qM qM_begins qM_seconds M_thrown M_depth M_fill M_half M_craft (.ref qM_firsts) (.ref qM_seconds) M_powers M_logarithms M_forms M_elements M_mixer M_data M_waiting M_master M_counts (.ref qM_line) M_length M_sent M_state (.ref qM_places) M_least M_row M_rowSize M_differ M_blocks M_marks M_wrongs M_bytes M_rights M_tells M_lastMaster M_lastCounts M_word M_values M_system M_solved M_wrong 18 _ M_pattern M_begins M_seconds x1 r1 hu) F ok_Mo_kept rfl k_1051 hK hE hP hD hS hA [0, 2, 4] [1, 3, 5] rfl rfl (by decide) (by decide) (by decide) 0 rfl rfl rfl ⟨rfl, rfl, Nat.le_of_ble_eq_true rfl, Nat.le_of_ble_eq_true rfl⟩ ⟨Nat.zero_le _, Nat.zero_le _⟩ rfl hl.1 rfl (Nat.le_of_ble_eq_true rfl) d_Mo_cost_66 (fun H locs hP hD hS => ?_)
    have hP : va_P D classes (w_Mo_cost cI cJ qM qM_places qM_begins qM_firsts qM_seconds qM_line M_thrown M_depth M_fill M_half M_craft M_powers M_logarithms M_forms M_elements M_mixer M_data M_waiting M_master M_counts M_length M_sent M_state M_least M_row M_rowSize M_differ M_blocks M_marks M_wrongs M_bytes M_rights M_tells M_lastMaster M_lastCounts M_word M_values M_system M_solved M_wrong M_pattern M_places M_begins M_firsts M_seconds M_line) H := hP.sub [3, 0, 4, 1, 5, 2] rfl
    have hD : va_D A (w_Mo_cost cI cJ qM qM_places qM_begins qM_firsts qM_seconds qM_line M_thrown M_depth M_fill M_half M_craft M_powers M_logarithms M_forms M_elements M_mixer M_data M_waiting M_master M_counts M_length M_sent M_state M_least M_row M_rowSize M_differ M_blocks M_marks M_wrongs M_bytes M_rights M_tells M_lastMaster M_lastCounts M_word M_values M_system M_solved M_wrong M_pattern M_places M_begins M_firsts M_seconds M_line) := hD.sub [3, 0, 4, 1, 5, 2] (by decide) rfl
    refine lv_iconst (v := (1 : Int32)) hx hb d_Mo_cost_69 (by decide) ?_
    refine z_ifn hm (lv_icmp_ne (tgt := 101) hx hb d_Mo_cost_70 (by decide)) (fun hm => ?_) (fun hm => ?_)
    · refine lv_iload hx hb d_Mo_cost_73 (lv_at hl 4 rfl) ?_
      refine lv_aload_n hx hb d_Mo_cost_75 rfl (lv_at hl 0 rfl) ?_
      refine va_get (D := D) (ci := 11) (v := .ref qM_line) (C := "DeepChannelModel") (T := fT_Mo) (N := 40) hx hb hts u_Mo hown hK hP 0 rfl rfl 18 (by decide) (hts _ k_904) (fun _ h9 => h9) rfl d_Mo_cost_76 ?_
      refine lv_iload hx hb d_Mo_cost_79 (lv_at hl 3 rfl) ?_
      refine z_iald hm hx hb hK hP 5 rfl d_Mo_cost_81 (fun v3 hm => ?_)
      refine lv_iload hx hb d_Mo_cost_82 (lv_at hl 2 rfl) ?_
      refine lv_bipush (v := (91 : Int32)) hx hb d_Mo_cost_84 (by decide) ?_
      refine lv_iand hx hb d_Mo_cost_86 ?_
      obtain ⟨r4, hu, hm⟩ := bd_el hm
      replace hm := nm_1 hm
      refine z_cSi (wc := w_Mo_odd) (wc' := w_Mo_odd) (wr := [(qM, .inr (11, [M_thrown, M_depth, M_fill, M_half, .int M_pattern, M_craft, .ref qM_begins, .ref qM_firsts, .ref qM_seconds, M_powers, M_logarithms, M_forms, M_elements, M_mixer, M_data, M_waiting, M_master, M_counts, .ref qM_line, M_length, M_sent, M_state, .ref qM_places, M_least, M_row, M_rowSize, M_differ, M_blocks, M_marks, M_wrongs, M_bytes, M_rights, M_tells, M_lastMaster, M_lastCounts, M_word, M_values, M_system, M_solved, M_wrong])), (qM_places, .inl (cI, 3600, .inl M_places)), (qM_begins, .inl (cI, 6, .inl M_begins)), (qM_firsts, .inl (cI, 18, .inl M_firsts)), (qM_seconds, .inl (cI, 18, .inl M_seconds)), (qM_line, .inl (cI, 4096, .inl M_line))]) (As := [.int (x4 &&& (91 : Int32))]) (rest := [.int v3, .int x6]) (c_Mo_odd l D cI cJ tt _ (x4 &&& (91 : Int32)) r4 hu) F ok_Mo_odd k_1059 hK hE hP hD hS hA [] [0, 1, 2, 3, 4, 5] rfl rfl (by decide) (by decide) (by decide) ⟨rfl, rfl, Nat.le_of_ble_eq_true rfl, Nat.le_of_ble_eq_true rfl⟩ ⟨Nat.zero_le _, Nat.zero_le _⟩ rfl hl.1 rfl (Nat.le_of_ble_eq_true rfl) d_Mo_cost_87 (fun H locs hP hD hS => ?_)
      have hP : va_P D classes (w_Mo_cost cI cJ qM qM_places qM_begins qM_firsts qM_seconds qM_line M_thrown M_depth M_fill M_half M_craft M_powers M_logarithms M_forms M_elements M_mixer M_data M_waiting M_master M_counts M_length M_sent M_state M_least M_row M_rowSize M_differ M_blocks M_marks M_wrongs M_bytes M_rights M_tells M_lastMaster M_lastCounts M_word M_values M_system M_solved M_wrong M_pattern M_places M_begins M_firsts M_seconds M_line) H := hP.sub [0, 1, 2, 3, 4, 5] rfl
      have hD : va_D A (w_Mo_cost cI cJ qM qM_places qM_begins qM_firsts qM_seconds qM_line M_thrown M_depth M_fill M_half M_craft M_powers M_logarithms M_forms M_elements M_mixer M_data M_waiting M_master M_counts M_length M_sent M_state M_least M_row M_rowSize M_differ M_blocks M_marks M_wrongs M_bytes M_rights M_tells M_lastMaster M_lastCounts M_word M_values M_system M_solved M_wrong M_pattern M_places M_begins M_firsts M_seconds M_line) := hD.sub [0, 1, 2, 3, 4, 5] (by decide) rfl
      refine z_ifn hm (lv_icmp_ne (tgt := 97) hx hb d_Mo_cost_90 (by decide)) (fun hm => ?_) (fun hm => ?_)
      · refine lv_iconst (v := (1 : Int32)) hx hb d_Mo_cost_93 (by decide) ?_
        refine lv_goto (tgt := 98) hx hb d_Mo_cost_94 (by decide) ?_
        refine lv_iadd hx hb d_Mo_cost_98 ?_
        refine z_nmi hm (fun v7 hm => ?_)
        refine lv_istore (lv' := [(6, .int v7), (0, .ref qM), (1, .int x1), (4, .int x4), (5, .int x5)]) hx hb d_Mo_cost_99 hl (by decide) rfl (fun ls hl => ?_)
        refine lv_iload hx hb d_Mo_cost_101 (lv_at hl 0 rfl) ?_
        cases hm
        exact z_qo hQ (z_ireti hr hx hb hlocks hK hP hD hS d_Mo_cost_103)
      · refine lv_iconst (v := (0 : Int32)) hx hb d_Mo_cost_97 (by decide) ?_
        refine lv_iadd hx hb d_Mo_cost_98 ?_
        refine z_nmi hm (fun v6 hm => ?_)
        refine lv_istore (lv' := [(6, .int v6), (0, .ref qM), (1, .int x1), (4, .int x4), (5, .int x5)]) hx hb d_Mo_cost_99 hl (by decide) rfl (fun ls hl => ?_)
        refine lv_iload hx hb d_Mo_cost_101 (lv_at hl 0 rfl) ?_
        cases hm
        exact z_qo hQ (z_ireti hr hx hb hlocks hK hP hD hS d_Mo_cost_103)
    · refine lv_iload hx hb d_Mo_cost_101 (lv_at hl 4 rfl) ?_
      cases hm
      exact z_qo hQ (z_ireti hr hx hb hlocks hK hP hD hS d_Mo_cost_103)
  have T55 : ∀ (x1 : Int32) (x4 : Int32) (x5 : Int32) (t0 : Int32), f_Mo_cost_55 M_pattern M_begins M_seconds M_line x1 x4 x5 t0 = some rr → ∀ (H : Heap) (locs : List Loc), va_P D classes (w_Mo_cost cI cJ qM qM_places qM_begins qM_firsts qM_seconds qM_line M_thrown M_depth M_fill M_half M_craft M_powers M_logarithms M_forms M_elements M_mixer M_data M_waiting M_master M_counts M_length M_sent M_state M_least M_row M_rowSize M_differ M_blocks M_marks M_wrongs M_bytes M_rights M_tells M_lastMaster M_lastCounts M_word M_values M_system M_solved M_wrong M_pattern M_places M_begins M_firsts M_seconds M_line) H → va_D A (w_Mo_cost cI cJ qM qM_places qM_begins qM_firsts qM_seconds qM_line M_thrown M_depth M_fill M_half M_craft M_powers M_logarithms M_forms M_elements M_mixer M_data M_waiting M_master M_counts M_length M_sent M_state M_least M_row M_rowSize M_differ M_blocks M_marks M_wrongs M_bytes M_rights M_tells M_lastMaster M_lastCounts M_word M_values M_system M_solved M_wrong M_pattern M_places M_begins M_firsts M_seconds M_line) → va_S A s.heap H locs → ∀ (ls : Array Slot), lv_has ls 7 [(0, .ref qM), (1, .int x1), (4, .int x4), (5, .int x5)] → W p l e (RM 1 22) s m args below meth c H locs 0 0 Q0 (F0 m 55 ls [.int t0]) := by
    intro x1 x4 x5 t0 hm H locs hP hD hS ls hl
    unfold f_Mo_cost_55 at hm
    refine lv_istore (lv' := [(6, .int t0), (0, .ref qM), (1, .int x1), (4, .int x4), (5, .int x5)]) hx hb d_Mo_cost_55 hl (by decide) rfl (fun ls hl => ?_)
    obtain ⟨v8, ev, hm⟩ := nm_el hm
    refine lv_iinc (v := v8) (lv' := [(5, .int v8), (6, .int t0), (0, .ref qM), (1, .int x1), (4, .int x4)]) hx hb d_Mo_cost_57 hl (k := 4) rfl (by rw [ev]; rfl) (by decide) rfl (fun ls hl => ?_)
    exact T60 x1 x4 v8 t0 hm _ _ hP hD hS _ (lv_sub hl [2, 3, 4, 0, 1] rfl)
  unfold f_Mo_cost at hm
  refine lv_iload_n hx hb d_Mo_cost_0 rfl (lv_at hl 3 rfl) ?_
  refine lv_bipush (v := (6 : Int32)) hx hb d_Mo_cost_1 (by decide) ?_
  refine lv_ishl hx hb d_Mo_cost_3 ?_
  refine lv_iload_n hx hb d_Mo_cost_4 rfl (lv_at hl 2 rfl) ?_
  refine lv_ior hx hb d_Mo_cost_5 ?_
  refine z_nmi hm (fun v9 hm => ?_)
  refine lv_istore (lv' := [(4, .int v9), (0, .ref qM), (1, .int x1), (2, .int x2), (3, .int x3)]) hx hb d_Mo_cost_6 hl (by decide) rfl (fun ls hl => ?_)
  refine lv_aload_n hx hb d_Mo_cost_8 rfl (lv_at hl 1 rfl) ?_
  refine va_get (D := D) (ci := 11) (v := .ref qM_places) (C := "DeepChannelModel") (T := fT_Mo) (N := 40) hx hb hts u_Mo hown hK hP 0 rfl rfl 22 (by decide) (hts _ k_908) (fun _ h9 => h9) rfl d_Mo_cost_9 ?_
  refine lv_iload_n hx hb d_Mo_cost_12 rfl (lv_at hl 2 rfl) ?_
  refine z_iald hm hx hb hK hP 1 rfl d_Mo_cost_13 (fun v10 hm => ?_)
  refine lv_istore (lv' := [(5, .int v10), (4, .int v9), (0, .ref qM), (1, .int x1), (2, .int x2), (3, .int x3)]) hx hb d_Mo_cost_14 hl (by decide) rfl (fun ls hl => ?_)
  refine lv_iconst (v := (0 : Int32)) hx hb d_Mo_cost_16 (by decide) ?_
  refine lv_istore (lv' := [(6, .int (0 : Int32)), (5, .int v10), (4, .int v9), (0, .ref qM), (1, .int x1), (2, .int x2), (3, .int x3)]) hx hb d_Mo_cost_17 hl (by decide) rfl (fun ls hl => ?_)
  refine lv_aload_n hx hb d_Mo_cost_19 rfl (lv_at hl 3 rfl) ?_
  refine lv_aload_n hx hb d_Mo_cost_20 rfl (lv_at hl 3 rfl) ?_
  refine va_get (D := D) (ci := 11) (v := .ref qM_firsts) (C := "DeepChannelModel") (T := fT_Mo) (N := 40) hx hb hts u_Mo hown hK hP 0 rfl rfl 7 (by decide) (hts _ k_893) (fun _ h9 => h9) rfl d_Mo_cost_21 ?_
  refine lv_iload_n hx hb d_Mo_cost_24 rfl (lv_at hl 4 rfl) ?_
  obtain ⟨r11, hu, hm⟩ := bd_el hm
  replace hm := nm_1 hm
  refine z_cVi (wc := w_Mo_kept cI cJ qM qM_begins qM_firsts M_thrown M_depth M_fill M_half M_craft (.ref qM_firsts) (.ref qM_seconds) M_powers M_logarithms M_forms M_elements M_mixer M_data M_waiting M_master M_counts (.ref qM_line) M_length M_sent M_state (.ref qM_places) M_least M_row M_rowSize M_differ M_blocks M_marks M_wrongs M_bytes M_rights M_tells M_lastMaster M_lastCounts M_word M_values M_system M_solved M_wrong 18 M_pattern M_begins M_firsts) (wc' := w_Mo_kept cI cJ qM qM_begins qM_firsts M_thrown M_depth M_fill M_half M_craft (.ref qM_firsts) (.ref qM_seconds) M_powers M_logarithms M_forms M_elements M_mixer M_data M_waiting M_master M_counts (.ref qM_line) M_length M_sent M_state (.ref qM_places) M_least M_row M_rowSize M_differ M_blocks M_marks M_wrongs M_bytes M_rights M_tells M_lastMaster M_lastCounts M_word M_values M_system M_solved M_wrong 18 M_pattern M_begins M_firsts) (wr := [(qM_places, .inl (cI, 3600, .inl M_places)), (qM_seconds, .inl (cI, 18, .inl M_seconds)), (qM_line, .inl (cI, 4096, .inl M_line))]) (As := [.ref qM_firsts, .int x1]) (rest := []) (c_Mo_kept l D cI cJ tt qM qM_begins qM_firsts M_thrown M_depth M_fill M_half M_craft (.ref qM_firsts) (.ref qM_seconds) M_powers M_logarithms M_forms M_elements M_mixer M_data M_waiting M_master M_counts (.ref qM_line) M_length M_sent M_state (.ref qM_places) M_least M_row M_rowSize M_differ M_blocks M_marks M_wrongs M_bytes M_rights M_tells M_lastMaster M_lastCounts M_word M_values M_system M_solved M_wrong 18 _ M_pattern M_begins M_firsts x1 r11 hu) F ok_Mo_kept rfl k_1051 hK hE hP hD hS hA [0, 2, 3] [1, 4, 5] rfl rfl (by decide) (by decide) (by decide) 0 rfl rfl rfl ⟨rfl, rfl, Nat.le_of_ble_eq_true rfl, Nat.le_of_ble_eq_true rfl⟩ ⟨Nat.zero_le _, Nat.zero_le _⟩ rfl hl.1 rfl (Nat.le_of_ble_eq_true rfl) d_Mo_cost_25 (fun H locs hP hD hS => ?_)
  have hP : va_P D classes (w_Mo_cost cI cJ qM qM_places qM_begins qM_firsts qM_seconds qM_line M_thrown M_depth M_fill M_half M_craft M_powers M_logarithms M_forms M_elements M_mixer M_data M_waiting M_master M_counts M_length M_sent M_state M_least M_row M_rowSize M_differ M_blocks M_marks M_wrongs M_bytes M_rights M_tells M_lastMaster M_lastCounts M_word M_values M_system M_solved M_wrong M_pattern M_places M_begins M_firsts M_seconds M_line) H := hP.sub [3, 0, 4, 5, 1, 2] rfl
  have hD : va_D A (w_Mo_cost cI cJ qM qM_places qM_begins qM_firsts qM_seconds qM_line M_thrown M_depth M_fill M_half M_craft M_powers M_logarithms M_forms M_elements M_mixer M_data M_waiting M_master M_counts M_length M_sent M_state M_least M_row M_rowSize M_differ M_blocks M_marks M_wrongs M_bytes M_rights M_tells M_lastMaster M_lastCounts M_word M_values M_system M_solved M_wrong M_pattern M_places M_begins M_firsts M_seconds M_line) := hD.sub [3, 0, 4, 5, 1, 2] (by decide) rfl
  refine lv_iconst (v := (1 : Int32)) hx hb d_Mo_cost_28 (by decide) ?_
  refine z_ifn hm (lv_icmp_ne (tgt := 60) hx hb d_Mo_cost_29 (by decide)) (fun hm => ?_) (fun hm => ?_)
  · refine lv_aload_n hx hb d_Mo_cost_32 rfl (lv_at hl 3 rfl) ?_
    refine va_get (D := D) (ci := 11) (v := .ref qM_line) (C := "DeepChannelModel") (T := fT_Mo) (N := 40) hx hb hts u_Mo hown hK hP 0 rfl rfl 18 (by decide) (hts _ k_904) (fun _ h9 => h9) rfl d_Mo_cost_33 ?_
    refine lv_iload hx hb d_Mo_cost_36 (lv_at hl 1 rfl) ?_
    refine z_iald hm hx hb hK hP 5 rfl d_Mo_cost_38 (fun v13 hm => ?_)
    refine lv_iload hx hb d_Mo_cost_39 (lv_at hl 2 rfl) ?_
    refine lv_bipush (v := (121 : Int32)) hx hb d_Mo_cost_41 (by decide) ?_
    refine lv_iand hx hb d_Mo_cost_43 ?_
    obtain ⟨r14, hu, hm⟩ := bd_el hm
    replace hm := nm_1 hm
    refine z_cSi (wc := w_Mo_odd) (wc' := w_Mo_odd) (wr := [(qM, .inr (11, [M_thrown, M_depth, M_fill, M_half, .int M_pattern, M_craft, .ref qM_begins, .ref qM_firsts, .ref qM_seconds, M_powers, M_logarithms, M_forms, M_elements, M_mixer, M_data, M_waiting, M_master, M_counts, .ref qM_line, M_length, M_sent, M_state, .ref qM_places, M_least, M_row, M_rowSize, M_differ, M_blocks, M_marks, M_wrongs, M_bytes, M_rights, M_tells, M_lastMaster, M_lastCounts, M_word, M_values, M_system, M_solved, M_wrong])), (qM_places, .inl (cI, 3600, .inl M_places)), (qM_begins, .inl (cI, 6, .inl M_begins)), (qM_firsts, .inl (cI, 18, .inl M_firsts)), (qM_seconds, .inl (cI, 18, .inl M_seconds)), (qM_line, .inl (cI, 4096, .inl M_line))]) (As := [.int (v9 &&& (121 : Int32))]) (rest := [.int v13]) (c_Mo_odd l D cI cJ tt _ (v9 &&& (121 : Int32)) r14 hu) F ok_Mo_odd k_1059 hK hE hP hD hS hA [] [0, 1, 2, 3, 4, 5] rfl rfl (by decide) (by decide) (by decide) ⟨rfl, rfl, Nat.le_of_ble_eq_true rfl, Nat.le_of_ble_eq_true rfl⟩ ⟨Nat.zero_le _, Nat.zero_le _⟩ rfl hl.1 rfl (Nat.le_of_ble_eq_true rfl) d_Mo_cost_44 (fun H locs hP hD hS => ?_)
    have hP : va_P D classes (w_Mo_cost cI cJ qM qM_places qM_begins qM_firsts qM_seconds qM_line M_thrown M_depth M_fill M_half M_craft M_powers M_logarithms M_forms M_elements M_mixer M_data M_waiting M_master M_counts M_length M_sent M_state M_least M_row M_rowSize M_differ M_blocks M_marks M_wrongs M_bytes M_rights M_tells M_lastMaster M_lastCounts M_word M_values M_system M_solved M_wrong M_pattern M_places M_begins M_firsts M_seconds M_line) H := hP.sub [0, 1, 2, 3, 4, 5] rfl
    have hD : va_D A (w_Mo_cost cI cJ qM qM_places qM_begins qM_firsts qM_seconds qM_line M_thrown M_depth M_fill M_half M_craft M_powers M_logarithms M_forms M_elements M_mixer M_data M_waiting M_master M_counts M_length M_sent M_state M_least M_row M_rowSize M_differ M_blocks M_marks M_wrongs M_bytes M_rights M_tells M_lastMaster M_lastCounts M_word M_values M_system M_solved M_wrong M_pattern M_places M_begins M_firsts M_seconds M_line) := hD.sub [0, 1, 2, 3, 4, 5] (by decide) rfl
    refine z_if hm (lv_icmp_eq (tgt := 54) hx hb d_Mo_cost_47 (by decide)) (fun hm => ?_) (fun hm => ?_)
    · refine lv_iconst (v := (0 : Int32)) hx hb d_Mo_cost_54 (by decide) ?_
      exact T55 x1 v9 v10 (0 : Int32) hm _ _ hP hD hS _ (lv_sub hl [3, 4, 2, 1] rfl)
    · refine lv_iconst (v := (1 : Int32)) hx hb d_Mo_cost_50 (by decide) ?_
      refine lv_goto (tgt := 55) hx hb d_Mo_cost_51 (by decide) ?_
      exact T55 x1 v9 v10 (1 : Int32) hm _ _ hP hD hS _ (lv_sub hl [3, 4, 2, 1] rfl)
  · exact T60 x1 v9 v10 (0 : Int32) hm _ _ hP hD hS _ (lv_sub hl [3, 4, 2, 1, 0] rfl)
-- DeepChannelModel.with(III)I
abbrev b_Mo_with : ByteArray := prog_13_method_36_code
abbrev y_Mo_with : MethodName := ⟨"DeepChannelModel", "with", "(III)I"⟩
theorem d_Mo_with_0 : decode b_Mo_with 0 = .ok (.aload_n 0, 1) := by decide +kernel
theorem d_Mo_with_1 : decode b_Mo_with 1 = .ok (.iload_n 1, 1) := by decide +kernel
theorem d_Mo_with_2 : decode b_Mo_with 2 = .ok (.iload_n 2, 1) := by decide +kernel
theorem d_Mo_with_3 : decode b_Mo_with 3 = .ok (.iload_n 3, 1) := by decide +kernel
theorem d_Mo_with_4 : decode b_Mo_with 4 = .ok (.invokevirtual 213, 3) := by decide +kernel
theorem d_Mo_with_7 : decode b_Mo_with 7 = .ok (.aload_n 0, 1) := by decide +kernel
theorem d_Mo_with_8 : decode b_Mo_with 8 = .ok (.getfield 57, 3) := by decide +kernel
theorem d_Mo_with_11 : decode b_Mo_with 11 = .ok (.bipush 64, 2) := by decide +kernel
theorem d_Mo_with_13 : decode b_Mo_with 13 = .ok (.iload_n 1, 1) := by decide +kernel
theorem d_Mo_with_14 : decode b_Mo_with 14 = .ok (.iconst 1, 1) := by decide +kernel
theorem d_Mo_with_15 : decode b_Mo_with 15 = .ok (.iadd, 1) := by decide +kernel
theorem d_Mo_with_16 : decode b_Mo_with 16 = .ok (.imul, 1) := by decide +kernel
theorem d_Mo_with_17 : decode b_Mo_with 17 = .ok (.iload_n 3, 1) := by decide +kernel
theorem d_Mo_with_18 : decode b_Mo_with 18 = .ok (.iconst 5, 1) := by decide +kernel
theorem d_Mo_with_19 : decode b_Mo_with 19 = .ok (.ishl, 1) := by decide +kernel
theorem d_Mo_with_20 : decode b_Mo_with 20 = .ok (.iload_n 2, 1) := by decide +kernel
theorem d_Mo_with_21 : decode b_Mo_with 21 = .ok (.iconst 1, 1) := by decide +kernel
theorem d_Mo_with_22 : decode b_Mo_with 22 = .ok (.ishr, 1) := by decide +kernel
theorem d_Mo_with_23 : decode b_Mo_with 23 = .ok (.ior, 1) := by decide +kernel
theorem d_Mo_with_24 : decode b_Mo_with 24 = .ok (.iadd, 1) := by decide +kernel
theorem d_Mo_with_25 : decode b_Mo_with 25 = .ok (.iaload, 1) := by decide +kernel
theorem d_Mo_with_26 : decode b_Mo_with 26 = .ok (.iadd, 1) := by decide +kernel
theorem d_Mo_with_27 : decode b_Mo_with 27 = .ok (.ireturn, 1) := by decide +kernel
theorem ok_Mo_with : OKv y_Mo_with b_Mo_with 4 (some .int) "DeepChannelModel" 3 := ⟨k_1138, k_1137, k_33, k_55, by decide +kernel, by decide +kernel, by decide +kernel⟩
abbrev w_Mo_with (cI cJ : ClassId) (qM qM_places qM_begins qM_firsts qM_seconds qM_line qM_least : Nat) (M_thrown M_depth M_fill M_half M_craft M_powers M_logarithms M_forms M_elements M_mixer M_data M_waiting M_master M_counts M_length M_sent M_state M_row M_rowSize M_differ M_blocks M_marks M_wrongs M_bytes M_rights M_tells M_lastMaster M_lastCounts M_word M_values M_system M_solved M_wrong : Value) (M_pattern : Int32) (M_places : Nat → Int32) (M_begins : Nat → Int32) (M_firsts : Nat → Int32) (M_seconds : Nat → Int32) (M_line : Nat → Int32) (M_least : Nat → Int32) : va_W := [(qM, .inr (11, [M_thrown, M_depth, M_fill, M_half, .int M_pattern, M_craft, .ref qM_begins, .ref qM_firsts, .ref qM_seconds, M_powers, M_logarithms, M_forms, M_elements, M_mixer, M_data, M_waiting, M_master, M_counts, .ref qM_line, M_length, M_sent, M_state, .ref qM_places, .ref qM_least, M_row, M_rowSize, M_differ, M_blocks, M_marks, M_wrongs, M_bytes, M_rights, M_tells, M_lastMaster, M_lastCounts, M_word, M_values, M_system, M_solved, M_wrong])), (qM_places, .inl (cI, 3600, .inl M_places)), (qM_begins, .inl (cI, 6, .inl M_begins)), (qM_firsts, .inl (cI, 18, .inl M_firsts)), (qM_seconds, .inl (cI, 18, .inl M_seconds)), (qM_line, .inl (cI, 4096, .inl M_line)), (qM_least, .inl (cI, 230464, .inl M_least))]
def f_Mo_with (M_pattern : Int32) (M_places : Nat → Int32) (M_begins : Nat → Int32) (M_firsts : Nat → Int32) (M_seconds : Nat → Int32) (M_line : Nat → Int32) (M_least : Nat → Int32) (x1 : Int32) (x2 : Int32) (x3 : Int32) : Option (Int32) :=
  bd (f_Mo_cost M_pattern M_places M_begins M_firsts M_seconds M_line x1 x2 x3) fun u2 =>
  nm u2 fun r1 =>
  rdI M_least 230464 (((64 : Int32) * (x1 + (1 : Int32))) + ((x3 <<< ((5 : Int32) &&& 31)) ||| (x2 >>> ((1 : Int32) &&& 31)))) fun v3 =>
  some (r1 + v3)
set_option maxHeartbeats 4000000 in
set_option maxRecDepth 100000 in
theorem c_Mo_with (l : Launch) (D : va_G) (cI cJ : ClassId) (tt : Nat → Nat) (qM qM_places qM_begins qM_firsts qM_seconds qM_line qM_least : Nat) (M_thrown M_depth M_fill M_half M_craft M_powers M_logarithms M_forms M_elements M_mixer M_data M_waiting M_master M_counts M_length M_sent M_state M_row M_rowSize M_differ M_blocks M_marks M_wrongs M_bytes M_rights M_tells M_lastMaster M_lastCounts M_word M_values M_system M_solved M_wrong : Value) (sz : Nat) (M_pattern : Int32) (M_places : Nat → Int32) (M_begins : Nat → Int32) (M_firsts : Nat → Int32) (M_seconds : Nat → Int32) (M_line : Nat → Int32) (M_least : Nat → Int32) (x1 : Int32) (x2 : Int32) (x3 : Int32) (rr : Int32) (hm : f_Mo_with M_pattern M_places M_begins M_firsts M_seconds M_line M_least x1 x2 x3 = some rr) : CTi l y_Mo_with b_Mo_with 4 (some .int) (RM 2 48) D cI cJ tt [.ref qM, .int x1, .int x2, .int x3] (w_Mo_with cI cJ qM qM_places qM_begins qM_firsts qM_seconds qM_line qM_least M_thrown M_depth M_fill M_half M_craft M_powers M_logarithms M_forms M_elements M_mixer M_data M_waiting M_master M_counts M_length M_sent M_state M_row M_rowSize M_differ M_blocks M_marks M_wrongs M_bytes M_rights M_tells M_lastMaster M_lastCounts M_word M_values M_system M_solved M_wrong M_pattern M_places M_begins M_firsts M_seconds M_line M_least) (w_Mo_with cI cJ qM qM_places qM_begins qM_firsts qM_seconds qM_line qM_least M_thrown M_depth M_fill M_half M_craft M_powers M_logarithms M_forms M_elements M_mixer M_data M_waiting M_master M_counts M_length M_sent M_state M_row M_rowSize M_differ M_blocks M_marks M_wrongs M_bytes M_rights M_tells M_lastMaster M_lastCounts M_word M_values M_system M_solved M_wrong M_pattern M_places M_begins M_firsts M_seconds M_line M_least) sz rr := by
  refine Met.ofW (cc := b_Mo_with) (maxL := 4) (ret := (some .int)) (by decide) rfl ?_
  intro p e s m args below meth c s₁ B hml hv
  obtain ⟨hargs, hsz, hP, hK, hD0, hE⟩ := hv
  have hx := B.exec
  have hb := B.bytes
  have hr := B.returns
  have hts : ∀ w ∈ TB, w.before args s = true := z_mV s (atoms_spec (ws := WD y_Mo_with b_Mo_with 4 (some .int)) B.pre)
  have hown : s.vm.findClass "DeepChannelModel" = some m.cls := findClass_of_methodNamed B.named
  have hlocks := B.notSynchronized
  subst hsz
  have hD := hD0.self (sz := s.heap.size)
  generalize hAe : va_A (w_Mo_with cI cJ qM qM_places qM_begins qM_firsts qM_seconds qM_line qM_least M_thrown M_depth M_fill M_half M_craft M_powers M_logarithms M_forms M_elements M_mixer M_data M_waiting M_master M_counts M_length M_sent M_state M_row M_rowSize M_differ M_blocks M_marks M_wrongs M_bytes M_rights M_tells M_lastMaster M_lastCounts M_word M_values M_system M_solved M_wrong M_pattern M_places M_begins M_firsts M_seconds M_line M_least) s.heap.size = A at hD hE ⊢
  have hA : ∀ q : Nat, s.heap.size ≤ q → A q := fun q h => by rw [← hAe]; exact Or.inr h
  have hS : va_S A s.heap s.heap [] := va_S.rf
  refine z_entry (vs := [.ref qM, .int x1, .int x2, .int x3]) hargs (Nat.le_of_ble_eq_true rfl) (fun ls hl => ?_)
  have hl : lv_has ls 4 [(0, .ref qM), (1, .int x1), (2, .int x2), (3, .int x3)] := hl
  show W p l e (RM 2 48) s m args below meth c s.heap [] 0 0 _ _
  refine z_qi (fun Q0 hQ => ?_)
  have F : CallFix p m c b_Mo_with 4 s args TB "DeepChannelModel" := ⟨hx, hb, hml, hown, hts⟩
  unfold f_Mo_with at hm
  refine lv_aload_n hx hb d_Mo_with_0 rfl (lv_at hl 0 rfl) ?_
  refine lv_iload_n hx hb d_Mo_with_1 rfl (lv_at hl 1 rfl) ?_
  refine lv_iload_n hx hb d_Mo_with_2 rfl (lv_at hl 2 rfl) ?_
  refine lv_iload_n hx hb d_Mo_with_3 rfl (lv_at hl 3 rfl) ?_
  obtain ⟨r1, hu, hm⟩ := bd_el hm
  replace hm := nm_1 hm
  refine z_cVi (wc := w_Mo_cost cI cJ qM qM_places qM_begins qM_firsts qM_seconds qM_line M_thrown M_depth M_fill M_half M_craft M_powers M_logarithms M_forms M_elements M_mixer M_data M_waiting M_master M_counts M_length M_sent M_state (.ref qM_least) M_row M_rowSize M_differ M_blocks M_marks M_wrongs M_bytes M_rights M_tells M_lastMaster M_lastCounts M_word M_values M_system M_solved M_wrong M_pattern M_places M_begins M_firsts M_seconds M_line) (wc' := w_Mo_cost cI cJ qM qM_places qM_begins qM_firsts qM_seconds qM_line M_thrown M_depth M_fill M_half M_craft M_powers M_logarithms M_forms M_elements M_mixer M_data M_waiting M_master M_counts M_length M_sent M_state (.ref qM_least) M_row M_rowSize M_differ M_blocks M_marks M_wrongs M_bytes M_rights M_tells M_lastMaster M_lastCounts M_word M_values M_system M_solved M_wrong M_pattern M_places M_begins M_firsts M_seconds M_line) (wr := [(qM_least, .inl (cI, 230464, .inl M_least))]) (As := [.int x1, .int x2, .int x3]) (rest := []) (c_Mo_cost l D cI cJ tt qM qM_places qM_begins qM_firsts qM_seconds qM_line M_thrown M_depth M_fill M_half M_craft M_powers M_logarithms M_forms M_elements M_mixer M_data M_waiting M_master M_counts M_length M_sent M_state (.ref qM_least) M_row M_rowSize M_differ M_blocks M_marks M_wrongs M_bytes M_rights M_tells M_lastMaster M_lastCounts M_word M_values M_system M_solved M_wrong _ M_pattern M_places M_begins M_firsts M_seconds M_line x1 x2 x3 r1 hu) F ok_Mo_cost rfl k_1139 hK hE hP hD hS hA [0, 1, 2, 3, 4, 5] [6] rfl rfl (by decide) (by decide) (by decide) 0 rfl rfl rfl ⟨rfl, rfl, Nat.le_of_ble_eq_true rfl, Nat.le_of_ble_eq_true rfl⟩ ⟨Nat.zero_le _, Nat.zero_le _⟩ rfl hl.1 rfl (Nat.le_of_ble_eq_true rfl) d_Mo_with_4 (fun H locs hP hD hS => ?_)
  have hP : va_P D classes (w_Mo_with cI cJ qM qM_places qM_begins qM_firsts qM_seconds qM_line qM_least M_thrown M_depth M_fill M_half M_craft M_powers M_logarithms M_forms M_elements M_mixer M_data M_waiting M_master M_counts M_length M_sent M_state M_row M_rowSize M_differ M_blocks M_marks M_wrongs M_bytes M_rights M_tells M_lastMaster M_lastCounts M_word M_values M_system M_solved M_wrong M_pattern M_places M_begins M_firsts M_seconds M_line M_least) H := hP.sub [1, 2, 3, 4, 5, 6, 0] rfl
  have hD : va_D A (w_Mo_with cI cJ qM qM_places qM_begins qM_firsts qM_seconds qM_line qM_least M_thrown M_depth M_fill M_half M_craft M_powers M_logarithms M_forms M_elements M_mixer M_data M_waiting M_master M_counts M_length M_sent M_state M_row M_rowSize M_differ M_blocks M_marks M_wrongs M_bytes M_rights M_tells M_lastMaster M_lastCounts M_word M_values M_system M_solved M_wrong M_pattern M_places M_begins M_firsts M_seconds M_line M_least) := hD.sub [1, 2, 3, 4, 5, 6, 0] (by decide) rfl
  refine lv_aload_n hx hb d_Mo_with_7 rfl (lv_at hl 0 rfl) ?_
  refine va_get (D := D) (ci := 11) (v := .ref qM_least) (C := "DeepChannelModel") (T := fT_Mo) (N := 40) hx hb hts u_Mo hown hK hP 0 rfl rfl 23 (by decide) (hts _ k_909) (fun _ h9 => h9) rfl d_Mo_with_8 ?_
  refine lv_bipush (v := (64 : Int32)) hx hb d_Mo_with_11 (by decide) ?_
  refine lv_iload_n hx hb d_Mo_with_13 rfl (lv_at hl 1 rfl) ?_
  refine lv_iconst (v := (1 : Int32)) hx hb d_Mo_with_14 (by decide) ?_
  refine lv_iadd hx hb d_Mo_with_15 ?_
  refine lv_imul hx hb d_Mo_with_16 ?_
  refine lv_iload_n hx hb d_Mo_with_17 rfl (lv_at hl 3 rfl) ?_
  refine lv_iconst (v := (5 : Int32)) hx hb d_Mo_with_18 (by decide) ?_
  refine lv_ishl hx hb d_Mo_with_19 ?_
  refine lv_iload_n hx hb d_Mo_with_20 rfl (lv_at hl 2 rfl) ?_
  refine lv_iconst (v := (1 : Int32)) hx hb d_Mo_with_21 (by decide) ?_
  refine lv_ishr hx hb d_Mo_with_22 ?_
  refine lv_ior hx hb d_Mo_with_23 ?_
  refine lv_iadd hx hb d_Mo_with_24 ?_
  refine z_iald hm hx hb hK hP 6 rfl d_Mo_with_25 (fun v3 hm => ?_)
  refine lv_iadd hx hb d_Mo_with_26 ?_
  cases hm
  exact z_qo hQ (z_ireti hr hx hb hlocks hK hP hD hS d_Mo_with_27)
-- DeepChannelModel.decode()V
abbrev b_Mo_decode : ByteArray := prog_13_method_37_code
abbrev y_Mo_decode : MethodName := ⟨"DeepChannelModel", "decode", "()V"⟩
theorem d_Mo_decode_0 : decode b_Mo_decode 0 = .ok (.aload_n 0, 1) := by decide +kernel
theorem d_Mo_decode_1 : decode b_Mo_decode 1 = .ok (.iconst 0, 1) := by decide +kernel
theorem d_Mo_decode_2 : decode b_Mo_decode 2 = .ok (.putfield 129, 3) := by decide +kernel
theorem d_Mo_decode_5 : decode b_Mo_decode 5 = .ok (.iconst 0, 1) := by decide +kernel
theorem d_Mo_decode_6 : decode b_Mo_decode 6 = .ok (.istore_n 1, 1) := by decide +kernel
theorem d_Mo_decode_7 : decode b_Mo_decode 7 = .ok (.aload_n 0, 1) := by decide +kernel
theorem d_Mo_decode_8 : decode b_Mo_decode 8 = .ok (.iconst 0, 1) := by decide +kernel
theorem d_Mo_decode_9 : decode b_Mo_decode 9 = .ok (.iconst 1, 1) := by decide +kernel
theorem d_Mo_decode_10 : decode b_Mo_decode 10 = .ok (.invokevirtual 167, 3) := by decide +kernel
theorem d_Mo_decode_13 : decode b_Mo_decode 13 = .ok (.istore_n 2, 1) := by decide +kernel
theorem d_Mo_decode_14 : decode b_Mo_decode 14 = .ok (.iload_n 1, 1) := by decide +kernel
theorem d_Mo_decode_15 : decode b_Mo_decode 15 = .ok (.iload_n 2, 1) := by decide +kernel
theorem d_Mo_decode_16 : decode b_Mo_decode 16 = .ok (.iadd, 1) := by decide +kernel
theorem d_Mo_decode_17 : decode b_Mo_decode 17 = .ok (.aload_n 0, 1) := by decide +kernel
theorem d_Mo_decode_18 : decode b_Mo_decode 18 = .ok (.getfield 120, 3) := by decide +kernel
theorem d_Mo_decode_21 : decode b_Mo_decode 21 = .ok (.if_icmp .gt 40, 3) := by decide +kernel
theorem d_Mo_decode_24 : decode b_Mo_decode 24 = .ok (.aload_n 0, 1) := by decide +kernel
theorem d_Mo_decode_25 : decode b_Mo_decode 25 = .ok (.getfield 53, 3) := by decide +kernel
theorem d_Mo_decode_28 : decode b_Mo_decode 28 = .ok (.aload_n 0, 1) := by decide +kernel
theorem d_Mo_decode_29 : decode b_Mo_decode 29 = .ok (.getfield 129, 3) := by decide +kernel
theorem d_Mo_decode_32 : decode b_Mo_decode 32 = .ok (.iload_n 1, 1) := by decide +kernel
theorem d_Mo_decode_33 : decode b_Mo_decode 33 = .ok (.iastore, 1) := by decide +kernel
theorem d_Mo_decode_34 : decode b_Mo_decode 34 = .ok (.iload_n 1, 1) := by decide +kernel
theorem d_Mo_decode_35 : decode b_Mo_decode 35 = .ok (.iload_n 2, 1) := by decide +kernel
theorem d_Mo_decode_36 : decode b_Mo_decode 36 = .ok (.iadd, 1) := by decide +kernel
theorem d_Mo_decode_37 : decode b_Mo_decode 37 = .ok (.istore_n 1, 1) := by decide +kernel
theorem d_Mo_decode_38 : decode b_Mo_decode 38 = .ok (.aload_n 0, 1) := by decide +kernel
theorem d_Mo_decode_39 : decode b_Mo_decode 39 = .ok (.dup, 1) := by decide +kernel
theorem d_Mo_decode_40 : decode b_Mo_decode 40 = .ok (.getfield 129, 3) := by decide +kernel
theorem d_Mo_decode_43 : decode b_Mo_decode 43 = .ok (.iconst 1, 1) := by decide +kernel
theorem d_Mo_decode_44 : decode b_Mo_decode 44 = .ok (.iadd, 1) := by decide +kernel
theorem d_Mo_decode_45 : decode b_Mo_decode 45 = .ok (.putfield 129, 3) := by decide +kernel
theorem d_Mo_decode_48 : decode b_Mo_decode 48 = .ok (.aload_n 0, 1) := by decide +kernel
theorem d_Mo_decode_49 : decode b_Mo_decode 49 = .ok (.aload_n 0, 1) := by decide +kernel
theorem d_Mo_decode_50 : decode b_Mo_decode 50 = .ok (.getfield 129, 3) := by decide +kernel
theorem d_Mo_decode_53 : decode b_Mo_decode 53 = .ok (.iconst 1, 1) := by decide +kernel
theorem d_Mo_decode_54 : decode b_Mo_decode 54 = .ok (.invokevirtual 167, 3) := by decide +kernel
theorem d_Mo_decode_57 : decode b_Mo_decode 57 = .ok (.istore_n 2, 1) := by decide +kernel
theorem d_Mo_decode_58 : decode b_Mo_decode 58 = .ok (.goto (-44), 3) := by decide +kernel
theorem d_Mo_decode_61 : decode b_Mo_decode 61 = .ok (.iconst 0, 1) := by decide +kernel
theorem d_Mo_decode_62 : decode b_Mo_decode 62 = .ok (.istore_n 3, 1) := by decide +kernel
theorem d_Mo_decode_63 : decode b_Mo_decode 63 = .ok (.iload_n 3, 1) := by decide +kernel
theorem d_Mo_decode_64 : decode b_Mo_decode 64 = .ok (.bipush 64, 2) := by decide +kernel
theorem d_Mo_decode_66 : decode b_Mo_decode 66 = .ok (.if_icmp .ge 24, 3) := by decide +kernel
theorem d_Mo_decode_69 : decode b_Mo_decode 69 = .ok (.aload_n 0, 1) := by decide +kernel
theorem d_Mo_decode_70 : decode b_Mo_decode 70 = .ok (.getfield 57, 3) := by decide +kernel
theorem d_Mo_decode_73 : decode b_Mo_decode 73 = .ok (.bipush 64, 2) := by decide +kernel
theorem d_Mo_decode_75 : decode b_Mo_decode 75 = .ok (.aload_n 0, 1) := by decide +kernel
theorem d_Mo_decode_76 : decode b_Mo_decode 76 = .ok (.getfield 129, 3) := by decide +kernel
theorem d_Mo_decode_79 : decode b_Mo_decode 79 = .ok (.imul, 1) := by decide +kernel
theorem d_Mo_decode_80 : decode b_Mo_decode 80 = .ok (.iload_n 3, 1) := by decide +kernel
theorem d_Mo_decode_81 : decode b_Mo_decode 81 = .ok (.iadd, 1) := by decide +kernel
theorem d_Mo_decode_82 : decode b_Mo_decode 82 = .ok (.iconst 0, 1) := by decide +kernel
theorem d_Mo_decode_83 : decode b_Mo_decode 83 = .ok (.iastore, 1) := by decide +kernel
theorem d_Mo_decode_84 : decode b_Mo_decode 84 = .ok (.iinc 3 1, 3) := by decide +kernel
theorem d_Mo_decode_87 : decode b_Mo_decode 87 = .ok (.goto (-24), 3) := by decide +kernel
theorem d_Mo_decode_90 : decode b_Mo_decode 90 = .ok (.aload_n 0, 1) := by decide +kernel
theorem d_Mo_decode_91 : decode b_Mo_decode 91 = .ok (.getfield 129, 3) := by decide +kernel
theorem d_Mo_decode_94 : decode b_Mo_decode 94 = .ok (.iconst 1, 1) := by decide +kernel
theorem d_Mo_decode_95 : decode b_Mo_decode 95 = .ok (.isub, 1) := by decide +kernel
theorem d_Mo_decode_96 : decode b_Mo_decode 96 = .ok (.istore_n 3, 1) := by decide +kernel
theorem d_Mo_decode_97 : decode b_Mo_decode 97 = .ok (.iload_n 3, 1) := by decide +kernel
theorem d_Mo_decode_98 : decode b_Mo_decode 98 = .ok (.ifCond .lt 71, 3) := by decide +kernel
theorem d_Mo_decode_101 : decode b_Mo_decode 101 = .ok (.iconst 0, 1) := by decide +kernel
theorem d_Mo_decode_102 : decode b_Mo_decode 102 = .ok (.istore 4, 2) := by decide +kernel
theorem d_Mo_decode_104 : decode b_Mo_decode 104 = .ok (.iload 4, 2) := by decide +kernel
theorem d_Mo_decode_106 : decode b_Mo_decode 106 = .ok (.bipush 64, 2) := by decide +kernel
theorem d_Mo_decode_108 : decode b_Mo_decode 108 = .ok (.if_icmp .ge 55, 3) := by decide +kernel
theorem d_Mo_decode_111 : decode b_Mo_decode 111 = .ok (.aload_n 0, 1) := by decide +kernel
theorem d_Mo_decode_112 : decode b_Mo_decode 112 = .ok (.iload_n 3, 1) := by decide +kernel
theorem d_Mo_decode_113 : decode b_Mo_decode 113 = .ok (.iload 4, 2) := by decide +kernel
theorem d_Mo_decode_115 : decode b_Mo_decode 115 = .ok (.iconst 0, 1) := by decide +kernel
theorem d_Mo_decode_116 : decode b_Mo_decode 116 = .ok (.invokevirtual 216, 3) := by decide +kernel
theorem d_Mo_decode_119 : decode b_Mo_decode 119 = .ok (.istore 5, 2) := by decide +kernel
theorem d_Mo_decode_121 : decode b_Mo_decode 121 = .ok (.aload_n 0, 1) := by decide +kernel
theorem d_Mo_decode_122 : decode b_Mo_decode 122 = .ok (.iload_n 3, 1) := by decide +kernel
theorem d_Mo_decode_123 : decode b_Mo_decode 123 = .ok (.iload 4, 2) := by decide +kernel
theorem d_Mo_decode_125 : decode b_Mo_decode 125 = .ok (.iconst 1, 1) := by decide +kernel
theorem d_Mo_decode_126 : decode b_Mo_decode 126 = .ok (.invokevirtual 216, 3) := by decide +kernel
theorem d_Mo_decode_129 : decode b_Mo_decode 129 = .ok (.istore 6, 2) := by decide +kernel
theorem d_Mo_decode_131 : decode b_Mo_decode 131 = .ok (.aload_n 0, 1) := by decide +kernel
theorem d_Mo_decode_132 : decode b_Mo_decode 132 = .ok (.getfield 57, 3) := by decide +kernel
theorem d_Mo_decode_135 : decode b_Mo_decode 135 = .ok (.bipush 64, 2) := by decide +kernel
theorem d_Mo_decode_137 : decode b_Mo_decode 137 = .ok (.iload_n 3, 1) := by decide +kernel
theorem d_Mo_decode_138 : decode b_Mo_decode 138 = .ok (.imul, 1) := by decide +kernel
theorem d_Mo_decode_139 : decode b_Mo_decode 139 = .ok (.iload 4, 2) := by decide +kernel
theorem d_Mo_decode_141 : decode b_Mo_decode 141 = .ok (.iadd, 1) := by decide +kernel
theorem d_Mo_decode_142 : decode b_Mo_decode 142 = .ok (.iload 5, 2) := by decide +kernel
theorem d_Mo_decode_144 : decode b_Mo_decode 144 = .ok (.iload 6, 2) := by decide +kernel
theorem d_Mo_decode_146 : decode b_Mo_decode 146 = .ok (.if_icmp .ge 8, 3) := by decide +kernel
theorem d_Mo_decode_149 : decode b_Mo_decode 149 = .ok (.iload 5, 2) := by decide +kernel
theorem d_Mo_decode_151 : decode b_Mo_decode 151 = .ok (.goto 5, 3) := by decide +kernel
theorem d_Mo_decode_154 : decode b_Mo_decode 154 = .ok (.iload 6, 2) := by decide +kernel
theorem d_Mo_decode_156 : decode b_Mo_decode 156 = .ok (.iastore, 1) := by decide +kernel
theorem d_Mo_decode_157 : decode b_Mo_decode 157 = .ok (.iinc 4 1, 3) := by decide +kernel
theorem d_Mo_decode_160 : decode b_Mo_decode 160 = .ok (.goto (-56), 3) := by decide +kernel
theorem d_Mo_decode_163 : decode b_Mo_decode 163 = .ok (.iinc 3 (-1), 3) := by decide +kernel
theorem d_Mo_decode_166 : decode b_Mo_decode 166 = .ok (.goto (-69), 3) := by decide +kernel
theorem d_Mo_decode_169 : decode b_Mo_decode 169 = .ok (.aload_n 0, 1) := by decide +kernel
theorem d_Mo_decode_170 : decode b_Mo_decode 170 = .ok (.aload_n 0, 1) := by decide +kernel
theorem d_Mo_decode_171 : decode b_Mo_decode 171 = .ok (.getfield 57, 3) := by decide +kernel
theorem d_Mo_decode_174 : decode b_Mo_decode 174 = .ok (.iconst 0, 1) := by decide +kernel
theorem d_Mo_decode_175 : decode b_Mo_decode 175 = .ok (.iaload, 1) := by decide +kernel
theorem d_Mo_decode_176 : decode b_Mo_decode 176 = .ok (.putfield 132, 3) := by decide +kernel
theorem d_Mo_decode_179 : decode b_Mo_decode 179 = .ok (.iconst 0, 1) := by decide +kernel
theorem d_Mo_decode_180 : decode b_Mo_decode 180 = .ok (.istore_n 3, 1) := by decide +kernel
theorem d_Mo_decode_181 : decode b_Mo_decode 181 = .ok (.iconst 0, 1) := by decide +kernel
theorem d_Mo_decode_182 : decode b_Mo_decode 182 = .ok (.istore 4, 2) := by decide +kernel
theorem d_Mo_decode_184 : decode b_Mo_decode 184 = .ok (.iload 4, 2) := by decide +kernel
theorem d_Mo_decode_186 : decode b_Mo_decode 186 = .ok (.aload_n 0, 1) := by decide +kernel
theorem d_Mo_decode_187 : decode b_Mo_decode 187 = .ok (.getfield 129, 3) := by decide +kernel
theorem d_Mo_decode_190 : decode b_Mo_decode 190 = .ok (.if_icmp .ge 58, 3) := by decide +kernel
theorem d_Mo_decode_193 : decode b_Mo_decode 193 = .ok (.aload_n 0, 1) := by decide +kernel
theorem d_Mo_decode_194 : decode b_Mo_decode 194 = .ok (.getfield 60, 3) := by decide +kernel
theorem d_Mo_decode_197 : decode b_Mo_decode 197 = .ok (.iload 4, 2) := by decide +kernel
theorem d_Mo_decode_199 : decode b_Mo_decode 199 = .ok (.aload_n 0, 1) := by decide +kernel
theorem d_Mo_decode_200 : decode b_Mo_decode 200 = .ok (.iload 4, 2) := by decide +kernel
theorem d_Mo_decode_202 : decode b_Mo_decode 202 = .ok (.iload_n 3, 1) := by decide +kernel
theorem d_Mo_decode_203 : decode b_Mo_decode 203 = .ok (.iconst 0, 1) := by decide +kernel
theorem d_Mo_decode_204 : decode b_Mo_decode 204 = .ok (.invokevirtual 216, 3) := by decide +kernel
theorem d_Mo_decode_207 : decode b_Mo_decode 207 = .ok (.aload_n 0, 1) := by decide +kernel
theorem d_Mo_decode_208 : decode b_Mo_decode 208 = .ok (.getfield 57, 3) := by decide +kernel
theorem d_Mo_decode_211 : decode b_Mo_decode 211 = .ok (.bipush 64, 2) := by decide +kernel
theorem d_Mo_decode_213 : decode b_Mo_decode 213 = .ok (.iload 4, 2) := by decide +kernel
theorem d_Mo_decode_215 : decode b_Mo_decode 215 = .ok (.imul, 1) := by decide +kernel
theorem d_Mo_decode_216 : decode b_Mo_decode 216 = .ok (.iload_n 3, 1) := by decide +kernel
theorem d_Mo_decode_217 : decode b_Mo_decode 217 = .ok (.iadd, 1) := by decide +kernel
theorem d_Mo_decode_218 : decode b_Mo_decode 218 = .ok (.iaload, 1) := by decide +kernel
theorem d_Mo_decode_219 : decode b_Mo_decode 219 = .ok (.if_icmp .ne 7, 3) := by decide +kernel
theorem d_Mo_decode_222 : decode b_Mo_decode 222 = .ok (.iconst 0, 1) := by decide +kernel
theorem d_Mo_decode_223 : decode b_Mo_decode 223 = .ok (.goto 4, 3) := by decide +kernel
theorem d_Mo_decode_226 : decode b_Mo_decode 226 = .ok (.iconst 1, 1) := by decide +kernel
theorem d_Mo_decode_227 : decode b_Mo_decode 227 = .ok (.iastore, 1) := by decide +kernel
theorem d_Mo_decode_228 : decode b_Mo_decode 228 = .ok (.aload_n 0, 1) := by decide +kernel
theorem d_Mo_decode_229 : decode b_Mo_decode 229 = .ok (.getfield 60, 3) := by decide +kernel
theorem d_Mo_decode_232 : decode b_Mo_decode 232 = .ok (.iload 4, 2) := by decide +kernel
theorem d_Mo_decode_234 : decode b_Mo_decode 234 = .ok (.iaload, 1) := by decide +kernel
theorem d_Mo_decode_235 : decode b_Mo_decode 235 = .ok (.iconst 5, 1) := by decide +kernel
theorem d_Mo_decode_236 : decode b_Mo_decode 236 = .ok (.ishl, 1) := by decide +kernel
theorem d_Mo_decode_237 : decode b_Mo_decode 237 = .ok (.iload_n 3, 1) := by decide +kernel
theorem d_Mo_decode_238 : decode b_Mo_decode 238 = .ok (.iconst 1, 1) := by decide +kernel
theorem d_Mo_decode_239 : decode b_Mo_decode 239 = .ok (.ishr, 1) := by decide +kernel
theorem d_Mo_decode_240 : decode b_Mo_decode 240 = .ok (.ior, 1) := by decide +kernel
theorem d_Mo_decode_241 : decode b_Mo_decode 241 = .ok (.istore_n 3, 1) := by decide +kernel
theorem d_Mo_decode_242 : decode b_Mo_decode 242 = .ok (.iinc 4 1, 3) := by decide +kernel
theorem d_Mo_decode_245 : decode b_Mo_decode 245 = .ok (.goto (-61), 3) := by decide +kernel
theorem d_Mo_decode_248 : decode b_Mo_decode 248 = .ok (.return_, 1) := by decide +kernel
theorem ok_Mo_decode : OKv y_Mo_decode b_Mo_decode 7 none "DeepChannelModel" 0 := ⟨k_1134, k_1133, k_32, k_55, by decide +kernel, by decide +kernel, by decide +kernel⟩
abbrev w_Mo_decode (cI cJ : ClassId) (qM qM_begins qM_firsts qM_seconds qM_least qM_places qM_line qM_row : Nat) (M_thrown M_depth M_fill M_half M_craft M_powers M_logarithms M_forms M_elements M_mixer M_data M_waiting M_master M_counts M_sent M_state M_blocks M_marks M_wrongs M_bytes M_rights M_tells M_lastMaster M_lastCounts M_word M_values M_system M_solved M_wrong : Value) (M_pattern : Int32) (M_length : Int32) (M_rowSize : Int32) (M_differ : Int32) (M_begins : Nat → Int32) (M_firsts : Nat → Int32) (M_seconds : Nat → Int32) (M_least : Nat → Int32) (M_places : Nat → Int32) (M_line : Nat → Int32) (M_row : Nat → Int32) : va_W := [(qM, .inr (11, [M_thrown, M_depth, M_fill, M_half, .int M_pattern, M_craft, .ref qM_begins, .ref qM_firsts, .ref qM_seconds, M_powers, M_logarithms, M_forms, M_elements, M_mixer, M_data, M_waiting, M_master, M_counts, .ref qM_line, .int M_length, M_sent, M_state, .ref qM_places, .ref qM_least, .ref qM_row, .int M_rowSize, .int M_differ, M_blocks, M_marks, M_wrongs, M_bytes, M_rights, M_tells, M_lastMaster, M_lastCounts, M_word, M_values, M_system, M_solved, M_wrong])), (qM_begins, .inl (cI, 6, .inl M_begins)), (qM_firsts, .inl (cI, 18, .inl M_firsts)), (qM_seconds, .inl (cI, 18, .inl M_seconds)), (qM_least, .inl (cI, 230464, .inl M_least)), (qM_places, .inl (cI, 3600, .inl M_places)), (qM_line, .inl (cI, 4096, .inl M_line)), (qM_row, .inl (cI, 3600, .inl M_row))]
def f_Mo_decode_227 (kh184 : Int32 → Int32 → Int32 → Int32 → (Nat → Int32) → (Nat → Int32) → (Nat → Int32) → Option (Int32 × Int32 × (Nat → Int32) × (Nat → Int32) × (Nat → Int32))) (x3 : Int32) (x4 : Int32) (t1 : Int32) (t2 : Int32) (M_rowSize : Int32) (M_differ : Int32) (M_least : Nat → Int32) (M_places : Nat → Int32) (M_row : Nat → Int32) : Option (Int32 × Int32 × (Nat → Int32) × (Nat → Int32) × (Nat → Int32)) :=
  wrI M_row 3600 t1 t2 fun g1 =>
  rdI g1 3600 x4 fun v2 =>
  nm ((v2 <<< ((5 : Int32) &&& 31)) ||| (x3 >>> ((1 : Int32) &&& 31))) fun v3 =>
  nm (x4 + (1 : Int32)) fun v4 =>
  kh184 v3 v4 M_rowSize M_differ M_least M_places g1
def f_Mo_decode_184_b (M_pattern : Int32) (M_begins : Nat → Int32) (M_firsts : Nat → Int32) (M_seconds : Nat → Int32) (M_line : Nat → Int32) (kh184 : Int32 → Int32 → Int32 → Int32 → (Nat → Int32) → (Nat → Int32) → (Nat → Int32) → Option (Int32 × Int32 × (Nat → Int32) × (Nat → Int32) × (Nat → Int32))) (x3 : Int32) (x4 : Int32) (M_rowSize : Int32) (M_differ : Int32) (M_least : Nat → Int32) (M_places : Nat → Int32) (M_row : Nat → Int32) : Option (Int32 × Int32 × (Nat → Int32) × (Nat → Int32) × (Nat → Int32)) :=
  if M_rowSize ≤ x4 then
    some (M_rowSize, M_differ, M_least, M_places, M_row)
  else
  bd (f_Mo_with M_pattern M_places M_begins M_firsts M_seconds M_line M_least x4 x3 (0 : Int32)) fun u6 =>
  nm u6 fun r5 =>
  rdI M_least 230464 (((64 : Int32) * x4) + x3) fun v7 =>
  if r5 = v7 then
    f_Mo_decode_227 kh184 x3 x4 x4 (0 : Int32) M_rowSize M_differ M_least M_places M_row
  else
  f_Mo_decode_227 kh184 x3 x4 x4 (1 : Int32) M_rowSize M_differ M_least M_places M_row
def f_Mo_decode_184 (M_pattern : Int32) (M_begins : Nat → Int32) (M_firsts : Nat → Int32) (M_seconds : Nat → Int32) (M_line : Nat → Int32) : Nat → Int32 → Int32 → Int32 → Int32 → (Nat → Int32) → (Nat → Int32) → (Nat → Int32) → Option (Int32 × Int32 × (Nat → Int32) × (Nat → Int32) × (Nat → Int32))
  | 0 => fun _ _ _ _ _ _ _ => none
  | n + 1 => fun x3 x4 M_rowSize M_differ M_least M_places M_row => f_Mo_decode_184_b M_pattern M_begins M_firsts M_seconds M_line (f_Mo_decode_184 M_pattern M_begins M_firsts M_seconds M_line n) x3 x4 M_rowSize M_differ M_least M_places M_row
def f_Mo_decode_169 (M_pattern : Int32) (M_begins : Nat → Int32) (M_firsts : Nat → Int32) (M_seconds : Nat → Int32) (M_line : Nat → Int32) (M_rowSize : Int32) (M_differ : Int32) (M_least : Nat → Int32) (M_places : Nat → Int32) (M_row : Nat → Int32) : Option (Int32 × Int32 × (Nat → Int32) × (Nat → Int32) × (Nat → Int32)) :=
  rdI M_least 230464 (0 : Int32) fun v8 =>
  f_Mo_decode_184 M_pattern M_begins M_firsts M_seconds M_line 10000 (0 : Int32) (0 : Int32) M_rowSize v8 M_least M_places M_row
def f_Mo_decode_163 (kh97 : Int32 → Int32 → Int32 → (Nat → Int32) → (Nat → Int32) → (Nat → Int32) → Option (Int32 × Int32 × (Nat → Int32) × (Nat → Int32) × (Nat → Int32))) (x3 : Int32) (M_rowSize : Int32) (M_differ : Int32) (M_least : Nat → Int32) (M_places : Nat → Int32) (M_row : Nat → Int32) : Option (Int32 × Int32 × (Nat → Int32) × (Nat → Int32) × (Nat → Int32)) :=
  nm (x3 + (-1 : Int32)) fun v9 =>
  kh97 v9 M_rowSize M_differ M_least M_places M_row
def f_Mo_decode_156 (kh104 : Int32 → Int32 → Int32 → Int32 → (Nat → Int32) → (Nat → Int32) → (Nat → Int32) → Option (Int32 × Int32 × (Nat → Int32) × (Nat → Int32) × (Nat → Int32))) (x3 : Int32) (x4 : Int32) (t1 : Int32) (t2 : Int32) (M_rowSize : Int32) (M_differ : Int32) (M_least : Nat → Int32) (M_places : Nat → Int32) (M_row : Nat → Int32) : Option (Int32 × Int32 × (Nat → Int32) × (Nat → Int32) × (Nat → Int32)) :=
  wrI M_least 230464 t1 t2 fun g10 =>
  nm (x4 + (1 : Int32)) fun v11 =>
  kh104 x3 v11 M_rowSize M_differ g10 M_places M_row
def f_Mo_decode_104_b (M_pattern : Int32) (M_begins : Nat → Int32) (M_firsts : Nat → Int32) (M_seconds : Nat → Int32) (M_line : Nat → Int32) (kh97 : Int32 → Int32 → Int32 → (Nat → Int32) → (Nat → Int32) → (Nat → Int32) → Option (Int32 × Int32 × (Nat → Int32) × (Nat → Int32) × (Nat → Int32))) (kh104 : Int32 → Int32 → Int32 → Int32 → (Nat → Int32) → (Nat → Int32) → (Nat → Int32) → Option (Int32 × Int32 × (Nat → Int32) × (Nat → Int32) × (Nat → Int32))) (x3 : Int32) (x4 : Int32) (M_rowSize : Int32) (M_differ : Int32) (M_least : Nat → Int32) (M_places : Nat → Int32) (M_row : Nat → Int32) : Option (Int32 × Int32 × (Nat → Int32) × (Nat → Int32) × (Nat → Int32)) :=
  if (64 : Int32) ≤ x4 then
    f_Mo_decode_163 kh97 x3 M_rowSize M_differ M_least M_places M_row
  else
  bd (f_Mo_with M_pattern M_places M_begins M_firsts M_seconds M_line M_least x3 x4 (0 : Int32)) fun u13 =>
  nm u13 fun r12 =>
  bd (f_Mo_with M_pattern M_places M_begins M_firsts M_seconds M_line M_least x3 x4 (1 : Int32)) fun u15 =>
  nm u15 fun r14 =>
  if r14 ≤ r12 then
    f_Mo_decode_156 kh104 x3 x4 (((64 : Int32) * x3) + x4) r14 M_rowSize M_differ M_least M_places M_row
  else
  f_Mo_decode_156 kh104 x3 x4 (((64 : Int32) * x3) + x4) r12 M_rowSize M_differ M_least M_places M_row
def f_Mo_decode_104 (M_pattern : Int32) (M_begins : Nat → Int32) (M_firsts : Nat → Int32) (M_seconds : Nat → Int32) (M_line : Nat → Int32) (kh97 : Int32 → Int32 → Int32 → (Nat → Int32) → (Nat → Int32) → (Nat → Int32) → Option (Int32 × Int32 × (Nat → Int32) × (Nat → Int32) × (Nat → Int32))) : Nat → Int32 → Int32 → Int32 → Int32 → (Nat → Int32) → (Nat → Int32) → (Nat → Int32) → Option (Int32 × Int32 × (Nat → Int32) × (Nat → Int32) × (Nat → Int32))
  | 0 => fun _ _ _ _ _ _ _ => none
  | n + 1 => fun x3 x4 M_rowSize M_differ M_least M_places M_row => f_Mo_decode_104_b M_pattern M_begins M_firsts M_seconds M_line kh97 (f_Mo_decode_104 M_pattern M_begins M_firsts M_seconds M_line kh97 n) x3 x4 M_rowSize M_differ M_least M_places M_row
def f_Mo_decode_97_b (M_pattern : Int32) (M_begins : Nat → Int32) (M_firsts : Nat → Int32) (M_seconds : Nat → Int32) (M_line : Nat → Int32) (kh97 : Int32 → Int32 → Int32 → (Nat → Int32) → (Nat → Int32) → (Nat → Int32) → Option (Int32 × Int32 × (Nat → Int32) × (Nat → Int32) × (Nat → Int32))) (x3 : Int32) (M_rowSize : Int32) (M_differ : Int32) (M_least : Nat → Int32) (M_places : Nat → Int32) (M_row : Nat → Int32) : Option (Int32 × Int32 × (Nat → Int32) × (Nat → Int32) × (Nat → Int32)) :=
  if x3 < 0 then
    f_Mo_decode_169 M_pattern M_begins M_firsts M_seconds M_line M_rowSize M_differ M_least M_places M_row
  else
  f_Mo_decode_104 M_pattern M_begins M_firsts M_seconds M_line kh97 10000 x3 (0 : Int32) M_rowSize M_differ M_least M_places M_row
def f_Mo_decode_97 (M_pattern : Int32) (M_begins : Nat → Int32) (M_firsts : Nat → Int32) (M_seconds : Nat → Int32) (M_line : Nat → Int32) : Nat → Int32 → Int32 → Int32 → (Nat → Int32) → (Nat → Int32) → (Nat → Int32) → Option (Int32 × Int32 × (Nat → Int32) × (Nat → Int32) × (Nat → Int32))
  | 0 => fun _ _ _ _ _ _ => none
  | n + 1 => fun x3 M_rowSize M_differ M_least M_places M_row => f_Mo_decode_97_b M_pattern M_begins M_firsts M_seconds M_line (f_Mo_decode_97 M_pattern M_begins M_firsts M_seconds M_line n) x3 M_rowSize M_differ M_least M_places M_row
def f_Mo_decode_90 (M_pattern : Int32) (M_begins : Nat → Int32) (M_firsts : Nat → Int32) (M_seconds : Nat → Int32) (M_line : Nat → Int32) (M_rowSize : Int32) (M_differ : Int32) (M_least : Nat → Int32) (M_places : Nat → Int32) (M_row : Nat → Int32) : Option (Int32 × Int32 × (Nat → Int32) × (Nat → Int32) × (Nat → Int32)) :=
  nm (M_rowSize - (1 : Int32)) fun v16 =>
  f_Mo_decode_97 M_pattern M_begins M_firsts M_seconds M_line 10000 v16 M_rowSize M_differ M_least M_places M_row
def f_Mo_decode_63_b (M_pattern : Int32) (M_begins : Nat → Int32) (M_firsts : Nat → Int32) (M_seconds : Nat → Int32) (M_line : Nat → Int32) (kh63 : Int32 → Int32 → Int32 → (Nat → Int32) → (Nat → Int32) → (Nat → Int32) → Option (Int32 × Int32 × (Nat → Int32) × (Nat → Int32) × (Nat → Int32))) (x3 : Int32) (M_rowSize : Int32) (M_differ : Int32) (M_least : Nat → Int32) (M_places : Nat → Int32) (M_row : Nat → Int32) : Option (Int32 × Int32 × (Nat → Int32) × (Nat → Int32) × (Nat → Int32)) :=
  if (64 : Int32) ≤ x3 then
    f_Mo_decode_90 M_pattern M_begins M_firsts M_seconds M_line M_rowSize M_differ M_least M_places M_row
  else
  wrI M_least 230464 (((64 : Int32) * M_rowSize) + x3) (0 : Int32) fun g17 =>
  nm (x3 + (1 : Int32)) fun v18 =>
  kh63 v18 M_rowSize M_differ g17 M_places M_row
def f_Mo_decode_63 (M_pattern : Int32) (M_begins : Nat → Int32) (M_firsts : Nat → Int32) (M_seconds : Nat → Int32) (M_line : Nat → Int32) : Nat → Int32 → Int32 → Int32 → (Nat → Int32) → (Nat → Int32) → (Nat → Int32) → Option (Int32 × Int32 × (Nat → Int32) × (Nat → Int32) × (Nat → Int32))
  | 0 => fun _ _ _ _ _ _ => none
  | n + 1 => fun x3 M_rowSize M_differ M_least M_places M_row => f_Mo_decode_63_b M_pattern M_begins M_firsts M_seconds M_line (f_Mo_decode_63 M_pattern M_begins M_firsts M_seconds M_line n) x3 M_rowSize M_differ M_least M_places M_row
def f_Mo_decode_61 (M_pattern : Int32) (M_begins : Nat → Int32) (M_firsts : Nat → Int32) (M_seconds : Nat → Int32) (M_line : Nat → Int32) (M_rowSize : Int32) (M_differ : Int32) (M_least : Nat → Int32) (M_places : Nat → Int32) (M_row : Nat → Int32) : Option (Int32 × Int32 × (Nat → Int32) × (Nat → Int32) × (Nat → Int32)) :=
  f_Mo_decode_63 M_pattern M_begins M_firsts M_seconds M_line 10000 (0 : Int32) M_rowSize M_differ M_least M_places M_row
def f_Mo_decode_14_b (M_pattern : Int32) (M_length : Int32) (M_begins : Nat → Int32) (M_firsts : Nat → Int32) (M_seconds : Nat → Int32) (M_line : Nat → Int32) (kh14 : Int32 → Int32 → Int32 → Int32 → (Nat → Int32) → (Nat → Int32) → (Nat → Int32) → Option (Int32 × Int32 × (Nat → Int32) × (Nat → Int32) × (Nat → Int32))) (x1 : Int32) (x2 : Int32) (M_rowSize : Int32) (M_differ : Int32) (M_least : Nat → Int32) (M_places : Nat → Int32) (M_row : Nat → Int32) : Option (Int32 × Int32 × (Nat → Int32) × (Nat → Int32) × (Nat → Int32)) :=
  if M_length < (x1 + x2) then
    f_Mo_decode_61 M_pattern M_begins M_firsts M_seconds M_line M_rowSize M_differ M_least M_places M_row
  else
  wrI M_places 3600 M_rowSize x1 fun g19 =>
  nm (x1 + x2) fun v20 =>
  nm (M_rowSize + (1 : Int32)) fun v21 =>
  bd (f_Mo_linesOf M_pattern M_begins M_firsts M_seconds v21 (1 : Int32)) fun u23 =>
  nm u23 fun r22 =>
  kh14 v20 r22 v21 M_differ M_least g19 M_row
def f_Mo_decode_14 (M_pattern : Int32) (M_length : Int32) (M_begins : Nat → Int32) (M_firsts : Nat → Int32) (M_seconds : Nat → Int32) (M_line : Nat → Int32) : Nat → Int32 → Int32 → Int32 → Int32 → (Nat → Int32) → (Nat → Int32) → (Nat → Int32) → Option (Int32 × Int32 × (Nat → Int32) × (Nat → Int32) × (Nat → Int32))
  | 0 => fun _ _ _ _ _ _ _ => none
  | n + 1 => fun x1 x2 M_rowSize M_differ M_least M_places M_row => f_Mo_decode_14_b M_pattern M_length M_begins M_firsts M_seconds M_line (f_Mo_decode_14 M_pattern M_length M_begins M_firsts M_seconds M_line n) x1 x2 M_rowSize M_differ M_least M_places M_row
def f_Mo_decode (M_pattern : Int32) (M_length : Int32) (M_rowSize : Int32) (M_differ : Int32) (M_begins : Nat → Int32) (M_firsts : Nat → Int32) (M_seconds : Nat → Int32) (M_least : Nat → Int32) (M_places : Nat → Int32) (M_line : Nat → Int32) (M_row : Nat → Int32) : Option (Int32 × Int32 × (Nat → Int32) × (Nat → Int32) × (Nat → Int32)) :=
  bd (f_Mo_linesOf M_pattern M_begins M_firsts M_seconds (0 : Int32) (1 : Int32)) fun u25 =>
  nm u25 fun r24 =>
  f_Mo_decode_14 M_pattern M_length M_begins M_firsts M_seconds M_line 10000 (0 : Int32) r24 (0 : Int32) M_differ M_least M_places M_row
set_option maxHeartbeats 4000000 in
set_option maxRecDepth 100000 in
theorem c_Mo_decode (l : Launch) (D : va_G) (cI cJ : ClassId) (tt : Nat → Nat) (qM qM_begins qM_firsts qM_seconds qM_least qM_places qM_line qM_row : Nat) (M_thrown M_depth M_fill M_half M_craft M_powers M_logarithms M_forms M_elements M_mixer M_data M_waiting M_master M_counts M_sent M_state M_blocks M_marks M_wrongs M_bytes M_rights M_tells M_lastMaster M_lastCounts M_word M_values M_system M_solved M_wrong : Value) (sz : Nat) (M_pattern : Int32) (M_length : Int32) (M_rowSize : Int32) (M_differ : Int32) (M_begins : Nat → Int32) (M_firsts : Nat → Int32) (M_seconds : Nat → Int32) (M_least : Nat → Int32) (M_places : Nat → Int32) (M_line : Nat → Int32) (M_row : Nat → Int32) (M_rowSize' : Int32) (M_differ' : Int32) (M_least' : Nat → Int32) (M_places' : Nat → Int32) (M_row' : Nat → Int32) (hm : f_Mo_decode M_pattern M_length M_rowSize M_differ M_begins M_firsts M_seconds M_least M_places M_line M_row = some (M_rowSize', M_differ', M_least', M_places', M_row')) : CTv l y_Mo_decode b_Mo_decode 7 none (RM 3 71) D cI cJ tt [.ref qM] (w_Mo_decode cI cJ qM qM_begins qM_firsts qM_seconds qM_least qM_places qM_line qM_row M_thrown M_depth M_fill M_half M_craft M_powers M_logarithms M_forms M_elements M_mixer M_data M_waiting M_master M_counts M_sent M_state M_blocks M_marks M_wrongs M_bytes M_rights M_tells M_lastMaster M_lastCounts M_word M_values M_system M_solved M_wrong M_pattern M_length M_rowSize M_differ M_begins M_firsts M_seconds M_least M_places M_line M_row) (w_Mo_decode cI cJ qM qM_begins qM_firsts qM_seconds qM_least qM_places qM_line qM_row M_thrown M_depth M_fill M_half M_craft M_powers M_logarithms M_forms M_elements M_mixer M_data M_waiting M_master M_counts M_sent M_state M_blocks M_marks M_wrongs M_bytes M_rights M_tells M_lastMaster M_lastCounts M_word M_values M_system M_solved M_wrong M_pattern M_length M_rowSize' M_differ' M_begins M_firsts M_seconds M_least' M_places' M_line M_row') sz := by
  refine Met.ofW (cc := b_Mo_decode) (maxL := 7) (ret := none) (by decide) rfl ?_
  intro p e s m args below meth c s₁ B hml hv
  obtain ⟨hargs, hsz, hP, hK, hD0, hE⟩ := hv
  have hx := B.exec
  have hb := B.bytes
  have hr := B.returns
  have hts : ∀ w ∈ TB, w.before args s = true := z_mV s (atoms_spec (ws := WD y_Mo_decode b_Mo_decode 7 none) B.pre)
  have hown : s.vm.findClass "DeepChannelModel" = some m.cls := findClass_of_methodNamed B.named
  have hlocks := B.notSynchronized
  subst hsz
  have hD := hD0.self (sz := s.heap.size)
  generalize hAe : va_A (w_Mo_decode cI cJ qM qM_begins qM_firsts qM_seconds qM_least qM_places qM_line qM_row M_thrown M_depth M_fill M_half M_craft M_powers M_logarithms M_forms M_elements M_mixer M_data M_waiting M_master M_counts M_sent M_state M_blocks M_marks M_wrongs M_bytes M_rights M_tells M_lastMaster M_lastCounts M_word M_values M_system M_solved M_wrong M_pattern M_length M_rowSize M_differ M_begins M_firsts M_seconds M_least M_places M_line M_row) s.heap.size = A at hD hE ⊢
  have hA : ∀ q : Nat, s.heap.size ≤ q → A q := fun q h => by rw [← hAe]; exact Or.inr h
  have hS : va_S A s.heap s.heap [] := va_S.rf
  refine z_entry (vs := [.ref qM]) hargs (Nat.le_of_ble_eq_true rfl) (fun ls hl => ?_)
  have hl : lv_has ls 7 [(0, .ref qM)] := hl
  show W p l e (RM 3 71) s m args below meth c s.heap [] 0 0 _ _
  refine z_qi (fun Q0 hQ => ?_)
  have F : CallFix p m c b_Mo_decode 7 s args TB "DeepChannelModel" := ⟨hx, hb, hml, hown, hts⟩
  have T184 : ∀ (n184 : Nat) (x3 : Int32) (x4 : Int32) (M_rowSize : Int32) (M_differ : Int32) (M_least : Nat → Int32) (M_places : Nat → Int32) (M_row : Nat → Int32), f_Mo_decode_184 M_pattern M_begins M_firsts M_seconds M_line n184 x3 x4 M_rowSize M_differ M_least M_places M_row = some (M_rowSize', M_differ', M_least', M_places', M_row') → ∀ (H : Heap) (locs : List Loc), va_P D classes (w_Mo_decode cI cJ qM qM_begins qM_firsts qM_seconds qM_least qM_places qM_line qM_row M_thrown M_depth M_fill M_half M_craft M_powers M_logarithms M_forms M_elements M_mixer M_data M_waiting M_master M_counts M_sent M_state M_blocks M_marks M_wrongs M_bytes M_rights M_tells M_lastMaster M_lastCounts M_word M_values M_system M_solved M_wrong M_pattern M_length M_rowSize M_differ M_begins M_firsts M_seconds M_least M_places M_line M_row) H → va_D A (w_Mo_decode cI cJ qM qM_begins qM_firsts qM_seconds qM_least qM_places qM_line qM_row M_thrown M_depth M_fill M_half M_craft M_powers M_logarithms M_forms M_elements M_mixer M_data M_waiting M_master M_counts M_sent M_state M_blocks M_marks M_wrongs M_bytes M_rights M_tells M_lastMaster M_lastCounts M_word M_values M_system M_solved M_wrong M_pattern M_length M_rowSize M_differ M_begins M_firsts M_seconds M_least M_places M_line M_row) → va_S A s.heap H locs → ∀ (ls : Array Slot), lv_has ls 7 [(0, .ref qM), (3, .int x3), (4, .int x4)] → W p l e (RM 3 71) s m args below meth c H locs 0 0 Q0 (F0 m 184 ls []) := by
    intro n184
    induction n184 with
    | zero => intro x3 x4 M_rowSize M_differ M_least M_places M_row hm; cases hm
    | succ n184 ih184 =>
      have T227 : ∀ (x3 : Int32) (x4 : Int32) (t1 : Int32) (t2 : Int32) (M_rowSize : Int32) (M_differ : Int32) (M_least : Nat → Int32) (M_places : Nat → Int32) (M_row : Nat → Int32), f_Mo_decode_227 (f_Mo_decode_184 M_pattern M_begins M_firsts M_seconds M_line n184) x3 x4 t1 t2 M_rowSize M_differ M_least M_places M_row = some (M_rowSize', M_differ', M_least', M_places', M_row') → ∀ (H : Heap) (locs : List Loc), va_P D classes (w_Mo_decode cI cJ qM qM_begins qM_firsts qM_seconds qM_least qM_places qM_line qM_row M_thrown M_depth M_fill M_half M_craft M_powers M_logarithms M_forms M_elements M_mixer M_data M_waiting M_master M_counts M_sent M_state M_blocks M_marks M_wrongs M_bytes M_rights M_tells M_lastMaster M_lastCounts M_word M_values M_system M_solved M_wrong M_pattern M_length M_rowSize M_differ M_begins M_firsts M_seconds M_least M_places M_line M_row) H → va_D A (w_Mo_decode cI cJ qM qM_begins qM_firsts qM_seconds qM_least qM_places qM_line qM_row M_thrown M_depth M_fill M_half M_craft M_powers M_logarithms M_forms M_elements M_mixer M_data M_waiting M_master M_counts M_sent M_state M_blocks M_marks M_wrongs M_bytes M_rights M_tells M_lastMaster M_lastCounts M_word M_values M_system M_solved M_wrong M_pattern M_length M_rowSize M_differ M_begins M_firsts M_seconds M_least M_places M_line M_row) → va_S A s.heap H locs → ∀ (ls : Array Slot), lv_has ls 7 [(0, .ref qM), (3, .int x3), (4, .int x4)] → W p l e (RM 3 71) s m args below meth c H locs 0 0 Q0 (F0 m 227 ls [.int t2, .int t1, .ref qM_row]) := by
        intro x3 x4 t1 t2 M_rowSize M_differ M_least M_places M_row hm H locs hP hD hS ls hl
        unfold f_Mo_decode_227 at hm
        refine z_iast hm hx hb hK hP hD hS 7 rfl d_Mo_decode_227 (fun g1 hm H locs hP hD hS => ?_)
        have hP : va_P D classes (w_Mo_decode cI cJ qM qM_begins qM_firsts qM_seconds qM_least qM_places qM_line qM_row M_thrown M_depth M_fill M_half M_craft M_powers M_logarithms M_forms M_elements M_mixer M_data M_waiting M_master M_counts M_sent M_state M_blocks M_marks M_wrongs M_bytes M_rights M_tells M_lastMaster M_lastCounts M_word M_values M_system M_solved M_wrong M_pattern M_length M_rowSize M_differ M_begins M_firsts M_seconds M_least M_places M_line g1) H := hP
        have hD : va_D A (w_Mo_decode cI cJ qM qM_begins qM_firsts qM_seconds qM_least qM_places qM_line qM_row M_thrown M_depth M_fill M_half M_craft M_powers M_logarithms M_forms M_elements M_mixer M_data M_waiting M_master M_counts M_sent M_state M_blocks M_marks M_wrongs M_bytes M_rights M_tells M_lastMaster M_lastCounts M_word M_values M_system M_solved M_wrong M_pattern M_length M_rowSize M_differ M_begins M_firsts M_seconds M_least M_places M_line g1) := hD
        refine lv_aload_n hx hb d_Mo_decode_228 rfl (lv_at hl 0 rfl) ?_
        refine va_get (D := D) (ci := 11) (v := .ref qM_row) (C := "DeepChannelModel") (T := fT_Mo) (N := 40) hx hb hts u_Mo hown hK hP 0 rfl rfl 24 (by decide) (hts _ k_910) (fun _ h9 => h9) rfl d_Mo_decode_229 ?_
        refine lv_iload hx hb d_Mo_decode_232 (lv_at hl 2 rfl) ?_
        refine z_iald hm hx hb hK hP 7 rfl d_Mo_decode_234 (fun v2 hm => ?_)
        refine lv_iconst (v := (5 : Int32)) hx hb d_Mo_decode_235 (by decide) ?_
        refine lv_ishl hx hb d_Mo_decode_236 ?_
        refine lv_iload_n hx hb d_Mo_decode_237 rfl (lv_at hl 1 rfl) ?_
        refine lv_iconst (v := (1 : Int32)) hx hb d_Mo_decode_238 (by decide) ?_
        refine lv_ishr hx hb d_Mo_decode_239 ?_
        refine lv_ior hx hb d_Mo_decode_240 ?_
        refine z_nmi hm (fun v3 hm => ?_)
        refine lv_istore_n (lv' := [(3, .int v3), (0, .ref qM), (4, .int x4)]) hx hb d_Mo_decode_241 rfl hl (by decide) rfl (fun ls hl => ?_)
        obtain ⟨v4, ev, hm⟩ := nm_el hm
        refine lv_iinc (v := v4) (lv' := [(4, .int v4), (3, .int v3), (0, .ref qM)]) hx hb d_Mo_decode_242 hl (k := 2) rfl (by rw [ev]; rfl) (by decide) rfl (fun ls hl => ?_)
        refine lv_goto (tgt := 184) hx hb d_Mo_decode_245 (by decide) ?_
        exact ih184 v3 v4 M_rowSize M_differ M_least M_places g1 hm _ _ hP hD hS _ (lv_sub hl [2, 1, 0] rfl)
      intro x3 x4 M_rowSize M_differ M_least M_places M_row hm H locs hP hD hS ls hl
      replace hm : f_Mo_decode_184_b M_pattern M_begins M_firsts M_seconds M_line (f_Mo_decode_184 M_pattern M_begins M_firsts M_seconds M_line n184) x3 x4 M_rowSize M_differ M_least M_places M_row = some (M_rowSize', M_differ', M_least', M_places', M_row') := hm
      unfold f_Mo_decode_184_b at hm
      refine lv_iload hx hb d_Mo_decode_184 (lv_at hl 2 rfl) ?_
      refine lv_aload_n hx hb d_Mo_decode_186 rfl (lv_at hl 0 rfl) ?_
      refine va_get (D := D) (ci := 11) (v := .int M_rowSize) (C := "DeepChannelModel") (T := fT_Mo) (N := 40) hx hb hts u_Mo hown hK hP 0 rfl rfl 25 (by decide) (hts _ k_911) (fun _ h9 => h9) rfl d_Mo_decode_187 ?_
      refine z_if hm (lv_icmp_ge (tgt := 248) hx hb d_Mo_decode_190 (by decide)) (fun hm => ?_) (fun hm => ?_)
      · cases hm
        exact z_qo hQ (z_vret hr hx hb hlocks hK hP hD hS d_Mo_decode_248)
      · refine lv_aload_n hx hb d_Mo_decode_193 rfl (lv_at hl 0 rfl) ?_
        refine va_get (D := D) (ci := 11) (v := .ref qM_row) (C := "DeepChannelModel") (T := fT_Mo) (N := 40) hx hb hts u_Mo hown hK hP 0 rfl rfl 24 (by decide) (hts _ k_910) (fun _ h9 => h9) rfl d_Mo_decode_194 ?_
        refine lv_iload hx hb d_Mo_decode_197 (lv_at hl 2 rfl) ?_
        refine lv_aload_n hx hb d_Mo_decode_199 rfl (lv_at hl 0 rfl) ?_
        refine lv_iload hx hb d_Mo_decode_200 (lv_at hl 2 rfl) ?_
        refine lv_iload_n hx hb d_Mo_decode_202 rfl (lv_at hl 1 rfl) ?_
        refine lv_iconst (v := (0 : Int32)) hx hb d_Mo_decode_203 (by decide) ?_
        obtain ⟨r5, hu, hm⟩ := bd_el hm
        replace hm := nm_1 hm
        refine z_cVi (wc := w_Mo_with cI cJ qM qM_places qM_begins qM_firsts qM_seconds qM_line qM_least M_thrown M_depth M_fill M_half M_craft M_powers M_logarithms M_forms M_elements M_mixer M_data M_waiting M_master M_counts (.int M_length) M_sent M_state (.ref qM_row) (.int M_rowSize) (.int M_differ) M_blocks M_marks M_wrongs M_bytes M_rights M_tells M_lastMaster M_lastCounts M_word M_values M_system M_solved M_wrong M_pattern M_places M_begins M_firsts M_seconds M_line M_least) (wc' := w_Mo_with cI cJ qM qM_places qM_begins qM_firsts qM_seconds qM_line qM_least M_thrown M_depth M_fill M_half M_craft M_powers M_logarithms M_forms M_elements M_mixer M_data M_waiting M_master M_counts (.int M_length) M_sent M_state (.ref qM_row) (.int M_rowSize) (.int M_differ) M_blocks M_marks M_wrongs M_bytes M_rights M_tells M_lastMaster M_lastCounts M_word M_values M_system M_solved M_wrong M_pattern M_places M_begins M_firsts M_seconds M_line M_least) (wr := [(qM_row, .inl (cI, 3600, .inl M_row))]) (As := [.int x4, .int x3, .int (0 : Int32)]) (rest := [.int x4, .ref qM_row]) (c_Mo_with l D cI cJ tt qM qM_places qM_begins qM_firsts qM_seconds qM_line qM_least M_thrown M_depth M_fill M_half M_craft M_powers M_logarithms M_forms M_elements M_mixer M_data M_waiting M_master M_counts (.int M_length) M_sent M_state (.ref qM_row) (.int M_rowSize) (.int M_differ) M_blocks M_marks M_wrongs M_bytes M_rights M_tells M_lastMaster M_lastCounts M_word M_values M_system M_solved M_wrong _ M_pattern M_places M_begins M_firsts M_seconds M_line M_least x4 x3 (0 : Int32) r5 hu) F ok_Mo_with rfl k_1135 hK hE hP hD hS hA [0, 5, 1, 2, 3, 6, 4] [7] rfl rfl (by decide) (by decide) (by decide) 0 rfl rfl rfl ⟨rfl, rfl, Nat.le_of_ble_eq_true rfl, Nat.le_of_ble_eq_true rfl⟩ ⟨Nat.zero_le _, Nat.zero_le _⟩ rfl hl.1 rfl (Nat.le_of_ble_eq_true rfl) d_Mo_decode_204 (fun H locs hP hD hS => ?_)
        have hP : va_P D classes (w_Mo_decode cI cJ qM qM_begins qM_firsts qM_seconds qM_least qM_places qM_line qM_row M_thrown M_depth M_fill M_half M_craft M_powers M_logarithms M_forms M_elements M_mixer M_data M_waiting M_master M_counts M_sent M_state M_blocks M_marks M_wrongs M_bytes M_rights M_tells M_lastMaster M_lastCounts M_word M_values M_system M_solved M_wrong M_pattern M_length M_rowSize M_differ M_begins M_firsts M_seconds M_least M_places M_line M_row) H := hP.sub [1, 3, 4, 5, 7, 2, 6, 0] rfl
        have hD : va_D A (w_Mo_decode cI cJ qM qM_begins qM_firsts qM_seconds qM_least qM_places qM_line qM_row M_thrown M_depth M_fill M_half M_craft M_powers M_logarithms M_forms M_elements M_mixer M_data M_waiting M_master M_counts M_sent M_state M_blocks M_marks M_wrongs M_bytes M_rights M_tells M_lastMaster M_lastCounts M_word M_values M_system M_solved M_wrong M_pattern M_length M_rowSize M_differ M_begins M_firsts M_seconds M_least M_places M_line M_row) := hD.sub [1, 3, 4, 5, 7, 2, 6, 0] (by decide) rfl
        refine lv_aload_n hx hb d_Mo_decode_207 rfl (lv_at hl 0 rfl) ?_
        refine va_get (D := D) (ci := 11) (v := .ref qM_least) (C := "DeepChannelModel") (T := fT_Mo) (N := 40) hx hb hts u_Mo hown hK hP 0 rfl rfl 23 (by decide) (hts _ k_909) (fun _ h9 => h9) rfl d_Mo_decode_208 ?_
        refine lv_bipush (v := (64 : Int32)) hx hb d_Mo_decode_211 (by decide) ?_
        refine lv_iload hx hb d_Mo_decode_213 (lv_at hl 2 rfl) ?_
        refine lv_imul hx hb d_Mo_decode_215 ?_
        refine lv_iload_n hx hb d_Mo_decode_216 rfl (lv_at hl 1 rfl) ?_
        refine lv_iadd hx hb d_Mo_decode_217 ?_
        refine z_iald hm hx hb hK hP 4 rfl d_Mo_decode_218 (fun v7 hm => ?_)
        refine z_ifn hm (lv_icmp_ne (tgt := 226) hx hb d_Mo_decode_219 (by decide)) (fun hm => ?_) (fun hm => ?_)
        · refine lv_iconst (v := (0 : Int32)) hx hb d_Mo_decode_222 (by decide) ?_
          refine lv_goto (tgt := 227) hx hb d_Mo_decode_223 (by decide) ?_
          exact T227 x3 x4 x4 (0 : Int32) M_rowSize M_differ M_least M_places M_row hm _ _ hP hD hS _ (lv_sub hl [0, 1, 2] rfl)
        · refine lv_iconst (v := (1 : Int32)) hx hb d_Mo_decode_226 (by decide) ?_
          exact T227 x3 x4 x4 (1 : Int32) M_rowSize M_differ M_least M_places M_row hm _ _ hP hD hS _ (lv_sub hl [0, 1, 2] rfl)
  have T169 : ∀ (M_rowSize : Int32) (M_differ : Int32) (M_least : Nat → Int32) (M_places : Nat → Int32) (M_row : Nat → Int32), f_Mo_decode_169 M_pattern M_begins M_firsts M_seconds M_line M_rowSize M_differ M_least M_places M_row = some (M_rowSize', M_differ', M_least', M_places', M_row') → ∀ (H : Heap) (locs : List Loc), va_P D classes (w_Mo_decode cI cJ qM qM_begins qM_firsts qM_seconds qM_least qM_places qM_line qM_row M_thrown M_depth M_fill M_half M_craft M_powers M_logarithms M_forms M_elements M_mixer M_data M_waiting M_master M_counts M_sent M_state M_blocks M_marks M_wrongs M_bytes M_rights M_tells M_lastMaster M_lastCounts M_word M_values M_system M_solved M_wrong M_pattern M_length M_rowSize M_differ M_begins M_firsts M_seconds M_least M_places M_line M_row) H → va_D A (w_Mo_decode cI cJ qM qM_begins qM_firsts qM_seconds qM_least qM_places qM_line qM_row M_thrown M_depth M_fill M_half M_craft M_powers M_logarithms M_forms M_elements M_mixer M_data M_waiting M_master M_counts M_sent M_state M_blocks M_marks M_wrongs M_bytes M_rights M_tells M_lastMaster M_lastCounts M_word M_values M_system M_solved M_wrong M_pattern M_length M_rowSize M_differ M_begins M_firsts M_seconds M_least M_places M_line M_row) → va_S A s.heap H locs → ∀ (ls : Array Slot), lv_has ls 7 [(0, .ref qM)] → W p l e (RM 3 71) s m args below meth c H locs 0 0 Q0 (F0 m 169 ls []) := by
    intro M_rowSize M_differ M_least M_places M_row hm H locs hP hD hS ls hl
    unfold f_Mo_decode_169 at hm
    refine lv_aload_n hx hb d_Mo_decode_169 rfl (lv_at hl 0 rfl) ?_
    refine lv_aload_n hx hb d_Mo_decode_170 rfl (lv_at hl 0 rfl) ?_
    refine va_get (D := D) (ci := 11) (v := .ref qM_least) (C := "DeepChannelModel") (T := fT_Mo) (N := 40) hx hb hts u_Mo hown hK hP 0 rfl rfl 23 (by decide) (hts _ k_909) (fun _ h9 => h9) rfl d_Mo_decode_171 ?_
    refine lv_iconst (v := (0 : Int32)) hx hb d_Mo_decode_174 (by decide) ?_
    refine z_iald hm hx hb hK hP 4 rfl d_Mo_decode_175 (fun v8 hm => ?_)
    refine va_put (D := D) (ci := 11) (v := .int v8) (ty := .int) (C := "DeepChannelModel") (T := fT_Mo) (N := 40) hx hb hts u_Mo fY_Mo fK_Mo fN_Mo hown hK hP hD hS 0 rfl rfl 26 (by decide) (hts _ k_912) (fun _ h9 => h9) rfl (by decide +kernel) rfl rfl (Nat.le_of_ble_eq_true rfl) d_Mo_decode_176 (fun H locs hP hD hS => ?_)
    have hP : va_P D classes (w_Mo_decode cI cJ qM qM_begins qM_firsts qM_seconds qM_least qM_places qM_line qM_row M_thrown M_depth M_fill M_half M_craft M_powers M_logarithms M_forms M_elements M_mixer M_data M_waiting M_master M_counts M_sent M_state M_blocks M_marks M_wrongs M_bytes M_rights M_tells M_lastMaster M_lastCounts M_word M_values M_system M_solved M_wrong M_pattern M_length M_rowSize v8 M_begins M_firsts M_seconds M_least M_places M_line M_row) H := hP
    have hD : va_D A (w_Mo_decode cI cJ qM qM_begins qM_firsts qM_seconds qM_least qM_places qM_line qM_row M_thrown M_depth M_fill M_half M_craft M_powers M_logarithms M_forms M_elements M_mixer M_data M_waiting M_master M_counts M_sent M_state M_blocks M_marks M_wrongs M_bytes M_rights M_tells M_lastMaster M_lastCounts M_word M_values M_system M_solved M_wrong M_pattern M_length M_rowSize v8 M_begins M_firsts M_seconds M_least M_places M_line M_row) := hD
    refine lv_iconst (v := (0 : Int32)) hx hb d_Mo_decode_179 (by decide) ?_
    refine lv_istore_n (lv' := [(3, .int (0 : Int32)), (0, .ref qM)]) hx hb d_Mo_decode_180 rfl hl (by decide) rfl (fun ls hl => ?_)
    refine lv_iconst (v := (0 : Int32)) hx hb d_Mo_decode_181 (by decide) ?_
    refine lv_istore (lv' := [(4, .int (0 : Int32)), (3, .int (0 : Int32)), (0, .ref qM)]) hx hb d_Mo_decode_182 hl (by decide) rfl (fun ls hl => ?_)
    exact T184 10000 (0 : Int32) (0 : Int32) M_rowSize v8 M_least M_places M_row hm _ _ hP hD hS _ (lv_sub hl [2, 1, 0] rfl)
  have T97 : ∀ (n97 : Nat) (x3 : Int32) (M_rowSize : Int32) (M_differ : Int32) (M_least : Nat → Int32) (M_places : Nat → Int32) (M_row : Nat → Int32), f_Mo_decode_97 M_pattern M_begins M_firsts M_seconds M_line n97 x3 M_rowSize M_differ M_least M_places M_row = some (M_rowSize', M_differ', M_least', M_places', M_row') → ∀ (H : Heap) (locs : List Loc), va_P D classes (w_Mo_decode cI cJ qM qM_begins qM_firsts qM_seconds qM_least qM_places qM_line qM_row M_thrown M_depth M_fill M_half M_craft M_powers M_logarithms M_forms M_elements M_mixer M_data M_waiting M_master M_counts M_sent M_state M_blocks M_marks M_wrongs M_bytes M_rights M_tells M_lastMaster M_lastCounts M_word M_values M_system M_solved M_wrong M_pattern M_length M_rowSize M_differ M_begins M_firsts M_seconds M_least M_places M_line M_row) H → va_D A (w_Mo_decode cI cJ qM qM_begins qM_firsts qM_seconds qM_least qM_places qM_line qM_row M_thrown M_depth M_fill M_half M_craft M_powers M_logarithms M_forms M_elements M_mixer M_data M_waiting M_master M_counts M_sent M_state M_blocks M_marks M_wrongs M_bytes M_rights M_tells M_lastMaster M_lastCounts M_word M_values M_system M_solved M_wrong M_pattern M_length M_rowSize M_differ M_begins M_firsts M_seconds M_least M_places M_line M_row) → va_S A s.heap H locs → ∀ (ls : Array Slot), lv_has ls 7 [(0, .ref qM), (3, .int x3)] → W p l e (RM 3 71) s m args below meth c H locs 0 0 Q0 (F0 m 97 ls []) := by
    intro n97
    induction n97 with
    | zero => intro x3 M_rowSize M_differ M_least M_places M_row hm; cases hm
    | succ n97 ih97 =>
      have T163 : ∀ (x3 : Int32) (M_rowSize : Int32) (M_differ : Int32) (M_least : Nat → Int32) (M_places : Nat → Int32) (M_row : Nat → Int32), f_Mo_decode_163 (f_Mo_decode_97 M_pattern M_begins M_firsts M_seconds M_line n97) x3 M_rowSize M_differ M_least M_places M_row = some (M_rowSize', M_differ', M_least', M_places', M_row') → ∀ (H : Heap) (locs : List Loc), va_P D classes (w_Mo_decode cI cJ qM qM_begins qM_firsts qM_seconds qM_least qM_places qM_line qM_row M_thrown M_depth M_fill M_half M_craft M_powers M_logarithms M_forms M_elements M_mixer M_data M_waiting M_master M_counts M_sent M_state M_blocks M_marks M_wrongs M_bytes M_rights M_tells M_lastMaster M_lastCounts M_word M_values M_system M_solved M_wrong M_pattern M_length M_rowSize M_differ M_begins M_firsts M_seconds M_least M_places M_line M_row) H → va_D A (w_Mo_decode cI cJ qM qM_begins qM_firsts qM_seconds qM_least qM_places qM_line qM_row M_thrown M_depth M_fill M_half M_craft M_powers M_logarithms M_forms M_elements M_mixer M_data M_waiting M_master M_counts M_sent M_state M_blocks M_marks M_wrongs M_bytes M_rights M_tells M_lastMaster M_lastCounts M_word M_values M_system M_solved M_wrong M_pattern M_length M_rowSize M_differ M_begins M_firsts M_seconds M_least M_places M_line M_row) → va_S A s.heap H locs → ∀ (ls : Array Slot), lv_has ls 7 [(0, .ref qM), (3, .int x3)] → W p l e (RM 3 71) s m args below meth c H locs 0 0 Q0 (F0 m 163 ls []) := by
        intro x3 M_rowSize M_differ M_least M_places M_row hm H locs hP hD hS ls hl
        unfold f_Mo_decode_163 at hm
        obtain ⟨v9, ev, hm⟩ := nm_el hm
        refine lv_iinc (v := v9) (lv' := [(3, .int v9), (0, .ref qM)]) hx hb d_Mo_decode_163 hl (k := 1) rfl (by rw [ev]; rfl) (by decide) rfl (fun ls hl => ?_)
        refine lv_goto (tgt := 97) hx hb d_Mo_decode_166 (by decide) ?_
        exact ih97 v9 M_rowSize M_differ M_least M_places M_row hm _ _ hP hD hS _ (lv_sub hl [1, 0] rfl)
      have T104 : ∀ (n104 : Nat) (x3 : Int32) (x4 : Int32) (M_rowSize : Int32) (M_differ : Int32) (M_least : Nat → Int32) (M_places : Nat → Int32) (M_row : Nat → Int32), f_Mo_decode_104 M_pattern M_begins M_firsts M_seconds M_line (f_Mo_decode_97 M_pattern M_begins M_firsts M_seconds M_line n97) n104 x3 x4 M_rowSize M_differ M_least M_places M_row = some (M_rowSize', M_differ', M_least', M_places', M_row') → ∀ (H : Heap) (locs : List Loc), va_P D classes (w_Mo_decode cI cJ qM qM_begins qM_firsts qM_seconds qM_least qM_places qM_line qM_row M_thrown M_depth M_fill M_half M_craft M_powers M_logarithms M_forms M_elements M_mixer M_data M_waiting M_master M_counts M_sent M_state M_blocks M_marks M_wrongs M_bytes M_rights M_tells M_lastMaster M_lastCounts M_word M_values M_system M_solved M_wrong M_pattern M_length M_rowSize M_differ M_begins M_firsts M_seconds M_least M_places M_line M_row) H → va_D A (w_Mo_decode cI cJ qM qM_begins qM_firsts qM_seconds qM_least qM_places qM_line qM_row M_thrown M_depth M_fill M_half M_craft M_powers M_logarithms M_forms M_elements M_mixer M_data M_waiting M_master M_counts M_sent M_state M_blocks M_marks M_wrongs M_bytes M_rights M_tells M_lastMaster M_lastCounts M_word M_values M_system M_solved M_wrong M_pattern M_length M_rowSize M_differ M_begins M_firsts M_seconds M_least M_places M_line M_row) → va_S A s.heap H locs → ∀ (ls : Array Slot), lv_has ls 7 [(0, .ref qM), (3, .int x3), (4, .int x4)] → W p l e (RM 3 71) s m args below meth c H locs 0 0 Q0 (F0 m 104 ls []) := by
        intro n104
        induction n104 with
        | zero => intro x3 x4 M_rowSize M_differ M_least M_places M_row hm; cases hm
        | succ n104 ih104 =>
          have T156 : ∀ (x3 : Int32) (x4 : Int32) (t1 : Int32) (t2 : Int32) (M_rowSize : Int32) (M_differ : Int32) (M_least : Nat → Int32) (M_places : Nat → Int32) (M_row : Nat → Int32), f_Mo_decode_156 (f_Mo_decode_104 M_pattern M_begins M_firsts M_seconds M_line (f_Mo_decode_97 M_pattern M_begins M_firsts M_seconds M_line n97) n104) x3 x4 t1 t2 M_rowSize M_differ M_least M_places M_row = some (M_rowSize', M_differ', M_least', M_places', M_row') → ∀ (H : Heap) (locs : List Loc), va_P D classes (w_Mo_decode cI cJ qM qM_begins qM_firsts qM_seconds qM_least qM_places qM_line qM_row M_thrown M_depth M_fill M_half M_craft M_powers M_logarithms M_forms M_elements M_mixer M_data M_waiting M_master M_counts M_sent M_state M_blocks M_marks M_wrongs M_bytes M_rights M_tells M_lastMaster M_lastCounts M_word M_values M_system M_solved M_wrong M_pattern M_length M_rowSize M_differ M_begins M_firsts M_seconds M_least M_places M_line M_row) H → va_D A (w_Mo_decode cI cJ qM qM_begins qM_firsts qM_seconds qM_least qM_places qM_line qM_row M_thrown M_depth M_fill M_half M_craft M_powers M_logarithms M_forms M_elements M_mixer M_data M_waiting M_master M_counts M_sent M_state M_blocks M_marks M_wrongs M_bytes M_rights M_tells M_lastMaster M_lastCounts M_word M_values M_system M_solved M_wrong M_pattern M_length M_rowSize M_differ M_begins M_firsts M_seconds M_least M_places M_line M_row) → va_S A s.heap H locs → ∀ (ls : Array Slot), lv_has ls 7 [(0, .ref qM), (3, .int x3), (4, .int x4)] → W p l e (RM 3 71) s m args below meth c H locs 0 0 Q0 (F0 m 156 ls [.int t2, .int t1, .ref qM_least]) := by
            intro x3 x4 t1 t2 M_rowSize M_differ M_least M_places M_row hm H locs hP hD hS ls hl
            unfold f_Mo_decode_156 at hm
            refine z_iast hm hx hb hK hP hD hS 4 rfl d_Mo_decode_156 (fun g10 hm H locs hP hD hS => ?_)
            have hP : va_P D classes (w_Mo_decode cI cJ qM qM_begins qM_firsts qM_seconds qM_least qM_places qM_line qM_row M_thrown M_depth M_fill M_half M_craft M_powers M_logarithms M_forms M_elements M_mixer M_data M_waiting M_master M_counts M_sent M_state M_blocks M_marks M_wrongs M_bytes M_rights M_tells M_lastMaster M_lastCounts M_word M_values M_system M_solved M_wrong M_pattern M_length M_rowSize M_differ M_begins M_firsts M_seconds g10 M_places M_line M_row) H := hP
            have hD : va_D A (w_Mo_decode cI cJ qM qM_begins qM_firsts qM_seconds qM_least qM_places qM_line qM_row M_thrown M_depth M_fill M_half M_craft M_powers M_logarithms M_forms M_elements M_mixer M_data M_waiting M_master M_counts M_sent M_state M_blocks M_marks M_wrongs M_bytes M_rights M_tells M_lastMaster M_lastCounts M_word M_values M_system M_solved M_wrong M_pattern M_length M_rowSize M_differ M_begins M_firsts M_seconds g10 M_places M_line M_row) := hD
            obtain ⟨v11, ev, hm⟩ := nm_el hm
            refine lv_iinc (v := v11) (lv' := [(4, .int v11), (0, .ref qM), (3, .int x3)]) hx hb d_Mo_decode_157 hl (k := 2) rfl (by rw [ev]; rfl) (by decide) rfl (fun ls hl => ?_)
            refine lv_goto (tgt := 104) hx hb d_Mo_decode_160 (by decide) ?_
            exact ih104 x3 v11 M_rowSize M_differ g10 M_places M_row hm _ _ hP hD hS _ (lv_sub hl [1, 2, 0] rfl)
          intro x3 x4 M_rowSize M_differ M_least M_places M_row hm H locs hP hD hS ls hl
          replace hm : f_Mo_decode_104_b M_pattern M_begins M_firsts M_seconds M_line (f_Mo_decode_97 M_pattern M_begins M_firsts M_seconds M_line n97) (f_Mo_decode_104 M_pattern M_begins M_firsts M_seconds M_line (f_Mo_decode_97 M_pattern M_begins M_firsts M_seconds M_line n97) n104) x3 x4 M_rowSize M_differ M_least M_places M_row = some (M_rowSize', M_differ', M_least', M_places', M_row') := hm
          unfold f_Mo_decode_104_b at hm
          refine lv_iload hx hb d_Mo_decode_104 (lv_at hl 2 rfl) ?_
          refine lv_bipush (v := (64 : Int32)) hx hb d_Mo_decode_106 (by decide) ?_
          refine z_if hm (lv_icmp_ge (tgt := 163) hx hb d_Mo_decode_108 (by decide)) (fun hm => ?_) (fun hm => ?_)
          · exact T163 x3 M_rowSize M_differ M_least M_places M_row hm _ _ hP hD hS _ (lv_sub hl [0, 1] rfl)
          · refine lv_aload_n hx hb d_Mo_decode_111 rfl (lv_at hl 0 rfl) ?_
            refine lv_iload_n hx hb d_Mo_decode_112 rfl (lv_at hl 1 rfl) ?_
            refine lv_iload hx hb d_Mo_decode_113 (lv_at hl 2 rfl) ?_
            refine lv_iconst (v := (0 : Int32)) hx hb d_Mo_decode_115 (by decide) ?_
            obtain ⟨r12, hu, hm⟩ := bd_el hm
            replace hm := nm_1 hm
            refine z_cVi (wc := w_Mo_with cI cJ qM qM_places qM_begins qM_firsts qM_seconds qM_line qM_least M_thrown M_depth M_fill M_half M_craft M_powers M_logarithms M_forms M_elements M_mixer M_data M_waiting M_master M_counts (.int M_length) M_sent M_state (.ref qM_row) (.int M_rowSize) (.int M_differ) M_blocks M_marks M_wrongs M_bytes M_rights M_tells M_lastMaster M_lastCounts M_word M_values M_system M_solved M_wrong M_pattern M_places M_begins M_firsts M_seconds M_line M_least) (wc' := w_Mo_with cI cJ qM qM_places qM_begins qM_firsts qM_seconds qM_line qM_least M_thrown M_depth M_fill M_half M_craft M_powers M_logarithms M_forms M_elements M_mixer M_data M_waiting M_master M_counts (.int M_length) M_sent M_state (.ref qM_row) (.int M_rowSize) (.int M_differ) M_blocks M_marks M_wrongs M_bytes M_rights M_tells M_lastMaster M_lastCounts M_word M_values M_system M_solved M_wrong M_pattern M_places M_begins M_firsts M_seconds M_line M_least) (wr := [(qM_row, .inl (cI, 3600, .inl M_row))]) (As := [.int x3, .int x4, .int (0 : Int32)]) (rest := []) (c_Mo_with l D cI cJ tt qM qM_places qM_begins qM_firsts qM_seconds qM_line qM_least M_thrown M_depth M_fill M_half M_craft M_powers M_logarithms M_forms M_elements M_mixer M_data M_waiting M_master M_counts (.int M_length) M_sent M_state (.ref qM_row) (.int M_rowSize) (.int M_differ) M_blocks M_marks M_wrongs M_bytes M_rights M_tells M_lastMaster M_lastCounts M_word M_values M_system M_solved M_wrong _ M_pattern M_places M_begins M_firsts M_seconds M_line M_least x3 x4 (0 : Int32) r12 hu) F ok_Mo_with rfl k_1135 hK hE hP hD hS hA [0, 5, 1, 2, 3, 6, 4] [7] rfl rfl (by decide) (by decide) (by decide) 0 rfl rfl rfl ⟨rfl, rfl, Nat.le_of_ble_eq_true rfl, Nat.le_of_ble_eq_true rfl⟩ ⟨Nat.zero_le _, Nat.zero_le _⟩ rfl hl.1 rfl (Nat.le_of_ble_eq_true rfl) d_Mo_decode_116 (fun H locs hP hD hS => ?_)
            have hP : va_P D classes (w_Mo_decode cI cJ qM qM_begins qM_firsts qM_seconds qM_least qM_places qM_line qM_row M_thrown M_depth M_fill M_half M_craft M_powers M_logarithms M_forms M_elements M_mixer M_data M_waiting M_master M_counts M_sent M_state M_blocks M_marks M_wrongs M_bytes M_rights M_tells M_lastMaster M_lastCounts M_word M_values M_system M_solved M_wrong M_pattern M_length M_rowSize M_differ M_begins M_firsts M_seconds M_least M_places M_line M_row) H := hP.sub [1, 3, 4, 5, 7, 2, 6, 0] rfl
            have hD : va_D A (w_Mo_decode cI cJ qM qM_begins qM_firsts qM_seconds qM_least qM_places qM_line qM_row M_thrown M_depth M_fill M_half M_craft M_powers M_logarithms M_forms M_elements M_mixer M_data M_waiting M_master M_counts M_sent M_state M_blocks M_marks M_wrongs M_bytes M_rights M_tells M_lastMaster M_lastCounts M_word M_values M_system M_solved M_wrong M_pattern M_length M_rowSize M_differ M_begins M_firsts M_seconds M_least M_places M_line M_row) := hD.sub [1, 3, 4, 5, 7, 2, 6, 0] (by decide) rfl
            refine lv_istore (lv' := [(5, .int r12), (0, .ref qM), (3, .int x3), (4, .int x4)]) hx hb d_Mo_decode_119 hl (by decide) rfl (fun ls hl => ?_)
            refine lv_aload_n hx hb d_Mo_decode_121 rfl (lv_at hl 1 rfl) ?_
            refine lv_iload_n hx hb d_Mo_decode_122 rfl (lv_at hl 2 rfl) ?_
            refine lv_iload hx hb d_Mo_decode_123 (lv_at hl 3 rfl) ?_
            refine lv_iconst (v := (1 : Int32)) hx hb d_Mo_decode_125 (by decide) ?_
            obtain ⟨r14, hu, hm⟩ := bd_el hm
            replace hm := nm_1 hm
            refine z_cVi (wc := w_Mo_with cI cJ qM qM_places qM_begins qM_firsts qM_seconds qM_line qM_least M_thrown M_depth M_fill M_half M_craft M_powers M_logarithms M_forms M_elements M_mixer M_data M_waiting M_master M_counts (.int M_length) M_sent M_state (.ref qM_row) (.int M_rowSize) (.int M_differ) M_blocks M_marks M_wrongs M_bytes M_rights M_tells M_lastMaster M_lastCounts M_word M_values M_system M_solved M_wrong M_pattern M_places M_begins M_firsts M_seconds M_line M_least) (wc' := w_Mo_with cI cJ qM qM_places qM_begins qM_firsts qM_seconds qM_line qM_least M_thrown M_depth M_fill M_half M_craft M_powers M_logarithms M_forms M_elements M_mixer M_data M_waiting M_master M_counts (.int M_length) M_sent M_state (.ref qM_row) (.int M_rowSize) (.int M_differ) M_blocks M_marks M_wrongs M_bytes M_rights M_tells M_lastMaster M_lastCounts M_word M_values M_system M_solved M_wrong M_pattern M_places M_begins M_firsts M_seconds M_line M_least) (wr := [(qM_row, .inl (cI, 3600, .inl M_row))]) (As := [.int x3, .int x4, .int (1 : Int32)]) (rest := []) (c_Mo_with l D cI cJ tt qM qM_places qM_begins qM_firsts qM_seconds qM_line qM_least M_thrown M_depth M_fill M_half M_craft M_powers M_logarithms M_forms M_elements M_mixer M_data M_waiting M_master M_counts (.int M_length) M_sent M_state (.ref qM_row) (.int M_rowSize) (.int M_differ) M_blocks M_marks M_wrongs M_bytes M_rights M_tells M_lastMaster M_lastCounts M_word M_values M_system M_solved M_wrong _ M_pattern M_places M_begins M_firsts M_seconds M_line M_least x3 x4 (1 : Int32) r14 hu) F ok_Mo_with rfl k_1135 hK hE hP hD hS hA [0, 5, 1, 2, 3, 6, 4] [7] rfl rfl (by decide) (by decide) (by decide) 0 rfl rfl rfl ⟨rfl, rfl, Nat.le_of_ble_eq_true rfl, Nat.le_of_ble_eq_true rfl⟩ ⟨Nat.zero_le _, Nat.zero_le _⟩ rfl hl.1 rfl (Nat.le_of_ble_eq_true rfl) d_Mo_decode_126 (fun H locs hP hD hS => ?_)
            have hP : va_P D classes (w_Mo_decode cI cJ qM qM_begins qM_firsts qM_seconds qM_least qM_places qM_line qM_row M_thrown M_depth M_fill M_half M_craft M_powers M_logarithms M_forms M_elements M_mixer M_data M_waiting M_master M_counts M_sent M_state M_blocks M_marks M_wrongs M_bytes M_rights M_tells M_lastMaster M_lastCounts M_word M_values M_system M_solved M_wrong M_pattern M_length M_rowSize M_differ M_begins M_firsts M_seconds M_least M_places M_line M_row) H := hP.sub [1, 3, 4, 5, 7, 2, 6, 0] rfl
            have hD : va_D A (w_Mo_decode cI cJ qM qM_begins qM_firsts qM_seconds qM_least qM_places qM_line qM_row M_thrown M_depth M_fill M_half M_craft M_powers M_logarithms M_forms M_elements M_mixer M_data M_waiting M_master M_counts M_sent M_state M_blocks M_marks M_wrongs M_bytes M_rights M_tells M_lastMaster M_lastCounts M_word M_values M_system M_solved M_wrong M_pattern M_length M_rowSize M_differ M_begins M_firsts M_seconds M_least M_places M_line M_row) := hD.sub [1, 3, 4, 5, 7, 2, 6, 0] (by decide) rfl
            refine lv_istore (lv' := [(6, .int r14), (5, .int r12), (0, .ref qM), (3, .int x3), (4, .int x4)]) hx hb d_Mo_decode_129 hl (by decide) rfl (fun ls hl => ?_)
            refine lv_aload_n hx hb d_Mo_decode_131 rfl (lv_at hl 2 rfl) ?_
            refine va_get (D := D) (ci := 11) (v := .ref qM_least) (C := "DeepChannelModel") (T := fT_Mo) (N := 40) hx hb hts u_Mo hown hK hP 0 rfl rfl 23 (by decide) (hts _ k_909) (fun _ h9 => h9) rfl d_Mo_decode_132 ?_
            refine lv_bipush (v := (64 : Int32)) hx hb d_Mo_decode_135 (by decide) ?_
            refine lv_iload_n hx hb d_Mo_decode_137 rfl (lv_at hl 3 rfl) ?_
            refine lv_imul hx hb d_Mo_decode_138 ?_
            refine lv_iload hx hb d_Mo_decode_139 (lv_at hl 4 rfl) ?_
            refine lv_iadd hx hb d_Mo_decode_141 ?_
            refine lv_iload hx hb d_Mo_decode_142 (lv_at hl 1 rfl) ?_
            refine lv_iload hx hb d_Mo_decode_144 (lv_at hl 0 rfl) ?_
            refine z_if hm (lv_icmp_ge (tgt := 154) hx hb d_Mo_decode_146 (by decide)) (fun hm => ?_) (fun hm => ?_)
            · refine lv_iload hx hb d_Mo_decode_154 (lv_at hl 0 rfl) ?_
              exact T156 x3 x4 (((64 : Int32) * x3) + x4) r14 M_rowSize M_differ M_least M_places M_row hm _ _ hP hD hS _ (lv_sub hl [2, 3, 4] rfl)
            · refine lv_iload hx hb d_Mo_decode_149 (lv_at hl 1 rfl) ?_
              refine lv_goto (tgt := 156) hx hb d_Mo_decode_151 (by decide) ?_
              exact T156 x3 x4 (((64 : Int32) * x3) + x4) r12 M_rowSize M_differ M_least M_places M_row hm _ _ hP hD hS _ (lv_sub hl [2, 3, 4] rfl)
      intro x3 M_rowSize M_differ M_least M_places M_row hm H locs hP hD hS ls hl
      replace hm : f_Mo_decode_97_b M_pattern M_begins M_firsts M_seconds M_line (f_Mo_decode_97 M_pattern M_begins M_firsts M_seconds M_line n97) x3 M_rowSize M_differ M_least M_places M_row = some (M_rowSize', M_differ', M_least', M_places', M_row') := hm
      unfold f_Mo_decode_97_b at hm
      refine lv_iload_n hx hb d_Mo_decode_97 rfl (lv_at hl 1 rfl) ?_
      refine z_if hm (lv_if_lt (tgt := 169) hx hb d_Mo_decode_98 (by decide)) (fun hm => ?_) (fun hm => ?_)
      · exact T169 M_rowSize M_differ M_least M_places M_row hm _ _ hP hD hS _ (lv_sub hl [0] rfl)
      · refine lv_iconst (v := (0 : Int32)) hx hb d_Mo_decode_101 (by decide) ?_
        refine lv_istore (lv' := [(4, .int (0 : Int32)), (0, .ref qM), (3, .int x3)]) hx hb d_Mo_decode_102 hl (by decide) rfl (fun ls hl => ?_)
        exact T104 10000 x3 (0 : Int32) M_rowSize M_differ M_least M_places M_row hm _ _ hP hD hS _ (lv_sub hl [1, 2, 0] rfl)
  have T90 : ∀ (M_rowSize : Int32) (M_differ : Int32) (M_least : Nat → Int32) (M_places : Nat → Int32) (M_row : Nat → Int32), f_Mo_decode_90 M_pattern M_begins M_firsts M_seconds M_line M_rowSize M_differ M_least M_places M_row = some (M_rowSize', M_differ', M_least', M_places', M_row') → ∀ (H : Heap) (locs : List Loc), va_P D classes (w_Mo_decode cI cJ qM qM_begins qM_firsts qM_seconds qM_least qM_places qM_line qM_row M_thrown M_depth M_fill M_half M_craft M_powers M_logarithms M_forms M_elements M_mixer M_data M_waiting M_master M_counts M_sent M_state M_blocks M_marks M_wrongs M_bytes M_rights M_tells M_lastMaster M_lastCounts M_word M_values M_system M_solved M_wrong M_pattern M_length M_rowSize M_differ M_begins M_firsts M_seconds M_least M_places M_line M_row) H → va_D A (w_Mo_decode cI cJ qM qM_begins qM_firsts qM_seconds qM_least qM_places qM_line qM_row M_thrown M_depth M_fill M_half M_craft M_powers M_logarithms M_forms M_elements M_mixer M_data M_waiting M_master M_counts M_sent M_state M_blocks M_marks M_wrongs M_bytes M_rights M_tells M_lastMaster M_lastCounts M_word M_values M_system M_solved M_wrong M_pattern M_length M_rowSize M_differ M_begins M_firsts M_seconds M_least M_places M_line M_row) → va_S A s.heap H locs → ∀ (ls : Array Slot), lv_has ls 7 [(0, .ref qM)] → W p l e (RM 3 71) s m args below meth c H locs 0 0 Q0 (F0 m 90 ls []) := by
    intro M_rowSize M_differ M_least M_places M_row hm H locs hP hD hS ls hl
    unfold f_Mo_decode_90 at hm
    refine lv_aload_n hx hb d_Mo_decode_90 rfl (lv_at hl 0 rfl) ?_
    refine va_get (D := D) (ci := 11) (v := .int M_rowSize) (C := "DeepChannelModel") (T := fT_Mo) (N := 40) hx hb hts u_Mo hown hK hP 0 rfl rfl 25 (by decide) (hts _ k_911) (fun _ h9 => h9) rfl d_Mo_decode_91 ?_
    refine lv_iconst (v := (1 : Int32)) hx hb d_Mo_decode_94 (by decide) ?_
    refine lv_isub hx hb d_Mo_decode_95 ?_
    refine z_nmi hm (fun v16 hm => ?_)
    refine lv_istore_n (lv' := [(3, .int v16), (0, .ref qM)]) hx hb d_Mo_decode_96 rfl hl (by decide) rfl (fun ls hl => ?_)
    exact T97 10000 v16 M_rowSize M_differ M_least M_places M_row hm _ _ hP hD hS _ (lv_sub hl [1, 0] rfl)
  have T63 : ∀ (n63 : Nat) (x3 : Int32) (M_rowSize : Int32) (M_differ : Int32) (M_least : Nat → Int32) (M_places : Nat → Int32) (M_row : Nat → Int32), f_Mo_decode_63 M_pattern M_begins M_firsts M_seconds M_line n63 x3 M_rowSize M_differ M_least M_places M_row = some (M_rowSize', M_differ', M_least', M_places', M_row') → ∀ (H : Heap) (locs : List Loc), va_P D classes (w_Mo_decode cI cJ qM qM_begins qM_firsts qM_seconds qM_least qM_places qM_line qM_row M_thrown M_depth M_fill M_half M_craft M_powers M_logarithms M_forms M_elements M_mixer M_data M_waiting M_master M_counts M_sent M_state M_blocks M_marks M_wrongs M_bytes M_rights M_tells M_lastMaster M_lastCounts M_word M_values M_system M_solved M_wrong M_pattern M_length M_rowSize M_differ M_begins M_firsts M_seconds M_least M_places M_line M_row) H → va_D A (w_Mo_decode cI cJ qM qM_begins qM_firsts qM_seconds qM_least qM_places qM_line qM_row M_thrown M_depth M_fill M_half M_craft M_powers M_logarithms M_forms M_elements M_mixer M_data M_waiting M_master M_counts M_sent M_state M_blocks M_marks M_wrongs M_bytes M_rights M_tells M_lastMaster M_lastCounts M_word M_values M_system M_solved M_wrong M_pattern M_length M_rowSize M_differ M_begins M_firsts M_seconds M_least M_places M_line M_row) → va_S A s.heap H locs → ∀ (ls : Array Slot), lv_has ls 7 [(0, .ref qM), (3, .int x3)] → W p l e (RM 3 71) s m args below meth c H locs 0 0 Q0 (F0 m 63 ls []) := by
    intro n63
    induction n63 with
    | zero => intro x3 M_rowSize M_differ M_least M_places M_row hm; cases hm
    | succ n63 ih63 =>
      intro x3 M_rowSize M_differ M_least M_places M_row hm H locs hP hD hS ls hl
      replace hm : f_Mo_decode_63_b M_pattern M_begins M_firsts M_seconds M_line (f_Mo_decode_63 M_pattern M_begins M_firsts M_seconds M_line n63) x3 M_rowSize M_differ M_least M_places M_row = some (M_rowSize', M_differ', M_least', M_places', M_row') := hm
      unfold f_Mo_decode_63_b at hm
      refine lv_iload_n hx hb d_Mo_decode_63 rfl (lv_at hl 1 rfl) ?_
      refine lv_bipush (v := (64 : Int32)) hx hb d_Mo_decode_64 (by decide) ?_
      refine z_if hm (lv_icmp_ge (tgt := 90) hx hb d_Mo_decode_66 (by decide)) (fun hm => ?_) (fun hm => ?_)
      · exact T90 M_rowSize M_differ M_least M_places M_row hm _ _ hP hD hS _ (lv_sub hl [0] rfl)
      · refine lv_aload_n hx hb d_Mo_decode_69 rfl (lv_at hl 0 rfl) ?_
        refine va_get (D := D) (ci := 11) (v := .ref qM_least) (C := "DeepChannelModel") (T := fT_Mo) (N := 40) hx hb hts u_Mo hown hK hP 0 rfl rfl 23 (by decide) (hts _ k_909) (fun _ h9 => h9) rfl d_Mo_decode_70 ?_
        refine lv_bipush (v := (64 : Int32)) hx hb d_Mo_decode_73 (by decide) ?_
        refine lv_aload_n hx hb d_Mo_decode_75 rfl (lv_at hl 0 rfl) ?_
        refine va_get (D := D) (ci := 11) (v := .int M_rowSize) (C := "DeepChannelModel") (T := fT_Mo) (N := 40) hx hb hts u_Mo hown hK hP 0 rfl rfl 25 (by decide) (hts _ k_911) (fun _ h9 => h9) rfl d_Mo_decode_76 ?_
        refine lv_imul hx hb d_Mo_decode_79 ?_
        refine lv_iload_n hx hb d_Mo_decode_80 rfl (lv_at hl 1 rfl) ?_
        refine lv_iadd hx hb d_Mo_decode_81 ?_
        refine lv_iconst (v := (0 : Int32)) hx hb d_Mo_decode_82 (by decide) ?_
        refine z_iast hm hx hb hK hP hD hS 4 rfl d_Mo_decode_83 (fun g17 hm H locs hP hD hS => ?_)
        have hP : va_P D classes (w_Mo_decode cI cJ qM qM_begins qM_firsts qM_seconds qM_least qM_places qM_line qM_row M_thrown M_depth M_fill M_half M_craft M_powers M_logarithms M_forms M_elements M_mixer M_data M_waiting M_master M_counts M_sent M_state M_blocks M_marks M_wrongs M_bytes M_rights M_tells M_lastMaster M_lastCounts M_word M_values M_system M_solved M_wrong M_pattern M_length M_rowSize M_differ M_begins M_firsts M_seconds g17 M_places M_line M_row) H := hP
        have hD : va_D A (w_Mo_decode cI cJ qM qM_begins qM_firsts qM_seconds qM_least qM_places qM_line qM_row M_thrown M_depth M_fill M_half M_craft M_powers M_logarithms M_forms M_elements M_mixer M_data M_waiting M_master M_counts M_sent M_state M_blocks M_marks M_wrongs M_bytes M_rights M_tells M_lastMaster M_lastCounts M_word M_values M_system M_solved M_wrong M_pattern M_length M_rowSize M_differ M_begins M_firsts M_seconds g17 M_places M_line M_row) := hD
        obtain ⟨v18, ev, hm⟩ := nm_el hm
        refine lv_iinc (v := v18) (lv' := [(3, .int v18), (0, .ref qM)]) hx hb d_Mo_decode_84 hl (k := 1) rfl (by rw [ev]; rfl) (by decide) rfl (fun ls hl => ?_)
        refine lv_goto (tgt := 63) hx hb d_Mo_decode_87 (by decide) ?_
        exact ih63 v18 M_rowSize M_differ g17 M_places M_row hm _ _ hP hD hS _ (lv_sub hl [1, 0] rfl)
  have T61 : ∀ (M_rowSize : Int32) (M_differ : Int32) (M_least : Nat → Int32) (M_places : Nat → Int32) (M_row : Nat → Int32), f_Mo_decode_61 M_pattern M_begins M_firsts M_seconds M_line M_rowSize M_differ M_least M_places M_row = some (M_rowSize', M_differ', M_least', M_places', M_row') → ∀ (H : Heap) (locs : List Loc), va_P D classes (w_Mo_decode cI cJ qM qM_begins qM_firsts qM_seconds qM_least qM_places qM_line qM_row M_thrown M_depth M_fill M_half M_craft M_powers M_logarithms M_forms M_elements M_mixer M_data M_waiting M_master M_counts M_sent M_state M_blocks M_marks M_wrongs M_bytes M_rights M_tells M_lastMaster M_lastCounts M_word M_values M_system M_solved M_wrong M_pattern M_length M_rowSize M_differ M_begins M_firsts M_seconds M_least M_places M_line M_row) H → va_D A (w_Mo_decode cI cJ qM qM_begins qM_firsts qM_seconds qM_least qM_places qM_line qM_row M_thrown M_depth M_fill M_half M_craft M_powers M_logarithms M_forms M_elements M_mixer M_data M_waiting M_master M_counts M_sent M_state M_blocks M_marks M_wrongs M_bytes M_rights M_tells M_lastMaster M_lastCounts M_word M_values M_system M_solved M_wrong M_pattern M_length M_rowSize M_differ M_begins M_firsts M_seconds M_least M_places M_line M_row) → va_S A s.heap H locs → ∀ (ls : Array Slot), lv_has ls 7 [(0, .ref qM)] → W p l e (RM 3 71) s m args below meth c H locs 0 0 Q0 (F0 m 61 ls []) := by
    intro M_rowSize M_differ M_least M_places M_row hm H locs hP hD hS ls hl
    unfold f_Mo_decode_61 at hm
    refine lv_iconst (v := (0 : Int32)) hx hb d_Mo_decode_61 (by decide) ?_
    refine lv_istore_n (lv' := [(3, .int (0 : Int32)), (0, .ref qM)]) hx hb d_Mo_decode_62 rfl hl (by decide) rfl (fun ls hl => ?_)
    exact T63 10000 (0 : Int32) M_rowSize M_differ M_least M_places M_row hm _ _ hP hD hS _ (lv_sub hl [1, 0] rfl)
  have T14 : ∀ (n14 : Nat) (x1 : Int32) (x2 : Int32) (M_rowSize : Int32) (M_differ : Int32) (M_least : Nat → Int32) (M_places : Nat → Int32) (M_row : Nat → Int32), f_Mo_decode_14 M_pattern M_length M_begins M_firsts M_seconds M_line n14 x1 x2 M_rowSize M_differ M_least M_places M_row = some (M_rowSize', M_differ', M_least', M_places', M_row') → ∀ (H : Heap) (locs : List Loc), va_P D classes (w_Mo_decode cI cJ qM qM_begins qM_firsts qM_seconds qM_least qM_places qM_line qM_row M_thrown M_depth M_fill M_half M_craft M_powers M_logarithms M_forms M_elements M_mixer M_data M_waiting M_master M_counts M_sent M_state M_blocks M_marks M_wrongs M_bytes M_rights M_tells M_lastMaster M_lastCounts M_word M_values M_system M_solved M_wrong M_pattern M_length M_rowSize M_differ M_begins M_firsts M_seconds M_least M_places M_line M_row) H → va_D A (w_Mo_decode cI cJ qM qM_begins qM_firsts qM_seconds qM_least qM_places qM_line qM_row M_thrown M_depth M_fill M_half M_craft M_powers M_logarithms M_forms M_elements M_mixer M_data M_waiting M_master M_counts M_sent M_state M_blocks M_marks M_wrongs M_bytes M_rights M_tells M_lastMaster M_lastCounts M_word M_values M_system M_solved M_wrong M_pattern M_length M_rowSize M_differ M_begins M_firsts M_seconds M_least M_places M_line M_row) → va_S A s.heap H locs → ∀ (ls : Array Slot), lv_has ls 7 [(0, .ref qM), (1, .int x1), (2, .int x2)] → W p l e (RM 3 71) s m args below meth c H locs 0 0 Q0 (F0 m 14 ls []) := by
    intro n14
    induction n14 with
    | zero => intro x1 x2 M_rowSize M_differ M_least M_places M_row hm; cases hm
    | succ n14 ih14 =>
      intro x1 x2 M_rowSize M_differ M_least M_places M_row hm H locs hP hD hS ls hl
      replace hm : f_Mo_decode_14_b M_pattern M_length M_begins M_firsts M_seconds M_line (f_Mo_decode_14 M_pattern M_length M_begins M_firsts M_seconds M_line n14) x1 x2 M_rowSize M_differ M_least M_places M_row = some (M_rowSize', M_differ', M_least', M_places', M_row') := hm
      unfold f_Mo_decode_14_b at hm
      refine lv_iload_n hx hb d_Mo_decode_14 rfl (lv_at hl 1 rfl) ?_
      refine lv_iload_n hx hb d_Mo_decode_15 rfl (lv_at hl 2 rfl) ?_
      refine lv_iadd hx hb d_Mo_decode_16 ?_
      refine lv_aload_n hx hb d_Mo_decode_17 rfl (lv_at hl 0 rfl) ?_
      refine va_get (D := D) (ci := 11) (v := .int M_length) (C := "DeepChannelModel") (T := fT_Mo) (N := 40) hx hb hts u_Mo hown hK hP 0 rfl rfl 19 (by decide) (hts _ k_905) (fun _ h9 => h9) rfl d_Mo_decode_18 ?_
      refine z_if hm (lv_icmp_gt (tgt := 61) hx hb d_Mo_decode_21 (by decide)) (fun hm => ?_) (fun hm => ?_)
      · exact T61 M_rowSize M_differ M_least M_places M_row hm _ _ hP hD hS _ (lv_sub hl [0] rfl)
      · refine lv_aload_n hx hb d_Mo_decode_24 rfl (lv_at hl 0 rfl) ?_
        refine va_get (D := D) (ci := 11) (v := .ref qM_places) (C := "DeepChannelModel") (T := fT_Mo) (N := 40) hx hb hts u_Mo hown hK hP 0 rfl rfl 22 (by decide) (hts _ k_908) (fun _ h9 => h9) rfl d_Mo_decode_25 ?_
        refine lv_aload_n hx hb d_Mo_decode_28 rfl (lv_at hl 0 rfl) ?_
        refine va_get (D := D) (ci := 11) (v := .int M_rowSize) (C := "DeepChannelModel") (T := fT_Mo) (N := 40) hx hb hts u_Mo hown hK hP 0 rfl rfl 25 (by decide) (hts _ k_911) (fun _ h9 => h9) rfl d_Mo_decode_29 ?_
        refine lv_iload_n hx hb d_Mo_decode_32 rfl (lv_at hl 1 rfl) ?_
        refine z_iast hm hx hb hK hP hD hS 5 rfl d_Mo_decode_33 (fun g19 hm H locs hP hD hS => ?_)
        have hP : va_P D classes (w_Mo_decode cI cJ qM qM_begins qM_firsts qM_seconds qM_least qM_places qM_line qM_row M_thrown M_depth M_fill M_half M_craft M_powers M_logarithms M_forms M_elements M_mixer M_data M_waiting M_master M_counts M_sent M_state M_blocks M_marks M_wrongs M_bytes M_rights M_tells M_lastMaster M_lastCounts M_word M_values M_system M_solved M_wrong M_pattern M_length M_rowSize M_differ M_begins M_firsts M_seconds M_least g19 M_line M_row) H := hP
        have hD : va_D A (w_Mo_decode cI cJ qM qM_begins qM_firsts qM_seconds qM_least qM_places qM_line qM_row M_thrown M_depth M_fill M_half M_craft M_powers M_logarithms M_forms M_elements M_mixer M_data M_waiting M_master M_counts M_sent M_state M_blocks M_marks M_wrongs M_bytes M_rights M_tells M_lastMaster M_lastCounts M_word M_values M_system M_solved M_wrong M_pattern M_length M_rowSize M_differ M_begins M_firsts M_seconds M_least g19 M_line M_row) := hD
        refine lv_iload_n hx hb d_Mo_decode_34 rfl (lv_at hl 1 rfl) ?_
        refine lv_iload_n hx hb d_Mo_decode_35 rfl (lv_at hl 2 rfl) ?_
        refine lv_iadd hx hb d_Mo_decode_36 ?_
        refine z_nmi hm (fun v20 hm => ?_)
        refine lv_istore_n (lv' := [(1, .int v20), (0, .ref qM), (2, .int x2)]) hx hb d_Mo_decode_37 rfl hl (by decide) rfl (fun ls hl => ?_)
        refine lv_aload_n hx hb d_Mo_decode_38 rfl (lv_at hl 1 rfl) ?_
        refine lv_dup hx hb d_Mo_decode_39 rfl ?_
        refine va_get (D := D) (ci := 11) (v := .int M_rowSize) (C := "DeepChannelModel") (T := fT_Mo) (N := 40) hx hb hts u_Mo hown hK hP 0 rfl rfl 25 (by decide) (hts _ k_911) (fun _ h9 => h9) rfl d_Mo_decode_40 ?_
        refine lv_iconst (v := (1 : Int32)) hx hb d_Mo_decode_43 (by decide) ?_
        refine lv_iadd hx hb d_Mo_decode_44 ?_
        refine z_nmi hm (fun v21 hm => ?_)
        refine va_put (D := D) (ci := 11) (v := .int v21) (ty := .int) (C := "DeepChannelModel") (T := fT_Mo) (N := 40) hx hb hts u_Mo fY_Mo fK_Mo fN_Mo hown hK hP hD hS 0 rfl rfl 25 (by decide) (hts _ k_911) (fun _ h9 => h9) rfl (by decide +kernel) rfl rfl (Nat.le_of_ble_eq_true rfl) d_Mo_decode_45 (fun H locs hP hD hS => ?_)
        have hP : va_P D classes (w_Mo_decode cI cJ qM qM_begins qM_firsts qM_seconds qM_least qM_places qM_line qM_row M_thrown M_depth M_fill M_half M_craft M_powers M_logarithms M_forms M_elements M_mixer M_data M_waiting M_master M_counts M_sent M_state M_blocks M_marks M_wrongs M_bytes M_rights M_tells M_lastMaster M_lastCounts M_word M_values M_system M_solved M_wrong M_pattern M_length v21 M_differ M_begins M_firsts M_seconds M_least g19 M_line M_row) H := hP
        have hD : va_D A (w_Mo_decode cI cJ qM qM_begins qM_firsts qM_seconds qM_least qM_places qM_line qM_row M_thrown M_depth M_fill M_half M_craft M_powers M_logarithms M_forms M_elements M_mixer M_data M_waiting M_master M_counts M_sent M_state M_blocks M_marks M_wrongs M_bytes M_rights M_tells M_lastMaster M_lastCounts M_word M_values M_system M_solved M_wrong M_pattern M_length v21 M_differ M_begins M_firsts M_seconds M_least g19 M_line M_row) := hD
        refine lv_aload_n hx hb d_Mo_decode_48 rfl (lv_at hl 1 rfl) ?_
        refine lv_aload_n hx hb d_Mo_decode_49 rfl (lv_at hl 1 rfl) ?_
        refine va_get (D := D) (ci := 11) (v := .int v21) (C := "DeepChannelModel") (T := fT_Mo) (N := 40) hx hb hts u_Mo hown hK hP 0 rfl rfl 25 (by decide) (hts _ k_911) (fun _ h9 => h9) rfl d_Mo_decode_50 ?_
        refine lv_iconst (v := (1 : Int32)) hx hb d_Mo_decode_53 (by decide) ?_
        obtain ⟨r22, hu, hm⟩ := bd_el hm
        replace hm := nm_1 hm
        refine z_cVi (wc := w_Mo_linesOf cI cJ qM qM_begins qM_firsts qM_seconds M_thrown M_depth M_fill M_half M_craft M_powers M_logarithms M_forms M_elements M_mixer M_data M_waiting M_master M_counts (.ref qM_line) (.int M_length) M_sent M_state (.ref qM_places) (.ref qM_least) (.ref qM_row) (.int v21) (.int M_differ) M_blocks M_marks M_wrongs M_bytes M_rights M_tells M_lastMaster M_lastCounts M_word M_values M_system M_solved M_wrong M_pattern M_begins M_firsts M_seconds) (wc' := w_Mo_linesOf cI cJ qM qM_begins qM_firsts qM_seconds M_thrown M_depth M_fill M_half M_craft M_powers M_logarithms M_forms M_elements M_mixer M_data M_waiting M_master M_counts (.ref qM_line) (.int M_length) M_sent M_state (.ref qM_places) (.ref qM_least) (.ref qM_row) (.int v21) (.int M_differ) M_blocks M_marks M_wrongs M_bytes M_rights M_tells M_lastMaster M_lastCounts M_word M_values M_system M_solved M_wrong M_pattern M_begins M_firsts M_seconds) (wr := [(qM_least, .inl (cI, 230464, .inl M_least)), (qM_places, .inl (cI, 3600, .inl g19)), (qM_line, .inl (cI, 4096, .inl M_line)), (qM_row, .inl (cI, 3600, .inl M_row))]) (As := [.int v21, .int (1 : Int32)]) (rest := []) (c_Mo_linesOf l D cI cJ tt qM qM_begins qM_firsts qM_seconds M_thrown M_depth M_fill M_half M_craft M_powers M_logarithms M_forms M_elements M_mixer M_data M_waiting M_master M_counts (.ref qM_line) (.int M_length) M_sent M_state (.ref qM_places) (.ref qM_least) (.ref qM_row) (.int v21) (.int M_differ) M_blocks M_marks M_wrongs M_bytes M_rights M_tells M_lastMaster M_lastCounts M_word M_values M_system M_solved M_wrong _ M_pattern M_begins M_firsts M_seconds v21 (1 : Int32) r22 hu) F ok_Mo_linesOf rfl k_1047 hK hE hP hD hS hA [0, 1, 2, 3] [4, 5, 6, 7] rfl rfl (by decide) (by decide) (by decide) 0 rfl rfl rfl ⟨rfl, rfl, Nat.le_of_ble_eq_true rfl, Nat.le_of_ble_eq_true rfl⟩ ⟨Nat.zero_le _, Nat.zero_le _⟩ rfl hl.1 rfl (Nat.le_of_ble_eq_true rfl) d_Mo_decode_54 (fun H locs hP hD hS => ?_)
        have hP : va_P D classes (w_Mo_decode cI cJ qM qM_begins qM_firsts qM_seconds qM_least qM_places qM_line qM_row M_thrown M_depth M_fill M_half M_craft M_powers M_logarithms M_forms M_elements M_mixer M_data M_waiting M_master M_counts M_sent M_state M_blocks M_marks M_wrongs M_bytes M_rights M_tells M_lastMaster M_lastCounts M_word M_values M_system M_solved M_wrong M_pattern M_length v21 M_differ M_begins M_firsts M_seconds M_least g19 M_line M_row) H := hP.sub [4, 5, 6, 7, 0, 1, 2, 3] rfl
        have hD : va_D A (w_Mo_decode cI cJ qM qM_begins qM_firsts qM_seconds qM_least qM_places qM_line qM_row M_thrown M_depth M_fill M_half M_craft M_powers M_logarithms M_forms M_elements M_mixer M_data M_waiting M_master M_counts M_sent M_state M_blocks M_marks M_wrongs M_bytes M_rights M_tells M_lastMaster M_lastCounts M_word M_values M_system M_solved M_wrong M_pattern M_length v21 M_differ M_begins M_firsts M_seconds M_least g19 M_line M_row) := hD.sub [4, 5, 6, 7, 0, 1, 2, 3] (by decide) rfl
        refine lv_istore_n (lv' := [(2, .int r22), (1, .int v20), (0, .ref qM)]) hx hb d_Mo_decode_57 rfl hl (by decide) rfl (fun ls hl => ?_)
        refine lv_goto (tgt := 14) hx hb d_Mo_decode_58 (by decide) ?_
        exact ih14 v20 r22 v21 M_differ M_least g19 M_row hm _ _ hP hD hS _ (lv_sub hl [2, 1, 0] rfl)
  unfold f_Mo_decode at hm
  refine lv_aload_n hx hb d_Mo_decode_0 rfl (lv_at hl 0 rfl) ?_
  refine lv_iconst (v := (0 : Int32)) hx hb d_Mo_decode_1 (by decide) ?_
  refine va_put (D := D) (ci := 11) (v := .int (0 : Int32)) (ty := .int) (C := "DeepChannelModel") (T := fT_Mo) (N := 40) hx hb hts u_Mo fY_Mo fK_Mo fN_Mo hown hK hP hD hS 0 rfl rfl 25 (by decide) (hts _ k_911) (fun _ h9 => h9) rfl (by decide +kernel) rfl rfl (Nat.le_of_ble_eq_true rfl) d_Mo_decode_2 (fun H locs hP hD hS => ?_)
  have hP : va_P D classes (w_Mo_decode cI cJ qM qM_begins qM_firsts qM_seconds qM_least qM_places qM_line qM_row M_thrown M_depth M_fill M_half M_craft M_powers M_logarithms M_forms M_elements M_mixer M_data M_waiting M_master M_counts M_sent M_state M_blocks M_marks M_wrongs M_bytes M_rights M_tells M_lastMaster M_lastCounts M_word M_values M_system M_solved M_wrong M_pattern M_length (0 : Int32) M_differ M_begins M_firsts M_seconds M_least M_places M_line M_row) H := hP
  have hD : va_D A (w_Mo_decode cI cJ qM qM_begins qM_firsts qM_seconds qM_least qM_places qM_line qM_row M_thrown M_depth M_fill M_half M_craft M_powers M_logarithms M_forms M_elements M_mixer M_data M_waiting M_master M_counts M_sent M_state M_blocks M_marks M_wrongs M_bytes M_rights M_tells M_lastMaster M_lastCounts M_word M_values M_system M_solved M_wrong M_pattern M_length (0 : Int32) M_differ M_begins M_firsts M_seconds M_least M_places M_line M_row) := hD
  refine lv_iconst (v := (0 : Int32)) hx hb d_Mo_decode_5 (by decide) ?_
  refine lv_istore_n (lv' := [(1, .int (0 : Int32)), (0, .ref qM)]) hx hb d_Mo_decode_6 rfl hl (by decide) rfl (fun ls hl => ?_)
  refine lv_aload_n hx hb d_Mo_decode_7 rfl (lv_at hl 1 rfl) ?_
  refine lv_iconst (v := (0 : Int32)) hx hb d_Mo_decode_8 (by decide) ?_
  refine lv_iconst (v := (1 : Int32)) hx hb d_Mo_decode_9 (by decide) ?_
  obtain ⟨r24, hu, hm⟩ := bd_el hm
  replace hm := nm_1 hm
  refine z_cVi (wc := w_Mo_linesOf cI cJ qM qM_begins qM_firsts qM_seconds M_thrown M_depth M_fill M_half M_craft M_powers M_logarithms M_forms M_elements M_mixer M_data M_waiting M_master M_counts (.ref qM_line) (.int M_length) M_sent M_state (.ref qM_places) (.ref qM_least) (.ref qM_row) (.int (0 : Int32)) (.int M_differ) M_blocks M_marks M_wrongs M_bytes M_rights M_tells M_lastMaster M_lastCounts M_word M_values M_system M_solved M_wrong M_pattern M_begins M_firsts M_seconds) (wc' := w_Mo_linesOf cI cJ qM qM_begins qM_firsts qM_seconds M_thrown M_depth M_fill M_half M_craft M_powers M_logarithms M_forms M_elements M_mixer M_data M_waiting M_master M_counts (.ref qM_line) (.int M_length) M_sent M_state (.ref qM_places) (.ref qM_least) (.ref qM_row) (.int (0 : Int32)) (.int M_differ) M_blocks M_marks M_wrongs M_bytes M_rights M_tells M_lastMaster M_lastCounts M_word M_values M_system M_solved M_wrong M_pattern M_begins M_firsts M_seconds) (wr := [(qM_least, .inl (cI, 230464, .inl M_least)), (qM_places, .inl (cI, 3600, .inl M_places)), (qM_line, .inl (cI, 4096, .inl M_line)), (qM_row, .inl (cI, 3600, .inl M_row))]) (As := [.int (0 : Int32), .int (1 : Int32)]) (rest := []) (c_Mo_linesOf l D cI cJ tt qM qM_begins qM_firsts qM_seconds M_thrown M_depth M_fill M_half M_craft M_powers M_logarithms M_forms M_elements M_mixer M_data M_waiting M_master M_counts (.ref qM_line) (.int M_length) M_sent M_state (.ref qM_places) (.ref qM_least) (.ref qM_row) (.int (0 : Int32)) (.int M_differ) M_blocks M_marks M_wrongs M_bytes M_rights M_tells M_lastMaster M_lastCounts M_word M_values M_system M_solved M_wrong _ M_pattern M_begins M_firsts M_seconds (0 : Int32) (1 : Int32) r24 hu) F ok_Mo_linesOf rfl k_1047 hK hE hP hD hS hA [0, 1, 2, 3] [4, 5, 6, 7] rfl rfl (by decide) (by decide) (by decide) 0 rfl rfl rfl ⟨rfl, rfl, Nat.le_of_ble_eq_true rfl, Nat.le_of_ble_eq_true rfl⟩ ⟨Nat.zero_le _, Nat.zero_le _⟩ rfl hl.1 rfl (Nat.le_of_ble_eq_true rfl) d_Mo_decode_10 (fun H locs hP hD hS => ?_)
  have hP : va_P D classes (w_Mo_decode cI cJ qM qM_begins qM_firsts qM_seconds qM_least qM_places qM_line qM_row M_thrown M_depth M_fill M_half M_craft M_powers M_logarithms M_forms M_elements M_mixer M_data M_waiting M_master M_counts M_sent M_state M_blocks M_marks M_wrongs M_bytes M_rights M_tells M_lastMaster M_lastCounts M_word M_values M_system M_solved M_wrong M_pattern M_length (0 : Int32) M_differ M_begins M_firsts M_seconds M_least M_places M_line M_row) H := hP.sub [4, 5, 6, 7, 0, 1, 2, 3] rfl
  have hD : va_D A (w_Mo_decode cI cJ qM qM_begins qM_firsts qM_seconds qM_least qM_places qM_line qM_row M_thrown M_depth M_fill M_half M_craft M_powers M_logarithms M_forms M_elements M_mixer M_data M_waiting M_master M_counts M_sent M_state M_blocks M_marks M_wrongs M_bytes M_rights M_tells M_lastMaster M_lastCounts M_word M_values M_system M_solved M_wrong M_pattern M_length (0 : Int32) M_differ M_begins M_firsts M_seconds M_least M_places M_line M_row) := hD.sub [4, 5, 6, 7, 0, 1, 2, 3] (by decide) rfl
  refine lv_istore_n (lv' := [(2, .int r24), (1, .int (0 : Int32)), (0, .ref qM)]) hx hb d_Mo_decode_13 rfl hl (by decide) rfl (fun ls hl => ?_)
  exact T14 10000 (0 : Int32) r24 (0 : Int32) M_differ M_least M_places M_row hm _ _ hP hD hS _ (lv_sub hl [2, 1, 0] rfl)
-- DeepChannelModel.markWrong(I)I
abbrev b_Mo_markWrong : ByteArray := prog_13_method_38_code
abbrev y_Mo_markWrong : MethodName := ⟨"DeepChannelModel", "markWrong", "(I)I"⟩
theorem d_Mo_markWrong_0 : decode b_Mo_markWrong 0 = .ok (.iconst 0, 1) := by decide +kernel
theorem d_Mo_markWrong_1 : decode b_Mo_markWrong 1 = .ok (.istore_n 2, 1) := by decide +kernel
theorem d_Mo_markWrong_2 : decode b_Mo_markWrong 2 = .ok (.iconst 0, 1) := by decide +kernel
theorem d_Mo_markWrong_3 : decode b_Mo_markWrong 3 = .ok (.istore_n 3, 1) := by decide +kernel
theorem d_Mo_markWrong_4 : decode b_Mo_markWrong 4 = .ok (.iload_n 3, 1) := by decide +kernel
theorem d_Mo_markWrong_5 : decode b_Mo_markWrong 5 = .ok (.bipush 32, 2) := by decide +kernel
theorem d_Mo_markWrong_7 : decode b_Mo_markWrong 7 = .ok (.if_icmp .ge 37, 3) := by decide +kernel
theorem d_Mo_markWrong_10 : decode b_Mo_markWrong 10 = .ok (.iload_n 2, 1) := by decide +kernel
theorem d_Mo_markWrong_11 : decode b_Mo_markWrong 11 = .ok (.aload_n 0, 1) := by decide +kernel
theorem d_Mo_markWrong_12 : decode b_Mo_markWrong 12 = .ok (.getfield 60, 3) := by decide +kernel
theorem d_Mo_markWrong_15 : decode b_Mo_markWrong 15 = .ok (.iload_n 1, 1) := by decide +kernel
theorem d_Mo_markWrong_16 : decode b_Mo_markWrong 16 = .ok (.iload_n 3, 1) := by decide +kernel
theorem d_Mo_markWrong_17 : decode b_Mo_markWrong 17 = .ok (.iadd, 1) := by decide +kernel
theorem d_Mo_markWrong_18 : decode b_Mo_markWrong 18 = .ok (.iaload, 1) := by decide +kernel
theorem d_Mo_markWrong_19 : decode b_Mo_markWrong 19 = .ok (.ldc 202, 2) := by decide +kernel
theorem d_Mo_markWrong_21 : decode b_Mo_markWrong 21 = .ok (.bipush 31, 2) := by decide +kernel
theorem d_Mo_markWrong_23 : decode b_Mo_markWrong 23 = .ok (.iload_n 3, 1) := by decide +kernel
theorem d_Mo_markWrong_24 : decode b_Mo_markWrong 24 = .ok (.isub, 1) := by decide +kernel
theorem d_Mo_markWrong_25 : decode b_Mo_markWrong 25 = .ok (.ishr, 1) := by decide +kernel
theorem d_Mo_markWrong_26 : decode b_Mo_markWrong 26 = .ok (.iconst 1, 1) := by decide +kernel
theorem d_Mo_markWrong_27 : decode b_Mo_markWrong 27 = .ok (.iand, 1) := by decide +kernel
theorem d_Mo_markWrong_28 : decode b_Mo_markWrong 28 = .ok (.if_icmp .eq 7, 3) := by decide +kernel
theorem d_Mo_markWrong_31 : decode b_Mo_markWrong 31 = .ok (.iconst 1, 1) := by decide +kernel
theorem d_Mo_markWrong_32 : decode b_Mo_markWrong 32 = .ok (.goto 4, 3) := by decide +kernel
theorem d_Mo_markWrong_35 : decode b_Mo_markWrong 35 = .ok (.iconst 0, 1) := by decide +kernel
theorem d_Mo_markWrong_36 : decode b_Mo_markWrong 36 = .ok (.iadd, 1) := by decide +kernel
theorem d_Mo_markWrong_37 : decode b_Mo_markWrong 37 = .ok (.istore_n 2, 1) := by decide +kernel
theorem d_Mo_markWrong_38 : decode b_Mo_markWrong 38 = .ok (.iinc 3 1, 3) := by decide +kernel
theorem d_Mo_markWrong_41 : decode b_Mo_markWrong 41 = .ok (.goto (-37), 3) := by decide +kernel
theorem d_Mo_markWrong_44 : decode b_Mo_markWrong 44 = .ok (.iload_n 2, 1) := by decide +kernel
theorem d_Mo_markWrong_45 : decode b_Mo_markWrong 45 = .ok (.ireturn, 1) := by decide +kernel
theorem ok_Mo_markWrong : OKv y_Mo_markWrong b_Mo_markWrong 4 (some .int) "DeepChannelModel" 1 := ⟨k_1146, k_1145, k_35, k_55, by decide +kernel, by decide +kernel, by decide +kernel⟩
abbrev w_Mo_markWrong (cI cJ : ClassId) (qM qM_row : Nat) (M_thrown M_depth M_fill M_half M_pattern M_craft M_begins M_firsts M_seconds M_powers M_logarithms M_forms M_elements M_mixer M_data M_waiting M_master M_counts M_line M_length M_sent M_state M_places M_least M_rowSize M_differ M_blocks M_marks M_wrongs M_bytes M_rights M_tells M_lastMaster M_lastCounts M_word M_values M_system M_solved M_wrong : Value) (M_row : Nat → Int32) : va_W := [(qM, .inr (11, [M_thrown, M_depth, M_fill, M_half, M_pattern, M_craft, M_begins, M_firsts, M_seconds, M_powers, M_logarithms, M_forms, M_elements, M_mixer, M_data, M_waiting, M_master, M_counts, M_line, M_length, M_sent, M_state, M_places, M_least, .ref qM_row, M_rowSize, M_differ, M_blocks, M_marks, M_wrongs, M_bytes, M_rights, M_tells, M_lastMaster, M_lastCounts, M_word, M_values, M_system, M_solved, M_wrong])), (qM_row, .inl (cI, 3600, .inl M_row))]
def f_Mo_markWrong_36 (kh4 : Int32 → Int32 → Int32 → Option (Int32)) (x1 : Int32) (x3 : Int32) (t0 : Int32) (t1 : Int32) : Option (Int32) :=
  nm (t0 + t1) fun v1 =>
  nm (x3 + (1 : Int32)) fun v2 =>
  kh4 x1 v1 v2
def f_Mo_markWrong_4_b (M_row : Nat → Int32) (kh4 : Int32 → Int32 → Int32 → Option (Int32)) (x1 : Int32) (x2 : Int32) (x3 : Int32) : Option (Int32) :=
  if (32 : Int32) ≤ x3 then
    some x2
  else
  rdI M_row 3600 (x1 + x3) fun v3 =>
  if v3 = (((449838109 : Int32) >>> (((31 : Int32) - x3) &&& 31)) &&& (1 : Int32)) then
    f_Mo_markWrong_36 kh4 x1 x3 x2 (0 : Int32)
  else
  f_Mo_markWrong_36 kh4 x1 x3 x2 (1 : Int32)
def f_Mo_markWrong_4 (M_row : Nat → Int32) : Nat → Int32 → Int32 → Int32 → Option (Int32)
  | 0 => fun _ _ _ => none
  | n + 1 => fun x1 x2 x3 => f_Mo_markWrong_4_b M_row (f_Mo_markWrong_4 M_row n) x1 x2 x3
def f_Mo_markWrong (M_row : Nat → Int32) (x1 : Int32) : Option (Int32) :=
  f_Mo_markWrong_4 M_row 10000 x1 (0 : Int32) (0 : Int32)
set_option maxHeartbeats 4000000 in
set_option maxRecDepth 100000 in
theorem c_Mo_markWrong (l : Launch) (D : va_G) (cI cJ : ClassId) (tt : Nat → Nat) (qM qM_row : Nat) (M_thrown M_depth M_fill M_half M_pattern M_craft M_begins M_firsts M_seconds M_powers M_logarithms M_forms M_elements M_mixer M_data M_waiting M_master M_counts M_line M_length M_sent M_state M_places M_least M_rowSize M_differ M_blocks M_marks M_wrongs M_bytes M_rights M_tells M_lastMaster M_lastCounts M_word M_values M_system M_solved M_wrong : Value) (sz : Nat) (M_row : Nat → Int32) (x1 : Int32) (rr : Int32) (hm : f_Mo_markWrong M_row x1 = some rr) : CTi l y_Mo_markWrong b_Mo_markWrong 4 (some .int) (RM 0 0) D cI cJ tt [.ref qM, .int x1] (w_Mo_markWrong cI cJ qM qM_row M_thrown M_depth M_fill M_half M_pattern M_craft M_begins M_firsts M_seconds M_powers M_logarithms M_forms M_elements M_mixer M_data M_waiting M_master M_counts M_line M_length M_sent M_state M_places M_least M_rowSize M_differ M_blocks M_marks M_wrongs M_bytes M_rights M_tells M_lastMaster M_lastCounts M_word M_values M_system M_solved M_wrong M_row) (w_Mo_markWrong cI cJ qM qM_row M_thrown M_depth M_fill M_half M_pattern M_craft M_begins M_firsts M_seconds M_powers M_logarithms M_forms M_elements M_mixer M_data M_waiting M_master M_counts M_line M_length M_sent M_state M_places M_least M_rowSize M_differ M_blocks M_marks M_wrongs M_bytes M_rights M_tells M_lastMaster M_lastCounts M_word M_values M_system M_solved M_wrong M_row) sz rr := by
  refine Met.ofW (cc := b_Mo_markWrong) (maxL := 4) (ret := (some .int)) (by decide) rfl ?_
  intro p e s m args below meth c s₁ B hml hv
  obtain ⟨hargs, hsz, hP, hK, hD0, hE⟩ := hv
  have hx := B.exec
  have hb := B.bytes
  have hr := B.returns
  have hts : ∀ w ∈ TB, w.before args s = true := z_mV s (atoms_spec (ws := WD y_Mo_markWrong b_Mo_markWrong 4 (some .int)) B.pre)
  have hown : s.vm.findClass "DeepChannelModel" = some m.cls := findClass_of_methodNamed B.named
  have hlocks := B.notSynchronized
  subst hsz
  have hD := hD0.self (sz := s.heap.size)
  generalize hAe : va_A (w_Mo_markWrong cI cJ qM qM_row M_thrown M_depth M_fill M_half M_pattern M_craft M_begins M_firsts M_seconds M_powers M_logarithms M_forms M_elements M_mixer M_data M_waiting M_master M_counts M_line M_length M_sent M_state M_places M_least M_rowSize M_differ M_blocks M_marks M_wrongs M_bytes M_rights M_tells M_lastMaster M_lastCounts M_word M_values M_system M_solved M_wrong M_row) s.heap.size = A at hD hE ⊢
  have hA : ∀ q : Nat, s.heap.size ≤ q → A q := fun q h => by rw [← hAe]; exact Or.inr h
  have hS : va_S A s.heap s.heap [] := va_S.rf
  refine z_entry (vs := [.ref qM, .int x1]) hargs (Nat.le_of_ble_eq_true rfl) (fun ls hl => ?_)
  have hl : lv_has ls 4 [(0, .ref qM), (1, .int x1)] := hl
  show W p l e (RM 0 0) s m args below meth c s.heap [] 0 0 _ _
  refine z_qi (fun Q0 hQ => ?_)
  have F : CallFix p m c b_Mo_markWrong 4 s args TB "DeepChannelModel" := ⟨hx, hb, hml, hown, hts⟩
  have T4 : ∀ (n4 : Nat) (x1 : Int32) (x2 : Int32) (x3 : Int32), f_Mo_markWrong_4 M_row n4 x1 x2 x3 = some rr → ∀ (H : Heap) (locs : List Loc), va_P D classes (w_Mo_markWrong cI cJ qM qM_row M_thrown M_depth M_fill M_half M_pattern M_craft M_begins M_firsts M_seconds M_powers M_logarithms M_forms M_elements M_mixer M_data M_waiting M_master M_counts M_line M_length M_sent M_state M_places M_least M_rowSize M_differ M_blocks M_marks M_wrongs M_bytes M_rights M_tells M_lastMaster M_lastCounts M_word M_values M_system M_solved M_wrong M_row) H → va_D A (w_Mo_markWrong cI cJ qM qM_row M_thrown M_depth M_fill M_half M_pattern M_craft M_begins M_firsts M_seconds M_powers M_logarithms M_forms M_elements M_mixer M_data M_waiting M_master M_counts M_line M_length M_sent M_state M_places M_least M_rowSize M_differ M_blocks M_marks M_wrongs M_bytes M_rights M_tells M_lastMaster M_lastCounts M_word M_values M_system M_solved M_wrong M_row) → va_S A s.heap H locs → ∀ (ls : Array Slot), lv_has ls 4 [(0, .ref qM), (1, .int x1), (2, .int x2), (3, .int x3)] → W p l e (RM 0 0) s m args below meth c H locs 0 0 Q0 (F0 m 4 ls []) := by
    intro n4
    induction n4 with
    | zero => intro x1 x2 x3 hm; cases hm
    | succ n4 ih4 =>
      have T36 : ∀ (x1 : Int32) (x3 : Int32) (t0 : Int32) (t1 : Int32), f_Mo_markWrong_36 (f_Mo_markWrong_4 M_row n4) x1 x3 t0 t1 = some rr → ∀ (H : Heap) (locs : List Loc), va_P D classes (w_Mo_markWrong cI cJ qM qM_row M_thrown M_depth M_fill M_half M_pattern M_craft M_begins M_firsts M_seconds M_powers M_logarithms M_forms M_elements M_mixer M_data M_waiting M_master M_counts M_line M_length M_sent M_state M_places M_least M_rowSize M_differ M_blocks M_marks M_wrongs M_bytes M_rights M_tells M_lastMaster M_lastCounts M_word M_values M_system M_solved M_wrong M_row) H → va_D A (w_Mo_markWrong cI cJ qM qM_row M_thrown M_depth M_fill M_half M_pattern M_craft M_begins M_firsts M_seconds M_powers M_logarithms M_forms M_elements M_mixer M_data M_waiting M_master M_counts M_line M_length M_sent M_state M_places M_least M_rowSize M_differ M_blocks M_marks M_wrongs M_bytes M_rights M_tells M_lastMaster M_lastCounts M_word M_values M_system M_solved M_wrong M_row) → va_S A s.heap H locs → ∀ (ls : Array Slot), lv_has ls 4 [(0, .ref qM), (1, .int x1), (3, .int x3)] → W p l e (RM 0 0) s m args below meth c H locs 0 0 Q0 (F0 m 36 ls [.int t1, .int t0]) := by
        intro x1 x3 t0 t1 hm H locs hP hD hS ls hl
        unfold f_Mo_markWrong_36 at hm
        refine lv_iadd hx hb d_Mo_markWrong_36 ?_
        refine z_nmi hm (fun v1 hm => ?_)
        refine lv_istore_n (lv' := [(2, .int v1), (0, .ref qM), (1, .int x1), (3, .int x3)]) hx hb d_Mo_markWrong_37 rfl hl (by decide) rfl (fun ls hl => ?_)
        obtain ⟨v2, ev, hm⟩ := nm_el hm
        refine lv_iinc (v := v2) (lv' := [(3, .int v2), (2, .int v1), (0, .ref qM), (1, .int x1)]) hx hb d_Mo_markWrong_38 hl (k := 3) rfl (by rw [ev]; rfl) (by decide) rfl (fun ls hl => ?_)
        refine lv_goto (tgt := 4) hx hb d_Mo_markWrong_41 (by decide) ?_
        exact ih4 x1 v1 v2 hm _ _ hP hD hS _ (lv_sub hl [2, 3, 1, 0] rfl)
      intro x1 x2 x3 hm H locs hP hD hS ls hl
      replace hm : f_Mo_markWrong_4_b M_row (f_Mo_markWrong_4 M_row n4) x1 x2 x3 = some rr := hm
      unfold f_Mo_markWrong_4_b at hm
      refine lv_iload_n hx hb d_Mo_markWrong_4 rfl (lv_at hl 3 rfl) ?_
      refine lv_bipush (v := (32 : Int32)) hx hb d_Mo_markWrong_5 (by decide) ?_
      refine z_if hm (lv_icmp_ge (tgt := 44) hx hb d_Mo_markWrong_7 (by decide)) (fun hm => ?_) (fun hm => ?_)
      · refine lv_iload_n hx hb d_Mo_markWrong_44 rfl (lv_at hl 2 rfl) ?_
        cases hm
        exact z_qo hQ (z_ireti hr hx hb hlocks hK hP hD hS d_Mo_markWrong_45)
      · refine lv_iload_n hx hb d_Mo_markWrong_10 rfl (lv_at hl 2 rfl) ?_
        refine lv_aload_n hx hb d_Mo_markWrong_11 rfl (lv_at hl 0 rfl) ?_
        refine va_get (D := D) (ci := 11) (v := .ref qM_row) (C := "DeepChannelModel") (T := fT_Mo) (N := 40) hx hb hts u_Mo hown hK hP 0 rfl rfl 24 (by decide) (hts _ k_910) (fun _ h9 => h9) rfl d_Mo_markWrong_12 ?_
        refine lv_iload_n hx hb d_Mo_markWrong_15 rfl (lv_at hl 1 rfl) ?_
        refine lv_iload_n hx hb d_Mo_markWrong_16 rfl (lv_at hl 3 rfl) ?_
        refine lv_iadd hx hb d_Mo_markWrong_17 ?_
        refine z_iald hm hx hb hK hP 1 rfl d_Mo_markWrong_18 (fun v3 hm => ?_)
        refine lv_ldc (v := (449838109 : Int32)) hx hb hown (hts _ k_1102) d_Mo_markWrong_19 ?_
        refine lv_bipush (v := (31 : Int32)) hx hb d_Mo_markWrong_21 (by decide) ?_
        refine lv_iload_n hx hb d_Mo_markWrong_23 rfl (lv_at hl 3 rfl) ?_
        refine lv_isub hx hb d_Mo_markWrong_24 ?_
        refine lv_ishr hx hb d_Mo_markWrong_25 ?_
        refine lv_iconst (v := (1 : Int32)) hx hb d_Mo_markWrong_26 (by decide) ?_
        refine lv_iand hx hb d_Mo_markWrong_27 ?_
        refine z_if hm (lv_icmp_eq (tgt := 35) hx hb d_Mo_markWrong_28 (by decide)) (fun hm => ?_) (fun hm => ?_)
        · refine lv_iconst (v := (0 : Int32)) hx hb d_Mo_markWrong_35 (by decide) ?_
          exact T36 x1 x3 x2 (0 : Int32) hm _ _ hP hD hS _ (lv_sub hl [0, 1, 3] rfl)
        · refine lv_iconst (v := (1 : Int32)) hx hb d_Mo_markWrong_31 (by decide) ?_
          refine lv_goto (tgt := 36) hx hb d_Mo_markWrong_32 (by decide) ?_
          exact T36 x1 x3 x2 (1 : Int32) hm _ _ hP hD hS _ (lv_sub hl [0, 1, 3] rfl)
  unfold f_Mo_markWrong at hm
  refine lv_iconst (v := (0 : Int32)) hx hb d_Mo_markWrong_0 (by decide) ?_
  refine lv_istore_n (lv' := [(2, .int (0 : Int32)), (0, .ref qM), (1, .int x1)]) hx hb d_Mo_markWrong_1 rfl hl (by decide) rfl (fun ls hl => ?_)
  refine lv_iconst (v := (0 : Int32)) hx hb d_Mo_markWrong_2 (by decide) ?_
  refine lv_istore_n (lv' := [(3, .int (0 : Int32)), (2, .int (0 : Int32)), (0, .ref qM), (1, .int x1)]) hx hb d_Mo_markWrong_3 rfl hl (by decide) rfl (fun ls hl => ?_)
  exact T4 10000 x1 (0 : Int32) (0 : Int32) hm _ _ hP hD hS _ (lv_sub hl [2, 3, 1, 0] rfl)
