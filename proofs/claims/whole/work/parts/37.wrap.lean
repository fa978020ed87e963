-- DeepChannelLaw.form(LDeepChannel;IIII)I
abbrev b_La_form : ByteArray := method_3_code
abbrev y_La_form : MethodName := ⟨"DeepChannelLaw", "form", "(LDeepChannel;IIII)I"⟩
theorem d_La_form_0 : decode b_La_form 0 = .ok (.aload_n 0, 1) := by decide +kernel
theorem d_La_form_1 : decode b_La_form 1 = .ok (.iload_n 1, 1) := by decide +kernel
theorem d_La_form_2 : decode b_La_form 2 = .ok (.iload_n 2, 1) := by decide +kernel
theorem d_La_form_3 : decode b_La_form 3 = .ok (.iload_n 3, 1) := by decide +kernel
theorem d_La_form_4 : decode b_La_form 4 = .ok (.iload 4, 2) := by decide +kernel
theorem d_La_form_6 : decode b_La_form 6 = .ok (.invokevirtual 7, 3) := by decide +kernel
theorem d_La_form_9 : decode b_La_form 9 = .ok (.goto 7, 3) := by decide +kernel
theorem d_La_form_12 : decode b_La_form 12 = .ok (.astore 5, 2) := by decide +kernel
theorem d_La_form_14 : decode b_La_form 14 = .ok (.iconst 1, 1) := by decide +kernel
theorem d_La_form_15 : decode b_La_form 15 = .ok (.ireturn, 1) := by decide +kernel
theorem d_La_form_16 : decode b_La_form 16 = .ok (.iconst 0, 1) := by decide +kernel
theorem d_La_form_17 : decode b_La_form 17 = .ok (.ireturn, 1) := by decide +kernel
abbrev w_La_form (cI cJ : ClassId) (qX qSh qWd qWd_generator qFd qFd_powers qFd_logs qRw qRw_cells qCd qSd qSd_channelCounts qRc qFo qFo_cells : Nat) (X_mixer Wd_remainder Wd_coefficients Wd_syndromes Wd_locator Fd_otherForms Fd_elements Cd_shape Cd_row Sd_shape Sd_words Sd_mixer Sd_bytes Sd_craft Rc_shape Rc_words Rc_mixer Rc_nearest Rc_bytes Rc_facts Rc_putRight Rc_lastOfChannel Rc_lastMaster : Value) (Sh_depth : Int32) (Sh_wordBytes : Int32) (Sh_e : Int32) (Sh_pattern : Int32) (Wd_generator : Nat → Int32) (Fd_powers : Nat → Int32) (Fd_logs : Nat → Int32) (Rw_length : Int32) (Rw_cells : Nat → Int64) (Cd_register : Int32) (Cd_put : Int32) (Sd_masterCount : Int32) (Sd_dataCount : Int32) (Sd_channelCounts : Nat → Int32) (Rc_differing : Int32) (Rc_taken : Int32) (Fo_length : Int32) (Fo_cells : Nat → Int64) : va_W := [(qX, .inr (10, [.ref qSh, .ref qWd, X_mixer, .ref qRw, .ref qCd, .ref qSd, .ref qRc])), (qSh, .inr (8, [.int Sh_depth, .int Sh_wordBytes, .int Sh_e, .int Sh_pattern])), (qWd, .inr (9, [.ref qSh, .ref qFd, .ref qWd_generator, Wd_remainder, Wd_coefficients, Wd_syndromes, Wd_locator])), (qWd_generator, .inl (cI, 33, .inl Wd_generator)), (qFd, .inr (2, [.ref qFd_powers, .ref qFd_logs, Fd_otherForms, Fd_elements])), (qFd_powers, .inl (cI, 255, .inl Fd_powers)), (qFd_logs, .inl (cI, 256, .inl Fd_logs)), (qRw, .inr (0, [.ref qRw_cells, .int Rw_length])), (qRw_cells, .inl (cJ, 64, .inr (.inl Rw_cells))), (qCd, .inr (1, [Cd_shape, Cd_row, .int Cd_register, .int Cd_put])), (qSd, .inr (7, [Sd_shape, Sd_words, Sd_mixer, Sd_bytes, .ref qSd_channelCounts, .int Sd_masterCount, Sd_craft, .int Sd_dataCount])), (qSd_channelCounts, .inl (cI, 8, .inl Sd_channelCounts)), (qRc, .inr (6, [Rc_shape, Rc_words, Rc_mixer, Rc_nearest, .ref qFo, Rc_bytes, Rc_facts, Rc_putRight, Rc_lastOfChannel, Rc_lastMaster, .int Rc_differing, .int Rc_taken])), (qFo, .inr (0, [.ref qFo_cells, .int Fo_length])), (qFo_cells, .inl (cJ, 64, .inr (.inl Fo_cells)))]
def f_La_form (Sh_depth : Int32) (Sh_wordBytes : Int32) (Sh_e : Int32) (Sh_pattern : Int32) (Wd_generator : Nat → Int32) (Fd_powers : Nat → Int32) (Fd_logs : Nat → Int32) (Rw_length : Int32) (Rw_cells : Nat → Int64) (Cd_register : Int32) (Cd_put : Int32) (Sd_masterCount : Int32) (Sd_dataCount : Int32) (Sd_channelCounts : Nat → Int32) (Rc_differing : Int32) (Rc_taken : Int32) (Fo_length : Int32) (Fo_cells : Nat → Int64) (x1 : Int32) (x2 : Int32) (x3 : Int32) (x4 : Int32) : Option (Int32 × Int32 × Int32 × Int32 × Int32 × (Nat → Int32) × Int32 × (Nat → Int64) × Int32 × Int32 × Int32 × Int32 × (Nat → Int32) × Int32 × Int32 × Int32 × (Nat → Int64)) :=
  bd (f_DC_form Sh_depth Sh_wordBytes Sh_e Sh_pattern Wd_generator Fd_powers Fd_logs Rw_length Rw_cells Cd_register Cd_put Sd_masterCount Sd_dataCount Sd_channelCounts Rc_differing Rc_taken Fo_length Fo_cells x1 x2 x3 x4) fun u17 =>
  nm u17.1 fun v1 =>
  nm u17.2.1 fun v2 =>
  nm u17.2.2.1 fun v3 =>
  nm u17.2.2.2.1 fun v4 =>
  nm u17.2.2.2.2.1 fun g5 =>
  nm u17.2.2.2.2.2.1 fun v6 =>
  nm u17.2.2.2.2.2.2.1 fun g7 =>
  nm u17.2.2.2.2.2.2.2.1 fun v8 =>
  nm u17.2.2.2.2.2.2.2.2.1 fun v9 =>
  nm u17.2.2.2.2.2.2.2.2.2.1 fun v10 =>
  nm u17.2.2.2.2.2.2.2.2.2.2.1 fun v11 =>
  nm u17.2.2.2.2.2.2.2.2.2.2.2.1 fun g12 =>
  nm u17.2.2.2.2.2.2.2.2.2.2.2.2.1 fun v13 =>
  nm u17.2.2.2.2.2.2.2.2.2.2.2.2.2.1 fun v14 =>
  nm u17.2.2.2.2.2.2.2.2.2.2.2.2.2.2.1 fun v15 =>
  nm u17.2.2.2.2.2.2.2.2.2.2.2.2.2.2.2 fun g16 =>
  some ((0 : Int32), v1, v2, v3, v4, g5, v6, g7, v8, v9, v10, v11, g12, v13, v14, v15, g16)
set_option maxHeartbeats 4000000 in
set_option maxRecDepth 100000 in
theorem c_La_form (l : Launch) (D : va_G) (cI cJ : ClassId) (tt sa : Nat → Nat) (qX qSh qWd qWd_generator qFd qFd_powers qFd_logs qRw qRw_cells qCd qSd qSd_channelCounts qRc qFo qFo_cells : Nat) (X_mixer Wd_remainder Wd_coefficients Wd_syndromes Wd_locator Fd_otherForms Fd_elements Cd_shape Cd_row Sd_shape Sd_words Sd_mixer Sd_bytes Sd_craft Rc_shape Rc_words Rc_mixer Rc_nearest Rc_bytes Rc_facts Rc_putRight Rc_lastOfChannel Rc_lastMaster : Value) (sz : Nat) (Sh_depth : Int32) (Sh_wordBytes : Int32) (Sh_e : Int32) (Sh_pattern : Int32) (Wd_generator : Nat → Int32) (Fd_powers : Nat → Int32) (Fd_logs : Nat → Int32) (Rw_length : Int32) (Rw_cells : Nat → Int64) (Cd_register : Int32) (Cd_put : Int32) (Sd_masterCount : Int32) (Sd_dataCount : Int32) (Sd_channelCounts : Nat → Int32) (Rc_differing : Int32) (Rc_taken : Int32) (Fo_length : Int32) (Fo_cells : Nat → Int64) (x1 : Int32) (x2 : Int32) (x3 : Int32) (x4 : Int32) (rr : Int32) (Sh_depth' : Int32) (Sh_wordBytes' : Int32) (Sh_e' : Int32) (Sh_pattern' : Int32) (Wd_generator' : Nat → Int32) (Rw_length' : Int32) (Rw_cells' : Nat → Int64) (Cd_register' : Int32) (Cd_put' : Int32) (Sd_masterCount' : Int32) (Sd_dataCount' : Int32) (Sd_channelCounts' : Nat → Int32) (Rc_differing' : Int32) (Rc_taken' : Int32) (Fo_length' : Int32) (Fo_cells' : Nat → Int64) (hm : f_La_form Sh_depth Sh_wordBytes Sh_e Sh_pattern Wd_generator Fd_powers Fd_logs Rw_length Rw_cells Cd_register Cd_put Sd_masterCount Sd_dataCount Sd_channelCounts Rc_differing Rc_taken Fo_length Fo_cells x1 x2 x3 x4 = some (rr, Sh_depth', Sh_wordBytes', Sh_e', Sh_pattern', Wd_generator', Rw_length', Rw_cells', Cd_register', Cd_put', Sd_masterCount', Sd_dataCount', Sd_channelCounts', Rc_differing', Rc_taken', Fo_length', Fo_cells')) : CWi l y_La_form b_La_form 6 (some .int) [(0, 9, 12, 13)] (RM 4 88) D cI cJ tt sa [.ref qX, .int x1, .int x2, .int x3, .int x4] (w_La_form cI cJ qX qSh qWd qWd_generator qFd qFd_powers qFd_logs qRw qRw_cells qCd qSd qSd_channelCounts qRc qFo qFo_cells X_mixer Wd_remainder Wd_coefficients Wd_syndromes Wd_locator Fd_otherForms Fd_elements Cd_shape Cd_row Sd_shape Sd_words Sd_mixer Sd_bytes Sd_craft Rc_shape Rc_words Rc_mixer Rc_nearest Rc_bytes Rc_facts Rc_putRight Rc_lastOfChannel Rc_lastMaster Sh_depth Sh_wordBytes Sh_e Sh_pattern Wd_generator Fd_powers Fd_logs Rw_length Rw_cells Cd_register Cd_put Sd_masterCount Sd_dataCount Sd_channelCounts Rc_differing Rc_taken Fo_length Fo_cells) (w_La_form cI cJ qX qSh qWd qWd_generator qFd qFd_powers qFd_logs qRw qRw_cells qCd qSd qSd_channelCounts qRc qFo qFo_cells X_mixer Wd_remainder Wd_coefficients Wd_syndromes Wd_locator Fd_otherForms Fd_elements Cd_shape Cd_row Sd_shape Sd_words Sd_mixer Sd_bytes Sd_craft Rc_shape Rc_words Rc_mixer Rc_nearest Rc_bytes Rc_facts Rc_putRight Rc_lastOfChannel Rc_lastMaster Sh_depth' Sh_wordBytes' Sh_e' Sh_pattern' Wd_generator' Fd_powers Fd_logs Rw_length' Rw_cells' Cd_register' Cd_put' Sd_masterCount' Sd_dataCount' Sd_channelCounts' Rc_differing' Rc_taken' Fo_length' Fo_cells') sz rr 0 0 := by
  refine va_MetW (cc := b_La_form) (maxL := 6) (ret := (some .int)) (hh := [(0, 9, 12, 13)]) (by decide) rfl ?_
  intro p e s m args below meth c s₁ B hml hv
  obtain ⟨hargs, ⟨⟨hsz, hP, hK, hD0, hE⟩, hY⟩, hN1, hN2⟩ := hv
  have hx := B.exec
  have hb := B.bytes
  have hr := B.returns
  have hall := atoms_spec (ws := WW y_La_form b_La_form 6 (some .int) [(0, 9, 12, 13)]) B.pre
  have hts : ∀ w ∈ TB, w.before args s = true := fun w h => hall w (List.mem_cons_of_mem _ h)
  have htab := y_table B (hall _ List.mem_cons_self)
  have hown : s.vm.findClass "DeepChannelLaw" = some m.cls := findClass_of_methodNamed B.named
  have hlocks := B.notSynchronized
  subst hsz
  have hD := hD0.self (sz := s.heap.size)
  generalize hAe : va_A (w_La_form cI cJ qX qSh qWd qWd_generator qFd qFd_powers qFd_logs qRw qRw_cells qCd qSd qSd_channelCounts qRc qFo qFo_cells X_mixer Wd_remainder Wd_coefficients Wd_syndromes Wd_locator Fd_otherForms Fd_elements Cd_shape Cd_row Sd_shape Sd_words Sd_mixer Sd_bytes Sd_craft Rc_shape Rc_words Rc_mixer Rc_nearest Rc_bytes Rc_facts Rc_putRight Rc_lastOfChannel Rc_lastMaster Sh_depth Sh_wordBytes Sh_e Sh_pattern Wd_generator Fd_powers Fd_logs Rw_length Rw_cells Cd_register Cd_put Sd_masterCount Sd_dataCount Sd_channelCounts Rc_differing Rc_taken Fo_length Fo_cells) s.heap.size = A at hD hE hY ⊢
  have hA : ∀ q : Nat, s.heap.size ≤ q → A q := fun q h => by rw [← hAe]; exact Or.inr h
  have hS : va_S A s.heap s.heap [] := va_S.rf
  refine z_entry (vs := [.ref qX, .int x1, .int x2, .int x3, .int x4]) hargs (Nat.le_of_ble_eq_true rfl) (fun ls hl => ?_)
  have hl : lv_has ls 6 [(0, .ref qX), (1, .int x1), (2, .int x2), (3, .int x3), (4, .int x4)] := hl
  show W p l e (RM 4 88) s m args below meth c s.heap [] 0 0 _ _
  refine z_qi (fun Q0 hQ => ?_)
  have F : CallFix p m c b_La_form 6 s args TB "DeepChannelLaw" := ⟨hx, hb, hml, hown, hts⟩
  unfold f_La_form at hm
  refine lv_aload_n hx hb d_La_form_0 rfl (lv_at hl 0 rfl) ?_
  refine lv_iload_n hx hb d_La_form_1 rfl (lv_at hl 1 rfl) ?_
  refine lv_iload_n hx hb d_La_form_2 rfl (lv_at hl 2 rfl) ?_
  refine lv_iload_n hx hb d_La_form_3 rfl (lv_at hl 3 rfl) ?_
  refine lv_iload hx hb d_La_form_4 (lv_at hl 4 rfl) ?_
  obtain ⟨⟨v1, v2, v3, v4, g5, v6, g7, v8, v9, v10, v11, g12, v13, v14, v15, g16⟩, hu, hm⟩ := bd_el hm
  replace hm := nm_16 hm
  refine z_cVv (wc := w_DC_form cI cJ qX qSh qWd qWd_generator qFd qFd_powers qFd_logs qRw qRw_cells qCd qSd qSd_channelCounts qRc qFo qFo_cells X_mixer Wd_remainder Wd_coefficients Wd_syndromes Wd_locator Fd_otherForms Fd_elements Cd_shape Cd_row Sd_shape Sd_words Sd_mixer Sd_bytes Sd_craft Rc_shape Rc_words Rc_mixer Rc_nearest Rc_bytes Rc_facts Rc_putRight Rc_lastOfChannel Rc_lastMaster Sh_depth Sh_wordBytes Sh_e Sh_pattern Wd_generator Fd_powers Fd_logs Rw_length Rw_cells Cd_register Cd_put Sd_masterCount Sd_dataCount Sd_channelCounts Rc_differing Rc_taken Fo_length Fo_cells) (wc' := w_DC_form cI cJ qX qSh qWd qWd_generator qFd qFd_powers qFd_logs qRw qRw_cells qCd qSd qSd_channelCounts qRc qFo qFo_cells X_mixer Wd_remainder Wd_coefficients Wd_syndromes Wd_locator Fd_otherForms Fd_elements Cd_shape Cd_row Sd_shape Sd_words Sd_mixer Sd_bytes Sd_craft Rc_shape Rc_words Rc_mixer Rc_nearest Rc_bytes Rc_facts Rc_putRight Rc_lastOfChannel Rc_lastMaster v1 v2 v3 v4 g5 Fd_powers Fd_logs v6 g7 v8 v9 v10 v11 g12 v13 v14 v15 g16) (wr := []) (As := [.int x1, .int x2, .int x3, .int x4]) (rest := []) (c_DC_form l D cI cJ tt qX qSh qWd qWd_generator qFd qFd_powers qFd_logs qRw qRw_cells qCd qSd qSd_channelCounts qRc qFo qFo_cells X_mixer Wd_remainder Wd_coefficients Wd_syndromes Wd_locator Fd_otherForms Fd_elements Cd_shape Cd_row Sd_shape Sd_words Sd_mixer Sd_bytes Sd_craft Rc_shape Rc_words Rc_mixer Rc_nearest Rc_bytes Rc_facts Rc_putRight Rc_lastOfChannel Rc_lastMaster _ Sh_depth Sh_wordBytes Sh_e Sh_pattern Wd_generator Fd_powers Fd_logs Rw_length Rw_cells Cd_register Cd_put Sd_masterCount Sd_dataCount Sd_channelCounts Rc_differing Rc_taken Fo_length Fo_cells x1 x2 x3 x4 v1 v2 v3 v4 g5 v6 g7 v8 v9 v10 v11 g12 v13 v14 v15 g16 hu) F ok_DC_form rfl k_397 hK hE hP hD hS hA [0, 1, 2, 3, 4, 5, 6, 7, 8, 9, 10, 11, 12, 13, 14] [] rfl rfl (by decide) (by decide) (by decide) 0 rfl rfl rfl ⟨rfl, rfl, Nat.le_of_ble_eq_true rfl, Nat.le_of_ble_eq_true rfl⟩ ⟨Nat.zero_le _, Nat.zero_le _⟩ rfl hl.1 rfl (Nat.le_of_ble_eq_true rfl) d_La_form_6 (fun H locs hP hD hS => ?_)
  have hP : va_P D classes (w_La_form cI cJ qX qSh qWd qWd_generator qFd qFd_powers qFd_logs qRw qRw_cells qCd qSd qSd_channelCounts qRc qFo qFo_cells X_mixer Wd_remainder Wd_coefficients Wd_syndromes Wd_locator Fd_otherForms Fd_elements Cd_shape Cd_row Sd_shape Sd_words Sd_mixer Sd_bytes Sd_craft Rc_shape Rc_words Rc_mixer Rc_nearest Rc_bytes Rc_facts Rc_putRight Rc_lastOfChannel Rc_lastMaster v1 v2 v3 v4 g5 Fd_powers Fd_logs v6 g7 v8 v9 v10 v11 g12 v13 v14 v15 g16) H := hP.sub [0, 1, 2, 3, 4, 5, 6, 7, 8, 9, 10, 11, 12, 13, 14] rfl
  have hD : va_D A (w_La_form cI cJ qX qSh qWd qWd_generator qFd qFd_powers qFd_logs qRw qRw_cells qCd qSd qSd_channelCounts qRc qFo qFo_cells X_mixer Wd_remainder Wd_coefficients Wd_syndromes Wd_locator Fd_otherForms Fd_elements Cd_shape Cd_row Sd_shape Sd_words Sd_mixer Sd_bytes Sd_craft Rc_shape Rc_words Rc_mixer Rc_nearest Rc_bytes Rc_facts Rc_putRight Rc_lastOfChannel Rc_lastMaster v1 v2 v3 v4 g5 Fd_powers Fd_logs v6 g7 v8 v9 v10 v11 g12 v13 v14 v15 g16) := hD.sub [0, 1, 2, 3, 4, 5, 6, 7, 8, 9, 10, 11, 12, 13, 14] (by decide) rfl
  refine lv_goto (tgt := 16) hx hb d_La_form_9 (by decide) ?_
  refine lv_iconst (v := (0 : Int32)) hx hb d_La_form_16 (by decide) ?_
  cases hm
  exact z_qo hQ (z_ireti hr hx hb hlocks hK hP hD hS d_La_form_17)
set_option maxHeartbeats 4000000 in
set_option maxRecDepth 100000 in
theorem cw_La_form_1 (l : Launch) (hfl : l.flags = pinnedFlags ++ [noTraceFlag]) (D : va_G) (cI cJ : ClassId) (tt sa : Nat → Nat) (qX qSh qWd qWd_generator qFd qFd_powers qFd_logs qRw qRw_cells qCd qSd qSd_channelCounts qRc qFo qFo_cells : Nat) (X_mixer Wd_remainder Wd_coefficients Wd_syndromes Wd_locator Fd_otherForms Fd_elements Cd_shape Cd_row Sd_shape Sd_words Sd_mixer Sd_bytes Sd_craft Rc_shape Rc_words Rc_mixer Rc_nearest Rc_bytes Rc_facts Rc_putRight Rc_lastOfChannel Rc_lastMaster : Value) (sz : Nat) (Sh_depth : Int32) (Sh_wordBytes : Int32) (Sh_e : Int32) (Sh_pattern : Int32) (Wd_generator : Nat → Int32) (Fd_powers : Nat → Int32) (Fd_logs : Nat → Int32) (Rw_length : Int32) (Rw_cells : Nat → Int64) (Cd_register : Int32) (Cd_put : Int32) (Sd_masterCount : Int32) (Sd_dataCount : Int32) (Sd_channelCounts : Nat → Int32) (Rc_differing : Int32) (Rc_taken : Int32) (Fo_length : Int32) (Fo_cells : Nat → Int64) (x1 : Int32) (x2 : Int32) (x3 : Int32) (x4 : Int32) (hm : g_DC_form x1 x2 x3 x4 = some 1) : CWi l y_La_form b_La_form 6 (some .int) [(0, 9, 12, 13)] (RC 7 1 6 106) D cI cJ tt sa [.ref qX, .int x1, .int x2, .int x3, .int x4] (w_La_form cI cJ qX qSh qWd qWd_generator qFd qFd_powers qFd_logs qRw qRw_cells qCd qSd qSd_channelCounts qRc qFo qFo_cells X_mixer Wd_remainder Wd_coefficients Wd_syndromes Wd_locator Fd_otherForms Fd_elements Cd_shape Cd_row Sd_shape Sd_words Sd_mixer Sd_bytes Sd_craft Rc_shape Rc_words Rc_mixer Rc_nearest Rc_bytes Rc_facts Rc_putRight Rc_lastOfChannel Rc_lastMaster Sh_depth Sh_wordBytes Sh_e Sh_pattern Wd_generator Fd_powers Fd_logs Rw_length Rw_cells Cd_register Cd_put Sd_masterCount Sd_dataCount Sd_channelCounts Rc_differing Rc_taken Fo_length Fo_cells) (w_La_form cI cJ qX qSh qWd qWd_generator qFd qFd_powers qFd_logs qRw qRw_cells qCd qSd qSd_channelCounts qRc qFo qFo_cells X_mixer Wd_remainder Wd_coefficients Wd_syndromes Wd_locator Fd_otherForms Fd_elements Cd_shape Cd_row Sd_shape Sd_words Sd_mixer Sd_bytes Sd_craft Rc_shape Rc_words Rc_mixer Rc_nearest Rc_bytes Rc_facts Rc_putRight Rc_lastOfChannel Rc_lastMaster Sh_depth Sh_wordBytes Sh_e Sh_pattern Wd_generator Fd_powers Fd_logs Rw_length Rw_cells Cd_register Cd_put Sd_masterCount Sd_dataCount Sd_channelCounts Rc_differing Rc_taken Fo_length Fo_cells) sz 1 1 6 := by
  refine va_MetW (cc := b_La_form) (maxL := 6) (ret := (some .int)) (hh := [(0, 9, 12, 13)]) (by decide) rfl ?_
  intro p e s m args below meth c s₁ B hml hv
  obtain ⟨hargs, ⟨⟨hsz, hP, hK, hD0, hE⟩, hY⟩, hN1, hN2⟩ := hv
  have hx := B.exec
  have hb := B.bytes
  have hr := B.returns
  have hall := atoms_spec (ws := WW y_La_form b_La_form 6 (some .int) [(0, 9, 12, 13)]) B.pre
  have hts : ∀ w ∈ TB, w.before args s = true := fun w h => hall w (List.mem_cons_of_mem _ h)
  have htab := y_table B (hall _ List.mem_cons_self)
  have hown : s.vm.findClass "DeepChannelLaw" = some m.cls := findClass_of_methodNamed B.named
  have hlocks := B.notSynchronized
  subst hsz
  have hD := hD0.self (sz := s.heap.size)
  generalize hAe : va_A (w_La_form cI cJ qX qSh qWd qWd_generator qFd qFd_powers qFd_logs qRw qRw_cells qCd qSd qSd_channelCounts qRc qFo qFo_cells X_mixer Wd_remainder Wd_coefficients Wd_syndromes Wd_locator Fd_otherForms Fd_elements Cd_shape Cd_row Sd_shape Sd_words Sd_mixer Sd_bytes Sd_craft Rc_shape Rc_words Rc_mixer Rc_nearest Rc_bytes Rc_facts Rc_putRight Rc_lastOfChannel Rc_lastMaster Sh_depth Sh_wordBytes Sh_e Sh_pattern Wd_generator Fd_powers Fd_logs Rw_length Rw_cells Cd_register Cd_put Sd_masterCount Sd_dataCount Sd_channelCounts Rc_differing Rc_taken Fo_length Fo_cells) s.heap.size = A at hD hE hY ⊢
  have hA : ∀ q : Nat, s.heap.size ≤ q → A q := fun q h => by rw [← hAe]; exact Or.inr h
  have hS : va_S A s.heap s.heap [] := va_S.rf
  refine z_entry (vs := [.ref qX, .int x1, .int x2, .int x3, .int x4]) hargs (Nat.le_of_ble_eq_true rfl) (fun ls hl => ?_)
  have hl : lv_has ls 6 [(0, .ref qX), (1, .int x1), (2, .int x2), (3, .int x3), (4, .int x4)] := hl
  show W p l e (RC 7 1 6 106) s m args below meth c s.heap [] 0 0 _ _
  refine z_qi (fun Q0 hQ => ?_)
  have F : CallFix p m c b_La_form 6 s args TB "DeepChannelLaw" := ⟨hx, hb, hml, hown, hts⟩
  refine lv_aload_n hx hb d_La_form_0 rfl (lv_at hl 0 rfl) ?_
  refine lv_iload_n hx hb d_La_form_1 rfl (lv_at hl 1 rfl) ?_
  refine lv_iload_n hx hb d_La_form_2 rfl (lv_at hl 2 rfl) ?_
  refine lv_iload_n hx hb d_La_form_3 rfl (lv_at hl 3 rfl) ?_
  refine lv_iload hx hb d_La_form_4 (lv_at hl 4 rfl) ?_
  refine z_cT (wc := w_DC_form cI cJ qX qSh qWd qWd_generator qFd qFd_powers qFd_logs qRw qRw_cells qCd qSd qSd_channelCounts qRc qFo qFo_cells X_mixer Wd_remainder Wd_coefficients Wd_syndromes Wd_locator Fd_otherForms Fd_elements Cd_shape Cd_row Sd_shape Sd_words Sd_mixer Sd_bytes Sd_craft Rc_shape Rc_words Rc_mixer Rc_nearest Rc_bytes Rc_facts Rc_putRight Rc_lastOfChannel Rc_lastMaster Sh_depth Sh_wordBytes Sh_e Sh_pattern Wd_generator Fd_powers Fd_logs Rw_length Rw_cells Cd_register Cd_put Sd_masterCount Sd_dataCount Sd_channelCounts Rc_differing Rc_taken Fo_length Fo_cells) (As := [.int x1, .int x2, .int x3, .int x4]) (rest := []) (hpc := 12) (t_DC_form_1 l hfl D cI cJ tt sa qX qSh qWd qWd_generator qFd qFd_powers qFd_logs qRw qRw_cells qCd qSd qSd_channelCounts qRc qFo qFo_cells X_mixer Wd_remainder Wd_coefficients Wd_syndromes Wd_locator Fd_otherForms Fd_elements Cd_shape Cd_row Sd_shape Sd_words Sd_mixer Sd_bytes Sd_craft Rc_shape Rc_words Rc_mixer Rc_nearest Rc_bytes Rc_facts Rc_putRight Rc_lastOfChannel Rc_lastMaster _ Sh_depth Sh_wordBytes Sh_e Sh_pattern Wd_generator Fd_powers Fd_logs Rw_length Rw_cells Cd_register Cd_put Sd_masterCount Sd_dataCount Sd_channelCounts Rc_differing Rc_taken Fo_length Fo_cells x1 x2 x3 x4 hm) F ok_DC_form k_397 hK hE hY hP hD hS hA [0, 1, 2, 3, 4, 5, 6, 7, 8, 9, 10, 11, 12, 13, 14] rfl (by decide) 0 rfl rfl rfl ⟨rfl, rfl, Nat.le_of_ble_eq_true rfl, Nat.le_of_ble_eq_true rfl⟩ ⟨Nat.le_of_ble_eq_true rfl, Nat.le_of_ble_eq_true rfl⟩ rfl hl.1 rfl (Nat.le_of_ble_eq_true rfl) d_La_form_6 (fun T' x ce XX h1 h2 h3 => y_catch1 XX hown (hts _ k_396) (by decide) htab ⟨Nat.le_of_ble_eq_true rfl, Nat.le_of_ble_eq_true rfl⟩ (va_Nw.use rfl (hY.2.2.1 _ (List.mem_of_getElem? (i := 3) rfl))) rfl h1 h2 h3) (fun qz H hP hS => ?_)
  refine lv_astore (lv' := [(5, .ref qz), (0, .ref qX), (1, .int x1), (2, .int x2), (3, .int x3), (4, .int x4)]) hx hb d_La_form_12 hl (by decide) rfl (fun ls hl => ?_)
  refine lv_iconst (v := (1 : Int32)) hx hb d_La_form_14 (by decide) ?_
  exact z_qo hQ (z_ireti hr hx hb hlocks hK hP hD hS d_La_form_15)
-- DeepChannelLaw.craft(LDeepChannel;I[J)I
abbrev b_La_craft : ByteArray := method_4_code
abbrev y_La_craft : MethodName := ⟨"DeepChannelLaw", "craft", "(LDeepChannel;I[J)I"⟩
theorem d_La_craft_0 : decode b_La_craft 0 = .ok (.aload_n 2, 1) := by decide +kernel
theorem d_La_craft_1 : decode b_La_craft 1 = .ok (.iconst 0, 1) := by decide +kernel
theorem d_La_craft_2 : decode b_La_craft 2 = .ok (.aload_n 0, 1) := by decide +kernel
theorem d_La_craft_3 : decode b_La_craft 3 = .ok (.iload_n 1, 1) := by decide +kernel
theorem d_La_craft_4 : decode b_La_craft 4 = .ok (.invokevirtual 15, 3) := by decide +kernel
theorem d_La_craft_7 : decode b_La_craft 7 = .ok (.i2l, 1) := by decide +kernel
theorem d_La_craft_8 : decode b_La_craft 8 = .ok (.lastore, 1) := by decide +kernel
theorem d_La_craft_9 : decode b_La_craft 9 = .ok (.goto 6, 3) := by decide +kernel
theorem d_La_craft_12 : decode b_La_craft 12 = .ok (.astore_n 3, 1) := by decide +kernel
theorem d_La_craft_13 : decode b_La_craft 13 = .ok (.iconst 1, 1) := by decide +kernel
theorem d_La_craft_14 : decode b_La_craft 14 = .ok (.ireturn, 1) := by decide +kernel
theorem d_La_craft_15 : decode b_La_craft 15 = .ok (.iconst 0, 1) := by decide +kernel
theorem d_La_craft_16 : decode b_La_craft 16 = .ok (.ireturn, 1) := by decide +kernel
abbrev w_La_craft (cI cJ : ClassId) (qX qSd qP2 : Nat) (X_shape X_words X_mixer X_row X_coder X_receiver Sd_shape Sd_words Sd_mixer Sd_bytes Sd_channelCounts Sd_masterCount Sd_dataCount : Value) (nP2 : Nat) (Sd_craft : Int32) (p2 : Nat → Int64) : va_W := [(qX, .inr (10, [X_shape, X_words, X_mixer, X_row, X_coder, .ref qSd, X_receiver])), (qSd, .inr (7, [Sd_shape, Sd_words, Sd_mixer, Sd_bytes, Sd_channelCounts, Sd_masterCount, .int Sd_craft, Sd_dataCount])), (qP2, .inl (cJ, nP2, .inr (.inl p2)))]
def f_La_craft (Sd_craft : Int32) (p2 : Nat → Int64) (nP2 : Nat) (x1 : Int32) : Option (Int32 × Int32 × (Nat → Int64)) :=
  bd (f_DC_craft Sd_craft x1) fun u3 =>
  nm u3.1 fun r1 =>
  nm u3.2 fun v2 =>
  wrL p2 nP2 (0 : Int32) r1.toInt64 fun g4 =>
  some ((0 : Int32), v2, g4)
set_option maxHeartbeats 4000000 in
set_option maxRecDepth 100000 in
theorem c_La_craft (l : Launch) (D : va_G) (cI cJ : ClassId) (tt sa : Nat → Nat) (qX qSd qP2 : Nat) (X_shape X_words X_mixer X_row X_coder X_receiver Sd_shape Sd_words Sd_mixer Sd_bytes Sd_channelCounts Sd_masterCount Sd_dataCount : Value) (nP2 : Nat) (sz : Nat) (Sd_craft : Int32) (p2 : Nat → Int64) (x1 : Int32) (rr : Int32) (Sd_craft' : Int32) (p2' : Nat → Int64) (hm : f_La_craft Sd_craft p2 nP2 x1 = some (rr, Sd_craft', p2')) : CWi l y_La_craft b_La_craft 4 (some .int) [(0, 9, 12, 13)] (RM 2 43) D cI cJ tt sa [.ref qX, .int x1, .ref qP2] (w_La_craft cI cJ qX qSd qP2 X_shape X_words X_mixer X_row X_coder X_receiver Sd_shape Sd_words Sd_mixer Sd_bytes Sd_channelCounts Sd_masterCount Sd_dataCount nP2 Sd_craft p2) (w_La_craft cI cJ qX qSd qP2 X_shape X_words X_mixer X_row X_coder X_receiver Sd_shape Sd_words Sd_mixer Sd_bytes Sd_channelCounts Sd_masterCount Sd_dataCount nP2 Sd_craft' p2') sz rr 0 0 := by
  refine va_MetW (cc := b_La_craft) (maxL := 4) (ret := (some .int)) (hh := [(0, 9, 12, 13)]) (by decide) rfl ?_
  intro p e s m args below meth c s₁ B hml hv
  obtain ⟨hargs, ⟨⟨hsz, hP, hK, hD0, hE⟩, hY⟩, hN1, hN2⟩ := hv
  have hx := B.exec
  have hb := B.bytes
  have hr := B.returns
  have hall := atoms_spec (ws := WW y_La_craft b_La_craft 4 (some .int) [(0, 9, 12, 13)]) B.pre
  have hts : ∀ w ∈ TB, w.before args s = true := fun w h => hall w (List.mem_cons_of_mem _ h)
  have htab := y_table B (hall _ List.mem_cons_self)
  have hown : s.vm.findClass "DeepChannelLaw" = some m.cls := findClass_of_methodNamed B.named
  have hlocks := B.notSynchronized
  subst hsz
  have hD := hD0.self (sz := s.heap.size)
  generalize hAe : va_A (w_La_craft cI cJ qX qSd qP2 X_shape X_words X_mixer X_row X_coder X_receiver Sd_shape Sd_words Sd_mixer Sd_bytes Sd_channelCounts Sd_masterCount Sd_dataCount nP2 Sd_craft p2) s.heap.size = A at hD hE hY ⊢
  have hA : ∀ q : Nat, s.heap.size ≤ q → A q := fun q h => by rw [← hAe]; exact Or.inr h
  have hS : va_S A s.heap s.heap [] := va_S.rf
  refine z_entry (vs := [.ref qX, .int x1, .ref qP2]) hargs (Nat.le_of_ble_eq_true rfl) (fun ls hl => ?_)
  have hl : lv_has ls 4 [(0, .ref qX), (1, .int x1), (2, .ref qP2)] := hl
  show W p l e (RM 2 43) s m args below meth c s.heap [] 0 0 _ _
  refine z_qi (fun Q0 hQ => ?_)
  have F : CallFix p m c b_La_craft 4 s args TB "DeepChannelLaw" := ⟨hx, hb, hml, hown, hts⟩
  unfold f_La_craft at hm
  refine lv_aload_n hx hb d_La_craft_0 rfl (lv_at hl 2 rfl) ?_
  refine lv_iconst (v := (0 : Int32)) hx hb d_La_craft_1 (by decide) ?_
  refine lv_aload_n hx hb d_La_craft_2 rfl (lv_at hl 0 rfl) ?_
  refine lv_iload_n hx hb d_La_craft_3 rfl (lv_at hl 1 rfl) ?_
  obtain ⟨⟨r1, v2⟩, hu, hm⟩ := bd_el hm
  replace hm := nm_2 hm
  refine z_cVi (wc := w_DC_craft cI cJ qX qSd X_shape X_words X_mixer X_row X_coder X_receiver Sd_shape Sd_words Sd_mixer Sd_bytes Sd_channelCounts Sd_masterCount Sd_dataCount Sd_craft) (wc' := w_DC_craft cI cJ qX qSd X_shape X_words X_mixer X_row X_coder X_receiver Sd_shape Sd_words Sd_mixer Sd_bytes Sd_channelCounts Sd_masterCount Sd_dataCount v2) (wr := [(qP2, .inl (cJ, nP2, .inr (.inl p2)))]) (As := [.int x1]) (rest := [.int (0 : Int32), .ref qP2]) (c_DC_craft l D cI cJ tt qX qSd X_shape X_words X_mixer X_row X_coder X_receiver Sd_shape Sd_words Sd_mixer Sd_bytes Sd_channelCounts Sd_masterCount Sd_dataCount _ Sd_craft x1 r1 v2 hu) F ok_DC_craft rfl k_501 hK hE hP hD hS hA [0, 1] [2] rfl rfl (by decide) (by decide) (by decide) 0 rfl rfl rfl ⟨rfl, rfl, Nat.le_of_ble_eq_true rfl, Nat.le_of_ble_eq_true rfl⟩ ⟨Nat.zero_le _, Nat.zero_le _⟩ rfl hl.1 rfl (Nat.le_of_ble_eq_true rfl) d_La_craft_4 (fun H locs hP hD hS => ?_)
  have hP : va_P D classes (w_La_craft cI cJ qX qSd qP2 X_shape X_words X_mixer X_row X_coder X_receiver Sd_shape Sd_words Sd_mixer Sd_bytes Sd_channelCounts Sd_masterCount Sd_dataCount nP2 v2 p2) H := hP.sub [1, 2, 0] rfl
  have hD : va_D A (w_La_craft cI cJ qX qSd qP2 X_shape X_words X_mixer X_row X_coder X_receiver Sd_shape Sd_words Sd_mixer Sd_bytes Sd_channelCounts Sd_masterCount Sd_dataCount nP2 v2 p2) := hD.sub [1, 2, 0] (by decide) rfl
  refine lv_i2l (v := r1.toInt64) hx hb d_La_craft_7 rfl ?_
  refine z_last hm hx hb hK hP hD hS 2 rfl d_La_craft_8 (fun g4 hm H locs hP hD hS => ?_)
  have hP : va_P D classes (w_La_craft cI cJ qX qSd qP2 X_shape X_words X_mixer X_row X_coder X_receiver Sd_shape Sd_words Sd_mixer Sd_bytes Sd_channelCounts Sd_masterCount Sd_dataCount nP2 v2 g4) H := hP
  have hD : va_D A (w_La_craft cI cJ qX qSd qP2 X_shape X_words X_mixer X_row X_coder X_receiver Sd_shape Sd_words Sd_mixer Sd_bytes Sd_channelCounts Sd_masterCount Sd_dataCount nP2 v2 g4) := hD
  refine lv_goto (tgt := 15) hx hb d_La_craft_9 (by decide) ?_
  refine lv_iconst (v := (0 : Int32)) hx hb d_La_craft_15 (by decide) ?_
  cases hm
  exact z_qo hQ (z_ireti hr hx hb hlocks hK hP hD hS d_La_craft_16)
set_option maxHeartbeats 4000000 in
set_option maxRecDepth 100000 in
theorem cw_La_craft_1 (l : Launch) (hfl : l.flags = pinnedFlags ++ [noTraceFlag]) (D : va_G) (cI cJ : ClassId) (tt sa : Nat → Nat) (qX qSd qP2 : Nat) (X_shape X_words X_mixer X_row X_coder X_receiver Sd_shape Sd_words Sd_mixer Sd_bytes Sd_channelCounts Sd_masterCount Sd_dataCount : Value) (nP2 : Nat) (sz : Nat) (Sd_craft : Int32) (p2 : Nat → Int64) (x1 : Int32) (hm : g_DC_craft x1 = some 1) : CWi l y_La_craft b_La_craft 4 (some .int) [(0, 9, 12, 13)] (RC 7 1 6 103) D cI cJ tt sa [.ref qX, .int x1, .ref qP2] (w_La_craft cI cJ qX qSd qP2 X_shape X_words X_mixer X_row X_coder X_receiver Sd_shape Sd_words Sd_mixer Sd_bytes Sd_channelCounts Sd_masterCount Sd_dataCount nP2 Sd_craft p2) (w_La_craft cI cJ qX qSd qP2 X_shape X_words X_mixer X_row X_coder X_receiver Sd_shape Sd_words Sd_mixer Sd_bytes Sd_channelCounts Sd_masterCount Sd_dataCount nP2 Sd_craft p2) sz 1 1 6 := by
  refine va_MetW (cc := b_La_craft) (maxL := 4) (ret := (some .int)) (hh := [(0, 9, 12, 13)]) (by decide) rfl ?_
  intro p e s m args below meth c s₁ B hml hv
  obtain ⟨hargs, ⟨⟨hsz, hP, hK, hD0, hE⟩, hY⟩, hN1, hN2⟩ := hv
  have hx := B.exec
  have hb := B.bytes
  have hr := B.returns
  have hall := atoms_spec (ws := WW y_La_craft b_La_craft 4 (some .int) [(0, 9, 12, 13)]) B.pre
  have hts : ∀ w ∈ TB, w.before args s = true := fun w h => hall w (List.mem_cons_of_mem _ h)
  have htab := y_table B (hall _ List.mem_cons_self)
  have hown : s.vm.findClass "DeepChannelLaw" = some m.cls := findClass_of_methodNamed B.named
  have hlocks := B.notSynchronized
  subst hsz
  have hD := hD0.self (sz := s.heap.size)
  generalize hAe : va_A (w_La_craft cI cJ qX qSd qP2 X_shape X_words X_mixer X_row X_coder X_receiver Sd_shape Sd_words Sd_mixer Sd_bytes Sd_channelCounts Sd_masterCount Sd_dataCount nP2 Sd_craft p2) s.heap.size = A at hD hE hY ⊢
  have hA : ∀ q : Nat, s.heap.size ≤ q → A q := fun q h => by rw [← hAe]; exact Or.inr h
  have hS : va_S A s.heap s.heap [] := va_S.rf
  refine z_entry (vs := [.ref qX, .int x1, .ref qP2]) hargs (Nat.le_of_ble_eq_true rfl) (fun ls hl => ?_)
  have hl : lv_has ls 4 [(0, .ref qX), (1, .int x1), (2, .ref qP2)] := hl
  show W p l e (RC 7 1 6 103) s m args below meth c s.heap [] 0 0 _ _
  refine z_qi (fun Q0 hQ => ?_)
  have F : CallFix p m c b_La_craft 4 s args TB "DeepChannelLaw" := ⟨hx, hb, hml, hown, hts⟩
  refine lv_aload_n hx hb d_La_craft_0 rfl (lv_at hl 2 rfl) ?_
  refine lv_iconst (v := (0 : Int32)) hx hb d_La_craft_1 (by decide) ?_
  refine lv_aload_n hx hb d_La_craft_2 rfl (lv_at hl 0 rfl) ?_
  refine lv_iload_n hx hb d_La_craft_3 rfl (lv_at hl 1 rfl) ?_
  refine z_cT (wc := w_DC_craft cI cJ qX qSd X_shape X_words X_mixer X_row X_coder X_receiver Sd_shape Sd_words Sd_mixer Sd_bytes Sd_channelCounts Sd_masterCount Sd_dataCount Sd_craft) (As := [.int x1]) (rest := [.int (0 : Int32), .ref qP2]) (hpc := 12) (t_DC_craft_1 l hfl D cI cJ tt sa qX qSd X_shape X_words X_mixer X_row X_coder X_receiver Sd_shape Sd_words Sd_mixer Sd_bytes Sd_channelCounts Sd_masterCount Sd_dataCount _ Sd_craft x1 hm) F ok_DC_craft k_501 hK hE hY hP hD hS hA [0, 1] rfl (by decide) 0 rfl rfl rfl ⟨rfl, rfl, Nat.le_of_ble_eq_true rfl, Nat.le_of_ble_eq_true rfl⟩ ⟨Nat.le_of_ble_eq_true rfl, Nat.le_of_ble_eq_true rfl⟩ rfl hl.1 rfl (Nat.le_of_ble_eq_true rfl) d_La_craft_4 (fun T' x ce XX h1 h2 h3 => y_catch1 XX hown (hts _ k_396) (by decide) htab ⟨Nat.le_of_ble_eq_true rfl, Nat.le_of_ble_eq_true rfl⟩ (va_Nw.use rfl (hY.2.2.1 _ (List.mem_of_getElem? (i := 3) rfl))) rfl h1 h2 h3) (fun qz H hP hS => ?_)
  refine lv_astore_n (lv' := [(3, .ref qz), (0, .ref qX), (1, .int x1), (2, .ref qP2)]) hx hb d_La_craft_12 rfl hl (by decide) rfl (fun ls hl => ?_)
  refine lv_iconst (v := (1 : Int32)) hx hb d_La_craft_13 (by decide) ?_
  exact z_qo hQ (z_ireti hr hx hb hlocks hK hP hD hS d_La_craft_14)
-- DeepChannelLaw.told(LDeepChannel;I[J)I
abbrev b_La_told : ByteArray := method_5_code
abbrev y_La_told : MethodName := ⟨"DeepChannelLaw", "told", "(LDeepChannel;I[J)I"⟩
theorem d_La_told_0 : decode b_La_told 0 = .ok (.aload_n 2, 1) := by decide +kernel
theorem d_La_told_1 : decode b_La_told 1 = .ok (.iconst 0, 1) := by decide +kernel
theorem d_La_told_2 : decode b_La_told 2 = .ok (.aload_n 0, 1) := by decide +kernel
theorem d_La_told_3 : decode b_La_told 3 = .ok (.iload_n 1, 1) := by decide +kernel
theorem d_La_told_4 : decode b_La_told 4 = .ok (.invokevirtual 19, 3) := by decide +kernel
theorem d_La_told_7 : decode b_La_told 7 = .ok (.i2l, 1) := by decide +kernel
theorem d_La_told_8 : decode b_La_told 8 = .ok (.lastore, 1) := by decide +kernel
theorem d_La_told_9 : decode b_La_told 9 = .ok (.goto 6, 3) := by decide +kernel
theorem d_La_told_12 : decode b_La_told 12 = .ok (.astore_n 3, 1) := by decide +kernel
theorem d_La_told_13 : decode b_La_told 13 = .ok (.iconst 1, 1) := by decide +kernel
theorem d_La_told_14 : decode b_La_told 14 = .ok (.ireturn, 1) := by decide +kernel
theorem d_La_told_15 : decode b_La_told 15 = .ok (.iconst 0, 1) := by decide +kernel
theorem d_La_told_16 : decode b_La_told 16 = .ok (.ireturn, 1) := by decide +kernel
abbrev w_La_told (cI cJ : ClassId) (qX qRc qFo qSd qRw qSh qP2 : Nat) (X_words X_mixer X_coder Rc_shape Rc_words Rc_mixer Rc_nearest Rc_bytes Rc_facts Rc_putRight Rc_lastOfChannel Rc_lastMaster Fo_cells Sd_shape Sd_words Sd_mixer Sd_bytes Sd_channelCounts Sd_masterCount Sd_craft Rw_cells Sh_pattern : Value) (nP2 : Nat) (Rc_differing : Int32) (Rc_taken : Int32) (Fo_length : Int32) (Sd_dataCount : Int32) (Rw_length : Int32) (Sh_depth : Int32) (Sh_wordBytes : Int32) (Sh_e : Int32) (p2 : Nat → Int64) : va_W := [(qX, .inr (10, [.ref qSh, X_words, X_mixer, .ref qRw, X_coder, .ref qSd, .ref qRc])), (qRc, .inr (6, [Rc_shape, Rc_words, Rc_mixer, Rc_nearest, .ref qFo, Rc_bytes, Rc_facts, Rc_putRight, Rc_lastOfChannel, Rc_lastMaster, .int Rc_differing, .int Rc_taken])), (qFo, .inr (0, [Fo_cells, .int Fo_length])), (qSd, .inr (7, [Sd_shape, Sd_words, Sd_mixer, Sd_bytes, Sd_channelCounts, Sd_masterCount, Sd_craft, .int Sd_dataCount])), (qRw, .inr (0, [Rw_cells, .int Rw_length])), (qSh, .inr (8, [.int Sh_depth, .int Sh_wordBytes, .int Sh_e, Sh_pattern])), (qP2, .inl (cJ, nP2, .inr (.inl p2)))]
def f_La_told (Rc_differing : Int32) (Rc_taken : Int32) (Fo_length : Int32) (Sd_dataCount : Int32) (Rw_length : Int32) (Sh_depth : Int32) (Sh_wordBytes : Int32) (Sh_e : Int32) (p2 : Nat → Int64) (nP2 : Nat) (x1 : Int32) : Option (Int32 × (Nat → Int64)) :=
  bd (f_DC_told Rc_differing Rc_taken Fo_length Sd_dataCount Rw_length Sh_depth Sh_wordBytes Sh_e x1) fun u2 =>
  nm u2 fun r1 =>
  wrL p2 nP2 (0 : Int32) r1.toInt64 fun g3 =>
  some ((0 : Int32), g3)
set_option maxHeartbeats 4000000 in
set_option maxRecDepth 100000 in
theorem c_La_told (l : Launch) (D : va_G) (cI cJ : ClassId) (tt sa : Nat → Nat) (qX qRc qFo qSd qRw qSh qP2 : Nat) (X_words X_mixer X_coder Rc_shape Rc_words Rc_mixer Rc_nearest Rc_bytes Rc_facts Rc_putRight Rc_lastOfChannel Rc_lastMaster Fo_cells Sd_shape Sd_words Sd_mixer Sd_bytes Sd_channelCounts Sd_masterCount Sd_craft Rw_cells Sh_pattern : Value) (nP2 : Nat) (sz : Nat) (Rc_differing : Int32) (Rc_taken : Int32) (Fo_length : Int32) (Sd_dataCount : Int32) (Rw_length : Int32) (Sh_depth : Int32) (Sh_wordBytes : Int32) (Sh_e : Int32) (p2 : Nat → Int64) (x1 : Int32) (rr : Int32) (p2' : Nat → Int64) (hm : f_La_told Rc_differing Rc_taken Fo_length Sd_dataCount Rw_length Sh_depth Sh_wordBytes Sh_e p2 nP2 x1 = some (rr, p2')) : CWi l y_La_told b_La_told 4 (some .int) [(0, 9, 12, 13)] (RM 3 61) D cI cJ tt sa [.ref qX, .int x1, .ref qP2] (w_La_told cI cJ qX qRc qFo qSd qRw qSh qP2 X_words X_mixer X_coder Rc_shape Rc_words Rc_mixer Rc_nearest Rc_bytes Rc_facts Rc_putRight Rc_lastOfChannel Rc_lastMaster Fo_cells Sd_shape Sd_words Sd_mixer Sd_bytes Sd_channelCounts Sd_masterCount Sd_craft Rw_cells Sh_pattern nP2 Rc_differing Rc_taken Fo_length Sd_dataCount Rw_length Sh_depth Sh_wordBytes Sh_e p2) (w_La_told cI cJ qX qRc qFo qSd qRw qSh qP2 X_words X_mixer X_coder Rc_shape Rc_words Rc_mixer Rc_nearest Rc_bytes Rc_facts Rc_putRight Rc_lastOfChannel Rc_lastMaster Fo_cells Sd_shape Sd_words Sd_mixer Sd_bytes Sd_channelCounts Sd_masterCount Sd_craft Rw_cells Sh_pattern nP2 Rc_differing Rc_taken Fo_length Sd_dataCount Rw_length Sh_depth Sh_wordBytes Sh_e p2') sz rr 0 0 := by
  refine va_MetW (cc := b_La_told) (maxL := 4) (ret := (some .int)) (hh := [(0, 9, 12, 13)]) (by decide) rfl ?_
  intro p e s m args below meth c s₁ B hml hv
  obtain ⟨hargs, ⟨⟨hsz, hP, hK, hD0, hE⟩, hY⟩, hN1, hN2⟩ := hv
  have hx := B.exec
  have hb := B.bytes
  have hr := B.returns
  have hall := atoms_spec (ws := WW y_La_told b_La_told 4 (some .int) [(0, 9, 12, 13)]) B.pre
  have hts : ∀ w ∈ TB, w.before args s = true := fun w h => hall w (List.mem_cons_of_mem _ h)
  have htab := y_table B (hall _ List.mem_cons_self)
  have hown : s.vm.findClass "DeepChannelLaw" = some m.cls := findClass_of_methodNamed B.named
  have hlocks := B.notSynchronized
  subst hsz
  have hD := hD0.self (sz := s.heap.size)
  generalize hAe : va_A (w_La_told cI cJ qX qRc qFo qSd qRw qSh qP2 X_words X_mixer X_coder Rc_shape Rc_words Rc_mixer Rc_nearest Rc_bytes Rc_facts Rc_putRight Rc_lastOfChannel Rc_lastMaster Fo_cells Sd_shape Sd_words Sd_mixer Sd_bytes Sd_channelCounts Sd_masterCount Sd_craft Rw_cells Sh_pattern nP2 Rc_differing Rc_taken Fo_length Sd_dataCount Rw_length Sh_depth Sh_wordBytes Sh_e p2) s.heap.size = A at hD hE hY ⊢
  have hA : ∀ q : Nat, s.heap.size ≤ q → A q := fun q h => by rw [← hAe]; exact Or.inr h
  have hS : va_S A s.heap s.heap [] := va_S.rf
  refine z_entry (vs := [.ref qX, .int x1, .ref qP2]) hargs (Nat.le_of_ble_eq_true rfl) (fun ls hl => ?_)
  have hl : lv_has ls 4 [(0, .ref qX), (1, .int x1), (2, .ref qP2)] := hl
  show W p l e (RM 3 61) s m args below meth c s.heap [] 0 0 _ _
  refine z_qi (fun Q0 hQ => ?_)
  have F : CallFix p m c b_La_told 4 s args TB "DeepChannelLaw" := ⟨hx, hb, hml, hown, hts⟩
  unfold f_La_told at hm
  refine lv_aload_n hx hb d_La_told_0 rfl (lv_at hl 2 rfl) ?_
  refine lv_iconst (v := (0 : Int32)) hx hb d_La_told_1 (by decide) ?_
  refine lv_aload_n hx hb d_La_told_2 rfl (lv_at hl 0 rfl) ?_
  refine lv_iload_n hx hb d_La_told_3 rfl (lv_at hl 1 rfl) ?_
  obtain ⟨r1, hu, hm⟩ := bd_el hm
  replace hm := nm_1 hm
  refine z_cVi (wc := w_DC_told cI cJ qX qRc qFo qSd qRw qSh X_words X_mixer X_coder Rc_shape Rc_words Rc_mixer Rc_nearest Rc_bytes Rc_facts Rc_putRight Rc_lastOfChannel Rc_lastMaster Fo_cells Sd_shape Sd_words Sd_mixer Sd_bytes Sd_channelCounts Sd_masterCount Sd_craft Rw_cells Sh_pattern Rc_differing Rc_taken Fo_length Sd_dataCount Rw_length Sh_depth Sh_wordBytes Sh_e) (wc' := w_DC_told cI cJ qX qRc qFo qSd qRw qSh X_words X_mixer X_coder Rc_shape Rc_words Rc_mixer Rc_nearest Rc_bytes Rc_facts Rc_putRight Rc_lastOfChannel Rc_lastMaster Fo_cells Sd_shape Sd_words Sd_mixer Sd_bytes Sd_channelCounts Sd_masterCount Sd_craft Rw_cells Sh_pattern Rc_differing Rc_taken Fo_length Sd_dataCount Rw_length Sh_depth Sh_wordBytes Sh_e) (wr := [(qP2, .inl (cJ, nP2, .inr (.inl p2)))]) (As := [.int x1]) (rest := [.int (0 : Int32), .ref qP2]) (c_DC_told l D cI cJ tt qX qRc qFo qSd qRw qSh X_words X_mixer X_coder Rc_shape Rc_words Rc_mixer Rc_nearest Rc_bytes Rc_facts Rc_putRight Rc_lastOfChannel Rc_lastMaster Fo_cells Sd_shape Sd_words Sd_mixer Sd_bytes Sd_channelCounts Sd_masterCount Sd_craft Rw_cells Sh_pattern _ Rc_differing Rc_taken Fo_length Sd_dataCount Rw_length Sh_depth Sh_wordBytes Sh_e x1 r1 hu) F ok_DC_told rfl k_513 hK hE hP hD hS hA [0, 1, 2, 3, 4, 5] [6] rfl rfl (by decide) (by decide) (by decide) 0 rfl rfl rfl ⟨rfl, rfl, Nat.le_of_ble_eq_true rfl, Nat.le_of_ble_eq_true rfl⟩ ⟨Nat.zero_le _, Nat.zero_le _⟩ rfl hl.1 rfl (Nat.le_of_ble_eq_true rfl) d_La_told_4 (fun H locs hP hD hS => ?_)
  have hP : va_P D classes (w_La_told cI cJ qX qRc qFo qSd qRw qSh qP2 X_words X_mixer X_coder Rc_shape Rc_words Rc_mixer Rc_nearest Rc_bytes Rc_facts Rc_putRight Rc_lastOfChannel Rc_lastMaster Fo_cells Sd_shape Sd_words Sd_mixer Sd_bytes Sd_channelCounts Sd_masterCount Sd_craft Rw_cells Sh_pattern nP2 Rc_differing Rc_taken Fo_length Sd_dataCount Rw_length Sh_depth Sh_wordBytes Sh_e p2) H := hP.sub [1, 2, 3, 4, 5, 6, 0] rfl
  have hD : va_D A (w_La_told cI cJ qX qRc qFo qSd qRw qSh qP2 X_words X_mixer X_coder Rc_shape Rc_words Rc_mixer Rc_nearest Rc_bytes Rc_facts Rc_putRight Rc_lastOfChannel Rc_lastMaster Fo_cells Sd_shape Sd_words Sd_mixer Sd_bytes Sd_channelCounts Sd_masterCount Sd_craft Rw_cells Sh_pattern nP2 Rc_differing Rc_taken Fo_length Sd_dataCount Rw_length Sh_depth Sh_wordBytes Sh_e p2) := hD.sub [1, 2, 3, 4, 5, 6, 0] (by decide) rfl
  refine lv_i2l (v := r1.toInt64) hx hb d_La_told_7 rfl ?_
  refine z_last hm hx hb hK hP hD hS 6 rfl d_La_told_8 (fun g3 hm H locs hP hD hS => ?_)
  have hP : va_P D classes (w_La_told cI cJ qX qRc qFo qSd qRw qSh qP2 X_words X_mixer X_coder Rc_shape Rc_words Rc_mixer Rc_nearest Rc_bytes Rc_facts Rc_putRight Rc_lastOfChannel Rc_lastMaster Fo_cells Sd_shape Sd_words Sd_mixer Sd_bytes Sd_channelCounts Sd_masterCount Sd_craft Rw_cells Sh_pattern nP2 Rc_differing Rc_taken Fo_length Sd_dataCount Rw_length Sh_depth Sh_wordBytes Sh_e g3) H := hP
  have hD : va_D A (w_La_told cI cJ qX qRc qFo qSd qRw qSh qP2 X_words X_mixer X_coder Rc_shape Rc_words Rc_mixer Rc_nearest Rc_bytes Rc_facts Rc_putRight Rc_lastOfChannel Rc_lastMaster Fo_cells Sd_shape Sd_words Sd_mixer Sd_bytes Sd_channelCounts Sd_masterCount Sd_craft Rw_cells Sh_pattern nP2 Rc_differing Rc_taken Fo_length Sd_dataCount Rw_length Sh_depth Sh_wordBytes Sh_e g3) := hD
  refine lv_goto (tgt := 15) hx hb d_La_told_9 (by decide) ?_
  refine lv_iconst (v := (0 : Int32)) hx hb d_La_told_15 (by decide) ?_
  cases hm
  exact z_qo hQ (z_ireti hr hx hb hlocks hK hP hD hS d_La_told_16)
set_option maxHeartbeats 4000000 in
set_option maxRecDepth 100000 in
theorem cw_La_told_1 (l : Launch) (hfl : l.flags = pinnedFlags ++ [noTraceFlag]) (D : va_G) (cI cJ : ClassId) (tt sa : Nat → Nat) (qX qRc qFo qSd qRw qSh qP2 : Nat) (X_words X_mixer X_coder Rc_shape Rc_words Rc_mixer Rc_nearest Rc_bytes Rc_facts Rc_putRight Rc_lastOfChannel Rc_lastMaster Fo_cells Sd_shape Sd_words Sd_mixer Sd_bytes Sd_channelCounts Sd_masterCount Sd_craft Rw_cells Sh_pattern : Value) (nP2 : Nat) (sz : Nat) (Rc_differing : Int32) (Rc_taken : Int32) (Fo_length : Int32) (Sd_dataCount : Int32) (Rw_length : Int32) (Sh_depth : Int32) (Sh_wordBytes : Int32) (Sh_e : Int32) (p2 : Nat → Int64) (x1 : Int32) (hm : g_DC_told x1 = some 1) : CWi l y_La_told b_La_told 4 (some .int) [(0, 9, 12, 13)] (RC 7 1 6 103) D cI cJ tt sa [.ref qX, .int x1, .ref qP2] (w_La_told cI cJ qX qRc qFo qSd qRw qSh qP2 X_words X_mixer X_coder Rc_shape Rc_words Rc_mixer Rc_nearest Rc_bytes Rc_facts Rc_putRight Rc_lastOfChannel Rc_lastMaster Fo_cells Sd_shape Sd_words Sd_mixer Sd_bytes Sd_channelCounts Sd_masterCount Sd_craft Rw_cells Sh_pattern nP2 Rc_differing Rc_taken Fo_length Sd_dataCount Rw_length Sh_depth Sh_wordBytes Sh_e p2) (w_La_told cI cJ qX qRc qFo qSd qRw qSh qP2 X_words X_mixer X_coder Rc_shape Rc_words Rc_mixer Rc_nearest Rc_bytes Rc_facts Rc_putRight Rc_lastOfChannel Rc_lastMaster Fo_cells Sd_shape Sd_words Sd_mixer Sd_bytes Sd_channelCounts Sd_masterCount Sd_craft Rw_cells Sh_pattern nP2 Rc_differing Rc_taken Fo_length Sd_dataCount Rw_length Sh_depth Sh_wordBytes Sh_e p2) sz 1 1 6 := by
  refine va_MetW (cc := b_La_told) (maxL := 4) (ret := (some .int)) (hh := [(0, 9, 12, 13)]) (by decide) rfl ?_
  intro p e s m args below meth c s₁ B hml hv
  obtain ⟨hargs, ⟨⟨hsz, hP, hK, hD0, hE⟩, hY⟩, hN1, hN2⟩ := hv
  have hx := B.exec
  have hb := B.bytes
  have hr := B.returns
  have hall := atoms_spec (ws := WW y_La_told b_La_told 4 (some .int) [(0, 9, 12, 13)]) B.pre
  have hts : ∀ w ∈ TB, w.before args s = true := fun w h => hall w (List.mem_cons_of_mem _ h)
  have htab := y_table B (hall _ List.mem_cons_self)
  have hown : s.vm.findClass "DeepChannelLaw" = some m.cls := findClass_of_methodNamed B.named
  have hlocks := B.notSynchronized
  subst hsz
  have hD := hD0.self (sz := s.heap.size)
  generalize hAe : va_A (w_La_told cI cJ qX qRc qFo qSd qRw qSh qP2 X_words X_mixer X_coder Rc_shape Rc_words Rc_mixer Rc_nearest Rc_bytes Rc_facts Rc_putRight Rc_lastOfChannel Rc_lastMaster Fo_cells Sd_shape Sd_words Sd_mixer Sd_bytes Sd_channelCounts Sd_masterCount Sd_craft Rw_cells Sh_pattern nP2 Rc_differing Rc_taken Fo_length Sd_dataCount Rw_length Sh_depth Sh_wordBytes Sh_e p2) s.heap.size = A at hD hE hY ⊢
  have hA : ∀ q : Nat, s.heap.size ≤ q → A q := fun q h => by rw [← hAe]; exact Or.inr h
  have hS : va_S A s.heap s.heap [] := va_S.rf
  refine z_entry (vs := [.ref qX, .int x1, .ref qP2]) hargs (Nat.le_of_ble_eq_true rfl) (fun ls hl => ?_)
  have hl : lv_has ls 4 [(0, .ref qX), (1, .int x1), (2, .ref qP2)] := hl
  show W p l e (RC 7 1 6 103) s m args below meth c s.heap [] 0 0 _ _
  refine z_qi (fun Q0 hQ => ?_)
  have F : CallFix p m c b_La_told 4 s args TB "DeepChannelLaw" := ⟨hx, hb, hml, hown, hts⟩
  refine lv_aload_n hx hb d_La_told_0 rfl (lv_at hl 2 rfl) ?_
  refine lv_iconst (v := (0 : Int32)) hx hb d_La_told_1 (by decide) ?_
  refine lv_aload_n hx hb d_La_told_2 rfl (lv_at hl 0 rfl) ?_
  refine lv_iload_n hx hb d_La_told_3 rfl (lv_at hl 1 rfl) ?_
  refine z_cT (wc := w_DC_told cI cJ qX qRc qFo qSd qRw qSh X_words X_mixer X_coder Rc_shape Rc_words Rc_mixer Rc_nearest Rc_bytes Rc_facts Rc_putRight Rc_lastOfChannel Rc_lastMaster Fo_cells Sd_shape Sd_words Sd_mixer Sd_bytes Sd_channelCounts Sd_masterCount Sd_craft Rw_cells Sh_pattern Rc_differing Rc_taken Fo_length Sd_dataCount Rw_length Sh_depth Sh_wordBytes Sh_e) (As := [.int x1]) (rest := [.int (0 : Int32), .ref qP2]) (hpc := 12) (t_DC_told_1 l hfl D cI cJ tt sa qX qRc qFo qSd qRw qSh X_words X_mixer X_coder Rc_shape Rc_words Rc_mixer Rc_nearest Rc_bytes Rc_facts Rc_putRight Rc_lastOfChannel Rc_lastMaster Fo_cells Sd_shape Sd_words Sd_mixer Sd_bytes Sd_channelCounts Sd_masterCount Sd_craft Rw_cells Sh_pattern _ Rc_differing Rc_taken Fo_length Sd_dataCount Rw_length Sh_depth Sh_wordBytes Sh_e x1 hm) F ok_DC_told k_513 hK hE hY hP hD hS hA [0, 1, 2, 3, 4, 5] rfl (by decide) 0 rfl rfl rfl ⟨rfl, rfl, Nat.le_of_ble_eq_true rfl, Nat.le_of_ble_eq_true rfl⟩ ⟨Nat.le_of_ble_eq_true rfl, Nat.le_of_ble_eq_true rfl⟩ rfl hl.1 rfl (Nat.le_of_ble_eq_true rfl) d_La_told_4 (fun T' x ce XX h1 h2 h3 => y_catch1 XX hown (hts _ k_396) (by decide) htab ⟨Nat.le_of_ble_eq_true rfl, Nat.le_of_ble_eq_true rfl⟩ (va_Nw.use rfl (hY.2.2.1 _ (List.mem_of_getElem? (i := 3) rfl))) rfl h1 h2 h3) (fun qz H hP hS => ?_)
  refine lv_astore_n (lv' := [(3, .ref qz), (0, .ref qX), (1, .int x1), (2, .ref qP2)]) hx hb d_La_told_12 rfl hl (by decide) rfl (fun ls hl => ?_)
  refine lv_iconst (v := (1 : Int32)) hx hb d_La_told_13 (by decide) ?_
  exact z_qo hQ (z_ireti hr hx hb hlocks hK hP hD hS d_La_told_14)
-- DeepChannelLaw.data(LDeepChannel;IJ[J)I
abbrev b_La_data : ByteArray := method_6_code
abbrev y_La_data : MethodName := ⟨"DeepChannelLaw", "data", "(LDeepChannel;IJ[J)I"⟩
theorem d_La_data_0 : decode b_La_data 0 = .ok (.aload 4, 2) := by decide +kernel
theorem d_La_data_2 : decode b_La_data 2 = .ok (.iconst 0, 1) := by decide +kernel
theorem d_La_data_3 : decode b_La_data 3 = .ok (.aload_n 0, 1) := by decide +kernel
theorem d_La_data_4 : decode b_La_data 4 = .ok (.iload_n 1, 1) := by decide +kernel
theorem d_La_data_5 : decode b_La_data 5 = .ok (.lload_n 2, 1) := by decide +kernel
theorem d_La_data_6 : decode b_La_data 6 = .ok (.invokevirtual 22, 3) := by decide +kernel
theorem d_La_data_9 : decode b_La_data 9 = .ok (.i2l, 1) := by decide +kernel
theorem d_La_data_10 : decode b_La_data 10 = .ok (.lastore, 1) := by decide +kernel
theorem d_La_data_11 : decode b_La_data 11 = .ok (.goto 7, 3) := by decide +kernel
theorem d_La_data_14 : decode b_La_data 14 = .ok (.astore 5, 2) := by decide +kernel
theorem d_La_data_16 : decode b_La_data 16 = .ok (.iconst 1, 1) := by decide +kernel
theorem d_La_data_17 : decode b_La_data 17 = .ok (.ireturn, 1) := by decide +kernel
theorem d_La_data_18 : decode b_La_data 18 = .ok (.iconst 0, 1) := by decide +kernel
theorem d_La_data_19 : decode b_La_data 19 = .ok (.ireturn, 1) := by decide +kernel
abbrev w_La_data (cI cJ : ClassId) (qX qSd qSh qSd_bytes qP4 : Nat) (X_shape X_words X_mixer X_row X_coder X_receiver Sd_words Sd_mixer Sd_channelCounts Sd_masterCount Sd_craft Sh_pattern : Value) (nP4 : Nat) (Sd_dataCount : Int32) (Sh_depth : Int32) (Sh_wordBytes : Int32) (Sh_e : Int32) (Sd_bytes : Nat → Int32) (p4 : Nat → Int64) : va_W := [(qX, .inr (10, [X_shape, X_words, X_mixer, X_row, X_coder, .ref qSd, X_receiver])), (qSd, .inr (7, [.ref qSh, Sd_words, Sd_mixer, .ref qSd_bytes, Sd_channelCounts, Sd_masterCount, Sd_craft, .int Sd_dataCount])), (qSh, .inr (8, [.int Sh_depth, .int Sh_wordBytes, .int Sh_e, Sh_pattern])), (qSd_bytes, .inl (cI, 250, .inl Sd_bytes)), (qP4, .inl (cJ, nP4, .inr (.inl p4)))]
def f_La_data (Sd_dataCount : Int32) (Sh_depth : Int32) (Sh_wordBytes : Int32) (Sh_e : Int32) (Sd_bytes : Nat → Int32) (p4 : Nat → Int64) (nP4 : Nat) (x1 : Int32) (x2 : Int64) : Option (Int32 × Int32 × (Nat → Int32) × (Nat → Int64)) :=
  bd (f_DC_data Sd_dataCount Sh_depth Sh_wordBytes Sh_e Sd_bytes x1 x2) fun u4 =>
  nm u4.1 fun r1 =>
  nm u4.2.1 fun v2 =>
  nm u4.2.2 fun g3 =>
  wrL p4 nP4 (0 : Int32) r1.toInt64 fun g5 =>
  some ((0 : Int32), v2, g3, g5)
set_option maxHeartbeats 4000000 in
set_option maxRecDepth 100000 in
theorem c_La_data (l : Launch) (D : va_G) (cI cJ : ClassId) (tt sa : Nat → Nat) (qX qSd qSh qSd_bytes qP4 : Nat) (X_shape X_words X_mixer X_row X_coder X_receiver Sd_words Sd_mixer Sd_channelCounts Sd_masterCount Sd_craft Sh_pattern : Value) (nP4 : Nat) (sz : Nat) (Sd_dataCount : Int32) (Sh_depth : Int32) (Sh_wordBytes : Int32) (Sh_e : Int32) (Sd_bytes : Nat → Int32) (p4 : Nat → Int64) (x1 : Int32) (x2 : Int64) (rr : Int32) (Sd_dataCount' : Int32) (Sd_bytes' : Nat → Int32) (p4' : Nat → Int64) (hm : f_La_data Sd_dataCount Sh_depth Sh_wordBytes Sh_e Sd_bytes p4 nP4 x1 x2 = some (rr, Sd_dataCount', Sd_bytes', p4')) : CWi l y_La_data b_La_data 6 (some .int) [(0, 11, 14, 13)] (RM 4 87) D cI cJ tt sa [.ref qX, .int x1, .long x2, .ref qP4] (w_La_data cI cJ qX qSd qSh qSd_bytes qP4 X_shape X_words X_mixer X_row X_coder X_receiver Sd_words Sd_mixer Sd_channelCounts Sd_masterCount Sd_craft Sh_pattern nP4 Sd_dataCount Sh_depth Sh_wordBytes Sh_e Sd_bytes p4) (w_La_data cI cJ qX qSd qSh qSd_bytes qP4 X_shape X_words X_mixer X_row X_coder X_receiver Sd_words Sd_mixer Sd_channelCounts Sd_masterCount Sd_craft Sh_pattern nP4 Sd_dataCount' Sh_depth Sh_wordBytes Sh_e Sd_bytes' p4') sz rr 0 0 := by
  refine va_MetW (cc := b_La_data) (maxL := 6) (ret := (some .int)) (hh := [(0, 11, 14, 13)]) (by decide) rfl ?_
  intro p e s m args below meth c s₁ B hml hv
  obtain ⟨hargs, ⟨⟨hsz, hP, hK, hD0, hE⟩, hY⟩, hN1, hN2⟩ := hv
  have hx := B.exec
  have hb := B.bytes
  have hr := B.returns
  have hall := atoms_spec (ws := WW y_La_data b_La_data 6 (some .int) [(0, 11, 14, 13)]) B.pre
  have hts : ∀ w ∈ TB, w.before args s = true := fun w h => hall w (List.mem_cons_of_mem _ h)
  have htab := y_table B (hall _ List.mem_cons_self)
  have hown : s.vm.findClass "DeepChannelLaw" = some m.cls := findClass_of_methodNamed B.named
  have hlocks := B.notSynchronized
  subst hsz
  have hD := hD0.self (sz := s.heap.size)
  generalize hAe : va_A (w_La_data cI cJ qX qSd qSh qSd_bytes qP4 X_shape X_words X_mixer X_row X_coder X_receiver Sd_words Sd_mixer Sd_channelCounts Sd_masterCount Sd_craft Sh_pattern nP4 Sd_dataCount Sh_depth Sh_wordBytes Sh_e Sd_bytes p4) s.heap.size = A at hD hE hY ⊢
  have hA : ∀ q : Nat, s.heap.size ≤ q → A q := fun q h => by rw [← hAe]; exact Or.inr h
  have hS : va_S A s.heap s.heap [] := va_S.rf
  refine z_entry (vs := [.ref qX, .int x1, .long x2, .ref qP4]) hargs (Nat.le_of_ble_eq_true rfl) (fun ls hl => ?_)
  have hl : lv_has ls 6 [(0, .ref qX), (1, .int x1), (2, .long x2), (4, .ref qP4)] := hl
  show W p l e (RM 4 87) s m args below meth c s.heap [] 0 0 _ _
  refine z_qi (fun Q0 hQ => ?_)
  have F : CallFix p m c b_La_data 6 s args TB "DeepChannelLaw" := ⟨hx, hb, hml, hown, hts⟩
  unfold f_La_data at hm
  refine lv_aload hx hb d_La_data_0 (lv_at hl 3 rfl) ?_
  refine lv_iconst (v := (0 : Int32)) hx hb d_La_data_2 (by decide) ?_
  refine lv_aload_n hx hb d_La_data_3 rfl (lv_at hl 0 rfl) ?_
  refine lv_iload_n hx hb d_La_data_4 rfl (lv_at hl 1 rfl) ?_
  refine lv_lload_n hx hb d_La_data_5 rfl (lv_at hl 2 rfl) ?_
  obtain ⟨⟨r1, v2, g3⟩, hu, hm⟩ := bd_el hm
  replace hm := nm_3 hm
  refine z_cVi (wc := w_DC_data cI cJ qX qSd qSh qSd_bytes X_shape X_words X_mixer X_row X_coder X_receiver Sd_words Sd_mixer Sd_channelCounts Sd_masterCount Sd_craft Sh_pattern Sd_dataCount Sh_depth Sh_wordBytes Sh_e Sd_bytes) (wc' := w_DC_data cI cJ qX qSd qSh qSd_bytes X_shape X_words X_mixer X_row X_coder X_receiver Sd_words Sd_mixer Sd_channelCounts Sd_masterCount Sd_craft Sh_pattern v2 Sh_depth Sh_wordBytes Sh_e g3) (wr := [(qP4, .inl (cJ, nP4, .inr (.inl p4)))]) (As := [.int x1, .long x2]) (rest := [.int (0 : Int32), .ref qP4]) (c_DC_data l D cI cJ tt qX qSd qSh qSd_bytes X_shape X_words X_mixer X_row X_coder X_receiver Sd_words Sd_mixer Sd_channelCounts Sd_masterCount Sd_craft Sh_pattern _ Sd_dataCount Sh_depth Sh_wordBytes Sh_e Sd_bytes x1 x2 r1 v2 g3 hu) F ok_DC_data rfl k_555 hK hE hP hD hS hA [0, 1, 2, 3] [4] rfl rfl (by decide) (by decide) (by decide) 0 rfl rfl rfl ⟨rfl, rfl, Nat.le_of_ble_eq_true rfl, Nat.le_of_ble_eq_true rfl⟩ ⟨Nat.zero_le _, Nat.zero_le _⟩ rfl hl.1 rfl (Nat.le_of_ble_eq_true rfl) d_La_data_6 (fun H locs hP hD hS => ?_)
  have hP : va_P D classes (w_La_data cI cJ qX qSd qSh qSd_bytes qP4 X_shape X_words X_mixer X_row X_coder X_receiver Sd_words Sd_mixer Sd_channelCounts Sd_masterCount Sd_craft Sh_pattern nP4 v2 Sh_depth Sh_wordBytes Sh_e g3 p4) H := hP.sub [1, 2, 3, 4, 0] rfl
  have hD : va_D A (w_La_data cI cJ qX qSd qSh qSd_bytes qP4 X_shape X_words X_mixer X_row X_coder X_receiver Sd_words Sd_mixer Sd_channelCounts Sd_masterCount Sd_craft Sh_pattern nP4 v2 Sh_depth Sh_wordBytes Sh_e g3 p4) := hD.sub [1, 2, 3, 4, 0] (by decide) rfl
  refine lv_i2l (v := r1.toInt64) hx hb d_La_data_9 rfl ?_
  refine z_last hm hx hb hK hP hD hS 4 rfl d_La_data_10 (fun g5 hm H locs hP hD hS => ?_)
  have hP : va_P D classes (w_La_data cI cJ qX qSd qSh qSd_bytes qP4 X_shape X_words X_mixer X_row X_coder X_receiver Sd_words Sd_mixer Sd_channelCounts Sd_masterCount Sd_craft Sh_pattern nP4 v2 Sh_depth Sh_wordBytes Sh_e g3 g5) H := hP
  have hD : va_D A (w_La_data cI cJ qX qSd qSh qSd_bytes qP4 X_shape X_words X_mixer X_row X_coder X_receiver Sd_words Sd_mixer Sd_channelCounts Sd_masterCount Sd_craft Sh_pattern nP4 v2 Sh_depth Sh_wordBytes Sh_e g3 g5) := hD
  refine lv_goto (tgt := 18) hx hb d_La_data_11 (by decide) ?_
  refine lv_iconst (v := (0 : Int32)) hx hb d_La_data_18 (by decide) ?_
  cases hm
  exact z_qo hQ (z_ireti hr hx hb hlocks hK hP hD hS d_La_data_19)
set_option maxHeartbeats 4000000 in
set_option maxRecDepth 100000 in
theorem cw_La_data_1 (l : Launch) (hfl : l.flags = pinnedFlags ++ [noTraceFlag]) (D : va_G) (cI cJ : ClassId) (tt sa : Nat → Nat) (qX qSd qSh qSd_bytes qP4 : Nat) (X_shape X_words X_mixer X_row X_coder X_receiver Sd_words Sd_mixer Sd_channelCounts Sd_masterCount Sd_craft Sh_pattern : Value) (nP4 : Nat) (sz : Nat) (Sd_dataCount : Int32) (Sh_depth : Int32) (Sh_wordBytes : Int32) (Sh_e : Int32) (Sd_bytes : Nat → Int32) (p4 : Nat → Int64) (x1 : Int32) (x2 : Int64) (hm : g_DC_data x1 x2 = some 1) : CWi l y_La_data b_La_data 6 (some .int) [(0, 11, 14, 13)] (RC 7 1 6 105) D cI cJ tt sa [.ref qX, .int x1, .long x2, .ref qP4] (w_La_data cI cJ qX qSd qSh qSd_bytes qP4 X_shape X_words X_mixer X_row X_coder X_receiver Sd_words Sd_mixer Sd_channelCounts Sd_masterCount Sd_craft Sh_pattern nP4 Sd_dataCount Sh_depth Sh_wordBytes Sh_e Sd_bytes p4) (w_La_data cI cJ qX qSd qSh qSd_bytes qP4 X_shape X_words X_mixer X_row X_coder X_receiver Sd_words Sd_mixer Sd_channelCounts Sd_masterCount Sd_craft Sh_pattern nP4 Sd_dataCount Sh_depth Sh_wordBytes Sh_e Sd_bytes p4) sz 1 1 6 := by
  refine va_MetW (cc := b_La_data) (maxL := 6) (ret := (some .int)) (hh := [(0, 11, 14, 13)]) (by decide) rfl ?_
  intro p e s m args below meth c s₁ B hml hv
  obtain ⟨hargs, ⟨⟨hsz, hP, hK, hD0, hE⟩, hY⟩, hN1, hN2⟩ := hv
  have hx := B.exec
  have hb := B.bytes
  have hr := B.returns
  have hall := atoms_spec (ws := WW y_La_data b_La_data 6 (some .int) [(0, 11, 14, 13)]) B.pre
  have hts : ∀ w ∈ TB, w.before args s = true := fun w h => hall w (List.mem_cons_of_mem _ h)
  have htab := y_table B (hall _ List.mem_cons_self)
  have hown : s.vm.findClass "DeepChannelLaw" = some m.cls := findClass_of_methodNamed B.named
  have hlocks := B.notSynchronized
  subst hsz
  have hD := hD0.self (sz := s.heap.size)
  generalize hAe : va_A (w_La_data cI cJ qX qSd qSh qSd_bytes qP4 X_shape X_words X_mixer X_row X_coder X_receiver Sd_words Sd_mixer Sd_channelCounts Sd_masterCount Sd_craft Sh_pattern nP4 Sd_dataCount Sh_depth Sh_wordBytes Sh_e Sd_bytes p4) s.heap.size = A at hD hE hY ⊢
  have hA : ∀ q : Nat, s.heap.size ≤ q → A q := fun q h => by rw [← hAe]; exact Or.inr h
  have hS : va_S A s.heap s.heap [] := va_S.rf
  refine z_entry (vs := [.ref qX, .int x1, .long x2, .ref qP4]) hargs (Nat.le_of_ble_eq_true rfl) (fun ls hl => ?_)
  have hl : lv_has ls 6 [(0, .ref qX), (1, .int x1), (2, .long x2), (4, .ref qP4)] := hl
  show W p l e (RC 7 1 6 105) s m args below meth c s.heap [] 0 0 _ _
  refine z_qi (fun Q0 hQ => ?_)
  have F : CallFix p m c b_La_data 6 s args TB "DeepChannelLaw" := ⟨hx, hb, hml, hown, hts⟩
  refine lv_aload hx hb d_La_data_0 (lv_at hl 3 rfl) ?_
  refine lv_iconst (v := (0 : Int32)) hx hb d_La_data_2 (by decide) ?_
  refine lv_aload_n hx hb d_La_data_3 rfl (lv_at hl 0 rfl) ?_
  refine lv_iload_n hx hb d_La_data_4 rfl (lv_at hl 1 rfl) ?_
  refine lv_lload_n hx hb d_La_data_5 rfl (lv_at hl 2 rfl) ?_
  refine z_cT (wc := w_DC_data cI cJ qX qSd qSh qSd_bytes X_shape X_words X_mixer X_row X_coder X_receiver Sd_words Sd_mixer Sd_channelCounts Sd_masterCount Sd_craft Sh_pattern Sd_dataCount Sh_depth Sh_wordBytes Sh_e Sd_bytes) (As := [.int x1, .long x2]) (rest := [.int (0 : Int32), .ref qP4]) (hpc := 14) (t_DC_data_1 l hfl D cI cJ tt sa qX qSd qSh qSd_bytes X_shape X_words X_mixer X_row X_coder X_receiver Sd_words Sd_mixer Sd_channelCounts Sd_masterCount Sd_craft Sh_pattern _ Sd_dataCount Sh_depth Sh_wordBytes Sh_e Sd_bytes x1 x2 hm) F ok_DC_data k_555 hK hE hY hP hD hS hA [0, 1, 2, 3] rfl (by decide) 0 rfl rfl rfl ⟨rfl, rfl, Nat.le_of_ble_eq_true rfl, Nat.le_of_ble_eq_true rfl⟩ ⟨Nat.le_of_ble_eq_true rfl, Nat.le_of_ble_eq_true rfl⟩ rfl hl.1 rfl (Nat.le_of_ble_eq_true rfl) d_La_data_6 (fun T' x ce XX h1 h2 h3 => y_catch1 XX hown (hts _ k_396) (by decide) htab ⟨Nat.le_of_ble_eq_true rfl, Nat.le_of_ble_eq_true rfl⟩ (va_Nw.use rfl (hY.2.2.1 _ (List.mem_of_getElem? (i := 3) rfl))) rfl h1 h2 h3) (fun qz H hP hS => ?_)
  refine lv_astore (lv' := [(5, .ref qz), (0, .ref qX), (1, .int x1), (2, .long x2), (4, .ref qP4)]) hx hb d_La_data_14 hl (by decide) rfl (fun ls hl => ?_)
  refine lv_iconst (v := (1 : Int32)) hx hb d_La_data_16 (by decide) ?_
  exact z_qo hQ (z_ireti hr hx hb hlocks hK hP hD hS d_La_data_17)
-- DeepChannelLaw.send(LDeepChannel;I[J)I
abbrev b_La_send : ByteArray := method_7_code
abbrev y_La_send : MethodName := ⟨"DeepChannelLaw", "send", "(LDeepChannel;I[J)I"⟩
theorem d_La_send_0 : decode b_La_send 0 = .ok (.aload_n 2, 1) := by decide +kernel
theorem d_La_send_1 : decode b_La_send 1 = .ok (.iconst 0, 1) := by decide +kernel
theorem d_La_send_2 : decode b_La_send 2 = .ok (.aload_n 0, 1) := by decide +kernel
theorem d_La_send_3 : decode b_La_send 3 = .ok (.iload_n 1, 1) := by decide +kernel
theorem d_La_send_4 : decode b_La_send 4 = .ok (.invokevirtual 26, 3) := by decide +kernel
theorem d_La_send_7 : decode b_La_send 7 = .ok (.i2l, 1) := by decide +kernel
theorem d_La_send_8 : decode b_La_send 8 = .ok (.lastore, 1) := by decide +kernel
theorem d_La_send_9 : decode b_La_send 9 = .ok (.goto 9, 3) := by decide +kernel
theorem d_La_send_12 : decode b_La_send 12 = .ok (.astore_n 3, 1) := by decide +kernel
theorem d_La_send_13 : decode b_La_send 13 = .ok (.iconst 1, 1) := by decide +kernel
theorem d_La_send_14 : decode b_La_send 14 = .ok (.ireturn, 1) := by decide +kernel
theorem d_La_send_15 : decode b_La_send 15 = .ok (.astore_n 3, 1) := by decide +kernel
theorem d_La_send_16 : decode b_La_send 16 = .ok (.iconst 2, 1) := by decide +kernel
theorem d_La_send_17 : decode b_La_send 17 = .ok (.ireturn, 1) := by decide +kernel
theorem d_La_send_18 : decode b_La_send 18 = .ok (.iconst 0, 1) := by decide +kernel
theorem d_La_send_19 : decode b_La_send 19 = .ok (.ireturn, 1) := by decide +kernel
abbrev w_La_send (cI cJ : ClassId) (qX qSd qSh qCd qRw qSd_bytes qSd_channelCounts qWd qWd_remainder qFd qFd_otherForms qFd_elements qWd_generator qFd_logs qFd_powers qRw_cells qMx qMx_bytes qP2 : Nat) (X_words X_mixer X_receiver Wd_coefficients Wd_syndromes Wd_locator : Value) (nP2 : Nat) (Sd_masterCount : Int32) (Sd_craft : Int32) (Sd_dataCount : Int32) (Sh_depth : Int32) (Sh_wordBytes : Int32) (Sh_e : Int32) (Sh_pattern : Int32) (Cd_register : Int32) (Cd_put : Int32) (Rw_length : Int32) (Sd_bytes : Nat → Int32) (Sd_channelCounts : Nat → Int32) (Wd_remainder : Nat → Int32) (Fd_otherForms : Nat → Int32) (Fd_elements : Nat → Int32) (Wd_generator : Nat → Int32) (Fd_logs : Nat → Int32) (Fd_powers : Nat → Int32) (Rw_cells : Nat → Int64) (Mx_bytes : Nat → Int32) (p2 : Nat → Int64) : va_W := [(qX, .inr (10, [.ref qSh, X_words, X_mixer, .ref qRw, .ref qCd, .ref qSd, X_receiver])), (qSd, .inr (7, [.ref qSh, .ref qWd, .ref qMx, .ref qSd_bytes, .ref qSd_channelCounts, .int Sd_masterCount, .int Sd_craft, .int Sd_dataCount])), (qSh, .inr (8, [.int Sh_depth, .int Sh_wordBytes, .int Sh_e, .int Sh_pattern])), (qCd, .inr (1, [.ref qSh, .ref qRw, .int Cd_register, .int Cd_put])), (qRw, .inr (0, [.ref qRw_cells, .int Rw_length])), (qSd_bytes, .inl (cI, 250, .inl Sd_bytes)), (qSd_channelCounts, .inl (cI, 8, .inl Sd_channelCounts)), (qWd, .inr (9, [.ref qSh, .ref qFd, .ref qWd_generator, .ref qWd_remainder, Wd_coefficients, Wd_syndromes, Wd_locator])), (qWd_remainder, .inl (cI, 32, .inl Wd_remainder)), (qFd, .inr (2, [.ref qFd_powers, .ref qFd_logs, .ref qFd_otherForms, .ref qFd_elements])), (qFd_otherForms, .inl (cI, 256, .inl Fd_otherForms)), (qFd_elements, .inl (cI, 256, .inl Fd_elements)), (qWd_generator, .inl (cI, 33, .inl Wd_generator)), (qFd_logs, .inl (cI, 256, .inl Fd_logs)), (qFd_powers, .inl (cI, 255, .inl Fd_powers)), (qRw_cells, .inl (cJ, 64, .inr (.inl Rw_cells))), (qMx, .inr (4, [.ref qMx_bytes])), (qMx_bytes, .inl (cI, 250, .inl Mx_bytes)), (qP2, .inl (cJ, nP2, .inr (.inl p2)))]
def f_La_send (Sd_masterCount : Int32) (Sd_craft : Int32) (Sd_dataCount : Int32) (Sh_depth : Int32) (Sh_wordBytes : Int32) (Sh_e : Int32) (Sh_pattern : Int32) (Cd_register : Int32) (Cd_put : Int32) (Rw_length : Int32) (Sd_bytes : Nat → Int32) (Sd_channelCounts : Nat → Int32) (Wd_remainder : Nat → Int32) (Fd_otherForms : Nat → Int32) (Fd_elements : Nat → Int32) (Wd_generator : Nat → Int32) (Fd_logs : Nat → Int32) (Fd_powers : Nat → Int32) (Rw_cells : Nat → Int64) (Mx_bytes : Nat → Int32) (p2 : Nat → Int64) (nP2 : Nat) (x1 : Int32) : Option (Int32 × Int32 × Int32 × Int32 × Int32 × Int32 × (Nat → Int32) × (Nat → Int32) × (Nat → Int32) × (Nat → Int64) × (Nat → Int64)) :=
  bd (f_DC_send Sd_masterCount Sd_craft Sd_dataCount Sh_depth Sh_wordBytes Sh_e Sh_pattern Cd_register Cd_put Rw_length Sd_bytes Sd_channelCounts Wd_remainder Fd_otherForms Fd_elements Wd_generator Fd_logs Fd_powers Rw_cells Mx_bytes x1) fun u11 =>
  nm u11.1 fun r1 =>
  nm u11.2.1 fun v2 =>
  nm u11.2.2.1 fun v3 =>
  nm u11.2.2.2.1 fun v4 =>
  nm u11.2.2.2.2.1 fun v5 =>
  nm u11.2.2.2.2.2.1 fun v6 =>
  nm u11.2.2.2.2.2.2.1 fun g7 =>
  nm u11.2.2.2.2.2.2.2.1 fun g8 =>
  nm u11.2.2.2.2.2.2.2.2.1 fun g9 =>
  nm u11.2.2.2.2.2.2.2.2.2 fun g10 =>
  wrL p2 nP2 (0 : Int32) r1.toInt64 fun g12 =>
  some ((0 : Int32), v2, v3, v4, v5, v6, g7, g8, g9, g10, g12)
set_option maxHeartbeats 4000000 in
set_option maxRecDepth 100000 in
theorem c_La_send (l : Launch) (D : va_G) (cI cJ : ClassId) (tt sa : Nat → Nat) (qX qSd qSh qCd qRw qSd_bytes qSd_channelCounts qWd qWd_remainder qFd qFd_otherForms qFd_elements qWd_generator qFd_logs qFd_powers qRw_cells qMx qMx_bytes qP2 : Nat) (X_words X_mixer X_receiver Wd_coefficients Wd_syndromes Wd_locator : Value) (nP2 : Nat) (sz : Nat) (Sd_masterCount : Int32) (Sd_craft : Int32) (Sd_dataCount : Int32) (Sh_depth : Int32) (Sh_wordBytes : Int32) (Sh_e : Int32) (Sh_pattern : Int32) (Cd_register : Int32) (Cd_put : Int32) (Rw_length : Int32) (Sd_bytes : Nat → Int32) (Sd_channelCounts : Nat → Int32) (Wd_remainder : Nat → Int32) (Fd_otherForms : Nat → Int32) (Fd_elements : Nat → Int32) (Wd_generator : Nat → Int32) (Fd_logs : Nat → Int32) (Fd_powers : Nat → Int32) (Rw_cells : Nat → Int64) (Mx_bytes : Nat → Int32) (p2 : Nat → Int64) (x1 : Int32) (rr : Int32) (Sd_masterCount' : Int32) (Sd_dataCount' : Int32) (Cd_register' : Int32) (Cd_put' : Int32) (Rw_length' : Int32) (Sd_bytes' : Nat → Int32) (Sd_channelCounts' : Nat → Int32) (Wd_remainder' : Nat → Int32) (Rw_cells' : Nat → Int64) (p2' : Nat → Int64) (hm : f_La_send Sd_masterCount Sd_craft Sd_dataCount Sh_depth Sh_wordBytes Sh_e Sh_pattern Cd_register Cd_put Rw_length Sd_bytes Sd_channelCounts Wd_remainder Fd_otherForms Fd_elements Wd_generator Fd_logs Fd_powers Rw_cells Mx_bytes p2 nP2 x1 = some (rr, Sd_masterCount', Sd_dataCount', Cd_register', Cd_put', Rw_length', Sd_bytes', Sd_channelCounts', Wd_remainder', Rw_cells', p2')) : CWi l y_La_send b_La_send 4 (some .int) [(0, 9, 12, 13), (0, 9, 15, 29)] (RM 6 134) D cI cJ tt sa [.ref qX, .int x1, .ref qP2] (w_La_send cI cJ qX qSd qSh qCd qRw qSd_bytes qSd_channelCounts qWd qWd_remainder qFd qFd_otherForms qFd_elements qWd_generator qFd_logs qFd_powers qRw_cells qMx qMx_bytes qP2 X_words X_mixer X_receiver Wd_coefficients Wd_syndromes Wd_locator nP2 Sd_masterCount Sd_craft Sd_dataCount Sh_depth Sh_wordBytes Sh_e Sh_pattern Cd_register Cd_put Rw_length Sd_bytes Sd_channelCounts Wd_remainder Fd_otherForms Fd_elements Wd_generator Fd_logs Fd_powers Rw_cells Mx_bytes p2) (w_La_send cI cJ qX qSd qSh qCd qRw qSd_bytes qSd_channelCounts qWd qWd_remainder qFd qFd_otherForms qFd_elements qWd_generator qFd_logs qFd_powers qRw_cells qMx qMx_bytes qP2 X_words X_mixer X_receiver Wd_coefficients Wd_syndromes Wd_locator nP2 Sd_masterCount' Sd_craft Sd_dataCount' Sh_depth Sh_wordBytes Sh_e Sh_pattern Cd_register' Cd_put' Rw_length' Sd_bytes' Sd_channelCounts' Wd_remainder' Fd_otherForms Fd_elements Wd_generator Fd_logs Fd_powers Rw_cells' Mx_bytes p2') sz rr 0 0 := by
  refine va_MetW (cc := b_La_send) (maxL := 4) (ret := (some .int)) (hh := [(0, 9, 12, 13), (0, 9, 15, 29)]) (by decide) rfl ?_
  intro p e s m args below meth c s₁ B hml hv
  obtain ⟨hargs, ⟨⟨hsz, hP, hK, hD0, hE⟩, hY⟩, hN1, hN2⟩ := hv
  have hx := B.exec
  have hb := B.bytes
  have hr := B.returns
  have hall := atoms_spec (ws := WW y_La_send b_La_send 4 (some .int) [(0, 9, 12, 13), (0, 9, 15, 29)]) B.pre
  have hts : ∀ w ∈ TB, w.before args s = true := fun w h => hall w (List.mem_cons_of_mem _ h)
  have htab := y_table B (hall _ List.mem_cons_self)
  have hown : s.vm.findClass "DeepChannelLaw" = some m.cls := findClass_of_methodNamed B.named
  have hlocks := B.notSynchronized
  subst hsz
  have hD := hD0.self (sz := s.heap.size)
  generalize hAe : va_A (w_La_send cI cJ qX qSd qSh qCd qRw qSd_bytes qSd_channelCounts qWd qWd_remainder qFd qFd_otherForms qFd_elements qWd_generator qFd_logs qFd_powers qRw_cells qMx qMx_bytes qP2 X_words X_mixer X_receiver Wd_coefficients Wd_syndromes Wd_locator nP2 Sd_masterCount Sd_craft Sd_dataCount Sh_depth Sh_wordBytes Sh_e Sh_pattern Cd_register Cd_put Rw_length Sd_bytes Sd_channelCounts Wd_remainder Fd_otherForms Fd_elements Wd_generator Fd_logs Fd_powers Rw_cells Mx_bytes p2) s.heap.size = A at hD hE hY ⊢
  have hA : ∀ q : Nat, s.heap.size ≤ q → A q := fun q h => by rw [← hAe]; exact Or.inr h
  have hS : va_S A s.heap s.heap [] := va_S.rf
  refine z_entry (vs := [.ref qX, .int x1, .ref qP2]) hargs (Nat.le_of_ble_eq_true rfl) (fun ls hl => ?_)
  have hl : lv_has ls 4 [(0, .ref qX), (1, .int x1), (2, .ref qP2)] := hl
  show W p l e (RM 6 134) s m args below meth c s.heap [] 0 0 _ _
  refine z_qi (fun Q0 hQ => ?_)
  have F : CallFix p m c b_La_send 4 s args TB "DeepChannelLaw" := ⟨hx, hb, hml, hown, hts⟩
  unfold f_La_send at hm
  refine lv_aload_n hx hb d_La_send_0 rfl (lv_at hl 2 rfl) ?_
  refine lv_iconst (v := (0 : Int32)) hx hb d_La_send_1 (by decide) ?_
  refine lv_aload_n hx hb d_La_send_2 rfl (lv_at hl 0 rfl) ?_
  refine lv_iload_n hx hb d_La_send_3 rfl (lv_at hl 1 rfl) ?_
  obtain ⟨⟨r1, v2, v3, v4, v5, v6, g7, g8, g9, g10⟩, hu, hm⟩ := bd_el hm
  replace hm := nm_10 hm
  refine z_cVi (wc := w_DC_send cI cJ qX qSd qSh qCd qRw qSd_bytes qSd_channelCounts qWd qWd_remainder qFd qFd_otherForms qFd_elements qWd_generator qFd_logs qFd_powers qRw_cells qMx qMx_bytes X_words X_mixer X_receiver Wd_coefficients Wd_syndromes Wd_locator Sd_masterCount Sd_craft Sd_dataCount Sh_depth Sh_wordBytes Sh_e Sh_pattern Cd_register Cd_put Rw_length Sd_bytes Sd_channelCounts Wd_remainder Fd_otherForms Fd_elements Wd_generator Fd_logs Fd_powers Rw_cells Mx_bytes) (wc' := w_DC_send cI cJ qX qSd qSh qCd qRw qSd_bytes qSd_channelCounts qWd qWd_remainder qFd qFd_otherForms qFd_elements qWd_generator qFd_logs qFd_powers qRw_cells qMx qMx_bytes X_words X_mixer X_receiver Wd_coefficients Wd_syndromes Wd_locator v2 Sd_craft v3 Sh_depth Sh_wordBytes Sh_e Sh_pattern v4 v5 v6 g7 g8 g9 Fd_otherForms Fd_elements Wd_generator Fd_logs Fd_powers g10 Mx_bytes) (wr := [(qP2, .inl (cJ, nP2, .inr (.inl p2)))]) (As := [.int x1]) (rest := [.int (0 : Int32), .ref qP2]) (c_DC_send l D cI cJ tt qX qSd qSh qCd qRw qSd_bytes qSd_channelCounts qWd qWd_remainder qFd qFd_otherForms qFd_elements qWd_generator qFd_logs qFd_powers qRw_cells qMx qMx_bytes X_words X_mixer X_receiver Wd_coefficients Wd_syndromes Wd_locator _ Sd_masterCount Sd_craft Sd_dataCount Sh_depth Sh_wordBytes Sh_e Sh_pattern Cd_register Cd_put Rw_length Sd_bytes Sd_channelCounts Wd_remainder Fd_otherForms Fd_elements Wd_generator Fd_logs Fd_powers Rw_cells Mx_bytes x1 r1 v2 v3 v4 v5 v6 g7 g8 g9 g10 hu) F ok_DC_send rfl k_569 hK hE hP hD hS hA [0, 1, 2, 3, 4, 5, 6, 7, 8, 9, 10, 11, 12, 13, 14, 15, 16, 17] [18] rfl rfl (by decide) (by decide) (by decide) 0 rfl rfl rfl ⟨rfl, rfl, Nat.le_of_ble_eq_true rfl, Nat.le_of_ble_eq_true rfl⟩ ⟨Nat.zero_le _, Nat.zero_le _⟩ rfl hl.1 rfl (Nat.le_of_ble_eq_true rfl) d_La_send_4 (fun H locs hP hD hS => ?_)
  have hP : va_P D classes (w_La_send cI cJ qX qSd qSh qCd qRw qSd_bytes qSd_channelCounts qWd qWd_remainder qFd qFd_otherForms qFd_elements qWd_generator qFd_logs qFd_powers qRw_cells qMx qMx_bytes qP2 X_words X_mixer X_receiver Wd_coefficients Wd_syndromes Wd_locator nP2 v2 Sd_craft v3 Sh_depth Sh_wordBytes Sh_e Sh_pattern v4 v5 v6 g7 g8 g9 Fd_otherForms Fd_elements Wd_generator Fd_logs Fd_powers g10 Mx_bytes p2) H := hP.sub [1, 2, 3, 4, 5, 6, 7, 8, 9, 10, 11, 12, 13, 14, 15, 16, 17, 18, 0] rfl
  have hD : va_D A (w_La_send cI cJ qX qSd qSh qCd qRw qSd_bytes qSd_channelCounts qWd qWd_remainder qFd qFd_otherForms qFd_elements qWd_generator qFd_logs qFd_powers qRw_cells qMx qMx_bytes qP2 X_words X_mixer X_receiver Wd_coefficients Wd_syndromes Wd_locator nP2 v2 Sd_craft v3 Sh_depth Sh_wordBytes Sh_e Sh_pattern v4 v5 v6 g7 g8 g9 Fd_otherForms Fd_elements Wd_generator Fd_logs Fd_powers g10 Mx_bytes p2) := hD.sub [1, 2, 3, 4, 5, 6, 7, 8, 9, 10, 11, 12, 13, 14, 15, 16, 17, 18, 0] (by decide) rfl
  refine lv_i2l (v := r1.toInt64) hx hb d_La_send_7 rfl ?_
  refine z_last hm hx hb hK hP hD hS 18 rfl d_La_send_8 (fun g12 hm H locs hP hD hS => ?_)
  have hP : va_P D classes (w_La_send cI cJ qX qSd qSh qCd qRw qSd_bytes qSd_channelCounts qWd qWd_remainder qFd qFd_otherForms qFd_elements qWd_generator qFd_logs qFd_powers qRw_cells qMx qMx_bytes qP2 X_words X_mixer X_receiver Wd_coefficients Wd_syndromes Wd_locator nP2 v2 Sd_craft v3 Sh_depth Sh_wordBytes Sh_e Sh_pattern v4 v5 v6 g7 g8 g9 Fd_otherForms Fd_elements Wd_generator Fd_logs Fd_powers g10 Mx_bytes g12) H := hP
  have hD : va_D A (w_La_send cI cJ qX qSd qSh qCd qRw qSd_bytes qSd_channelCounts qWd qWd_remainder qFd qFd_otherForms qFd_elements qWd_generator qFd_logs qFd_powers qRw_cells qMx qMx_bytes qP2 X_words X_mixer X_receiver Wd_coefficients Wd_syndromes Wd_locator nP2 v2 Sd_craft v3 Sh_depth Sh_wordBytes Sh_e Sh_pattern v4 v5 v6 g7 g8 g9 Fd_otherForms Fd_elements Wd_generator Fd_logs Fd_powers g10 Mx_bytes g12) := hD
  refine lv_goto (tgt := 18) hx hb d_La_send_9 (by decide) ?_
  refine lv_iconst (v := (0 : Int32)) hx hb d_La_send_18 (by decide) ?_
  cases hm
  exact z_qo hQ (z_ireti hr hx hb hlocks hK hP hD hS d_La_send_19)
set_option maxHeartbeats 4000000 in
set_option maxRecDepth 100000 in
theorem cw_La_send_1 (l : Launch) (hfl : l.flags = pinnedFlags ++ [noTraceFlag]) (D : va_G) (cI cJ : ClassId) (tt sa : Nat → Nat) (qX qSd qSh qCd qRw qSd_bytes qSd_channelCounts qWd qWd_remainder qFd qFd_otherForms qFd_elements qWd_generator qFd_logs qFd_powers qRw_cells qMx qMx_bytes qP2 : Nat) (X_words X_mixer X_receiver Wd_coefficients Wd_syndromes Wd_locator : Value) (nP2 : Nat) (sz : Nat) (Sd_masterCount : Int32) (Sd_craft : Int32) (Sd_dataCount : Int32) (Sh_depth : Int32) (Sh_wordBytes : Int32) (Sh_e : Int32) (Sh_pattern : Int32) (Cd_register : Int32) (Cd_put : Int32) (Rw_length : Int32) (Sd_bytes : Nat → Int32) (Sd_channelCounts : Nat → Int32) (Wd_remainder : Nat → Int32) (Fd_otherForms : Nat → Int32) (Fd_elements : Nat → Int32) (Wd_generator : Nat → Int32) (Fd_logs : Nat → Int32) (Fd_powers : Nat → Int32) (Rw_cells : Nat → Int64) (Mx_bytes : Nat → Int32) (p2 : Nat → Int64) (x1 : Int32) (hm : g_DC_send Sd_dataCount Sh_depth Sh_wordBytes Sh_e x1 = some 1) : CWi l y_La_send b_La_send 4 (some .int) [(0, 9, 12, 13), (0, 9, 15, 29)] (RC 7 1 6 103) D cI cJ tt sa [.ref qX, .int x1, .ref qP2] (w_La_send cI cJ qX qSd qSh qCd qRw qSd_bytes qSd_channelCounts qWd qWd_remainder qFd qFd_otherForms qFd_elements qWd_generator qFd_logs qFd_powers qRw_cells qMx qMx_bytes qP2 X_words X_mixer X_receiver Wd_coefficients Wd_syndromes Wd_locator nP2 Sd_masterCount Sd_craft Sd_dataCount Sh_depth Sh_wordBytes Sh_e Sh_pattern Cd_register Cd_put Rw_length Sd_bytes Sd_channelCounts Wd_remainder Fd_otherForms Fd_elements Wd_generator Fd_logs Fd_powers Rw_cells Mx_bytes p2) (w_La_send cI cJ qX qSd qSh qCd qRw qSd_bytes qSd_channelCounts qWd qWd_remainder qFd qFd_otherForms qFd_elements qWd_generator qFd_logs qFd_powers qRw_cells qMx qMx_bytes qP2 X_words X_mixer X_receiver Wd_coefficients Wd_syndromes Wd_locator nP2 Sd_masterCount Sd_craft Sd_dataCount Sh_depth Sh_wordBytes Sh_e Sh_pattern Cd_register Cd_put Rw_length Sd_bytes Sd_channelCounts Wd_remainder Fd_otherForms Fd_elements Wd_generator Fd_logs Fd_powers Rw_cells Mx_bytes p2) sz 1 1 6 := by
  refine va_MetW (cc := b_La_send) (maxL := 4) (ret := (some .int)) (hh := [(0, 9, 12, 13), (0, 9, 15, 29)]) (by decide) rfl ?_
  intro p e s m args below meth c s₁ B hml hv
  obtain ⟨hargs, ⟨⟨hsz, hP, hK, hD0, hE⟩, hY⟩, hN1, hN2⟩ := hv
  have hx := B.exec
  have hb := B.bytes
  have hr := B.returns
  have hall := atoms_spec (ws := WW y_La_send b_La_send 4 (some .int) [(0, 9, 12, 13), (0, 9, 15, 29)]) B.pre
  have hts : ∀ w ∈ TB, w.before args s = true := fun w h => hall w (List.mem_cons_of_mem _ h)
  have htab := y_table B (hall _ List.mem_cons_self)
  have hown : s.vm.findClass "DeepChannelLaw" = some m.cls := findClass_of_methodNamed B.named
  have hlocks := B.notSynchronized
  subst hsz
  have hD := hD0.self (sz := s.heap.size)
  generalize hAe : va_A (w_La_send cI cJ qX qSd qSh qCd qRw qSd_bytes qSd_channelCounts qWd qWd_remainder qFd qFd_otherForms qFd_elements qWd_generator qFd_logs qFd_powers qRw_cells qMx qMx_bytes qP2 X_words X_mixer X_receiver Wd_coefficients Wd_syndromes Wd_locator nP2 Sd_masterCount Sd_craft Sd_dataCount Sh_depth Sh_wordBytes Sh_e Sh_pattern Cd_register Cd_put Rw_length Sd_bytes Sd_channelCounts Wd_remainder Fd_otherForms Fd_elements Wd_generator Fd_logs Fd_powers Rw_cells Mx_bytes p2) s.heap.size = A at hD hE hY ⊢
  have hA : ∀ q : Nat, s.heap.size ≤ q → A q := fun q h => by rw [← hAe]; exact Or.inr h
  have hS : va_S A s.heap s.heap [] := va_S.rf
  refine z_entry (vs := [.ref qX, .int x1, .ref qP2]) hargs (Nat.le_of_ble_eq_true rfl) (fun ls hl => ?_)
  have hl : lv_has ls 4 [(0, .ref qX), (1, .int x1), (2, .ref qP2)] := hl
  show W p l e (RC 7 1 6 103) s m args below meth c s.heap [] 0 0 _ _
  refine z_qi (fun Q0 hQ => ?_)
  have F : CallFix p m c b_La_send 4 s args TB "DeepChannelLaw" := ⟨hx, hb, hml, hown, hts⟩
  refine lv_aload_n hx hb d_La_send_0 rfl (lv_at hl 2 rfl) ?_
  refine lv_iconst (v := (0 : Int32)) hx hb d_La_send_1 (by decide) ?_
  refine lv_aload_n hx hb d_La_send_2 rfl (lv_at hl 0 rfl) ?_
  refine lv_iload_n hx hb d_La_send_3 rfl (lv_at hl 1 rfl) ?_
  refine z_cT (wc := w_DC_send cI cJ qX qSd qSh qCd qRw qSd_bytes qSd_channelCounts qWd qWd_remainder qFd qFd_otherForms qFd_elements qWd_generator qFd_logs qFd_powers qRw_cells qMx qMx_bytes X_words X_mixer X_receiver Wd_coefficients Wd_syndromes Wd_locator Sd_masterCount Sd_craft Sd_dataCount Sh_depth Sh_wordBytes Sh_e Sh_pattern Cd_register Cd_put Rw_length Sd_bytes Sd_channelCounts Wd_remainder Fd_otherForms Fd_elements Wd_generator Fd_logs Fd_powers Rw_cells Mx_bytes) (As := [.int x1]) (rest := [.int (0 : Int32), .ref qP2]) (hpc := 12) (t_DC_send_1 l hfl D cI cJ tt sa qX qSd qSh qCd qRw qSd_bytes qSd_channelCounts qWd qWd_remainder qFd qFd_otherForms qFd_elements qWd_generator qFd_logs qFd_powers qRw_cells qMx qMx_bytes X_words X_mixer X_receiver Wd_coefficients Wd_syndromes Wd_locator _ Sd_masterCount Sd_craft Sd_dataCount Sh_depth Sh_wordBytes Sh_e Sh_pattern Cd_register Cd_put Rw_length Sd_bytes Sd_channelCounts Wd_remainder Fd_otherForms Fd_elements Wd_generator Fd_logs Fd_powers Rw_cells Mx_bytes x1 hm) F ok_DC_send k_569 hK hE hY hP hD hS hA [0, 1, 2, 3, 4, 5, 6, 7, 8, 9, 10, 11, 12, 13, 14, 15, 16, 17] rfl (by decide) 0 rfl rfl rfl ⟨rfl, rfl, Nat.le_of_ble_eq_true rfl, Nat.le_of_ble_eq_true rfl⟩ ⟨Nat.le_of_ble_eq_true rfl, Nat.le_of_ble_eq_true rfl⟩ rfl hl.1 rfl (Nat.le_of_ble_eq_true rfl) d_La_send_4 (fun T' x ce XX h1 h2 h3 => y_catch1 XX hown (hts _ k_396) (by decide) htab ⟨Nat.le_of_ble_eq_true rfl, Nat.le_of_ble_eq_true rfl⟩ (va_Nw.use rfl (hY.2.2.1 _ (List.mem_of_getElem? (i := 3) rfl))) rfl h1 h2 h3) (fun qz H hP hS => ?_)
  refine lv_astore_n (lv' := [(3, .ref qz), (0, .ref qX), (1, .int x1), (2, .ref qP2)]) hx hb d_La_send_12 rfl hl (by decide) rfl (fun ls hl => ?_)
  refine lv_iconst (v := (1 : Int32)) hx hb d_La_send_13 (by decide) ?_
  exact z_qo hQ (z_ireti hr hx hb hlocks hK hP hD hS d_La_send_14)
set_option maxHeartbeats 4000000 in
set_option maxRecDepth 100000 in
theorem cw_La_send_2 (l : Launch) (hfl : l.flags = pinnedFlags ++ [noTraceFlag]) (D : va_G) (cI cJ : ClassId) (tt sa : Nat → Nat) (qX qSd qSh qCd qRw qSd_bytes qSd_channelCounts qWd qWd_remainder qFd qFd_otherForms qFd_elements qWd_generator qFd_logs qFd_powers qRw_cells qMx qMx_bytes qP2 : Nat) (X_words X_mixer X_receiver Wd_coefficients Wd_syndromes Wd_locator : Value) (nP2 : Nat) (sz : Nat) (Sd_masterCount : Int32) (Sd_craft : Int32) (Sd_dataCount : Int32) (Sh_depth : Int32) (Sh_wordBytes : Int32) (Sh_e : Int32) (Sh_pattern : Int32) (Cd_register : Int32) (Cd_put : Int32) (Rw_length : Int32) (Sd_bytes : Nat → Int32) (Sd_channelCounts : Nat → Int32) (Wd_remainder : Nat → Int32) (Fd_otherForms : Nat → Int32) (Fd_elements : Nat → Int32) (Wd_generator : Nat → Int32) (Fd_logs : Nat → Int32) (Fd_powers : Nat → Int32) (Rw_cells : Nat → Int64) (Mx_bytes : Nat → Int32) (p2 : Nat → Int64) (x1 : Int32) (hm : g_DC_send Sd_dataCount Sh_depth Sh_wordBytes Sh_e x1 = some 2) : CWi l y_La_send b_La_send 4 (some .int) [(0, 9, 12, 13), (0, 9, 15, 29)] (RC 7 1 6 103) D cI cJ tt sa [.ref qX, .int x1, .ref qP2] (w_La_send cI cJ qX qSd qSh qCd qRw qSd_bytes qSd_channelCounts qWd qWd_remainder qFd qFd_otherForms qFd_elements qWd_generator qFd_logs qFd_powers qRw_cells qMx qMx_bytes qP2 X_words X_mixer X_receiver Wd_coefficients Wd_syndromes Wd_locator nP2 Sd_masterCount Sd_craft Sd_dataCount Sh_depth Sh_wordBytes Sh_e Sh_pattern Cd_register Cd_put Rw_length Sd_bytes Sd_channelCounts Wd_remainder Fd_otherForms Fd_elements Wd_generator Fd_logs Fd_powers Rw_cells Mx_bytes p2) (w_La_send cI cJ qX qSd qSh qCd qRw qSd_bytes qSd_channelCounts qWd qWd_remainder qFd qFd_otherForms qFd_elements qWd_generator qFd_logs qFd_powers qRw_cells qMx qMx_bytes qP2 X_words X_mixer X_receiver Wd_coefficients Wd_syndromes Wd_locator nP2 Sd_masterCount Sd_craft Sd_dataCount Sh_depth Sh_wordBytes Sh_e Sh_pattern Cd_register Cd_put Rw_length Sd_bytes Sd_channelCounts Wd_remainder Fd_otherForms Fd_elements Wd_generator Fd_logs Fd_powers Rw_cells Mx_bytes p2) sz 2 1 6 := by
  refine va_MetW (cc := b_La_send) (maxL := 4) (ret := (some .int)) (hh := [(0, 9, 12, 13), (0, 9, 15, 29)]) (by decide) rfl ?_
  intro p e s m args below meth c s₁ B hml hv
  obtain ⟨hargs, ⟨⟨hsz, hP, hK, hD0, hE⟩, hY⟩, hN1, hN2⟩ := hv
  have hx := B.exec
  have hb := B.bytes
  have hr := B.returns
  have hall := atoms_spec (ws := WW y_La_send b_La_send 4 (some .int) [(0, 9, 12, 13), (0, 9, 15, 29)]) B.pre
  have hts : ∀ w ∈ TB, w.before args s = true := fun w h => hall w (List.mem_cons_of_mem _ h)
  have htab := y_table B (hall _ List.mem_cons_self)
  have hown : s.vm.findClass "DeepChannelLaw" = some m.cls := findClass_of_methodNamed B.named
  have hlocks := B.notSynchronized
  subst hsz
  have hD := hD0.self (sz := s.heap.size)
  generalize hAe : va_A (w_La_send cI cJ qX qSd qSh qCd qRw qSd_bytes qSd_channelCounts qWd qWd_remainder qFd qFd_otherForms qFd_elements qWd_generator qFd_logs qFd_powers qRw_cells qMx qMx_bytes qP2 X_words X_mixer X_receiver Wd_coefficients Wd_syndromes Wd_locator nP2 Sd_masterCount Sd_craft Sd_dataCount Sh_depth Sh_wordBytes Sh_e Sh_pattern Cd_register Cd_put Rw_length Sd_bytes Sd_channelCounts Wd_remainder Fd_otherForms Fd_elements Wd_generator Fd_logs Fd_powers Rw_cells Mx_bytes p2) s.heap.size = A at hD hE hY ⊢
  have hA : ∀ q : Nat, s.heap.size ≤ q → A q := fun q h => by rw [← hAe]; exact Or.inr h
  have hS : va_S A s.heap s.heap [] := va_S.rf
  refine z_entry (vs := [.ref qX, .int x1, .ref qP2]) hargs (Nat.le_of_ble_eq_true rfl) (fun ls hl => ?_)
  have hl : lv_has ls 4 [(0, .ref qX), (1, .int x1), (2, .ref qP2)] := hl
  show W p l e (RC 7 1 6 103) s m args below meth c s.heap [] 0 0 _ _
  refine z_qi (fun Q0 hQ => ?_)
  have F : CallFix p m c b_La_send 4 s args TB "DeepChannelLaw" := ⟨hx, hb, hml, hown, hts⟩
  refine lv_aload_n hx hb d_La_send_0 rfl (lv_at hl 2 rfl) ?_
  refine lv_iconst (v := (0 : Int32)) hx hb d_La_send_1 (by decide) ?_
  refine lv_aload_n hx hb d_La_send_2 rfl (lv_at hl 0 rfl) ?_
  refine lv_iload_n hx hb d_La_send_3 rfl (lv_at hl 1 rfl) ?_
  refine z_cT (wc := w_DC_send cI cJ qX qSd qSh qCd qRw qSd_bytes qSd_channelCounts qWd qWd_remainder qFd qFd_otherForms qFd_elements qWd_generator qFd_logs qFd_powers qRw_cells qMx qMx_bytes X_words X_mixer X_receiver Wd_coefficients Wd_syndromes Wd_locator Sd_masterCount Sd_craft Sd_dataCount Sh_depth Sh_wordBytes Sh_e Sh_pattern Cd_register Cd_put Rw_length Sd_bytes Sd_channelCounts Wd_remainder Fd_otherForms Fd_elements Wd_generator Fd_logs Fd_powers Rw_cells Mx_bytes) (As := [.int x1]) (rest := [.int (0 : Int32), .ref qP2]) (hpc := 15) (t_DC_send_2 l hfl D cI cJ tt sa qX qSd qSh qCd qRw qSd_bytes qSd_channelCounts qWd qWd_remainder qFd qFd_otherForms qFd_elements qWd_generator qFd_logs qFd_powers qRw_cells qMx qMx_bytes X_words X_mixer X_receiver Wd_coefficients Wd_syndromes Wd_locator _ Sd_masterCount Sd_craft Sd_dataCount Sh_depth Sh_wordBytes Sh_e Sh_pattern Cd_register Cd_put Rw_length Sd_bytes Sd_channelCounts Wd_remainder Fd_otherForms Fd_elements Wd_generator Fd_logs Fd_powers Rw_cells Mx_bytes x1 hm) F ok_DC_send k_569 hK hE hY hP hD hS hA [0, 1, 2, 3, 4, 5, 6, 7, 8, 9, 10, 11, 12, 13, 14, 15, 16, 17] rfl (by decide) 0 rfl rfl rfl ⟨rfl, rfl, Nat.le_of_ble_eq_true rfl, Nat.le_of_ble_eq_true rfl⟩ ⟨Nat.le_of_ble_eq_true rfl, Nat.le_of_ble_eq_true rfl⟩ rfl hl.1 rfl (Nat.le_of_ble_eq_true rfl) d_La_send_4 (fun T' x ce XX h1 h2 h3 => y_catch2 XX hown (hts _ k_396) (by decide) hN1 (hts _ k_568) (by decide) htab ⟨⟨Nat.le_of_ble_eq_true rfl, Nat.le_of_ble_eq_true rfl⟩, Nat.le_of_ble_eq_true rfl, Nat.le_of_ble_eq_true rfl⟩ (va_Nw.use rfl (hY.2.2.1 _ (List.mem_of_getElem? (i := 4) rfl))) rfl h1 h2 h3) (fun qz H hP hS => ?_)
  refine lv_astore_n (lv' := [(3, .ref qz), (0, .ref qX), (1, .int x1), (2, .ref qP2)]) hx hb d_La_send_15 rfl hl (by decide) rfl (fun ls hl => ?_)
  refine lv_iconst (v := (2 : Int32)) hx hb d_La_send_16 (by decide) ?_
  exact z_qo hQ (z_ireti hr hx hb hlocks hK hP hD hS d_La_send_17)
-- DeepChannelLaw.plain(LDeepChannel;IJ[J)I
abbrev b_La_plain : ByteArray := method_8_code
abbrev y_La_plain : MethodName := ⟨"DeepChannelLaw", "plain", "(LDeepChannel;IJ[J)I"⟩
theorem d_La_plain_0 : decode b_La_plain 0 = .ok (.aload 4, 2) := by decide +kernel
theorem d_La_plain_2 : decode b_La_plain 2 = .ok (.iconst 0, 1) := by decide +kernel
theorem d_La_plain_3 : decode b_La_plain 3 = .ok (.aload_n 0, 1) := by decide +kernel
theorem d_La_plain_4 : decode b_La_plain 4 = .ok (.iload_n 1, 1) := by decide +kernel
theorem d_La_plain_5 : decode b_La_plain 5 = .ok (.lload_n 2, 1) := by decide +kernel
theorem d_La_plain_6 : decode b_La_plain 6 = .ok (.invokevirtual 31, 3) := by decide +kernel
theorem d_La_plain_9 : decode b_La_plain 9 = .ok (.i2l, 1) := by decide +kernel
theorem d_La_plain_10 : decode b_La_plain 10 = .ok (.lastore, 1) := by decide +kernel
theorem d_La_plain_11 : decode b_La_plain 11 = .ok (.goto 7, 3) := by decide +kernel
theorem d_La_plain_14 : decode b_La_plain 14 = .ok (.astore 5, 2) := by decide +kernel
theorem d_La_plain_16 : decode b_La_plain 16 = .ok (.iconst 1, 1) := by decide +kernel
theorem d_La_plain_17 : decode b_La_plain 17 = .ok (.ireturn, 1) := by decide +kernel
theorem d_La_plain_18 : decode b_La_plain 18 = .ok (.iconst 0, 1) := by decide +kernel
theorem d_La_plain_19 : decode b_La_plain 19 = .ok (.ireturn, 1) := by decide +kernel
abbrev w_La_plain (cI cJ : ClassId) (qX qCd qRw qSh qRw_cells qP4 : Nat) (X_shape X_words X_mixer X_sender X_receiver Sh_depth Sh_wordBytes Sh_e : Value) (nP4 : Nat) (Cd_register : Int32) (Cd_put : Int32) (Rw_length : Int32) (Sh_pattern : Int32) (Rw_cells : Nat → Int64) (p4 : Nat → Int64) : va_W := [(qX, .inr (10, [X_shape, X_words, X_mixer, .ref qRw, .ref qCd, X_sender, X_receiver])), (qCd, .inr (1, [.ref qSh, .ref qRw, .int Cd_register, .int Cd_put])), (qRw, .inr (0, [.ref qRw_cells, .int Rw_length])), (qSh, .inr (8, [Sh_depth, Sh_wordBytes, Sh_e, .int Sh_pattern])), (qRw_cells, .inl (cJ, 64, .inr (.inl Rw_cells))), (qP4, .inl (cJ, nP4, .inr (.inl p4)))]
def f_La_plain (Cd_register : Int32) (Cd_put : Int32) (Rw_length : Int32) (Sh_pattern : Int32) (Rw_cells : Nat → Int64) (p4 : Nat → Int64) (nP4 : Nat) (x1 : Int32) (x2 : Int64) : Option (Int32 × Int32 × Int32 × Int32 × (Nat → Int64) × (Nat → Int64)) :=
  bd (f_DC_plain Cd_register Cd_put Rw_length Sh_pattern Rw_cells x1 x2) fun u6 =>
  nm u6.1 fun r1 =>
  nm u6.2.1 fun v2 =>
  nm u6.2.2.1 fun v3 =>
  nm u6.2.2.2.1 fun v4 =>
  nm u6.2.2.2.2 fun g5 =>
  wrL p4 nP4 (0 : Int32) r1.toInt64 fun g7 =>
  some ((0 : Int32), v2, v3, v4, g5, g7)
set_option maxHeartbeats 4000000 in
set_option maxRecDepth 100000 in
theorem c_La_plain (l : Launch) (D : va_G) (cI cJ : ClassId) (tt sa : Nat → Nat) (qX qCd qRw qSh qRw_cells qP4 : Nat) (X_shape X_words X_mixer X_sender X_receiver Sh_depth Sh_wordBytes Sh_e : Value) (nP4 : Nat) (sz : Nat) (Cd_register : Int32) (Cd_put : Int32) (Rw_length : Int32) (Sh_pattern : Int32) (Rw_cells : Nat → Int64) (p4 : Nat → Int64) (x1 : Int32) (x2 : Int64) (rr : Int32) (Cd_register' : Int32) (Cd_put' : Int32) (Rw_length' : Int32) (Rw_cells' : Nat → Int64) (p4' : Nat → Int64) (hm : f_La_plain Cd_register Cd_put Rw_length Sh_pattern Rw_cells p4 nP4 x1 x2 = some (rr, Cd_register', Cd_put', Rw_length', Rw_cells', p4')) : CWi l y_La_plain b_La_plain 6 (some .int) [(0, 11, 14, 13)] (RM 4 89) D cI cJ tt sa [.ref qX, .int x1, .long x2, .ref qP4] (w_La_plain cI cJ qX qCd qRw qSh qRw_cells qP4 X_shape X_words X_mixer X_sender X_receiver Sh_depth Sh_wordBytes Sh_e nP4 Cd_register Cd_put Rw_length Sh_pattern Rw_cells p4) (w_La_plain cI cJ qX qCd qRw qSh qRw_cells qP4 X_shape X_words X_mixer X_sender X_receiver Sh_depth Sh_wordBytes Sh_e nP4 Cd_register' Cd_put' Rw_length' Sh_pattern Rw_cells' p4') sz rr 0 0 := by
  refine va_MetW (cc := b_La_plain) (maxL := 6) (ret := (some .int)) (hh := [(0, 11, 14, 13)]) (by decide) rfl ?_
  intro p e s m args below meth c s₁ B hml hv
  obtain ⟨hargs, ⟨⟨hsz, hP, hK, hD0, hE⟩, hY⟩, hN1, hN2⟩ := hv
  have hx := B.exec
  have hb := B.bytes
  have hr := B.returns
  have hall := atoms_spec (ws := WW y_La_plain b_La_plain 6 (some .int) [(0, 11, 14, 13)]) B.pre
  have hts : ∀ w ∈ TB, w.before args s = true := fun w h => hall w (List.mem_cons_of_mem _ h)
  have htab := y_table B (hall _ List.mem_cons_self)
  have hown : s.vm.findClass "DeepChannelLaw" = some m.cls := findClass_of_methodNamed B.named
  have hlocks := B.notSynchronized
  subst hsz
  have hD := hD0.self (sz := s.heap.size)
  generalize hAe : va_A (w_La_plain cI cJ qX qCd qRw qSh qRw_cells qP4 X_shape X_words X_mixer X_sender X_receiver Sh_depth Sh_wordBytes Sh_e nP4 Cd_register Cd_put Rw_length Sh_pattern Rw_cells p4) s.heap.size = A at hD hE hY ⊢
  have hA : ∀ q : Nat, s.heap.size ≤ q → A q := fun q h => by rw [← hAe]; exact Or.inr h
  have hS : va_S A s.heap s.heap [] := va_S.rf
  refine z_entry (vs := [.ref qX, .int x1, .long x2, .ref qP4]) hargs (Nat.le_of_ble_eq_true rfl) (fun ls hl => ?_)
  have hl : lv_has ls 6 [(0, .ref qX), (1, .int x1), (2, .long x2), (4, .ref qP4)] := hl
  show W p l e (RM 4 89) s m args below meth c s.heap [] 0 0 _ _
  refine z_qi (fun Q0 hQ => ?_)
  have F : CallFix p m c b_La_plain 6 s args TB "DeepChannelLaw" := ⟨hx, hb, hml, hown, hts⟩
  unfold f_La_plain at hm
  refine lv_aload hx hb d_La_plain_0 (lv_at hl 3 rfl) ?_
  refine lv_iconst (v := (0 : Int32)) hx hb d_La_plain_2 (by decide) ?_
  refine lv_aload_n hx hb d_La_plain_3 rfl (lv_at hl 0 rfl) ?_
  refine lv_iload_n hx hb d_La_plain_4 rfl (lv_at hl 1 rfl) ?_
  refine lv_lload_n hx hb d_La_plain_5 rfl (lv_at hl 2 rfl) ?_
  obtain ⟨⟨r1, v2, v3, v4, g5⟩, hu, hm⟩ := bd_el hm
  replace hm := nm_5 hm
  refine z_cVi (wc := w_DC_plain cI cJ qX qCd qRw qSh qRw_cells X_shape X_words X_mixer X_sender X_receiver Sh_depth Sh_wordBytes Sh_e Cd_register Cd_put Rw_length Sh_pattern Rw_cells) (wc' := w_DC_plain cI cJ qX qCd qRw qSh qRw_cells X_shape X_words X_mixer X_sender X_receiver Sh_depth Sh_wordBytes Sh_e v2 v3 v4 Sh_pattern g5) (wr := [(qP4, .inl (cJ, nP4, .inr (.inl p4)))]) (As := [.int x1, .long x2]) (rest := [.int (0 : Int32), .ref qP4]) (c_DC_plain l D cI cJ tt qX qCd qRw qSh qRw_cells X_shape X_words X_mixer X_sender X_receiver Sh_depth Sh_wordBytes Sh_e _ Cd_register Cd_put Rw_length Sh_pattern Rw_cells x1 x2 r1 v2 v3 v4 g5 hu) F ok_DC_plain rfl k_662 hK hE hP hD hS hA [0, 1, 2, 3, 4] [5] rfl rfl (by decide) (by decide) (by decide) 0 rfl rfl rfl ⟨rfl, rfl, Nat.le_of_ble_eq_true rfl, Nat.le_of_ble_eq_true rfl⟩ ⟨Nat.zero_le _, Nat.zero_le _⟩ rfl hl.1 rfl (Nat.le_of_ble_eq_true rfl) d_La_plain_6 (fun H locs hP hD hS => ?_)
  have hP : va_P D classes (w_La_plain cI cJ qX qCd qRw qSh qRw_cells qP4 X_shape X_words X_mixer X_sender X_receiver Sh_depth Sh_wordBytes Sh_e nP4 v2 v3 v4 Sh_pattern g5 p4) H := hP.sub [1, 2, 3, 4, 5, 0] rfl
  have hD : va_D A (w_La_plain cI cJ qX qCd qRw qSh qRw_cells qP4 X_shape X_words X_mixer X_sender X_receiver Sh_depth Sh_wordBytes Sh_e nP4 v2 v3 v4 Sh_pattern g5 p4) := hD.sub [1, 2, 3, 4, 5, 0] (by decide) rfl
  refine lv_i2l (v := r1.toInt64) hx hb d_La_plain_9 rfl ?_
  refine z_last hm hx hb hK hP hD hS 5 rfl d_La_plain_10 (fun g7 hm H locs hP hD hS => ?_)
  have hP : va_P D classes (w_La_plain cI cJ qX qCd qRw qSh qRw_cells qP4 X_shape X_words X_mixer X_sender X_receiver Sh_depth Sh_wordBytes Sh_e nP4 v2 v3 v4 Sh_pattern g5 g7) H := hP
  have hD : va_D A (w_La_plain cI cJ qX qCd qRw qSh qRw_cells qP4 X_shape X_words X_mixer X_sender X_receiver Sh_depth Sh_wordBytes Sh_e nP4 v2 v3 v4 Sh_pattern g5 g7) := hD
  refine lv_goto (tgt := 18) hx hb d_La_plain_11 (by decide) ?_
  refine lv_iconst (v := (0 : Int32)) hx hb d_La_plain_18 (by decide) ?_
  cases hm
  exact z_qo hQ (z_ireti hr hx hb hlocks hK hP hD hS d_La_plain_19)
set_option maxHeartbeats 4000000 in
set_option maxRecDepth 100000 in
theorem cw_La_plain_1 (l : Launch) (hfl : l.flags = pinnedFlags ++ [noTraceFlag]) (D : va_G) (cI cJ : ClassId) (tt sa : Nat → Nat) (qX qCd qRw qSh qRw_cells qP4 : Nat) (X_shape X_words X_mixer X_sender X_receiver Sh_depth Sh_wordBytes Sh_e : Value) (nP4 : Nat) (sz : Nat) (Cd_register : Int32) (Cd_put : Int32) (Rw_length : Int32) (Sh_pattern : Int32) (Rw_cells : Nat → Int64) (p4 : Nat → Int64) (x1 : Int32) (x2 : Int64) (hm : g_DC_plain x1 x2 = some 1) : CWi l y_La_plain b_La_plain 6 (some .int) [(0, 11, 14, 13)] (RC 7 1 6 106) D cI cJ tt sa [.ref qX, .int x1, .long x2, .ref qP4] (w_La_plain cI cJ qX qCd qRw qSh qRw_cells qP4 X_shape X_words X_mixer X_sender X_receiver Sh_depth Sh_wordBytes Sh_e nP4 Cd_register Cd_put Rw_length Sh_pattern Rw_cells p4) (w_La_plain cI cJ qX qCd qRw qSh qRw_cells qP4 X_shape X_words X_mixer X_sender X_receiver Sh_depth Sh_wordBytes Sh_e nP4 Cd_register Cd_put Rw_length Sh_pattern Rw_cells p4) sz 1 1 6 := by
  refine va_MetW (cc := b_La_plain) (maxL := 6) (ret := (some .int)) (hh := [(0, 11, 14, 13)]) (by decide) rfl ?_
  intro p e s m args below meth c s₁ B hml hv
  obtain ⟨hargs, ⟨⟨hsz, hP, hK, hD0, hE⟩, hY⟩, hN1, hN2⟩ := hv
  have hx := B.exec
  have hb := B.bytes
  have hr := B.returns
  have hall := atoms_spec (ws := WW y_La_plain b_La_plain 6 (some .int) [(0, 11, 14, 13)]) B.pre
  have hts : ∀ w ∈ TB, w.before args s = true := fun w h => hall w (List.mem_cons_of_mem _ h)
  have htab := y_table B (hall _ List.mem_cons_self)
  have hown : s.vm.findClass "DeepChannelLaw" = some m.cls := findClass_of_methodNamed B.named
  have hlocks := B.notSynchronized
  subst hsz
  have hD := hD0.self (sz := s.heap.size)
  generalize hAe : va_A (w_La_plain cI cJ qX qCd qRw qSh qRw_cells qP4 X_shape X_words X_mixer X_sender X_receiver Sh_depth Sh_wordBytes Sh_e nP4 Cd_register Cd_put Rw_length Sh_pattern Rw_cells p4) s.heap.size = A at hD hE hY ⊢
  have hA : ∀ q : Nat, s.heap.size ≤ q → A q := fun q h => by rw [← hAe]; exact Or.inr h
  have hS : va_S A s.heap s.heap [] := va_S.rf
  refine z_entry (vs := [.ref qX, .int x1, .long x2, .ref qP4]) hargs (Nat.le_of_ble_eq_true rfl) (fun ls hl => ?_)
  have hl : lv_has ls 6 [(0, .ref qX), (1, .int x1), (2, .long x2), (4, .ref qP4)] := hl
  show W p l e (RC 7 1 6 106) s m args below meth c s.heap [] 0 0 _ _
  refine z_qi (fun Q0 hQ => ?_)
  have F : CallFix p m c b_La_plain 6 s args TB "DeepChannelLaw" := ⟨hx, hb, hml, hown, hts⟩
  refine lv_aload hx hb d_La_plain_0 (lv_at hl 3 rfl) ?_
  refine lv_iconst (v := (0 : Int32)) hx hb d_La_plain_2 (by decide) ?_
  refine lv_aload_n hx hb d_La_plain_3 rfl (lv_at hl 0 rfl) ?_
  refine lv_iload_n hx hb d_La_plain_4 rfl (lv_at hl 1 rfl) ?_
  refine lv_lload_n hx hb d_La_plain_5 rfl (lv_at hl 2 rfl) ?_
  refine z_cT (wc := w_DC_plain cI cJ qX qCd qRw qSh qRw_cells X_shape X_words X_mixer X_sender X_receiver Sh_depth Sh_wordBytes Sh_e Cd_register Cd_put Rw_length Sh_pattern Rw_cells) (As := [.int x1, .long x2]) (rest := [.int (0 : Int32), .ref qP4]) (hpc := 14) (t_DC_plain_1 l hfl D cI cJ tt sa qX qCd qRw qSh qRw_cells X_shape X_words X_mixer X_sender X_receiver Sh_depth Sh_wordBytes Sh_e _ Cd_register Cd_put Rw_length Sh_pattern Rw_cells x1 x2 hm) F ok_DC_plain k_662 hK hE hY hP hD hS hA [0, 1, 2, 3, 4] rfl (by decide) 0 rfl rfl rfl ⟨rfl, rfl, Nat.le_of_ble_eq_true rfl, Nat.le_of_ble_eq_true rfl⟩ ⟨Nat.le_of_ble_eq_true rfl, Nat.le_of_ble_eq_true rfl⟩ rfl hl.1 rfl (Nat.le_of_ble_eq_true rfl) d_La_plain_6 (fun T' x ce XX h1 h2 h3 => y_catch1 XX hown (hts _ k_396) (by decide) htab ⟨Nat.le_of_ble_eq_true rfl, Nat.le_of_ble_eq_true rfl⟩ (va_Nw.use rfl (hY.2.2.1 _ (List.mem_of_getElem? (i := 3) rfl))) rfl h1 h2 h3) (fun qz H hP hS => ?_)
  refine lv_astore (lv' := [(5, .ref qz), (0, .ref qX), (1, .int x1), (2, .long x2), (4, .ref qP4)]) hx hb d_La_plain_14 hl (by decide) rfl (fun ls hl => ?_)
  refine lv_iconst (v := (1 : Int32)) hx hb d_La_plain_16 (by decide) ?_
  exact z_qo hQ (z_ireti hr hx hb hlocks hK hP hD hS d_La_plain_17)
-- DeepChannelLaw.skip(LDeepChannel;I)I
abbrev b_La_skip : ByteArray := method_9_code
abbrev y_La_skip : MethodName := ⟨"DeepChannelLaw", "skip", "(LDeepChannel;I)I"⟩
theorem d_La_skip_0 : decode b_La_skip 0 = .ok (.aload_n 0, 1) := by decide +kernel
theorem d_La_skip_1 : decode b_La_skip 1 = .ok (.iload_n 1, 1) := by decide +kernel
theorem d_La_skip_2 : decode b_La_skip 2 = .ok (.invokevirtual 34, 3) := by decide +kernel
theorem d_La_skip_5 : decode b_La_skip 5 = .ok (.goto 6, 3) := by decide +kernel
theorem d_La_skip_8 : decode b_La_skip 8 = .ok (.astore_n 2, 1) := by decide +kernel
theorem d_La_skip_9 : decode b_La_skip 9 = .ok (.iconst 1, 1) := by decide +kernel
theorem d_La_skip_10 : decode b_La_skip 10 = .ok (.ireturn, 1) := by decide +kernel
theorem d_La_skip_11 : decode b_La_skip 11 = .ok (.iconst 0, 1) := by decide +kernel
theorem d_La_skip_12 : decode b_La_skip 12 = .ok (.ireturn, 1) := by decide +kernel
abbrev w_La_skip (cI cJ : ClassId) (qX qSd qSd_channelCounts : Nat) (X_shape X_words X_mixer X_row X_coder X_receiver Sd_shape Sd_words Sd_mixer Sd_bytes Sd_craft Sd_dataCount : Value) (Sd_masterCount : Int32) (Sd_channelCounts : Nat → Int32) : va_W := [(qX, .inr (10, [X_shape, X_words, X_mixer, X_row, X_coder, .ref qSd, X_receiver])), (qSd, .inr (7, [Sd_shape, Sd_words, Sd_mixer, Sd_bytes, .ref qSd_channelCounts, .int Sd_masterCount, Sd_craft, Sd_dataCount])), (qSd_channelCounts, .inl (cI, 8, .inl Sd_channelCounts))]
def f_La_skip (Sd_masterCount : Int32) (Sd_channelCounts : Nat → Int32) (x1 : Int32) : Option (Int32 × Int32 × (Nat → Int32)) :=
  bd (f_DC_skip Sd_masterCount Sd_channelCounts x1) fun u3 =>
  nm u3.1 fun v1 =>
  nm u3.2 fun g2 =>
  some ((0 : Int32), v1, g2)
set_option maxHeartbeats 4000000 in
set_option maxRecDepth 100000 in
theorem c_La_skip (l : Launch) (D : va_G) (cI cJ : ClassId) (tt sa : Nat → Nat) (qX qSd qSd_channelCounts : Nat) (X_shape X_words X_mixer X_row X_coder X_receiver Sd_shape Sd_words Sd_mixer Sd_bytes Sd_craft Sd_dataCount : Value) (sz : Nat) (Sd_masterCount : Int32) (Sd_channelCounts : Nat → Int32) (x1 : Int32) (rr : Int32) (Sd_masterCount' : Int32) (Sd_channelCounts' : Nat → Int32) (hm : f_La_skip Sd_masterCount Sd_channelCounts x1 = some (rr, Sd_masterCount', Sd_channelCounts')) : CWi l y_La_skip b_La_skip 3 (some .int) [(0, 5, 8, 13)] (RM 2 42) D cI cJ tt sa [.ref qX, .int x1] (w_La_skip cI cJ qX qSd qSd_channelCounts X_shape X_words X_mixer X_row X_coder X_receiver Sd_shape Sd_words Sd_mixer Sd_bytes Sd_craft Sd_dataCount Sd_masterCount Sd_channelCounts) (w_La_skip cI cJ qX qSd qSd_channelCounts X_shape X_words X_mixer X_row X_coder X_receiver Sd_shape Sd_words Sd_mixer Sd_bytes Sd_craft Sd_dataCount Sd_masterCount' Sd_channelCounts') sz rr 0 0 := by
  refine va_MetW (cc := b_La_skip) (maxL := 3) (ret := (some .int)) (hh := [(0, 5, 8, 13)]) (by decide) rfl ?_
  intro p e s m args below meth c s₁ B hml hv
  obtain ⟨hargs, ⟨⟨hsz, hP, hK, hD0, hE⟩, hY⟩, hN1, hN2⟩ := hv
  have hx := B.exec
  have hb := B.bytes
  have hr := B.returns
  have hall := atoms_spec (ws := WW y_La_skip b_La_skip 3 (some .int) [(0, 5, 8, 13)]) B.pre
  have hts : ∀ w ∈ TB, w.before args s = true := fun w h => hall w (List.mem_cons_of_mem _ h)
  have htab := y_table B (hall _ List.mem_cons_self)
  have hown : s.vm.findClass "DeepChannelLaw" = some m.cls := findClass_of_methodNamed B.named
  have hlocks := B.notSynchronized
  subst hsz
  have hD := hD0.self (sz := s.heap.size)
  generalize hAe : va_A (w_La_skip cI cJ qX qSd qSd_channelCounts X_shape X_words X_mixer X_row X_coder X_receiver Sd_shape Sd_words Sd_mixer Sd_bytes Sd_craft Sd_dataCount Sd_masterCount Sd_channelCounts) s.heap.size = A at hD hE hY ⊢
  have hA : ∀ q : Nat, s.heap.size ≤ q → A q := fun q h => by rw [← hAe]; exact Or.inr h
  have hS : va_S A s.heap s.heap [] := va_S.rf
  refine z_entry (vs := [.ref qX, .int x1]) hargs (Nat.le_of_ble_eq_true rfl) (fun ls hl => ?_)
  have hl : lv_has ls 3 [(0, .ref qX), (1, .int x1)] := hl
  show W p l e (RM 2 42) s m args below meth c s.heap [] 0 0 _ _
  refine z_qi (fun Q0 hQ => ?_)
  have F : CallFix p m c b_La_skip 3 s args TB "DeepChannelLaw" := ⟨hx, hb, hml, hown, hts⟩
  unfold f_La_skip at hm
  refine lv_aload_n hx hb d_La_skip_0 rfl (lv_at hl 0 rfl) ?_
  refine lv_iload_n hx hb d_La_skip_1 rfl (lv_at hl 1 rfl) ?_
  obtain ⟨⟨v1, g2⟩, hu, hm⟩ := bd_el hm
  replace hm := nm_2 hm
  refine z_cVv (wc := w_DC_skip cI cJ qX qSd qSd_channelCounts X_shape X_words X_mixer X_row X_coder X_receiver Sd_shape Sd_words Sd_mixer Sd_bytes Sd_craft Sd_dataCount Sd_masterCount Sd_channelCounts) (wc' := w_DC_skip cI cJ qX qSd qSd_channelCounts X_shape X_words X_mixer X_row X_coder X_receiver Sd_shape Sd_words Sd_mixer Sd_bytes Sd_craft Sd_dataCount v1 g2) (wr := []) (As := [.int x1]) (rest := []) (c_DC_skip l D cI cJ tt qX qSd qSd_channelCounts X_shape X_words X_mixer X_row X_coder X_receiver Sd_shape Sd_words Sd_mixer Sd_bytes Sd_craft Sd_dataCount _ Sd_masterCount Sd_channelCounts x1 v1 g2 hu) F ok_DC_skip rfl k_671 hK hE hP hD hS hA [0, 1, 2] [] rfl rfl (by decide) (by decide) (by decide) 0 rfl rfl rfl ⟨rfl, rfl, Nat.le_of_ble_eq_true rfl, Nat.le_of_ble_eq_true rfl⟩ ⟨Nat.zero_le _, Nat.zero_le _⟩ rfl hl.1 rfl (Nat.le_of_ble_eq_true rfl) d_La_skip_2 (fun H locs hP hD hS => ?_)
  have hP : va_P D classes (w_La_skip cI cJ qX qSd qSd_channelCounts X_shape X_words X_mixer X_row X_coder X_receiver Sd_shape Sd_words Sd_mixer Sd_bytes Sd_craft Sd_dataCount v1 g2) H := hP.sub [0, 1, 2] rfl
  have hD : va_D A (w_La_skip cI cJ qX qSd qSd_channelCounts X_shape X_words X_mixer X_row X_coder X_receiver Sd_shape Sd_words Sd_mixer Sd_bytes Sd_craft Sd_dataCount v1 g2) := hD.sub [0, 1, 2] (by decide) rfl
  refine lv_goto (tgt := 11) hx hb d_La_skip_5 (by decide) ?_
  refine lv_iconst (v := (0 : Int32)) hx hb d_La_skip_11 (by decide) ?_
  cases hm
  exact z_qo hQ (z_ireti hr hx hb hlocks hK hP hD hS d_La_skip_12)
set_option maxHeartbeats 4000000 in
set_option maxRecDepth 100000 in
theorem cw_La_skip_1 (l : Launch) (hfl : l.flags = pinnedFlags ++ [noTraceFlag]) (D : va_G) (cI cJ : ClassId) (tt sa : Nat → Nat) (qX qSd qSd_channelCounts : Nat) (X_shape X_words X_mixer X_row X_coder X_receiver Sd_shape Sd_words Sd_mixer Sd_bytes Sd_craft Sd_dataCount : Value) (sz : Nat) (Sd_masterCount : Int32) (Sd_channelCounts : Nat → Int32) (x1 : Int32) (hm : g_DC_skip x1 = some 1) : CWi l y_La_skip b_La_skip 3 (some .int) [(0, 5, 8, 13)] (RC 7 1 6 103) D cI cJ tt sa [.ref qX, .int x1] (w_La_skip cI cJ qX qSd qSd_channelCounts X_shape X_words X_mixer X_row X_coder X_receiver Sd_shape Sd_words Sd_mixer Sd_bytes Sd_craft Sd_dataCount Sd_masterCount Sd_channelCounts) (w_La_skip cI cJ qX qSd qSd_channelCounts X_shape X_words X_mixer X_row X_coder X_receiver Sd_shape Sd_words Sd_mixer Sd_bytes Sd_craft Sd_dataCount Sd_masterCount Sd_channelCounts) sz 1 1 6 := by
  refine va_MetW (cc := b_La_skip) (maxL := 3) (ret := (some .int)) (hh := [(0, 5, 8, 13)]) (by decide) rfl ?_
  intro p e s m args below meth c s₁ B hml hv
  obtain ⟨hargs, ⟨⟨hsz, hP, hK, hD0, hE⟩, hY⟩, hN1, hN2⟩ := hv
  have hx := B.exec
  have hb := B.bytes
  have hr := B.returns
  have hall := atoms_spec (ws := WW y_La_skip b_La_skip 3 (some .int) [(0, 5, 8, 13)]) B.pre
  have hts : ∀ w ∈ TB, w.before args s = true := fun w h => hall w (List.mem_cons_of_mem _ h)
  have htab := y_table B (hall _ List.mem_cons_self)
  have hown : s.vm.findClass "DeepChannelLaw" = some m.cls := findClass_of_methodNamed B.named
  have hlocks := B.notSynchronized
  subst hsz
  have hD := hD0.self (sz := s.heap.size)
  generalize hAe : va_A (w_La_skip cI cJ qX qSd qSd_channelCounts X_shape X_words X_mixer X_row X_coder X_receiver Sd_shape Sd_words Sd_mixer Sd_bytes Sd_craft Sd_dataCount Sd_masterCount Sd_channelCounts) s.heap.size = A at hD hE hY ⊢
  have hA : ∀ q : Nat, s.heap.size ≤ q → A q := fun q h => by rw [← hAe]; exact Or.inr h
  have hS : va_S A s.heap s.heap [] := va_S.rf
  refine z_entry (vs := [.ref qX, .int x1]) hargs (Nat.le_of_ble_eq_true rfl) (fun ls hl => ?_)
  have hl : lv_has ls 3 [(0, .ref qX), (1, .int x1)] := hl
  show W p l e (RC 7 1 6 103) s m args below meth c s.heap [] 0 0 _ _
  refine z_qi (fun Q0 hQ => ?_)
  have F : CallFix p m c b_La_skip 3 s args TB "DeepChannelLaw" := ⟨hx, hb, hml, hown, hts⟩
  refine lv_aload_n hx hb d_La_skip_0 rfl (lv_at hl 0 rfl) ?_
  refine lv_iload_n hx hb d_La_skip_1 rfl (lv_at hl 1 rfl) ?_
  refine z_cT (wc := w_DC_skip cI cJ qX qSd qSd_channelCounts X_shape X_words X_mixer X_row X_coder X_receiver Sd_shape Sd_words Sd_mixer Sd_bytes Sd_craft Sd_dataCount Sd_masterCount Sd_channelCounts) (As := [.int x1]) (rest := []) (hpc := 8) (t_DC_skip_1 l hfl D cI cJ tt sa qX qSd qSd_channelCounts X_shape X_words X_mixer X_row X_coder X_receiver Sd_shape Sd_words Sd_mixer Sd_bytes Sd_craft Sd_dataCount _ Sd_masterCount Sd_channelCounts x1 hm) F ok_DC_skip k_671 hK hE hY hP hD hS hA [0, 1, 2] rfl (by decide) 0 rfl rfl rfl ⟨rfl, rfl, Nat.le_of_ble_eq_true rfl, Nat.le_of_ble_eq_true rfl⟩ ⟨Nat.le_of_ble_eq_true rfl, Nat.le_of_ble_eq_true rfl⟩ rfl hl.1 rfl (Nat.le_of_ble_eq_true rfl) d_La_skip_2 (fun T' x ce XX h1 h2 h3 => y_catch1 XX hown (hts _ k_396) (by decide) htab ⟨Nat.le_of_ble_eq_true rfl, Nat.le_of_ble_eq_true rfl⟩ (va_Nw.use rfl (hY.2.2.1 _ (List.mem_of_getElem? (i := 3) rfl))) rfl h1 h2 h3) (fun qz H hP hS => ?_)
  refine lv_astore_n (lv' := [(2, .ref qz), (0, .ref qX), (1, .int x1)]) hx hb d_La_skip_8 rfl hl (by decide) rfl (fun ls hl => ?_)
  refine lv_iconst (v := (1 : Int32)) hx hb d_La_skip_9 (by decide) ?_
  exact z_qo hQ (z_ireti hr hx hb hlocks hK hP hD hS d_La_skip_10)
-- DeepChannelLaw.receive(LDeepChannel;I[J)I
abbrev b_La_receive : ByteArray := method_10_code
abbrev y_La_receive : MethodName := ⟨"DeepChannelLaw", "receive", "(LDeepChannel;I[J)I"⟩
theorem d_La_receive_0 : decode b_La_receive 0 = .ok (.aload_n 2, 1) := by decide +kernel
theorem d_La_receive_1 : decode b_La_receive 1 = .ok (.iconst 0, 1) := by decide +kernel
theorem d_La_receive_2 : decode b_La_receive 2 = .ok (.aload_n 0, 1) := by decide +kernel
theorem d_La_receive_3 : decode b_La_receive 3 = .ok (.iload_n 1, 1) := by decide +kernel
theorem d_La_receive_4 : decode b_La_receive 4 = .ok (.invokevirtual 38, 3) := by decide +kernel
theorem d_La_receive_7 : decode b_La_receive 7 = .ok (.i2l, 1) := by decide +kernel
theorem d_La_receive_8 : decode b_La_receive 8 = .ok (.lastore, 1) := by decide +kernel
theorem d_La_receive_9 : decode b_La_receive 9 = .ok (.goto 6, 3) := by decide +kernel
theorem d_La_receive_12 : decode b_La_receive 12 = .ok (.astore_n 3, 1) := by decide +kernel
theorem d_La_receive_13 : decode b_La_receive 13 = .ok (.iconst 1, 1) := by decide +kernel
theorem d_La_receive_14 : decode b_La_receive 14 = .ok (.ireturn, 1) := by decide +kernel
theorem d_La_receive_15 : decode b_La_receive 15 = .ok (.iconst 0, 1) := by decide +kernel
theorem d_La_receive_16 : decode b_La_receive 16 = .ok (.ireturn, 1) := by decide +kernel
abbrev w_La_receive (cI cJ : ClassId) (qX qCd qRc qSh qNr qNr_evenRow qRw qFo qFo_cells qNr_oneIsBetter qRw_cells qNr_distances qNr_pairs qNr_oddRow qRc_facts qRc_lastOfChannel qMx qMx_bytes qRc_bytes qWd qFd qFd_powers qWd_syndromes qFd_logs qWd_coefficients qLc qLc_poly qLc_earlier qLc_spare qLc_places qLc_evaluator qFd_otherForms qFd_elements qRc_putRight qP2 : Nat) (X_shape X_words X_mixer X_sender Cd_shape Cd_row Cd_register Wd_generator Wd_remainder : Value) (nP2 : Nat) (Cd_put : Int32) (Rc_lastMaster : Int32) (Rc_differing : Int32) (Rc_taken : Int32) (Sh_depth : Int32) (Sh_wordBytes : Int32) (Sh_e : Int32) (Sh_pattern : Int32) (Nr_evenRow : Nat → Int32) (Rw_length : Int32) (Fo_length : Int32) (Fo_cells : Nat → Int64) (Nr_oneIsBetter : Nat → Int64) (Rw_cells : Nat → Int64) (Nr_distances : Nat → Int32) (Nr_pairs : Nat → Int32) (Nr_oddRow : Nat → Int32) (Rc_facts : Nat → Int32) (Rc_lastOfChannel : Nat → Int32) (Mx_bytes : Nat → Int32) (Rc_bytes : Nat → Int32) (Fd_powers : Nat → Int32) (Wd_syndromes : Nat → Int32) (Fd_logs : Nat → Int32) (Wd_coefficients : Nat → Int32) (Lc_poly : Nat → Int32) (Lc_earlier : Nat → Int32) (Lc_spare : Nat → Int32) (Lc_places : Nat → Int32) (Lc_evaluator : Nat → Int32) (Fd_otherForms : Nat → Int32) (Fd_elements : Nat → Int32) (Rc_putRight : Nat → Int32) (p2 : Nat → Int64) : va_W := [(qX, .inr (10, [X_shape, X_words, X_mixer, .ref qRw, .ref qCd, X_sender, .ref qRc])), (qCd, .inr (1, [Cd_shape, Cd_row, Cd_register, .int Cd_put])), (qRc, .inr (6, [.ref qSh, .ref qWd, .ref qMx, .ref qNr, .ref qFo, .ref qRc_bytes, .ref qRc_facts, .ref qRc_putRight, .ref qRc_lastOfChannel, .int Rc_lastMaster, .int Rc_differing, .int Rc_taken])), (qSh, .inr (8, [.int Sh_depth, .int Sh_wordBytes, .int Sh_e, .int Sh_pattern])), (qNr, .inr (5, [.ref qNr_pairs, .ref qNr_distances, .ref qNr_evenRow, .ref qNr_oddRow, .ref qNr_oneIsBetter])), (qNr_evenRow, .inl (cI, 64, .inl Nr_evenRow)), (qRw, .inr (0, [.ref qRw_cells, .int Rw_length])), (qFo, .inr (0, [.ref qFo_cells, .int Fo_length])), (qFo_cells, .inl (cJ, 64, .inr (.inl Fo_cells))), (qNr_oneIsBetter, .inl (cJ, 4096, .inr (.inl Nr_oneIsBetter))), (qRw_cells, .inl (cJ, 64, .inr (.inl Rw_cells))), (qNr_distances, .inl (cI, 4, .inl Nr_distances)), (qNr_pairs, .inl (cI, 64, .inl Nr_pairs)), (qNr_oddRow, .inl (cI, 64, .inl Nr_oddRow)), (qRc_facts, .inl (cI, 144, .inl Rc_facts)), (qRc_lastOfChannel, .inl (cI, 8, .inl Rc_lastOfChannel)), (qMx, .inr (4, [.ref qMx_bytes])), (qMx_bytes, .inl (cI, 250, .inl Mx_bytes)), (qRc_bytes, .inl (cI, 512, .inl Rc_bytes)), (qWd, .inr (9, [.ref qSh, .ref qFd, Wd_generator, Wd_remainder, .ref qWd_coefficients, .ref qWd_syndromes, .ref qLc])), (qFd, .inr (2, [.ref qFd_powers, .ref qFd_logs, .ref qFd_otherForms, .ref qFd_elements])), (qFd_powers, .inl (cI, 255, .inl Fd_powers)), (qWd_syndromes, .inl (cI, 32, .inl Wd_syndromes)), (qFd_logs, .inl (cI, 256, .inl Fd_logs)), (qWd_coefficients, .inl (cI, 250, .inl Wd_coefficients)), (qLc, .inr (3, [.ref qFd, .ref qLc_poly, .ref qLc_earlier, .ref qLc_spare, .ref qLc_evaluator, .ref qLc_places])), (qLc_poly, .inl (cI, 33, .inl Lc_poly)), (qLc_earlier, .inl (cI, 33, .inl Lc_earlier)), (qLc_spare, .inl (cI, 33, .inl Lc_spare)), (qLc_places, .inl (cI, 32, .inl Lc_places)), (qLc_evaluator, .inl (cI, 33, .inl Lc_evaluator)), (qFd_otherForms, .inl (cI, 256, .inl Fd_otherForms)), (qFd_elements, .inl (cI, 256, .inl Fd_elements)), (qRc_putRight, .inl (cI, 128, .inl Rc_putRight)), (qP2, .inl (cJ, nP2, .inr (.inl p2)))]
def f_La_receive (Cd_put : Int32) (Rc_lastMaster : Int32) (Rc_differing : Int32) (Rc_taken : Int32) (Sh_depth : Int32) (Sh_wordBytes : Int32) (Sh_e : Int32) (Sh_pattern : Int32) (Nr_evenRow : Nat → Int32) (Rw_length : Int32) (Fo_length : Int32) (Fo_cells : Nat → Int64) (Nr_oneIsBetter : Nat → Int64) (Rw_cells : Nat → Int64) (Nr_distances : Nat → Int32) (Nr_pairs : Nat → Int32) (Nr_oddRow : Nat → Int32) (Rc_facts : Nat → Int32) (Rc_lastOfChannel : Nat → Int32) (Mx_bytes : Nat → Int32) (Rc_bytes : Nat → Int32) (Fd_powers : Nat → Int32) (Wd_syndromes : Nat → Int32) (Fd_logs : Nat → Int32) (Wd_coefficients : Nat → Int32) (Lc_poly : Nat → Int32) (Lc_earlier : Nat → Int32) (Lc_spare : Nat → Int32) (Lc_places : Nat → Int32) (Lc_evaluator : Nat → Int32) (Fd_otherForms : Nat → Int32) (Fd_elements : Nat → Int32) (Rc_putRight : Nat → Int32) (p2 : Nat → Int64) (nP2 : Nat) (x1 : Int32) : Option (Int32 × Int32 × Int32 × Int32 × (Nat → Int32) × Int32 × (Nat → Int64) × (Nat → Int64) × (Nat → Int32) × (Nat → Int32) × (Nat → Int32) × (Nat → Int32) × (Nat → Int32) × (Nat → Int32) × (Nat → Int32) × (Nat → Int32) × (Nat → Int32) × (Nat → Int32) × (Nat → Int32) × (Nat → Int32) × (Nat → Int32) × (Nat → Int64)) :=
  bd (f_DC_receive Cd_put Rc_lastMaster Rc_differing Rc_taken Sh_depth Sh_wordBytes Sh_e Sh_pattern Nr_evenRow Rw_length Fo_length Fo_cells Nr_oneIsBetter Rw_cells Nr_distances Nr_pairs Nr_oddRow Rc_facts Rc_lastOfChannel Mx_bytes Rc_bytes Fd_powers Wd_syndromes Fd_logs Wd_coefficients Lc_poly Lc_earlier Lc_spare Lc_places Lc_evaluator Fd_otherForms Fd_elements Rc_putRight x1) fun u22 =>
  nm u22.1 fun r1 =>
  nm u22.2.1 fun v2 =>
  nm u22.2.2.1 fun v3 =>
  nm u22.2.2.2.1 fun v4 =>
  nm u22.2.2.2.2.1 fun g5 =>
  nm u22.2.2.2.2.2.1 fun v6 =>
  nm u22.2.2.2.2.2.2.1 fun g7 =>
  nm u22.2.2.2.2.2.2.2.1 fun g8 =>
  nm u22.2.2.2.2.2.2.2.2.1 fun g9 =>
  nm u22.2.2.2.2.2.2.2.2.2.1 fun g10 =>
  nm u22.2.2.2.2.2.2.2.2.2.2.1 fun g11 =>
  nm u22.2.2.2.2.2.2.2.2.2.2.2.1 fun g12 =>
  nm u22.2.2.2.2.2.2.2.2.2.2.2.2.1 fun g13 =>
  nm u22.2.2.2.2.2.2.2.2.2.2.2.2.2.1 fun g14 =>
  nm u22.2.2.2.2.2.2.2.2.2.2.2.2.2.2.1 fun g15 =>
  nm u22.2.2.2.2.2.2.2.2.2.2.2.2.2.2.2.1 fun g16 =>
  nm u22.2.2.2.2.2.2.2.2.2.2.2.2.2.2.2.2.1 fun g17 =>
  nm u22.2.2.2.2.2.2.2.2.2.2.2.2.2.2.2.2.2.1 fun g18 =>
  nm u22.2.2.2.2.2.2.2.2.2.2.2.2.2.2.2.2.2.2.1 fun g19 =>
  nm u22.2.2.2.2.2.2.2.2.2.2.2.2.2.2.2.2.2.2.2.1 fun g20 =>
  nm u22.2.2.2.2.2.2.2.2.2.2.2.2.2.2.2.2.2.2.2.2 fun g21 =>
  wrL p2 nP2 (0 : Int32) r1.toInt64 fun g23 =>
  some ((0 : Int32), v2, v3, v4, g5, v6, g7, g8, g9, g10, g11, g12, g13, g14, g15, g16, g17, g18, g19, g20, g21, g23)
set_option maxHeartbeats 4000000 in
set_option maxRecDepth 100000 in
theorem c_La_receive (l : Launch) (D : va_G) (cI cJ : ClassId) (tt sa : Nat → Nat) (qX qCd qRc qSh qNr qNr_evenRow qRw qFo qFo_cells qNr_oneIsBetter qRw_cells qNr_distances qNr_pairs qNr_oddRow qRc_facts qRc_lastOfChannel qMx qMx_bytes qRc_bytes qWd qFd qFd_powers qWd_syndromes qFd_logs qWd_coefficients qLc qLc_poly qLc_earlier qLc_spare qLc_places qLc_evaluator qFd_otherForms qFd_elements qRc_putRight qP2 : Nat) (X_shape X_words X_mixer X_sender Cd_shape Cd_row Cd_register Wd_generator Wd_remainder : Value) (nP2 : Nat) (sz : Nat) (Cd_put : Int32) (Rc_lastMaster : Int32) (Rc_differing : Int32) (Rc_taken : Int32) (Sh_depth : Int32) (Sh_wordBytes : Int32) (Sh_e : Int32) (Sh_pattern : Int32) (Nr_evenRow : Nat → Int32) (Rw_length : Int32) (Fo_length : Int32) (Fo_cells : Nat → Int64) (Nr_oneIsBetter : Nat → Int64) (Rw_cells : Nat → Int64) (Nr_distances : Nat → Int32) (Nr_pairs : Nat → Int32) (Nr_oddRow : Nat → Int32) (Rc_facts : Nat → Int32) (Rc_lastOfChannel : Nat → Int32) (Mx_bytes : Nat → Int32) (Rc_bytes : Nat → Int32) (Fd_powers : Nat → Int32) (Wd_syndromes : Nat → Int32) (Fd_logs : Nat → Int32) (Wd_coefficients : Nat → Int32) (Lc_poly : Nat → Int32) (Lc_earlier : Nat → Int32) (Lc_spare : Nat → Int32) (Lc_places : Nat → Int32) (Lc_evaluator : Nat → Int32) (Fd_otherForms : Nat → Int32) (Fd_elements : Nat → Int32) (Rc_putRight : Nat → Int32) (p2 : Nat → Int64) (x1 : Int32) (rr : Int32) (Rc_lastMaster' : Int32) (Rc_differing' : Int32) (Rc_taken' : Int32) (Nr_evenRow' : Nat → Int32) (Fo_length' : Int32) (Fo_cells' : Nat → Int64) (Nr_oneIsBetter' : Nat → Int64) (Nr_distances' : Nat → Int32) (Nr_oddRow' : Nat → Int32) (Rc_facts' : Nat → Int32) (Rc_lastOfChannel' : Nat → Int32) (Rc_bytes' : Nat → Int32) (Wd_syndromes' : Nat → Int32) (Wd_coefficients' : Nat → Int32) (Lc_poly' : Nat → Int32) (Lc_earlier' : Nat → Int32) (Lc_spare' : Nat → Int32) (Lc_places' : Nat → Int32) (Lc_evaluator' : Nat → Int32) (Rc_putRight' : Nat → Int32) (p2' : Nat → Int64) (hm : f_La_receive Cd_put Rc_lastMaster Rc_differing Rc_taken Sh_depth Sh_wordBytes Sh_e Sh_pattern Nr_evenRow Rw_length Fo_length Fo_cells Nr_oneIsBetter Rw_cells Nr_distances Nr_pairs Nr_oddRow Rc_facts Rc_lastOfChannel Mx_bytes Rc_bytes Fd_powers Wd_syndromes Fd_logs Wd_coefficients Lc_poly Lc_earlier Lc_spare Lc_places Lc_evaluator Fd_otherForms Fd_elements Rc_putRight p2 nP2 x1 = some (rr, Rc_lastMaster', Rc_differing', Rc_taken', Nr_evenRow', Fo_length', Fo_cells', Nr_oneIsBetter', Nr_distances', Nr_oddRow', Rc_facts', Rc_lastOfChannel', Rc_bytes', Wd_syndromes', Wd_coefficients', Lc_poly', Lc_earlier', Lc_spare', Lc_places', Lc_evaluator', Rc_putRight', p2')) : CWi l y_La_receive b_La_receive 4 (some .int) [(0, 9, 12, 13)] (RM 7 185) D cI cJ tt sa [.ref qX, .int x1, .ref qP2] (w_La_receive cI cJ qX qCd qRc qSh qNr qNr_evenRow qRw qFo qFo_cells qNr_oneIsBetter qRw_cells qNr_distances qNr_pairs qNr_oddRow qRc_facts qRc_lastOfChannel qMx qMx_bytes qRc_bytes qWd qFd qFd_powers qWd_syndromes qFd_logs qWd_coefficients qLc qLc_poly qLc_earlier qLc_spare qLc_places qLc_evaluator qFd_otherForms qFd_elements qRc_putRight qP2 X_shape X_words X_mixer X_sender Cd_shape Cd_row Cd_register Wd_generator Wd_remainder nP2 Cd_put Rc_lastMaster Rc_differing Rc_taken Sh_depth Sh_wordBytes Sh_e Sh_pattern Nr_evenRow Rw_length Fo_length Fo_cells Nr_oneIsBetter Rw_cells Nr_distances Nr_pairs Nr_oddRow Rc_facts Rc_lastOfChannel Mx_bytes Rc_bytes Fd_powers Wd_syndromes Fd_logs Wd_coefficients Lc_poly Lc_earlier Lc_spare Lc_places Lc_evaluator Fd_otherForms Fd_elements Rc_putRight p2) (w_La_receive cI cJ qX qCd qRc qSh qNr qNr_evenRow qRw qFo qFo_cells qNr_oneIsBetter qRw_cells qNr_distances qNr_pairs qNr_oddRow qRc_facts qRc_lastOfChannel qMx qMx_bytes qRc_bytes qWd qFd qFd_powers qWd_syndromes qFd_logs qWd_coefficients qLc qLc_poly qLc_earlier qLc_spare qLc_places qLc_evaluator qFd_otherForms qFd_elements qRc_putRight qP2 X_shape X_words X_mixer X_sender Cd_shape Cd_row Cd_register Wd_generator Wd_remainder nP2 Cd_put Rc_lastMaster' Rc_differing' Rc_taken' Sh_depth Sh_wordBytes Sh_e Sh_pattern Nr_evenRow' Rw_length Fo_length' Fo_cells' Nr_oneIsBetter' Rw_cells Nr_distances' Nr_pairs Nr_oddRow' Rc_facts' Rc_lastOfChannel' Mx_bytes Rc_bytes' Fd_powers Wd_syndromes' Fd_logs Wd_coefficients' Lc_poly' Lc_earlier' Lc_spare' Lc_places' Lc_evaluator' Fd_otherForms Fd_elements Rc_putRight' p2') sz rr 0 0 := by
  refine va_MetW (cc := b_La_receive) (maxL := 4) (ret := (some .int)) (hh := [(0, 9, 12, 13)]) (by decide) rfl ?_
  intro p e s m args below meth c s₁ B hml hv
  obtain ⟨hargs, ⟨⟨hsz, hP, hK, hD0, hE⟩, hY⟩, hN1, hN2⟩ := hv
  have hx := B.exec
  have hb := B.bytes
  have hr := B.returns
  have hall := atoms_spec (ws := WW y_La_receive b_La_receive 4 (some .int) [(0, 9, 12, 13)]) B.pre
  have hts : ∀ w ∈ TB, w.before args s = true := fun w h => hall w (List.mem_cons_of_mem _ h)
  have htab := y_table B (hall _ List.mem_cons_self)
  have hown : s.vm.findClass "DeepChannelLaw" = some m.cls := findClass_of_methodNamed B.named
  have hlocks := B.notSynchronized
  subst hsz
  have hD := hD0.self (sz := s.heap.size)
  generalize hAe : va_A (w_La_receive cI cJ qX qCd qRc qSh qNr qNr_evenRow qRw qFo qFo_cells qNr_oneIsBetter qRw_cells qNr_distances qNr_pairs qNr_oddRow qRc_facts qRc_lastOfChannel qMx qMx_bytes qRc_bytes qWd qFd qFd_powers qWd_syndromes qFd_logs qWd_coefficients qLc qLc_poly qLc_earlier qLc_spare qLc_places qLc_evaluator qFd_otherForms qFd_elements qRc_putRight qP2 X_shape X_words X_mixer X_sender Cd_shape Cd_row Cd_register Wd_generator Wd_remainder nP2 Cd_put Rc_lastMaster Rc_differing Rc_taken Sh_depth Sh_wordBytes Sh_e Sh_pattern Nr_evenRow Rw_length Fo_length Fo_cells Nr_oneIsBetter Rw_cells Nr_distances Nr_pairs Nr_oddRow Rc_facts Rc_lastOfChannel Mx_bytes Rc_bytes Fd_powers Wd_syndromes Fd_logs Wd_coefficients Lc_poly Lc_earlier Lc_spare Lc_places Lc_evaluator Fd_otherForms Fd_elements Rc_putRight p2) s.heap.size = A at hD hE hY ⊢
  have hA : ∀ q : Nat, s.heap.size ≤ q → A q := fun q h => by rw [← hAe]; exact Or.inr h
  have hS : va_S A s.heap s.heap [] := va_S.rf
  refine z_entry (vs := [.ref qX, .int x1, .ref qP2]) hargs (Nat.le_of_ble_eq_true rfl) (fun ls hl => ?_)
  have hl : lv_has ls 4 [(0, .ref qX), (1, .int x1), (2, .ref qP2)] := hl
  show W p l e (RM 7 185) s m args below meth c s.heap [] 0 0 _ _
  refine z_qi (fun Q0 hQ => ?_)
  have F : CallFix p m c b_La_receive 4 s args TB "DeepChannelLaw" := ⟨hx, hb, hml, hown, hts⟩
  unfold f_La_receive at hm
  refine lv_aload_n hx hb d_La_receive_0 rfl (lv_at hl 2 rfl) ?_
  refine lv_iconst (v := (0 : Int32)) hx hb d_La_receive_1 (by decide) ?_
  refine lv_aload_n hx hb d_La_receive_2 rfl (lv_at hl 0 rfl) ?_
  refine lv_iload_n hx hb d_La_receive_3 rfl (lv_at hl 1 rfl) ?_
  obtain ⟨⟨r1, v2, v3, v4, g5, v6, g7, g8, g9, g10, g11, g12, g13, g14, g15, g16, g17, g18, g19, g20, g21⟩, hu, hm⟩ := bd_el hm
  replace hm := nm_21 hm
  refine z_cVi (wc := w_DC_receive cI cJ qX qCd qRc qSh qNr qNr_evenRow qRw qFo qFo_cells qNr_oneIsBetter qRw_cells qNr_distances qNr_pairs qNr_oddRow qRc_facts qRc_lastOfChannel qMx qMx_bytes qRc_bytes qWd qFd qFd_powers qWd_syndromes qFd_logs qWd_coefficients qLc qLc_poly qLc_earlier qLc_spare qLc_places qLc_evaluator qFd_otherForms qFd_elements qRc_putRight X_shape X_words X_mixer X_sender Cd_shape Cd_row Cd_register Wd_generator Wd_remainder Cd_put Rc_lastMaster Rc_differing Rc_taken Sh_depth Sh_wordBytes Sh_e Sh_pattern Nr_evenRow Rw_length Fo_length Fo_cells Nr_oneIsBetter Rw_cells Nr_distances Nr_pairs Nr_oddRow Rc_facts Rc_lastOfChannel Mx_bytes Rc_bytes Fd_powers Wd_syndromes Fd_logs Wd_coefficients Lc_poly Lc_earlier Lc_spare Lc_places Lc_evaluator Fd_otherForms Fd_elements Rc_putRight) (wc' := w_DC_receive cI cJ qX qCd qRc qSh qNr qNr_evenRow qRw qFo qFo_cells qNr_oneIsBetter qRw_cells qNr_distances qNr_pairs qNr_oddRow qRc_facts qRc_lastOfChannel qMx qMx_bytes qRc_bytes qWd qFd qFd_powers qWd_syndromes qFd_logs qWd_coefficients qLc qLc_poly qLc_earlier qLc_spare qLc_places qLc_evaluator qFd_otherForms qFd_elements qRc_putRight X_shape X_words X_mixer X_sender Cd_shape Cd_row Cd_register Wd_generator Wd_remainder Cd_put v2 v3 v4 Sh_depth Sh_wordBytes Sh_e Sh_pattern g5 Rw_length v6 g7 g8 Rw_cells g9 Nr_pairs g10 g11 g12 Mx_bytes g13 Fd_powers g14 Fd_logs g15 g16 g17 g18 g19 g20 Fd_otherForms Fd_elements g21) (wr := [(qP2, .inl (cJ, nP2, .inr (.inl p2)))]) (As := [.int x1]) (rest := [.int (0 : Int32), .ref qP2]) (c_DC_receive l D cI cJ tt qX qCd qRc qSh qNr qNr_evenRow qRw qFo qFo_cells qNr_oneIsBetter qRw_cells qNr_distances qNr_pairs qNr_oddRow qRc_facts qRc_lastOfChannel qMx qMx_bytes qRc_bytes qWd qFd qFd_powers qWd_syndromes qFd_logs qWd_coefficients qLc qLc_poly qLc_earlier qLc_spare qLc_places qLc_evaluator qFd_otherForms qFd_elements qRc_putRight X_shape X_words X_mixer X_sender Cd_shape Cd_row Cd_register Wd_generator Wd_remainder _ Cd_put Rc_lastMaster Rc_differing Rc_taken Sh_depth Sh_wordBytes Sh_e Sh_pattern Nr_evenRow Rw_length Fo_length Fo_cells Nr_oneIsBetter Rw_cells Nr_distances Nr_pairs Nr_oddRow Rc_facts Rc_lastOfChannel Mx_bytes Rc_bytes Fd_powers Wd_syndromes Fd_logs Wd_coefficients Lc_poly Lc_earlier Lc_spare Lc_places Lc_evaluator Fd_otherForms Fd_elements Rc_putRight x1 r1 v2 v3 v4 g5 v6 g7 g8 g9 g10 g11 g12 g13 g14 g15 g16 g17 g18 g19 g20 g21 hu) F ok_DC_receive rfl k_679 hK hE hP hD hS hA [0, 1, 2, 3, 4, 5, 6, 7, 8, 9, 10, 11, 12, 13, 14, 15, 16, 17, 18, 19, 20, 21, 22, 23, 24, 25, 26, 27, 28, 29, 30, 31, 32, 33] [34] rfl rfl (by decide) (by decide) (by decide) 0 rfl rfl rfl ⟨rfl, rfl, Nat.le_of_ble_eq_true rfl, Nat.le_of_ble_eq_true rfl⟩ ⟨Nat.zero_le _, Nat.zero_le _⟩ rfl hl.1 rfl (Nat.le_of_ble_eq_true rfl) d_La_receive_4 (fun H locs hP hD hS => ?_)
  have hP : va_P D classes (w_La_receive cI cJ qX qCd qRc qSh qNr qNr_evenRow qRw qFo qFo_cells qNr_oneIsBetter qRw_cells qNr_distances qNr_pairs qNr_oddRow qRc_facts qRc_lastOfChannel qMx qMx_bytes qRc_bytes qWd qFd qFd_powers qWd_syndromes qFd_logs qWd_coefficients qLc qLc_poly qLc_earlier qLc_spare qLc_places qLc_evaluator qFd_otherForms qFd_elements qRc_putRight qP2 X_shape X_words X_mixer X_sender Cd_shape Cd_row Cd_register Wd_generator Wd_remainder nP2 Cd_put v2 v3 v4 Sh_depth Sh_wordBytes Sh_e Sh_pattern g5 Rw_length v6 g7 g8 Rw_cells g9 Nr_pairs g10 g11 g12 Mx_bytes g13 Fd_powers g14 Fd_logs g15 g16 g17 g18 g19 g20 Fd_otherForms Fd_elements g21 p2) H := hP.sub [1, 2, 3, 4, 5, 6, 7, 8, 9, 10, 11, 12, 13, 14, 15, 16, 17, 18, 19, 20, 21, 22, 23, 24, 25, 26, 27, 28, 29, 30, 31, 32, 33, 34, 0] rfl
  have hD : va_D A (w_La_receive cI cJ qX qCd qRc qSh qNr qNr_evenRow qRw qFo qFo_cells qNr_oneIsBetter qRw_cells qNr_distances qNr_pairs qNr_oddRow qRc_facts qRc_lastOfChannel qMx qMx_bytes qRc_bytes qWd qFd qFd_powers qWd_syndromes qFd_logs qWd_coefficients qLc qLc_poly qLc_earlier qLc_spare qLc_places qLc_evaluator qFd_otherForms qFd_elements qRc_putRight qP2 X_shape X_words X_mixer X_sender Cd_shape Cd_row Cd_register Wd_generator Wd_remainder nP2 Cd_put v2 v3 v4 Sh_depth Sh_wordBytes Sh_e Sh_pattern g5 Rw_length v6 g7 g8 Rw_cells g9 Nr_pairs g10 g11 g12 Mx_bytes g13 Fd_powers g14 Fd_logs g15 g16 g17 g18 g19 g20 Fd_otherForms Fd_elements g21 p2) := hD.sub [1, 2, 3, 4, 5, 6, 7, 8, 9, 10, 11, 12, 13, 14, 15, 16, 17, 18, 19, 20, 21, 22, 23, 24, 25, 26, 27, 28, 29, 30, 31, 32, 33, 34, 0] (by decide) rfl
  refine lv_i2l (v := r1.toInt64) hx hb d_La_receive_7 rfl ?_
  refine z_last hm hx hb hK hP hD hS 34 rfl d_La_receive_8 (fun g23 hm H locs hP hD hS => ?_)
  have hP : va_P D classes (w_La_receive cI cJ qX qCd qRc qSh qNr qNr_evenRow qRw qFo qFo_cells qNr_oneIsBetter qRw_cells qNr_distances qNr_pairs qNr_oddRow qRc_facts qRc_lastOfChannel qMx qMx_bytes qRc_bytes qWd qFd qFd_powers qWd_syndromes qFd_logs qWd_coefficients qLc qLc_poly qLc_earlier qLc_spare qLc_places qLc_evaluator qFd_otherForms qFd_elements qRc_putRight qP2 X_shape X_words X_mixer X_sender Cd_shape Cd_row Cd_register Wd_generator Wd_remainder nP2 Cd_put v2 v3 v4 Sh_depth Sh_wordBytes Sh_e Sh_pattern g5 Rw_length v6 g7 g8 Rw_cells g9 Nr_pairs g10 g11 g12 Mx_bytes g13 Fd_powers g14 Fd_logs g15 g16 g17 g18 g19 g20 Fd_otherForms Fd_elements g21 g23) H := hP
  have hD : va_D A (w_La_receive cI cJ qX qCd qRc qSh qNr qNr_evenRow qRw qFo qFo_cells qNr_oneIsBetter qRw_cells qNr_distances qNr_pairs qNr_oddRow qRc_facts qRc_lastOfChannel qMx qMx_bytes qRc_bytes qWd qFd qFd_powers qWd_syndromes qFd_logs qWd_coefficients qLc qLc_poly qLc_earlier qLc_spare qLc_places qLc_evaluator qFd_otherForms qFd_elements qRc_putRight qP2 X_shape X_words X_mixer X_sender Cd_shape Cd_row Cd_register Wd_generator Wd_remainder nP2 Cd_put v2 v3 v4 Sh_depth Sh_wordBytes Sh_e Sh_pattern g5 Rw_length v6 g7 g8 Rw_cells g9 Nr_pairs g10 g11 g12 Mx_bytes g13 Fd_powers g14 Fd_logs g15 g16 g17 g18 g19 g20 Fd_otherForms Fd_elements g21 g23) := hD
  refine lv_goto (tgt := 15) hx hb d_La_receive_9 (by decide) ?_
  refine lv_iconst (v := (0 : Int32)) hx hb d_La_receive_15 (by decide) ?_
  cases hm
  exact z_qo hQ (z_ireti hr hx hb hlocks hK hP hD hS d_La_receive_16)
set_option maxHeartbeats 4000000 in
set_option maxRecDepth 100000 in
theorem cw_La_receive_1 (l : Launch) (hfl : l.flags = pinnedFlags ++ [noTraceFlag]) (D : va_G) (cI cJ : ClassId) (tt sa : Nat → Nat) (qX qCd qRc qSh qNr qNr_evenRow qRw qFo qFo_cells qNr_oneIsBetter qRw_cells qNr_distances qNr_pairs qNr_oddRow qRc_facts qRc_lastOfChannel qMx qMx_bytes qRc_bytes qWd qFd qFd_powers qWd_syndromes qFd_logs qWd_coefficients qLc qLc_poly qLc_earlier qLc_spare qLc_places qLc_evaluator qFd_otherForms qFd_elements qRc_putRight qP2 : Nat) (X_shape X_words X_mixer X_sender Cd_shape Cd_row Cd_register Wd_generator Wd_remainder : Value) (nP2 : Nat) (sz : Nat) (Cd_put : Int32) (Rc_lastMaster : Int32) (Rc_differing : Int32) (Rc_taken : Int32) (Sh_depth : Int32) (Sh_wordBytes : Int32) (Sh_e : Int32) (Sh_pattern : Int32) (Nr_evenRow : Nat → Int32) (Rw_length : Int32) (Fo_length : Int32) (Fo_cells : Nat → Int64) (Nr_oneIsBetter : Nat → Int64) (Rw_cells : Nat → Int64) (Nr_distances : Nat → Int32) (Nr_pairs : Nat → Int32) (Nr_oddRow : Nat → Int32) (Rc_facts : Nat → Int32) (Rc_lastOfChannel : Nat → Int32) (Mx_bytes : Nat → Int32) (Rc_bytes : Nat → Int32) (Fd_powers : Nat → Int32) (Wd_syndromes : Nat → Int32) (Fd_logs : Nat → Int32) (Wd_coefficients : Nat → Int32) (Lc_poly : Nat → Int32) (Lc_earlier : Nat → Int32) (Lc_spare : Nat → Int32) (Lc_places : Nat → Int32) (Lc_evaluator : Nat → Int32) (Fd_otherForms : Nat → Int32) (Fd_elements : Nat → Int32) (Rc_putRight : Nat → Int32) (p2 : Nat → Int64) (x1 : Int32) (hm : g_DC_receive x1 = some 1) : CWi l y_La_receive b_La_receive 4 (some .int) [(0, 9, 12, 13)] (RC 7 1 6 103) D cI cJ tt sa [.ref qX, .int x1, .ref qP2] (w_La_receive cI cJ qX qCd qRc qSh qNr qNr_evenRow qRw qFo qFo_cells qNr_oneIsBetter qRw_cells qNr_distances qNr_pairs qNr_oddRow qRc_facts qRc_lastOfChannel qMx qMx_bytes qRc_bytes qWd qFd qFd_powers qWd_syndromes qFd_logs qWd_coefficients qLc qLc_poly qLc_earlier qLc_spare qLc_places qLc_evaluator qFd_otherForms qFd_elements qRc_putRight qP2 X_shape X_words X_mixer X_sender Cd_shape Cd_row Cd_register Wd_generator Wd_remainder nP2 Cd_put Rc_lastMaster Rc_differing Rc_taken Sh_depth Sh_wordBytes Sh_e Sh_pattern Nr_evenRow Rw_length Fo_length Fo_cells Nr_oneIsBetter Rw_cells Nr_distances Nr_pairs Nr_oddRow Rc_facts Rc_lastOfChannel Mx_bytes Rc_bytes Fd_powers Wd_syndromes Fd_logs Wd_coefficients Lc_poly Lc_earlier Lc_spare Lc_places Lc_evaluator Fd_otherForms Fd_elements Rc_putRight p2) (w_La_receive cI cJ qX qCd qRc qSh qNr qNr_evenRow qRw qFo qFo_cells qNr_oneIsBetter qRw_cells qNr_distances qNr_pairs qNr_oddRow qRc_facts qRc_lastOfChannel qMx qMx_bytes qRc_bytes qWd qFd qFd_powers qWd_syndromes qFd_logs qWd_coefficients qLc qLc_poly qLc_earlier qLc_spare qLc_places qLc_evaluator qFd_otherForms qFd_elements qRc_putRight qP2 X_shape X_words X_mixer X_sender Cd_shape Cd_row Cd_register Wd_generator Wd_remainder nP2 Cd_put Rc_lastMaster Rc_differing Rc_taken Sh_depth Sh_wordBytes Sh_e Sh_pattern Nr_evenRow Rw_length Fo_length Fo_cells Nr_oneIsBetter Rw_cells Nr_distances Nr_pairs Nr_oddRow Rc_facts Rc_lastOfChannel Mx_bytes Rc_bytes Fd_powers Wd_syndromes Fd_logs Wd_coefficients Lc_poly Lc_earlier Lc_spare Lc_places Lc_evaluator Fd_otherForms Fd_elements Rc_putRight p2) sz 1 1 6 := by
  refine va_MetW (cc := b_La_receive) (maxL := 4) (ret := (some .int)) (hh := [(0, 9, 12, 13)]) (by decide) rfl ?_
  intro p e s m args below meth c s₁ B hml hv
  obtain ⟨hargs, ⟨⟨hsz, hP, hK, hD0, hE⟩, hY⟩, hN1, hN2⟩ := hv
  have hx := B.exec
  have hb := B.bytes
  have hr := B.returns
  have hall := atoms_spec (ws := WW y_La_receive b_La_receive 4 (some .int) [(0, 9, 12, 13)]) B.pre
  have hts : ∀ w ∈ TB, w.before args s = true := fun w h => hall w (List.mem_cons_of_mem _ h)
  have htab := y_table B (hall _ List.mem_cons_self)
  have hown : s.vm.findClass "DeepChannelLaw" = some m.cls := findClass_of_methodNamed B.named
  have hlocks := B.notSynchronized
  subst hsz
  have hD := hD0.self (sz := s.heap.size)
  generalize hAe : va_A (w_La_receive cI cJ qX qCd qRc qSh qNr qNr_evenRow qRw qFo qFo_cells qNr_oneIsBetter qRw_cells qNr_distances qNr_pairs qNr_oddRow qRc_facts qRc_lastOfChannel qMx qMx_bytes qRc_bytes qWd qFd qFd_powers qWd_syndromes qFd_logs qWd_coefficients qLc qLc_poly qLc_earlier qLc_spare qLc_places qLc_evaluator qFd_otherForms qFd_elements qRc_putRight qP2 X_shape X_words X_mixer X_sender Cd_shape Cd_row Cd_register Wd_generator Wd_remainder nP2 Cd_put Rc_lastMaster Rc_differing Rc_taken Sh_depth Sh_wordBytes Sh_e Sh_pattern Nr_evenRow Rw_length Fo_length Fo_cells Nr_oneIsBetter Rw_cells Nr_distances Nr_pairs Nr_oddRow Rc_facts Rc_lastOfChannel Mx_bytes Rc_bytes Fd_powers Wd_syndromes Fd_logs Wd_coefficients Lc_poly Lc_earlier Lc_spare Lc_places Lc_evaluator Fd_otherForms Fd_elements Rc_putRight p2) s.heap.size = A at hD hE hY ⊢
  have hA : ∀ q : Nat, s.heap.size ≤ q → A q := fun q h => by rw [← hAe]; exact Or.inr h
  have hS : va_S A s.heap s.heap [] := va_S.rf
  refine z_entry (vs := [.ref qX, .int x1, .ref qP2]) hargs (Nat.le_of_ble_eq_true rfl) (fun ls hl => ?_)
  have hl : lv_has ls 4 [(0, .ref qX), (1, .int x1), (2, .ref qP2)] := hl
  show W p l e (RC 7 1 6 103) s m args below meth c s.heap [] 0 0 _ _
  refine z_qi (fun Q0 hQ => ?_)
  have F : CallFix p m c b_La_receive 4 s args TB "DeepChannelLaw" := ⟨hx, hb, hml, hown, hts⟩
  refine lv_aload_n hx hb d_La_receive_0 rfl (lv_at hl 2 rfl) ?_
  refine lv_iconst (v := (0 : Int32)) hx hb d_La_receive_1 (by decide) ?_
  refine lv_aload_n hx hb d_La_receive_2 rfl (lv_at hl 0 rfl) ?_
  refine lv_iload_n hx hb d_La_receive_3 rfl (lv_at hl 1 rfl) ?_
  refine z_cT (wc := w_DC_receive cI cJ qX qCd qRc qSh qNr qNr_evenRow qRw qFo qFo_cells qNr_oneIsBetter qRw_cells qNr_distances qNr_pairs qNr_oddRow qRc_facts qRc_lastOfChannel qMx qMx_bytes qRc_bytes qWd qFd qFd_powers qWd_syndromes qFd_logs qWd_coefficients qLc qLc_poly qLc_earlier qLc_spare qLc_places qLc_evaluator qFd_otherForms qFd_elements qRc_putRight X_shape X_words X_mixer X_sender Cd_shape Cd_row Cd_register Wd_generator Wd_remainder Cd_put Rc_lastMaster Rc_differing Rc_taken Sh_depth Sh_wordBytes Sh_e Sh_pattern Nr_evenRow Rw_length Fo_length Fo_cells Nr_oneIsBetter Rw_cells Nr_distances Nr_pairs Nr_oddRow Rc_facts Rc_lastOfChannel Mx_bytes Rc_bytes Fd_powers Wd_syndromes Fd_logs Wd_coefficients Lc_poly Lc_earlier Lc_spare Lc_places Lc_evaluator Fd_otherForms Fd_elements Rc_putRight) (As := [.int x1]) (rest := [.int (0 : Int32), .ref qP2]) (hpc := 12) (t_DC_receive_1 l hfl D cI cJ tt sa qX qCd qRc qSh qNr qNr_evenRow qRw qFo qFo_cells qNr_oneIsBetter qRw_cells qNr_distances qNr_pairs qNr_oddRow qRc_facts qRc_lastOfChannel qMx qMx_bytes qRc_bytes qWd qFd qFd_powers qWd_syndromes qFd_logs qWd_coefficients qLc qLc_poly qLc_earlier qLc_spare qLc_places qLc_evaluator qFd_otherForms qFd_elements qRc_putRight X_shape X_words X_mixer X_sender Cd_shape Cd_row Cd_register Wd_generator Wd_remainder _ Cd_put Rc_lastMaster Rc_differing Rc_taken Sh_depth Sh_wordBytes Sh_e Sh_pattern Nr_evenRow Rw_length Fo_length Fo_cells Nr_oneIsBetter Rw_cells Nr_distances Nr_pairs Nr_oddRow Rc_facts Rc_lastOfChannel Mx_bytes Rc_bytes Fd_powers Wd_syndromes Fd_logs Wd_coefficients Lc_poly Lc_earlier Lc_spare Lc_places Lc_evaluator Fd_otherForms Fd_elements Rc_putRight x1 hm) F ok_DC_receive k_679 hK hE hY hP hD hS hA [0, 1, 2, 3, 4, 5, 6, 7, 8, 9, 10, 11, 12, 13, 14, 15, 16, 17, 18, 19, 20, 21, 22, 23, 24, 25, 26, 27, 28, 29, 30, 31, 32, 33] rfl (by decide) 0 rfl rfl rfl ⟨rfl, rfl, Nat.le_of_ble_eq_true rfl, Nat.le_of_ble_eq_true rfl⟩ ⟨Nat.le_of_ble_eq_true rfl, Nat.le_of_ble_eq_true rfl⟩ rfl hl.1 rfl (Nat.le_of_ble_eq_true rfl) d_La_receive_4 (fun T' x ce XX h1 h2 h3 => y_catch1 XX hown (hts _ k_396) (by decide) htab ⟨Nat.le_of_ble_eq_true rfl, Nat.le_of_ble_eq_true rfl⟩ (va_Nw.use rfl (hY.2.2.1 _ (List.mem_of_getElem? (i := 3) rfl))) rfl h1 h2 h3) (fun qz H hP hS => ?_)
  refine lv_astore_n (lv' := [(3, .ref qz), (0, .ref qX), (1, .int x1), (2, .ref qP2)]) hx hb d_La_receive_12 rfl hl (by decide) rfl (fun ls hl => ?_)
  refine lv_iconst (v := (1 : Int32)) hx hb d_La_receive_13 (by decide) ?_
  exact z_qo hQ (z_ireti hr hx hb hlocks hK hP hD hS d_La_receive_14)
-- DeepChannelLaw.block(LDeepChannel;II[J)I
abbrev b_La_block : ByteArray := method_11_code
abbrev y_La_block : MethodName := ⟨"DeepChannelLaw", "block", "(LDeepChannel;II[J)I"⟩
theorem d_La_block_0 : decode b_La_block 0 = .ok (.aload_n 3, 1) := by decide +kernel
theorem d_La_block_1 : decode b_La_block 1 = .ok (.iconst 0, 1) := by decide +kernel
theorem d_La_block_2 : decode b_La_block 2 = .ok (.aload_n 0, 1) := by decide +kernel
theorem d_La_block_3 : decode b_La_block 3 = .ok (.iload_n 1, 1) := by decide +kernel
theorem d_La_block_4 : decode b_La_block 4 = .ok (.iload_n 2, 1) := by decide +kernel
theorem d_La_block_5 : decode b_La_block 5 = .ok (.invokevirtual 41, 3) := by decide +kernel
theorem d_La_block_8 : decode b_La_block 8 = .ok (.i2l, 1) := by decide +kernel
theorem d_La_block_9 : decode b_La_block 9 = .ok (.lastore, 1) := by decide +kernel
theorem d_La_block_10 : decode b_La_block 10 = .ok (.goto 11, 3) := by decide +kernel
theorem d_La_block_13 : decode b_La_block 13 = .ok (.astore 4, 2) := by decide +kernel
theorem d_La_block_15 : decode b_La_block 15 = .ok (.iconst 1, 1) := by decide +kernel
theorem d_La_block_16 : decode b_La_block 16 = .ok (.ireturn, 1) := by decide +kernel
theorem d_La_block_17 : decode b_La_block 17 = .ok (.astore 4, 2) := by decide +kernel
theorem d_La_block_19 : decode b_La_block 19 = .ok (.iconst 2, 1) := by decide +kernel
theorem d_La_block_20 : decode b_La_block 20 = .ok (.ireturn, 1) := by decide +kernel
theorem d_La_block_21 : decode b_La_block 21 = .ok (.iconst 0, 1) := by decide +kernel
theorem d_La_block_22 : decode b_La_block 22 = .ok (.ireturn, 1) := by decide +kernel
abbrev w_La_block (cI cJ : ClassId) (qX qRc qRc_facts qP3 : Nat) (X_shape X_words X_mixer X_row X_coder X_sender Rc_shape Rc_words Rc_mixer Rc_nearest Rc_found Rc_bytes Rc_putRight Rc_lastOfChannel Rc_lastMaster Rc_differing : Value) (nP3 : Nat) (Rc_taken : Int32) (Rc_facts : Nat → Int32) (p3 : Nat → Int64) : va_W := [(qX, .inr (10, [X_shape, X_words, X_mixer, X_row, X_coder, X_sender, .ref qRc])), (qRc, .inr (6, [Rc_shape, Rc_words, Rc_mixer, Rc_nearest, Rc_found, Rc_bytes, .ref qRc_facts, Rc_putRight, Rc_lastOfChannel, Rc_lastMaster, Rc_differing, .int Rc_taken])), (qRc_facts, .inl (cI, 144, .inl Rc_facts)), (qP3, .inl (cJ, nP3, .inr (.inl p3)))]
def f_La_block (Rc_taken : Int32) (Rc_facts : Nat → Int32) (p3 : Nat → Int64) (nP3 : Nat) (x1 : Int32) (x2 : Int32) : Option (Int32 × (Nat → Int64)) :=
  bd (f_DC_block Rc_taken Rc_facts x1 x2) fun u2 =>
  nm u2 fun r1 =>
  wrL p3 nP3 (0 : Int32) r1.toInt64 fun g3 =>
  some ((0 : Int32), g3)
set_option maxHeartbeats 4000000 in
set_option maxRecDepth 100000 in
theorem c_La_block (l : Launch) (D : va_G) (cI cJ : ClassId) (tt sa : Nat → Nat) (qX qRc qRc_facts qP3 : Nat) (X_shape X_words X_mixer X_row X_coder X_sender Rc_shape Rc_words Rc_mixer Rc_nearest Rc_found Rc_bytes Rc_putRight Rc_lastOfChannel Rc_lastMaster Rc_differing : Value) (nP3 : Nat) (sz : Nat) (Rc_taken : Int32) (Rc_facts : Nat → Int32) (p3 : Nat → Int64) (x1 : Int32) (x2 : Int32) (rr : Int32) (p3' : Nat → Int64) (hm : f_La_block Rc_taken Rc_facts p3 nP3 x1 x2 = some (rr, p3')) : CWi l y_La_block b_La_block 5 (some .int) [(0, 10, 13, 13), (0, 10, 17, 45)] (RM 2 44) D cI cJ tt sa [.ref qX, .int x1, .int x2, .ref qP3] (w_La_block cI cJ qX qRc qRc_facts qP3 X_shape X_words X_mixer X_row X_coder X_sender Rc_shape Rc_words Rc_mixer Rc_nearest Rc_found Rc_bytes Rc_putRight Rc_lastOfChannel Rc_lastMaster Rc_differing nP3 Rc_taken Rc_facts p3) (w_La_block cI cJ qX qRc qRc_facts qP3 X_shape X_words X_mixer X_row X_coder X_sender Rc_shape Rc_words Rc_mixer Rc_nearest Rc_found Rc_bytes Rc_putRight Rc_lastOfChannel Rc_lastMaster Rc_differing nP3 Rc_taken Rc_facts p3') sz rr 0 0 := by
  refine va_MetW (cc := b_La_block) (maxL := 5) (ret := (some .int)) (hh := [(0, 10, 13, 13), (0, 10, 17, 45)]) (by decide) rfl ?_
  intro p e s m args below meth c s₁ B hml hv
  obtain ⟨hargs, ⟨⟨hsz, hP, hK, hD0, hE⟩, hY⟩, hN1, hN2⟩ := hv
  have hx := B.exec
  have hb := B.bytes
  have hr := B.returns
  have hall := atoms_spec (ws := WW y_La_block b_La_block 5 (some .int) [(0, 10, 13, 13), (0, 10, 17, 45)]) B.pre
  have hts : ∀ w ∈ TB, w.before args s = true := fun w h => hall w (List.mem_cons_of_mem _ h)
  have htab := y_table B (hall _ List.mem_cons_self)
  have hown : s.vm.findClass "DeepChannelLaw" = some m.cls := findClass_of_methodNamed B.named
  have hlocks := B.notSynchronized
  subst hsz
  have hD := hD0.self (sz := s.heap.size)
  generalize hAe : va_A (w_La_block cI cJ qX qRc qRc_facts qP3 X_shape X_words X_mixer X_row X_coder X_sender Rc_shape Rc_words Rc_mixer Rc_nearest Rc_found Rc_bytes Rc_putRight Rc_lastOfChannel Rc_lastMaster Rc_differing nP3 Rc_taken Rc_facts p3) s.heap.size = A at hD hE hY ⊢
  have hA : ∀ q : Nat, s.heap.size ≤ q → A q := fun q h => by rw [← hAe]; exact Or.inr h
  have hS : va_S A s.heap s.heap [] := va_S.rf
  refine z_entry (vs := [.ref qX, .int x1, .int x2, .ref qP3]) hargs (Nat.le_of_ble_eq_true rfl) (fun ls hl => ?_)
  have hl : lv_has ls 5 [(0, .ref qX), (1, .int x1), (2, .int x2), (3, .ref qP3)] := hl
  show W p l e (RM 2 44) s m args below meth c s.heap [] 0 0 _ _
  refine z_qi (fun Q0 hQ => ?_)
  have F : CallFix p m c b_La_block 5 s args TB "DeepChannelLaw" := ⟨hx, hb, hml, hown, hts⟩
  unfold f_La_block at hm
  refine lv_aload_n hx hb d_La_block_0 rfl (lv_at hl 3 rfl) ?_
  refine lv_iconst (v := (0 : Int32)) hx hb d_La_block_1 (by decide) ?_
  refine lv_aload_n hx hb d_La_block_2 rfl (lv_at hl 0 rfl) ?_
  refine lv_iload_n hx hb d_La_block_3 rfl (lv_at hl 1 rfl) ?_
  refine lv_iload_n hx hb d_La_block_4 rfl (lv_at hl 2 rfl) ?_
  obtain ⟨r1, hu, hm⟩ := bd_el hm
  replace hm := nm_1 hm
  refine z_cVi (wc := w_DC_block cI cJ qX qRc qRc_facts X_shape X_words X_mixer X_row X_coder X_sender Rc_shape Rc_words Rc_mixer Rc_nearest Rc_found Rc_bytes Rc_putRight Rc_lastOfChannel Rc_lastMaster Rc_differing Rc_taken Rc_facts) (wc' := w_DC_block cI cJ qX qRc qRc_facts X_shape X_words X_mixer X_row X_coder X_sender Rc_shape Rc_words Rc_mixer Rc_nearest Rc_found Rc_bytes Rc_putRight Rc_lastOfChannel Rc_lastMaster Rc_differing Rc_taken Rc_facts) (wr := [(qP3, .inl (cJ, nP3, .inr (.inl p3)))]) (As := [.int x1, .int x2]) (rest := [.int (0 : Int32), .ref qP3]) (c_DC_block l D cI cJ tt qX qRc qRc_facts X_shape X_words X_mixer X_row X_coder X_sender Rc_shape Rc_words Rc_mixer Rc_nearest Rc_found Rc_bytes Rc_putRight Rc_lastOfChannel Rc_lastMaster Rc_differing _ Rc_taken Rc_facts x1 x2 r1 hu) F ok_DC_block rfl k_821 hK hE hP hD hS hA [0, 1, 2] [3] rfl rfl (by decide) (by decide) (by decide) 0 rfl rfl rfl ⟨rfl, rfl, Nat.le_of_ble_eq_true rfl, Nat.le_of_ble_eq_true rfl⟩ ⟨Nat.zero_le _, Nat.zero_le _⟩ rfl hl.1 rfl (Nat.le_of_ble_eq_true rfl) d_La_block_5 (fun H locs hP hD hS => ?_)
  have hP : va_P D classes (w_La_block cI cJ qX qRc qRc_facts qP3 X_shape X_words X_mixer X_row X_coder X_sender Rc_shape Rc_words Rc_mixer Rc_nearest Rc_found Rc_bytes Rc_putRight Rc_lastOfChannel Rc_lastMaster Rc_differing nP3 Rc_taken Rc_facts p3) H := hP.sub [1, 2, 3, 0] rfl
  have hD : va_D A (w_La_block cI cJ qX qRc qRc_facts qP3 X_shape X_words X_mixer X_row X_coder X_sender Rc_shape Rc_words Rc_mixer Rc_nearest Rc_found Rc_bytes Rc_putRight Rc_lastOfChannel Rc_lastMaster Rc_differing nP3 Rc_taken Rc_facts p3) := hD.sub [1, 2, 3, 0] (by decide) rfl
  refine lv_i2l (v := r1.toInt64) hx hb d_La_block_8 rfl ?_
  refine z_last hm hx hb hK hP hD hS 3 rfl d_La_block_9 (fun g3 hm H locs hP hD hS => ?_)
  have hP : va_P D classes (w_La_block cI cJ qX qRc qRc_facts qP3 X_shape X_words X_mixer X_row X_coder X_sender Rc_shape Rc_words Rc_mixer Rc_nearest Rc_found Rc_bytes Rc_putRight Rc_lastOfChannel Rc_lastMaster Rc_differing nP3 Rc_taken Rc_facts g3) H := hP
  have hD : va_D A (w_La_block cI cJ qX qRc qRc_facts qP3 X_shape X_words X_mixer X_row X_coder X_sender Rc_shape Rc_words Rc_mixer Rc_nearest Rc_found Rc_bytes Rc_putRight Rc_lastOfChannel Rc_lastMaster Rc_differing nP3 Rc_taken Rc_facts g3) := hD
  refine lv_goto (tgt := 21) hx hb d_La_block_10 (by decide) ?_
  refine lv_iconst (v := (0 : Int32)) hx hb d_La_block_21 (by decide) ?_
  cases hm
  exact z_qo hQ (z_ireti hr hx hb hlocks hK hP hD hS d_La_block_22)
set_option maxHeartbeats 4000000 in
set_option maxRecDepth 100000 in
theorem cw_La_block_1 (l : Launch) (hfl : l.flags = pinnedFlags ++ [noTraceFlag]) (D : va_G) (cI cJ : ClassId) (tt sa : Nat → Nat) (qX qRc qRc_facts qP3 : Nat) (X_shape X_words X_mixer X_row X_coder X_sender Rc_shape Rc_words Rc_mixer Rc_nearest Rc_found Rc_bytes Rc_putRight Rc_lastOfChannel Rc_lastMaster Rc_differing : Value) (nP3 : Nat) (sz : Nat) (Rc_taken : Int32) (Rc_facts : Nat → Int32) (p3 : Nat → Int64) (x1 : Int32) (x2 : Int32) (hm : g_DC_block Rc_taken x1 x2 = some 1) : CWi l y_La_block b_La_block 5 (some .int) [(0, 10, 13, 13), (0, 10, 17, 45)] (RC 7 1 6 104) D cI cJ tt sa [.ref qX, .int x1, .int x2, .ref qP3] (w_La_block cI cJ qX qRc qRc_facts qP3 X_shape X_words X_mixer X_row X_coder X_sender Rc_shape Rc_words Rc_mixer Rc_nearest Rc_found Rc_bytes Rc_putRight Rc_lastOfChannel Rc_lastMaster Rc_differing nP3 Rc_taken Rc_facts p3) (w_La_block cI cJ qX qRc qRc_facts qP3 X_shape X_words X_mixer X_row X_coder X_sender Rc_shape Rc_words Rc_mixer Rc_nearest Rc_found Rc_bytes Rc_putRight Rc_lastOfChannel Rc_lastMaster Rc_differing nP3 Rc_taken Rc_facts p3) sz 1 1 6 := by
  refine va_MetW (cc := b_La_block) (maxL := 5) (ret := (some .int)) (hh := [(0, 10, 13, 13), (0, 10, 17, 45)]) (by decide) rfl ?_
  intro p e s m args below meth c s₁ B hml hv
  obtain ⟨hargs, ⟨⟨hsz, hP, hK, hD0, hE⟩, hY⟩, hN1, hN2⟩ := hv
  have hx := B.exec
  have hb := B.bytes
  have hr := B.returns
  have hall := atoms_spec (ws := WW y_La_block b_La_block 5 (some .int) [(0, 10, 13, 13), (0, 10, 17, 45)]) B.pre
  have hts : ∀ w ∈ TB, w.before args s = true := fun w h => hall w (List.mem_cons_of_mem _ h)
  have htab := y_table B (hall _ List.mem_cons_self)
  have hown : s.vm.findClass "DeepChannelLaw" = some m.cls := findClass_of_methodNamed B.named
  have hlocks := B.notSynchronized
  subst hsz
  have hD := hD0.self (sz := s.heap.size)
  generalize hAe : va_A (w_La_block cI cJ qX qRc qRc_facts qP3 X_shape X_words X_mixer X_row X_coder X_sender Rc_shape Rc_words Rc_mixer Rc_nearest Rc_found Rc_bytes Rc_putRight Rc_lastOfChannel Rc_lastMaster Rc_differing nP3 Rc_taken Rc_facts p3) s.heap.size = A at hD hE hY ⊢
  have hA : ∀ q : Nat, s.heap.size ≤ q → A q := fun q h => by rw [← hAe]; exact Or.inr h
  have hS : va_S A s.heap s.heap [] := va_S.rf
  refine z_entry (vs := [.ref qX, .int x1, .int x2, .ref qP3]) hargs (Nat.le_of_ble_eq_true rfl) (fun ls hl => ?_)
  have hl : lv_has ls 5 [(0, .ref qX), (1, .int x1), (2, .int x2), (3, .ref qP3)] := hl
  show W p l e (RC 7 1 6 104) s m args below meth c s.heap [] 0 0 _ _
  refine z_qi (fun Q0 hQ => ?_)
  have F : CallFix p m c b_La_block 5 s args TB "DeepChannelLaw" := ⟨hx, hb, hml, hown, hts⟩
  refine lv_aload_n hx hb d_La_block_0 rfl (lv_at hl 3 rfl) ?_
  refine lv_iconst (v := (0 : Int32)) hx hb d_La_block_1 (by decide) ?_
  refine lv_aload_n hx hb d_La_block_2 rfl (lv_at hl 0 rfl) ?_
  refine lv_iload_n hx hb d_La_block_3 rfl (lv_at hl 1 rfl) ?_
  refine lv_iload_n hx hb d_La_block_4 rfl (lv_at hl 2 rfl) ?_
  refine z_cT (wc := w_DC_block cI cJ qX qRc qRc_facts X_shape X_words X_mixer X_row X_coder X_sender Rc_shape Rc_words Rc_mixer Rc_nearest Rc_found Rc_bytes Rc_putRight Rc_lastOfChannel Rc_lastMaster Rc_differing Rc_taken Rc_facts) (As := [.int x1, .int x2]) (rest := [.int (0 : Int32), .ref qP3]) (hpc := 13) (t_DC_block_1 l hfl D cI cJ tt sa qX qRc qRc_facts X_shape X_words X_mixer X_row X_coder X_sender Rc_shape Rc_words Rc_mixer Rc_nearest Rc_found Rc_bytes Rc_putRight Rc_lastOfChannel Rc_lastMaster Rc_differing _ Rc_taken Rc_facts x1 x2 hm) F ok_DC_block k_821 hK hE hY hP hD hS hA [0, 1, 2] rfl (by decide) 0 rfl rfl rfl ⟨rfl, rfl, Nat.le_of_ble_eq_true rfl, Nat.le_of_ble_eq_true rfl⟩ ⟨Nat.le_of_ble_eq_true rfl, Nat.le_of_ble_eq_true rfl⟩ rfl hl.1 rfl (Nat.le_of_ble_eq_true rfl) d_La_block_5 (fun T' x ce XX h1 h2 h3 => y_catch1 XX hown (hts _ k_396) (by decide) htab ⟨Nat.le_of_ble_eq_true rfl, Nat.le_of_ble_eq_true rfl⟩ (va_Nw.use rfl (hY.2.2.1 _ (List.mem_of_getElem? (i := 3) rfl))) rfl h1 h2 h3) (fun qz H hP hS => ?_)
  refine lv_astore (lv' := [(4, .ref qz), (0, .ref qX), (1, .int x1), (2, .int x2), (3, .ref qP3)]) hx hb d_La_block_13 hl (by decide) rfl (fun ls hl => ?_)
  refine lv_iconst (v := (1 : Int32)) hx hb d_La_block_15 (by decide) ?_
  exact z_qo hQ (z_ireti hr hx hb hlocks hK hP hD hS d_La_block_16)
set_option maxHeartbeats 4000000 in
set_option maxRecDepth 100000 in
theorem cw_La_block_2 (l : Launch) (hfl : l.flags = pinnedFlags ++ [noTraceFlag]) (D : va_G) (cI cJ : ClassId) (tt sa : Nat → Nat) (qX qRc qRc_facts qP3 : Nat) (X_shape X_words X_mixer X_row X_coder X_sender Rc_shape Rc_words Rc_mixer Rc_nearest Rc_found Rc_bytes Rc_putRight Rc_lastOfChannel Rc_lastMaster Rc_differing : Value) (nP3 : Nat) (sz : Nat) (Rc_taken : Int32) (Rc_facts : Nat → Int32) (p3 : Nat → Int64) (x1 : Int32) (x2 : Int32) (hm : g_DC_block Rc_taken x1 x2 = some 2) : CWi l y_La_block b_La_block 5 (some .int) [(0, 10, 13, 13), (0, 10, 17, 45)] (RC 7 1 6 104) D cI cJ tt sa [.ref qX, .int x1, .int x2, .ref qP3] (w_La_block cI cJ qX qRc qRc_facts qP3 X_shape X_words X_mixer X_row X_coder X_sender Rc_shape Rc_words Rc_mixer Rc_nearest Rc_found Rc_bytes Rc_putRight Rc_lastOfChannel Rc_lastMaster Rc_differing nP3 Rc_taken Rc_facts p3) (w_La_block cI cJ qX qRc qRc_facts qP3 X_shape X_words X_mixer X_row X_coder X_sender Rc_shape Rc_words Rc_mixer Rc_nearest Rc_found Rc_bytes Rc_putRight Rc_lastOfChannel Rc_lastMaster Rc_differing nP3 Rc_taken Rc_facts p3) sz 2 1 6 := by
  refine va_MetW (cc := b_La_block) (maxL := 5) (ret := (some .int)) (hh := [(0, 10, 13, 13), (0, 10, 17, 45)]) (by decide) rfl ?_
  intro p e s m args below meth c s₁ B hml hv
  obtain ⟨hargs, ⟨⟨hsz, hP, hK, hD0, hE⟩, hY⟩, hN1, hN2⟩ := hv
  have hx := B.exec
  have hb := B.bytes
  have hr := B.returns
  have hall := atoms_spec (ws := WW y_La_block b_La_block 5 (some .int) [(0, 10, 13, 13), (0, 10, 17, 45)]) B.pre
  have hts : ∀ w ∈ TB, w.before args s = true := fun w h => hall w (List.mem_cons_of_mem _ h)
  have htab := y_table B (hall _ List.mem_cons_self)
  have hown : s.vm.findClass "DeepChannelLaw" = some m.cls := findClass_of_methodNamed B.named
  have hlocks := B.notSynchronized
  subst hsz
  have hD := hD0.self (sz := s.heap.size)
  generalize hAe : va_A (w_La_block cI cJ qX qRc qRc_facts qP3 X_shape X_words X_mixer X_row X_coder X_sender Rc_shape Rc_words Rc_mixer Rc_nearest Rc_found Rc_bytes Rc_putRight Rc_lastOfChannel Rc_lastMaster Rc_differing nP3 Rc_taken Rc_facts p3) s.heap.size = A at hD hE hY ⊢
  have hA : ∀ q : Nat, s.heap.size ≤ q → A q := fun q h => by rw [← hAe]; exact Or.inr h
  have hS : va_S A s.heap s.heap [] := va_S.rf
  refine z_entry (vs := [.ref qX, .int x1, .int x2, .ref qP3]) hargs (Nat.le_of_ble_eq_true rfl) (fun ls hl => ?_)
  have hl : lv_has ls 5 [(0, .ref qX), (1, .int x1), (2, .int x2), (3, .ref qP3)] := hl
  show W p l e (RC 7 1 6 104) s m args below meth c s.heap [] 0 0 _ _
  refine z_qi (fun Q0 hQ => ?_)
  have F : CallFix p m c b_La_block 5 s args TB "DeepChannelLaw" := ⟨hx, hb, hml, hown, hts⟩
  refine lv_aload_n hx hb d_La_block_0 rfl (lv_at hl 3 rfl) ?_
  refine lv_iconst (v := (0 : Int32)) hx hb d_La_block_1 (by decide) ?_
  refine lv_aload_n hx hb d_La_block_2 rfl (lv_at hl 0 rfl) ?_
  refine lv_iload_n hx hb d_La_block_3 rfl (lv_at hl 1 rfl) ?_
  refine lv_iload_n hx hb d_La_block_4 rfl (lv_at hl 2 rfl) ?_
  refine z_cT (wc := w_DC_block cI cJ qX qRc qRc_facts X_shape X_words X_mixer X_row X_coder X_sender Rc_shape Rc_words Rc_mixer Rc_nearest Rc_found Rc_bytes Rc_putRight Rc_lastOfChannel Rc_lastMaster Rc_differing Rc_taken Rc_facts) (As := [.int x1, .int x2]) (rest := [.int (0 : Int32), .ref qP3]) (hpc := 17) (t_DC_block_2 l hfl D cI cJ tt sa qX qRc qRc_facts X_shape X_words X_mixer X_row X_coder X_sender Rc_shape Rc_words Rc_mixer Rc_nearest Rc_found Rc_bytes Rc_putRight Rc_lastOfChannel Rc_lastMaster Rc_differing _ Rc_taken Rc_facts x1 x2 hm) F ok_DC_block k_821 hK hE hY hP hD hS hA [0, 1, 2] rfl (by decide) 0 rfl rfl rfl ⟨rfl, rfl, Nat.le_of_ble_eq_true rfl, Nat.le_of_ble_eq_true rfl⟩ ⟨Nat.le_of_ble_eq_true rfl, Nat.le_of_ble_eq_true rfl⟩ rfl hl.1 rfl (Nat.le_of_ble_eq_true rfl) d_La_block_5 (fun T' x ce XX h1 h2 h3 => y_catch2 XX hown (hts _ k_396) (by decide) hN2 (hts _ k_820) (by decide) htab ⟨⟨Nat.le_of_ble_eq_true rfl, Nat.le_of_ble_eq_true rfl⟩, Nat.le_of_ble_eq_true rfl, Nat.le_of_ble_eq_true rfl⟩ (va_Nw.use rfl (hY.2.2.1 _ (List.mem_of_getElem? (i := 5) rfl))) rfl h1 h2 h3) (fun qz H hP hS => ?_)
  refine lv_astore (lv' := [(4, .ref qz), (0, .ref qX), (1, .int x1), (2, .int x2), (3, .ref qP3)]) hx hb d_La_block_17 hl (by decide) rfl (fun ls hl => ?_)
  refine lv_iconst (v := (2 : Int32)) hx hb d_La_block_19 (by decide) ?_
  exact z_qo hQ (z_ireti hr hx hb hlocks hK hP hD hS d_La_block_20)
-- DeepChannelLaw.word(LDeepChannel;II[J)I
abbrev b_La_word : ByteArray := method_12_code
abbrev y_La_word : MethodName := ⟨"DeepChannelLaw", "word", "(LDeepChannel;II[J)I"⟩
theorem d_La_word_0 : decode b_La_word 0 = .ok (.aload_n 3, 1) := by decide +kernel
theorem d_La_word_1 : decode b_La_word 1 = .ok (.iconst 0, 1) := by decide +kernel
theorem d_La_word_2 : decode b_La_word 2 = .ok (.aload_n 0, 1) := by decide +kernel
theorem d_La_word_3 : decode b_La_word 3 = .ok (.iload_n 1, 1) := by decide +kernel
theorem d_La_word_4 : decode b_La_word 4 = .ok (.iload_n 2, 1) := by decide +kernel
theorem d_La_word_5 : decode b_La_word 5 = .ok (.invokevirtual 47, 3) := by decide +kernel
theorem d_La_word_8 : decode b_La_word 8 = .ok (.i2l, 1) := by decide +kernel
theorem d_La_word_9 : decode b_La_word 9 = .ok (.lastore, 1) := by decide +kernel
theorem d_La_word_10 : decode b_La_word 10 = .ok (.goto 7, 3) := by decide +kernel
theorem d_La_word_13 : decode b_La_word 13 = .ok (.astore 4, 2) := by decide +kernel
theorem d_La_word_15 : decode b_La_word 15 = .ok (.iconst 1, 1) := by decide +kernel
theorem d_La_word_16 : decode b_La_word 16 = .ok (.ireturn, 1) := by decide +kernel
theorem d_La_word_17 : decode b_La_word 17 = .ok (.iconst 0, 1) := by decide +kernel
theorem d_La_word_18 : decode b_La_word 18 = .ok (.ireturn, 1) := by decide +kernel
abbrev w_La_word (cI cJ : ClassId) (qX qRc qSh qRc_putRight qP3 : Nat) (X_shape X_words X_mixer X_row X_coder X_sender Rc_words Rc_mixer Rc_nearest Rc_found Rc_bytes Rc_facts Rc_lastOfChannel Rc_lastMaster Rc_differing Sh_wordBytes Sh_e Sh_pattern : Value) (nP3 : Nat) (Rc_taken : Int32) (Sh_depth : Int32) (Rc_putRight : Nat → Int32) (p3 : Nat → Int64) : va_W := [(qX, .inr (10, [X_shape, X_words, X_mixer, X_row, X_coder, X_sender, .ref qRc])), (qRc, .inr (6, [.ref qSh, Rc_words, Rc_mixer, Rc_nearest, Rc_found, Rc_bytes, Rc_facts, .ref qRc_putRight, Rc_lastOfChannel, Rc_lastMaster, Rc_differing, .int Rc_taken])), (qSh, .inr (8, [.int Sh_depth, Sh_wordBytes, Sh_e, Sh_pattern])), (qRc_putRight, .inl (cI, 128, .inl Rc_putRight)), (qP3, .inl (cJ, nP3, .inr (.inl p3)))]
def f_La_word (Rc_taken : Int32) (Sh_depth : Int32) (Rc_putRight : Nat → Int32) (p3 : Nat → Int64) (nP3 : Nat) (x1 : Int32) (x2 : Int32) : Option (Int32 × (Nat → Int64)) :=
  bd (f_DC_word Rc_taken Sh_depth Rc_putRight x1 x2) fun u2 =>
  nm u2 fun r1 =>
  wrL p3 nP3 (0 : Int32) r1.toInt64 fun g3 =>
  some ((0 : Int32), g3)
set_option maxHeartbeats 4000000 in
set_option maxRecDepth 100000 in
theorem c_La_word (l : Launch) (D : va_G) (cI cJ : ClassId) (tt sa : Nat → Nat) (qX qRc qSh qRc_putRight qP3 : Nat) (X_shape X_words X_mixer X_row X_coder X_sender Rc_words Rc_mixer Rc_nearest Rc_found Rc_bytes Rc_facts Rc_lastOfChannel Rc_lastMaster Rc_differing Sh_wordBytes Sh_e Sh_pattern : Value) (nP3 : Nat) (sz : Nat) (Rc_taken : Int32) (Sh_depth : Int32) (Rc_putRight : Nat → Int32) (p3 : Nat → Int64) (x1 : Int32) (x2 : Int32) (rr : Int32) (p3' : Nat → Int64) (hm : f_La_word Rc_taken Sh_depth Rc_putRight p3 nP3 x1 x2 = some (rr, p3')) : CWi l y_La_word b_La_word 5 (some .int) [(0, 10, 13, 45)] (RM 2 44) D cI cJ tt sa [.ref qX, .int x1, .int x2, .ref qP3] (w_La_word cI cJ qX qRc qSh qRc_putRight qP3 X_shape X_words X_mixer X_row X_coder X_sender Rc_words Rc_mixer Rc_nearest Rc_found Rc_bytes Rc_facts Rc_lastOfChannel Rc_lastMaster Rc_differing Sh_wordBytes Sh_e Sh_pattern nP3 Rc_taken Sh_depth Rc_putRight p3) (w_La_word cI cJ qX qRc qSh qRc_putRight qP3 X_shape X_words X_mixer X_row X_coder X_sender Rc_words Rc_mixer Rc_nearest Rc_found Rc_bytes Rc_facts Rc_lastOfChannel Rc_lastMaster Rc_differing Sh_wordBytes Sh_e Sh_pattern nP3 Rc_taken Sh_depth Rc_putRight p3') sz rr 0 0 := by
  refine va_MetW (cc := b_La_word) (maxL := 5) (ret := (some .int)) (hh := [(0, 10, 13, 45)]) (by decide) rfl ?_
  intro p e s m args below meth c s₁ B hml hv
  obtain ⟨hargs, ⟨⟨hsz, hP, hK, hD0, hE⟩, hY⟩, hN1, hN2⟩ := hv
  have hx := B.exec
  have hb := B.bytes
  have hr := B.returns
  have hall := atoms_spec (ws := WW y_La_word b_La_word 5 (some .int) [(0, 10, 13, 45)]) B.pre
  have hts : ∀ w ∈ TB, w.before args s = true := fun w h => hall w (List.mem_cons_of_mem _ h)
  have htab := y_table B (hall _ List.mem_cons_self)
  have hown : s.vm.findClass "DeepChannelLaw" = some m.cls := findClass_of_methodNamed B.named
  have hlocks := B.notSynchronized
  subst hsz
  have hD := hD0.self (sz := s.heap.size)
  generalize hAe : va_A (w_La_word cI cJ qX qRc qSh qRc_putRight qP3 X_shape X_words X_mixer X_row X_coder X_sender Rc_words Rc_mixer Rc_nearest Rc_found Rc_bytes Rc_facts Rc_lastOfChannel Rc_lastMaster Rc_differing Sh_wordBytes Sh_e Sh_pattern nP3 Rc_taken Sh_depth Rc_putRight p3) s.heap.size = A at hD hE hY ⊢
  have hA : ∀ q : Nat, s.heap.size ≤ q → A q := fun q h => by rw [← hAe]; exact Or.inr h
  have hS : va_S A s.heap s.heap [] := va_S.rf
  refine z_entry (vs := [.ref qX, .int x1, .int x2, .ref qP3]) hargs (Nat.le_of_ble_eq_true rfl) (fun ls hl => ?_)
  have hl : lv_has ls 5 [(0, .ref qX), (1, .int x1), (2, .int x2), (3, .ref qP3)] := hl
  show W p l e (RM 2 44) s m args below meth c s.heap [] 0 0 _ _
  refine z_qi (fun Q0 hQ => ?_)
  have F : CallFix p m c b_La_word 5 s args TB "DeepChannelLaw" := ⟨hx, hb, hml, hown, hts⟩
  unfold f_La_word at hm
  refine lv_aload_n hx hb d_La_word_0 rfl (lv_at hl 3 rfl) ?_
  refine lv_iconst (v := (0 : Int32)) hx hb d_La_word_1 (by decide) ?_
  refine lv_aload_n hx hb d_La_word_2 rfl (lv_at hl 0 rfl) ?_
  refine lv_iload_n hx hb d_La_word_3 rfl (lv_at hl 1 rfl) ?_
  refine lv_iload_n hx hb d_La_word_4 rfl (lv_at hl 2 rfl) ?_
  obtain ⟨r1, hu, hm⟩ := bd_el hm
  replace hm := nm_1 hm
  refine z_cVi (wc := w_DC_word cI cJ qX qRc qSh qRc_putRight X_shape X_words X_mixer X_row X_coder X_sender Rc_words Rc_mixer Rc_nearest Rc_found Rc_bytes Rc_facts Rc_lastOfChannel Rc_lastMaster Rc_differing Sh_wordBytes Sh_e Sh_pattern Rc_taken Sh_depth Rc_putRight) (wc' := w_DC_word cI cJ qX qRc qSh qRc_putRight X_shape X_words X_mixer X_row X_coder X_sender Rc_words Rc_mixer Rc_nearest Rc_found Rc_bytes Rc_facts Rc_lastOfChannel Rc_lastMaster Rc_differing Sh_wordBytes Sh_e Sh_pattern Rc_taken Sh_depth Rc_putRight) (wr := [(qP3, .inl (cJ, nP3, .inr (.inl p3)))]) (As := [.int x1, .int x2]) (rest := [.int (0 : Int32), .ref qP3]) (c_DC_word l D cI cJ tt qX qRc qSh qRc_putRight X_shape X_words X_mixer X_row X_coder X_sender Rc_words Rc_mixer Rc_nearest Rc_found Rc_bytes Rc_facts Rc_lastOfChannel Rc_lastMaster Rc_differing Sh_wordBytes Sh_e Sh_pattern _ Rc_taken Sh_depth Rc_putRight x1 x2 r1 hu) F ok_DC_word rfl k_850 hK hE hP hD hS hA [0, 1, 2, 3] [4] rfl rfl (by decide) (by decide) (by decide) 0 rfl rfl rfl ⟨rfl, rfl, Nat.le_of_ble_eq_true rfl, Nat.le_of_ble_eq_true rfl⟩ ⟨Nat.zero_le _, Nat.zero_le _⟩ rfl hl.1 rfl (Nat.le_of_ble_eq_true rfl) d_La_word_5 (fun H locs hP hD hS => ?_)
  have hP : va_P D classes (w_La_word cI cJ qX qRc qSh qRc_putRight qP3 X_shape X_words X_mixer X_row X_coder X_sender Rc_words Rc_mixer Rc_nearest Rc_found Rc_bytes Rc_facts Rc_lastOfChannel Rc_lastMaster Rc_differing Sh_wordBytes Sh_e Sh_pattern nP3 Rc_taken Sh_depth Rc_putRight p3) H := hP.sub [1, 2, 3, 4, 0] rfl
  have hD : va_D A (w_La_word cI cJ qX qRc qSh qRc_putRight qP3 X_shape X_words X_mixer X_row X_coder X_sender Rc_words Rc_mixer Rc_nearest Rc_found Rc_bytes Rc_facts Rc_lastOfChannel Rc_lastMaster Rc_differing Sh_wordBytes Sh_e Sh_pattern nP3 Rc_taken Sh_depth Rc_putRight p3) := hD.sub [1, 2, 3, 4, 0] (by decide) rfl
  refine lv_i2l (v := r1.toInt64) hx hb d_La_word_8 rfl ?_
  refine z_last hm hx hb hK hP hD hS 4 rfl d_La_word_9 (fun g3 hm H locs hP hD hS => ?_)
  have hP : va_P D classes (w_La_word cI cJ qX qRc qSh qRc_putRight qP3 X_shape X_words X_mixer X_row X_coder X_sender Rc_words Rc_mixer Rc_nearest Rc_found Rc_bytes Rc_facts Rc_lastOfChannel Rc_lastMaster Rc_differing Sh_wordBytes Sh_e Sh_pattern nP3 Rc_taken Sh_depth Rc_putRight g3) H := hP
  have hD : va_D A (w_La_word cI cJ qX qRc qSh qRc_putRight qP3 X_shape X_words X_mixer X_row X_coder X_sender Rc_words Rc_mixer Rc_nearest Rc_found Rc_bytes Rc_facts Rc_lastOfChannel Rc_lastMaster Rc_differing Sh_wordBytes Sh_e Sh_pattern nP3 Rc_taken Sh_depth Rc_putRight g3) := hD
  refine lv_goto (tgt := 17) hx hb d_La_word_10 (by decide) ?_
  refine lv_iconst (v := (0 : Int32)) hx hb d_La_word_17 (by decide) ?_
  cases hm
  exact z_qo hQ (z_ireti hr hx hb hlocks hK hP hD hS d_La_word_18)
set_option maxHeartbeats 4000000 in
set_option maxRecDepth 100000 in
theorem cw_La_word_1 (l : Launch) (hfl : l.flags = pinnedFlags ++ [noTraceFlag]) (D : va_G) (cI cJ : ClassId) (tt sa : Nat → Nat) (qX qRc qSh qRc_putRight qP3 : Nat) (X_shape X_words X_mixer X_row X_coder X_sender Rc_words Rc_mixer Rc_nearest Rc_found Rc_bytes Rc_facts Rc_lastOfChannel Rc_lastMaster Rc_differing Sh_wordBytes Sh_e Sh_pattern : Value) (nP3 : Nat) (sz : Nat) (Rc_taken : Int32) (Sh_depth : Int32) (Rc_putRight : Nat → Int32) (p3 : Nat → Int64) (x1 : Int32) (x2 : Int32) (hm : g_DC_word Rc_taken x1 x2 = some 1) : CWi l y_La_word b_La_word 5 (some .int) [(0, 10, 13, 45)] (RC 7 1 6 104) D cI cJ tt sa [.ref qX, .int x1, .int x2, .ref qP3] (w_La_word cI cJ qX qRc qSh qRc_putRight qP3 X_shape X_words X_mixer X_row X_coder X_sender Rc_words Rc_mixer Rc_nearest Rc_found Rc_bytes Rc_facts Rc_lastOfChannel Rc_lastMaster Rc_differing Sh_wordBytes Sh_e Sh_pattern nP3 Rc_taken Sh_depth Rc_putRight p3) (w_La_word cI cJ qX qRc qSh qRc_putRight qP3 X_shape X_words X_mixer X_row X_coder X_sender Rc_words Rc_mixer Rc_nearest Rc_found Rc_bytes Rc_facts Rc_lastOfChannel Rc_lastMaster Rc_differing Sh_wordBytes Sh_e Sh_pattern nP3 Rc_taken Sh_depth Rc_putRight p3) sz 1 1 6 := by
  refine va_MetW (cc := b_La_word) (maxL := 5) (ret := (some .int)) (hh := [(0, 10, 13, 45)]) (by decide) rfl ?_
  intro p e s m args below meth c s₁ B hml hv
  obtain ⟨hargs, ⟨⟨hsz, hP, hK, hD0, hE⟩, hY⟩, hN1, hN2⟩ := hv
  have hx := B.exec
  have hb := B.bytes
  have hr := B.returns
  have hall := atoms_spec (ws := WW y_La_word b_La_word 5 (some .int) [(0, 10, 13, 45)]) B.pre
  have hts : ∀ w ∈ TB, w.before args s = true := fun w h => hall w (List.mem_cons_of_mem _ h)
  have htab := y_table B (hall _ List.mem_cons_self)
  have hown : s.vm.findClass "DeepChannelLaw" = some m.cls := findClass_of_methodNamed B.named
  have hlocks := B.notSynchronized
  subst hsz
  have hD := hD0.self (sz := s.heap.size)
  generalize hAe : va_A (w_La_word cI cJ qX qRc qSh qRc_putRight qP3 X_shape X_words X_mixer X_row X_coder X_sender Rc_words Rc_mixer Rc_nearest Rc_found Rc_bytes Rc_facts Rc_lastOfChannel Rc_lastMaster Rc_differing Sh_wordBytes Sh_e Sh_pattern nP3 Rc_taken Sh_depth Rc_putRight p3) s.heap.size = A at hD hE hY ⊢
  have hA : ∀ q : Nat, s.heap.size ≤ q → A q := fun q h => by rw [← hAe]; exact Or.inr h
  have hS : va_S A s.heap s.heap [] := va_S.rf
  refine z_entry (vs := [.ref qX, .int x1, .int x2, .ref qP3]) hargs (Nat.le_of_ble_eq_true rfl) (fun ls hl => ?_)
  have hl : lv_has ls 5 [(0, .ref qX), (1, .int x1), (2, .int x2), (3, .ref qP3)] := hl
  show W p l e (RC 7 1 6 104) s m args below meth c s.heap [] 0 0 _ _
  refine z_qi (fun Q0 hQ => ?_)
  have F : CallFix p m c b_La_word 5 s args TB "DeepChannelLaw" := ⟨hx, hb, hml, hown, hts⟩
  refine lv_aload_n hx hb d_La_word_0 rfl (lv_at hl 3 rfl) ?_
  refine lv_iconst (v := (0 : Int32)) hx hb d_La_word_1 (by decide) ?_
  refine lv_aload_n hx hb d_La_word_2 rfl (lv_at hl 0 rfl) ?_
  refine lv_iload_n hx hb d_La_word_3 rfl (lv_at hl 1 rfl) ?_
  refine lv_iload_n hx hb d_La_word_4 rfl (lv_at hl 2 rfl) ?_
  refine z_cT (wc := w_DC_word cI cJ qX qRc qSh qRc_putRight X_shape X_words X_mixer X_row X_coder X_sender Rc_words Rc_mixer Rc_nearest Rc_found Rc_bytes Rc_facts Rc_lastOfChannel Rc_lastMaster Rc_differing Sh_wordBytes Sh_e Sh_pattern Rc_taken Sh_depth Rc_putRight) (As := [.int x1, .int x2]) (rest := [.int (0 : Int32), .ref qP3]) (hpc := 13) (t_DC_word_1 l hfl D cI cJ tt sa qX qRc qSh qRc_putRight X_shape X_words X_mixer X_row X_coder X_sender Rc_words Rc_mixer Rc_nearest Rc_found Rc_bytes Rc_facts Rc_lastOfChannel Rc_lastMaster Rc_differing Sh_wordBytes Sh_e Sh_pattern _ Rc_taken Sh_depth Rc_putRight x1 x2 hm) F ok_DC_word k_850 hK hE hY hP hD hS hA [0, 1, 2, 3] rfl (by decide) 0 rfl rfl rfl ⟨rfl, rfl, Nat.le_of_ble_eq_true rfl, Nat.le_of_ble_eq_true rfl⟩ ⟨Nat.le_of_ble_eq_true rfl, Nat.le_of_ble_eq_true rfl⟩ rfl hl.1 rfl (Nat.le_of_ble_eq_true rfl) d_La_word_5 (fun T' x ce XX h1 h2 h3 => y_catch1 XX hown (hts _ k_820) (by decide) htab ⟨Nat.le_of_ble_eq_true rfl, Nat.le_of_ble_eq_true rfl⟩ (va_Nw.use rfl (hY.2.2.1 _ (List.mem_of_getElem? (i := 5) rfl))) rfl h1 h2 h3) (fun qz H hP hS => ?_)
  refine lv_astore (lv' := [(4, .ref qz), (0, .ref qX), (1, .int x1), (2, .int x2), (3, .ref qP3)]) hx hb d_La_word_13 hl (by decide) rfl (fun ls hl => ?_)
  refine lv_iconst (v := (1 : Int32)) hx hb d_La_word_15 (by decide) ?_
  exact z_qo hQ (z_ireti hr hx hb hlocks hK hP hD hS d_La_word_16)
-- DeepChannelLaw.frame(LDeepChannel;II[J)I
abbrev b_La_frame : ByteArray := method_13_code
abbrev y_La_frame : MethodName := ⟨"DeepChannelLaw", "frame", "(LDeepChannel;II[J)I"⟩
theorem d_La_frame_0 : decode b_La_frame 0 = .ok (.aload_n 3, 1) := by decide +kernel
theorem d_La_frame_1 : decode b_La_frame 1 = .ok (.iconst 0, 1) := by decide +kernel
theorem d_La_frame_2 : decode b_La_frame 2 = .ok (.aload_n 0, 1) := by decide +kernel
theorem d_La_frame_3 : decode b_La_frame 3 = .ok (.iload_n 1, 1) := by decide +kernel
theorem d_La_frame_4 : decode b_La_frame 4 = .ok (.iload_n 2, 1) := by decide +kernel
theorem d_La_frame_5 : decode b_La_frame 5 = .ok (.invokevirtual 50, 3) := by decide +kernel
theorem d_La_frame_8 : decode b_La_frame 8 = .ok (.lastore, 1) := by decide +kernel
theorem d_La_frame_9 : decode b_La_frame 9 = .ok (.goto 7, 3) := by decide +kernel
theorem d_La_frame_12 : decode b_La_frame 12 = .ok (.astore 4, 2) := by decide +kernel
theorem d_La_frame_14 : decode b_La_frame 14 = .ok (.iconst 1, 1) := by decide +kernel
theorem d_La_frame_15 : decode b_La_frame 15 = .ok (.ireturn, 1) := by decide +kernel
theorem d_La_frame_16 : decode b_La_frame 16 = .ok (.iconst 0, 1) := by decide +kernel
theorem d_La_frame_17 : decode b_La_frame 17 = .ok (.ireturn, 1) := by decide +kernel
abbrev w_La_frame (cI cJ : ClassId) (qX qRc qSh qRc_bytes qP3 : Nat) (X_shape X_words X_mixer X_row X_coder X_sender Rc_words Rc_mixer Rc_nearest Rc_found Rc_facts Rc_putRight Rc_lastOfChannel Rc_lastMaster Rc_differing Sh_pattern : Value) (nP3 : Nat) (Rc_taken : Int32) (Sh_depth : Int32) (Sh_wordBytes : Int32) (Sh_e : Int32) (Rc_bytes : Nat → Int32) (p3 : Nat → Int64) : va_W := [(qX, .inr (10, [X_shape, X_words, X_mixer, X_row, X_coder, X_sender, .ref qRc])), (qRc, .inr (6, [.ref qSh, Rc_words, Rc_mixer, Rc_nearest, Rc_found, .ref qRc_bytes, Rc_facts, Rc_putRight, Rc_lastOfChannel, Rc_lastMaster, Rc_differing, .int Rc_taken])), (qSh, .inr (8, [.int Sh_depth, .int Sh_wordBytes, .int Sh_e, Sh_pattern])), (qRc_bytes, .inl (cI, 512, .inl Rc_bytes)), (qP3, .inl (cJ, nP3, .inr (.inl p3)))]
def f_La_frame (Rc_taken : Int32) (Sh_depth : Int32) (Sh_wordBytes : Int32) (Sh_e : Int32) (Rc_bytes : Nat → Int32) (p3 : Nat → Int64) (nP3 : Nat) (x1 : Int32) (x2 : Int32) : Option (Int32 × (Nat → Int64)) :=
  bd (f_DC_frame Rc_taken Sh_depth Sh_wordBytes Sh_e Rc_bytes x1 x2) fun u2 =>
  nm u2 fun r1 =>
  wrL p3 nP3 (0 : Int32) r1 fun g3 =>
  some ((0 : Int32), g3)
set_option maxHeartbeats 4000000 in
set_option maxRecDepth 100000 in
theorem c_La_frame (l : Launch) (D : va_G) (cI cJ : ClassId) (tt sa : Nat → Nat) (qX qRc qSh qRc_bytes qP3 : Nat) (X_shape X_words X_mixer X_row X_coder X_sender Rc_words Rc_mixer Rc_nearest Rc_found Rc_facts Rc_putRight Rc_lastOfChannel Rc_lastMaster Rc_differing Sh_pattern : Value) (nP3 : Nat) (sz : Nat) (Rc_taken : Int32) (Sh_depth : Int32) (Sh_wordBytes : Int32) (Sh_e : Int32) (Rc_bytes : Nat → Int32) (p3 : Nat → Int64) (x1 : Int32) (x2 : Int32) (rr : Int32) (p3' : Nat → Int64) (hm : f_La_frame Rc_taken Sh_depth Sh_wordBytes Sh_e Rc_bytes p3 nP3 x1 x2 = some (rr, p3')) : CWi l y_La_frame b_La_frame 5 (some .int) [(0, 9, 12, 45)] (RM 3 69) D cI cJ tt sa [.ref qX, .int x1, .int x2, .ref qP3] (w_La_frame cI cJ qX qRc qSh qRc_bytes qP3 X_shape X_words X_mixer X_row X_coder X_sender Rc_words Rc_mixer Rc_nearest Rc_found Rc_facts Rc_putRight Rc_lastOfChannel Rc_lastMaster Rc_differing Sh_pattern nP3 Rc_taken Sh_depth Sh_wordBytes Sh_e Rc_bytes p3) (w_La_frame cI cJ qX qRc qSh qRc_bytes qP3 X_shape X_words X_mixer X_row X_coder X_sender Rc_words Rc_mixer Rc_nearest Rc_found Rc_facts Rc_putRight Rc_lastOfChannel Rc_lastMaster Rc_differing Sh_pattern nP3 Rc_taken Sh_depth Sh_wordBytes Sh_e Rc_bytes p3') sz rr 0 0 := by
  refine va_MetW (cc := b_La_frame) (maxL := 5) (ret := (some .int)) (hh := [(0, 9, 12, 45)]) (by decide) rfl ?_
  intro p e s m args below meth c s₁ B hml hv
  obtain ⟨hargs, ⟨⟨hsz, hP, hK, hD0, hE⟩, hY⟩, hN1, hN2⟩ := hv
  have hx := B.exec
  have hb := B.bytes
  have hr := B.returns
  have hall := atoms_spec (ws := WW y_La_frame b_La_frame 5 (some .int) [(0, 9, 12, 45)]) B.pre
  have hts : ∀ w ∈ TB, w.before args s = true := fun w h => hall w (List.mem_cons_of_mem _ h)
  have htab := y_table B (hall _ List.mem_cons_self)
  have hown : s.vm.findClass "DeepChannelLaw" = some m.cls := findClass_of_methodNamed B.named
  have hlocks := B.notSynchronized
  subst hsz
  have hD := hD0.self (sz := s.heap.size)
  generalize hAe : va_A (w_La_frame cI cJ qX qRc qSh qRc_bytes qP3 X_shape X_words X_mixer X_row X_coder X_sender Rc_words Rc_mixer Rc_nearest Rc_found Rc_facts Rc_putRight Rc_lastOfChannel Rc_lastMaster Rc_differing Sh_pattern nP3 Rc_taken Sh_depth Sh_wordBytes Sh_e Rc_bytes p3) s.heap.size = A at hD hE hY ⊢
  have hA : ∀ q : Nat, s.heap.size ≤ q → A q := fun q h => by rw [← hAe]; exact Or.inr h
  have hS : va_S A s.heap s.heap [] := va_S.rf
  refine z_entry (vs := [.ref qX, .int x1, .int x2, .ref qP3]) hargs (Nat.le_of_ble_eq_true rfl) (fun ls hl => ?_)
  have hl : lv_has ls 5 [(0, .ref qX), (1, .int x1), (2, .int x2), (3, .ref qP3)] := hl
  show W p l e (RM 3 69) s m args below meth c s.heap [] 0 0 _ _
  refine z_qi (fun Q0 hQ => ?_)
  have F : CallFix p m c b_La_frame 5 s args TB "DeepChannelLaw" := ⟨hx, hb, hml, hown, hts⟩
  unfold f_La_frame at hm
  refine lv_aload_n hx hb d_La_frame_0 rfl (lv_at hl 3 rfl) ?_
  refine lv_iconst (v := (0 : Int32)) hx hb d_La_frame_1 (by decide) ?_
  refine lv_aload_n hx hb d_La_frame_2 rfl (lv_at hl 0 rfl) ?_
  refine lv_iload_n hx hb d_La_frame_3 rfl (lv_at hl 1 rfl) ?_
  refine lv_iload_n hx hb d_La_frame_4 rfl (lv_at hl 2 rfl) ?_
  obtain ⟨r1, hu, hm⟩ := bd_el hm
  replace hm := nm_1 hm
  refine z_cVl (wc := w_DC_frame cI cJ qX qRc qSh qRc_bytes X_shape X_words X_mixer X_row X_coder X_sender Rc_words Rc_mixer Rc_nearest Rc_found Rc_facts Rc_putRight Rc_lastOfChannel Rc_lastMaster Rc_differing Sh_pattern Rc_taken Sh_depth Sh_wordBytes Sh_e Rc_bytes) (wc' := w_DC_frame cI cJ qX qRc qSh qRc_bytes X_shape X_words X_mixer X_row X_coder X_sender Rc_words Rc_mixer Rc_nearest Rc_found Rc_facts Rc_putRight Rc_lastOfChannel Rc_lastMaster Rc_differing Sh_pattern Rc_taken Sh_depth Sh_wordBytes Sh_e Rc_bytes) (wr := [(qP3, .inl (cJ, nP3, .inr (.inl p3)))]) (As := [.int x1, .int x2]) (rest := [.int (0 : Int32), .ref qP3]) (c_DC_frame l D cI cJ tt qX qRc qSh qRc_bytes X_shape X_words X_mixer X_row X_coder X_sender Rc_words Rc_mixer Rc_nearest Rc_found Rc_facts Rc_putRight Rc_lastOfChannel Rc_lastMaster Rc_differing Sh_pattern _ Rc_taken Sh_depth Sh_wordBytes Sh_e Rc_bytes x1 x2 r1 hu) F ok_DC_frame rfl k_861 hK hE hP hD hS hA [0, 1, 2, 3] [4] rfl rfl (by decide) (by decide) (by decide) 0 rfl rfl rfl ⟨rfl, rfl, Nat.le_of_ble_eq_true rfl, Nat.le_of_ble_eq_true rfl⟩ ⟨Nat.zero_le _, Nat.zero_le _⟩ rfl hl.1 rfl (Nat.le_of_ble_eq_true rfl) d_La_frame_5 (fun H locs hP hD hS => ?_)
  have hP : va_P D classes (w_La_frame cI cJ qX qRc qSh qRc_bytes qP3 X_shape X_words X_mixer X_row X_coder X_sender Rc_words Rc_mixer Rc_nearest Rc_found Rc_facts Rc_putRight Rc_lastOfChannel Rc_lastMaster Rc_differing Sh_pattern nP3 Rc_taken Sh_depth Sh_wordBytes Sh_e Rc_bytes p3) H := hP.sub [1, 2, 3, 4, 0] rfl
  have hD : va_D A (w_La_frame cI cJ qX qRc qSh qRc_bytes qP3 X_shape X_words X_mixer X_row X_coder X_sender Rc_words Rc_mixer Rc_nearest Rc_found Rc_facts Rc_putRight Rc_lastOfChannel Rc_lastMaster Rc_differing Sh_pattern nP3 Rc_taken Sh_depth Sh_wordBytes Sh_e Rc_bytes p3) := hD.sub [1, 2, 3, 4, 0] (by decide) rfl
  refine z_last hm hx hb hK hP hD hS 4 rfl d_La_frame_8 (fun g3 hm H locs hP hD hS => ?_)
  have hP : va_P D classes (w_La_frame cI cJ qX qRc qSh qRc_bytes qP3 X_shape X_words X_mixer X_row X_coder X_sender Rc_words Rc_mixer Rc_nearest Rc_found Rc_facts Rc_putRight Rc_lastOfChannel Rc_lastMaster Rc_differing Sh_pattern nP3 Rc_taken Sh_depth Sh_wordBytes Sh_e Rc_bytes g3) H := hP
  have hD : va_D A (w_La_frame cI cJ qX qRc qSh qRc_bytes qP3 X_shape X_words X_mixer X_row X_coder X_sender Rc_words Rc_mixer Rc_nearest Rc_found Rc_facts Rc_putRight Rc_lastOfChannel Rc_lastMaster Rc_differing Sh_pattern nP3 Rc_taken Sh_depth Sh_wordBytes Sh_e Rc_bytes g3) := hD
  refine lv_goto (tgt := 16) hx hb d_La_frame_9 (by decide) ?_
  refine lv_iconst (v := (0 : Int32)) hx hb d_La_frame_16 (by decide) ?_
  cases hm
  exact z_qo hQ (z_ireti hr hx hb hlocks hK hP hD hS d_La_frame_17)
set_option maxHeartbeats 4000000 in
set_option maxRecDepth 100000 in
theorem cw_La_frame_1 (l : Launch) (hfl : l.flags = pinnedFlags ++ [noTraceFlag]) (D : va_G) (cI cJ : ClassId) (tt sa : Nat → Nat) (qX qRc qSh qRc_bytes qP3 : Nat) (X_shape X_words X_mixer X_row X_coder X_sender Rc_words Rc_mixer Rc_nearest Rc_found Rc_facts Rc_putRight Rc_lastOfChannel Rc_lastMaster Rc_differing Sh_pattern : Value) (nP3 : Nat) (sz : Nat) (Rc_taken : Int32) (Sh_depth : Int32) (Sh_wordBytes : Int32) (Sh_e : Int32) (Rc_bytes : Nat → Int32) (p3 : Nat → Int64) (x1 : Int32) (x2 : Int32) (hm : g_DC_frame Rc_taken x1 x2 = some 1) : CWi l y_La_frame b_La_frame 5 (some .int) [(0, 9, 12, 45)] (RC 7 1 6 104) D cI cJ tt sa [.ref qX, .int x1, .int x2, .ref qP3] (w_La_frame cI cJ qX qRc qSh qRc_bytes qP3 X_shape X_words X_mixer X_row X_coder X_sender Rc_words Rc_mixer Rc_nearest Rc_found Rc_facts Rc_putRight Rc_lastOfChannel Rc_lastMaster Rc_differing Sh_pattern nP3 Rc_taken Sh_depth Sh_wordBytes Sh_e Rc_bytes p3) (w_La_frame cI cJ qX qRc qSh qRc_bytes qP3 X_shape X_words X_mixer X_row X_coder X_sender Rc_words Rc_mixer Rc_nearest Rc_found Rc_facts Rc_putRight Rc_lastOfChannel Rc_lastMaster Rc_differing Sh_pattern nP3 Rc_taken Sh_depth Sh_wordBytes Sh_e Rc_bytes p3) sz 1 1 6 := by
  refine va_MetW (cc := b_La_frame) (maxL := 5) (ret := (some .int)) (hh := [(0, 9, 12, 45)]) (by decide) rfl ?_
  intro p e s m args below meth c s₁ B hml hv
  obtain ⟨hargs, ⟨⟨hsz, hP, hK, hD0, hE⟩, hY⟩, hN1, hN2⟩ := hv
  have hx := B.exec
  have hb := B.bytes
  have hr := B.returns
  have hall := atoms_spec (ws := WW y_La_frame b_La_frame 5 (some .int) [(0, 9, 12, 45)]) B.pre
  have hts : ∀ w ∈ TB, w.before args s = true := fun w h => hall w (List.mem_cons_of_mem _ h)
  have htab := y_table B (hall _ List.mem_cons_self)
  have hown : s.vm.findClass "DeepChannelLaw" = some m.cls := findClass_of_methodNamed B.named
  have hlocks := B.notSynchronized
  subst hsz
  have hD := hD0.self (sz := s.heap.size)
  generalize hAe : va_A (w_La_frame cI cJ qX qRc qSh qRc_bytes qP3 X_shape X_words X_mixer X_row X_coder X_sender Rc_words Rc_mixer Rc_nearest Rc_found Rc_facts Rc_putRight Rc_lastOfChannel Rc_lastMaster Rc_differing Sh_pattern nP3 Rc_taken Sh_depth Sh_wordBytes Sh_e Rc_bytes p3) s.heap.size = A at hD hE hY ⊢
  have hA : ∀ q : Nat, s.heap.size ≤ q → A q := fun q h => by rw [← hAe]; exact Or.inr h
  have hS : va_S A s.heap s.heap [] := va_S.rf
  refine z_entry (vs := [.ref qX, .int x1, .int x2, .ref qP3]) hargs (Nat.le_of_ble_eq_true rfl) (fun ls hl => ?_)
  have hl : lv_has ls 5 [(0, .ref qX), (1, .int x1), (2, .int x2), (3, .ref qP3)] := hl
  show W p l e (RC 7 1 6 104) s m args below meth c s.heap [] 0 0 _ _
  refine z_qi (fun Q0 hQ => ?_)
  have F : CallFix p m c b_La_frame 5 s args TB "DeepChannelLaw" := ⟨hx, hb, hml, hown, hts⟩
  refine lv_aload_n hx hb d_La_frame_0 rfl (lv_at hl 3 rfl) ?_
  refine lv_iconst (v := (0 : Int32)) hx hb d_La_frame_1 (by decide) ?_
  refine lv_aload_n hx hb d_La_frame_2 rfl (lv_at hl 0 rfl) ?_
  refine lv_iload_n hx hb d_La_frame_3 rfl (lv_at hl 1 rfl) ?_
  refine lv_iload_n hx hb d_La_frame_4 rfl (lv_at hl 2 rfl) ?_
  refine z_cT (wc := w_DC_frame cI cJ qX qRc qSh qRc_bytes X_shape X_words X_mixer X_row X_coder X_sender Rc_words Rc_mixer Rc_nearest Rc_found Rc_facts Rc_putRight Rc_lastOfChannel Rc_lastMaster Rc_differing Sh_pattern Rc_taken Sh_depth Sh_wordBytes Sh_e Rc_bytes) (As := [.int x1, .int x2]) (rest := [.int (0 : Int32), .ref qP3]) (hpc := 12) (t_DC_frame_1 l hfl D cI cJ tt sa qX qRc qSh qRc_bytes X_shape X_words X_mixer X_row X_coder X_sender Rc_words Rc_mixer Rc_nearest Rc_found Rc_facts Rc_putRight Rc_lastOfChannel Rc_lastMaster Rc_differing Sh_pattern _ Rc_taken Sh_depth Sh_wordBytes Sh_e Rc_bytes x1 x2 hm) F ok_DC_frame k_861 hK hE hY hP hD hS hA [0, 1, 2, 3] rfl (by decide) 0 rfl rfl rfl ⟨rfl, rfl, Nat.le_of_ble_eq_true rfl, Nat.le_of_ble_eq_true rfl⟩ ⟨Nat.le_of_ble_eq_true rfl, Nat.le_of_ble_eq_true rfl⟩ rfl hl.1 rfl (Nat.le_of_ble_eq_true rfl) d_La_frame_5 (fun T' x ce XX h1 h2 h3 => y_catch1 XX hown (hts _ k_820) (by decide) htab ⟨Nat.le_of_ble_eq_true rfl, Nat.le_of_ble_eq_true rfl⟩ (va_Nw.use rfl (hY.2.2.1 _ (List.mem_of_getElem? (i := 5) rfl))) rfl h1 h2 h3) (fun qz H hP hS => ?_)
  refine lv_astore (lv' := [(4, .ref qz), (0, .ref qX), (1, .int x1), (2, .int x2), (3, .ref qP3)]) hx hb d_La_frame_12 hl (by decide) rfl (fun ls hl => ?_)
  refine lv_iconst (v := (1 : Int32)) hx hb d_La_frame_14 (by decide) ?_
  exact z_qo hQ (z_ireti hr hx hb hlocks hK hP hD hS d_La_frame_15)
