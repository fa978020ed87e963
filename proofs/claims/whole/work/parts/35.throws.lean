def g_DC_form  (x1 : Int32) (x2 : Int32) (x3 : Int32) (x4 : Int32) : Option Nat :=
  bd (f_Shape_exists x1 x2 x3 x4) fun u2 =>
  nm u2 fun r1 =>
  if r1 = 0 then
    some 1
  else
  none
set_option maxHeartbeats 4000000 in
set_option maxRecDepth 100000 in
theorem t_DC_form_1 (l : Launch) (hfl : l.flags = pinnedFlags ++ [noTraceFlag]) (D : va_G) (cI cJ : ClassId) (tt sa : Nat → Nat) (qX qSh qWd qWd_generator qFd qFd_powers qFd_logs qRw qRw_cells qCd qSd qSd_channelCounts qRc qFo qFo_cells : Nat) (X_mixer Wd_remainder Wd_coefficients Wd_syndromes Wd_locator Fd_otherForms Fd_elements Cd_shape Cd_row Sd_shape Sd_words Sd_mixer Sd_bytes Sd_craft Rc_shape Rc_words Rc_mixer Rc_nearest Rc_bytes Rc_facts Rc_putRight Rc_lastOfChannel Rc_lastMaster : Value) (sz : Nat) (Sh_depth : Int32) (Sh_wordBytes : Int32) (Sh_e : Int32) (Sh_pattern : Int32) (Wd_generator : Nat → Int32) (Fd_powers : Nat → Int32) (Fd_logs : Nat → Int32) (Rw_length : Int32) (Rw_cells : Nat → Int64) (Cd_register : Int32) (Cd_put : Int32) (Sd_masterCount : Int32) (Sd_dataCount : Int32) (Sd_channelCounts : Nat → Int32) (Rc_differing : Int32) (Rc_taken : Int32) (Fo_length : Int32) (Fo_cells : Nat → Int64) (x1 : Int32) (x2 : Int32) (x3 : Int32) (x4 : Int32) (hm : g_DC_form x1 x2 x3 x4 = some 1) : CTt l y_DC_form b_DC_form 5 none (RC 6 1 6 82) D cI cJ tt sa [.ref qX, .int x1, .int x2, .int x3, .int x4] (w_DC_form cI cJ qX qSh qWd qWd_generator qFd qFd_powers qFd_logs qRw qRw_cells qCd qSd qSd_channelCounts qRc qFo qFo_cells X_mixer Wd_remainder Wd_coefficients Wd_syndromes Wd_locator Fd_otherForms Fd_elements Cd_shape Cd_row Sd_shape Sd_words Sd_mixer Sd_bytes Sd_craft Rc_shape Rc_words Rc_mixer Rc_nearest Rc_bytes Rc_facts Rc_putRight Rc_lastOfChannel Rc_lastMaster Sh_depth Sh_wordBytes Sh_e Sh_pattern Wd_generator Fd_powers Fd_logs Rw_length Rw_cells Cd_register Cd_put Sd_masterCount Sd_dataCount Sd_channelCounts Rc_differing Rc_taken Fo_length Fo_cells) sz "java/lang/IllegalArgumentException" := by
  refine z_ofT (cc := b_DC_form) (maxL := 5) (ret := none) (by decide) ?_
  intro p e s m args below meth c s₁ B hml hv
  obtain ⟨hargs, ⟨hsz, hP, hK, hD0, hE⟩, hY⟩ := hv
  have hx := B.exec
  have hb := B.bytes
  have hr := B.returns
  have hts : ∀ w ∈ TB, w.before args s = true := z_mV s (atoms_spec (ws := WD y_DC_form b_DC_form 5 none) B.pre)
  have hown : s.vm.findClass "DeepChannel" = some m.cls := findClass_of_methodNamed B.named
  have hlocks := B.notSynchronized
  have hnh := BodyLoose.noHandlers B (atoms_spec (ws := WD y_DC_form b_DC_form 5 none) B.pre _ List.mem_cons_self)
  subst hsz
  have hD := hD0.self (sz := s.heap.size)
  have hAe : ∀ q : Nat, s.heap.size ≤ q → va_A (w_DC_form cI cJ qX qSh qWd qWd_generator qFd qFd_powers qFd_logs qRw qRw_cells qCd qSd qSd_channelCounts qRc qFo qFo_cells X_mixer Wd_remainder Wd_coefficients Wd_syndromes Wd_locator Fd_otherForms Fd_elements Cd_shape Cd_row Sd_shape Sd_words Sd_mixer Sd_bytes Sd_craft Rc_shape Rc_words Rc_mixer Rc_nearest Rc_bytes Rc_facts Rc_putRight Rc_lastOfChannel Rc_lastMaster Sh_depth Sh_wordBytes Sh_e Sh_pattern Wd_generator Fd_powers Fd_logs Rw_length Rw_cells Cd_register Cd_put Sd_masterCount Sd_dataCount Sd_channelCounts Rc_differing Rc_taken Fo_length Fo_cells) s.heap.size q := fun q h => Or.inr h
  generalize va_A (w_DC_form cI cJ qX qSh qWd qWd_generator qFd qFd_powers qFd_logs qRw qRw_cells qCd qSd qSd_channelCounts qRc qFo qFo_cells X_mixer Wd_remainder Wd_coefficients Wd_syndromes Wd_locator Fd_otherForms Fd_elements Cd_shape Cd_row Sd_shape Sd_words Sd_mixer Sd_bytes Sd_craft Rc_shape Rc_words Rc_mixer Rc_nearest Rc_bytes Rc_facts Rc_putRight Rc_lastOfChannel Rc_lastMaster Sh_depth Sh_wordBytes Sh_e Sh_pattern Wd_generator Fd_powers Fd_logs Rw_length Rw_cells Cd_register Cd_put Sd_masterCount Sd_dataCount Sd_channelCounts Rc_differing Rc_taken Fo_length Fo_cells) s.heap.size = A at hD hE hAe hY
  have hA : ∀ q : Nat, s.heap.size ≤ q → A q := hAe
  have hS : va_S A s.heap s.heap [] := va_S.rf
  refine z_entry (vs := [.ref qX, .int x1, .int x2, .int x3, .int x4]) hargs (Nat.le_of_ble_eq_true rfl) (fun ls hl => ?_)
  have hl : lv_has ls 5 [(0, .ref qX), (1, .int x1), (2, .int x2), (3, .int x3), (4, .int x4)] := hl
  show W p l e (RC 6 1 6 82) s m args below meth c s.heap [] 0 0 _ _
  refine z_qi (fun Q0 hQ => ?_)
  have F : CallFix p m c b_DC_form 5 s args TB "DeepChannel" := ⟨hx, hb, hml, hown, hts⟩
  unfold g_DC_form at hm
  refine lv_iload_n hx hb d_DC_form_0 rfl (lv_at hl 1 rfl) ?_
  refine lv_iload_n hx hb d_DC_form_1 rfl (lv_at hl 2 rfl) ?_
  refine lv_iload_n hx hb d_DC_form_2 rfl (lv_at hl 3 rfl) ?_
  refine lv_iload hx hb d_DC_form_3 (lv_at hl 4 rfl) ?_
  obtain ⟨r1, hu, hm⟩ := bd_el hm
  replace hm := nm_1 hm
  refine z_pcS (wc := w_Shape_exists) (As := [.int x1, .int x2, .int x3, .int x4]) (rest := []) (p_Shape_exists l D cI cJ tt _ x1 x2 x3 x4 r1 hu) F ok_Shape_exists k_401 hK hE hP hD hS hA [] rfl (by decide) ⟨rfl, rfl, Nat.le_of_ble_eq_true rfl, Nat.le_of_ble_eq_true rfl⟩ ⟨Nat.zero_le _, Nat.zero_le _⟩ rfl hl.1 rfl (Nat.le_of_ble_eq_true rfl) d_DC_form_5 ?_
  refine z_ifn hm (lv_if_ne (tgt := 21) hx hb d_DC_form_8 (by decide)) (fun hm => ?_) (fun hm => ?_)
  · exact z_qo hQ (z_throw 0 hfl hx hb hown hts hY (by decide) k_404 k_405 k_59 hat_IAE (by decide) hlocks hml hl.1 (Nat.le_of_ble_eq_true rfl) (Nat.le_of_ble_eq_true rfl) (Nat.le_of_ble_eq_true rfl) (Nat.le_of_ble_eq_true rfl) hnh d_DC_form_11 d_DC_form_14 d_DC_form_15 d_DC_form_17 d_DC_form_20)
  · cases hm
def g_DC_craft  (x1 : Int32) : Option Nat :=
  if x1 < 0 then
    some 1
  else
  if x1 < (1024 : Int32) then
    none
  else
  some 1
set_option maxHeartbeats 4000000 in
set_option maxRecDepth 100000 in
theorem t_DC_craft_1 (l : Launch) (hfl : l.flags = pinnedFlags ++ [noTraceFlag]) (D : va_G) (cI cJ : ClassId) (tt sa : Nat → Nat) (qX qSd : Nat) (X_shape X_words X_mixer X_row X_coder X_receiver Sd_shape Sd_words Sd_mixer Sd_bytes Sd_channelCounts Sd_masterCount Sd_dataCount : Value) (sz : Nat) (Sd_craft : Int32) (x1 : Int32) (hm : g_DC_craft x1 = some 1) : CTt l y_DC_craft b_DC_craft 2 (some .int) (RC 6 1 6 82) D cI cJ tt sa [.ref qX, .int x1] (w_DC_craft cI cJ qX qSd X_shape X_words X_mixer X_row X_coder X_receiver Sd_shape Sd_words Sd_mixer Sd_bytes Sd_channelCounts Sd_masterCount Sd_dataCount Sd_craft) sz "java/lang/IllegalArgumentException" := by
  refine z_ofT (cc := b_DC_craft) (maxL := 2) (ret := (some .int)) (by decide) ?_
  intro p e s m args below meth c s₁ B hml hv
  obtain ⟨hargs, ⟨hsz, hP, hK, hD0, hE⟩, hY⟩ := hv
  have hx := B.exec
  have hb := B.bytes
  have hr := B.returns
  have hts : ∀ w ∈ TB, w.before args s = true := z_mV s (atoms_spec (ws := WD y_DC_craft b_DC_craft 2 (some .int)) B.pre)
  have hown : s.vm.findClass "DeepChannel" = some m.cls := findClass_of_methodNamed B.named
  have hlocks := B.notSynchronized
  have hnh := BodyLoose.noHandlers B (atoms_spec (ws := WD y_DC_craft b_DC_craft 2 (some .int)) B.pre _ List.mem_cons_self)
  subst hsz
  have hD := hD0.self (sz := s.heap.size)
  have hAe : ∀ q : Nat, s.heap.size ≤ q → va_A (w_DC_craft cI cJ qX qSd X_shape X_words X_mixer X_row X_coder X_receiver Sd_shape Sd_words Sd_mixer Sd_bytes Sd_channelCounts Sd_masterCount Sd_dataCount Sd_craft) s.heap.size q := fun q h => Or.inr h
  generalize va_A (w_DC_craft cI cJ qX qSd X_shape X_words X_mixer X_row X_coder X_receiver Sd_shape Sd_words Sd_mixer Sd_bytes Sd_channelCounts Sd_masterCount Sd_dataCount Sd_craft) s.heap.size = A at hD hE hAe hY
  have hA : ∀ q : Nat, s.heap.size ≤ q → A q := hAe
  have hS : va_S A s.heap s.heap [] := va_S.rf
  refine z_entry (vs := [.ref qX, .int x1]) hargs (Nat.le_of_ble_eq_true rfl) (fun ls hl => ?_)
  have hl : lv_has ls 2 [(0, .ref qX), (1, .int x1)] := hl
  show W p l e (RC 6 1 6 82) s m args below meth c s.heap [] 0 0 _ _
  refine z_qi (fun Q0 hQ => ?_)
  have F : CallFix p m c b_DC_craft 2 s args TB "DeepChannel" := ⟨hx, hb, hml, hown, hts⟩
  unfold g_DC_craft at hm
  refine lv_iload_n hx hb d_DC_craft_0 rfl (lv_at hl 1 rfl) ?_
  refine z_if hm (lv_if_lt (tgt := 11) hx hb d_DC_craft_1 (by decide)) (fun hm => ?_) (fun hm => ?_)
  · exact z_qo hQ (z_throw 1 hfl hx hb hown hts hY (by decide) k_404 k_405 k_59 hat_IAE (by decide) hlocks hml hl.1 (Nat.le_of_ble_eq_true rfl) (Nat.le_of_ble_eq_true rfl) (Nat.le_of_ble_eq_true rfl) (Nat.le_of_ble_eq_true rfl) hnh d_DC_craft_11 d_DC_craft_14 d_DC_craft_15 d_DC_craft_17 d_DC_craft_20)
  · refine lv_iload_n hx hb d_DC_craft_4 rfl (lv_at hl 1 rfl) ?_
    refine lv_sipush (v := (1024 : Int32)) hx hb d_DC_craft_5 (by decide) ?_
    refine z_if hm (lv_icmp_lt (tgt := 21) hx hb d_DC_craft_8 (by decide)) (fun hm => ?_) (fun hm => ?_)
    · cases hm
    · exact z_qo hQ (z_throw 1 hfl hx hb hown hts hY (by decide) k_404 k_405 k_59 hat_IAE (by decide) hlocks hml hl.1 (Nat.le_of_ble_eq_true rfl) (Nat.le_of_ble_eq_true rfl) (Nat.le_of_ble_eq_true rfl) (Nat.le_of_ble_eq_true rfl) hnh d_DC_craft_11 d_DC_craft_14 d_DC_craft_15 d_DC_craft_17 d_DC_craft_20)
def g_DC_told  (x1 : Int32) : Option Nat :=
  if x1 = (0 : Int32) then
    none
  else
  if x1 = (1 : Int32) then
    none
  else
  if x1 = (2 : Int32) then
    none
  else
  if x1 = (3 : Int32) then
    none
  else
  if x1 = (4 : Int32) then
    none
  else
  if x1 = (5 : Int32) then
    none
  else
  if x1 = (6 : Int32) then
    none
  else
  if x1 = (7 : Int32) then
    none
  else
  some 1
set_option maxHeartbeats 4000000 in
set_option maxRecDepth 100000 in
theorem t_DC_told_1 (l : Launch) (hfl : l.flags = pinnedFlags ++ [noTraceFlag]) (D : va_G) (cI cJ : ClassId) (tt sa : Nat → Nat) (qX qRc qFo qSd qRw qSh : Nat) (X_words X_mixer X_coder Rc_shape Rc_words Rc_mixer Rc_nearest Rc_bytes Rc_facts Rc_putRight Rc_lastOfChannel Rc_lastMaster Fo_cells Sd_shape Sd_words Sd_mixer Sd_bytes Sd_channelCounts Sd_masterCount Sd_craft Rw_cells Sh_pattern : Value) (sz : Nat) (Rc_differing : Int32) (Rc_taken : Int32) (Fo_length : Int32) (Sd_dataCount : Int32) (Rw_length : Int32) (Sh_depth : Int32) (Sh_wordBytes : Int32) (Sh_e : Int32) (x1 : Int32) (hm : g_DC_told x1 = some 1) : CTt l y_DC_told b_DC_told 2 (some .int) (RC 6 1 6 82) D cI cJ tt sa [.ref qX, .int x1] (w_DC_told cI cJ qX qRc qFo qSd qRw qSh X_words X_mixer X_coder Rc_shape Rc_words Rc_mixer Rc_nearest Rc_bytes Rc_facts Rc_putRight Rc_lastOfChannel Rc_lastMaster Fo_cells Sd_shape Sd_words Sd_mixer Sd_bytes Sd_channelCounts Sd_masterCount Sd_craft Rw_cells Sh_pattern Rc_differing Rc_taken Fo_length Sd_dataCount Rw_length Sh_depth Sh_wordBytes Sh_e) sz "java/lang/IllegalArgumentException" := by
  refine z_ofT (cc := b_DC_told) (maxL := 2) (ret := (some .int)) (by decide) ?_
  intro p e s m args below meth c s₁ B hml hv
  obtain ⟨hargs, ⟨hsz, hP, hK, hD0, hE⟩, hY⟩ := hv
  have hx := B.exec
  have hb := B.bytes
  have hr := B.returns
  have hts : ∀ w ∈ TB, w.before args s = true := z_mV s (atoms_spec (ws := WD y_DC_told b_DC_told 2 (some .int)) B.pre)
  have hown : s.vm.findClass "DeepChannel" = some m.cls := findClass_of_methodNamed B.named
  have hlocks := B.notSynchronized
  have hnh := BodyLoose.noHandlers B (atoms_spec (ws := WD y_DC_told b_DC_told 2 (some .int)) B.pre _ List.mem_cons_self)
  subst hsz
  have hD := hD0.self (sz := s.heap.size)
  have hAe : ∀ q : Nat, s.heap.size ≤ q → va_A (w_DC_told cI cJ qX qRc qFo qSd qRw qSh X_words X_mixer X_coder Rc_shape Rc_words Rc_mixer Rc_nearest Rc_bytes Rc_facts Rc_putRight Rc_lastOfChannel Rc_lastMaster Fo_cells Sd_shape Sd_words Sd_mixer Sd_bytes Sd_channelCounts Sd_masterCount Sd_craft Rw_cells Sh_pattern Rc_differing Rc_taken Fo_length Sd_dataCount Rw_length Sh_depth Sh_wordBytes Sh_e) s.heap.size q := fun q h => Or.inr h
  generalize va_A (w_DC_told cI cJ qX qRc qFo qSd qRw qSh X_words X_mixer X_coder Rc_shape Rc_words Rc_mixer Rc_nearest Rc_bytes Rc_facts Rc_putRight Rc_lastOfChannel Rc_lastMaster Fo_cells Sd_shape Sd_words Sd_mixer Sd_bytes Sd_channelCounts Sd_masterCount Sd_craft Rw_cells Sh_pattern Rc_differing Rc_taken Fo_length Sd_dataCount Rw_length Sh_depth Sh_wordBytes Sh_e) s.heap.size = A at hD hE hAe hY
  have hA : ∀ q : Nat, s.heap.size ≤ q → A q := hAe
  have hS : va_S A s.heap s.heap [] := va_S.rf
  refine z_entry (vs := [.ref qX, .int x1]) hargs (Nat.le_of_ble_eq_true rfl) (fun ls hl => ?_)
  have hl : lv_has ls 2 [(0, .ref qX), (1, .int x1)] := hl
  show W p l e (RC 6 1 6 82) s m args below meth c s.heap [] 0 0 _ _
  refine z_qi (fun Q0 hQ => ?_)
  have F : CallFix p m c b_DC_told 2 s args TB "DeepChannel" := ⟨hx, hb, hml, hown, hts⟩
  unfold g_DC_told at hm
  refine lv_iload_n hx hb d_DC_told_0 rfl (lv_at hl 1 rfl) ?_
  refine z_sp hm (fun e0 hm => z_swin (tgt := 48) (off := 47) e0 hx hb d_DC_told_1 (by decide) (by decide) (by decide) (by decide) ?_) (fun e0 hm => ?_)
  · cases hm
  refine z_sp hm (fun e1 hm => z_swin (tgt := 56) (off := 55) e1 hx hb d_DC_told_1 (by decide) (by decide) (by decide) (by decide) ?_) (fun e1 hm => ?_)
  · cases hm
  refine z_sp hm (fun e2 hm => z_swin (tgt := 64) (off := 63) e2 hx hb d_DC_told_1 (by decide) (by decide) (by decide) (by decide) ?_) (fun e2 hm => ?_)
  · cases hm
  refine z_sp hm (fun e3 hm => z_swin (tgt := 72) (off := 71) e3 hx hb d_DC_told_1 (by decide) (by decide) (by decide) (by decide) ?_) (fun e3 hm => ?_)
  · cases hm
  refine z_sp hm (fun e4 hm => z_swin (tgt := 80) (off := 79) e4 hx hb d_DC_told_1 (by decide) (by decide) (by decide) (by decide) ?_) (fun e4 hm => ?_)
  · cases hm
  refine z_sp hm (fun e5 hm => z_swin (tgt := 88) (off := 87) e5 hx hb d_DC_told_1 (by decide) (by decide) (by decide) (by decide) ?_) (fun e5 hm => ?_)
  · cases hm
  refine z_sp hm (fun e6 hm => z_swin (tgt := 96) (off := 95) e6 hx hb d_DC_told_1 (by decide) (by decide) (by decide) (by decide) ?_) (fun e6 hm => ?_)
  · cases hm
  refine z_sp hm (fun e7 hm => z_swin (tgt := 104) (off := 103) e7 hx hb d_DC_told_1 (by decide) (by decide) (by decide) (by decide) ?_) (fun e7 hm => ?_)
  · cases hm
  refine z_swout (tgt := 112) (z_swl [(0 : Int32), (1 : Int32), (2 : Int32), (3 : Int32), (4 : Int32), (5 : Int32), (6 : Int32), (7 : Int32)] ⟨e0, e1, e2, e3, e4, e5, e6, e7, trivial⟩ (by decide)) (by decide) hx hb d_DC_told_1 (by decide) ?_
  exact z_qo hQ (z_throw 2 hfl hx hb hown hts hY (by decide) k_404 k_405 k_59 hat_IAE (by decide) hlocks hml hl.1 (Nat.le_of_ble_eq_true rfl) (Nat.le_of_ble_eq_true rfl) (Nat.le_of_ble_eq_true rfl) (Nat.le_of_ble_eq_true rfl) hnh d_DC_told_112 d_DC_told_115 d_DC_told_116 d_DC_told_118 d_DC_told_121)
def g_DC_data  (x1 : Int32) (x2 : Int64) : Option Nat :=
  if x1 < (1 : Int32) then
    some 1
  else
  if x1 ≤ (8 : Int32) then
    none
  else
  some 1
set_option maxHeartbeats 4000000 in
set_option maxRecDepth 100000 in
theorem t_DC_data_1 (l : Launch) (hfl : l.flags = pinnedFlags ++ [noTraceFlag]) (D : va_G) (cI cJ : ClassId) (tt sa : Nat → Nat) (qX qSd qSh qSd_bytes : Nat) (X_shape X_words X_mixer X_row X_coder X_receiver Sd_words Sd_mixer Sd_channelCounts Sd_masterCount Sd_craft Sh_pattern : Value) (sz : Nat) (Sd_dataCount : Int32) (Sh_depth : Int32) (Sh_wordBytes : Int32) (Sh_e : Int32) (Sd_bytes : Nat → Int32) (x1 : Int32) (x2 : Int64) (hm : g_DC_data x1 x2 = some 1) : CTt l y_DC_data b_DC_data 4 (some .int) (RC 6 1 6 82) D cI cJ tt sa [.ref qX, .int x1, .long x2] (w_DC_data cI cJ qX qSd qSh qSd_bytes X_shape X_words X_mixer X_row X_coder X_receiver Sd_words Sd_mixer Sd_channelCounts Sd_masterCount Sd_craft Sh_pattern Sd_dataCount Sh_depth Sh_wordBytes Sh_e Sd_bytes) sz "java/lang/IllegalArgumentException" := by
  refine z_ofT (cc := b_DC_data) (maxL := 4) (ret := (some .int)) (by decide) ?_
  intro p e s m args below meth c s₁ B hml hv
  obtain ⟨hargs, ⟨hsz, hP, hK, hD0, hE⟩, hY⟩ := hv
  have hx := B.exec
  have hb := B.bytes
  have hr := B.returns
  have hts : ∀ w ∈ TB, w.before args s = true := z_mV s (atoms_spec (ws := WD y_DC_data b_DC_data 4 (some .int)) B.pre)
  have hown : s.vm.findClass "DeepChannel" = some m.cls := findClass_of_methodNamed B.named
  have hlocks := B.notSynchronized
  have hnh := BodyLoose.noHandlers B (atoms_spec (ws := WD y_DC_data b_DC_data 4 (some .int)) B.pre _ List.mem_cons_self)
  subst hsz
  have hD := hD0.self (sz := s.heap.size)
  have hAe : ∀ q : Nat, s.heap.size ≤ q → va_A (w_DC_data cI cJ qX qSd qSh qSd_bytes X_shape X_words X_mixer X_row X_coder X_receiver Sd_words Sd_mixer Sd_channelCounts Sd_masterCount Sd_craft Sh_pattern Sd_dataCount Sh_depth Sh_wordBytes Sh_e Sd_bytes) s.heap.size q := fun q h => Or.inr h
  generalize va_A (w_DC_data cI cJ qX qSd qSh qSd_bytes X_shape X_words X_mixer X_row X_coder X_receiver Sd_words Sd_mixer Sd_channelCounts Sd_masterCount Sd_craft Sh_pattern Sd_dataCount Sh_depth Sh_wordBytes Sh_e Sd_bytes) s.heap.size = A at hD hE hAe hY
  have hA : ∀ q : Nat, s.heap.size ≤ q → A q := hAe
  have hS : va_S A s.heap s.heap [] := va_S.rf
  refine z_entry (vs := [.ref qX, .int x1, .long x2]) hargs (Nat.le_of_ble_eq_true rfl) (fun ls hl => ?_)
  have hl : lv_has ls 4 [(0, .ref qX), (1, .int x1), (2, .long x2)] := hl
  show W p l e (RC 6 1 6 82) s m args below meth c s.heap [] 0 0 _ _
  refine z_qi (fun Q0 hQ => ?_)
  have F : CallFix p m c b_DC_data 4 s args TB "DeepChannel" := ⟨hx, hb, hml, hown, hts⟩
  unfold g_DC_data at hm
  refine lv_iload_n hx hb d_DC_data_0 rfl (lv_at hl 1 rfl) ?_
  refine lv_iconst (v := (1 : Int32)) hx hb d_DC_data_1 (by decide) ?_
  refine z_if hm (lv_icmp_lt (tgt := 11) hx hb d_DC_data_2 (by decide)) (fun hm => ?_) (fun hm => ?_)
  · exact z_qo hQ (z_throw 3 hfl hx hb hown hts hY (by decide) k_404 k_405 k_59 hat_IAE (by decide) hlocks hml hl.1 (Nat.le_of_ble_eq_true rfl) (Nat.le_of_ble_eq_true rfl) (Nat.le_of_ble_eq_true rfl) (Nat.le_of_ble_eq_true rfl) hnh d_DC_data_11 d_DC_data_14 d_DC_data_15 d_DC_data_17 d_DC_data_20)
  · refine lv_iload_n hx hb d_DC_data_5 rfl (lv_at hl 1 rfl) ?_
    refine lv_bipush (v := (8 : Int32)) hx hb d_DC_data_6 (by decide) ?_
    refine z_if hm (lv_icmp_le (tgt := 21) hx hb d_DC_data_8 (by decide)) (fun hm => ?_) (fun hm => ?_)
    · cases hm
    · exact z_qo hQ (z_throw 3 hfl hx hb hown hts hY (by decide) k_404 k_405 k_59 hat_IAE (by decide) hlocks hml hl.1 (Nat.le_of_ble_eq_true rfl) (Nat.le_of_ble_eq_true rfl) (Nat.le_of_ble_eq_true rfl) (Nat.le_of_ble_eq_true rfl) hnh d_DC_data_11 d_DC_data_14 d_DC_data_15 d_DC_data_17 d_DC_data_20)
def g_DC_send (Sd_dataCount : Int32) (Sh_depth : Int32) (Sh_wordBytes : Int32) (Sh_e : Int32) (x1 : Int32) : Option Nat :=
  bd (f_DC_isChannel x1) fun u2 =>
  nm u2 fun r1 =>
  if r1 = 0 then
    some 1
  else
  bd (f_Sender_waiting Sd_dataCount) fun u4 =>
  nm u4 fun r3 =>
  bd (f_Shape_dataBytes Sh_depth Sh_wordBytes Sh_e) fun u6 =>
  nm u6 fun r5 =>
  if r3 = r5 then
    none
  else
  some 2
set_option maxHeartbeats 4000000 in
set_option maxRecDepth 100000 in
theorem t_DC_send_1 (l : Launch) (hfl : l.flags = pinnedFlags ++ [noTraceFlag]) (D : va_G) (cI cJ : ClassId) (tt sa : Nat → Nat) (qX qSd qSh qCd qRw qSd_bytes qSd_channelCounts qWd qWd_remainder qFd qFd_otherForms qFd_elements qWd_generator qFd_logs qFd_powers qRw_cells qMx qMx_bytes : Nat) (X_words X_mixer X_receiver Wd_coefficients Wd_syndromes Wd_locator : Value) (sz : Nat) (Sd_masterCount : Int32) (Sd_craft : Int32) (Sd_dataCount : Int32) (Sh_depth : Int32) (Sh_wordBytes : Int32) (Sh_e : Int32) (Sh_pattern : Int32) (Cd_register : Int32) (Cd_put : Int32) (Rw_length : Int32) (Sd_bytes : Nat → Int32) (Sd_channelCounts : Nat → Int32) (Wd_remainder : Nat → Int32) (Fd_otherForms : Nat → Int32) (Fd_elements : Nat → Int32) (Wd_generator : Nat → Int32) (Fd_logs : Nat → Int32) (Fd_powers : Nat → Int32) (Rw_cells : Nat → Int64) (Mx_bytes : Nat → Int32) (x1 : Int32) (hm : g_DC_send Sd_dataCount Sh_depth Sh_wordBytes Sh_e x1 = some 1) : CTt l y_DC_send b_DC_send 2 (some .int) (RC 6 1 6 82) D cI cJ tt sa [.ref qX, .int x1] (w_DC_send cI cJ qX qSd qSh qCd qRw qSd_bytes qSd_channelCounts qWd qWd_remainder qFd qFd_otherForms qFd_elements qWd_generator qFd_logs qFd_powers qRw_cells qMx qMx_bytes X_words X_mixer X_receiver Wd_coefficients Wd_syndromes Wd_locator Sd_masterCount Sd_craft Sd_dataCount Sh_depth Sh_wordBytes Sh_e Sh_pattern Cd_register Cd_put Rw_length Sd_bytes Sd_channelCounts Wd_remainder Fd_otherForms Fd_elements Wd_generator Fd_logs Fd_powers Rw_cells Mx_bytes) sz "java/lang/IllegalArgumentException" := by
  refine z_ofT (cc := b_DC_send) (maxL := 2) (ret := (some .int)) (by decide) ?_
  intro p e s m args below meth c s₁ B hml hv
  obtain ⟨hargs, ⟨hsz, hP, hK, hD0, hE⟩, hY⟩ := hv
  have hx := B.exec
  have hb := B.bytes
  have hr := B.returns
  have hts : ∀ w ∈ TB, w.before args s = true := z_mV s (atoms_spec (ws := WD y_DC_send b_DC_send 2 (some .int)) B.pre)
  have hown : s.vm.findClass "DeepChannel" = some m.cls := findClass_of_methodNamed B.named
  have hlocks := B.notSynchronized
  have hnh := BodyLoose.noHandlers B (atoms_spec (ws := WD y_DC_send b_DC_send 2 (some .int)) B.pre _ List.mem_cons_self)
  subst hsz
  have hD := hD0.self (sz := s.heap.size)
  have hAe : ∀ q : Nat, s.heap.size ≤ q → va_A (w_DC_send cI cJ qX qSd qSh qCd qRw qSd_bytes qSd_channelCounts qWd qWd_remainder qFd qFd_otherForms qFd_elements qWd_generator qFd_logs qFd_powers qRw_cells qMx qMx_bytes X_words X_mixer X_receiver Wd_coefficients Wd_syndromes Wd_locator Sd_masterCount Sd_craft Sd_dataCount Sh_depth Sh_wordBytes Sh_e Sh_pattern Cd_register Cd_put Rw_length Sd_bytes Sd_channelCounts Wd_remainder Fd_otherForms Fd_elements Wd_generator Fd_logs Fd_powers Rw_cells Mx_bytes) s.heap.size q := fun q h => Or.inr h
  generalize va_A (w_DC_send cI cJ qX qSd qSh qCd qRw qSd_bytes qSd_channelCounts qWd qWd_remainder qFd qFd_otherForms qFd_elements qWd_generator qFd_logs qFd_powers qRw_cells qMx qMx_bytes X_words X_mixer X_receiver Wd_coefficients Wd_syndromes Wd_locator Sd_masterCount Sd_craft Sd_dataCount Sh_depth Sh_wordBytes Sh_e Sh_pattern Cd_register Cd_put Rw_length Sd_bytes Sd_channelCounts Wd_remainder Fd_otherForms Fd_elements Wd_generator Fd_logs Fd_powers Rw_cells Mx_bytes) s.heap.size = A at hD hE hAe hY
  have hA : ∀ q : Nat, s.heap.size ≤ q → A q := hAe
  have hS : va_S A s.heap s.heap [] := va_S.rf
  refine z_entry (vs := [.ref qX, .int x1]) hargs (Nat.le_of_ble_eq_true rfl) (fun ls hl => ?_)
  have hl : lv_has ls 2 [(0, .ref qX), (1, .int x1)] := hl
  show W p l e (RC 6 1 6 82) s m args below meth c s.heap [] 0 0 _ _
  refine z_qi (fun Q0 hQ => ?_)
  have F : CallFix p m c b_DC_send 2 s args TB "DeepChannel" := ⟨hx, hb, hml, hown, hts⟩
  unfold g_DC_send at hm
  refine lv_iload_n hx hb d_DC_send_0 rfl (lv_at hl 1 rfl) ?_
  obtain ⟨r1, hu, hm⟩ := bd_el hm
  replace hm := nm_1 hm
  refine z_pcS (wc := w_DC_isChannel) (As := [.int x1]) (rest := []) (p_DC_isChannel l D cI cJ tt _ x1 r1 hu) F ok_DC_isChannel k_573 hK hE hP hD hS hA [] rfl (by decide) ⟨rfl, rfl, Nat.le_of_ble_eq_true rfl, Nat.le_of_ble_eq_true rfl⟩ ⟨Nat.zero_le _, Nat.zero_le _⟩ rfl hl.1 rfl (Nat.le_of_ble_eq_true rfl) d_DC_send_1 ?_
  refine z_ifn hm (lv_if_ne (tgt := 17) hx hb d_DC_send_4 (by decide)) (fun hm => ?_) (fun hm => ?_)
  · exact z_qo hQ (z_throw 4 hfl hx hb hown hts hY (by decide) k_404 k_405 k_59 hat_IAE (by decide) hlocks hml hl.1 (Nat.le_of_ble_eq_true rfl) (Nat.le_of_ble_eq_true rfl) (Nat.le_of_ble_eq_true rfl) (Nat.le_of_ble_eq_true rfl) hnh d_DC_send_7 d_DC_send_10 d_DC_send_11 d_DC_send_13 d_DC_send_16)
  · refine lv_aload_n hx hb d_DC_send_17 rfl (lv_at hl 0 rfl) ?_
    refine va_get (D := D) (ci := 10) (v := .ref qSd) (C := "DeepChannel") (T := fT_DC) (N := 7) hx hb hts u_DC hown hK hP 0 rfl rfl 5 (by decide) (hts _ k_346) (fun _ h9 => h9) rfl d_DC_send_18 ?_
    obtain ⟨r3, hu, hm⟩ := bd_el hm
    replace hm := nm_1 hm
    refine z_pcV (wc := w_Sender_waiting cI cJ qSd (.ref qSh) (.ref qWd) (.ref qMx) (.ref qSd_bytes) (.ref qSd_channelCounts) (.int Sd_masterCount) (.int Sd_craft) Sd_dataCount) (As := []) (rest := []) (p_Sender_waiting l D cI cJ tt qSd (.ref qSh) (.ref qWd) (.ref qMx) (.ref qSd_bytes) (.ref qSd_channelCounts) (.int Sd_masterCount) (.int Sd_craft) _ Sd_dataCount r3 hu) F ok_Sender_waiting rfl k_534 hK hE hP hD hS hA [1] rfl (by decide) 1 rfl rfl rfl ⟨rfl, rfl, Nat.le_of_ble_eq_true rfl, Nat.le_of_ble_eq_true rfl⟩ ⟨Nat.zero_le _, Nat.zero_le _⟩ rfl hl.1 rfl (Nat.le_of_ble_eq_true rfl) d_DC_send_21 ?_
    refine lv_aload_n hx hb d_DC_send_24 rfl (lv_at hl 0 rfl) ?_
    refine va_get (D := D) (ci := 10) (v := .ref qSh) (C := "DeepChannel") (T := fT_DC) (N := 7) hx hb hts u_DC hown hK hP 0 rfl rfl 0 (by decide) (hts _ k_341) (fun _ h9 => h9) rfl d_DC_send_25 ?_
    obtain ⟨r5, hu, hm⟩ := bd_el hm
    replace hm := nm_1 hm
    refine z_pcV (wc := w_Shape_dataBytes cI cJ qSh (.int Sh_pattern) Sh_depth Sh_wordBytes Sh_e) (As := []) (rest := [.int r3]) (p_Shape_dataBytes l D cI cJ tt qSh (.int Sh_pattern) _ Sh_depth Sh_wordBytes Sh_e r5 hu) F ok_Shape_dataBytes rfl k_521 hK hE hP hD hS hA [2] rfl (by decide) 2 rfl rfl rfl ⟨rfl, rfl, Nat.le_of_ble_eq_true rfl, Nat.le_of_ble_eq_true rfl⟩ ⟨Nat.zero_le _, Nat.zero_le _⟩ rfl hl.1 rfl (Nat.le_of_ble_eq_true rfl) d_DC_send_28 ?_
    refine z_if hm (lv_icmp_eq (tgt := 44) hx hb d_DC_send_31 (by decide)) (fun hm => ?_) (fun hm => ?_)
    · cases hm
    · exact absurd hm (by decide)
set_option maxHeartbeats 4000000 in
set_option maxRecDepth 100000 in
theorem t_DC_send_2 (l : Launch) (hfl : l.flags = pinnedFlags ++ [noTraceFlag]) (D : va_G) (cI cJ : ClassId) (tt sa : Nat → Nat) (qX qSd qSh qCd qRw qSd_bytes qSd_channelCounts qWd qWd_remainder qFd qFd_otherForms qFd_elements qWd_generator qFd_logs qFd_powers qRw_cells qMx qMx_bytes : Nat) (X_words X_mixer X_receiver Wd_coefficients Wd_syndromes Wd_locator : Value) (sz : Nat) (Sd_masterCount : Int32) (Sd_craft : Int32) (Sd_dataCount : Int32) (Sh_depth : Int32) (Sh_wordBytes : Int32) (Sh_e : Int32) (Sh_pattern : Int32) (Cd_register : Int32) (Cd_put : Int32) (Rw_length : Int32) (Sd_bytes : Nat → Int32) (Sd_channelCounts : Nat → Int32) (Wd_remainder : Nat → Int32) (Fd_otherForms : Nat → Int32) (Fd_elements : Nat → Int32) (Wd_generator : Nat → Int32) (Fd_logs : Nat → Int32) (Fd_powers : Nat → Int32) (Rw_cells : Nat → Int64) (Mx_bytes : Nat → Int32) (x1 : Int32) (hm : g_DC_send Sd_dataCount Sh_depth Sh_wordBytes Sh_e x1 = some 2) : CTt l y_DC_send b_DC_send 2 (some .int) (RC 6 1 6 82) D cI cJ tt sa [.ref qX, .int x1] (w_DC_send cI cJ qX qSd qSh qCd qRw qSd_bytes qSd_channelCounts qWd qWd_remainder qFd qFd_otherForms qFd_elements qWd_generator qFd_logs qFd_powers qRw_cells qMx qMx_bytes X_words X_mixer X_receiver Wd_coefficients Wd_syndromes Wd_locator Sd_masterCount Sd_craft Sd_dataCount Sh_depth Sh_wordBytes Sh_e Sh_pattern Cd_register Cd_put Rw_length Sd_bytes Sd_channelCounts Wd_remainder Fd_otherForms Fd_elements Wd_generator Fd_logs Fd_powers Rw_cells Mx_bytes) sz "java/lang/IllegalStateException" := by
  refine z_ofT (cc := b_DC_send) (maxL := 2) (ret := (some .int)) (by decide) ?_
  intro p e s m args below meth c s₁ B hml hv
  obtain ⟨hargs, ⟨hsz, hP, hK, hD0, hE⟩, hY⟩ := hv
  have hx := B.exec
  have hb := B.bytes
  have hr := B.returns
  have hts : ∀ w ∈ TB, w.before args s = true := z_mV s (atoms_spec (ws := WD y_DC_send b_DC_send 2 (some .int)) B.pre)
  have hown : s.vm.findClass "DeepChannel" = some m.cls := findClass_of_methodNamed B.named
  have hlocks := B.notSynchronized
  have hnh := BodyLoose.noHandlers B (atoms_spec (ws := WD y_DC_send b_DC_send 2 (some .int)) B.pre _ List.mem_cons_self)
  subst hsz
  have hD := hD0.self (sz := s.heap.size)
  have hAe : ∀ q : Nat, s.heap.size ≤ q → va_A (w_DC_send cI cJ qX qSd qSh qCd qRw qSd_bytes qSd_channelCounts qWd qWd_remainder qFd qFd_otherForms qFd_elements qWd_generator qFd_logs qFd_powers qRw_cells qMx qMx_bytes X_words X_mixer X_receiver Wd_coefficients Wd_syndromes Wd_locator Sd_masterCount Sd_craft Sd_dataCount Sh_depth Sh_wordBytes Sh_e Sh_pattern Cd_register Cd_put Rw_length Sd_bytes Sd_channelCounts Wd_remainder Fd_otherForms Fd_elements Wd_generator Fd_logs Fd_powers Rw_cells Mx_bytes) s.heap.size q := fun q h => Or.inr h
  generalize va_A (w_DC_send cI cJ qX qSd qSh qCd qRw qSd_bytes qSd_channelCounts qWd qWd_remainder qFd qFd_otherForms qFd_elements qWd_generator qFd_logs qFd_powers qRw_cells qMx qMx_bytes X_words X_mixer X_receiver Wd_coefficients Wd_syndromes Wd_locator Sd_masterCount Sd_craft Sd_dataCount Sh_depth Sh_wordBytes Sh_e Sh_pattern Cd_register Cd_put Rw_length Sd_bytes Sd_channelCounts Wd_remainder Fd_otherForms Fd_elements Wd_generator Fd_logs Fd_powers Rw_cells Mx_bytes) s.heap.size = A at hD hE hAe hY
  have hA : ∀ q : Nat, s.heap.size ≤ q → A q := hAe
  have hS : va_S A s.heap s.heap [] := va_S.rf
  refine z_entry (vs := [.ref qX, .int x1]) hargs (Nat.le_of_ble_eq_true rfl) (fun ls hl => ?_)
  have hl : lv_has ls 2 [(0, .ref qX), (1, .int x1)] := hl
  show W p l e (RC 6 1 6 82) s m args below meth c s.heap [] 0 0 _ _
  refine z_qi (fun Q0 hQ => ?_)
  have F : CallFix p m c b_DC_send 2 s args TB "DeepChannel" := ⟨hx, hb, hml, hown, hts⟩
  unfold g_DC_send at hm
  refine lv_iload_n hx hb d_DC_send_0 rfl (lv_at hl 1 rfl) ?_
  obtain ⟨r1, hu, hm⟩ := bd_el hm
  replace hm := nm_1 hm
  refine z_pcS (wc := w_DC_isChannel) (As := [.int x1]) (rest := []) (p_DC_isChannel l D cI cJ tt _ x1 r1 hu) F ok_DC_isChannel k_573 hK hE hP hD hS hA [] rfl (by decide) ⟨rfl, rfl, Nat.le_of_ble_eq_true rfl, Nat.le_of_ble_eq_true rfl⟩ ⟨Nat.zero_le _, Nat.zero_le _⟩ rfl hl.1 rfl (Nat.le_of_ble_eq_true rfl) d_DC_send_1 ?_
  refine z_ifn hm (lv_if_ne (tgt := 17) hx hb d_DC_send_4 (by decide)) (fun hm => ?_) (fun hm => ?_)
  · exact absurd hm (by decide)
  · refine lv_aload_n hx hb d_DC_send_17 rfl (lv_at hl 0 rfl) ?_
    refine va_get (D := D) (ci := 10) (v := .ref qSd) (C := "DeepChannel") (T := fT_DC) (N := 7) hx hb hts u_DC hown hK hP 0 rfl rfl 5 (by decide) (hts _ k_346) (fun _ h9 => h9) rfl d_DC_send_18 ?_
    obtain ⟨r3, hu, hm⟩ := bd_el hm
    replace hm := nm_1 hm
    refine z_pcV (wc := w_Sender_waiting cI cJ qSd (.ref qSh) (.ref qWd) (.ref qMx) (.ref qSd_bytes) (.ref qSd_channelCounts) (.int Sd_masterCount) (.int Sd_craft) Sd_dataCount) (As := []) (rest := []) (p_Sender_waiting l D cI cJ tt qSd (.ref qSh) (.ref qWd) (.ref qMx) (.ref qSd_bytes) (.ref qSd_channelCounts) (.int Sd_masterCount) (.int Sd_craft) _ Sd_dataCount r3 hu) F ok_Sender_waiting rfl k_534 hK hE hP hD hS hA [1] rfl (by decide) 1 rfl rfl rfl ⟨rfl, rfl, Nat.le_of_ble_eq_true rfl, Nat.le_of_ble_eq_true rfl⟩ ⟨Nat.zero_le _, Nat.zero_le _⟩ rfl hl.1 rfl (Nat.le_of_ble_eq_true rfl) d_DC_send_21 ?_
    refine lv_aload_n hx hb d_DC_send_24 rfl (lv_at hl 0 rfl) ?_
    refine va_get (D := D) (ci := 10) (v := .ref qSh) (C := "DeepChannel") (T := fT_DC) (N := 7) hx hb hts u_DC hown hK hP 0 rfl rfl 0 (by decide) (hts _ k_341) (fun _ h9 => h9) rfl d_DC_send_25 ?_
    obtain ⟨r5, hu, hm⟩ := bd_el hm
    replace hm := nm_1 hm
    refine z_pcV (wc := w_Shape_dataBytes cI cJ qSh (.int Sh_pattern) Sh_depth Sh_wordBytes Sh_e) (As := []) (rest := [.int r3]) (p_Shape_dataBytes l D cI cJ tt qSh (.int Sh_pattern) _ Sh_depth Sh_wordBytes Sh_e r5 hu) F ok_Shape_dataBytes rfl k_521 hK hE hP hD hS hA [2] rfl (by decide) 2 rfl rfl rfl ⟨rfl, rfl, Nat.le_of_ble_eq_true rfl, Nat.le_of_ble_eq_true rfl⟩ ⟨Nat.zero_le _, Nat.zero_le _⟩ rfl hl.1 rfl (Nat.le_of_ble_eq_true rfl) d_DC_send_28 ?_
    refine z_if hm (lv_icmp_eq (tgt := 44) hx hb d_DC_send_31 (by decide)) (fun hm => ?_) (fun hm => ?_)
    · cases hm
    · exact z_qo hQ (z_throw 5 hfl hx hb hown hts hY (by decide) k_577 k_578 k_60 hat_ISE (by decide) hlocks hml hl.1 (Nat.le_of_ble_eq_true rfl) (Nat.le_of_ble_eq_true rfl) (Nat.le_of_ble_eq_true rfl) (Nat.le_of_ble_eq_true rfl) hnh d_DC_send_34 d_DC_send_37 d_DC_send_38 d_DC_send_40 d_DC_send_43)
def g_DC_plain  (x1 : Int32) (x2 : Int64) : Option Nat :=
  if x1 < (1 : Int32) then
    some 1
  else
  if x1 ≤ (64 : Int32) then
    none
  else
  some 1
set_option maxHeartbeats 4000000 in
set_option maxRecDepth 100000 in
theorem t_DC_plain_1 (l : Launch) (hfl : l.flags = pinnedFlags ++ [noTraceFlag]) (D : va_G) (cI cJ : ClassId) (tt sa : Nat → Nat) (qX qCd qRw qSh qRw_cells : Nat) (X_shape X_words X_mixer X_sender X_receiver Sh_depth Sh_wordBytes Sh_e : Value) (sz : Nat) (Cd_register : Int32) (Cd_put : Int32) (Rw_length : Int32) (Sh_pattern : Int32) (Rw_cells : Nat → Int64) (x1 : Int32) (x2 : Int64) (hm : g_DC_plain x1 x2 = some 1) : CTt l y_DC_plain b_DC_plain 5 (some .int) (RC 6 1 6 82) D cI cJ tt sa [.ref qX, .int x1, .long x2] (w_DC_plain cI cJ qX qCd qRw qSh qRw_cells X_shape X_words X_mixer X_sender X_receiver Sh_depth Sh_wordBytes Sh_e Cd_register Cd_put Rw_length Sh_pattern Rw_cells) sz "java/lang/IllegalArgumentException" := by
  refine z_ofT (cc := b_DC_plain) (maxL := 5) (ret := (some .int)) (by decide) ?_
  intro p e s m args below meth c s₁ B hml hv
  obtain ⟨hargs, ⟨hsz, hP, hK, hD0, hE⟩, hY⟩ := hv
  have hx := B.exec
  have hb := B.bytes
  have hr := B.returns
  have hts : ∀ w ∈ TB, w.before args s = true := z_mV s (atoms_spec (ws := WD y_DC_plain b_DC_plain 5 (some .int)) B.pre)
  have hown : s.vm.findClass "DeepChannel" = some m.cls := findClass_of_methodNamed B.named
  have hlocks := B.notSynchronized
  have hnh := BodyLoose.noHandlers B (atoms_spec (ws := WD y_DC_plain b_DC_plain 5 (some .int)) B.pre _ List.mem_cons_self)
  subst hsz
  have hD := hD0.self (sz := s.heap.size)
  have hAe : ∀ q : Nat, s.heap.size ≤ q → va_A (w_DC_plain cI cJ qX qCd qRw qSh qRw_cells X_shape X_words X_mixer X_sender X_receiver Sh_depth Sh_wordBytes Sh_e Cd_register Cd_put Rw_length Sh_pattern Rw_cells) s.heap.size q := fun q h => Or.inr h
  generalize va_A (w_DC_plain cI cJ qX qCd qRw qSh qRw_cells X_shape X_words X_mixer X_sender X_receiver Sh_depth Sh_wordBytes Sh_e Cd_register Cd_put Rw_length Sh_pattern Rw_cells) s.heap.size = A at hD hE hAe hY
  have hA : ∀ q : Nat, s.heap.size ≤ q → A q := hAe
  have hS : va_S A s.heap s.heap [] := va_S.rf
  refine z_entry (vs := [.ref qX, .int x1, .long x2]) hargs (Nat.le_of_ble_eq_true rfl) (fun ls hl => ?_)
  have hl : lv_has ls 5 [(0, .ref qX), (1, .int x1), (2, .long x2)] := hl
  show W p l e (RC 6 1 6 82) s m args below meth c s.heap [] 0 0 _ _
  refine z_qi (fun Q0 hQ => ?_)
  have F : CallFix p m c b_DC_plain 5 s args TB "DeepChannel" := ⟨hx, hb, hml, hown, hts⟩
  unfold g_DC_plain at hm
  refine lv_iload_n hx hb d_DC_plain_0 rfl (lv_at hl 1 rfl) ?_
  refine lv_iconst (v := (1 : Int32)) hx hb d_DC_plain_1 (by decide) ?_
  refine z_if hm (lv_icmp_lt (tgt := 11) hx hb d_DC_plain_2 (by decide)) (fun hm => ?_) (fun hm => ?_)
  · exact z_qo hQ (z_throw 6 hfl hx hb hown hts hY (by decide) k_404 k_405 k_59 hat_IAE (by decide) hlocks hml hl.1 (Nat.le_of_ble_eq_true rfl) (Nat.le_of_ble_eq_true rfl) (Nat.le_of_ble_eq_true rfl) (Nat.le_of_ble_eq_true rfl) hnh d_DC_plain_11 d_DC_plain_14 d_DC_plain_15 d_DC_plain_17 d_DC_plain_20)
  · refine lv_iload_n hx hb d_DC_plain_5 rfl (lv_at hl 1 rfl) ?_
    refine lv_bipush (v := (64 : Int32)) hx hb d_DC_plain_6 (by decide) ?_
    refine z_if hm (lv_icmp_le (tgt := 21) hx hb d_DC_plain_8 (by decide)) (fun hm => ?_) (fun hm => ?_)
    · cases hm
    · exact z_qo hQ (z_throw 6 hfl hx hb hown hts hY (by decide) k_404 k_405 k_59 hat_IAE (by decide) hlocks hml hl.1 (Nat.le_of_ble_eq_true rfl) (Nat.le_of_ble_eq_true rfl) (Nat.le_of_ble_eq_true rfl) (Nat.le_of_ble_eq_true rfl) hnh d_DC_plain_11 d_DC_plain_14 d_DC_plain_15 d_DC_plain_17 d_DC_plain_20)
def g_DC_skip  (x1 : Int32) : Option Nat :=
  bd (f_DC_isChannel x1) fun u2 =>
  nm u2 fun r1 =>
  if r1 = 0 then
    some 1
  else
  none
set_option maxHeartbeats 4000000 in
set_option maxRecDepth 100000 in
theorem t_DC_skip_1 (l : Launch) (hfl : l.flags = pinnedFlags ++ [noTraceFlag]) (D : va_G) (cI cJ : ClassId) (tt sa : Nat → Nat) (qX qSd qSd_channelCounts : Nat) (X_shape X_words X_mixer X_row X_coder X_receiver Sd_shape Sd_words Sd_mixer Sd_bytes Sd_craft Sd_dataCount : Value) (sz : Nat) (Sd_masterCount : Int32) (Sd_channelCounts : Nat → Int32) (x1 : Int32) (hm : g_DC_skip x1 = some 1) : CTt l y_DC_skip b_DC_skip 2 none (RC 6 1 6 82) D cI cJ tt sa [.ref qX, .int x1] (w_DC_skip cI cJ qX qSd qSd_channelCounts X_shape X_words X_mixer X_row X_coder X_receiver Sd_shape Sd_words Sd_mixer Sd_bytes Sd_craft Sd_dataCount Sd_masterCount Sd_channelCounts) sz "java/lang/IllegalArgumentException" := by
  refine z_ofT (cc := b_DC_skip) (maxL := 2) (ret := none) (by decide) ?_
  intro p e s m args below meth c s₁ B hml hv
  obtain ⟨hargs, ⟨hsz, hP, hK, hD0, hE⟩, hY⟩ := hv
  have hx := B.exec
  have hb := B.bytes
  have hr := B.returns
  have hts : ∀ w ∈ TB, w.before args s = true := z_mV s (atoms_spec (ws := WD y_DC_skip b_DC_skip 2 none) B.pre)
  have hown : s.vm.findClass "DeepChannel" = some m.cls := findClass_of_methodNamed B.named
  have hlocks := B.notSynchronized
  have hnh := BodyLoose.noHandlers B (atoms_spec (ws := WD y_DC_skip b_DC_skip 2 none) B.pre _ List.mem_cons_self)
  subst hsz
  have hD := hD0.self (sz := s.heap.size)
  have hAe : ∀ q : Nat, s.heap.size ≤ q → va_A (w_DC_skip cI cJ qX qSd qSd_channelCounts X_shape X_words X_mixer X_row X_coder X_receiver Sd_shape Sd_words Sd_mixer Sd_bytes Sd_craft Sd_dataCount Sd_masterCount Sd_channelCounts) s.heap.size q := fun q h => Or.inr h
  generalize va_A (w_DC_skip cI cJ qX qSd qSd_channelCounts X_shape X_words X_mixer X_row X_coder X_receiver Sd_shape Sd_words Sd_mixer Sd_bytes Sd_craft Sd_dataCount Sd_masterCount Sd_channelCounts) s.heap.size = A at hD hE hAe hY
  have hA : ∀ q : Nat, s.heap.size ≤ q → A q := hAe
  have hS : va_S A s.heap s.heap [] := va_S.rf
  refine z_entry (vs := [.ref qX, .int x1]) hargs (Nat.le_of_ble_eq_true rfl) (fun ls hl => ?_)
  have hl : lv_has ls 2 [(0, .ref qX), (1, .int x1)] := hl
  show W p l e (RC 6 1 6 82) s m args below meth c s.heap [] 0 0 _ _
  refine z_qi (fun Q0 hQ => ?_)
  have F : CallFix p m c b_DC_skip 2 s args TB "DeepChannel" := ⟨hx, hb, hml, hown, hts⟩
  unfold g_DC_skip at hm
  refine lv_iload_n hx hb d_DC_skip_0 rfl (lv_at hl 1 rfl) ?_
  obtain ⟨r1, hu, hm⟩ := bd_el hm
  replace hm := nm_1 hm
  refine z_pcS (wc := w_DC_isChannel) (As := [.int x1]) (rest := []) (p_DC_isChannel l D cI cJ tt _ x1 r1 hu) F ok_DC_isChannel k_573 hK hE hP hD hS hA [] rfl (by decide) ⟨rfl, rfl, Nat.le_of_ble_eq_true rfl, Nat.le_of_ble_eq_true rfl⟩ ⟨Nat.zero_le _, Nat.zero_le _⟩ rfl hl.1 rfl (Nat.le_of_ble_eq_true rfl) d_DC_skip_1 ?_
  refine z_ifn hm (lv_if_ne (tgt := 17) hx hb d_DC_skip_4 (by decide)) (fun hm => ?_) (fun hm => ?_)
  · exact z_qo hQ (z_throw 4 hfl hx hb hown hts hY (by decide) k_404 k_405 k_59 hat_IAE (by decide) hlocks hml hl.1 (Nat.le_of_ble_eq_true rfl) (Nat.le_of_ble_eq_true rfl) (Nat.le_of_ble_eq_true rfl) (Nat.le_of_ble_eq_true rfl) hnh d_DC_skip_7 d_DC_skip_10 d_DC_skip_11 d_DC_skip_13 d_DC_skip_16)
  · cases hm
def g_DC_receive  (x1 : Int32) : Option Nat :=
  if x1 < 0 then
    some 1
  else
  if x1 ≤ (8 : Int32) then
    none
  else
  some 1
set_option maxHeartbeats 4000000 in
set_option maxRecDepth 100000 in
theorem t_DC_receive_1 (l : Launch) (hfl : l.flags = pinnedFlags ++ [noTraceFlag]) (D : va_G) (cI cJ : ClassId) (tt sa : Nat → Nat) (qX qCd qRc qSh qNr qNr_evenRow qRw qFo qFo_cells qNr_oneIsBetter qRw_cells qNr_distances qNr_pairs qNr_oddRow qRc_facts qRc_lastOfChannel qMx qMx_bytes qRc_bytes qWd qFd qFd_powers qWd_syndromes qFd_logs qWd_coefficients qLc qLc_poly qLc_earlier qLc_spare qLc_places qLc_evaluator qFd_otherForms qFd_elements qRc_putRight : Nat) (X_shape X_words X_mixer X_sender Cd_shape Cd_row Cd_register Wd_generator Wd_remainder : Value) (sz : Nat) (Cd_put : Int32) (Rc_lastMaster : Int32) (Rc_differing : Int32) (Rc_taken : Int32) (Sh_depth : Int32) (Sh_wordBytes : Int32) (Sh_e : Int32) (Sh_pattern : Int32) (Nr_evenRow : Nat → Int32) (Rw_length : Int32) (Fo_length : Int32) (Fo_cells : Nat → Int64) (Nr_oneIsBetter : Nat → Int64) (Rw_cells : Nat → Int64) (Nr_distances : Nat → Int32) (Nr_pairs : Nat → Int32) (Nr_oddRow : Nat → Int32) (Rc_facts : Nat → Int32) (Rc_lastOfChannel : Nat → Int32) (Mx_bytes : Nat → Int32) (Rc_bytes : Nat → Int32) (Fd_powers : Nat → Int32) (Wd_syndromes : Nat → Int32) (Fd_logs : Nat → Int32) (Wd_coefficients : Nat → Int32) (Lc_poly : Nat → Int32) (Lc_earlier : Nat → Int32) (Lc_spare : Nat → Int32) (Lc_places : Nat → Int32) (Lc_evaluator : Nat → Int32) (Fd_otherForms : Nat → Int32) (Fd_elements : Nat → Int32) (Rc_putRight : Nat → Int32) (x1 : Int32) (hm : g_DC_receive x1 = some 1) : CTt l y_DC_receive b_DC_receive 2 (some .int) (RC 6 1 6 82) D cI cJ tt sa [.ref qX, .int x1] (w_DC_receive cI cJ qX qCd qRc qSh qNr qNr_evenRow qRw qFo qFo_cells qNr_oneIsBetter qRw_cells qNr_distances qNr_pairs qNr_oddRow qRc_facts qRc_lastOfChannel qMx qMx_bytes qRc_bytes qWd qFd qFd_powers qWd_syndromes qFd_logs qWd_coefficients qLc qLc_poly qLc_earlier qLc_spare qLc_places qLc_evaluator qFd_otherForms qFd_elements qRc_putRight X_shape X_words X_mixer X_sender Cd_shape Cd_row Cd_register Wd_generator Wd_remainder Cd_put Rc_lastMaster Rc_differing Rc_taken Sh_depth Sh_wordBytes Sh_e Sh_pattern Nr_evenRow Rw_length Fo_length Fo_cells Nr_oneIsBetter Rw_cells Nr_distances Nr_pairs Nr_oddRow Rc_facts Rc_lastOfChannel Mx_bytes Rc_bytes Fd_powers Wd_syndromes Fd_logs Wd_coefficients Lc_poly Lc_earlier Lc_spare Lc_places Lc_evaluator Fd_otherForms Fd_elements Rc_putRight) sz "java/lang/IllegalArgumentException" := by
  refine z_ofT (cc := b_DC_receive) (maxL := 2) (ret := (some .int)) (by decide) ?_
  intro p e s m args below meth c s₁ B hml hv
  obtain ⟨hargs, ⟨hsz, hP, hK, hD0, hE⟩, hY⟩ := hv
  have hx := B.exec
  have hb := B.bytes
  have hr := B.returns
  have hts : ∀ w ∈ TB, w.before args s = true := z_mV s (atoms_spec (ws := WD y_DC_receive b_DC_receive 2 (some .int)) B.pre)
  have hown : s.vm.findClass "DeepChannel" = some m.cls := findClass_of_methodNamed B.named
  have hlocks := B.notSynchronized
  have hnh := BodyLoose.noHandlers B (atoms_spec (ws := WD y_DC_receive b_DC_receive 2 (some .int)) B.pre _ List.mem_cons_self)
  subst hsz
  have hD := hD0.self (sz := s.heap.size)
  have hAe : ∀ q : Nat, s.heap.size ≤ q → va_A (w_DC_receive cI cJ qX qCd qRc qSh qNr qNr_evenRow qRw qFo qFo_cells qNr_oneIsBetter qRw_cells qNr_distances qNr_pairs qNr_oddRow qRc_facts qRc_lastOfChannel qMx qMx_bytes qRc_bytes qWd qFd qFd_powers qWd_syndromes qFd_logs qWd_coefficients qLc qLc_poly qLc_earlier qLc_spare qLc_places qLc_evaluator qFd_otherForms qFd_elements qRc_putRight X_shape X_words X_mixer X_sender Cd_shape Cd_row Cd_register Wd_generator Wd_remainder Cd_put Rc_lastMaster Rc_differing Rc_taken Sh_depth Sh_wordBytes Sh_e Sh_pattern Nr_evenRow Rw_length Fo_length Fo_cells Nr_oneIsBetter Rw_cells Nr_distances Nr_pairs Nr_oddRow Rc_facts Rc_lastOfChannel Mx_bytes Rc_bytes Fd_powers Wd_syndromes Fd_logs Wd_coefficients Lc_poly Lc_earlier Lc_spare Lc_places Lc_evaluator Fd_otherForms Fd_elements Rc_putRight) s.heap.size q := fun q h => Or.inr h
  generalize va_A (w_DC_receive cI cJ qX qCd qRc qSh qNr qNr_evenRow qRw qFo qFo_cells qNr_oneIsBetter qRw_cells qNr_distances qNr_pairs qNr_oddRow qRc_facts qRc_lastOfChannel qMx qMx_bytes qRc_bytes qWd qFd qFd_powers qWd_syndromes qFd_logs qWd_coefficients qLc qLc_poly qLc_earlier qLc_spare qLc_places qLc_evaluator qFd_otherForms qFd_elements qRc_putRight X_shape X_words X_mixer X_sender Cd_shape Cd_row Cd_register Wd_generator Wd_remainder Cd_put Rc_lastMaster Rc_differing Rc_taken Sh_depth Sh_wordBytes Sh_e Sh_pattern Nr_evenRow Rw_length Fo_length Fo_cells Nr_oneIsBetter Rw_cells Nr_distances Nr_pairs Nr_oddRow Rc_facts Rc_lastOfChannel Mx_bytes Rc_bytes Fd_powers Wd_syndromes Fd_logs Wd_coefficients Lc_poly Lc_earlier Lc_spare Lc_places Lc_evaluator Fd_otherForms Fd_elements Rc_putRight) s.heap.size = A at hD hE hAe hY
  have hA : ∀ q : Nat, s.heap.size ≤ q → A q := hAe
  have hS : va_S A s.heap s.heap [] := va_S.rf
  refine z_entry (vs := [.ref qX, .int x1]) hargs (Nat.le_of_ble_eq_true rfl) (fun ls hl => ?_)
  have hl : lv_has ls 2 [(0, .ref qX), (1, .int x1)] := hl
  show W p l e (RC 6 1 6 82) s m args below meth c s.heap [] 0 0 _ _
  refine z_qi (fun Q0 hQ => ?_)
  have F : CallFix p m c b_DC_receive 2 s args TB "DeepChannel" := ⟨hx, hb, hml, hown, hts⟩
  unfold g_DC_receive at hm
  refine lv_iload_n hx hb d_DC_receive_0 rfl (lv_at hl 1 rfl) ?_
  refine z_if hm (lv_if_lt (tgt := 10) hx hb d_DC_receive_1 (by decide)) (fun hm => ?_) (fun hm => ?_)
  · exact z_qo hQ (z_throw 7 hfl hx hb hown hts hY (by decide) k_404 k_405 k_59 hat_IAE (by decide) hlocks hml hl.1 (Nat.le_of_ble_eq_true rfl) (Nat.le_of_ble_eq_true rfl) (Nat.le_of_ble_eq_true rfl) (Nat.le_of_ble_eq_true rfl) hnh d_DC_receive_10 d_DC_receive_13 d_DC_receive_14 d_DC_receive_16 d_DC_receive_19)
  · refine lv_iload_n hx hb d_DC_receive_4 rfl (lv_at hl 1 rfl) ?_
    refine lv_bipush (v := (8 : Int32)) hx hb d_DC_receive_5 (by decide) ?_
    refine z_if hm (lv_icmp_le (tgt := 20) hx hb d_DC_receive_7 (by decide)) (fun hm => ?_) (fun hm => ?_)
    · cases hm
    · exact z_qo hQ (z_throw 7 hfl hx hb hown hts hY (by decide) k_404 k_405 k_59 hat_IAE (by decide) hlocks hml hl.1 (Nat.le_of_ble_eq_true rfl) (Nat.le_of_ble_eq_true rfl) (Nat.le_of_ble_eq_true rfl) (Nat.le_of_ble_eq_true rfl) hnh d_DC_receive_10 d_DC_receive_13 d_DC_receive_14 d_DC_receive_16 d_DC_receive_19)
def g_DC_block (Rc_taken : Int32) (x1 : Int32) (x2 : Int32) : Option Nat :=
  if x2 < 0 then
    some 1
  else
  if x2 < (9 : Int32) then
    bd (f_Receiver_hasTaken Rc_taken x1) fun u2 =>
    nm u2 fun r1 =>
    if r1 = 0 then
      some 2
    else
    none
  else
  some 1
set_option maxHeartbeats 4000000 in
set_option maxRecDepth 100000 in
theorem t_DC_block_1 (l : Launch) (hfl : l.flags = pinnedFlags ++ [noTraceFlag]) (D : va_G) (cI cJ : ClassId) (tt sa : Nat → Nat) (qX qRc qRc_facts : Nat) (X_shape X_words X_mixer X_row X_coder X_sender Rc_shape Rc_words Rc_mixer Rc_nearest Rc_found Rc_bytes Rc_putRight Rc_lastOfChannel Rc_lastMaster Rc_differing : Value) (sz : Nat) (Rc_taken : Int32) (Rc_facts : Nat → Int32) (x1 : Int32) (x2 : Int32) (hm : g_DC_block Rc_taken x1 x2 = some 1) : CTt l y_DC_block b_DC_block 3 (some .int) (RC 6 1 6 82) D cI cJ tt sa [.ref qX, .int x1, .int x2] (w_DC_block cI cJ qX qRc qRc_facts X_shape X_words X_mixer X_row X_coder X_sender Rc_shape Rc_words Rc_mixer Rc_nearest Rc_found Rc_bytes Rc_putRight Rc_lastOfChannel Rc_lastMaster Rc_differing Rc_taken Rc_facts) sz "java/lang/IllegalArgumentException" := by
  refine z_ofT (cc := b_DC_block) (maxL := 3) (ret := (some .int)) (by decide) ?_
  intro p e s m args below meth c s₁ B hml hv
  obtain ⟨hargs, ⟨hsz, hP, hK, hD0, hE⟩, hY⟩ := hv
  have hx := B.exec
  have hb := B.bytes
  have hr := B.returns
  have hts : ∀ w ∈ TB, w.before args s = true := z_mV s (atoms_spec (ws := WD y_DC_block b_DC_block 3 (some .int)) B.pre)
  have hown : s.vm.findClass "DeepChannel" = some m.cls := findClass_of_methodNamed B.named
  have hlocks := B.notSynchronized
  have hnh := BodyLoose.noHandlers B (atoms_spec (ws := WD y_DC_block b_DC_block 3 (some .int)) B.pre _ List.mem_cons_self)
  subst hsz
  have hD := hD0.self (sz := s.heap.size)
  have hAe : ∀ q : Nat, s.heap.size ≤ q → va_A (w_DC_block cI cJ qX qRc qRc_facts X_shape X_words X_mixer X_row X_coder X_sender Rc_shape Rc_words Rc_mixer Rc_nearest Rc_found Rc_bytes Rc_putRight Rc_lastOfChannel Rc_lastMaster Rc_differing Rc_taken Rc_facts) s.heap.size q := fun q h => Or.inr h
  generalize va_A (w_DC_block cI cJ qX qRc qRc_facts X_shape X_words X_mixer X_row X_coder X_sender Rc_shape Rc_words Rc_mixer Rc_nearest Rc_found Rc_bytes Rc_putRight Rc_lastOfChannel Rc_lastMaster Rc_differing Rc_taken Rc_facts) s.heap.size = A at hD hE hAe hY
  have hA : ∀ q : Nat, s.heap.size ≤ q → A q := hAe
  have hS : va_S A s.heap s.heap [] := va_S.rf
  refine z_entry (vs := [.ref qX, .int x1, .int x2]) hargs (Nat.le_of_ble_eq_true rfl) (fun ls hl => ?_)
  have hl : lv_has ls 3 [(0, .ref qX), (1, .int x1), (2, .int x2)] := hl
  show W p l e (RC 6 1 6 82) s m args below meth c s.heap [] 0 0 _ _
  refine z_qi (fun Q0 hQ => ?_)
  have F : CallFix p m c b_DC_block 3 s args TB "DeepChannel" := ⟨hx, hb, hml, hown, hts⟩
  unfold g_DC_block at hm
  refine lv_iload_n hx hb d_DC_block_0 rfl (lv_at hl 2 rfl) ?_
  refine z_if hm (lv_if_lt (tgt := 10) hx hb d_DC_block_1 (by decide)) (fun hm => ?_) (fun hm => ?_)
  · exact z_qo hQ (z_throw 8 hfl hx hb hown hts hY (by decide) k_404 k_405 k_59 hat_IAE (by decide) hlocks hml hl.1 (Nat.le_of_ble_eq_true rfl) (Nat.le_of_ble_eq_true rfl) (Nat.le_of_ble_eq_true rfl) (Nat.le_of_ble_eq_true rfl) hnh d_DC_block_10 d_DC_block_13 d_DC_block_14 d_DC_block_16 d_DC_block_19)
  · refine lv_iload_n hx hb d_DC_block_4 rfl (lv_at hl 2 rfl) ?_
    refine lv_bipush (v := (9 : Int32)) hx hb d_DC_block_5 (by decide) ?_
    refine z_if hm (lv_icmp_lt (tgt := 20) hx hb d_DC_block_7 (by decide)) (fun hm => ?_) (fun hm => ?_)
    · refine lv_aload_n hx hb d_DC_block_20 rfl (lv_at hl 0 rfl) ?_
      refine va_get (D := D) (ci := 10) (v := .ref qRc) (C := "DeepChannel") (T := fT_DC) (N := 7) hx hb hts u_DC hown hK hP 0 rfl rfl 6 (by decide) (hts _ k_347) (fun _ h9 => h9) rfl d_DC_block_21 ?_
      refine lv_iload_n hx hb d_DC_block_24 rfl (lv_at hl 1 rfl) ?_
      obtain ⟨r1, hu, hm⟩ := bd_el hm
      replace hm := nm_1 hm
      refine z_pcV (wc := w_Receiver_hasTaken cI cJ qRc Rc_shape Rc_words Rc_mixer Rc_nearest Rc_found Rc_bytes (.ref qRc_facts) Rc_putRight Rc_lastOfChannel Rc_lastMaster Rc_differing Rc_taken) (As := [.int x1]) (rest := []) (p_Receiver_hasTaken l D cI cJ tt qRc Rc_shape Rc_words Rc_mixer Rc_nearest Rc_found Rc_bytes (.ref qRc_facts) Rc_putRight Rc_lastOfChannel Rc_lastMaster Rc_differing _ Rc_taken x1 r1 hu) F ok_Receiver_hasTaken rfl k_826 hK hE hP hD hS hA [1] rfl (by decide) 1 rfl rfl rfl ⟨rfl, rfl, Nat.le_of_ble_eq_true rfl, Nat.le_of_ble_eq_true rfl⟩ ⟨Nat.zero_le _, Nat.zero_le _⟩ rfl hl.1 rfl (Nat.le_of_ble_eq_true rfl) d_DC_block_25 ?_
      refine z_ifn hm (lv_if_ne (tgt := 41) hx hb d_DC_block_28 (by decide)) (fun hm => ?_) (fun hm => ?_)
      · exact absurd hm (by decide)
      · cases hm
    · exact z_qo hQ (z_throw 8 hfl hx hb hown hts hY (by decide) k_404 k_405 k_59 hat_IAE (by decide) hlocks hml hl.1 (Nat.le_of_ble_eq_true rfl) (Nat.le_of_ble_eq_true rfl) (Nat.le_of_ble_eq_true rfl) (Nat.le_of_ble_eq_true rfl) hnh d_DC_block_10 d_DC_block_13 d_DC_block_14 d_DC_block_16 d_DC_block_19)
set_option maxHeartbeats 4000000 in
set_option maxRecDepth 100000 in
theorem t_DC_block_2 (l : Launch) (hfl : l.flags = pinnedFlags ++ [noTraceFlag]) (D : va_G) (cI cJ : ClassId) (tt sa : Nat → Nat) (qX qRc qRc_facts : Nat) (X_shape X_words X_mixer X_row X_coder X_sender Rc_shape Rc_words Rc_mixer Rc_nearest Rc_found Rc_bytes Rc_putRight Rc_lastOfChannel Rc_lastMaster Rc_differing : Value) (sz : Nat) (Rc_taken : Int32) (Rc_facts : Nat → Int32) (x1 : Int32) (x2 : Int32) (hm : g_DC_block Rc_taken x1 x2 = some 2) : CTt l y_DC_block b_DC_block 3 (some .int) (RC 6 1 6 82) D cI cJ tt sa [.ref qX, .int x1, .int x2] (w_DC_block cI cJ qX qRc qRc_facts X_shape X_words X_mixer X_row X_coder X_sender Rc_shape Rc_words Rc_mixer Rc_nearest Rc_found Rc_bytes Rc_putRight Rc_lastOfChannel Rc_lastMaster Rc_differing Rc_taken Rc_facts) sz "java/lang/IndexOutOfBoundsException" := by
  refine z_ofT (cc := b_DC_block) (maxL := 3) (ret := (some .int)) (by decide) ?_
  intro p e s m args below meth c s₁ B hml hv
  obtain ⟨hargs, ⟨hsz, hP, hK, hD0, hE⟩, hY⟩ := hv
  have hx := B.exec
  have hb := B.bytes
  have hr := B.returns
  have hts : ∀ w ∈ TB, w.before args s = true := z_mV s (atoms_spec (ws := WD y_DC_block b_DC_block 3 (some .int)) B.pre)
  have hown : s.vm.findClass "DeepChannel" = some m.cls := findClass_of_methodNamed B.named
  have hlocks := B.notSynchronized
  have hnh := BodyLoose.noHandlers B (atoms_spec (ws := WD y_DC_block b_DC_block 3 (some .int)) B.pre _ List.mem_cons_self)
  subst hsz
  have hD := hD0.self (sz := s.heap.size)
  have hAe : ∀ q : Nat, s.heap.size ≤ q → va_A (w_DC_block cI cJ qX qRc qRc_facts X_shape X_words X_mixer X_row X_coder X_sender Rc_shape Rc_words Rc_mixer Rc_nearest Rc_found Rc_bytes Rc_putRight Rc_lastOfChannel Rc_lastMaster Rc_differing Rc_taken Rc_facts) s.heap.size q := fun q h => Or.inr h
  generalize va_A (w_DC_block cI cJ qX qRc qRc_facts X_shape X_words X_mixer X_row X_coder X_sender Rc_shape Rc_words Rc_mixer Rc_nearest Rc_found Rc_bytes Rc_putRight Rc_lastOfChannel Rc_lastMaster Rc_differing Rc_taken Rc_facts) s.heap.size = A at hD hE hAe hY
  have hA : ∀ q : Nat, s.heap.size ≤ q → A q := hAe
  have hS : va_S A s.heap s.heap [] := va_S.rf
  refine z_entry (vs := [.ref qX, .int x1, .int x2]) hargs (Nat.le_of_ble_eq_true rfl) (fun ls hl => ?_)
  have hl : lv_has ls 3 [(0, .ref qX), (1, .int x1), (2, .int x2)] := hl
  show W p l e (RC 6 1 6 82) s m args below meth c s.heap [] 0 0 _ _
  refine z_qi (fun Q0 hQ => ?_)
  have F : CallFix p m c b_DC_block 3 s args TB "DeepChannel" := ⟨hx, hb, hml, hown, hts⟩
  unfold g_DC_block at hm
  refine lv_iload_n hx hb d_DC_block_0 rfl (lv_at hl 2 rfl) ?_
  refine z_if hm (lv_if_lt (tgt := 10) hx hb d_DC_block_1 (by decide)) (fun hm => ?_) (fun hm => ?_)
  · exact absurd hm (by decide)
  · refine lv_iload_n hx hb d_DC_block_4 rfl (lv_at hl 2 rfl) ?_
    refine lv_bipush (v := (9 : Int32)) hx hb d_DC_block_5 (by decide) ?_
    refine z_if hm (lv_icmp_lt (tgt := 20) hx hb d_DC_block_7 (by decide)) (fun hm => ?_) (fun hm => ?_)
    · refine lv_aload_n hx hb d_DC_block_20 rfl (lv_at hl 0 rfl) ?_
      refine va_get (D := D) (ci := 10) (v := .ref qRc) (C := "DeepChannel") (T := fT_DC) (N := 7) hx hb hts u_DC hown hK hP 0 rfl rfl 6 (by decide) (hts _ k_347) (fun _ h9 => h9) rfl d_DC_block_21 ?_
      refine lv_iload_n hx hb d_DC_block_24 rfl (lv_at hl 1 rfl) ?_
      obtain ⟨r1, hu, hm⟩ := bd_el hm
      replace hm := nm_1 hm
      refine z_pcV (wc := w_Receiver_hasTaken cI cJ qRc Rc_shape Rc_words Rc_mixer Rc_nearest Rc_found Rc_bytes (.ref qRc_facts) Rc_putRight Rc_lastOfChannel Rc_lastMaster Rc_differing Rc_taken) (As := [.int x1]) (rest := []) (p_Receiver_hasTaken l D cI cJ tt qRc Rc_shape Rc_words Rc_mixer Rc_nearest Rc_found Rc_bytes (.ref qRc_facts) Rc_putRight Rc_lastOfChannel Rc_lastMaster Rc_differing _ Rc_taken x1 r1 hu) F ok_Receiver_hasTaken rfl k_826 hK hE hP hD hS hA [1] rfl (by decide) 1 rfl rfl rfl ⟨rfl, rfl, Nat.le_of_ble_eq_true rfl, Nat.le_of_ble_eq_true rfl⟩ ⟨Nat.zero_le _, Nat.zero_le _⟩ rfl hl.1 rfl (Nat.le_of_ble_eq_true rfl) d_DC_block_25 ?_
      refine z_ifn hm (lv_if_ne (tgt := 41) hx hb d_DC_block_28 (by decide)) (fun hm => ?_) (fun hm => ?_)
      · exact z_qo hQ (z_throw 9 hfl hx hb hown hts hY (by decide) k_830 k_831 k_63 hat_IOB (by decide) hlocks hml hl.1 (Nat.le_of_ble_eq_true rfl) (Nat.le_of_ble_eq_true rfl) (Nat.le_of_ble_eq_true rfl) (Nat.le_of_ble_eq_true rfl) hnh d_DC_block_31 d_DC_block_34 d_DC_block_35 d_DC_block_37 d_DC_block_40)
      · cases hm
    · exact absurd hm (by decide)
def g_DC_word (Rc_taken : Int32) (x1 : Int32) (x2 : Int32) : Option Nat :=
  bd (f_Receiver_hasTaken Rc_taken x1) fun u2 =>
  nm u2 fun r1 =>
  if r1 = 0 then
    some 1
  else
  none
set_option maxHeartbeats 4000000 in
set_option maxRecDepth 100000 in
theorem t_DC_word_1 (l : Launch) (hfl : l.flags = pinnedFlags ++ [noTraceFlag]) (D : va_G) (cI cJ : ClassId) (tt sa : Nat → Nat) (qX qRc qSh qRc_putRight : Nat) (X_shape X_words X_mixer X_row X_coder X_sender Rc_words Rc_mixer Rc_nearest Rc_found Rc_bytes Rc_facts Rc_lastOfChannel Rc_lastMaster Rc_differing Sh_wordBytes Sh_e Sh_pattern : Value) (sz : Nat) (Rc_taken : Int32) (Sh_depth : Int32) (Rc_putRight : Nat → Int32) (x1 : Int32) (x2 : Int32) (hm : g_DC_word Rc_taken x1 x2 = some 1) : CTt l y_DC_word b_DC_word 3 (some .int) (RC 6 1 6 82) D cI cJ tt sa [.ref qX, .int x1, .int x2] (w_DC_word cI cJ qX qRc qSh qRc_putRight X_shape X_words X_mixer X_row X_coder X_sender Rc_words Rc_mixer Rc_nearest Rc_found Rc_bytes Rc_facts Rc_lastOfChannel Rc_lastMaster Rc_differing Sh_wordBytes Sh_e Sh_pattern Rc_taken Sh_depth Rc_putRight) sz "java/lang/IndexOutOfBoundsException" := by
  refine z_ofT (cc := b_DC_word) (maxL := 3) (ret := (some .int)) (by decide) ?_
  intro p e s m args below meth c s₁ B hml hv
  obtain ⟨hargs, ⟨hsz, hP, hK, hD0, hE⟩, hY⟩ := hv
  have hx := B.exec
  have hb := B.bytes
  have hr := B.returns
  have hts : ∀ w ∈ TB, w.before args s = true := z_mV s (atoms_spec (ws := WD y_DC_word b_DC_word 3 (some .int)) B.pre)
  have hown : s.vm.findClass "DeepChannel" = some m.cls := findClass_of_methodNamed B.named
  have hlocks := B.notSynchronized
  have hnh := BodyLoose.noHandlers B (atoms_spec (ws := WD y_DC_word b_DC_word 3 (some .int)) B.pre _ List.mem_cons_self)
  subst hsz
  have hD := hD0.self (sz := s.heap.size)
  have hAe : ∀ q : Nat, s.heap.size ≤ q → va_A (w_DC_word cI cJ qX qRc qSh qRc_putRight X_shape X_words X_mixer X_row X_coder X_sender Rc_words Rc_mixer Rc_nearest Rc_found Rc_bytes Rc_facts Rc_lastOfChannel Rc_lastMaster Rc_differing Sh_wordBytes Sh_e Sh_pattern Rc_taken Sh_depth Rc_putRight) s.heap.size q := fun q h => Or.inr h
  generalize va_A (w_DC_word cI cJ qX qRc qSh qRc_putRight X_shape X_words X_mixer X_row X_coder X_sender Rc_words Rc_mixer Rc_nearest Rc_found Rc_bytes Rc_facts Rc_lastOfChannel Rc_lastMaster Rc_differing Sh_wordBytes Sh_e Sh_pattern Rc_taken Sh_depth Rc_putRight) s.heap.size = A at hD hE hAe hY
  have hA : ∀ q : Nat, s.heap.size ≤ q → A q := hAe
  have hS : va_S A s.heap s.heap [] := va_S.rf
  refine z_entry (vs := [.ref qX, .int x1, .int x2]) hargs (Nat.le_of_ble_eq_true rfl) (fun ls hl => ?_)
  have hl : lv_has ls 3 [(0, .ref qX), (1, .int x1), (2, .int x2)] := hl
  show W p l e (RC 6 1 6 82) s m args below meth c s.heap [] 0 0 _ _
  refine z_qi (fun Q0 hQ => ?_)
  have F : CallFix p m c b_DC_word 3 s args TB "DeepChannel" := ⟨hx, hb, hml, hown, hts⟩
  unfold g_DC_word at hm
  refine lv_aload_n hx hb d_DC_word_0 rfl (lv_at hl 0 rfl) ?_
  refine va_get (D := D) (ci := 10) (v := .ref qRc) (C := "DeepChannel") (T := fT_DC) (N := 7) hx hb hts u_DC hown hK hP 0 rfl rfl 6 (by decide) (hts _ k_347) (fun _ h9 => h9) rfl d_DC_word_1 ?_
  refine lv_iload_n hx hb d_DC_word_4 rfl (lv_at hl 1 rfl) ?_
  obtain ⟨r1, hu, hm⟩ := bd_el hm
  replace hm := nm_1 hm
  refine z_pcV (wc := w_Receiver_hasTaken cI cJ qRc (.ref qSh) Rc_words Rc_mixer Rc_nearest Rc_found Rc_bytes Rc_facts (.ref qRc_putRight) Rc_lastOfChannel Rc_lastMaster Rc_differing Rc_taken) (As := [.int x1]) (rest := []) (p_Receiver_hasTaken l D cI cJ tt qRc (.ref qSh) Rc_words Rc_mixer Rc_nearest Rc_found Rc_bytes Rc_facts (.ref qRc_putRight) Rc_lastOfChannel Rc_lastMaster Rc_differing _ Rc_taken x1 r1 hu) F ok_Receiver_hasTaken rfl k_826 hK hE hP hD hS hA [1] rfl (by decide) 1 rfl rfl rfl ⟨rfl, rfl, Nat.le_of_ble_eq_true rfl, Nat.le_of_ble_eq_true rfl⟩ ⟨Nat.zero_le _, Nat.zero_le _⟩ rfl hl.1 rfl (Nat.le_of_ble_eq_true rfl) d_DC_word_5 ?_
  refine z_ifn hm (lv_if_ne (tgt := 21) hx hb d_DC_word_8 (by decide)) (fun hm => ?_) (fun hm => ?_)
  · exact z_qo hQ (z_throw 9 hfl hx hb hown hts hY (by decide) k_830 k_831 k_63 hat_IOB (by decide) hlocks hml hl.1 (Nat.le_of_ble_eq_true rfl) (Nat.le_of_ble_eq_true rfl) (Nat.le_of_ble_eq_true rfl) (Nat.le_of_ble_eq_true rfl) hnh d_DC_word_11 d_DC_word_14 d_DC_word_15 d_DC_word_17 d_DC_word_20)
  · cases hm
def g_DC_frame (Rc_taken : Int32) (x1 : Int32) (x2 : Int32) : Option Nat :=
  bd (f_Receiver_hasTaken Rc_taken x1) fun u2 =>
  nm u2 fun r1 =>
  if r1 = 0 then
    some 1
  else
  none
set_option maxHeartbeats 4000000 in
set_option maxRecDepth 100000 in
theorem t_DC_frame_1 (l : Launch) (hfl : l.flags = pinnedFlags ++ [noTraceFlag]) (D : va_G) (cI cJ : ClassId) (tt sa : Nat → Nat) (qX qRc qSh qRc_bytes : Nat) (X_shape X_words X_mixer X_row X_coder X_sender Rc_words Rc_mixer Rc_nearest Rc_found Rc_facts Rc_putRight Rc_lastOfChannel Rc_lastMaster Rc_differing Sh_pattern : Value) (sz : Nat) (Rc_taken : Int32) (Sh_depth : Int32) (Sh_wordBytes : Int32) (Sh_e : Int32) (Rc_bytes : Nat → Int32) (x1 : Int32) (x2 : Int32) (hm : g_DC_frame Rc_taken x1 x2 = some 1) : CTt l y_DC_frame b_DC_frame 3 (some .long) (RC 6 1 6 82) D cI cJ tt sa [.ref qX, .int x1, .int x2] (w_DC_frame cI cJ qX qRc qSh qRc_bytes X_shape X_words X_mixer X_row X_coder X_sender Rc_words Rc_mixer Rc_nearest Rc_found Rc_facts Rc_putRight Rc_lastOfChannel Rc_lastMaster Rc_differing Sh_pattern Rc_taken Sh_depth Sh_wordBytes Sh_e Rc_bytes) sz "java/lang/IndexOutOfBoundsException" := by
  refine z_ofT (cc := b_DC_frame) (maxL := 3) (ret := (some .long)) (by decide) ?_
  intro p e s m args below meth c s₁ B hml hv
  obtain ⟨hargs, ⟨hsz, hP, hK, hD0, hE⟩, hY⟩ := hv
  have hx := B.exec
  have hb := B.bytes
  have hr := B.returns
  have hts : ∀ w ∈ TB, w.before args s = true := z_mV s (atoms_spec (ws := WD y_DC_frame b_DC_frame 3 (some .long)) B.pre)
  have hown : s.vm.findClass "DeepChannel" = some m.cls := findClass_of_methodNamed B.named
  have hlocks := B.notSynchronized
  have hnh := BodyLoose.noHandlers B (atoms_spec (ws := WD y_DC_frame b_DC_frame 3 (some .long)) B.pre _ List.mem_cons_self)
  subst hsz
  have hD := hD0.self (sz := s.heap.size)
  have hAe : ∀ q : Nat, s.heap.size ≤ q → va_A (w_DC_frame cI cJ qX qRc qSh qRc_bytes X_shape X_words X_mixer X_row X_coder X_sender Rc_words Rc_mixer Rc_nearest Rc_found Rc_facts Rc_putRight Rc_lastOfChannel Rc_lastMaster Rc_differing Sh_pattern Rc_taken Sh_depth Sh_wordBytes Sh_e Rc_bytes) s.heap.size q := fun q h => Or.inr h
  generalize va_A (w_DC_frame cI cJ qX qRc qSh qRc_bytes X_shape X_words X_mixer X_row X_coder X_sender Rc_words Rc_mixer Rc_nearest Rc_found Rc_facts Rc_putRight Rc_lastOfChannel Rc_lastMaster Rc_differing Sh_pattern Rc_taken Sh_depth Sh_wordBytes Sh_e Rc_bytes) s.heap.size = A at hD hE hAe hY
  have hA : ∀ q : Nat, s.heap.size ≤ q → A q := hAe
  have hS : va_S A s.heap s.heap [] := va_S.rf
  refine z_entry (vs := [.ref qX, .int x1, .int x2]) hargs (Nat.le_of_ble_eq_true rfl) (fun ls hl => ?_)
  have hl : lv_has ls 3 [(0, .ref qX), (1, .int x1), (2, .int x2)] := hl
  show W p l e (RC 6 1 6 82) s m args below meth c s.heap [] 0 0 _ _
  refine z_qi (fun Q0 hQ => ?_)
  have F : CallFix p m c b_DC_frame 3 s args TB "DeepChannel" := ⟨hx, hb, hml, hown, hts⟩
  unfold g_DC_frame at hm
  refine lv_aload_n hx hb d_DC_frame_0 rfl (lv_at hl 0 rfl) ?_
  refine va_get (D := D) (ci := 10) (v := .ref qRc) (C := "DeepChannel") (T := fT_DC) (N := 7) hx hb hts u_DC hown hK hP 0 rfl rfl 6 (by decide) (hts _ k_347) (fun _ h9 => h9) rfl d_DC_frame_1 ?_
  refine lv_iload_n hx hb d_DC_frame_4 rfl (lv_at hl 1 rfl) ?_
  obtain ⟨r1, hu, hm⟩ := bd_el hm
  replace hm := nm_1 hm
  refine z_pcV (wc := w_Receiver_hasTaken cI cJ qRc (.ref qSh) Rc_words Rc_mixer Rc_nearest Rc_found (.ref qRc_bytes) Rc_facts Rc_putRight Rc_lastOfChannel Rc_lastMaster Rc_differing Rc_taken) (As := [.int x1]) (rest := []) (p_Receiver_hasTaken l D cI cJ tt qRc (.ref qSh) Rc_words Rc_mixer Rc_nearest Rc_found (.ref qRc_bytes) Rc_facts Rc_putRight Rc_lastOfChannel Rc_lastMaster Rc_differing _ Rc_taken x1 r1 hu) F ok_Receiver_hasTaken rfl k_826 hK hE hP hD hS hA [1] rfl (by decide) 1 rfl rfl rfl ⟨rfl, rfl, Nat.le_of_ble_eq_true rfl, Nat.le_of_ble_eq_true rfl⟩ ⟨Nat.zero_le _, Nat.zero_le _⟩ rfl hl.1 rfl (Nat.le_of_ble_eq_true rfl) d_DC_frame_5 ?_
  refine z_ifn hm (lv_if_ne (tgt := 21) hx hb d_DC_frame_8 (by decide)) (fun hm => ?_) (fun hm => ?_)
  · exact z_qo hQ (z_throw 9 hfl hx hb hown hts hY (by decide) k_830 k_831 k_63 hat_IOB (by decide) hlocks hml hl.1 (Nat.le_of_ble_eq_true rfl) (Nat.le_of_ble_eq_true rfl) (Nat.le_of_ble_eq_true rfl) (Nat.le_of_ble_eq_true rfl) hnh d_DC_frame_11 d_DC_frame_14 d_DC_frame_15 d_DC_frame_17 d_DC_frame_20)
  · cases hm
