-- DeepChannel.turn(IJ)I
abbrev b_DC_turn : ByteArray := prog_1_method_9_code
abbrev y_DC_turn : MethodName := ⟨"DeepChannel", "turn", "(IJ)I"⟩
theorem d_DC_turn_0 : decode b_DC_turn 0 = .ok (.aload_n 0, 1) := by decide +kernel
theorem d_DC_turn_1 : decode b_DC_turn 1 = .ok (.getfield 38, 3) := by decide +kernel
theorem d_DC_turn_4 : decode b_DC_turn 4 = .ok (.iload_n 1, 1) := by decide +kernel
theorem d_DC_turn_5 : decode b_DC_turn 5 = .ok (.lload_n 2, 1) := by decide +kernel
theorem d_DC_turn_6 : decode b_DC_turn 6 = .ok (.invokevirtual 161, 3) := by decide +kernel
theorem d_DC_turn_9 : decode b_DC_turn 9 = .ok (.ireturn, 1) := by decide +kernel
theorem ok_DC_turn : OKv y_DC_turn b_DC_turn 4 (some .int) "DeepChannel" 2 := ⟨k_366, k_364, k_365, k_42, by decide +kernel, by decide +kernel, by decide +kernel⟩
abbrev w_DC_turn (cI cJ : ClassId) (qX qRw qRw_cells : Nat) (X_shape X_words X_mixer X_coder X_sender X_receiver : Value) (Rw_length : Int32) (Rw_cells : Nat → Int64) : va_W := [(qX, .inr (10, [X_shape, X_words, X_mixer, .ref qRw, X_coder, X_sender, X_receiver])), (qRw, .inr (0, [.ref qRw_cells, .int Rw_length])), (qRw_cells, .inl (cJ, 64, .inr (.inl Rw_cells)))]
def f_DC_turn (Rw_length : Int32) (Rw_cells : Nat → Int64) (x1 : Int32) (x2 : Int64) : Option (Int32 × (Nat → Int64)) :=
  bd (f_BitRow_flip Rw_length Rw_cells x1 x2) fun u3 =>
  nm u3.1 fun r1 =>
  nm u3.2 fun g2 =>
  some (r1, g2)
set_option maxHeartbeats 4000000 in
set_option maxRecDepth 100000 in
theorem c_DC_turn (l : Launch) (D : va_G) (cI cJ : ClassId) (tt : Nat → Nat) (qX qRw qRw_cells : Nat) (X_shape X_words X_mixer X_coder X_sender X_receiver : Value) (sz : Nat) (Rw_length : Int32) (Rw_cells : Nat → Int64) (x1 : Int32) (x2 : Int64) (rr : Int32) (Rw_cells' : Nat → Int64) (hm : f_DC_turn Rw_length Rw_cells x1 x2 = some (rr, Rw_cells')) : CTi l y_DC_turn b_DC_turn 4 (some .int) (RM 1 27) D cI cJ tt [.ref qX, .int x1, .long x2] (w_DC_turn cI cJ qX qRw qRw_cells X_shape X_words X_mixer X_coder X_sender X_receiver Rw_length Rw_cells) (w_DC_turn cI cJ qX qRw qRw_cells X_shape X_words X_mixer X_coder X_sender X_receiver Rw_length Rw_cells') sz rr := by
  refine Met.ofW (cc := b_DC_turn) (maxL := 4) (ret := (some .int)) (by decide) rfl ?_
  intro p e s m args below meth c s₁ B hml hv
  obtain ⟨hargs, hsz, hP, hK, hD0, hE⟩ := hv
  have hx := B.exec
  have hb := B.bytes
  have hr := B.returns
  have hts : ∀ w ∈ TB, w.before args s = true := z_mV s (atoms_spec (ws := WD y_DC_turn b_DC_turn 4 (some .int)) B.pre)
  have hown : s.vm.findClass "DeepChannel" = some m.cls := findClass_of_methodNamed B.named
  have hlocks := B.notSynchronized
  subst hsz
  have hD := hD0.self (sz := s.heap.size)
  generalize hAe : va_A (w_DC_turn cI cJ qX qRw qRw_cells X_shape X_words X_mixer X_coder X_sender X_receiver Rw_length Rw_cells) s.heap.size = A at hD hE ⊢
  have hA : ∀ q : Nat, s.heap.size ≤ q → A q := fun q h => by rw [← hAe]; exact Or.inr h
  have hS : va_S A s.heap s.heap [] := va_S.rf
  refine z_entry (vs := [.ref qX, .int x1, .long x2]) hargs (Nat.le_of_ble_eq_true rfl) (fun ls hl => ?_)
  have hl : lv_has ls 4 [(0, .ref qX), (1, .int x1), (2, .long x2)] := hl
  show W p l e (RM 1 27) s m args below meth c s.heap [] 0 0 _ _
  refine z_qi (fun Q0 hQ => ?_)
  have F : CallFix p m c b_DC_turn 4 s args TB "DeepChannel" := ⟨hx, hb, hml, hown, hts⟩
  unfold f_DC_turn at hm
  refine lv_aload_n hx hb d_DC_turn_0 rfl (lv_at hl 0 rfl) ?_
  refine va_get (D := D) (ci := 10) (v := .ref qRw) (C := "DeepChannel") (T := fT_DC) (N := 7) hx hb hts u_DC hown hK hP 0 rfl rfl 3 (by decide) (hts _ k_344) (fun _ h9 => h9) rfl d_DC_turn_1 ?_
  refine lv_iload_n hx hb d_DC_turn_4 rfl (lv_at hl 1 rfl) ?_
  refine lv_lload_n hx hb d_DC_turn_5 rfl (lv_at hl 2 rfl) ?_
  obtain ⟨⟨r1, g2⟩, hu, hm⟩ := bd_el hm
  replace hm := nm_2 hm
  refine z_cVi (wc := w_BitRow_flip cI cJ qRw qRw_cells Rw_length Rw_cells) (wc' := w_BitRow_flip cI cJ qRw qRw_cells Rw_length g2) (wr := [(qX, .inr (10, [X_shape, X_words, X_mixer, .ref qRw, X_coder, X_sender, X_receiver]))]) (As := [.int x1, .long x2]) (rest := []) (c_BitRow_flip l D cI cJ tt qRw qRw_cells _ Rw_length Rw_cells x1 x2 r1 g2 hu) F ok_BitRow_flip rfl k_367 hK hE hP hD hS hA [1, 2] [0] rfl rfl (by decide) (by decide) (by decide) 0 rfl rfl rfl ⟨rfl, rfl, Nat.le_of_ble_eq_true rfl, Nat.le_of_ble_eq_true rfl⟩ ⟨Nat.zero_le _, Nat.zero_le _⟩ rfl hl.1 rfl (Nat.le_of_ble_eq_true rfl) d_DC_turn_6 (fun H locs hP hD hS => ?_)
  have hP : va_P D classes (w_DC_turn cI cJ qX qRw qRw_cells X_shape X_words X_mixer X_coder X_sender X_receiver Rw_length g2) H := hP.sub [0, 1, 2] rfl
  have hD : va_D A (w_DC_turn cI cJ qX qRw qRw_cells X_shape X_words X_mixer X_coder X_sender X_receiver Rw_length g2) := hD.sub [0, 1, 2] (by decide) rfl
  cases hm
  exact z_qo hQ (z_ireti hr hx hb hlocks hK hP hD hS d_DC_turn_9)
-- DeepChannel.line(I)J
abbrev b_DC_line : ByteArray := prog_1_method_10_code
abbrev y_DC_line : MethodName := ⟨"DeepChannel", "line", "(I)J"⟩
theorem d_DC_line_0 : decode b_DC_line 0 = .ok (.aload_n 0, 1) := by decide +kernel
theorem d_DC_line_1 : decode b_DC_line 1 = .ok (.getfield 38, 3) := by decide +kernel
theorem d_DC_line_4 : decode b_DC_line 4 = .ok (.iload_n 1, 1) := by decide +kernel
theorem d_DC_line_5 : decode b_DC_line 5 = .ok (.invokevirtual 165, 3) := by decide +kernel
theorem d_DC_line_8 : decode b_DC_line 8 = .ok (.lreturn, 1) := by decide +kernel
theorem ok_DC_line : OKv y_DC_line b_DC_line 2 (some .long) "DeepChannel" 1 := ⟨k_375, k_373, k_374, k_42, by decide +kernel, by decide +kernel, by decide +kernel⟩
abbrev w_DC_line (cI cJ : ClassId) (qX qRw qRw_cells : Nat) (X_shape X_words X_mixer X_coder X_sender X_receiver Rw_length : Value) (Rw_cells : Nat → Int64) : va_W := [(qX, .inr (10, [X_shape, X_words, X_mixer, .ref qRw, X_coder, X_sender, X_receiver])), (qRw, .inr (0, [.ref qRw_cells, Rw_length])), (qRw_cells, .inl (cJ, 64, .inr (.inl Rw_cells)))]
def f_DC_line (Rw_cells : Nat → Int64) (x1 : Int32) : Option (Int64) :=
  bd (f_BitRow_window Rw_cells x1) fun u2 =>
  nm u2 fun r1 =>
  some r1
set_option maxHeartbeats 4000000 in
set_option maxRecDepth 100000 in
theorem c_DC_line (l : Launch) (D : va_G) (cI cJ : ClassId) (tt : Nat → Nat) (qX qRw qRw_cells : Nat) (X_shape X_words X_mixer X_coder X_sender X_receiver Rw_length : Value) (sz : Nat) (Rw_cells : Nat → Int64) (x1 : Int32) (rr : Int64) (hm : f_DC_line Rw_cells x1 = some rr) : CTl l y_DC_line b_DC_line 2 (some .long) (RM 2 46) D cI cJ tt [.ref qX, .int x1] (w_DC_line cI cJ qX qRw qRw_cells X_shape X_words X_mixer X_coder X_sender X_receiver Rw_length Rw_cells) (w_DC_line cI cJ qX qRw qRw_cells X_shape X_words X_mixer X_coder X_sender X_receiver Rw_length Rw_cells) sz rr := by
  refine Met.ofW (cc := b_DC_line) (maxL := 2) (ret := (some .long)) (by decide) rfl ?_
  intro p e s m args below meth c s₁ B hml hv
  obtain ⟨hargs, hsz, hP, hK, hD0, hE⟩ := hv
  have hx := B.exec
  have hb := B.bytes
  have hr := B.returns
  have hts : ∀ w ∈ TB, w.before args s = true := z_mV s (atoms_spec (ws := WD y_DC_line b_DC_line 2 (some .long)) B.pre)
  have hown : s.vm.findClass "DeepChannel" = some m.cls := findClass_of_methodNamed B.named
  have hlocks := B.notSynchronized
  subst hsz
  have hD := hD0.self (sz := s.heap.size)
  generalize hAe : va_A (w_DC_line cI cJ qX qRw qRw_cells X_shape X_words X_mixer X_coder X_sender X_receiver Rw_length Rw_cells) s.heap.size = A at hD hE ⊢
  have hA : ∀ q : Nat, s.heap.size ≤ q → A q := fun q h => by rw [← hAe]; exact Or.inr h
  have hS : va_S A s.heap s.heap [] := va_S.rf
  refine z_entry (vs := [.ref qX, .int x1]) hargs (Nat.le_of_ble_eq_true rfl) (fun ls hl => ?_)
  have hl : lv_has ls 2 [(0, .ref qX), (1, .int x1)] := hl
  show W p l e (RM 2 46) s m args below meth c s.heap [] 0 0 _ _
  refine z_qi (fun Q0 hQ => ?_)
  have F : CallFix p m c b_DC_line 2 s args TB "DeepChannel" := ⟨hx, hb, hml, hown, hts⟩
  unfold f_DC_line at hm
  refine lv_aload_n hx hb d_DC_line_0 rfl (lv_at hl 0 rfl) ?_
  refine va_get (D := D) (ci := 10) (v := .ref qRw) (C := "DeepChannel") (T := fT_DC) (N := 7) hx hb hts u_DC hown hK hP 0 rfl rfl 3 (by decide) (hts _ k_344) (fun _ h9 => h9) rfl d_DC_line_1 ?_
  refine lv_iload_n hx hb d_DC_line_4 rfl (lv_at hl 1 rfl) ?_
  obtain ⟨r1, hu, hm⟩ := bd_el hm
  replace hm := nm_1 hm
  refine z_cVl (wc := w_BitRow_window cI cJ qRw qRw_cells Rw_length Rw_cells) (wc' := w_BitRow_window cI cJ qRw qRw_cells Rw_length Rw_cells) (wr := [(qX, .inr (10, [X_shape, X_words, X_mixer, .ref qRw, X_coder, X_sender, X_receiver]))]) (As := [.int x1]) (rest := []) (c_BitRow_window l D cI cJ tt qRw qRw_cells Rw_length _ Rw_cells x1 r1 hu) F ok_BitRow_window rfl k_376 hK hE hP hD hS hA [1, 2] [0] rfl rfl (by decide) (by decide) (by decide) 0 rfl rfl rfl ⟨rfl, rfl, Nat.le_of_ble_eq_true rfl, Nat.le_of_ble_eq_true rfl⟩ ⟨Nat.zero_le _, Nat.zero_le _⟩ rfl hl.1 rfl (Nat.le_of_ble_eq_true rfl) d_DC_line_5 (fun H locs hP hD hS => ?_)
  have hP : va_P D classes (w_DC_line cI cJ qX qRw qRw_cells X_shape X_words X_mixer X_coder X_sender X_receiver Rw_length Rw_cells) H := hP.sub [0, 1, 2] rfl
  have hD : va_D A (w_DC_line cI cJ qX qRw qRw_cells X_shape X_words X_mixer X_coder X_sender X_receiver Rw_length Rw_cells) := hD.sub [0, 1, 2] (by decide) rfl
  cases hm
  exact z_qo hQ (z_lret hr hx hb hlocks hK hP hD hS d_DC_line_8)
-- DeepChannel.decoded(I)J
abbrev b_DC_decoded : ByteArray := prog_1_method_12_code
abbrev y_DC_decoded : MethodName := ⟨"DeepChannel", "decoded", "(I)J"⟩
theorem d_DC_decoded_0 : decode b_DC_decoded 0 = .ok (.aload_n 0, 1) := by decide +kernel
theorem d_DC_decoded_1 : decode b_DC_decoded 1 = .ok (.getfield 63, 3) := by decide +kernel
theorem d_DC_decoded_4 : decode b_DC_decoded 4 = .ok (.iload_n 1, 1) := by decide +kernel
theorem d_DC_decoded_5 : decode b_DC_decoded 5 = .ok (.invokevirtual 184, 3) := by decide +kernel
theorem d_DC_decoded_8 : decode b_DC_decoded 8 = .ok (.lreturn, 1) := by decide +kernel
theorem ok_DC_decoded : OKv y_DC_decoded b_DC_decoded 2 (some .long) "DeepChannel" 1 := ⟨k_387, k_385, k_386, k_42, by decide +kernel, by decide +kernel, by decide +kernel⟩
abbrev w_DC_decoded (cI cJ : ClassId) (qX qRc qFo qFo_cells : Nat) (X_shape X_words X_mixer X_row X_coder X_sender Rc_shape Rc_words Rc_mixer Rc_nearest Rc_bytes Rc_facts Rc_putRight Rc_lastOfChannel Rc_lastMaster Rc_differing Rc_taken Fo_length : Value) (Fo_cells : Nat → Int64) : va_W := [(qX, .inr (10, [X_shape, X_words, X_mixer, X_row, X_coder, X_sender, .ref qRc])), (qRc, .inr (6, [Rc_shape, Rc_words, Rc_mixer, Rc_nearest, .ref qFo, Rc_bytes, Rc_facts, Rc_putRight, Rc_lastOfChannel, Rc_lastMaster, Rc_differing, Rc_taken])), (qFo, .inr (0, [.ref qFo_cells, Fo_length])), (qFo_cells, .inl (cJ, 64, .inr (.inl Fo_cells)))]
def f_DC_decoded (Fo_cells : Nat → Int64) (x1 : Int32) : Option (Int64) :=
  bd (f_Receiver_decodedWindow Fo_cells x1) fun u2 =>
  nm u2 fun r1 =>
  some r1
set_option maxHeartbeats 4000000 in
set_option maxRecDepth 100000 in
theorem c_DC_decoded (l : Launch) (D : va_G) (cI cJ : ClassId) (tt : Nat → Nat) (qX qRc qFo qFo_cells : Nat) (X_shape X_words X_mixer X_row X_coder X_sender Rc_shape Rc_words Rc_mixer Rc_nearest Rc_bytes Rc_facts Rc_putRight Rc_lastOfChannel Rc_lastMaster Rc_differing Rc_taken Fo_length : Value) (sz : Nat) (Fo_cells : Nat → Int64) (x1 : Int32) (rr : Int64) (hm : f_DC_decoded Fo_cells x1 = some rr) : CTl l y_DC_decoded b_DC_decoded 2 (some .long) (RM 3 67) D cI cJ tt [.ref qX, .int x1] (w_DC_decoded cI cJ qX qRc qFo qFo_cells X_shape X_words X_mixer X_row X_coder X_sender Rc_shape Rc_words Rc_mixer Rc_nearest Rc_bytes Rc_facts Rc_putRight Rc_lastOfChannel Rc_lastMaster Rc_differing Rc_taken Fo_length Fo_cells) (w_DC_decoded cI cJ qX qRc qFo qFo_cells X_shape X_words X_mixer X_row X_coder X_sender Rc_shape Rc_words Rc_mixer Rc_nearest Rc_bytes Rc_facts Rc_putRight Rc_lastOfChannel Rc_lastMaster Rc_differing Rc_taken Fo_length Fo_cells) sz rr := by
  refine Met.ofW (cc := b_DC_decoded) (maxL := 2) (ret := (some .long)) (by decide) rfl ?_
  intro p e s m args below meth c s₁ B hml hv
  obtain ⟨hargs, hsz, hP, hK, hD0, hE⟩ := hv
  have hx := B.exec
  have hb := B.bytes
  have hr := B.returns
  have hts : ∀ w ∈ TB, w.before args s = true := z_mV s (atoms_spec (ws := WD y_DC_decoded b_DC_decoded 2 (some .long)) B.pre)
  have hown : s.vm.findClass "DeepChannel" = some m.cls := findClass_of_methodNamed B.named
  have hlocks := B.notSynchronized
  subst hsz
  have hD := hD0.self (sz := s.heap.size)
  generalize hAe : va_A (w_DC_decoded cI cJ qX qRc qFo qFo_cells X_shape X_words X_mixer X_row X_coder X_sender Rc_shape Rc_words Rc_mixer Rc_nearest Rc_bytes Rc_facts Rc_putRight Rc_lastOfChannel Rc_lastMaster Rc_differing Rc_taken Fo_length Fo_cells) s.heap.size = A at hD hE ⊢
  have hA : ∀ q : Nat, s.heap.size ≤ q → A q := fun q h => by rw [← hAe]; exact Or.inr h
  have hS : va_S A s.heap s.heap [] := va_S.rf
  refine z_entry (vs := [.ref qX, .int x1]) hargs (Nat.le_of_ble_eq_true rfl) (fun ls hl => ?_)
  have hl : lv_has ls 2 [(0, .ref qX), (1, .int x1)] := hl
  show W p l e (RM 3 67) s m args below meth c s.heap [] 0 0 _ _
  refine z_qi (fun Q0 hQ => ?_)
  have F : CallFix p m c b_DC_decoded 2 s args TB "DeepChannel" := ⟨hx, hb, hml, hown, hts⟩
  unfold f_DC_decoded at hm
  refine lv_aload_n hx hb d_DC_decoded_0 rfl (lv_at hl 0 rfl) ?_
  refine va_get (D := D) (ci := 10) (v := .ref qRc) (C := "DeepChannel") (T := fT_DC) (N := 7) hx hb hts u_DC hown hK hP 0 rfl rfl 6 (by decide) (hts _ k_347) (fun _ h9 => h9) rfl d_DC_decoded_1 ?_
  refine lv_iload_n hx hb d_DC_decoded_4 rfl (lv_at hl 1 rfl) ?_
  obtain ⟨r1, hu, hm⟩ := bd_el hm
  replace hm := nm_1 hm
  refine z_cVl (wc := w_Receiver_decodedWindow cI cJ qRc qFo qFo_cells Rc_shape Rc_words Rc_mixer Rc_nearest Rc_bytes Rc_facts Rc_putRight Rc_lastOfChannel Rc_lastMaster Rc_differing Rc_taken Fo_length Fo_cells) (wc' := w_Receiver_decodedWindow cI cJ qRc qFo qFo_cells Rc_shape Rc_words Rc_mixer Rc_nearest Rc_bytes Rc_facts Rc_putRight Rc_lastOfChannel Rc_lastMaster Rc_differing Rc_taken Fo_length Fo_cells) (wr := [(qX, .inr (10, [X_shape, X_words, X_mixer, X_row, X_coder, X_sender, .ref qRc]))]) (As := [.int x1]) (rest := []) (c_Receiver_decodedWindow l D cI cJ tt qRc qFo qFo_cells Rc_shape Rc_words Rc_mixer Rc_nearest Rc_bytes Rc_facts Rc_putRight Rc_lastOfChannel Rc_lastMaster Rc_differing Rc_taken Fo_length _ Fo_cells x1 r1 hu) F ok_Receiver_decodedWindow rfl k_388 hK hE hP hD hS hA [1, 2, 3] [0] rfl rfl (by decide) (by decide) (by decide) 0 rfl rfl rfl ⟨rfl, rfl, Nat.le_of_ble_eq_true rfl, Nat.le_of_ble_eq_true rfl⟩ ⟨Nat.zero_le _, Nat.zero_le _⟩ rfl hl.1 rfl (Nat.le_of_ble_eq_true rfl) d_DC_decoded_5 (fun H locs hP hD hS => ?_)
  have hP : va_P D classes (w_DC_decoded cI cJ qX qRc qFo qFo_cells X_shape X_words X_mixer X_row X_coder X_sender Rc_shape Rc_words Rc_mixer Rc_nearest Rc_bytes Rc_facts Rc_putRight Rc_lastOfChannel Rc_lastMaster Rc_differing Rc_taken Fo_length Fo_cells) H := hP.sub [0, 1, 2, 3] rfl
  have hD : va_D A (w_DC_decoded cI cJ qX qRc qFo qFo_cells X_shape X_words X_mixer X_row X_coder X_sender Rc_shape Rc_words Rc_mixer Rc_nearest Rc_bytes Rc_facts Rc_putRight Rc_lastOfChannel Rc_lastMaster Rc_differing Rc_taken Fo_length Fo_cells) := hD.sub [0, 1, 2, 3] (by decide) rfl
  cases hm
  exact z_qo hQ (z_lret hr hx hb hlocks hK hP hD hS d_DC_decoded_8)
-- DeepChannel.craft(I)I
abbrev b_DC_craft : ByteArray := prog_1_method_3_code
abbrev y_DC_craft : MethodName := ⟨"DeepChannel", "craft", "(I)I"⟩
theorem d_DC_craft_0 : decode b_DC_craft 0 = .ok (.iload_n 1, 1) := by decide +kernel
theorem d_DC_craft_1 : decode b_DC_craft 1 = .ok (.ifCond .lt 10, 3) := by decide +kernel
theorem d_DC_craft_4 : decode b_DC_craft 4 = .ok (.iload_n 1, 1) := by decide +kernel
theorem d_DC_craft_5 : decode b_DC_craft 5 = .ok (.sipush 1024, 3) := by decide +kernel
theorem d_DC_craft_8 : decode b_DC_craft 8 = .ok (.if_icmp .lt 13, 3) := by decide +kernel
theorem d_DC_craft_11 : decode b_DC_craft 11 = .ok (.new 71, 3) := by decide +kernel
theorem d_DC_craft_14 : decode b_DC_craft 14 = .ok (.dup, 1) := by decide +kernel
theorem d_DC_craft_15 : decode b_DC_craft 15 = .ok (.ldc 95, 2) := by decide +kernel
theorem d_DC_craft_17 : decode b_DC_craft 17 = .ok (.invokespecial 75, 3) := by decide +kernel
theorem d_DC_craft_20 : decode b_DC_craft 20 = .ok (.athrow, 1) := by decide +kernel
theorem d_DC_craft_21 : decode b_DC_craft 21 = .ok (.aload_n 0, 1) := by decide +kernel
theorem d_DC_craft_22 : decode b_DC_craft 22 = .ok (.getfield 56, 3) := by decide +kernel
theorem d_DC_craft_25 : decode b_DC_craft 25 = .ok (.iload_n 1, 1) := by decide +kernel
theorem d_DC_craft_26 : decode b_DC_craft 26 = .ok (.invokevirtual 97, 3) := by decide +kernel
theorem d_DC_craft_29 : decode b_DC_craft 29 = .ok (.ireturn, 1) := by decide +kernel
theorem ok_DC_craft : OKv y_DC_craft b_DC_craft 2 (some .int) "DeepChannel" 1 := ⟨k_504, k_502, k_503, k_42, by decide +kernel, by decide +kernel, by decide +kernel⟩
abbrev w_DC_craft (cI cJ : ClassId) (qX qSd : Nat) (X_shape X_words X_mixer X_row X_coder X_receiver Sd_shape Sd_words Sd_mixer Sd_bytes Sd_channelCounts Sd_masterCount Sd_dataCount : Value) (Sd_craft : Int32) : va_W := [(qX, .inr (10, [X_shape, X_words, X_mixer, X_row, X_coder, .ref qSd, X_receiver])), (qSd, .inr (7, [Sd_shape, Sd_words, Sd_mixer, Sd_bytes, Sd_channelCounts, Sd_masterCount, .int Sd_craft, Sd_dataCount]))]
def f_DC_craft_11  (Sd_craft : Int32) : Option (Int32 × Int32) :=
  none
def f_DC_craft (Sd_craft : Int32) (x1 : Int32) : Option (Int32 × Int32) :=
  if x1 < 0 then
    f_DC_craft_11 Sd_craft
  else
  if x1 < (1024 : Int32) then
    bd (f_Sender_exchangeCraft Sd_craft x1) fun u3 =>
    nm u3.1 fun r1 =>
    nm u3.2 fun v2 =>
    some (r1, v2)
  else
  f_DC_craft_11 Sd_craft
set_option maxHeartbeats 4000000 in
set_option maxRecDepth 100000 in
theorem c_DC_craft (l : Launch) (D : va_G) (cI cJ : ClassId) (tt : Nat → Nat) (qX qSd : Nat) (X_shape X_words X_mixer X_row X_coder X_receiver Sd_shape Sd_words Sd_mixer Sd_bytes Sd_channelCounts Sd_masterCount Sd_dataCount : Value) (sz : Nat) (Sd_craft : Int32) (x1 : Int32) (rr : Int32) (Sd_craft' : Int32) (hm : f_DC_craft Sd_craft x1 = some (rr, Sd_craft')) : CTi l y_DC_craft b_DC_craft 2 (some .int) (RM 1 22) D cI cJ tt [.ref qX, .int x1] (w_DC_craft cI cJ qX qSd X_shape X_words X_mixer X_row X_coder X_receiver Sd_shape Sd_words Sd_mixer Sd_bytes Sd_channelCounts Sd_masterCount Sd_dataCount Sd_craft) (w_DC_craft cI cJ qX qSd X_shape X_words X_mixer X_row X_coder X_receiver Sd_shape Sd_words Sd_mixer Sd_bytes Sd_channelCounts Sd_masterCount Sd_dataCount Sd_craft') sz rr := by
  refine Met.ofW (cc := b_DC_craft) (maxL := 2) (ret := (some .int)) (by decide) rfl ?_
  intro p e s m args below meth c s₁ B hml hv
  obtain ⟨hargs, hsz, hP, hK, hD0, hE⟩ := hv
  have hx := B.exec
  have hb := B.bytes
  have hr := B.returns
  have hts : ∀ w ∈ TB, w.before args s = true := z_mV s (atoms_spec (ws := WD y_DC_craft b_DC_craft 2 (some .int)) B.pre)
  have hown : s.vm.findClass "DeepChannel" = some m.cls := findClass_of_methodNamed B.named
  have hlocks := B.notSynchronized
  subst hsz
  have hD := hD0.self (sz := s.heap.size)
  generalize hAe : va_A (w_DC_craft cI cJ qX qSd X_shape X_words X_mixer X_row X_coder X_receiver Sd_shape Sd_words Sd_mixer Sd_bytes Sd_channelCounts Sd_masterCount Sd_dataCount Sd_craft) s.heap.size = A at hD hE ⊢
  have hA : ∀ q : Nat, s.heap.size ≤ q → A q := fun q h => by rw [← hAe]; exact Or.inr h
  have hS : va_S A s.heap s.heap [] := va_S.rf
  refine z_entry (vs := [.ref qX, .int x1]) hargs (Nat.le_of_ble_eq_true rfl) (fun ls hl => ?_)
  have hl : lv_has ls 2 [(0, .ref qX), (1, .int x1)] := hl
  show W p l e (RM 1 22) s m args below meth c s.heap [] 0 0 _ _
  refine z_qi (fun Q0 hQ => ?_)
  have F : CallFix p m c b_DC_craft 2 s args TB "DeepChannel" := ⟨hx, hb, hml, hown, hts⟩
  have T11 : ∀ (Sd_craft : Int32), f_DC_craft_11 Sd_craft = some (rr, Sd_craft') → ∀ (H : Heap) (locs : List Loc), va_P D classes (w_DC_craft cI cJ qX qSd X_shape X_words X_mixer X_row X_coder X_receiver Sd_shape Sd_words Sd_mixer Sd_bytes Sd_channelCounts Sd_masterCount Sd_dataCount Sd_craft) H → va_D A (w_DC_craft cI cJ qX qSd X_shape X_words X_mixer X_row X_coder X_receiver Sd_shape Sd_words Sd_mixer Sd_bytes Sd_channelCounts Sd_masterCount Sd_dataCount Sd_craft) → va_S A s.heap H locs → ∀ (ls : Array Slot), lv_has ls 2 [] → W p l e (RM 1 22) s m args below meth c H locs 0 0 Q0 (F0 m 11 ls []) := by
    intro Sd_craft hm H locs hP hD hS ls hl
    unfold f_DC_craft_11 at hm
    cases hm
  unfold f_DC_craft at hm
  refine lv_iload_n hx hb d_DC_craft_0 rfl (lv_at hl 1 rfl) ?_
  refine z_if hm (lv_if_lt (tgt := 11) hx hb d_DC_craft_1 (by decide)) (fun hm => ?_) (fun hm => ?_)
  · exact T11 Sd_craft hm _ _ hP hD hS _ (lv_sub hl [] rfl)
  · refine lv_iload_n hx hb d_DC_craft_4 rfl (lv_at hl 1 rfl) ?_
    refine lv_sipush (v := (1024 : Int32)) hx hb d_DC_craft_5 (by decide) ?_
    refine z_if hm (lv_icmp_lt (tgt := 21) hx hb d_DC_craft_8 (by decide)) (fun hm => ?_) (fun hm => ?_)
    · refine lv_aload_n hx hb d_DC_craft_21 rfl (lv_at hl 0 rfl) ?_
      refine va_get (D := D) (ci := 10) (v := .ref qSd) (C := "DeepChannel") (T := fT_DC) (N := 7) hx hb hts u_DC hown hK hP 0 rfl rfl 5 (by decide) (hts _ k_346) (fun _ h9 => h9) rfl d_DC_craft_22 ?_
      refine lv_iload_n hx hb d_DC_craft_25 rfl (lv_at hl 1 rfl) ?_
      obtain ⟨⟨r1, v2⟩, hu, hm⟩ := bd_el hm
      replace hm := nm_2 hm
      refine z_cVi (wc := w_Sender_exchangeCraft cI cJ qSd Sd_shape Sd_words Sd_mixer Sd_bytes Sd_channelCounts Sd_masterCount Sd_dataCount Sd_craft) (wc' := w_Sender_exchangeCraft cI cJ qSd Sd_shape Sd_words Sd_mixer Sd_bytes Sd_channelCounts Sd_masterCount Sd_dataCount v2) (wr := [(qX, .inr (10, [X_shape, X_words, X_mixer, X_row, X_coder, .ref qSd, X_receiver]))]) (As := [.int x1]) (rest := []) (c_Sender_exchangeCraft l D cI cJ tt qSd Sd_shape Sd_words Sd_mixer Sd_bytes Sd_channelCounts Sd_masterCount Sd_dataCount _ Sd_craft x1 r1 v2 hu) F ok_Sender_exchangeCraft rfl k_506 hK hE hP hD hS hA [1] [0] rfl rfl (by decide) (by decide) (by decide) 0 rfl rfl rfl ⟨rfl, rfl, Nat.le_of_ble_eq_true rfl, Nat.le_of_ble_eq_true rfl⟩ ⟨Nat.zero_le _, Nat.zero_le _⟩ rfl hl.1 rfl (Nat.le_of_ble_eq_true rfl) d_DC_craft_26 (fun H locs hP hD hS => ?_)
      have hP : va_P D classes (w_DC_craft cI cJ qX qSd X_shape X_words X_mixer X_row X_coder X_receiver Sd_shape Sd_words Sd_mixer Sd_bytes Sd_channelCounts Sd_masterCount Sd_dataCount v2) H := hP.sub [0, 1] rfl
      have hD : va_D A (w_DC_craft cI cJ qX qSd X_shape X_words X_mixer X_row X_coder X_receiver Sd_shape Sd_words Sd_mixer Sd_bytes Sd_channelCounts Sd_masterCount Sd_dataCount v2) := hD.sub [0, 1] (by decide) rfl
      cases hm
      exact z_qo hQ (z_ireti hr hx hb hlocks hK hP hD hS d_DC_craft_29)
    · exact T11 Sd_craft hm _ _ hP hD hS _ (lv_sub hl [] rfl)
-- DeepChannel.told(I)I
abbrev b_DC_told : ByteArray := prog_1_method_4_code
abbrev y_DC_told : MethodName := ⟨"DeepChannel", "told", "(I)I"⟩
theorem d_DC_told_0 : decode b_DC_told 0 = .ok (.iload_n 1, 1) := by decide +kernel
theorem d_DC_told_1 : decode b_DC_told 1 = .ok (.tableswitch 111 0 7 #[47, 55, 63, 71, 79, 87, 95, 103], 47) := by decide +kernel
theorem d_DC_told_48 : decode b_DC_told 48 = .ok (.aload_n 0, 1) := by decide +kernel
theorem d_DC_told_49 : decode b_DC_told 49 = .ok (.getfield 10, 3) := by decide +kernel
theorem d_DC_told_52 : decode b_DC_told 52 = .ok (.invokevirtual 101, 3) := by decide +kernel
theorem d_DC_told_55 : decode b_DC_told 55 = .ok (.ireturn, 1) := by decide +kernel
theorem d_DC_told_56 : decode b_DC_told 56 = .ok (.aload_n 0, 1) := by decide +kernel
theorem d_DC_told_57 : decode b_DC_told 57 = .ok (.getfield 10, 3) := by decide +kernel
theorem d_DC_told_60 : decode b_DC_told 60 = .ok (.invokevirtual 105, 3) := by decide +kernel
theorem d_DC_told_63 : decode b_DC_told 63 = .ok (.ireturn, 1) := by decide +kernel
theorem d_DC_told_64 : decode b_DC_told 64 = .ok (.aload_n 0, 1) := by decide +kernel
theorem d_DC_told_65 : decode b_DC_told 65 = .ok (.getfield 10, 3) := by decide +kernel
theorem d_DC_told_68 : decode b_DC_told 68 = .ok (.invokevirtual 108, 3) := by decide +kernel
theorem d_DC_told_71 : decode b_DC_told 71 = .ok (.ireturn, 1) := by decide +kernel
theorem d_DC_told_72 : decode b_DC_told 72 = .ok (.aload_n 0, 1) := by decide +kernel
theorem d_DC_told_73 : decode b_DC_told 73 = .ok (.getfield 38, 3) := by decide +kernel
theorem d_DC_told_76 : decode b_DC_told 76 = .ok (.invokevirtual 111, 3) := by decide +kernel
theorem d_DC_told_79 : decode b_DC_told 79 = .ok (.ireturn, 1) := by decide +kernel
theorem d_DC_told_80 : decode b_DC_told 80 = .ok (.aload_n 0, 1) := by decide +kernel
theorem d_DC_told_81 : decode b_DC_told 81 = .ok (.getfield 56, 3) := by decide +kernel
theorem d_DC_told_84 : decode b_DC_told 84 = .ok (.invokevirtual 114, 3) := by decide +kernel
theorem d_DC_told_87 : decode b_DC_told 87 = .ok (.ireturn, 1) := by decide +kernel
theorem d_DC_told_88 : decode b_DC_told 88 = .ok (.aload_n 0, 1) := by decide +kernel
theorem d_DC_told_89 : decode b_DC_told 89 = .ok (.getfield 63, 3) := by decide +kernel
theorem d_DC_told_92 : decode b_DC_told 92 = .ok (.invokevirtual 117, 3) := by decide +kernel
theorem d_DC_told_95 : decode b_DC_told 95 = .ok (.ireturn, 1) := by decide +kernel
theorem d_DC_told_96 : decode b_DC_told 96 = .ok (.aload_n 0, 1) := by decide +kernel
theorem d_DC_told_97 : decode b_DC_told 97 = .ok (.getfield 63, 3) := by decide +kernel
theorem d_DC_told_100 : decode b_DC_told 100 = .ok (.invokevirtual 120, 3) := by decide +kernel
theorem d_DC_told_103 : decode b_DC_told 103 = .ok (.ireturn, 1) := by decide +kernel
theorem d_DC_told_104 : decode b_DC_told 104 = .ok (.aload_n 0, 1) := by decide +kernel
theorem d_DC_told_105 : decode b_DC_told 105 = .ok (.getfield 63, 3) := by decide +kernel
theorem d_DC_told_108 : decode b_DC_told 108 = .ok (.invokevirtual 123, 3) := by decide +kernel
theorem d_DC_told_111 : decode b_DC_told 111 = .ok (.ireturn, 1) := by decide +kernel
theorem d_DC_told_112 : decode b_DC_told 112 = .ok (.new 71, 3) := by decide +kernel
theorem d_DC_told_115 : decode b_DC_told 115 = .ok (.dup, 1) := by decide +kernel
theorem d_DC_told_116 : decode b_DC_told 116 = .ok (.ldc 126, 2) := by decide +kernel
theorem d_DC_told_118 : decode b_DC_told 118 = .ok (.invokespecial 75, 3) := by decide +kernel
theorem d_DC_told_121 : decode b_DC_told 121 = .ok (.athrow, 1) := by decide +kernel
theorem ok_DC_told : OKv y_DC_told b_DC_told 2 (some .int) "DeepChannel" 1 := ⟨k_516, k_514, k_515, k_42, by decide +kernel, by decide +kernel, by decide +kernel⟩
abbrev w_DC_told (cI cJ : ClassId) (qX qRc qFo qSd qRw qSh : Nat) (X_words X_mixer X_coder Rc_shape Rc_words Rc_mixer Rc_nearest Rc_bytes Rc_facts Rc_putRight Rc_lastOfChannel Rc_lastMaster Fo_cells Sd_shape Sd_words Sd_mixer Sd_bytes Sd_channelCounts Sd_masterCount Sd_craft Rw_cells Sh_pattern : Value) (Rc_differing : Int32) (Rc_taken : Int32) (Fo_length : Int32) (Sd_dataCount : Int32) (Rw_length : Int32) (Sh_depth : Int32) (Sh_wordBytes : Int32) (Sh_e : Int32) : va_W := [(qX, .inr (10, [.ref qSh, X_words, X_mixer, .ref qRw, X_coder, .ref qSd, .ref qRc])), (qRc, .inr (6, [Rc_shape, Rc_words, Rc_mixer, Rc_nearest, .ref qFo, Rc_bytes, Rc_facts, Rc_putRight, Rc_lastOfChannel, Rc_lastMaster, .int Rc_differing, .int Rc_taken])), (qFo, .inr (0, [Fo_cells, .int Fo_length])), (qSd, .inr (7, [Sd_shape, Sd_words, Sd_mixer, Sd_bytes, Sd_channelCounts, Sd_masterCount, Sd_craft, .int Sd_dataCount])), (qRw, .inr (0, [Rw_cells, .int Rw_length])), (qSh, .inr (8, [.int Sh_depth, .int Sh_wordBytes, .int Sh_e, Sh_pattern]))]
def f_DC_told (Rc_differing : Int32) (Rc_taken : Int32) (Fo_length : Int32) (Sd_dataCount : Int32) (Rw_length : Int32) (Sh_depth : Int32) (Sh_wordBytes : Int32) (Sh_e : Int32) (x1 : Int32) : Option (Int32) :=
  if x1 = (0 : Int32) then
    bd (f_Shape_frameBytes Sh_depth Sh_wordBytes Sh_e) fun u2 =>
    nm u2 fun r1 =>
    some r1
  else
  if x1 = (1 : Int32) then
    bd (f_Shape_dataBytes Sh_depth Sh_wordBytes Sh_e) fun u4 =>
    nm u4 fun r3 =>
    some r3
  else
  if x1 = (2 : Int32) then
    bd (f_Shape_blockBytes Sh_depth Sh_wordBytes) fun u6 =>
    nm u6 fun r5 =>
    some r5
  else
  if x1 = (3 : Int32) then
    bd (f_BitRow_size Rw_length) fun u8 =>
    nm u8 fun r7 =>
    some r7
  else
  if x1 = (4 : Int32) then
    bd (f_Sender_waiting Sd_dataCount) fun u10 =>
    nm u10 fun r9 =>
    some r9
  else
  if x1 = (5 : Int32) then
    bd (f_Receiver_bitsDecoded Fo_length) fun u12 =>
    nm u12 fun r11 =>
    some r11
  else
  if x1 = (6 : Int32) then
    bd (f_Receiver_bitsDiffering Rc_differing) fun u14 =>
    nm u14 fun r13 =>
    some r13
  else
  if x1 = (7 : Int32) then
    bd (f_Receiver_blocksTaken Rc_taken) fun u16 =>
    nm u16 fun r15 =>
    some r15
  else
  none
set_option maxHeartbeats 4000000 in
set_option maxRecDepth 100000 in
theorem c_DC_told (l : Launch) (D : va_G) (cI cJ : ClassId) (tt : Nat → Nat) (qX qRc qFo qSd qRw qSh : Nat) (X_words X_mixer X_coder Rc_shape Rc_words Rc_mixer Rc_nearest Rc_bytes Rc_facts Rc_putRight Rc_lastOfChannel Rc_lastMaster Fo_cells Sd_shape Sd_words Sd_mixer Sd_bytes Sd_channelCounts Sd_masterCount Sd_craft Rw_cells Sh_pattern : Value) (sz : Nat) (Rc_differing : Int32) (Rc_taken : Int32) (Fo_length : Int32) (Sd_dataCount : Int32) (Rw_length : Int32) (Sh_depth : Int32) (Sh_wordBytes : Int32) (Sh_e : Int32) (x1 : Int32) (rr : Int32) (hm : f_DC_told Rc_differing Rc_taken Fo_length Sd_dataCount Rw_length Sh_depth Sh_wordBytes Sh_e x1 = some rr) : CTi l y_DC_told b_DC_told 2 (some .int) (RM 2 40) D cI cJ tt [.ref qX, .int x1] (w_DC_told cI cJ qX qRc qFo qSd qRw qSh X_words X_mixer X_coder Rc_shape Rc_words Rc_mixer Rc_nearest Rc_bytes Rc_facts Rc_putRight Rc_lastOfChannel Rc_lastMaster Fo_cells Sd_shape Sd_words Sd_mixer Sd_bytes Sd_channelCounts Sd_masterCount Sd_craft Rw_cells Sh_pattern Rc_differing Rc_taken Fo_length Sd_dataCount Rw_length Sh_depth Sh_wordBytes Sh_e) (w_DC_told cI cJ qX qRc qFo qSd qRw qSh X_words X_mixer X_coder Rc_shape Rc_words Rc_mixer Rc_nearest Rc_bytes Rc_facts Rc_putRight Rc_lastOfChannel Rc_lastMaster Fo_cells Sd_shape Sd_words Sd_mixer Sd_bytes Sd_channelCounts Sd_masterCount Sd_craft Rw_cells Sh_pattern Rc_differing Rc_taken Fo_length Sd_dataCount Rw_length Sh_depth Sh_wordBytes Sh_e) sz rr := by
  refine Met.ofW (cc := b_DC_told) (maxL := 2) (ret := (some .int)) (by decide) rfl ?_
  intro p e s m args below meth c s₁ B hml hv
  obtain ⟨hargs, hsz, hP, hK, hD0, hE⟩ := hv
  have hx := B.exec
  have hb := B.bytes
  have hr := B.returns
  have hts : ∀ w ∈ TB, w.before args s = true := z_mV s (atoms_spec (ws := WD y_DC_told b_DC_told 2 (some .int)) B.pre)
  have hown : s.vm.findClass "DeepChannel" = some m.cls := findClass_of_methodNamed B.named
  have hlocks := B.notSynchronized
  subst hsz
  have hD := hD0.self (sz := s.heap.size)
  generalize hAe : va_A (w_DC_told cI cJ qX qRc qFo qSd qRw qSh X_words X_mixer X_coder Rc_shape Rc_words Rc_mixer Rc_nearest Rc_bytes Rc_facts Rc_putRight Rc_lastOfChannel Rc_lastMaster Fo_cells Sd_shape Sd_words Sd_mixer Sd_bytes Sd_channelCounts Sd_masterCount Sd_craft Rw_cells Sh_pattern Rc_differing Rc_taken Fo_length Sd_dataCount Rw_length Sh_depth Sh_wordBytes Sh_e) s.heap.size = A at hD hE ⊢
  have hA : ∀ q : Nat, s.heap.size ≤ q → A q := fun q h => by rw [← hAe]; exact Or.inr h
  have hS : va_S A s.heap s.heap [] := va_S.rf
  refine z_entry (vs := [.ref qX, .int x1]) hargs (Nat.le_of_ble_eq_true rfl) (fun ls hl => ?_)
  have hl : lv_has ls 2 [(0, .ref qX), (1, .int x1)] := hl
  show W p l e (RM 2 40) s m args below meth c s.heap [] 0 0 _ _
  refine z_qi (fun Q0 hQ => ?_)
  have F : CallFix p m c b_DC_told 2 s args TB "DeepChannel" := ⟨hx, hb, hml, hown, hts⟩
  unfold f_DC_told at hm
  refine lv_iload_n hx hb d_DC_told_0 rfl (lv_at hl 1 rfl) ?_
  refine z_sp hm (fun e0 hm => z_swin (tgt := 48) (off := 47) e0 hx hb d_DC_told_1 (by decide) (by decide) (by decide) (by decide) ?_) (fun e0 hm => ?_)
  · refine lv_aload_n hx hb d_DC_told_48 rfl (lv_at hl 0 rfl) ?_
    refine va_get (D := D) (ci := 10) (v := .ref qSh) (C := "DeepChannel") (T := fT_DC) (N := 7) hx hb hts u_DC hown hK hP 0 rfl rfl 0 (by decide) (hts _ k_341) (fun _ h9 => h9) rfl d_DC_told_49 ?_
    obtain ⟨r1, hu, hm⟩ := bd_el hm
    replace hm := nm_1 hm
    refine z_cVi (wc := w_Shape_frameBytes cI cJ qSh Sh_pattern Sh_depth Sh_wordBytes Sh_e) (wc' := w_Shape_frameBytes cI cJ qSh Sh_pattern Sh_depth Sh_wordBytes Sh_e) (wr := [(qX, .inr (10, [.ref qSh, X_words, X_mixer, .ref qRw, X_coder, .ref qSd, .ref qRc])), (qRc, .inr (6, [Rc_shape, Rc_words, Rc_mixer, Rc_nearest, .ref qFo, Rc_bytes, Rc_facts, Rc_putRight, Rc_lastOfChannel, Rc_lastMaster, .int Rc_differing, .int Rc_taken])), (qFo, .inr (0, [Fo_cells, .int Fo_length])), (qSd, .inr (7, [Sd_shape, Sd_words, Sd_mixer, Sd_bytes, Sd_channelCounts, Sd_masterCount, Sd_craft, .int Sd_dataCount])), (qRw, .inr (0, [Rw_cells, .int Rw_length]))]) (As := []) (rest := []) (c_Shape_frameBytes l D cI cJ tt qSh Sh_pattern _ Sh_depth Sh_wordBytes Sh_e r1 hu) F ok_Shape_frameBytes rfl k_517 hK hE hP hD hS hA [5] [0, 1, 2, 3, 4] rfl rfl (by decide) (by decide) (by decide) 0 rfl rfl rfl ⟨rfl, rfl, Nat.le_of_ble_eq_true rfl, Nat.le_of_ble_eq_true rfl⟩ ⟨Nat.zero_le _, Nat.zero_le _⟩ rfl hl.1 rfl (Nat.le_of_ble_eq_true rfl) d_DC_told_52 (fun H locs hP hD hS => ?_)
    have hP : va_P D classes (w_DC_told cI cJ qX qRc qFo qSd qRw qSh X_words X_mixer X_coder Rc_shape Rc_words Rc_mixer Rc_nearest Rc_bytes Rc_facts Rc_putRight Rc_lastOfChannel Rc_lastMaster Fo_cells Sd_shape Sd_words Sd_mixer Sd_bytes Sd_channelCounts Sd_masterCount Sd_craft Rw_cells Sh_pattern Rc_differing Rc_taken Fo_length Sd_dataCount Rw_length Sh_depth Sh_wordBytes Sh_e) H := hP.sub [0, 1, 2, 3, 4, 5] rfl
    have hD : va_D A (w_DC_told cI cJ qX qRc qFo qSd qRw qSh X_words X_mixer X_coder Rc_shape Rc_words Rc_mixer Rc_nearest Rc_bytes Rc_facts Rc_putRight Rc_lastOfChannel Rc_lastMaster Fo_cells Sd_shape Sd_words Sd_mixer Sd_bytes Sd_channelCounts Sd_masterCount Sd_craft Rw_cells Sh_pattern Rc_differing Rc_taken Fo_length Sd_dataCount Rw_length Sh_depth Sh_wordBytes Sh_e) := hD.sub [0, 1, 2, 3, 4, 5] (by decide) rfl
    cases hm
    exact z_qo hQ (z_ireti hr hx hb hlocks hK hP hD hS d_DC_told_55)
  refine z_sp hm (fun e1 hm => z_swin (tgt := 56) (off := 55) e1 hx hb d_DC_told_1 (by decide) (by decide) (by decide) (by decide) ?_) (fun e1 hm => ?_)
  · refine lv_aload_n hx hb d_DC_told_56 rfl (lv_at hl 0 rfl) ?_
    refine va_get (D := D) (ci := 10) (v := .ref qSh) (C := "DeepChannel") (T := fT_DC) (N := 7) hx hb hts u_DC hown hK hP 0 rfl rfl 0 (by decide) (hts _ k_341) (fun _ h9 => h9) rfl d_DC_told_57 ?_
    obtain ⟨r3, hu, hm⟩ := bd_el hm
    replace hm := nm_1 hm
    refine z_cVi (wc := w_Shape_dataBytes cI cJ qSh Sh_pattern Sh_depth Sh_wordBytes Sh_e) (wc' := w_Shape_dataBytes cI cJ qSh Sh_pattern Sh_depth Sh_wordBytes Sh_e) (wr := [(qX, .inr (10, [.ref qSh, X_words, X_mixer, .ref qRw, X_coder, .ref qSd, .ref qRc])), (qRc, .inr (6, [Rc_shape, Rc_words, Rc_mixer, Rc_nearest, .ref qFo, Rc_bytes, Rc_facts, Rc_putRight, Rc_lastOfChannel, Rc_lastMaster, .int Rc_differing, .int Rc_taken])), (qFo, .inr (0, [Fo_cells, .int Fo_length])), (qSd, .inr (7, [Sd_shape, Sd_words, Sd_mixer, Sd_bytes, Sd_channelCounts, Sd_masterCount, Sd_craft, .int Sd_dataCount])), (qRw, .inr (0, [Rw_cells, .int Rw_length]))]) (As := []) (rest := []) (c_Shape_dataBytes l D cI cJ tt qSh Sh_pattern _ Sh_depth Sh_wordBytes Sh_e r3 hu) F ok_Shape_dataBytes rfl k_521 hK hE hP hD hS hA [5] [0, 1, 2, 3, 4] rfl rfl (by decide) (by decide) (by decide) 0 rfl rfl rfl ⟨rfl, rfl, Nat.le_of_ble_eq_true rfl, Nat.le_of_ble_eq_true rfl⟩ ⟨Nat.zero_le _, Nat.zero_le _⟩ rfl hl.1 rfl (Nat.le_of_ble_eq_true rfl) d_DC_told_60 (fun H locs hP hD hS => ?_)
    have hP : va_P D classes (w_DC_told cI cJ qX qRc qFo qSd qRw qSh X_words X_mixer X_coder Rc_shape Rc_words Rc_mixer Rc_nearest Rc_bytes Rc_facts Rc_putRight Rc_lastOfChannel Rc_lastMaster Fo_cells Sd_shape Sd_words Sd_mixer Sd_bytes Sd_channelCounts Sd_masterCount Sd_craft Rw_cells Sh_pattern Rc_differing Rc_taken Fo_length Sd_dataCount Rw_length Sh_depth Sh_wordBytes Sh_e) H := hP.sub [0, 1, 2, 3, 4, 5] rfl
    have hD : va_D A (w_DC_told cI cJ qX qRc qFo qSd qRw qSh X_words X_mixer X_coder Rc_shape Rc_words Rc_mixer Rc_nearest Rc_bytes Rc_facts Rc_putRight Rc_lastOfChannel Rc_lastMaster Fo_cells Sd_shape Sd_words Sd_mixer Sd_bytes Sd_channelCounts Sd_masterCount Sd_craft Rw_cells Sh_pattern Rc_differing Rc_taken Fo_length Sd_dataCount Rw_length Sh_depth Sh_wordBytes Sh_e) := hD.sub [0, 1, 2, 3, 4, 5] (by decide) rfl
    cases hm
    exact z_qo hQ (z_ireti hr hx hb hlocks hK hP hD hS d_DC_told_63)
  refine z_sp hm (fun e2 hm => z_swin (tgt := 64) (off := 63) e2 hx hb d_DC_told_1 (by decide) (by decide) (by decide) (by decide) ?_) (fun e2 hm => ?_)
  · refine lv_aload_n hx hb d_DC_told_64 rfl (lv_at hl 0 rfl) ?_
    refine va_get (D := D) (ci := 10) (v := .ref qSh) (C := "DeepChannel") (T := fT_DC) (N := 7) hx hb hts u_DC hown hK hP 0 rfl rfl 0 (by decide) (hts _ k_341) (fun _ h9 => h9) rfl d_DC_told_65 ?_
    obtain ⟨r5, hu, hm⟩ := bd_el hm
    replace hm := nm_1 hm
    refine z_cVi (wc := w_Shape_blockBytes cI cJ qSh (.int Sh_e) Sh_pattern Sh_depth Sh_wordBytes) (wc' := w_Shape_blockBytes cI cJ qSh (.int Sh_e) Sh_pattern Sh_depth Sh_wordBytes) (wr := [(qX, .inr (10, [.ref qSh, X_words, X_mixer, .ref qRw, X_coder, .ref qSd, .ref qRc])), (qRc, .inr (6, [Rc_shape, Rc_words, Rc_mixer, Rc_nearest, .ref qFo, Rc_bytes, Rc_facts, Rc_putRight, Rc_lastOfChannel, Rc_lastMaster, .int Rc_differing, .int Rc_taken])), (qFo, .inr (0, [Fo_cells, .int Fo_length])), (qSd, .inr (7, [Sd_shape, Sd_words, Sd_mixer, Sd_bytes, Sd_channelCounts, Sd_masterCount, Sd_craft, .int Sd_dataCount])), (qRw, .inr (0, [Rw_cells, .int Rw_length]))]) (As := []) (rest := []) (c_Shape_blockBytes l D cI cJ tt qSh (.int Sh_e) Sh_pattern _ Sh_depth Sh_wordBytes r5 hu) F ok_Shape_blockBytes rfl k_526 hK hE hP hD hS hA [5] [0, 1, 2, 3, 4] rfl rfl (by decide) (by decide) (by decide) 0 rfl rfl rfl ⟨rfl, rfl, Nat.le_of_ble_eq_true rfl, Nat.le_of_ble_eq_true rfl⟩ ⟨Nat.zero_le _, Nat.zero_le _⟩ rfl hl.1 rfl (Nat.le_of_ble_eq_true rfl) d_DC_told_68 (fun H locs hP hD hS => ?_)
    have hP : va_P D classes (w_DC_told cI cJ qX qRc qFo qSd qRw qSh X_words X_mixer X_coder Rc_shape Rc_words Rc_mixer Rc_nearest Rc_bytes Rc_facts Rc_putRight Rc_lastOfChannel Rc_lastMaster Fo_cells Sd_shape Sd_words Sd_mixer Sd_bytes Sd_channelCounts Sd_masterCount Sd_craft Rw_cells Sh_pattern Rc_differing Rc_taken Fo_length Sd_dataCount Rw_length Sh_depth Sh_wordBytes Sh_e) H := hP.sub [0, 1, 2, 3, 4, 5] rfl
    have hD : va_D A (w_DC_told cI cJ qX qRc qFo qSd qRw qSh X_words X_mixer X_coder Rc_shape Rc_words Rc_mixer Rc_nearest Rc_bytes Rc_facts Rc_putRight Rc_lastOfChannel Rc_lastMaster Fo_cells Sd_shape Sd_words Sd_mixer Sd_bytes Sd_channelCounts Sd_masterCount Sd_craft Rw_cells Sh_pattern Rc_differing Rc_taken Fo_length Sd_dataCount Rw_length Sh_depth Sh_wordBytes Sh_e) := hD.sub [0, 1, 2, 3, 4, 5] (by decide) rfl
    cases hm
    exact z_qo hQ (z_ireti hr hx hb hlocks hK hP hD hS d_DC_told_71)
  refine z_sp hm (fun e3 hm => z_swin (tgt := 72) (off := 71) e3 hx hb d_DC_told_1 (by decide) (by decide) (by decide) (by decide) ?_) (fun e3 hm => ?_)
  · refine lv_aload_n hx hb d_DC_told_72 rfl (lv_at hl 0 rfl) ?_
    refine va_get (D := D) (ci := 10) (v := .ref qRw) (C := "DeepChannel") (T := fT_DC) (N := 7) hx hb hts u_DC hown hK hP 0 rfl rfl 3 (by decide) (hts _ k_344) (fun _ h9 => h9) rfl d_DC_told_73 ?_
    obtain ⟨r7, hu, hm⟩ := bd_el hm
    replace hm := nm_1 hm
    refine z_cVi (wc := w_BitRow_size cI cJ qRw Rw_cells Rw_length) (wc' := w_BitRow_size cI cJ qRw Rw_cells Rw_length) (wr := [(qX, .inr (10, [.ref qSh, X_words, X_mixer, .ref qRw, X_coder, .ref qSd, .ref qRc])), (qRc, .inr (6, [Rc_shape, Rc_words, Rc_mixer, Rc_nearest, .ref qFo, Rc_bytes, Rc_facts, Rc_putRight, Rc_lastOfChannel, Rc_lastMaster, .int Rc_differing, .int Rc_taken])), (qFo, .inr (0, [Fo_cells, .int Fo_length])), (qSd, .inr (7, [Sd_shape, Sd_words, Sd_mixer, Sd_bytes, Sd_channelCounts, Sd_masterCount, Sd_craft, .int Sd_dataCount])), (qSh, .inr (8, [.int Sh_depth, .int Sh_wordBytes, .int Sh_e, Sh_pattern]))]) (As := []) (rest := []) (c_BitRow_size l D cI cJ tt qRw Rw_cells _ Rw_length r7 hu) F ok_BitRow_size rfl k_530 hK hE hP hD hS hA [4] [0, 1, 2, 3, 5] rfl rfl (by decide) (by decide) (by decide) 0 rfl rfl rfl ⟨rfl, rfl, Nat.le_of_ble_eq_true rfl, Nat.le_of_ble_eq_true rfl⟩ ⟨Nat.zero_le _, Nat.zero_le _⟩ rfl hl.1 rfl (Nat.le_of_ble_eq_true rfl) d_DC_told_76 (fun H locs hP hD hS => ?_)
    have hP : va_P D classes (w_DC_told cI cJ qX qRc qFo qSd qRw qSh X_words X_mixer X_coder Rc_shape Rc_words Rc_mixer Rc_nearest Rc_bytes Rc_facts Rc_putRight Rc_lastOfChannel Rc_lastMaster Fo_cells Sd_shape Sd_words Sd_mixer Sd_bytes Sd_channelCounts Sd_masterCount Sd_craft Rw_cells Sh_pattern Rc_differing Rc_taken Fo_length Sd_dataCount Rw_length Sh_depth Sh_wordBytes Sh_e) H := hP.sub [0, 1, 2, 3, 5, 4] rfl
    have hD : va_D A (w_DC_told cI cJ qX qRc qFo qSd qRw qSh X_words X_mixer X_coder Rc_shape Rc_words Rc_mixer Rc_nearest Rc_bytes Rc_facts Rc_putRight Rc_lastOfChannel Rc_lastMaster Fo_cells Sd_shape Sd_words Sd_mixer Sd_bytes Sd_channelCounts Sd_masterCount Sd_craft Rw_cells Sh_pattern Rc_differing Rc_taken Fo_length Sd_dataCount Rw_length Sh_depth Sh_wordBytes Sh_e) := hD.sub [0, 1, 2, 3, 5, 4] (by decide) rfl
    cases hm
    exact z_qo hQ (z_ireti hr hx hb hlocks hK hP hD hS d_DC_told_79)
  refine z_sp hm (fun e4 hm => z_swin (tgt := 80) (off := 79) e4 hx hb d_DC_told_1 (by decide) (by decide) (by decide) (by decide) ?_) (fun e4 hm => ?_)
  · refine lv_aload_n hx hb d_DC_told_80 rfl (lv_at hl 0 rfl) ?_
    refine va_get (D := D) (ci := 10) (v := .ref qSd) (C := "DeepChannel") (T := fT_DC) (N := 7) hx hb hts u_DC hown hK hP 0 rfl rfl 5 (by decide) (hts _ k_346) (fun _ h9 => h9) rfl d_DC_told_81 ?_
    obtain ⟨r9, hu, hm⟩ := bd_el hm
    replace hm := nm_1 hm
    refine z_cVi (wc := w_Sender_waiting cI cJ qSd Sd_shape Sd_words Sd_mixer Sd_bytes Sd_channelCounts Sd_masterCount Sd_craft Sd_dataCount) (wc' := w_Sender_waiting cI cJ qSd Sd_shape Sd_words Sd_mixer Sd_bytes Sd_channelCounts Sd_masterCount Sd_craft Sd_dataCount) (wr := [(qX, .inr (10, [.ref qSh, X_words, X_mixer, .ref qRw, X_coder, .ref qSd, .ref qRc])), (qRc, .inr (6, [Rc_shape, Rc_words, Rc_mixer, Rc_nearest, .ref qFo, Rc_bytes, Rc_facts, Rc_putRight, Rc_lastOfChannel, Rc_lastMaster, .int Rc_differing, .int Rc_taken])), (qFo, .inr (0, [Fo_cells, .int Fo_length])), (qRw, .inr (0, [Rw_cells, .int Rw_length])), (qSh, .inr (8, [.int Sh_depth, .int Sh_wordBytes, .int Sh_e, Sh_pattern]))]) (As := []) (rest := []) (c_Sender_waiting l D cI cJ tt qSd Sd_shape Sd_words Sd_mixer Sd_bytes Sd_channelCounts Sd_masterCount Sd_craft _ Sd_dataCount r9 hu) F ok_Sender_waiting rfl k_534 hK hE hP hD hS hA [3] [0, 1, 2, 4, 5] rfl rfl (by decide) (by decide) (by decide) 0 rfl rfl rfl ⟨rfl, rfl, Nat.le_of_ble_eq_true rfl, Nat.le_of_ble_eq_true rfl⟩ ⟨Nat.zero_le _, Nat.zero_le _⟩ rfl hl.1 rfl (Nat.le_of_ble_eq_true rfl) d_DC_told_84 (fun H locs hP hD hS => ?_)
    have hP : va_P D classes (w_DC_told cI cJ qX qRc qFo qSd qRw qSh X_words X_mixer X_coder Rc_shape Rc_words Rc_mixer Rc_nearest Rc_bytes Rc_facts Rc_putRight Rc_lastOfChannel Rc_lastMaster Fo_cells Sd_shape Sd_words Sd_mixer Sd_bytes Sd_channelCounts Sd_masterCount Sd_craft Rw_cells Sh_pattern Rc_differing Rc_taken Fo_length Sd_dataCount Rw_length Sh_depth Sh_wordBytes Sh_e) H := hP.sub [0, 1, 2, 5, 3, 4] rfl
    have hD : va_D A (w_DC_told cI cJ qX qRc qFo qSd qRw qSh X_words X_mixer X_coder Rc_shape Rc_words Rc_mixer Rc_nearest Rc_bytes Rc_facts Rc_putRight Rc_lastOfChannel Rc_lastMaster Fo_cells Sd_shape Sd_words Sd_mixer Sd_bytes Sd_channelCounts Sd_masterCount Sd_craft Rw_cells Sh_pattern Rc_differing Rc_taken Fo_length Sd_dataCount Rw_length Sh_depth Sh_wordBytes Sh_e) := hD.sub [0, 1, 2, 5, 3, 4] (by decide) rfl
    cases hm
    exact z_qo hQ (z_ireti hr hx hb hlocks hK hP hD hS d_DC_told_87)
  refine z_sp hm (fun e5 hm => z_swin (tgt := 88) (off := 87) e5 hx hb d_DC_told_1 (by decide) (by decide) (by decide) (by decide) ?_) (fun e5 hm => ?_)
  · refine lv_aload_n hx hb d_DC_told_88 rfl (lv_at hl 0 rfl) ?_
    refine va_get (D := D) (ci := 10) (v := .ref qRc) (C := "DeepChannel") (T := fT_DC) (N := 7) hx hb hts u_DC hown hK hP 0 rfl rfl 6 (by decide) (hts _ k_347) (fun _ h9 => h9) rfl d_DC_told_89 ?_
    obtain ⟨r11, hu, hm⟩ := bd_el hm
    replace hm := nm_1 hm
    refine z_cVi (wc := w_Receiver_bitsDecoded cI cJ qRc qFo Rc_shape Rc_words Rc_mixer Rc_nearest Rc_bytes Rc_facts Rc_putRight Rc_lastOfChannel Rc_lastMaster (.int Rc_differing) (.int Rc_taken) Fo_cells Fo_length) (wc' := w_Receiver_bitsDecoded cI cJ qRc qFo Rc_shape Rc_words Rc_mixer Rc_nearest Rc_bytes Rc_facts Rc_putRight Rc_lastOfChannel Rc_lastMaster (.int Rc_differing) (.int Rc_taken) Fo_cells Fo_length) (wr := [(qX, .inr (10, [.ref qSh, X_words, X_mixer, .ref qRw, X_coder, .ref qSd, .ref qRc])), (qSd, .inr (7, [Sd_shape, Sd_words, Sd_mixer, Sd_bytes, Sd_channelCounts, Sd_masterCount, Sd_craft, .int Sd_dataCount])), (qRw, .inr (0, [Rw_cells, .int Rw_length])), (qSh, .inr (8, [.int Sh_depth, .int Sh_wordBytes, .int Sh_e, Sh_pattern]))]) (As := []) (rest := []) (c_Receiver_bitsDecoded l D cI cJ tt qRc qFo Rc_shape Rc_words Rc_mixer Rc_nearest Rc_bytes Rc_facts Rc_putRight Rc_lastOfChannel Rc_lastMaster (.int Rc_differing) (.int Rc_taken) Fo_cells _ Fo_length r11 hu) F ok_Receiver_bitsDecoded rfl k_538 hK hE hP hD hS hA [1, 2] [0, 3, 4, 5] rfl rfl (by decide) (by decide) (by decide) 0 rfl rfl rfl ⟨rfl, rfl, Nat.le_of_ble_eq_true rfl, Nat.le_of_ble_eq_true rfl⟩ ⟨Nat.zero_le _, Nat.zero_le _⟩ rfl hl.1 rfl (Nat.le_of_ble_eq_true rfl) d_DC_told_92 (fun H locs hP hD hS => ?_)
    have hP : va_P D classes (w_DC_told cI cJ qX qRc qFo qSd qRw qSh X_words X_mixer X_coder Rc_shape Rc_words Rc_mixer Rc_nearest Rc_bytes Rc_facts Rc_putRight Rc_lastOfChannel Rc_lastMaster Fo_cells Sd_shape Sd_words Sd_mixer Sd_bytes Sd_channelCounts Sd_masterCount Sd_craft Rw_cells Sh_pattern Rc_differing Rc_taken Fo_length Sd_dataCount Rw_length Sh_depth Sh_wordBytes Sh_e) H := hP.sub [0, 4, 5, 1, 2, 3] rfl
    have hD : va_D A (w_DC_told cI cJ qX qRc qFo qSd qRw qSh X_words X_mixer X_coder Rc_shape Rc_words Rc_mixer Rc_nearest Rc_bytes Rc_facts Rc_putRight Rc_lastOfChannel Rc_lastMaster Fo_cells Sd_shape Sd_words Sd_mixer Sd_bytes Sd_channelCounts Sd_masterCount Sd_craft Rw_cells Sh_pattern Rc_differing Rc_taken Fo_length Sd_dataCount Rw_length Sh_depth Sh_wordBytes Sh_e) := hD.sub [0, 4, 5, 1, 2, 3] (by decide) rfl
    cases hm
    exact z_qo hQ (z_ireti hr hx hb hlocks hK hP hD hS d_DC_told_95)
  refine z_sp hm (fun e6 hm => z_swin (tgt := 96) (off := 95) e6 hx hb d_DC_told_1 (by decide) (by decide) (by decide) (by decide) ?_) (fun e6 hm => ?_)
  · refine lv_aload_n hx hb d_DC_told_96 rfl (lv_at hl 0 rfl) ?_
    refine va_get (D := D) (ci := 10) (v := .ref qRc) (C := "DeepChannel") (T := fT_DC) (N := 7) hx hb hts u_DC hown hK hP 0 rfl rfl 6 (by decide) (hts _ k_347) (fun _ h9 => h9) rfl d_DC_told_97 ?_
    obtain ⟨r13, hu, hm⟩ := bd_el hm
    replace hm := nm_1 hm
    refine z_cVi (wc := w_Receiver_bitsDiffering cI cJ qRc Rc_shape Rc_words Rc_mixer Rc_nearest (.ref qFo) Rc_bytes Rc_facts Rc_putRight Rc_lastOfChannel Rc_lastMaster (.int Rc_taken) Rc_differing) (wc' := w_Receiver_bitsDiffering cI cJ qRc Rc_shape Rc_words Rc_mixer Rc_nearest (.ref qFo) Rc_bytes Rc_facts Rc_putRight Rc_lastOfChannel Rc_lastMaster (.int Rc_taken) Rc_differing) (wr := [(qX, .inr (10, [.ref qSh, X_words, X_mixer, .ref qRw, X_coder, .ref qSd, .ref qRc])), (qFo, .inr (0, [Fo_cells, .int Fo_length])), (qSd, .inr (7, [Sd_shape, Sd_words, Sd_mixer, Sd_bytes, Sd_channelCounts, Sd_masterCount, Sd_craft, .int Sd_dataCount])), (qRw, .inr (0, [Rw_cells, .int Rw_length])), (qSh, .inr (8, [.int Sh_depth, .int Sh_wordBytes, .int Sh_e, Sh_pattern]))]) (As := []) (rest := []) (c_Receiver_bitsDiffering l D cI cJ tt qRc Rc_shape Rc_words Rc_mixer Rc_nearest (.ref qFo) Rc_bytes Rc_facts Rc_putRight Rc_lastOfChannel Rc_lastMaster (.int Rc_taken) _ Rc_differing r13 hu) F ok_Receiver_bitsDiffering rfl k_543 hK hE hP hD hS hA [1] [0, 2, 3, 4, 5] rfl rfl (by decide) (by decide) (by decide) 0 rfl rfl rfl ⟨rfl, rfl, Nat.le_of_ble_eq_true rfl, Nat.le_of_ble_eq_true rfl⟩ ⟨Nat.zero_le _, Nat.zero_le _⟩ rfl hl.1 rfl (Nat.le_of_ble_eq_true rfl) d_DC_told_100 (fun H locs hP hD hS => ?_)
    have hP : va_P D classes (w_DC_told cI cJ qX qRc qFo qSd qRw qSh X_words X_mixer X_coder Rc_shape Rc_words Rc_mixer Rc_nearest Rc_bytes Rc_facts Rc_putRight Rc_lastOfChannel Rc_lastMaster Fo_cells Sd_shape Sd_words Sd_mixer Sd_bytes Sd_channelCounts Sd_masterCount Sd_craft Rw_cells Sh_pattern Rc_differing Rc_taken Fo_length Sd_dataCount Rw_length Sh_depth Sh_wordBytes Sh_e) H := hP.sub [0, 5, 1, 2, 3, 4] rfl
    have hD : va_D A (w_DC_told cI cJ qX qRc qFo qSd qRw qSh X_words X_mixer X_coder Rc_shape Rc_words Rc_mixer Rc_nearest Rc_bytes Rc_facts Rc_putRight Rc_lastOfChannel Rc_lastMaster Fo_cells Sd_shape Sd_words Sd_mixer Sd_bytes Sd_channelCounts Sd_masterCount Sd_craft Rw_cells Sh_pattern Rc_differing Rc_taken Fo_length Sd_dataCount Rw_length Sh_depth Sh_wordBytes Sh_e) := hD.sub [0, 5, 1, 2, 3, 4] (by decide) rfl
    cases hm
    exact z_qo hQ (z_ireti hr hx hb hlocks hK hP hD hS d_DC_told_103)
  refine z_sp hm (fun e7 hm => z_swin (tgt := 104) (off := 103) e7 hx hb d_DC_told_1 (by decide) (by decide) (by decide) (by decide) ?_) (fun e7 hm => ?_)
  · refine lv_aload_n hx hb d_DC_told_104 rfl (lv_at hl 0 rfl) ?_
    refine va_get (D := D) (ci := 10) (v := .ref qRc) (C := "DeepChannel") (T := fT_DC) (N := 7) hx hb hts u_DC hown hK hP 0 rfl rfl 6 (by decide) (hts _ k_347) (fun _ h9 => h9) rfl d_DC_told_105 ?_
    obtain ⟨r15, hu, hm⟩ := bd_el hm
    replace hm := nm_1 hm
    refine z_cVi (wc := w_Receiver_blocksTaken cI cJ qRc Rc_shape Rc_words Rc_mixer Rc_nearest (.ref qFo) Rc_bytes Rc_facts Rc_putRight Rc_lastOfChannel Rc_lastMaster (.int Rc_differing) Rc_taken) (wc' := w_Receiver_blocksTaken cI cJ qRc Rc_shape Rc_words Rc_mixer Rc_nearest (.ref qFo) Rc_bytes Rc_facts Rc_putRight Rc_lastOfChannel Rc_lastMaster (.int Rc_differing) Rc_taken) (wr := [(qX, .inr (10, [.ref qSh, X_words, X_mixer, .ref qRw, X_coder, .ref qSd, .ref qRc])), (qFo, .inr (0, [Fo_cells, .int Fo_length])), (qSd, .inr (7, [Sd_shape, Sd_words, Sd_mixer, Sd_bytes, Sd_channelCounts, Sd_masterCount, Sd_craft, .int Sd_dataCount])), (qRw, .inr (0, [Rw_cells, .int Rw_length])), (qSh, .inr (8, [.int Sh_depth, .int Sh_wordBytes, .int Sh_e, Sh_pattern]))]) (As := []) (rest := []) (c_Receiver_blocksTaken l D cI cJ tt qRc Rc_shape Rc_words Rc_mixer Rc_nearest (.ref qFo) Rc_bytes Rc_facts Rc_putRight Rc_lastOfChannel Rc_lastMaster (.int Rc_differing) _ Rc_taken r15 hu) F ok_Receiver_blocksTaken rfl k_547 hK hE hP hD hS hA [1] [0, 2, 3, 4, 5] rfl rfl (by decide) (by decide) (by decide) 0 rfl rfl rfl ⟨rfl, rfl, Nat.le_of_ble_eq_true rfl, Nat.le_of_ble_eq_true rfl⟩ ⟨Nat.zero_le _, Nat.zero_le _⟩ rfl hl.1 rfl (Nat.le_of_ble_eq_true rfl) d_DC_told_108 (fun H locs hP hD hS => ?_)
    have hP : va_P D classes (w_DC_told cI cJ qX qRc qFo qSd qRw qSh X_words X_mixer X_coder Rc_shape Rc_words Rc_mixer Rc_nearest Rc_bytes Rc_facts Rc_putRight Rc_lastOfChannel Rc_lastMaster Fo_cells Sd_shape Sd_words Sd_mixer Sd_bytes Sd_channelCounts Sd_masterCount Sd_craft Rw_cells Sh_pattern Rc_differing Rc_taken Fo_length Sd_dataCount Rw_length Sh_depth Sh_wordBytes Sh_e) H := hP.sub [0, 5, 1, 2, 3, 4] rfl
    have hD : va_D A (w_DC_told cI cJ qX qRc qFo qSd qRw qSh X_words X_mixer X_coder Rc_shape Rc_words Rc_mixer Rc_nearest Rc_bytes Rc_facts Rc_putRight Rc_lastOfChannel Rc_lastMaster Fo_cells Sd_shape Sd_words Sd_mixer Sd_bytes Sd_channelCounts Sd_masterCount Sd_craft Rw_cells Sh_pattern Rc_differing Rc_taken Fo_length Sd_dataCount Rw_length Sh_depth Sh_wordBytes Sh_e) := hD.sub [0, 5, 1, 2, 3, 4] (by decide) rfl
    cases hm
    exact z_qo hQ (z_ireti hr hx hb hlocks hK hP hD hS d_DC_told_111)
  refine z_swout (tgt := 112) (z_swl [(0 : Int32), (1 : Int32), (2 : Int32), (3 : Int32), (4 : Int32), (5 : Int32), (6 : Int32), (7 : Int32)] ⟨e0, e1, e2, e3, e4, e5, e6, e7, trivial⟩ (by decide)) (by decide) hx hb d_DC_told_1 (by decide) ?_
  cases hm
-- DeepChannel.data(IJ)I
abbrev b_DC_data : ByteArray := prog_1_method_5_code
abbrev y_DC_data : MethodName := ⟨"DeepChannel", "data", "(IJ)I"⟩
theorem d_DC_data_0 : decode b_DC_data 0 = .ok (.iload_n 1, 1) := by decide +kernel
theorem d_DC_data_1 : decode b_DC_data 1 = .ok (.iconst 1, 1) := by decide +kernel
theorem d_DC_data_2 : decode b_DC_data 2 = .ok (.if_icmp .lt 9, 3) := by decide +kernel
theorem d_DC_data_5 : decode b_DC_data 5 = .ok (.iload_n 1, 1) := by decide +kernel
theorem d_DC_data_6 : decode b_DC_data 6 = .ok (.bipush 8, 2) := by decide +kernel
theorem d_DC_data_8 : decode b_DC_data 8 = .ok (.if_icmp .le 13, 3) := by decide +kernel
theorem d_DC_data_11 : decode b_DC_data 11 = .ok (.new 71, 3) := by decide +kernel
theorem d_DC_data_14 : decode b_DC_data 14 = .ok (.dup, 1) := by decide +kernel
theorem d_DC_data_15 : decode b_DC_data 15 = .ok (.ldc 128, 2) := by decide +kernel
theorem d_DC_data_17 : decode b_DC_data 17 = .ok (.invokespecial 75, 3) := by decide +kernel
theorem d_DC_data_20 : decode b_DC_data 20 = .ok (.athrow, 1) := by decide +kernel
theorem d_DC_data_21 : decode b_DC_data 21 = .ok (.aload_n 0, 1) := by decide +kernel
theorem d_DC_data_22 : decode b_DC_data 22 = .ok (.getfield 56, 3) := by decide +kernel
theorem d_DC_data_25 : decode b_DC_data 25 = .ok (.iload_n 1, 1) := by decide +kernel
theorem d_DC_data_26 : decode b_DC_data 26 = .ok (.lload_n 2, 1) := by decide +kernel
theorem d_DC_data_27 : decode b_DC_data 27 = .ok (.invokevirtual 130, 3) := by decide +kernel
theorem d_DC_data_30 : decode b_DC_data 30 = .ok (.ifCond .eq 13, 3) := by decide +kernel
theorem d_DC_data_33 : decode b_DC_data 33 = .ok (.aload_n 0, 1) := by decide +kernel
theorem d_DC_data_34 : decode b_DC_data 34 = .ok (.getfield 56, 3) := by decide +kernel
theorem d_DC_data_37 : decode b_DC_data 37 = .ok (.invokevirtual 114, 3) := by decide +kernel
theorem d_DC_data_40 : decode b_DC_data 40 = .ok (.goto 4, 3) := by decide +kernel
theorem d_DC_data_43 : decode b_DC_data 43 = .ok (.iconst (-1), 1) := by decide +kernel
theorem d_DC_data_44 : decode b_DC_data 44 = .ok (.ireturn, 1) := by decide +kernel
theorem ok_DC_data : OKv y_DC_data b_DC_data 4 (some .int) "DeepChannel" 2 := ⟨k_558, k_556, k_557, k_42, by decide +kernel, by decide +kernel, by decide +kernel⟩
abbrev w_DC_data (cI cJ : ClassId) (qX qSd qSh qSd_bytes : Nat) (X_shape X_words X_mixer X_row X_coder X_receiver Sd_words Sd_mixer Sd_channelCounts Sd_masterCount Sd_craft Sh_pattern : Value) (Sd_dataCount : Int32) (Sh_depth : Int32) (Sh_wordBytes : Int32) (Sh_e : Int32) (Sd_bytes : Nat → Int32) : va_W := [(qX, .inr (10, [X_shape, X_words, X_mixer, X_row, X_coder, .ref qSd, X_receiver])), (qSd, .inr (7, [.ref qSh, Sd_words, Sd_mixer, .ref qSd_bytes, Sd_channelCounts, Sd_masterCount, Sd_craft, .int Sd_dataCount])), (qSh, .inr (8, [.int Sh_depth, .int Sh_wordBytes, .int Sh_e, Sh_pattern])), (qSd_bytes, .inl (cI, 250, .inl Sd_bytes))]
def f_DC_data_11  (Sd_dataCount : Int32) (Sd_bytes : Nat → Int32) : Option (Int32 × Int32 × (Nat → Int32)) :=
  none
def f_DC_data (Sd_dataCount : Int32) (Sh_depth : Int32) (Sh_wordBytes : Int32) (Sh_e : Int32) (Sd_bytes : Nat → Int32) (x1 : Int32) (x2 : Int64) : Option (Int32 × Int32 × (Nat → Int32)) :=
  if x1 < (1 : Int32) then
    f_DC_data_11 Sd_dataCount Sd_bytes
  else
  if x1 ≤ (8 : Int32) then
    bd (f_Sender_addData Sd_dataCount Sh_depth Sh_wordBytes Sh_e Sd_bytes x1 x2) fun u4 =>
    nm u4.1 fun r1 =>
    nm u4.2.1 fun v2 =>
    nm u4.2.2 fun g3 =>
    if r1 = 0 then
      some ((-1 : Int32), v2, g3)
    else
    bd (f_Sender_waiting v2) fun u6 =>
    nm u6 fun r5 =>
    some (r5, v2, g3)
  else
  f_DC_data_11 Sd_dataCount Sd_bytes
set_option maxHeartbeats 4000000 in
set_option maxRecDepth 100000 in
theorem c_DC_data (l : Launch) (D : va_G) (cI cJ : ClassId) (tt : Nat → Nat) (qX qSd qSh qSd_bytes : Nat) (X_shape X_words X_mixer X_row X_coder X_receiver Sd_words Sd_mixer Sd_channelCounts Sd_masterCount Sd_craft Sh_pattern : Value) (sz : Nat) (Sd_dataCount : Int32) (Sh_depth : Int32) (Sh_wordBytes : Int32) (Sh_e : Int32) (Sd_bytes : Nat → Int32) (x1 : Int32) (x2 : Int64) (rr : Int32) (Sd_dataCount' : Int32) (Sd_bytes' : Nat → Int32) (hm : f_DC_data Sd_dataCount Sh_depth Sh_wordBytes Sh_e Sd_bytes x1 x2 = some (rr, Sd_dataCount', Sd_bytes')) : CTi l y_DC_data b_DC_data 4 (some .int) (RM 3 64) D cI cJ tt [.ref qX, .int x1, .long x2] (w_DC_data cI cJ qX qSd qSh qSd_bytes X_shape X_words X_mixer X_row X_coder X_receiver Sd_words Sd_mixer Sd_channelCounts Sd_masterCount Sd_craft Sh_pattern Sd_dataCount Sh_depth Sh_wordBytes Sh_e Sd_bytes) (w_DC_data cI cJ qX qSd qSh qSd_bytes X_shape X_words X_mixer X_row X_coder X_receiver Sd_words Sd_mixer Sd_channelCounts Sd_masterCount Sd_craft Sh_pattern Sd_dataCount' Sh_depth Sh_wordBytes Sh_e Sd_bytes') sz rr := by
  refine Met.ofW (cc := b_DC_data) (maxL := 4) (ret := (some .int)) (by decide) rfl ?_
  intro p e s m args below meth c s₁ B hml hv
  obtain ⟨hargs, hsz, hP, hK, hD0, hE⟩ := hv
  have hx := B.exec
  have hb := B.bytes
  have hr := B.returns
  have hts : ∀ w ∈ TB, w.before args s = true := z_mV s (atoms_spec (ws := WD y_DC_data b_DC_data 4 (some .int)) B.pre)
  have hown : s.vm.findClass "DeepChannel" = some m.cls := findClass_of_methodNamed B.named
  have hlocks := B.notSynchronized
  subst hsz
  have hD := hD0.self (sz := s.heap.size)
  generalize hAe : va_A (w_DC_data cI cJ qX qSd qSh qSd_bytes X_shape X_words X_mixer X_row X_coder X_receiver Sd_words Sd_mixer Sd_channelCounts Sd_masterCount Sd_craft Sh_pattern Sd_dataCount Sh_depth Sh_wordBytes Sh_e Sd_bytes) s.heap.size = A at hD hE ⊢
  have hA : ∀ q : Nat, s.heap.size ≤ q → A q := fun q h => by rw [← hAe]; exact Or.inr h
  have hS : va_S A s.heap s.heap [] := va_S.rf
  refine z_entry (vs := [.ref qX, .int x1, .long x2]) hargs (Nat.le_of_ble_eq_true rfl) (fun ls hl => ?_)
  have hl : lv_has ls 4 [(0, .ref qX), (1, .int x1), (2, .long x2)] := hl
  show W p l e (RM 3 64) s m args below meth c s.heap [] 0 0 _ _
  refine z_qi (fun Q0 hQ => ?_)
  have F : CallFix p m c b_DC_data 4 s args TB "DeepChannel" := ⟨hx, hb, hml, hown, hts⟩
  have T11 : ∀ (Sd_dataCount : Int32) (Sd_bytes : Nat → Int32), f_DC_data_11 Sd_dataCount Sd_bytes = some (rr, Sd_dataCount', Sd_bytes') → ∀ (H : Heap) (locs : List Loc), va_P D classes (w_DC_data cI cJ qX qSd qSh qSd_bytes X_shape X_words X_mixer X_row X_coder X_receiver Sd_words Sd_mixer Sd_channelCounts Sd_masterCount Sd_craft Sh_pattern Sd_dataCount Sh_depth Sh_wordBytes Sh_e Sd_bytes) H → va_D A (w_DC_data cI cJ qX qSd qSh qSd_bytes X_shape X_words X_mixer X_row X_coder X_receiver Sd_words Sd_mixer Sd_channelCounts Sd_masterCount Sd_craft Sh_pattern Sd_dataCount Sh_depth Sh_wordBytes Sh_e Sd_bytes) → va_S A s.heap H locs → ∀ (ls : Array Slot), lv_has ls 4 [] → W p l e (RM 3 64) s m args below meth c H locs 0 0 Q0 (F0 m 11 ls []) := by
    intro Sd_dataCount Sd_bytes hm H locs hP hD hS ls hl
    unfold f_DC_data_11 at hm
    cases hm
  unfold f_DC_data at hm
  refine lv_iload_n hx hb d_DC_data_0 rfl (lv_at hl 1 rfl) ?_
  refine lv_iconst (v := (1 : Int32)) hx hb d_DC_data_1 (by decide) ?_
  refine z_if hm (lv_icmp_lt (tgt := 11) hx hb d_DC_data_2 (by decide)) (fun hm => ?_) (fun hm => ?_)
  · exact T11 Sd_dataCount Sd_bytes hm _ _ hP hD hS _ (lv_sub hl [] rfl)
  · refine lv_iload_n hx hb d_DC_data_5 rfl (lv_at hl 1 rfl) ?_
    refine lv_bipush (v := (8 : Int32)) hx hb d_DC_data_6 (by decide) ?_
    refine z_if hm (lv_icmp_le (tgt := 21) hx hb d_DC_data_8 (by decide)) (fun hm => ?_) (fun hm => ?_)
    · refine lv_aload_n hx hb d_DC_data_21 rfl (lv_at hl 0 rfl) ?_
      refine va_get (D := D) (ci := 10) (v := .ref qSd) (C := "DeepChannel") (T := fT_DC) (N := 7) hx hb hts u_DC hown hK hP 0 rfl rfl 5 (by decide) (hts _ k_346) (fun _ h9 => h9) rfl d_DC_data_22 ?_
      refine lv_iload_n hx hb d_DC_data_25 rfl (lv_at hl 1 rfl) ?_
      refine lv_lload_n hx hb d_DC_data_26 rfl (lv_at hl 2 rfl) ?_
      obtain ⟨⟨r1, v2, g3⟩, hu, hm⟩ := bd_el hm
      replace hm := nm_3 hm
      refine z_cVi (wc := w_Sender_addData cI cJ qSd qSh qSd_bytes Sd_words Sd_mixer Sd_channelCounts Sd_masterCount Sd_craft Sh_pattern Sd_dataCount Sh_depth Sh_wordBytes Sh_e Sd_bytes) (wc' := w_Sender_addData cI cJ qSd qSh qSd_bytes Sd_words Sd_mixer Sd_channelCounts Sd_masterCount Sd_craft Sh_pattern v2 Sh_depth Sh_wordBytes Sh_e g3) (wr := [(qX, .inr (10, [X_shape, X_words, X_mixer, X_row, X_coder, .ref qSd, X_receiver]))]) (As := [.int x1, .long x2]) (rest := []) (c_Sender_addData l D cI cJ tt qSd qSh qSd_bytes Sd_words Sd_mixer Sd_channelCounts Sd_masterCount Sd_craft Sh_pattern _ Sd_dataCount Sh_depth Sh_wordBytes Sh_e Sd_bytes x1 x2 r1 v2 g3 hu) F ok_Sender_addData rfl k_560 hK hE hP hD hS hA [1, 2, 3] [0] rfl rfl (by decide) (by decide) (by decide) 0 rfl rfl rfl ⟨rfl, rfl, Nat.le_of_ble_eq_true rfl, Nat.le_of_ble_eq_true rfl⟩ ⟨Nat.zero_le _, Nat.zero_le _⟩ rfl hl.1 rfl (Nat.le_of_ble_eq_true rfl) d_DC_data_27 (fun H locs hP hD hS => ?_)
      have hP : va_P D classes (w_DC_data cI cJ qX qSd qSh qSd_bytes X_shape X_words X_mixer X_row X_coder X_receiver Sd_words Sd_mixer Sd_channelCounts Sd_masterCount Sd_craft Sh_pattern v2 Sh_depth Sh_wordBytes Sh_e g3) H := hP.sub [0, 1, 2, 3] rfl
      have hD : va_D A (w_DC_data cI cJ qX qSd qSh qSd_bytes X_shape X_words X_mixer X_row X_coder X_receiver Sd_words Sd_mixer Sd_channelCounts Sd_masterCount Sd_craft Sh_pattern v2 Sh_depth Sh_wordBytes Sh_e g3) := hD.sub [0, 1, 2, 3] (by decide) rfl
      refine z_if hm (lv_if_eq (tgt := 43) hx hb d_DC_data_30 (by decide)) (fun hm => ?_) (fun hm => ?_)
      · refine lv_iconst (v := (-1 : Int32)) hx hb d_DC_data_43 (by decide) ?_
        cases hm
        exact z_qo hQ (z_ireti hr hx hb hlocks hK hP hD hS d_DC_data_44)
      · refine lv_aload_n hx hb d_DC_data_33 rfl (lv_at hl 0 rfl) ?_
        refine va_get (D := D) (ci := 10) (v := .ref qSd) (C := "DeepChannel") (T := fT_DC) (N := 7) hx hb hts u_DC hown hK hP 0 rfl rfl 5 (by decide) (hts _ k_346) (fun _ h9 => h9) rfl d_DC_data_34 ?_
        obtain ⟨r5, hu, hm⟩ := bd_el hm
        replace hm := nm_1 hm
        refine z_cVi (wc := w_Sender_waiting cI cJ qSd (.ref qSh) Sd_words Sd_mixer (.ref qSd_bytes) Sd_channelCounts Sd_masterCount Sd_craft v2) (wc' := w_Sender_waiting cI cJ qSd (.ref qSh) Sd_words Sd_mixer (.ref qSd_bytes) Sd_channelCounts Sd_masterCount Sd_craft v2) (wr := [(qX, .inr (10, [X_shape, X_words, X_mixer, X_row, X_coder, .ref qSd, X_receiver])), (qSh, .inr (8, [.int Sh_depth, .int Sh_wordBytes, .int Sh_e, Sh_pattern])), (qSd_bytes, .inl (cI, 250, .inl g3))]) (As := []) (rest := []) (c_Sender_waiting l D cI cJ tt qSd (.ref qSh) Sd_words Sd_mixer (.ref qSd_bytes) Sd_channelCounts Sd_masterCount Sd_craft _ v2 r5 hu) F ok_Sender_waiting rfl k_534 hK hE hP hD hS hA [1] [0, 2, 3] rfl rfl (by decide) (by decide) (by decide) 0 rfl rfl rfl ⟨rfl, rfl, Nat.le_of_ble_eq_true rfl, Nat.le_of_ble_eq_true rfl⟩ ⟨Nat.zero_le _, Nat.zero_le _⟩ rfl hl.1 rfl (Nat.le_of_ble_eq_true rfl) d_DC_data_37 (fun H locs hP hD hS => ?_)
        have hP : va_P D classes (w_DC_data cI cJ qX qSd qSh qSd_bytes X_shape X_words X_mixer X_row X_coder X_receiver Sd_words Sd_mixer Sd_channelCounts Sd_masterCount Sd_craft Sh_pattern v2 Sh_depth Sh_wordBytes Sh_e g3) H := hP.sub [0, 3, 1, 2] rfl
        have hD : va_D A (w_DC_data cI cJ qX qSd qSh qSd_bytes X_shape X_words X_mixer X_row X_coder X_receiver Sd_words Sd_mixer Sd_channelCounts Sd_masterCount Sd_craft Sh_pattern v2 Sh_depth Sh_wordBytes Sh_e g3) := hD.sub [0, 3, 1, 2] (by decide) rfl
        refine lv_goto (tgt := 44) hx hb d_DC_data_40 (by decide) ?_
        cases hm
        exact z_qo hQ (z_ireti hr hx hb hlocks hK hP hD hS d_DC_data_44)
    · exact T11 Sd_dataCount Sd_bytes hm _ _ hP hD hS _ (lv_sub hl [] rfl)
-- DeepChannel.skip(I)V
abbrev b_DC_skip : ByteArray := prog_1_method_8_code
abbrev y_DC_skip : MethodName := ⟨"DeepChannel", "skip", "(I)V"⟩
theorem d_DC_skip_0 : decode b_DC_skip 0 = .ok (.iload_n 1, 1) := by decide +kernel
theorem d_DC_skip_1 : decode b_DC_skip 1 = .ok (.invokestatic 134, 3) := by decide +kernel
theorem d_DC_skip_4 : decode b_DC_skip 4 = .ok (.ifCond .ne 13, 3) := by decide +kernel
theorem d_DC_skip_7 : decode b_DC_skip 7 = .ok (.new 71, 3) := by decide +kernel
theorem d_DC_skip_10 : decode b_DC_skip 10 = .ok (.dup, 1) := by decide +kernel
theorem d_DC_skip_11 : decode b_DC_skip 11 = .ok (.ldc 138, 2) := by decide +kernel
theorem d_DC_skip_13 : decode b_DC_skip 13 = .ok (.invokespecial 75, 3) := by decide +kernel
theorem d_DC_skip_16 : decode b_DC_skip 16 = .ok (.athrow, 1) := by decide +kernel
theorem d_DC_skip_17 : decode b_DC_skip 17 = .ok (.aload_n 0, 1) := by decide +kernel
theorem d_DC_skip_18 : decode b_DC_skip 18 = .ok (.getfield 56, 3) := by decide +kernel
theorem d_DC_skip_21 : decode b_DC_skip 21 = .ok (.iload_n 1, 1) := by decide +kernel
theorem d_DC_skip_22 : decode b_DC_skip 22 = .ok (.invokevirtual 158, 3) := by decide +kernel
theorem d_DC_skip_25 : decode b_DC_skip 25 = .ok (.return_, 1) := by decide +kernel
theorem ok_DC_skip : OKv y_DC_skip b_DC_skip 2 none "DeepChannel" 1 := ⟨k_674, k_672, k_673, k_42, by decide +kernel, by decide +kernel, by decide +kernel⟩
abbrev w_DC_skip (cI cJ : ClassId) (qX qSd qSd_channelCounts : Nat) (X_shape X_words X_mixer X_row X_coder X_receiver Sd_shape Sd_words Sd_mixer Sd_bytes Sd_craft Sd_dataCount : Value) (Sd_masterCount : Int32) (Sd_channelCounts : Nat → Int32) : va_W := [(qX, .inr (10, [X_shape, X_words, X_mixer, X_row, X_coder, .ref qSd, X_receiver])), (qSd, .inr (7, [Sd_shape, Sd_words, Sd_mixer, Sd_bytes, .ref qSd_channelCounts, .int Sd_masterCount, Sd_craft, Sd_dataCount])), (qSd_channelCounts, .inl (cI, 8, .inl Sd_channelCounts))]
def f_DC_skip (Sd_masterCount : Int32) (Sd_channelCounts : Nat → Int32) (x1 : Int32) : Option (Int32 × (Nat → Int32)) :=
  bd (f_DC_isChannel x1) fun u2 =>
  nm u2 fun r1 =>
  if r1 = 0 then
    none
  else
  bd (f_Sender_countFrame Sd_masterCount Sd_channelCounts x1) fun u5 =>
  nm u5.1 fun v3 =>
  nm u5.2 fun g4 =>
  some (v3, g4)
set_option maxHeartbeats 4000000 in
set_option maxRecDepth 100000 in
theorem c_DC_skip (l : Launch) (D : va_G) (cI cJ : ClassId) (tt : Nat → Nat) (qX qSd qSd_channelCounts : Nat) (X_shape X_words X_mixer X_row X_coder X_receiver Sd_shape Sd_words Sd_mixer Sd_bytes Sd_craft Sd_dataCount : Value) (sz : Nat) (Sd_masterCount : Int32) (Sd_channelCounts : Nat → Int32) (x1 : Int32) (Sd_masterCount' : Int32) (Sd_channelCounts' : Nat → Int32) (hm : f_DC_skip Sd_masterCount Sd_channelCounts x1 = some (Sd_masterCount', Sd_channelCounts')) : CTv l y_DC_skip b_DC_skip 2 none (RM 1 21) D cI cJ tt [.ref qX, .int x1] (w_DC_skip cI cJ qX qSd qSd_channelCounts X_shape X_words X_mixer X_row X_coder X_receiver Sd_shape Sd_words Sd_mixer Sd_bytes Sd_craft Sd_dataCount Sd_masterCount Sd_channelCounts) (w_DC_skip cI cJ qX qSd qSd_channelCounts X_shape X_words X_mixer X_row X_coder X_receiver Sd_shape Sd_words Sd_mixer Sd_bytes Sd_craft Sd_dataCount Sd_masterCount' Sd_channelCounts') sz := by
  refine Met.ofW (cc := b_DC_skip) (maxL := 2) (ret := none) (by decide) rfl ?_
  intro p e s m args below meth c s₁ B hml hv
  obtain ⟨hargs, hsz, hP, hK, hD0, hE⟩ := hv
  have hx := B.exec
  have hb := B.bytes
  have hr := B.returns
  have hts : ∀ w ∈ TB, w.before args s = true := z_mV s (atoms_spec (ws := WD y_DC_skip b_DC_skip 2 none) B.pre)
  have hown : s.vm.findClass "DeepChannel" = some m.cls := findClass_of_methodNamed B.named
  have hlocks := B.notSynchronized
  subst hsz
  have hD := hD0.self (sz := s.heap.size)
  generalize hAe : va_A (w_DC_skip cI cJ qX qSd qSd_channelCounts X_shape X_words X_mixer X_row X_coder X_receiver Sd_shape Sd_words Sd_mixer Sd_bytes Sd_craft Sd_dataCount Sd_masterCount Sd_channelCounts) s.heap.size = A at hD hE ⊢
  have hA : ∀ q : Nat, s.heap.size ≤ q → A q := fun q h => by rw [← hAe]; exact Or.inr h
  have hS : va_S A s.heap s.heap [] := va_S.rf
  refine z_entry (vs := [.ref qX, .int x1]) hargs (Nat.le_of_ble_eq_true rfl) (fun ls hl => ?_)
  have hl : lv_has ls 2 [(0, .ref qX), (1, .int x1)] := hl
  show W p l e (RM 1 21) s m args below meth c s.heap [] 0 0 _ _
  refine z_qi (fun Q0 hQ => ?_)
  have F : CallFix p m c b_DC_skip 2 s args TB "DeepChannel" := ⟨hx, hb, hml, hown, hts⟩
  unfold f_DC_skip at hm
  refine lv_iload_n hx hb d_DC_skip_0 rfl (lv_at hl 1 rfl) ?_
  obtain ⟨r1, hu, hm⟩ := bd_el hm
  replace hm := nm_1 hm
  refine z_cSi (wc := w_DC_isChannel) (wc' := w_DC_isChannel) (wr := [(qX, .inr (10, [X_shape, X_words, X_mixer, X_row, X_coder, .ref qSd, X_receiver])), (qSd, .inr (7, [Sd_shape, Sd_words, Sd_mixer, Sd_bytes, .ref qSd_channelCounts, .int Sd_masterCount, Sd_craft, Sd_dataCount])), (qSd_channelCounts, .inl (cI, 8, .inl Sd_channelCounts))]) (As := [.int x1]) (rest := []) (c_DC_isChannel l D cI cJ tt _ x1 r1 hu) F ok_DC_isChannel k_573 hK hE hP hD hS hA [] [0, 1, 2] rfl rfl (by decide) (by decide) (by decide) ⟨rfl, rfl, Nat.le_of_ble_eq_true rfl, Nat.le_of_ble_eq_true rfl⟩ ⟨Nat.zero_le _, Nat.zero_le _⟩ rfl hl.1 rfl (Nat.le_of_ble_eq_true rfl) d_DC_skip_1 (fun H locs hP hD hS => ?_)
  have hP : va_P D classes (w_DC_skip cI cJ qX qSd qSd_channelCounts X_shape X_words X_mixer X_row X_coder X_receiver Sd_shape Sd_words Sd_mixer Sd_bytes Sd_craft Sd_dataCount Sd_masterCount Sd_channelCounts) H := hP.sub [0, 1, 2] rfl
  have hD : va_D A (w_DC_skip cI cJ qX qSd qSd_channelCounts X_shape X_words X_mixer X_row X_coder X_receiver Sd_shape Sd_words Sd_mixer Sd_bytes Sd_craft Sd_dataCount Sd_masterCount Sd_channelCounts) := hD.sub [0, 1, 2] (by decide) rfl
  refine z_ifn hm (lv_if_ne (tgt := 17) hx hb d_DC_skip_4 (by decide)) (fun hm => ?_) (fun hm => ?_)
  · cases hm
  · refine lv_aload_n hx hb d_DC_skip_17 rfl (lv_at hl 0 rfl) ?_
    refine va_get (D := D) (ci := 10) (v := .ref qSd) (C := "DeepChannel") (T := fT_DC) (N := 7) hx hb hts u_DC hown hK hP 0 rfl rfl 5 (by decide) (hts _ k_346) (fun _ h9 => h9) rfl d_DC_skip_18 ?_
    refine lv_iload_n hx hb d_DC_skip_21 rfl (lv_at hl 1 rfl) ?_
    obtain ⟨⟨v3, g4⟩, hu, hm⟩ := bd_el hm
    replace hm := nm_2 hm
    refine z_cVv (wc := w_Sender_countFrame cI cJ qSd qSd_channelCounts Sd_shape Sd_words Sd_mixer Sd_bytes Sd_craft Sd_dataCount Sd_masterCount Sd_channelCounts) (wc' := w_Sender_countFrame cI cJ qSd qSd_channelCounts Sd_shape Sd_words Sd_mixer Sd_bytes Sd_craft Sd_dataCount v3 g4) (wr := [(qX, .inr (10, [X_shape, X_words, X_mixer, X_row, X_coder, .ref qSd, X_receiver]))]) (As := [.int x1]) (rest := []) (c_Sender_countFrame l D cI cJ tt qSd qSd_channelCounts Sd_shape Sd_words Sd_mixer Sd_bytes Sd_craft Sd_dataCount _ Sd_masterCount Sd_channelCounts x1 v3 g4 hu) F ok_Sender_countFrame rfl k_675 hK hE hP hD hS hA [1, 2] [0] rfl rfl (by decide) (by decide) (by decide) 0 rfl rfl rfl ⟨rfl, rfl, Nat.le_of_ble_eq_true rfl, Nat.le_of_ble_eq_true rfl⟩ ⟨Nat.zero_le _, Nat.zero_le _⟩ rfl hl.1 rfl (Nat.le_of_ble_eq_true rfl) d_DC_skip_22 (fun H locs hP hD hS => ?_)
    have hP : va_P D classes (w_DC_skip cI cJ qX qSd qSd_channelCounts X_shape X_words X_mixer X_row X_coder X_receiver Sd_shape Sd_words Sd_mixer Sd_bytes Sd_craft Sd_dataCount v3 g4) H := hP.sub [0, 1, 2] rfl
    have hD : va_D A (w_DC_skip cI cJ qX qSd qSd_channelCounts X_shape X_words X_mixer X_row X_coder X_receiver Sd_shape Sd_words Sd_mixer Sd_bytes Sd_craft Sd_dataCount v3 g4) := hD.sub [0, 1, 2] (by decide) rfl
    cases hm
    exact z_qo hQ (z_vret hr hx hb hlocks hK hP hD hS d_DC_skip_25)
-- DeepChannel.form(IIII)V
abbrev b_DC_form : ByteArray := prog_1_method_2_code
abbrev y_DC_form : MethodName := ⟨"DeepChannel", "form", "(IIII)V"⟩
theorem d_DC_form_0 : decode b_DC_form 0 = .ok (.iload_n 1, 1) := by decide +kernel
theorem d_DC_form_1 : decode b_DC_form 1 = .ok (.iload_n 2, 1) := by decide +kernel
theorem d_DC_form_2 : decode b_DC_form 2 = .ok (.iload_n 3, 1) := by decide +kernel
theorem d_DC_form_3 : decode b_DC_form 3 = .ok (.iload 4, 2) := by decide +kernel
theorem d_DC_form_5 : decode b_DC_form 5 = .ok (.invokestatic 67, 3) := by decide +kernel
theorem d_DC_form_8 : decode b_DC_form 8 = .ok (.ifCond .ne 13, 3) := by decide +kernel
theorem d_DC_form_11 : decode b_DC_form 11 = .ok (.new 71, 3) := by decide +kernel
theorem d_DC_form_14 : decode b_DC_form 14 = .ok (.dup, 1) := by decide +kernel
theorem d_DC_form_15 : decode b_DC_form 15 = .ok (.ldc 73, 2) := by decide +kernel
theorem d_DC_form_17 : decode b_DC_form 17 = .ok (.invokespecial 75, 3) := by decide +kernel
theorem d_DC_form_20 : decode b_DC_form 20 = .ok (.athrow, 1) := by decide +kernel
theorem d_DC_form_21 : decode b_DC_form 21 = .ok (.aload_n 0, 1) := by decide +kernel
theorem d_DC_form_22 : decode b_DC_form 22 = .ok (.getfield 10, 3) := by decide +kernel
theorem d_DC_form_25 : decode b_DC_form 25 = .ok (.iload_n 1, 1) := by decide +kernel
theorem d_DC_form_26 : decode b_DC_form 26 = .ok (.iload_n 2, 1) := by decide +kernel
theorem d_DC_form_27 : decode b_DC_form 27 = .ok (.iload_n 3, 1) := by decide +kernel
theorem d_DC_form_28 : decode b_DC_form 28 = .ok (.iload 4, 2) := by decide +kernel
theorem d_DC_form_30 : decode b_DC_form 30 = .ok (.invokevirtual 78, 3) := by decide +kernel
theorem d_DC_form_33 : decode b_DC_form 33 = .ok (.aload_n 0, 1) := by decide +kernel
theorem d_DC_form_34 : decode b_DC_form 34 = .ok (.getfield 24, 3) := by decide +kernel
theorem d_DC_form_37 : decode b_DC_form 37 = .ok (.invokevirtual 82, 3) := by decide +kernel
theorem d_DC_form_40 : decode b_DC_form 40 = .ok (.aload_n 0, 1) := by decide +kernel
theorem d_DC_form_41 : decode b_DC_form 41 = .ok (.getfield 38, 3) := by decide +kernel
theorem d_DC_form_44 : decode b_DC_form 44 = .ok (.invokevirtual 85, 3) := by decide +kernel
theorem d_DC_form_47 : decode b_DC_form 47 = .ok (.aload_n 0, 1) := by decide +kernel
theorem d_DC_form_48 : decode b_DC_form 48 = .ok (.getfield 47, 3) := by decide +kernel
theorem d_DC_form_51 : decode b_DC_form 51 = .ok (.invokevirtual 88, 3) := by decide +kernel
theorem d_DC_form_54 : decode b_DC_form 54 = .ok (.aload_n 0, 1) := by decide +kernel
theorem d_DC_form_55 : decode b_DC_form 55 = .ok (.getfield 56, 3) := by decide +kernel
theorem d_DC_form_58 : decode b_DC_form 58 = .ok (.invokevirtual 91, 3) := by decide +kernel
theorem d_DC_form_61 : decode b_DC_form 61 = .ok (.aload_n 0, 1) := by decide +kernel
theorem d_DC_form_62 : decode b_DC_form 62 = .ok (.getfield 63, 3) := by decide +kernel
theorem d_DC_form_65 : decode b_DC_form 65 = .ok (.invokevirtual 92, 3) := by decide +kernel
theorem d_DC_form_68 : decode b_DC_form 68 = .ok (.return_, 1) := by decide +kernel
theorem ok_DC_form : OKv y_DC_form b_DC_form 5 none "DeepChannel" 4 := ⟨k_400, k_398, k_399, k_42, by decide +kernel, by decide +kernel, by decide +kernel⟩
abbrev w_DC_form (cI cJ : ClassId) (qX qSh qWd qWd_generator qFd qFd_powers qFd_logs qRw qRw_cells qCd qSd qSd_channelCounts qRc qFo qFo_cells : Nat) (X_mixer Wd_remainder Wd_coefficients Wd_syndromes Wd_locator Fd_otherForms Fd_elements Cd_shape Cd_row Sd_shape Sd_words Sd_mixer Sd_bytes Sd_craft Rc_shape Rc_words Rc_mixer Rc_nearest Rc_bytes Rc_facts Rc_putRight Rc_lastOfChannel Rc_lastMaster : Value) (Sh_depth : Int32) (Sh_wordBytes : Int32) (Sh_e : Int32) (Sh_pattern : Int32) (Wd_generator : Nat → Int32) (Fd_powers : Nat → Int32) (Fd_logs : Nat → Int32) (Rw_length : Int32) (Rw_cells : Nat → Int64) (Cd_register : Int32) (Cd_put : Int32) (Sd_masterCount : Int32) (Sd_dataCount : Int32) (Sd_channelCounts : Nat → Int32) (Rc_differing : Int32) (Rc_taken : Int32) (Fo_length : Int32) (Fo_cells : Nat → Int64) : va_W := [(qX, .inr (10, [.ref qSh, .ref qWd, X_mixer, .ref qRw, .ref qCd, .ref qSd, .ref qRc])), (qSh, .inr (8, [.int Sh_depth, .int Sh_wordBytes, .int Sh_e, .int Sh_pattern])), (qWd, .inr (9, [.ref qSh, .ref qFd, .ref qWd_generator, Wd_remainder, Wd_coefficients, Wd_syndromes, Wd_locator])), (qWd_generator, .inl (cI, 33, .inl Wd_generator)), (qFd, .inr (2, [.ref qFd_powers, .ref qFd_logs, Fd_otherForms, Fd_elements])), (qFd_powers, .inl (cI, 255, .inl Fd_powers)), (qFd_logs, .inl (cI, 256, .inl Fd_logs)), (qRw, .inr (0, [.ref qRw_cells, .int Rw_length])), (qRw_cells, .inl (cJ, 64, .inr (.inl Rw_cells))), (qCd, .inr (1, [Cd_shape, Cd_row, .int Cd_register, .int Cd_put])), (qSd, .inr (7, [Sd_shape, Sd_words, Sd_mixer, Sd_bytes, .ref qSd_channelCounts, .int Sd_masterCount, Sd_craft, .int Sd_dataCount])), (qSd_channelCounts, .inl (cI, 8, .inl Sd_channelCounts)), (qRc, .inr (6, [Rc_shape, Rc_words, Rc_mixer, Rc_nearest, .ref qFo, Rc_bytes, Rc_facts, Rc_putRight, Rc_lastOfChannel, Rc_lastMaster, .int Rc_differing, .int Rc_taken])), (qFo, .inr (0, [.ref qFo_cells, .int Fo_length])), (qFo_cells, .inl (cJ, 64, .inr (.inl Fo_cells)))]
def f_DC_form (Sh_depth : Int32) (Sh_wordBytes : Int32) (Sh_e : Int32) (Sh_pattern : Int32) (Wd_generator : Nat → Int32) (Fd_powers : Nat → Int32) (Fd_logs : Nat → Int32) (Rw_length : Int32) (Rw_cells : Nat → Int64) (Cd_register : Int32) (Cd_put : Int32) (Sd_masterCount : Int32) (Sd_dataCount : Int32) (Sd_channelCounts : Nat → Int32) (Rc_differing : Int32) (Rc_taken : Int32) (Fo_length : Int32) (Fo_cells : Nat → Int64) (x1 : Int32) (x2 : Int32) (x3 : Int32) (x4 : Int32) : Option (Int32 × Int32 × Int32 × Int32 × (Nat → Int32) × Int32 × (Nat → Int64) × Int32 × Int32 × Int32 × Int32 × (Nat → Int32) × Int32 × Int32 × Int32 × (Nat → Int64)) :=
  bd (f_Shape_exists x1 x2 x3 x4) fun u2 =>
  nm u2 fun r1 =>
  if r1 = 0 then
    none
  else
  bd (f_Shape_become Sh_depth Sh_wordBytes Sh_e Sh_pattern x1 x2 x3 x4) fun u7 =>
  nm u7.1 fun v3 =>
  nm u7.2.1 fun v4 =>
  nm u7.2.2.1 fun v5 =>
  nm u7.2.2.2 fun v6 =>
  bd (f_Words_prepare v5 Wd_generator Fd_powers Fd_logs) fun u9 =>
  nm u9 fun g8 =>
  bd (f_BitRow_empty Rw_length Rw_cells) fun u12 =>
  nm u12.1 fun v10 =>
  nm u12.2 fun g11 =>
  bd (f_Coder_restart Cd_register Cd_put) fun u15 =>
  nm u15.1 fun v13 =>
  nm u15.2 fun v14 =>
  bd (f_Sender_restart Sd_masterCount Sd_dataCount Sd_channelCounts) fun u19 =>
  nm u19.1 fun v16 =>
  nm u19.2.1 fun v17 =>
  nm u19.2.2 fun g18 =>
  bd (f_Receiver_forget Rc_differing Rc_taken Fo_length Fo_cells) fun u24 =>
  nm u24.1 fun v20 =>
  nm u24.2.1 fun v21 =>
  nm u24.2.2.1 fun v22 =>
  nm u24.2.2.2 fun g23 =>
  some (v3, v4, v5, v6, g8, v10, g11, v13, v14, v16, v17, g18, v20, v21, v22, g23)
set_option maxHeartbeats 4000000 in
set_option maxRecDepth 100000 in
theorem c_DC_form (l : Launch) (D : va_G) (cI cJ : ClassId) (tt : Nat → Nat) (qX qSh qWd qWd_generator qFd qFd_powers qFd_logs qRw qRw_cells qCd qSd qSd_channelCounts qRc qFo qFo_cells : Nat) (X_mixer Wd_remainder Wd_coefficients Wd_syndromes Wd_locator Fd_otherForms Fd_elements Cd_shape Cd_row Sd_shape Sd_words Sd_mixer Sd_bytes Sd_craft Rc_shape Rc_words Rc_mixer Rc_nearest Rc_bytes Rc_facts Rc_putRight Rc_lastOfChannel Rc_lastMaster : Value) (sz : Nat) (Sh_depth : Int32) (Sh_wordBytes : Int32) (Sh_e : Int32) (Sh_pattern : Int32) (Wd_generator : Nat → Int32) (Fd_powers : Nat → Int32) (Fd_logs : Nat → Int32) (Rw_length : Int32) (Rw_cells : Nat → Int64) (Cd_register : Int32) (Cd_put : Int32) (Sd_masterCount : Int32) (Sd_dataCount : Int32) (Sd_channelCounts : Nat → Int32) (Rc_differing : Int32) (Rc_taken : Int32) (Fo_length : Int32) (Fo_cells : Nat → Int64) (x1 : Int32) (x2 : Int32) (x3 : Int32) (x4 : Int32) (Sh_depth' : Int32) (Sh_wordBytes' : Int32) (Sh_e' : Int32) (Sh_pattern' : Int32) (Wd_generator' : Nat → Int32) (Rw_length' : Int32) (Rw_cells' : Nat → Int64) (Cd_register' : Int32) (Cd_put' : Int32) (Sd_masterCount' : Int32) (Sd_dataCount' : Int32) (Sd_channelCounts' : Nat → Int32) (Rc_differing' : Int32) (Rc_taken' : Int32) (Fo_length' : Int32) (Fo_cells' : Nat → Int64) (hm : f_DC_form Sh_depth Sh_wordBytes Sh_e Sh_pattern Wd_generator Fd_powers Fd_logs Rw_length Rw_cells Cd_register Cd_put Sd_masterCount Sd_dataCount Sd_channelCounts Rc_differing Rc_taken Fo_length Fo_cells x1 x2 x3 x4 = some (Sh_depth', Sh_wordBytes', Sh_e', Sh_pattern', Wd_generator', Rw_length', Rw_cells', Cd_register', Cd_put', Sd_masterCount', Sd_dataCount', Sd_channelCounts', Rc_differing', Rc_taken', Fo_length', Fo_cells')) : CTv l y_DC_form b_DC_form 5 none (RM 3 64) D cI cJ tt [.ref qX, .int x1, .int x2, .int x3, .int x4] (w_DC_form cI cJ qX qSh qWd qWd_generator qFd qFd_powers qFd_logs qRw qRw_cells qCd qSd qSd_channelCounts qRc qFo qFo_cells X_mixer Wd_remainder Wd_coefficients Wd_syndromes Wd_locator Fd_otherForms Fd_elements Cd_shape Cd_row Sd_shape Sd_words Sd_mixer Sd_bytes Sd_craft Rc_shape Rc_words Rc_mixer Rc_nearest Rc_bytes Rc_facts Rc_putRight Rc_lastOfChannel Rc_lastMaster Sh_depth Sh_wordBytes Sh_e Sh_pattern Wd_generator Fd_powers Fd_logs Rw_length Rw_cells Cd_register Cd_put Sd_masterCount Sd_dataCount Sd_channelCounts Rc_differing Rc_taken Fo_length Fo_cells) (w_DC_form cI cJ qX qSh qWd qWd_generator qFd qFd_powers qFd_logs qRw qRw_cells qCd qSd qSd_channelCounts qRc qFo qFo_cells X_mixer Wd_remainder Wd_coefficients Wd_syndromes Wd_locator Fd_otherForms Fd_elements Cd_shape Cd_row Sd_shape Sd_words Sd_mixer Sd_bytes Sd_craft Rc_shape Rc_words Rc_mixer Rc_nearest Rc_bytes Rc_facts Rc_putRight Rc_lastOfChannel Rc_lastMaster Sh_depth' Sh_wordBytes' Sh_e' Sh_pattern' Wd_generator' Fd_powers Fd_logs Rw_length' Rw_cells' Cd_register' Cd_put' Sd_masterCount' Sd_dataCount' Sd_channelCounts' Rc_differing' Rc_taken' Fo_length' Fo_cells') sz := by
  refine Met.ofW (cc := b_DC_form) (maxL := 5) (ret := none) (by decide) rfl ?_
  intro p e s m args below meth c s₁ B hml hv
  obtain ⟨hargs, hsz, hP, hK, hD0, hE⟩ := hv
  have hx := B.exec
  have hb := B.bytes
  have hr := B.returns
  have hts : ∀ w ∈ TB, w.before args s = true := z_mV s (atoms_spec (ws := WD y_DC_form b_DC_form 5 none) B.pre)
  have hown : s.vm.findClass "DeepChannel" = some m.cls := findClass_of_methodNamed B.named
  have hlocks := B.notSynchronized
  subst hsz
  have hD := hD0.self (sz := s.heap.size)
  generalize hAe : va_A (w_DC_form cI cJ qX qSh qWd qWd_generator qFd qFd_powers qFd_logs qRw qRw_cells qCd qSd qSd_channelCounts qRc qFo qFo_cells X_mixer Wd_remainder Wd_coefficients Wd_syndromes Wd_locator Fd_otherForms Fd_elements Cd_shape Cd_row Sd_shape Sd_words Sd_mixer Sd_bytes Sd_craft Rc_shape Rc_words Rc_mixer Rc_nearest Rc_bytes Rc_facts Rc_putRight Rc_lastOfChannel Rc_lastMaster Sh_depth Sh_wordBytes Sh_e Sh_pattern Wd_generator Fd_powers Fd_logs Rw_length Rw_cells Cd_register Cd_put Sd_masterCount Sd_dataCount Sd_channelCounts Rc_differing Rc_taken Fo_length Fo_cells) s.heap.size = A at hD hE ⊢
  have hA : ∀ q : Nat, s.heap.size ≤ q → A q := fun q h => by rw [← hAe]; exact Or.inr h
  have hS : va_S A s.heap s.heap [] := va_S.rf
  refine z_entry (vs := [.ref qX, .int x1, .int x2, .int x3, .int x4]) hargs (Nat.le_of_ble_eq_true rfl) (fun ls hl => ?_)
  have hl : lv_has ls 5 [(0, .ref qX), (1, .int x1), (2, .int x2), (3, .int x3), (4, .int x4)] := hl
  show W p l e (RM 3 64) s m args below meth c s.heap [] 0 0 _ _
  refine z_qi (fun Q0 hQ => ?_)
  have F : CallFix p m c b_DC_form 5 s args TB "DeepChannel" := ⟨hx, hb, hml, hown, hts⟩
  unfold f_DC_form at hm
  refine lv_iload_n hx hb d_DC_form_0 rfl (lv_at hl 1 rfl) ?_
  refine lv_iload_n hx hb d_DC_form_1 rfl (lv_at hl 2 rfl) ?_
  refine lv_iload_n hx hb d_DC_form_2 rfl (lv_at hl 3 rfl) ?_
  refine lv_iload hx hb d_DC_form_3 (lv_at hl 4 rfl) ?_
  obtain ⟨r1, hu, hm⟩ := bd_el hm
  replace hm := nm_1 hm
  refine z_cSi (wc := w_Shape_exists) (wc' := w_Shape_exists) (wr := [(qX, .inr (10, [.ref qSh, .ref qWd, X_mixer, .ref qRw, .ref qCd, .ref qSd, .ref qRc])), (qSh, .inr (8, [.int Sh_depth, .int Sh_wordBytes, .int Sh_e, .int Sh_pattern])), (qWd, .inr (9, [.ref qSh, .ref qFd, .ref qWd_generator, Wd_remainder, Wd_coefficients, Wd_syndromes, Wd_locator])), (qWd_generator, .inl (cI, 33, .inl Wd_generator)), (qFd, .inr (2, [.ref qFd_powers, .ref qFd_logs, Fd_otherForms, Fd_elements])), (qFd_powers, .inl (cI, 255, .inl Fd_powers)), (qFd_logs, .inl (cI, 256, .inl Fd_logs)), (qRw, .inr (0, [.ref qRw_cells, .int Rw_length])), (qRw_cells, .inl (cJ, 64, .inr (.inl Rw_cells))), (qCd, .inr (1, [Cd_shape, Cd_row, .int Cd_register, .int Cd_put])), (qSd, .inr (7, [Sd_shape, Sd_words, Sd_mixer, Sd_bytes, .ref qSd_channelCounts, .int Sd_masterCount, Sd_craft, .int Sd_dataCount])), (qSd_channelCounts, .inl (cI, 8, .inl Sd_channelCounts)), (qRc, .inr (6, [Rc_shape, Rc_words, Rc_mixer, Rc_nearest, .ref qFo, Rc_bytes, Rc_facts, Rc_putRight, Rc_lastOfChannel, Rc_lastMaster, .int Rc_differing, .int Rc_taken])), (qFo, .inr (0, [.ref qFo_cells, .int Fo_length])), (qFo_cells, .inl (cJ, 64, .inr (.inl Fo_cells)))]) (As := [.int x1, .int x2, .int x3, .int x4]) (rest := []) (c_Shape_exists l D cI cJ tt _ x1 x2 x3 x4 r1 hu) F ok_Shape_exists k_401 hK hE hP hD hS hA [] [0, 1, 2, 3, 4, 5, 6, 7, 8, 9, 10, 11, 12, 13, 14] rfl rfl (by decide) (by decide) (by decide) ⟨rfl, rfl, Nat.le_of_ble_eq_true rfl, Nat.le_of_ble_eq_true rfl⟩ ⟨Nat.zero_le _, Nat.zero_le _⟩ rfl hl.1 rfl (Nat.le_of_ble_eq_true rfl) d_DC_form_5 (fun H locs hP hD hS => ?_)
  have hP : va_P D classes (w_DC_form cI cJ qX qSh qWd qWd_generator qFd qFd_powers qFd_logs qRw qRw_cells qCd qSd qSd_channelCounts qRc qFo qFo_cells X_mixer Wd_remainder Wd_coefficients Wd_syndromes Wd_locator Fd_otherForms Fd_elements Cd_shape Cd_row Sd_shape Sd_words Sd_mixer Sd_bytes Sd_craft Rc_shape Rc_words Rc_mixer Rc_nearest Rc_bytes Rc_facts Rc_putRight Rc_lastOfChannel Rc_lastMaster Sh_depth Sh_wordBytes Sh_e Sh_pattern Wd_generator Fd_powers Fd_logs Rw_length Rw_cells Cd_register Cd_put Sd_masterCount Sd_dataCount Sd_channelCounts Rc_differing Rc_taken Fo_length Fo_cells) H := hP.sub [0, 1, 2, 3, 4, 5, 6, 7, 8, 9, 10, 11, 12, 13, 14] rfl
  have hD : va_D A (w_DC_form cI cJ qX qSh qWd qWd_generator qFd qFd_powers qFd_logs qRw qRw_cells qCd qSd qSd_channelCounts qRc qFo qFo_cells X_mixer Wd_remainder Wd_coefficients Wd_syndromes Wd_locator Fd_otherForms Fd_elements Cd_shape Cd_row Sd_shape Sd_words Sd_mixer Sd_bytes Sd_craft Rc_shape Rc_words Rc_mixer Rc_nearest Rc_bytes Rc_facts Rc_putRight Rc_lastOfChannel Rc_lastMaster Sh_depth Sh_wordBytes Sh_e Sh_pattern Wd_generator Fd_powers Fd_logs Rw_length Rw_cells Cd_register Cd_put Sd_masterCount Sd_dataCount Sd_channelCounts Rc_differing Rc_taken Fo_length Fo_cells) := hD.sub [0, 1, 2, 3, 4, 5, 6, 7, 8, 9, 10, 11, 12, 13, 14] (by decide) rfl
  refine z_ifn hm (lv_if_ne (tgt := 21) hx hb d_DC_form_8 (by decide)) (fun hm => ?_) (fun hm => ?_)
  · cases hm
  · refine lv_aload_n hx hb d_DC_form_21 rfl (lv_at hl 0 rfl) ?_
    refine va_get (D := D) (ci := 10) (v := .ref qSh) (C := "DeepChannel") (T := fT_DC) (N := 7) hx hb hts u_DC hown hK hP 0 rfl rfl 0 (by decide) (hts _ k_341) (fun _ h9 => h9) rfl d_DC_form_22 ?_
    refine lv_iload_n hx hb d_DC_form_25 rfl (lv_at hl 1 rfl) ?_
    refine lv_iload_n hx hb d_DC_form_26 rfl (lv_at hl 2 rfl) ?_
    refine lv_iload_n hx hb d_DC_form_27 rfl (lv_at hl 3 rfl) ?_
    refine lv_iload hx hb d_DC_form_28 (lv_at hl 4 rfl) ?_
    obtain ⟨⟨v3, v4, v5, v6⟩, hu, hm⟩ := bd_el hm
    replace hm := nm_4 hm
    refine z_cVv (wc := w_Shape_become cI cJ qSh Sh_depth Sh_wordBytes Sh_e Sh_pattern) (wc' := w_Shape_become cI cJ qSh v3 v4 v5 v6) (wr := [(qX, .inr (10, [.ref qSh, .ref qWd, X_mixer, .ref qRw, .ref qCd, .ref qSd, .ref qRc])), (qWd, .inr (9, [.ref qSh, .ref qFd, .ref qWd_generator, Wd_remainder, Wd_coefficients, Wd_syndromes, Wd_locator])), (qWd_generator, .inl (cI, 33, .inl Wd_generator)), (qFd, .inr (2, [.ref qFd_powers, .ref qFd_logs, Fd_otherForms, Fd_elements])), (qFd_powers, .inl (cI, 255, .inl Fd_powers)), (qFd_logs, .inl (cI, 256, .inl Fd_logs)), (qRw, .inr (0, [.ref qRw_cells, .int Rw_length])), (qRw_cells, .inl (cJ, 64, .inr (.inl Rw_cells))), (qCd, .inr (1, [Cd_shape, Cd_row, .int Cd_register, .int Cd_put])), (qSd, .inr (7, [Sd_shape, Sd_words, Sd_mixer, Sd_bytes, .ref qSd_channelCounts, .int Sd_masterCount, Sd_craft, .int Sd_dataCount])), (qSd_channelCounts, .inl (cI, 8, .inl Sd_channelCounts)), (qRc, .inr (6, [Rc_shape, Rc_words, Rc_mixer, Rc_nearest, .ref qFo, Rc_bytes, Rc_facts, Rc_putRight, Rc_lastOfChannel, Rc_lastMaster, .int Rc_differing, .int Rc_taken])), (qFo, .inr (0, [.ref qFo_cells, .int Fo_length])), (qFo_cells, .inl (cJ, 64, .inr (.inl Fo_cells)))]) (As := [.int x1, .int x2, .int x3, .int x4]) (rest := []) (c_Shape_become l D cI cJ tt qSh _ Sh_depth Sh_wordBytes Sh_e Sh_pattern x1 x2 x3 x4 v3 v4 v5 v6 hu) F ok_Shape_become rfl k_472 hK hE hP hD hS hA [1] [0, 2, 3, 4, 5, 6, 7, 8, 9, 10, 11, 12, 13, 14] rfl rfl (by decide) (by decide) (by decide) 0 rfl rfl rfl ⟨rfl, rfl, Nat.le_of_ble_eq_true rfl, Nat.le_of_ble_eq_true rfl⟩ ⟨Nat.zero_le _, Nat.zero_le _⟩ rfl hl.1 rfl (Nat.le_of_ble_eq_true rfl) d_DC_form_30 (fun H locs hP hD hS => ?_)
    have hP : va_P D classes (w_DC_form cI cJ qX qSh qWd qWd_generator qFd qFd_powers qFd_logs qRw qRw_cells qCd qSd qSd_channelCounts qRc qFo qFo_cells X_mixer Wd_remainder Wd_coefficients Wd_syndromes Wd_locator Fd_otherForms Fd_elements Cd_shape Cd_row Sd_shape Sd_words Sd_mixer Sd_bytes Sd_craft Rc_shape Rc_words Rc_mixer Rc_nearest Rc_bytes Rc_facts Rc_putRight Rc_lastOfChannel Rc_lastMaster v3 v4 v5 v6 Wd_generator Fd_powers Fd_logs Rw_length Rw_cells Cd_register Cd_put Sd_masterCount Sd_dataCount Sd_channelCounts Rc_differing Rc_taken Fo_length Fo_cells) H := hP.sub [0, 14, 1, 2, 3, 4, 5, 6, 7, 8, 9, 10, 11, 12, 13] rfl
    have hD : va_D A (w_DC_form cI cJ qX qSh qWd qWd_generator qFd qFd_powers qFd_logs qRw qRw_cells qCd qSd qSd_channelCounts qRc qFo qFo_cells X_mixer Wd_remainder Wd_coefficients Wd_syndromes Wd_locator Fd_otherForms Fd_elements Cd_shape Cd_row Sd_shape Sd_words Sd_mixer Sd_bytes Sd_craft Rc_shape Rc_words Rc_mixer Rc_nearest Rc_bytes Rc_facts Rc_putRight Rc_lastOfChannel Rc_lastMaster v3 v4 v5 v6 Wd_generator Fd_powers Fd_logs Rw_length Rw_cells Cd_register Cd_put Sd_masterCount Sd_dataCount Sd_channelCounts Rc_differing Rc_taken Fo_length Fo_cells) := hD.sub [0, 14, 1, 2, 3, 4, 5, 6, 7, 8, 9, 10, 11, 12, 13] (by decide) rfl
    refine lv_aload_n hx hb d_DC_form_33 rfl (lv_at hl 0 rfl) ?_
    refine va_get (D := D) (ci := 10) (v := .ref qWd) (C := "DeepChannel") (T := fT_DC) (N := 7) hx hb hts u_DC hown hK hP 0 rfl rfl 1 (by decide) (hts _ k_342) (fun _ h9 => h9) rfl d_DC_form_34 ?_
    obtain ⟨g8, hu, hm⟩ := bd_el hm
    replace hm := nm_1 hm
    refine z_cVv (wc := w_Words_prepare cI cJ qWd qSh qWd_generator qFd qFd_powers qFd_logs Wd_remainder Wd_coefficients Wd_syndromes Wd_locator (.int v3) (.int v4) (.int v6) Fd_otherForms Fd_elements v5 Wd_generator Fd_powers Fd_logs) (wc' := w_Words_prepare cI cJ qWd qSh qWd_generator qFd qFd_powers qFd_logs Wd_remainder Wd_coefficients Wd_syndromes Wd_locator (.int v3) (.int v4) (.int v6) Fd_otherForms Fd_elements v5 g8 Fd_powers Fd_logs) (wr := [(qX, .inr (10, [.ref qSh, .ref qWd, X_mixer, .ref qRw, .ref qCd, .ref qSd, .ref qRc])), (qRw, .inr (0, [.ref qRw_cells, .int Rw_length])), (qRw_cells, .inl (cJ, 64, .inr (.inl Rw_cells))), (qCd, .inr (1, [Cd_shape, Cd_row, .int Cd_register, .int Cd_put])), (qSd, .inr (7, [Sd_shape, Sd_words, Sd_mixer, Sd_bytes, .ref qSd_channelCounts, .int Sd_masterCount, Sd_craft, .int Sd_dataCount])), (qSd_channelCounts, .inl (cI, 8, .inl Sd_channelCounts)), (qRc, .inr (6, [Rc_shape, Rc_words, Rc_mixer, Rc_nearest, .ref qFo, Rc_bytes, Rc_facts, Rc_putRight, Rc_lastOfChannel, Rc_lastMaster, .int Rc_differing, .int Rc_taken])), (qFo, .inr (0, [.ref qFo_cells, .int Fo_length])), (qFo_cells, .inl (cJ, 64, .inr (.inl Fo_cells)))]) (As := []) (rest := []) (c_Words_prepare l D cI cJ tt qWd qSh qWd_generator qFd qFd_powers qFd_logs Wd_remainder Wd_coefficients Wd_syndromes Wd_locator (.int v3) (.int v4) (.int v6) Fd_otherForms Fd_elements _ v5 Wd_generator Fd_powers Fd_logs g8 hu) F ok_Words_prepare rfl k_476 hK hE hP hD hS hA [2, 1, 3, 4, 5, 6] [0, 7, 8, 9, 10, 11, 12, 13, 14] rfl rfl (by decide) (by decide) (by decide) 0 rfl rfl rfl ⟨rfl, rfl, Nat.le_of_ble_eq_true rfl, Nat.le_of_ble_eq_true rfl⟩ ⟨Nat.zero_le _, Nat.zero_le _⟩ rfl hl.1 rfl (Nat.le_of_ble_eq_true rfl) d_DC_form_37 (fun H locs hP hD hS => ?_)
    have hP : va_P D classes (w_DC_form cI cJ qX qSh qWd qWd_generator qFd qFd_powers qFd_logs qRw qRw_cells qCd qSd qSd_channelCounts qRc qFo qFo_cells X_mixer Wd_remainder Wd_coefficients Wd_syndromes Wd_locator Fd_otherForms Fd_elements Cd_shape Cd_row Sd_shape Sd_words Sd_mixer Sd_bytes Sd_craft Rc_shape Rc_words Rc_mixer Rc_nearest Rc_bytes Rc_facts Rc_putRight Rc_lastOfChannel Rc_lastMaster v3 v4 v5 v6 g8 Fd_powers Fd_logs Rw_length Rw_cells Cd_register Cd_put Sd_masterCount Sd_dataCount Sd_channelCounts Rc_differing Rc_taken Fo_length Fo_cells) H := hP.sub [0, 10, 9, 11, 12, 13, 14, 1, 2, 3, 4, 5, 6, 7, 8] rfl
    have hD : va_D A (w_DC_form cI cJ qX qSh qWd qWd_generator qFd qFd_powers qFd_logs qRw qRw_cells qCd qSd qSd_channelCounts qRc qFo qFo_cells X_mixer Wd_remainder Wd_coefficients Wd_syndromes Wd_locator Fd_otherForms Fd_elements Cd_shape Cd_row Sd_shape Sd_words Sd_mixer Sd_bytes Sd_craft Rc_shape Rc_words Rc_mixer Rc_nearest Rc_bytes Rc_facts Rc_putRight Rc_lastOfChannel Rc_lastMaster v3 v4 v5 v6 g8 Fd_powers Fd_logs Rw_length Rw_cells Cd_register Cd_put Sd_masterCount Sd_dataCount Sd_channelCounts Rc_differing Rc_taken Fo_length Fo_cells) := hD.sub [0, 10, 9, 11, 12, 13, 14, 1, 2, 3, 4, 5, 6, 7, 8] (by decide) rfl
    refine lv_aload_n hx hb d_DC_form_40 rfl (lv_at hl 0 rfl) ?_
    refine va_get (D := D) (ci := 10) (v := .ref qRw) (C := "DeepChannel") (T := fT_DC) (N := 7) hx hb hts u_DC hown hK hP 0 rfl rfl 3 (by decide) (hts _ k_344) (fun _ h9 => h9) rfl d_DC_form_41 ?_
    obtain ⟨⟨v10, g11⟩, hu, hm⟩ := bd_el hm
    replace hm := nm_2 hm
    refine z_cVv (wc := w_BitRow_empty cI cJ qRw qRw_cells Rw_length Rw_cells) (wc' := w_BitRow_empty cI cJ qRw qRw_cells v10 g11) (wr := [(qX, .inr (10, [.ref qSh, .ref qWd, X_mixer, .ref qRw, .ref qCd, .ref qSd, .ref qRc])), (qSh, .inr (8, [.int v3, .int v4, .int v5, .int v6])), (qWd, .inr (9, [.ref qSh, .ref qFd, .ref qWd_generator, Wd_remainder, Wd_coefficients, Wd_syndromes, Wd_locator])), (qWd_generator, .inl (cI, 33, .inl g8)), (qFd, .inr (2, [.ref qFd_powers, .ref qFd_logs, Fd_otherForms, Fd_elements])), (qFd_powers, .inl (cI, 255, .inl Fd_powers)), (qFd_logs, .inl (cI, 256, .inl Fd_logs)), (qCd, .inr (1, [Cd_shape, Cd_row, .int Cd_register, .int Cd_put])), (qSd, .inr (7, [Sd_shape, Sd_words, Sd_mixer, Sd_bytes, .ref qSd_channelCounts, .int Sd_masterCount, Sd_craft, .int Sd_dataCount])), (qSd_channelCounts, .inl (cI, 8, .inl Sd_channelCounts)), (qRc, .inr (6, [Rc_shape, Rc_words, Rc_mixer, Rc_nearest, .ref qFo, Rc_bytes, Rc_facts, Rc_putRight, Rc_lastOfChannel, Rc_lastMaster, .int Rc_differing, .int Rc_taken])), (qFo, .inr (0, [.ref qFo_cells, .int Fo_length])), (qFo_cells, .inl (cJ, 64, .inr (.inl Fo_cells)))]) (As := []) (rest := []) (c_BitRow_empty l D cI cJ tt qRw qRw_cells _ Rw_length Rw_cells v10 g11 hu) F ok_BitRow_empty rfl k_477 hK hE hP hD hS hA [7, 8] [0, 1, 2, 3, 4, 5, 6, 9, 10, 11, 12, 13, 14] rfl rfl (by decide) (by decide) (by decide) 0 rfl rfl rfl ⟨rfl, rfl, Nat.le_of_ble_eq_true rfl, Nat.le_of_ble_eq_true rfl⟩ ⟨Nat.zero_le _, Nat.zero_le _⟩ rfl hl.1 rfl (Nat.le_of_ble_eq_true rfl) d_DC_form_44 (fun H locs hP hD hS => ?_)
    have hP : va_P D classes (w_DC_form cI cJ qX qSh qWd qWd_generator qFd qFd_powers qFd_logs qRw qRw_cells qCd qSd qSd_channelCounts qRc qFo qFo_cells X_mixer Wd_remainder Wd_coefficients Wd_syndromes Wd_locator Fd_otherForms Fd_elements Cd_shape Cd_row Sd_shape Sd_words Sd_mixer Sd_bytes Sd_craft Rc_shape Rc_words Rc_mixer Rc_nearest Rc_bytes Rc_facts Rc_putRight Rc_lastOfChannel Rc_lastMaster v3 v4 v5 v6 g8 Fd_powers Fd_logs v10 g11 Cd_register Cd_put Sd_masterCount Sd_dataCount Sd_channelCounts Rc_differing Rc_taken Fo_length Fo_cells) H := hP.sub [0, 1, 2, 3, 4, 5, 6, 13, 14, 7, 8, 9, 10, 11, 12] rfl
    have hD : va_D A (w_DC_form cI cJ qX qSh qWd qWd_generator qFd qFd_powers qFd_logs qRw qRw_cells qCd qSd qSd_channelCounts qRc qFo qFo_cells X_mixer Wd_remainder Wd_coefficients Wd_syndromes Wd_locator Fd_otherForms Fd_elements Cd_shape Cd_row Sd_shape Sd_words Sd_mixer Sd_bytes Sd_craft Rc_shape Rc_words Rc_mixer Rc_nearest Rc_bytes Rc_facts Rc_putRight Rc_lastOfChannel Rc_lastMaster v3 v4 v5 v6 g8 Fd_powers Fd_logs v10 g11 Cd_register Cd_put Sd_masterCount Sd_dataCount Sd_channelCounts Rc_differing Rc_taken Fo_length Fo_cells) := hD.sub [0, 1, 2, 3, 4, 5, 6, 13, 14, 7, 8, 9, 10, 11, 12] (by decide) rfl
    refine lv_aload_n hx hb d_DC_form_47 rfl (lv_at hl 0 rfl) ?_
    refine va_get (D := D) (ci := 10) (v := .ref qCd) (C := "DeepChannel") (T := fT_DC) (N := 7) hx hb hts u_DC hown hK hP 0 rfl rfl 4 (by decide) (hts _ k_345) (fun _ h9 => h9) rfl d_DC_form_48 ?_
    obtain ⟨⟨v13, v14⟩, hu, hm⟩ := bd_el hm
    replace hm := nm_2 hm
    refine z_cVv (wc := w_Coder_restart cI cJ qCd Cd_shape Cd_row Cd_register Cd_put) (wc' := w_Coder_restart cI cJ qCd Cd_shape Cd_row v13 v14) (wr := [(qX, .inr (10, [.ref qSh, .ref qWd, X_mixer, .ref qRw, .ref qCd, .ref qSd, .ref qRc])), (qSh, .inr (8, [.int v3, .int v4, .int v5, .int v6])), (qWd, .inr (9, [.ref qSh, .ref qFd, .ref qWd_generator, Wd_remainder, Wd_coefficients, Wd_syndromes, Wd_locator])), (qWd_generator, .inl (cI, 33, .inl g8)), (qFd, .inr (2, [.ref qFd_powers, .ref qFd_logs, Fd_otherForms, Fd_elements])), (qFd_powers, .inl (cI, 255, .inl Fd_powers)), (qFd_logs, .inl (cI, 256, .inl Fd_logs)), (qRw, .inr (0, [.ref qRw_cells, .int v10])), (qRw_cells, .inl (cJ, 64, .inr (.inl g11))), (qSd, .inr (7, [Sd_shape, Sd_words, Sd_mixer, Sd_bytes, .ref qSd_channelCounts, .int Sd_masterCount, Sd_craft, .int Sd_dataCount])), (qSd_channelCounts, .inl (cI, 8, .inl Sd_channelCounts)), (qRc, .inr (6, [Rc_shape, Rc_words, Rc_mixer, Rc_nearest, .ref qFo, Rc_bytes, Rc_facts, Rc_putRight, Rc_lastOfChannel, Rc_lastMaster, .int Rc_differing, .int Rc_taken])), (qFo, .inr (0, [.ref qFo_cells, .int Fo_length])), (qFo_cells, .inl (cJ, 64, .inr (.inl Fo_cells)))]) (As := []) (rest := []) (c_Coder_restart l D cI cJ tt qCd Cd_shape Cd_row _ Cd_register Cd_put v13 v14 hu) F ok_Coder_restart rfl k_484 hK hE hP hD hS hA [9] [0, 1, 2, 3, 4, 5, 6, 7, 8, 10, 11, 12, 13, 14] rfl rfl (by decide) (by decide) (by decide) 0 rfl rfl rfl ⟨rfl, rfl, Nat.le_of_ble_eq_true rfl, Nat.le_of_ble_eq_true rfl⟩ ⟨Nat.zero_le _, Nat.zero_le _⟩ rfl hl.1 rfl (Nat.le_of_ble_eq_true rfl) d_DC_form_51 (fun H locs hP hD hS => ?_)
    have hP : va_P D classes (w_DC_form cI cJ qX qSh qWd qWd_generator qFd qFd_powers qFd_logs qRw qRw_cells qCd qSd qSd_channelCounts qRc qFo qFo_cells X_mixer Wd_remainder Wd_coefficients Wd_syndromes Wd_locator Fd_otherForms Fd_elements Cd_shape Cd_row Sd_shape Sd_words Sd_mixer Sd_bytes Sd_craft Rc_shape Rc_words Rc_mixer Rc_nearest Rc_bytes Rc_facts Rc_putRight Rc_lastOfChannel Rc_lastMaster v3 v4 v5 v6 g8 Fd_powers Fd_logs v10 g11 v13 v14 Sd_masterCount Sd_dataCount Sd_channelCounts Rc_differing Rc_taken Fo_length Fo_cells) H := hP.sub [0, 1, 2, 3, 4, 5, 6, 7, 8, 14, 9, 10, 11, 12, 13] rfl
    have hD : va_D A (w_DC_form cI cJ qX qSh qWd qWd_generator qFd qFd_powers qFd_logs qRw qRw_cells qCd qSd qSd_channelCounts qRc qFo qFo_cells X_mixer Wd_remainder Wd_coefficients Wd_syndromes Wd_locator Fd_otherForms Fd_elements Cd_shape Cd_row Sd_shape Sd_words Sd_mixer Sd_bytes Sd_craft Rc_shape Rc_words Rc_mixer Rc_nearest Rc_bytes Rc_facts Rc_putRight Rc_lastOfChannel Rc_lastMaster v3 v4 v5 v6 g8 Fd_powers Fd_logs v10 g11 v13 v14 Sd_masterCount Sd_dataCount Sd_channelCounts Rc_differing Rc_taken Fo_length Fo_cells) := hD.sub [0, 1, 2, 3, 4, 5, 6, 7, 8, 14, 9, 10, 11, 12, 13] (by decide) rfl
    refine lv_aload_n hx hb d_DC_form_54 rfl (lv_at hl 0 rfl) ?_
    refine va_get (D := D) (ci := 10) (v := .ref qSd) (C := "DeepChannel") (T := fT_DC) (N := 7) hx hb hts u_DC hown hK hP 0 rfl rfl 5 (by decide) (hts _ k_346) (fun _ h9 => h9) rfl d_DC_form_55 ?_
    obtain ⟨⟨v16, v17, g18⟩, hu, hm⟩ := bd_el hm
    replace hm := nm_3 hm
    refine z_cVv (wc := w_Sender_restart cI cJ qSd qSd_channelCounts Sd_shape Sd_words Sd_mixer Sd_bytes Sd_craft Sd_masterCount Sd_dataCount Sd_channelCounts) (wc' := w_Sender_restart cI cJ qSd qSd_channelCounts Sd_shape Sd_words Sd_mixer Sd_bytes Sd_craft v16 v17 g18) (wr := [(qX, .inr (10, [.ref qSh, .ref qWd, X_mixer, .ref qRw, .ref qCd, .ref qSd, .ref qRc])), (qSh, .inr (8, [.int v3, .int v4, .int v5, .int v6])), (qWd, .inr (9, [.ref qSh, .ref qFd, .ref qWd_generator, Wd_remainder, Wd_coefficients, Wd_syndromes, Wd_locator])), (qWd_generator, .inl (cI, 33, .inl g8)), (qFd, .inr (2, [.ref qFd_powers, .ref qFd_logs, Fd_otherForms, Fd_elements])), (qFd_powers, .inl (cI, 255, .inl Fd_powers)), (qFd_logs, .inl (cI, 256, .inl Fd_logs)), (qRw, .inr (0, [.ref qRw_cells, .int v10])), (qRw_cells, .inl (cJ, 64, .inr (.inl g11))), (qCd, .inr (1, [Cd_shape, Cd_row, .int v13, .int v14])), (qRc, .inr (6, [Rc_shape, Rc_words, Rc_mixer, Rc_nearest, .ref qFo, Rc_bytes, Rc_facts, Rc_putRight, Rc_lastOfChannel, Rc_lastMaster, .int Rc_differing, .int Rc_taken])), (qFo, .inr (0, [.ref qFo_cells, .int Fo_length])), (qFo_cells, .inl (cJ, 64, .inr (.inl Fo_cells)))]) (As := []) (rest := []) (c_Sender_restart l D cI cJ tt qSd qSd_channelCounts Sd_shape Sd_words Sd_mixer Sd_bytes Sd_craft _ Sd_masterCount Sd_dataCount Sd_channelCounts v16 v17 g18 hu) F ok_Sender_restart rfl k_488 hK hE hP hD hS hA [10, 11] [0, 1, 2, 3, 4, 5, 6, 7, 8, 9, 12, 13, 14] rfl rfl (by decide) (by decide) (by decide) 0 rfl rfl rfl ⟨rfl, rfl, Nat.le_of_ble_eq_true rfl, Nat.le_of_ble_eq_true rfl⟩ ⟨Nat.zero_le _, Nat.zero_le _⟩ rfl hl.1 rfl (Nat.le_of_ble_eq_true rfl) d_DC_form_58 (fun H locs hP hD hS => ?_)
    have hP : va_P D classes (w_DC_form cI cJ qX qSh qWd qWd_generator qFd qFd_powers qFd_logs qRw qRw_cells qCd qSd qSd_channelCounts qRc qFo qFo_cells X_mixer Wd_remainder Wd_coefficients Wd_syndromes Wd_locator Fd_otherForms Fd_elements Cd_shape Cd_row Sd_shape Sd_words Sd_mixer Sd_bytes Sd_craft Rc_shape Rc_words Rc_mixer Rc_nearest Rc_bytes Rc_facts Rc_putRight Rc_lastOfChannel Rc_lastMaster v3 v4 v5 v6 g8 Fd_powers Fd_logs v10 g11 v13 v14 v16 v17 g18 Rc_differing Rc_taken Fo_length Fo_cells) H := hP.sub [0, 1, 2, 3, 4, 5, 6, 7, 8, 9, 13, 14, 10, 11, 12] rfl
    have hD : va_D A (w_DC_form cI cJ qX qSh qWd qWd_generator qFd qFd_powers qFd_logs qRw qRw_cells qCd qSd qSd_channelCounts qRc qFo qFo_cells X_mixer Wd_remainder Wd_coefficients Wd_syndromes Wd_locator Fd_otherForms Fd_elements Cd_shape Cd_row Sd_shape Sd_words Sd_mixer Sd_bytes Sd_craft Rc_shape Rc_words Rc_mixer Rc_nearest Rc_bytes Rc_facts Rc_putRight Rc_lastOfChannel Rc_lastMaster v3 v4 v5 v6 g8 Fd_powers Fd_logs v10 g11 v13 v14 v16 v17 g18 Rc_differing Rc_taken Fo_length Fo_cells) := hD.sub [0, 1, 2, 3, 4, 5, 6, 7, 8, 9, 13, 14, 10, 11, 12] (by decide) rfl
    refine lv_aload_n hx hb d_DC_form_61 rfl (lv_at hl 0 rfl) ?_
    refine va_get (D := D) (ci := 10) (v := .ref qRc) (C := "DeepChannel") (T := fT_DC) (N := 7) hx hb hts u_DC hown hK hP 0 rfl rfl 6 (by decide) (hts _ k_347) (fun _ h9 => h9) rfl d_DC_form_62 ?_
    obtain ⟨⟨v20, v21, v22, g23⟩, hu, hm⟩ := bd_el hm
    replace hm := nm_4 hm
    refine z_cVv (wc := w_Receiver_forget cI cJ qRc qFo qFo_cells Rc_shape Rc_words Rc_mixer Rc_nearest Rc_bytes Rc_facts Rc_putRight Rc_lastOfChannel Rc_lastMaster Rc_differing Rc_taken Fo_length Fo_cells) (wc' := w_Receiver_forget cI cJ qRc qFo qFo_cells Rc_shape Rc_words Rc_mixer Rc_nearest Rc_bytes Rc_facts Rc_putRight Rc_lastOfChannel Rc_lastMaster v20 v21 v22 g23) (wr := [(qX, .inr (10, [.ref qSh, .ref qWd, X_mixer, .ref qRw, .ref qCd, .ref qSd, .ref qRc])), (qSh, .inr (8, [.int v3, .int v4, .int v5, .int v6])), (qWd, .inr (9, [.ref qSh, .ref qFd, .ref qWd_generator, Wd_remainder, Wd_coefficients, Wd_syndromes, Wd_locator])), (qWd_generator, .inl (cI, 33, .inl g8)), (qFd, .inr (2, [.ref qFd_powers, .ref qFd_logs, Fd_otherForms, Fd_elements])), (qFd_powers, .inl (cI, 255, .inl Fd_powers)), (qFd_logs, .inl (cI, 256, .inl Fd_logs)), (qRw, .inr (0, [.ref qRw_cells, .int v10])), (qRw_cells, .inl (cJ, 64, .inr (.inl g11))), (qCd, .inr (1, [Cd_shape, Cd_row, .int v13, .int v14])), (qSd, .inr (7, [Sd_shape, Sd_words, Sd_mixer, Sd_bytes, .ref qSd_channelCounts, .int v16, Sd_craft, .int v17])), (qSd_channelCounts, .inl (cI, 8, .inl g18))]) (As := []) (rest := []) (c_Receiver_forget l D cI cJ tt qRc qFo qFo_cells Rc_shape Rc_words Rc_mixer Rc_nearest Rc_bytes Rc_facts Rc_putRight Rc_lastOfChannel Rc_lastMaster _ Rc_differing Rc_taken Fo_length Fo_cells v20 v21 v22 g23 hu) F ok_Receiver_forget rfl k_493 hK hE hP hD hS hA [12, 13, 14] [0, 1, 2, 3, 4, 5, 6, 7, 8, 9, 10, 11] rfl rfl (by decide) (by decide) (by decide) 0 rfl rfl rfl ⟨rfl, rfl, Nat.le_of_ble_eq_true rfl, Nat.le_of_ble_eq_true rfl⟩ ⟨Nat.zero_le _, Nat.zero_le _⟩ rfl hl.1 rfl (Nat.le_of_ble_eq_true rfl) d_DC_form_65 (fun H locs hP hD hS => ?_)
    have hP : va_P D classes (w_DC_form cI cJ qX qSh qWd qWd_generator qFd qFd_powers qFd_logs qRw qRw_cells qCd qSd qSd_channelCounts qRc qFo qFo_cells X_mixer Wd_remainder Wd_coefficients Wd_syndromes Wd_locator Fd_otherForms Fd_elements Cd_shape Cd_row Sd_shape Sd_words Sd_mixer Sd_bytes Sd_craft Rc_shape Rc_words Rc_mixer Rc_nearest Rc_bytes Rc_facts Rc_putRight Rc_lastOfChannel Rc_lastMaster v3 v4 v5 v6 g8 Fd_powers Fd_logs v10 g11 v13 v14 v16 v17 g18 v20 v21 v22 g23) H := hP.sub [0, 1, 2, 3, 4, 5, 6, 7, 8, 9, 10, 11, 12, 13, 14] rfl
    have hD : va_D A (w_DC_form cI cJ qX qSh qWd qWd_generator qFd qFd_powers qFd_logs qRw qRw_cells qCd qSd qSd_channelCounts qRc qFo qFo_cells X_mixer Wd_remainder Wd_coefficients Wd_syndromes Wd_locator Fd_otherForms Fd_elements Cd_shape Cd_row Sd_shape Sd_words Sd_mixer Sd_bytes Sd_craft Rc_shape Rc_words Rc_mixer Rc_nearest Rc_bytes Rc_facts Rc_putRight Rc_lastOfChannel Rc_lastMaster v3 v4 v5 v6 g8 Fd_powers Fd_logs v10 g11 v13 v14 v16 v17 g18 v20 v21 v22 g23) := hD.sub [0, 1, 2, 3, 4, 5, 6, 7, 8, 9, 10, 11, 12, 13, 14] (by decide) rfl
    cases hm
    exact z_qo hQ (z_vret hr hx hb hlocks hK hP hD hS d_DC_form_68)
