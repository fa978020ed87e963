-- DeepChannel$Receiver.forget()V
abbrev b_Receiver_forget : ByteArray := prog_8_method_2_code
abbrev y_Receiver_forget : MethodName := ⟨"DeepChannel$Receiver", "forget", "()V"⟩
theorem d_Receiver_forget_0 : decode b_Receiver_forget 0 = .ok (.aload_n 0, 1) := by decide +kernel
theorem d_Receiver_forget_1 : decode b_Receiver_forget 1 = .ok (.getfield 21, 3) := by decide +kernel
theorem d_Receiver_forget_4 : decode b_Receiver_forget 4 = .ok (.invokevirtual 60, 3) := by decide +kernel
theorem d_Receiver_forget_7 : decode b_Receiver_forget 7 = .ok (.aload_n 0, 1) := by decide +kernel
theorem d_Receiver_forget_8 : decode b_Receiver_forget 8 = .ok (.iconst 0, 1) := by decide +kernel
theorem d_Receiver_forget_9 : decode b_Receiver_forget 9 = .ok (.putfield 42, 3) := by decide +kernel
theorem d_Receiver_forget_12 : decode b_Receiver_forget 12 = .ok (.aload_n 0, 1) := by decide +kernel
theorem d_Receiver_forget_13 : decode b_Receiver_forget 13 = .ok (.iconst 0, 1) := by decide +kernel
theorem d_Receiver_forget_14 : decode b_Receiver_forget 14 = .ok (.putfield 45, 3) := by decide +kernel
theorem d_Receiver_forget_17 : decode b_Receiver_forget 17 = .ok (.return_, 1) := by decide +kernel
theorem ok_Receiver_forget : OKv y_Receiver_forget b_Receiver_forget 1 none "DeepChannel$Receiver" 0 := ⟨k_496, k_494, k_495, k_53, by decide +kernel, by decide +kernel, by decide +kernel⟩
abbrev w_Receiver_forget (cI cJ : ClassId) (qRc qFo qFo_cells : Nat) (Rc_shape Rc_words Rc_mixer Rc_nearest Rc_bytes Rc_facts Rc_putRight Rc_lastOfChannel Rc_lastMaster : Value) (Rc_differing : Int32) (Rc_taken : Int32) (Fo_length : Int32) (Fo_cells : Nat → Int64) : va_W := [(qRc, .inr (6, [Rc_shape, Rc_words, Rc_mixer, Rc_nearest, .ref qFo, Rc_bytes, Rc_facts, Rc_putRight, Rc_lastOfChannel, Rc_lastMaster, .int Rc_differing, .int Rc_taken])), (qFo, .inr (0, [.ref qFo_cells, .int Fo_length])), (qFo_cells, .inl (cJ, 64, .inr (.inl Fo_cells)))]
def f_Receiver_forget (Rc_differing : Int32) (Rc_taken : Int32) (Fo_length : Int32) (Fo_cells : Nat → Int64) : Option (Int32 × Int32 × Int32 × (Nat → Int64)) :=
  bd (f_BitRow_empty Fo_length Fo_cells) fun u3 =>
  nm u3.1 fun v1 =>
  nm u3.2 fun g2 =>
  some ((0 : Int32), (0 : Int32), v1, g2)
set_option maxHeartbeats 4000000 in
set_option maxRecDepth 100000 in
theorem c_Receiver_forget (l : Launch) (D : va_G) (cI cJ : ClassId) (tt : Nat → Nat) (qRc qFo qFo_cells : Nat) (Rc_shape Rc_words Rc_mixer Rc_nearest Rc_bytes Rc_facts Rc_putRight Rc_lastOfChannel Rc_lastMaster : Value) (sz : Nat) (Rc_differing : Int32) (Rc_taken : Int32) (Fo_length : Int32) (Fo_cells : Nat → Int64) (Rc_differing' : Int32) (Rc_taken' : Int32) (Fo_length' : Int32) (Fo_cells' : Nat → Int64) (hm : f_Receiver_forget Rc_differing Rc_taken Fo_length Fo_cells = some (Rc_differing', Rc_taken', Fo_length', Fo_cells')) : CTv l y_Receiver_forget b_Receiver_forget 1 none (RM 2 44) D cI cJ tt [.ref qRc] (w_Receiver_forget cI cJ qRc qFo qFo_cells Rc_shape Rc_words Rc_mixer Rc_nearest Rc_bytes Rc_facts Rc_putRight Rc_lastOfChannel Rc_lastMaster Rc_differing Rc_taken Fo_length Fo_cells) (w_Receiver_forget cI cJ qRc qFo qFo_cells Rc_shape Rc_words Rc_mixer Rc_nearest Rc_bytes Rc_facts Rc_putRight Rc_lastOfChannel Rc_lastMaster Rc_differing' Rc_taken' Fo_length' Fo_cells') sz := by
  refine Met.ofW (cc := b_Receiver_forget) (maxL := 1) (ret := none) (by decide) rfl ?_
  intro p e s m args below meth c s₁ B hml hv
  obtain ⟨hargs, hsz, hP, hK, hD0, hE⟩ := hv
  have hx := B.exec
  have hb := B.bytes
  have hr := B.returns
  have hts : ∀ w ∈ TB, w.before args s = true := z_mV s (atoms_spec (ws := WD y_Receiver_forget b_Receiver_forget 1 none) B.pre)
  have hown : s.vm.findClass "DeepChannel$Receiver" = some m.cls := findClass_of_methodNamed B.named
  have hlocks := B.notSynchronized
  subst hsz
  have hD := hD0.self (sz := s.heap.size)
  generalize hAe : va_A (w_Receiver_forget cI cJ qRc qFo qFo_cells Rc_shape Rc_words Rc_mixer Rc_nearest Rc_bytes Rc_facts Rc_putRight Rc_lastOfChannel Rc_lastMaster Rc_differing Rc_taken Fo_length Fo_cells) s.heap.size = A at hD hE ⊢
  have hA : ∀ q : Nat, s.heap.size ≤ q → A q := fun q h => by rw [← hAe]; exact Or.inr h
  have hS : va_S A s.heap s.heap [] := va_S.rf
  refine z_entry (vs := [.ref qRc]) hargs (Nat.le_of_ble_eq_true rfl) (fun ls hl => ?_)
  have hl : lv_has ls 1 [(0, .ref qRc)] := hl
  show W p l e (RM 2 44) s m args below meth c s.heap [] 0 0 _ _
  refine z_qi (fun Q0 hQ => ?_)
  have F : CallFix p m c b_Receiver_forget 1 s args TB "DeepChannel$Receiver" := ⟨hx, hb, hml, hown, hts⟩
  unfold f_Receiver_forget at hm
  refine lv_aload_n hx hb d_Receiver_forget_0 rfl (lv_at hl 0 rfl) ?_
  refine va_get (D := D) (ci := 6) (v := .ref qFo) (C := "DeepChannel$Receiver") (T := fT_Receiver) (N := 12) hx hb hts u_Receiver hown hK hP 0 rfl rfl 4 (by decide) (hts _ k_308) (fun _ h9 => h9) rfl d_Receiver_forget_1 ?_
  obtain ⟨⟨v1, g2⟩, hu, hm⟩ := bd_el hm
  replace hm := nm_2 hm
  refine z_cVv (wc := w_BitRow_empty cI cJ qFo qFo_cells Fo_length Fo_cells) (wc' := w_BitRow_empty cI cJ qFo qFo_cells v1 g2) (wr := [(qRc, .inr (6, [Rc_shape, Rc_words, Rc_mixer, Rc_nearest, .ref qFo, Rc_bytes, Rc_facts, Rc_putRight, Rc_lastOfChannel, Rc_lastMaster, .int Rc_differing, .int Rc_taken]))]) (As := []) (rest := []) (c_BitRow_empty l D cI cJ tt qFo qFo_cells _ Fo_length Fo_cells v1 g2 hu) F ok_BitRow_empty rfl k_497 hK hE hP hD hS hA [1, 2] [0] rfl rfl (by decide) (by decide) (by decide) 0 rfl rfl rfl ⟨rfl, rfl, Nat.le_of_ble_eq_true rfl, Nat.le_of_ble_eq_true rfl⟩ ⟨Nat.zero_le _, Nat.zero_le _⟩ rfl hl.1 rfl (Nat.le_of_ble_eq_true rfl) d_Receiver_forget_4 (fun H locs hP hD hS => ?_)
  have hP : va_P D classes (w_Receiver_forget cI cJ qRc qFo qFo_cells Rc_shape Rc_words Rc_mixer Rc_nearest Rc_bytes Rc_facts Rc_putRight Rc_lastOfChannel Rc_lastMaster Rc_differing Rc_taken v1 g2) H := hP.sub [0, 1, 2] rfl
  have hD : va_D A (w_Receiver_forget cI cJ qRc qFo qFo_cells Rc_shape Rc_words Rc_mixer Rc_nearest Rc_bytes Rc_facts Rc_putRight Rc_lastOfChannel Rc_lastMaster Rc_differing Rc_taken v1 g2) := hD.sub [0, 1, 2] (by decide) rfl
  refine lv_aload_n hx hb d_Receiver_forget_7 rfl (lv_at hl 0 rfl) ?_
  refine lv_iconst (v := (0 : Int32)) hx hb d_Receiver_forget_8 (by decide) ?_
  refine va_put (D := D) (ci := 6) (v := .int (0 : Int32)) (ty := .int) (C := "DeepChannel$Receiver") (T := fT_Receiver) (N := 12) hx hb hts u_Receiver fY_Receiver fK_Receiver fN_Receiver hown hK hP hD hS 0 rfl rfl 10 (by decide) (hts _ k_314) (fun _ h9 => h9) rfl (by decide +kernel) rfl rfl (Nat.le_of_ble_eq_true rfl) d_Receiver_forget_9 (fun H locs hP hD hS => ?_)
  have hP : va_P D classes (w_Receiver_forget cI cJ qRc qFo qFo_cells Rc_shape Rc_words Rc_mixer Rc_nearest Rc_bytes Rc_facts Rc_putRight Rc_lastOfChannel Rc_lastMaster (0 : Int32) Rc_taken v1 g2) H := hP
  have hD : va_D A (w_Receiver_forget cI cJ qRc qFo qFo_cells Rc_shape Rc_words Rc_mixer Rc_nearest Rc_bytes Rc_facts Rc_putRight Rc_lastOfChannel Rc_lastMaster (0 : Int32) Rc_taken v1 g2) := hD
  refine lv_aload_n hx hb d_Receiver_forget_12 rfl (lv_at hl 0 rfl) ?_
  refine lv_iconst (v := (0 : Int32)) hx hb d_Receiver_forget_13 (by decide) ?_
  refine va_put (D := D) (ci := 6) (v := .int (0 : Int32)) (ty := .int) (C := "DeepChannel$Receiver") (T := fT_Receiver) (N := 12) hx hb hts u_Receiver fY_Receiver fK_Receiver fN_Receiver hown hK hP hD hS 0 rfl rfl 11 (by decide) (hts _ k_315) (fun _ h9 => h9) rfl (by decide +kernel) rfl rfl (Nat.le_of_ble_eq_true rfl) d_Receiver_forget_14 (fun H locs hP hD hS => ?_)
  have hP : va_P D classes (w_Receiver_forget cI cJ qRc qFo qFo_cells Rc_shape Rc_words Rc_mixer Rc_nearest Rc_bytes Rc_facts Rc_putRight Rc_lastOfChannel Rc_lastMaster (0 : Int32) (0 : Int32) v1 g2) H := hP
  have hD : va_D A (w_Receiver_forget cI cJ qRc qFo qFo_cells Rc_shape Rc_words Rc_mixer Rc_nearest Rc_bytes Rc_facts Rc_putRight Rc_lastOfChannel Rc_lastMaster (0 : Int32) (0 : Int32) v1 g2) := hD
  cases hm
  exact z_qo hQ (z_vret hr hx hb hlocks hK hP hD hS d_Receiver_forget_17)
-- DeepChannel$Receiver.bitsDecoded()I
abbrev b_Receiver_bitsDecoded : ByteArray := prog_8_method_3_code
abbrev y_Receiver_bitsDecoded : MethodName := ⟨"DeepChannel$Receiver", "bitsDecoded", "()I"⟩
theorem d_Receiver_bitsDecoded_0 : decode b_Receiver_bitsDecoded 0 = .ok (.aload_n 0, 1) := by decide +kernel
theorem d_Receiver_bitsDecoded_1 : decode b_Receiver_bitsDecoded 1 = .ok (.getfield 21, 3) := by decide +kernel
theorem d_Receiver_bitsDecoded_4 : decode b_Receiver_bitsDecoded 4 = .ok (.invokevirtual 63, 3) := by decide +kernel
theorem d_Receiver_bitsDecoded_7 : decode b_Receiver_bitsDecoded 7 = .ok (.ireturn, 1) := by decide +kernel
theorem ok_Receiver_bitsDecoded : OKv y_Receiver_bitsDecoded b_Receiver_bitsDecoded 1 (some .int) "DeepChannel$Receiver" 0 := ⟨k_541, k_539, k_540, k_53, by decide +kernel, by decide +kernel, by decide +kernel⟩
abbrev w_Receiver_bitsDecoded (cI cJ : ClassId) (qRc qFo : Nat) (Rc_shape Rc_words Rc_mixer Rc_nearest Rc_bytes Rc_facts Rc_putRight Rc_lastOfChannel Rc_lastMaster Rc_differing Rc_taken Fo_cells : Value) (Fo_length : Int32) : va_W := [(qRc, .inr (6, [Rc_shape, Rc_words, Rc_mixer, Rc_nearest, .ref qFo, Rc_bytes, Rc_facts, Rc_putRight, Rc_lastOfChannel, Rc_lastMaster, Rc_differing, Rc_taken])), (qFo, .inr (0, [Fo_cells, .int Fo_length]))]
def f_Receiver_bitsDecoded (Fo_length : Int32) : Option (Int32) :=
  bd (f_BitRow_size Fo_length) fun u2 =>
  nm u2 fun r1 =>
  some r1
set_option maxHeartbeats 4000000 in
set_option maxRecDepth 100000 in
theorem c_Receiver_bitsDecoded (l : Launch) (D : va_G) (cI cJ : ClassId) (tt : Nat → Nat) (qRc qFo : Nat) (Rc_shape Rc_words Rc_mixer Rc_nearest Rc_bytes Rc_facts Rc_putRight Rc_lastOfChannel Rc_lastMaster Rc_differing Rc_taken Fo_cells : Value) (sz : Nat) (Fo_length : Int32) (rr : Int32) (hm : f_Receiver_bitsDecoded Fo_length = some rr) : CTi l y_Receiver_bitsDecoded b_Receiver_bitsDecoded 1 (some .int) (RM 1 20) D cI cJ tt [.ref qRc] (w_Receiver_bitsDecoded cI cJ qRc qFo Rc_shape Rc_words Rc_mixer Rc_nearest Rc_bytes Rc_facts Rc_putRight Rc_lastOfChannel Rc_lastMaster Rc_differing Rc_taken Fo_cells Fo_length) (w_Receiver_bitsDecoded cI cJ qRc qFo Rc_shape Rc_words Rc_mixer Rc_nearest Rc_bytes Rc_facts Rc_putRight Rc_lastOfChannel Rc_lastMaster Rc_differing Rc_taken Fo_cells Fo_length) sz rr := by
  refine Met.ofW (cc := b_Receiver_bitsDecoded) (maxL := 1) (ret := (some .int)) (by decide) rfl ?_
  intro p e s m args below meth c s₁ B hml hv
  obtain ⟨hargs, hsz, hP, hK, hD0, hE⟩ := hv
  have hx := B.exec
  have hb := B.bytes
  have hr := B.returns
  have hts : ∀ w ∈ TB, w.before args s = true := z_mV s (atoms_spec (ws := WD y_Receiver_bitsDecoded b_Receiver_bitsDecoded 1 (some .int)) B.pre)
  have hown : s.vm.findClass "DeepChannel$Receiver" = some m.cls := findClass_of_methodNamed B.named
  have hlocks := B.notSynchronized
  subst hsz
  have hD := hD0.self (sz := s.heap.size)
  generalize hAe : va_A (w_Receiver_bitsDecoded cI cJ qRc qFo Rc_shape Rc_words Rc_mixer Rc_nearest Rc_bytes Rc_facts Rc_putRight Rc_lastOfChannel Rc_lastMaster Rc_differing Rc_taken Fo_cells Fo_length) s.heap.size = A at hD hE ⊢
  have hA : ∀ q : Nat, s.heap.size ≤ q → A q := fun q h => by rw [← hAe]; exact Or.inr h
  have hS : va_S A s.heap s.heap [] := va_S.rf
  refine z_entry (vs := [.ref qRc]) hargs (Nat.le_of_ble_eq_true rfl) (fun ls hl => ?_)
  have hl : lv_has ls 1 [(0, .ref qRc)] := hl
  show W p l e (RM 1 20) s m args below meth c s.heap [] 0 0 _ _
  refine z_qi (fun Q0 hQ => ?_)
  have F : CallFix p m c b_Receiver_bitsDecoded 1 s args TB "DeepChannel$Receiver" := ⟨hx, hb, hml, hown, hts⟩
  unfold f_Receiver_bitsDecoded at hm
  refine lv_aload_n hx hb d_Receiver_bitsDecoded_0 rfl (lv_at hl 0 rfl) ?_
  refine va_get (D := D) (ci := 6) (v := .ref qFo) (C := "DeepChannel$Receiver") (T := fT_Receiver) (N := 12) hx hb hts u_Receiver hown hK hP 0 rfl rfl 4 (by decide) (hts _ k_308) (fun _ h9 => h9) rfl d_Receiver_bitsDecoded_1 ?_
  obtain ⟨r1, hu, hm⟩ := bd_el hm
  replace hm := nm_1 hm
  refine z_cVi (wc := w_BitRow_size cI cJ qFo Fo_cells Fo_length) (wc' := w_BitRow_size cI cJ qFo Fo_cells Fo_length) (wr := [(qRc, .inr (6, [Rc_shape, Rc_words, Rc_mixer, Rc_nearest, .ref qFo, Rc_bytes, Rc_facts, Rc_putRight, Rc_lastOfChannel, Rc_lastMaster, Rc_differing, Rc_taken]))]) (As := []) (rest := []) (c_BitRow_size l D cI cJ tt qFo Fo_cells _ Fo_length r1 hu) F ok_BitRow_size rfl k_542 hK hE hP hD hS hA [1] [0] rfl rfl (by decide) (by decide) (by decide) 0 rfl rfl rfl ⟨rfl, rfl, Nat.le_of_ble_eq_true rfl, Nat.le_of_ble_eq_true rfl⟩ ⟨Nat.zero_le _, Nat.zero_le _⟩ rfl hl.1 rfl (Nat.le_of_ble_eq_true rfl) d_Receiver_bitsDecoded_4 (fun H locs hP hD hS => ?_)
  have hP : va_P D classes (w_Receiver_bitsDecoded cI cJ qRc qFo Rc_shape Rc_words Rc_mixer Rc_nearest Rc_bytes Rc_facts Rc_putRight Rc_lastOfChannel Rc_lastMaster Rc_differing Rc_taken Fo_cells Fo_length) H := hP.sub [0, 1] rfl
  have hD : va_D A (w_Receiver_bitsDecoded cI cJ qRc qFo Rc_shape Rc_words Rc_mixer Rc_nearest Rc_bytes Rc_facts Rc_putRight Rc_lastOfChannel Rc_lastMaster Rc_differing Rc_taken Fo_cells Fo_length) := hD.sub [0, 1] (by decide) rfl
  cases hm
  exact z_qo hQ (z_ireti hr hx hb hlocks hK hP hD hS d_Receiver_bitsDecoded_7)
-- DeepChannel$Receiver.bitsDiffering()I
abbrev b_Receiver_bitsDiffering : ByteArray := prog_8_method_4_code
abbrev y_Receiver_bitsDiffering : MethodName := ⟨"DeepChannel$Receiver", "bitsDiffering", "()I"⟩
theorem d_Receiver_bitsDiffering_0 : decode b_Receiver_bitsDiffering 0 = .ok (.aload_n 0, 1) := by decide +kernel
theorem d_Receiver_bitsDiffering_1 : decode b_Receiver_bitsDiffering 1 = .ok (.getfield 42, 3) := by decide +kernel
theorem d_Receiver_bitsDiffering_4 : decode b_Receiver_bitsDiffering 4 = .ok (.ireturn, 1) := by decide +kernel
theorem ok_Receiver_bitsDiffering : OKv y_Receiver_bitsDiffering b_Receiver_bitsDiffering 1 (some .int) "DeepChannel$Receiver" 0 := ⟨k_546, k_544, k_545, k_53, by decide +kernel, by decide +kernel, by decide +kernel⟩
abbrev w_Receiver_bitsDiffering (cI cJ : ClassId) (qRc : Nat) (Rc_shape Rc_words Rc_mixer Rc_nearest Rc_found Rc_bytes Rc_facts Rc_putRight Rc_lastOfChannel Rc_lastMaster Rc_taken : Value) (Rc_differing : Int32) : va_W := [(qRc, .inr (6, [Rc_shape, Rc_words, Rc_mixer, Rc_nearest, Rc_found, Rc_bytes, Rc_facts, Rc_putRight, Rc_lastOfChannel, Rc_lastMaster, .int Rc_differing, Rc_taken]))]
def f_Receiver_bitsDiffering (Rc_differing : Int32) : Option (Int32) :=
  some Rc_differing
set_option maxHeartbeats 4000000 in
set_option maxRecDepth 100000 in
theorem c_Receiver_bitsDiffering (l : Launch) (D : va_G) (cI cJ : ClassId) (tt : Nat → Nat) (qRc : Nat) (Rc_shape Rc_words Rc_mixer Rc_nearest Rc_found Rc_bytes Rc_facts Rc_putRight Rc_lastOfChannel Rc_lastMaster Rc_taken : Value) (sz : Nat) (Rc_differing : Int32) (rr : Int32) (hm : f_Receiver_bitsDiffering Rc_differing = some rr) : CTi l y_Receiver_bitsDiffering b_Receiver_bitsDiffering 1 (some .int) (RM 0 0) D cI cJ tt [.ref qRc] (w_Receiver_bitsDiffering cI cJ qRc Rc_shape Rc_words Rc_mixer Rc_nearest Rc_found Rc_bytes Rc_facts Rc_putRight Rc_lastOfChannel Rc_lastMaster Rc_taken Rc_differing) (w_Receiver_bitsDiffering cI cJ qRc Rc_shape Rc_words Rc_mixer Rc_nearest Rc_found Rc_bytes Rc_facts Rc_putRight Rc_lastOfChannel Rc_lastMaster Rc_taken Rc_differing) sz rr := by
  refine Met.ofW (cc := b_Receiver_bitsDiffering) (maxL := 1) (ret := (some .int)) (by decide) rfl ?_
  intro p e s m args below meth c s₁ B hml hv
  obtain ⟨hargs, hsz, hP, hK, hD0, hE⟩ := hv
  have hx := B.exec
  have hb := B.bytes
  have hr := B.returns
  have hts : ∀ w ∈ TB, w.before args s = true := z_mV s (atoms_spec (ws := WD y_Receiver_bitsDiffering b_Receiver_bitsDiffering 1 (some .int)) B.pre)
  have hown : s.vm.findClass "DeepChannel$Receiver" = some m.cls := findClass_of_methodNamed B.named
  have hlocks := B.notSynchronized
  subst hsz
  have hD := hD0.self (sz := s.heap.size)
  generalize hAe : va_A (w_Receiver_bitsDiffering cI cJ qRc Rc_shape Rc_words Rc_mixer Rc_nearest Rc_found Rc_bytes Rc_facts Rc_putRight Rc_lastOfChannel Rc_lastMaster Rc_taken Rc_differing) s.heap.size = A at hD hE ⊢
  have hA : ∀ q : Nat, s.heap.size ≤ q → A q := fun q h => by rw [← hAe]; exact Or.inr h
  have hS : va_S A s.heap s.heap [] := va_S.rf
  refine z_entry (vs := [.ref qRc]) hargs (Nat.le_of_ble_eq_true rfl) (fun ls hl => ?_)
  have hl : lv_has ls 1 [(0, .ref qRc)] := hl
  show W p l e (RM 0 0) s m args below meth c s.heap [] 0 0 _ _
  refine z_qi (fun Q0 hQ => ?_)
  have F : CallFix p m c b_Receiver_bitsDiffering 1 s args TB "DeepChannel$Receiver" := ⟨hx, hb, hml, hown, hts⟩
  unfold f_Receiver_bitsDiffering at hm
  refine lv_aload_n hx hb d_Receiver_bitsDiffering_0 rfl (lv_at hl 0 rfl) ?_
  refine va_get (D := D) (ci := 6) (v := .int Rc_differing) (C := "DeepChannel$Receiver") (T := fT_Receiver) (N := 12) hx hb hts u_Receiver hown hK hP 0 rfl rfl 10 (by decide) (hts _ k_314) (fun _ h9 => h9) rfl d_Receiver_bitsDiffering_1 ?_
  cases hm
  exact z_qo hQ (z_ireti hr hx hb hlocks hK hP hD hS d_Receiver_bitsDiffering_4)
-- DeepChannel$Receiver.blocksTaken()I
abbrev b_Receiver_blocksTaken : ByteArray := prog_8_method_5_code
abbrev y_Receiver_blocksTaken : MethodName := ⟨"DeepChannel$Receiver", "blocksTaken", "()I"⟩
theorem d_Receiver_blocksTaken_0 : decode b_Receiver_blocksTaken 0 = .ok (.aload_n 0, 1) := by decide +kernel
theorem d_Receiver_blocksTaken_1 : decode b_Receiver_blocksTaken 1 = .ok (.getfield 45, 3) := by decide +kernel
theorem d_Receiver_blocksTaken_4 : decode b_Receiver_blocksTaken 4 = .ok (.ireturn, 1) := by decide +kernel
theorem ok_Receiver_blocksTaken : OKv y_Receiver_blocksTaken b_Receiver_blocksTaken 1 (some .int) "DeepChannel$Receiver" 0 := ⟨k_550, k_548, k_549, k_53, by decide +kernel, by decide +kernel, by decide +kernel⟩
abbrev w_Receiver_blocksTaken (cI cJ : ClassId) (qRc : Nat) (Rc_shape Rc_words Rc_mixer Rc_nearest Rc_found Rc_bytes Rc_facts Rc_putRight Rc_lastOfChannel Rc_lastMaster Rc_differing : Value) (Rc_taken : Int32) : va_W := [(qRc, .inr (6, [Rc_shape, Rc_words, Rc_mixer, Rc_nearest, Rc_found, Rc_bytes, Rc_facts, Rc_putRight, Rc_lastOfChannel, Rc_lastMaster, Rc_differing, .int Rc_taken]))]
def f_Receiver_blocksTaken (Rc_taken : Int32) : Option (Int32) :=
  some Rc_taken
set_option maxHeartbeats 4000000 in
set_option maxRecDepth 100000 in
theorem c_Receiver_blocksTaken (l : Launch) (D : va_G) (cI cJ : ClassId) (tt : Nat → Nat) (qRc : Nat) (Rc_shape Rc_words Rc_mixer Rc_nearest Rc_found Rc_bytes Rc_facts Rc_putRight Rc_lastOfChannel Rc_lastMaster Rc_differing : Value) (sz : Nat) (Rc_taken : Int32) (rr : Int32) (hm : f_Receiver_blocksTaken Rc_taken = some rr) : CTi l y_Receiver_blocksTaken b_Receiver_blocksTaken 1 (some .int) (RM 0 0) D cI cJ tt [.ref qRc] (w_Receiver_blocksTaken cI cJ qRc Rc_shape Rc_words Rc_mixer Rc_nearest Rc_found Rc_bytes Rc_facts Rc_putRight Rc_lastOfChannel Rc_lastMaster Rc_differing Rc_taken) (w_Receiver_blocksTaken cI cJ qRc Rc_shape Rc_words Rc_mixer Rc_nearest Rc_found Rc_bytes Rc_facts Rc_putRight Rc_lastOfChannel Rc_lastMaster Rc_differing Rc_taken) sz rr := by
  refine Met.ofW (cc := b_Receiver_blocksTaken) (maxL := 1) (ret := (some .int)) (by decide) rfl ?_
  intro p e s m args below meth c s₁ B hml hv
  obtain ⟨hargs, hsz, hP, hK, hD0, hE⟩ := hv
  have hx := B.exec
  have hb := B.bytes
  have hr := B.returns
  have hts : ∀ w ∈ TB, w.before args s = true := z_mV s (atoms_spec (ws := WD y_Receiver_blocksTaken b_Receiver_blocksTaken 1 (some .int)) B.pre)
  have hown : s.vm.findClass "DeepChannel$Receiver" = some m.cls := findClass_of_methodNamed B.named
  have hlocks := B.notSynchronized
  subst hsz
  have hD := hD0.self (sz := s.heap.size)
  generalize hAe : va_A (w_Receiver_blocksTaken cI cJ qRc Rc_shape Rc_words Rc_mixer Rc_nearest Rc_found Rc_bytes Rc_facts Rc_putRight Rc_lastOfChannel Rc_lastMaster Rc_differing Rc_taken) s.heap.size = A at hD hE ⊢
  have hA : ∀ q : Nat, s.heap.size ≤ q → A q := fun q h => by rw [← hAe]; exact Or.inr h
  have hS : va_S A s.heap s.heap [] := va_S.rf
  refine z_entry (vs := [.ref qRc]) hargs (Nat.le_of_ble_eq_true rfl) (fun ls hl => ?_)
  have hl : lv_has ls 1 [(0, .ref qRc)] := hl
  show W p l e (RM 0 0) s m args below meth c s.heap [] 0 0 _ _
  refine z_qi (fun Q0 hQ => ?_)
  have F : CallFix p m c b_Receiver_blocksTaken 1 s args TB "DeepChannel$Receiver" := ⟨hx, hb, hml, hown, hts⟩
  unfold f_Receiver_blocksTaken at hm
  refine lv_aload_n hx hb d_Receiver_blocksTaken_0 rfl (lv_at hl 0 rfl) ?_
  refine va_get (D := D) (ci := 6) (v := .int Rc_taken) (C := "DeepChannel$Receiver") (T := fT_Receiver) (N := 12) hx hb hts u_Receiver hown hK hP 0 rfl rfl 11 (by decide) (hts _ k_315) (fun _ h9 => h9) rfl d_Receiver_blocksTaken_1 ?_
  cases hm
  exact z_qo hQ (z_ireti hr hx hb hlocks hK hP hD hS d_Receiver_blocksTaken_4)
-- DeepChannel$Receiver.hasTaken(I)Z
abbrev b_Receiver_hasTaken : ByteArray := prog_8_method_6_code
abbrev y_Receiver_hasTaken : MethodName := ⟨"DeepChannel$Receiver", "hasTaken", "(I)Z"⟩
theorem d_Receiver_hasTaken_0 : decode b_Receiver_hasTaken 0 = .ok (.iload_n 1, 1) := by decide +kernel
theorem d_Receiver_hasTaken_1 : decode b_Receiver_hasTaken 1 = .ok (.ifCond .lt 15, 3) := by decide +kernel
theorem d_Receiver_hasTaken_4 : decode b_Receiver_hasTaken 4 = .ok (.iload_n 1, 1) := by decide +kernel
theorem d_Receiver_hasTaken_5 : decode b_Receiver_hasTaken 5 = .ok (.aload_n 0, 1) := by decide +kernel
theorem d_Receiver_hasTaken_6 : decode b_Receiver_hasTaken 6 = .ok (.getfield 45, 3) := by decide +kernel
theorem d_Receiver_hasTaken_9 : decode b_Receiver_hasTaken 9 = .ok (.if_icmp .ge 7, 3) := by decide +kernel
theorem d_Receiver_hasTaken_12 : decode b_Receiver_hasTaken 12 = .ok (.iconst 1, 1) := by decide +kernel
theorem d_Receiver_hasTaken_13 : decode b_Receiver_hasTaken 13 = .ok (.goto 4, 3) := by decide +kernel
theorem d_Receiver_hasTaken_16 : decode b_Receiver_hasTaken 16 = .ok (.iconst 0, 1) := by decide +kernel
theorem d_Receiver_hasTaken_17 : decode b_Receiver_hasTaken 17 = .ok (.ireturn, 1) := by decide +kernel
theorem ok_Receiver_hasTaken : OKv y_Receiver_hasTaken b_Receiver_hasTaken 2 (some .boolean) "DeepChannel$Receiver" 1 := ⟨k_829, k_827, k_828, k_53, by decide +kernel, by decide +kernel, by decide +kernel⟩
abbrev w_Receiver_hasTaken (cI cJ : ClassId) (qRc : Nat) (Rc_shape Rc_words Rc_mixer Rc_nearest Rc_found Rc_bytes Rc_facts Rc_putRight Rc_lastOfChannel Rc_lastMaster Rc_differing : Value) (Rc_taken : Int32) : va_W := [(qRc, .inr (6, [Rc_shape, Rc_words, Rc_mixer, Rc_nearest, Rc_found, Rc_bytes, Rc_facts, Rc_putRight, Rc_lastOfChannel, Rc_lastMaster, Rc_differing, .int Rc_taken]))]
def f_Receiver_hasTaken (Rc_taken : Int32) (x1 : Int32) : Option (Int32) :=
  if x1 < 0 then
    zb (0 : Int32) <|
    some (0 : Int32)
  else
  if Rc_taken ≤ x1 then
    zb (0 : Int32) <|
    some (0 : Int32)
  else
  zb (1 : Int32) <|
  some (1 : Int32)
set_option maxHeartbeats 4000000 in
set_option maxRecDepth 100000 in
theorem c_Receiver_hasTaken (l : Launch) (D : va_G) (cI cJ : ClassId) (tt : Nat → Nat) (qRc : Nat) (Rc_shape Rc_words Rc_mixer Rc_nearest Rc_found Rc_bytes Rc_facts Rc_putRight Rc_lastOfChannel Rc_lastMaster Rc_differing : Value) (sz : Nat) (Rc_taken : Int32) (x1 : Int32) (rr : Int32) (hm : f_Receiver_hasTaken Rc_taken x1 = some rr) : CTi l y_Receiver_hasTaken b_Receiver_hasTaken 2 (some .boolean) (RM 0 0) D cI cJ tt [.ref qRc, .int x1] (w_Receiver_hasTaken cI cJ qRc Rc_shape Rc_words Rc_mixer Rc_nearest Rc_found Rc_bytes Rc_facts Rc_putRight Rc_lastOfChannel Rc_lastMaster Rc_differing Rc_taken) (w_Receiver_hasTaken cI cJ qRc Rc_shape Rc_words Rc_mixer Rc_nearest Rc_found Rc_bytes Rc_facts Rc_putRight Rc_lastOfChannel Rc_lastMaster Rc_differing Rc_taken) sz rr := by
  refine Met.ofW (cc := b_Receiver_hasTaken) (maxL := 2) (ret := (some .boolean)) (by decide) rfl ?_
  intro p e s m args below meth c s₁ B hml hv
  obtain ⟨hargs, hsz, hP, hK, hD0, hE⟩ := hv
  have hx := B.exec
  have hb := B.bytes
  have hr := B.returns
  have hts : ∀ w ∈ TB, w.before args s = true := z_mV s (atoms_spec (ws := WD y_Receiver_hasTaken b_Receiver_hasTaken 2 (some .boolean)) B.pre)
  have hown : s.vm.findClass "DeepChannel$Receiver" = some m.cls := findClass_of_methodNamed B.named
  have hlocks := B.notSynchronized
  subst hsz
  have hD := hD0.self (sz := s.heap.size)
  generalize hAe : va_A (w_Receiver_hasTaken cI cJ qRc Rc_shape Rc_words Rc_mixer Rc_nearest Rc_found Rc_bytes Rc_facts Rc_putRight Rc_lastOfChannel Rc_lastMaster Rc_differing Rc_taken) s.heap.size = A at hD hE ⊢
  have hA : ∀ q : Nat, s.heap.size ≤ q → A q := fun q h => by rw [← hAe]; exact Or.inr h
  have hS : va_S A s.heap s.heap [] := va_S.rf
  refine z_entry (vs := [.ref qRc, .int x1]) hargs (Nat.le_of_ble_eq_true rfl) (fun ls hl => ?_)
  have hl : lv_has ls 2 [(0, .ref qRc), (1, .int x1)] := hl
  show W p l e (RM 0 0) s m args below meth c s.heap [] 0 0 _ _
  refine z_qi (fun Q0 hQ => ?_)
  have F : CallFix p m c b_Receiver_hasTaken 2 s args TB "DeepChannel$Receiver" := ⟨hx, hb, hml, hown, hts⟩
  unfold f_Receiver_hasTaken at hm
  refine lv_iload_n hx hb d_Receiver_hasTaken_0 rfl (lv_at hl 1 rfl) ?_
  refine z_if hm (lv_if_lt (tgt := 16) hx hb d_Receiver_hasTaken_1 (by decide)) (fun hm => ?_) (fun hm => ?_)
  · refine lv_iconst (v := (0 : Int32)) hx hb d_Receiver_hasTaken_16 (by decide) ?_
    obtain ⟨hz, hm⟩ := zb_el hm
    cases hm
    exact z_qo hQ (z_iretz hz hr hx hb hlocks hK hP hD hS d_Receiver_hasTaken_17)
  · refine lv_iload_n hx hb d_Receiver_hasTaken_4 rfl (lv_at hl 1 rfl) ?_
    refine lv_aload_n hx hb d_Receiver_hasTaken_5 rfl (lv_at hl 0 rfl) ?_
    refine va_get (D := D) (ci := 6) (v := .int Rc_taken) (C := "DeepChannel$Receiver") (T := fT_Receiver) (N := 12) hx hb hts u_Receiver hown hK hP 0 rfl rfl 11 (by decide) (hts _ k_315) (fun _ h9 => h9) rfl d_Receiver_hasTaken_6 ?_
    refine z_if hm (lv_icmp_ge (tgt := 16) hx hb d_Receiver_hasTaken_9 (by decide)) (fun hm => ?_) (fun hm => ?_)
    · refine lv_iconst (v := (0 : Int32)) hx hb d_Receiver_hasTaken_16 (by decide) ?_
      obtain ⟨hz, hm⟩ := zb_el hm
      cases hm
      exact z_qo hQ (z_iretz hz hr hx hb hlocks hK hP hD hS d_Receiver_hasTaken_17)
    · refine lv_iconst (v := (1 : Int32)) hx hb d_Receiver_hasTaken_12 (by decide) ?_
      refine lv_goto (tgt := 17) hx hb d_Receiver_hasTaken_13 (by decide) ?_
      obtain ⟨hz, hm⟩ := zb_el hm
      cases hm
      exact z_qo hQ (z_iretz hz hr hx hb hlocks hK hP hD hS d_Receiver_hasTaken_17)
-- DeepChannel$Receiver.decodedWindow(I)J
abbrev b_Receiver_decodedWindow : ByteArray := prog_8_method_7_code
abbrev y_Receiver_decodedWindow : MethodName := ⟨"DeepChannel$Receiver", "decodedWindow", "(I)J"⟩
theorem d_Receiver_decodedWindow_0 : decode b_Receiver_decodedWindow 0 = .ok (.aload_n 0, 1) := by decide +kernel
theorem d_Receiver_decodedWindow_1 : decode b_Receiver_decodedWindow 1 = .ok (.getfield 21, 3) := by decide +kernel
theorem d_Receiver_decodedWindow_4 : decode b_Receiver_decodedWindow 4 = .ok (.iload_n 1, 1) := by decide +kernel
theorem d_Receiver_decodedWindow_5 : decode b_Receiver_decodedWindow 5 = .ok (.invokevirtual 67, 3) := by decide +kernel
theorem d_Receiver_decodedWindow_8 : decode b_Receiver_decodedWindow 8 = .ok (.lreturn, 1) := by decide +kernel
theorem ok_Receiver_decodedWindow : OKv y_Receiver_decodedWindow b_Receiver_decodedWindow 2 (some .long) "DeepChannel$Receiver" 1 := ⟨k_391, k_389, k_390, k_53, by decide +kernel, by decide +kernel, by decide +kernel⟩
abbrev w_Receiver_decodedWindow (cI cJ : ClassId) (qRc qFo qFo_cells : Nat) (Rc_shape Rc_words Rc_mixer Rc_nearest Rc_bytes Rc_facts Rc_putRight Rc_lastOfChannel Rc_lastMaster Rc_differing Rc_taken Fo_length : Value) (Fo_cells : Nat → Int64) : va_W := [(qRc, .inr (6, [Rc_shape, Rc_words, Rc_mixer, Rc_nearest, .ref qFo, Rc_bytes, Rc_facts, Rc_putRight, Rc_lastOfChannel, Rc_lastMaster, Rc_differing, Rc_taken])), (qFo, .inr (0, [.ref qFo_cells, Fo_length])), (qFo_cells, .inl (cJ, 64, .inr (.inl Fo_cells)))]
def f_Receiver_decodedWindow (Fo_cells : Nat → Int64) (x1 : Int32) : Option (Int64) :=
  bd (f_BitRow_window Fo_cells x1) fun u2 =>
  nm u2 fun r1 =>
  some r1
set_option maxHeartbeats 4000000 in
set_option maxRecDepth 100000 in
theorem c_Receiver_decodedWindow (l : Launch) (D : va_G) (cI cJ : ClassId) (tt : Nat → Nat) (qRc qFo qFo_cells : Nat) (Rc_shape Rc_words Rc_mixer Rc_nearest Rc_bytes Rc_facts Rc_putRight Rc_lastOfChannel Rc_lastMaster Rc_differing Rc_taken Fo_length : Value) (sz : Nat) (Fo_cells : Nat → Int64) (x1 : Int32) (rr : Int64) (hm : f_Receiver_decodedWindow Fo_cells x1 = some rr) : CTl l y_Receiver_decodedWindow b_Receiver_decodedWindow 2 (some .long) (RM 2 46) D cI cJ tt [.ref qRc, .int x1] (w_Receiver_decodedWindow cI cJ qRc qFo qFo_cells Rc_shape Rc_words Rc_mixer Rc_nearest Rc_bytes Rc_facts Rc_putRight Rc_lastOfChannel Rc_lastMaster Rc_differing Rc_taken Fo_length Fo_cells) (w_Receiver_decodedWindow cI cJ qRc qFo qFo_cells Rc_shape Rc_words Rc_mixer Rc_nearest Rc_bytes Rc_facts Rc_putRight Rc_lastOfChannel Rc_lastMaster Rc_differing Rc_taken Fo_length Fo_cells) sz rr := by
  refine Met.ofW (cc := b_Receiver_decodedWindow) (maxL := 2) (ret := (some .long)) (by decide) rfl ?_
  intro p e s m args below meth c s₁ B hml hv
  obtain ⟨hargs, hsz, hP, hK, hD0, hE⟩ := hv
  have hx := B.exec
  have hb := B.bytes
  have hr := B.returns
  have hts : ∀ w ∈ TB, w.before args s = true := z_mV s (atoms_spec (ws := WD y_Receiver_decodedWindow b_Receiver_decodedWindow 2 (some .long)) B.pre)
  have hown : s.vm.findClass "DeepChannel$Receiver" = some m.cls := findClass_of_methodNamed B.named
  have hlocks := B.notSynchronized
  subst hsz
  have hD := hD0.self (sz := s.heap.size)
  generalize hAe : va_A (w_Receiver_decodedWindow cI cJ qRc qFo qFo_cells Rc_shape Rc_words Rc_mixer Rc_nearest Rc_bytes Rc_facts Rc_putRight Rc_lastOfChannel Rc_lastMaster Rc_differing Rc_taken Fo_length Fo_cells) s.heap.size = A at hD hE ⊢
  have hA : ∀ q : Nat, s.heap.size ≤ q → A q := fun q h => by rw [← hAe]; exact Or.inr h
  have hS : va_S A s.heap s.heap [] := va_S.rf
  refine z_entry (vs := [.ref qRc, .int x1]) hargs (Nat.le_of_ble_eq_true rfl) (fun ls hl => ?_)
  have hl : lv_has ls 2 [(0, .ref qRc), (1, .int x1)] := hl
  show W p l e (RM 2 46) s m args below meth c s.heap [] 0 0 _ _
  refine z_qi (fun Q0 hQ => ?_)
  have F : CallFix p m c b_Receiver_decodedWindow 2 s args TB "DeepChannel$Receiver" := ⟨hx, hb, hml, hown, hts⟩
  unfold f_Receiver_decodedWindow at hm
  refine lv_aload_n hx hb d_Receiver_decodedWindow_0 rfl (lv_at hl 0 rfl) ?_
  refine va_get (D := D) (ci := 6) (v := .ref qFo) (C := "DeepChannel$Receiver") (T := fT_Receiver) (N := 12) hx hb hts u_Receiver hown hK hP 0 rfl rfl 4 (by decide) (hts _ k_308) (fun _ h9 => h9) rfl d_Receiver_decodedWindow_1 ?_
  refine lv_iload_n hx hb d_Receiver_decodedWindow_4 rfl (lv_at hl 1 rfl) ?_
  obtain ⟨r1, hu, hm⟩ := bd_el hm
  replace hm := nm_1 hm
  refine z_cVl (wc := w_BitRow_window cI cJ qFo qFo_cells Fo_length Fo_cells) (wc' := w_BitRow_window cI cJ qFo qFo_cells Fo_length Fo_cells) (wr := [(qRc, .inr (6, [Rc_shape, Rc_words, Rc_mixer, Rc_nearest, .ref qFo, Rc_bytes, Rc_facts, Rc_putRight, Rc_lastOfChannel, Rc_lastMaster, Rc_differing, Rc_taken]))]) (As := [.int x1]) (rest := []) (c_BitRow_window l D cI cJ tt qFo qFo_cells Fo_length _ Fo_cells x1 r1 hu) F ok_BitRow_window rfl k_392 hK hE hP hD hS hA [1, 2] [0] rfl rfl (by decide) (by decide) (by decide) 0 rfl rfl rfl ⟨rfl, rfl, Nat.le_of_ble_eq_true rfl, Nat.le_of_ble_eq_true rfl⟩ ⟨Nat.zero_le _, Nat.zero_le _⟩ rfl hl.1 rfl (Nat.le_of_ble_eq_true rfl) d_Receiver_decodedWindow_5 (fun H locs hP hD hS => ?_)
  have hP : va_P D classes (w_Receiver_decodedWindow cI cJ qRc qFo qFo_cells Rc_shape Rc_words Rc_mixer Rc_nearest Rc_bytes Rc_facts Rc_putRight Rc_lastOfChannel Rc_lastMaster Rc_differing Rc_taken Fo_length Fo_cells) H := hP.sub [0, 1, 2] rfl
  have hD : va_D A (w_Receiver_decodedWindow cI cJ qRc qFo qFo_cells Rc_shape Rc_words Rc_mixer Rc_nearest Rc_bytes Rc_facts Rc_putRight Rc_lastOfChannel Rc_lastMaster Rc_differing Rc_taken Fo_length Fo_cells) := hD.sub [0, 1, 2] (by decide) rfl
  cases hm
  exact z_qo hQ (z_lret hr hx hb hlocks hK hP hD hS d_Receiver_decodedWindow_8)
-- DeepChannel$Receiver.fact(II)I
abbrev b_Receiver_fact : ByteArray := prog_8_method_8_code
abbrev y_Receiver_fact : MethodName := ⟨"DeepChannel$Receiver", "fact", "(II)I"⟩
theorem d_Receiver_fact_0 : decode b_Receiver_fact 0 = .ok (.aload_n 0, 1) := by decide +kernel
theorem d_Receiver_fact_1 : decode b_Receiver_fact 1 = .ok (.getfield 29, 3) := by decide +kernel
theorem d_Receiver_fact_4 : decode b_Receiver_fact 4 = .ok (.iload_n 1, 1) := by decide +kernel
theorem d_Receiver_fact_5 : decode b_Receiver_fact 5 = .ok (.bipush 9, 2) := by decide +kernel
theorem d_Receiver_fact_7 : decode b_Receiver_fact 7 = .ok (.imul, 1) := by decide +kernel
theorem d_Receiver_fact_8 : decode b_Receiver_fact 8 = .ok (.iload_n 2, 1) := by decide +kernel
theorem d_Receiver_fact_9 : decode b_Receiver_fact 9 = .ok (.iadd, 1) := by decide +kernel
theorem d_Receiver_fact_10 : decode b_Receiver_fact 10 = .ok (.iaload, 1) := by decide +kernel
theorem d_Receiver_fact_11 : decode b_Receiver_fact 11 = .ok (.ireturn, 1) := by decide +kernel
theorem ok_Receiver_fact : OKv y_Receiver_fact b_Receiver_fact 3 (some .int) "DeepChannel$Receiver" 2 := ⟨k_744, k_742, k_743, k_53, by decide +kernel, by decide +kernel, by decide +kernel⟩
abbrev w_Receiver_fact (cI cJ : ClassId) (qRc qRc_facts : Nat) (Rc_shape Rc_words Rc_mixer Rc_nearest Rc_found Rc_bytes Rc_putRight Rc_lastOfChannel Rc_lastMaster Rc_differing Rc_taken : Value) (Rc_facts : Nat → Int32) : va_W := [(qRc, .inr (6, [Rc_shape, Rc_words, Rc_mixer, Rc_nearest, Rc_found, Rc_bytes, .ref qRc_facts, Rc_putRight, Rc_lastOfChannel, Rc_lastMaster, Rc_differing, Rc_taken])), (qRc_facts, .inl (cI, 144, .inl Rc_facts))]
def f_Receiver_fact (Rc_facts : Nat → Int32) (x1 : Int32) (x2 : Int32) : Option (Int32) :=
  rdI Rc_facts 144 ((x1 * (9 : Int32)) + x2) fun v1 =>
  some v1
set_option maxHeartbeats 4000000 in
set_option maxRecDepth 100000 in
theorem c_Receiver_fact (l : Launch) (D : va_G) (cI cJ : ClassId) (tt : Nat → Nat) (qRc qRc_facts : Nat) (Rc_shape Rc_words Rc_mixer Rc_nearest Rc_found Rc_bytes Rc_putRight Rc_lastOfChannel Rc_lastMaster Rc_differing Rc_taken : Value) (sz : Nat) (Rc_facts : Nat → Int32) (x1 : Int32) (x2 : Int32) (rr : Int32) (hm : f_Receiver_fact Rc_facts x1 x2 = some rr) : CTi l y_Receiver_fact b_Receiver_fact 3 (some .int) (RM 0 0) D cI cJ tt [.ref qRc, .int x1, .int x2] (w_Receiver_fact cI cJ qRc qRc_facts Rc_shape Rc_words Rc_mixer Rc_nearest Rc_found Rc_bytes Rc_putRight Rc_lastOfChannel Rc_lastMaster Rc_differing Rc_taken Rc_facts) (w_Receiver_fact cI cJ qRc qRc_facts Rc_shape Rc_words Rc_mixer Rc_nearest Rc_found Rc_bytes Rc_putRight Rc_lastOfChannel Rc_lastMaster Rc_differing Rc_taken Rc_facts) sz rr := by
  refine Met.ofW (cc := b_Receiver_fact) (maxL := 3) (ret := (some .int)) (by decide) rfl ?_
  intro p e s m args below meth c s₁ B hml hv
  obtain ⟨hargs, hsz, hP, hK, hD0, hE⟩ := hv
  have hx := B.exec
  have hb := B.bytes
  have hr := B.returns
  have hts : ∀ w ∈ TB, w.before args s = true := z_mV s (atoms_spec (ws := WD y_Receiver_fact b_Receiver_fact 3 (some .int)) B.pre)
  have hown : s.vm.findClass "DeepChannel$Receiver" = some m.cls := findClass_of_methodNamed B.named
  have hlocks := B.notSynchronized
  subst hsz
  have hD := hD0.self (sz := s.heap.size)
  generalize hAe : va_A (w_Receiver_fact cI cJ qRc qRc_facts Rc_shape Rc_words Rc_mixer Rc_nearest Rc_found Rc_bytes Rc_putRight Rc_lastOfChannel Rc_lastMaster Rc_differing Rc_taken Rc_facts) s.heap.size = A at hD hE ⊢
  have hA : ∀ q : Nat, s.heap.size ≤ q → A q := fun q h => by rw [← hAe]; exact Or.inr h
  have hS : va_S A s.heap s.heap [] := va_S.rf
  refine z_entry (vs := [.ref qRc, .int x1, .int x2]) hargs (Nat.le_of_ble_eq_true rfl) (fun ls hl => ?_)
  have hl : lv_has ls 3 [(0, .ref qRc), (1, .int x1), (2, .int x2)] := hl
  show W p l e (RM 0 0) s m args below meth c s.heap [] 0 0 _ _
  refine z_qi (fun Q0 hQ => ?_)
  have F : CallFix p m c b_Receiver_fact 3 s args TB "DeepChannel$Receiver" := ⟨hx, hb, hml, hown, hts⟩
  unfold f_Receiver_fact at hm
  refine lv_aload_n hx hb d_Receiver_fact_0 rfl (lv_at hl 0 rfl) ?_
  refine va_get (D := D) (ci := 6) (v := .ref qRc_facts) (C := "DeepChannel$Receiver") (T := fT_Receiver) (N := 12) hx hb hts u_Receiver hown hK hP 0 rfl rfl 6 (by decide) (hts _ k_310) (fun _ h9 => h9) rfl d_Receiver_fact_1 ?_
  refine lv_iload_n hx hb d_Receiver_fact_4 rfl (lv_at hl 1 rfl) ?_
  refine lv_bipush (v := (9 : Int32)) hx hb d_Receiver_fact_5 (by decide) ?_
  refine lv_imul hx hb d_Receiver_fact_7 ?_
  refine lv_iload_n hx hb d_Receiver_fact_8 rfl (lv_at hl 2 rfl) ?_
  refine lv_iadd hx hb d_Receiver_fact_9 ?_
  refine z_iald hm hx hb hK hP 1 rfl d_Receiver_fact_10 (fun v1 hm => ?_)
  cases hm
  exact z_qo hQ (z_ireti hr hx hb hlocks hK hP hD hS d_Receiver_fact_11)
-- DeepChannel$Receiver.bytesPutRight(II)I
abbrev b_Receiver_bytesPutRight : ByteArray := prog_8_method_9_code
abbrev y_Receiver_bytesPutRight : MethodName := ⟨"DeepChannel$Receiver", "bytesPutRight", "(II)I"⟩
theorem d_Receiver_bytesPutRight_0 : decode b_Receiver_bytesPutRight 0 = .ok (.iload_n 2, 1) := by decide +kernel
theorem d_Receiver_bytesPutRight_1 : decode b_Receiver_bytesPutRight 1 = .ok (.ifCond .lt 28, 3) := by decide +kernel
theorem d_Receiver_bytesPutRight_4 : decode b_Receiver_bytesPutRight 4 = .ok (.iload_n 2, 1) := by decide +kernel
theorem d_Receiver_bytesPutRight_5 : decode b_Receiver_bytesPutRight 5 = .ok (.aload_n 0, 1) := by decide +kernel
theorem d_Receiver_bytesPutRight_6 : decode b_Receiver_bytesPutRight 6 = .ok (.getfield 48, 3) := by decide +kernel
theorem d_Receiver_bytesPutRight_9 : decode b_Receiver_bytesPutRight 9 = .ok (.getfield 71, 3) := by decide +kernel
theorem d_Receiver_bytesPutRight_12 : decode b_Receiver_bytesPutRight 12 = .ok (.if_icmp .ge 17, 3) := by decide +kernel
theorem d_Receiver_bytesPutRight_15 : decode b_Receiver_bytesPutRight 15 = .ok (.aload_n 0, 1) := by decide +kernel
theorem d_Receiver_bytesPutRight_16 : decode b_Receiver_bytesPutRight 16 = .ok (.getfield 32, 3) := by decide +kernel
theorem d_Receiver_bytesPutRight_19 : decode b_Receiver_bytesPutRight 19 = .ok (.iload_n 1, 1) := by decide +kernel
theorem d_Receiver_bytesPutRight_20 : decode b_Receiver_bytesPutRight 20 = .ok (.bipush 8, 2) := by decide +kernel
theorem d_Receiver_bytesPutRight_22 : decode b_Receiver_bytesPutRight 22 = .ok (.imul, 1) := by decide +kernel
theorem d_Receiver_bytesPutRight_23 : decode b_Receiver_bytesPutRight 23 = .ok (.iload_n 2, 1) := by decide +kernel
theorem d_Receiver_bytesPutRight_24 : decode b_Receiver_bytesPutRight 24 = .ok (.iadd, 1) := by decide +kernel
theorem d_Receiver_bytesPutRight_25 : decode b_Receiver_bytesPutRight 25 = .ok (.iaload, 1) := by decide +kernel
theorem d_Receiver_bytesPutRight_26 : decode b_Receiver_bytesPutRight 26 = .ok (.goto 4, 3) := by decide +kernel
theorem d_Receiver_bytesPutRight_29 : decode b_Receiver_bytesPutRight 29 = .ok (.iconst (-1), 1) := by decide +kernel
theorem d_Receiver_bytesPutRight_30 : decode b_Receiver_bytesPutRight 30 = .ok (.ireturn, 1) := by decide +kernel
theorem ok_Receiver_bytesPutRight : OKv y_Receiver_bytesPutRight b_Receiver_bytesPutRight 3 (some .int) "DeepChannel$Receiver" 2 := ⟨k_857, k_855, k_856, k_53, by decide +kernel, by decide +kernel, by decide +kernel⟩
abbrev w_Receiver_bytesPutRight (cI cJ : ClassId) (qRc qSh qRc_putRight : Nat) (Rc_words Rc_mixer Rc_nearest Rc_found Rc_bytes Rc_facts Rc_lastOfChannel Rc_lastMaster Rc_differing Rc_taken Sh_wordBytes Sh_e Sh_pattern : Value) (Sh_depth : Int32) (Rc_putRight : Nat → Int32) : va_W := [(qRc, .inr (6, [.ref qSh, Rc_words, Rc_mixer, Rc_nearest, Rc_found, Rc_bytes, Rc_facts, .ref qRc_putRight, Rc_lastOfChannel, Rc_lastMaster, Rc_differing, Rc_taken])), (qSh, .inr (8, [.int Sh_depth, Sh_wordBytes, Sh_e, Sh_pattern])), (qRc_putRight, .inl (cI, 128, .inl Rc_putRight))]
def f_Receiver_bytesPutRight (Sh_depth : Int32) (Rc_putRight : Nat → Int32) (x1 : Int32) (x2 : Int32) : Option (Int32) :=
  if x2 < 0 then
    some (-1 : Int32)
  else
  if Sh_depth ≤ x2 then
    some (-1 : Int32)
  else
  rdI Rc_putRight 128 ((x1 * (8 : Int32)) + x2) fun v1 =>
  some v1
set_option maxHeartbeats 4000000 in
set_option maxRecDepth 100000 in
theorem c_Receiver_bytesPutRight (l : Launch) (D : va_G) (cI cJ : ClassId) (tt : Nat → Nat) (qRc qSh qRc_putRight : Nat) (Rc_words Rc_mixer Rc_nearest Rc_found Rc_bytes Rc_facts Rc_lastOfChannel Rc_lastMaster Rc_differing Rc_taken Sh_wordBytes Sh_e Sh_pattern : Value) (sz : Nat) (Sh_depth : Int32) (Rc_putRight : Nat → Int32) (x1 : Int32) (x2 : Int32) (rr : Int32) (hm : f_Receiver_bytesPutRight Sh_depth Rc_putRight x1 x2 = some rr) : CTi l y_Receiver_bytesPutRight b_Receiver_bytesPutRight 3 (some .int) (RM 0 0) D cI cJ tt [.ref qRc, .int x1, .int x2] (w_Receiver_bytesPutRight cI cJ qRc qSh qRc_putRight Rc_words Rc_mixer Rc_nearest Rc_found Rc_bytes Rc_facts Rc_lastOfChannel Rc_lastMaster Rc_differing Rc_taken Sh_wordBytes Sh_e Sh_pattern Sh_depth Rc_putRight) (w_Receiver_bytesPutRight cI cJ qRc qSh qRc_putRight Rc_words Rc_mixer Rc_nearest Rc_found Rc_bytes Rc_facts Rc_lastOfChannel Rc_lastMaster Rc_differing Rc_taken Sh_wordBytes Sh_e Sh_pattern Sh_depth Rc_putRight) sz rr := by
  refine Met.ofW (cc := b_Receiver_bytesPutRight) (maxL := 3) (ret := (some .int)) (by decide) rfl ?_
  intro p e s m args below meth c s₁ B hml hv
  obtain ⟨hargs, hsz, hP, hK, hD0, hE⟩ := hv
  have hx := B.exec
  have hb := B.bytes
  have hr := B.returns
  have hts : ∀ w ∈ TB, w.before args s = true := z_mV s (atoms_spec (ws := WD y_Receiver_bytesPutRight b_Receiver_bytesPutRight 3 (some .int)) B.pre)
  have hown : s.vm.findClass "DeepChannel$Receiver" = some m.cls := findClass_of_methodNamed B.named
  have hlocks := B.notSynchronized
  subst hsz
  have hD := hD0.self (sz := s.heap.size)
  generalize hAe : va_A (w_Receiver_bytesPutRight cI cJ qRc qSh qRc_putRight Rc_words Rc_mixer Rc_nearest Rc_found Rc_bytes Rc_facts Rc_lastOfChannel Rc_lastMaster Rc_differing Rc_taken Sh_wordBytes Sh_e Sh_pattern Sh_depth Rc_putRight) s.heap.size = A at hD hE ⊢
  have hA : ∀ q : Nat, s.heap.size ≤ q → A q := fun q h => by rw [← hAe]; exact Or.inr h
  have hS : va_S A s.heap s.heap [] := va_S.rf
  refine z_entry (vs := [.ref qRc, .int x1, .int x2]) hargs (Nat.le_of_ble_eq_true rfl) (fun ls hl => ?_)
  have hl : lv_has ls 3 [(0, .ref qRc), (1, .int x1), (2, .int x2)] := hl
  show W p l e (RM 0 0) s m args below meth c s.heap [] 0 0 _ _
  refine z_qi (fun Q0 hQ => ?_)
  have F : CallFix p m c b_Receiver_bytesPutRight 3 s args TB "DeepChannel$Receiver" := ⟨hx, hb, hml, hown, hts⟩
  unfold f_Receiver_bytesPutRight at hm
  refine lv_iload_n hx hb d_Receiver_bytesPutRight_0 rfl (lv_at hl 2 rfl) ?_
  refine z_if hm (lv_if_lt (tgt := 29) hx hb d_Receiver_bytesPutRight_1 (by decide)) (fun hm => ?_) (fun hm => ?_)
  · refine lv_iconst (v := (-1 : Int32)) hx hb d_Receiver_bytesPutRight_29 (by decide) ?_
    cases hm
    exact z_qo hQ (z_ireti hr hx hb hlocks hK hP hD hS d_Receiver_bytesPutRight_30)
  · refine lv_iload_n hx hb d_Receiver_bytesPutRight_4 rfl (lv_at hl 2 rfl) ?_
    refine lv_aload_n hx hb d_Receiver_bytesPutRight_5 rfl (lv_at hl 0 rfl) ?_
    refine va_get (D := D) (ci := 6) (v := .ref qSh) (C := "DeepChannel$Receiver") (T := fT_Receiver) (N := 12) hx hb hts u_Receiver hown hK hP 0 rfl rfl 0 (by decide) (hts _ k_304) (fun _ h9 => h9) rfl d_Receiver_bytesPutRight_6 ?_
    refine va_getN (D := D) (ci := 8) (v := .int Sh_depth) (C := "DeepChannel$Shape") (T := fT_Shape) (N := 4) hx hb hts u_Shape hown hK hP 1 rfl rfl 0 (by decide) (va_Nw.use rfl (hE.1 _ (List.mem_of_getElem? (i := 2) rfl))) (fun _ h9 => h9) rfl d_Receiver_bytesPutRight_9 ?_
    refine z_if hm (lv_icmp_ge (tgt := 29) hx hb d_Receiver_bytesPutRight_12 (by decide)) (fun hm => ?_) (fun hm => ?_)
    · refine lv_iconst (v := (-1 : Int32)) hx hb d_Receiver_bytesPutRight_29 (by decide) ?_
      cases hm
      exact z_qo hQ (z_ireti hr hx hb hlocks hK hP hD hS d_Receiver_bytesPutRight_30)
    · refine lv_aload_n hx hb d_Receiver_bytesPutRight_15 rfl (lv_at hl 0 rfl) ?_
      refine va_get (D := D) (ci := 6) (v := .ref qRc_putRight) (C := "DeepChannel$Receiver") (T := fT_Receiver) (N := 12) hx hb hts u_Receiver hown hK hP 0 rfl rfl 7 (by decide) (hts _ k_311) (fun _ h9 => h9) rfl d_Receiver_bytesPutRight_16 ?_
      refine lv_iload_n hx hb d_Receiver_bytesPutRight_19 rfl (lv_at hl 1 rfl) ?_
      refine lv_bipush (v := (8 : Int32)) hx hb d_Receiver_bytesPutRight_20 (by decide) ?_
      refine lv_imul hx hb d_Receiver_bytesPutRight_22 ?_
      refine lv_iload_n hx hb d_Receiver_bytesPutRight_23 rfl (lv_at hl 2 rfl) ?_
      refine lv_iadd hx hb d_Receiver_bytesPutRight_24 ?_
      refine z_iald hm hx hb hK hP 2 rfl d_Receiver_bytesPutRight_25 (fun v1 hm => ?_)
      refine lv_goto (tgt := 30) hx hb d_Receiver_bytesPutRight_26 (by decide) ?_
      cases hm
      exact z_qo hQ (z_ireti hr hx hb hlocks hK hP hD hS d_Receiver_bytesPutRight_30)
-- DeepChannel$Receiver.frameWindow(II)J
abbrev b_Receiver_frameWindow : ByteArray := prog_8_method_10_code
abbrev y_Receiver_frameWindow : MethodName := ⟨"DeepChannel$Receiver", "frameWindow", "(II)J"⟩
theorem d_Receiver_frameWindow_0 : decode b_Receiver_frameWindow 0 = .ok (.lconst 0, 1) := by decide +kernel
theorem d_Receiver_frameWindow_1 : decode b_Receiver_frameWindow 1 = .ok (.lstore_n 3, 1) := by decide +kernel
theorem d_Receiver_frameWindow_2 : decode b_Receiver_frameWindow 2 = .ok (.iconst 0, 1) := by decide +kernel
theorem d_Receiver_frameWindow_3 : decode b_Receiver_frameWindow 3 = .ok (.istore 5, 2) := by decide +kernel
theorem d_Receiver_frameWindow_5 : decode b_Receiver_frameWindow 5 = .ok (.iload 5, 2) := by decide +kernel
theorem d_Receiver_frameWindow_7 : decode b_Receiver_frameWindow 7 = .ok (.bipush 8, 2) := by decide +kernel
theorem d_Receiver_frameWindow_9 : decode b_Receiver_frameWindow 9 = .ok (.if_icmp .ge 66, 3) := by decide +kernel
theorem d_Receiver_frameWindow_12 : decode b_Receiver_frameWindow 12 = .ok (.iload_n 2, 1) := by decide +kernel
theorem d_Receiver_frameWindow_13 : decode b_Receiver_frameWindow 13 = .ok (.i2l, 1) := by decide +kernel
theorem d_Receiver_frameWindow_14 : decode b_Receiver_frameWindow 14 = .ok (.iload 5, 2) := by decide +kernel
theorem d_Receiver_frameWindow_16 : decode b_Receiver_frameWindow 16 = .ok (.i2l, 1) := by decide +kernel
theorem d_Receiver_frameWindow_17 : decode b_Receiver_frameWindow 17 = .ok (.ladd, 1) := by decide +kernel
theorem d_Receiver_frameWindow_18 : decode b_Receiver_frameWindow 18 = .ok (.lstore 6, 2) := by decide +kernel
theorem d_Receiver_frameWindow_20 : decode b_Receiver_frameWindow 20 = .ok (.lload 6, 2) := by decide +kernel
theorem d_Receiver_frameWindow_22 : decode b_Receiver_frameWindow 22 = .ok (.lconst 0, 1) := by decide +kernel
theorem d_Receiver_frameWindow_23 : decode b_Receiver_frameWindow 23 = .ok (.lcmp, 1) := by decide +kernel
theorem d_Receiver_frameWindow_24 : decode b_Receiver_frameWindow 24 = .ok (.ifCond .lt 45, 3) := by decide +kernel
theorem d_Receiver_frameWindow_27 : decode b_Receiver_frameWindow 27 = .ok (.lload 6, 2) := by decide +kernel
theorem d_Receiver_frameWindow_29 : decode b_Receiver_frameWindow 29 = .ok (.aload_n 0, 1) := by decide +kernel
theorem d_Receiver_frameWindow_30 : decode b_Receiver_frameWindow 30 = .ok (.getfield 48, 3) := by decide +kernel
theorem d_Receiver_frameWindow_33 : decode b_Receiver_frameWindow 33 = .ok (.invokevirtual 76, 3) := by decide +kernel
theorem d_Receiver_frameWindow_36 : decode b_Receiver_frameWindow 36 = .ok (.i2l, 1) := by decide +kernel
theorem d_Receiver_frameWindow_37 : decode b_Receiver_frameWindow 37 = .ok (.lcmp, 1) := by decide +kernel
theorem d_Receiver_frameWindow_38 : decode b_Receiver_frameWindow 38 = .ok (.ifCond .ge 31, 3) := by decide +kernel
theorem d_Receiver_frameWindow_41 : decode b_Receiver_frameWindow 41 = .ok (.lload_n 3, 1) := by decide +kernel
theorem d_Receiver_frameWindow_42 : decode b_Receiver_frameWindow 42 = .ok (.aload_n 0, 1) := by decide +kernel
theorem d_Receiver_frameWindow_43 : decode b_Receiver_frameWindow 43 = .ok (.getfield 25, 3) := by decide +kernel
theorem d_Receiver_frameWindow_46 : decode b_Receiver_frameWindow 46 = .ok (.iload_n 1, 1) := by decide +kernel
theorem d_Receiver_frameWindow_47 : decode b_Receiver_frameWindow 47 = .ok (.aload_n 0, 1) := by decide +kernel
theorem d_Receiver_frameWindow_48 : decode b_Receiver_frameWindow 48 = .ok (.getfield 48, 3) := by decide +kernel
theorem d_Receiver_frameWindow_51 : decode b_Receiver_frameWindow 51 = .ok (.invokevirtual 79, 3) := by decide +kernel
theorem d_Receiver_frameWindow_54 : decode b_Receiver_frameWindow 54 = .ok (.imul, 1) := by decide +kernel
theorem d_Receiver_frameWindow_55 : decode b_Receiver_frameWindow 55 = .ok (.lload 6, 2) := by decide +kernel
theorem d_Receiver_frameWindow_57 : decode b_Receiver_frameWindow 57 = .ok (.l2i, 1) := by decide +kernel
theorem d_Receiver_frameWindow_58 : decode b_Receiver_frameWindow 58 = .ok (.iadd, 1) := by decide +kernel
theorem d_Receiver_frameWindow_59 : decode b_Receiver_frameWindow 59 = .ok (.iaload, 1) := by decide +kernel
theorem d_Receiver_frameWindow_60 : decode b_Receiver_frameWindow 60 = .ok (.i2l, 1) := by decide +kernel
theorem d_Receiver_frameWindow_61 : decode b_Receiver_frameWindow 61 = .ok (.bipush 8, 2) := by decide +kernel
theorem d_Receiver_frameWindow_63 : decode b_Receiver_frameWindow 63 = .ok (.iload 5, 2) := by decide +kernel
theorem d_Receiver_frameWindow_65 : decode b_Receiver_frameWindow 65 = .ok (.imul, 1) := by decide +kernel
theorem d_Receiver_frameWindow_66 : decode b_Receiver_frameWindow 66 = .ok (.lshl, 1) := by decide +kernel
theorem d_Receiver_frameWindow_67 : decode b_Receiver_frameWindow 67 = .ok (.lor, 1) := by decide +kernel
theorem d_Receiver_frameWindow_68 : decode b_Receiver_frameWindow 68 = .ok (.lstore_n 3, 1) := by decide +kernel
theorem d_Receiver_frameWindow_69 : decode b_Receiver_frameWindow 69 = .ok (.iinc 5 1, 3) := by decide +kernel
theorem d_Receiver_frameWindow_72 : decode b_Receiver_frameWindow 72 = .ok (.goto (-67), 3) := by decide +kernel
theorem d_Receiver_frameWindow_75 : decode b_Receiver_frameWindow 75 = .ok (.lload_n 3, 1) := by decide +kernel
theorem d_Receiver_frameWindow_76 : decode b_Receiver_frameWindow 76 = .ok (.lreturn, 1) := by decide +kernel
theorem ok_Receiver_frameWindow : OKv y_Receiver_frameWindow b_Receiver_frameWindow 8 (some .long) "DeepChannel$Receiver" 2 := ⟨k_868, k_866, k_867, k_53, by decide +kernel, by decide +kernel, by decide +kernel⟩
abbrev w_Receiver_frameWindow (cI cJ : ClassId) (qRc qSh qRc_bytes : Nat) (Rc_words Rc_mixer Rc_nearest Rc_found Rc_facts Rc_putRight Rc_lastOfChannel Rc_lastMaster Rc_differing Rc_taken Sh_pattern : Value) (Sh_depth : Int32) (Sh_wordBytes : Int32) (Sh_e : Int32) (Rc_bytes : Nat → Int32) : va_W := [(qRc, .inr (6, [.ref qSh, Rc_words, Rc_mixer, Rc_nearest, Rc_found, .ref qRc_bytes, Rc_facts, Rc_putRight, Rc_lastOfChannel, Rc_lastMaster, Rc_differing, Rc_taken])), (qSh, .inr (8, [.int Sh_depth, .int Sh_wordBytes, .int Sh_e, Sh_pattern])), (qRc_bytes, .inl (cI, 512, .inl Rc_bytes))]
def f_Receiver_frameWindow_69 (kh5 : Int32 → Int32 → Int64 → Int32 → Option (Int64)) (x1 : Int32) (x2 : Int32) (x3 : Int64) (x5 : Int32) : Option (Int64) :=
  nm (x5 + (1 : Int32)) fun v1 =>
  kh5 x1 x2 x3 v1
def f_Receiver_frameWindow_5_b (Sh_depth : Int32) (Sh_wordBytes : Int32) (Sh_e : Int32) (Rc_bytes : Nat → Int32) (kh5 : Int32 → Int32 → Int64 → Int32 → Option (Int64)) (x1 : Int32) (x2 : Int32) (x3 : Int64) (x5 : Int32) : Option (Int64) :=
  if (8 : Int32) ≤ x5 then
    some x3
  else
  nm (x2.toInt64 + x5.toInt64) fun v2 =>
  if (lg_cmp v2 (0 : Int64)) < 0 then
    f_Receiver_frameWindow_69 kh5 x1 x2 x3 x5
  else
  bd (f_Shape_frameBytes Sh_depth Sh_wordBytes Sh_e) fun u4 =>
  nm u4 fun r3 =>
  if 0 ≤ (lg_cmp v2 r3.toInt64) then
    f_Receiver_frameWindow_69 kh5 x1 x2 x3 x5
  else
  bd (f_Shape_blockBytes Sh_depth Sh_wordBytes) fun u6 =>
  nm u6 fun r5 =>
  rdI Rc_bytes 512 ((x1 * r5) + v2.toInt32) fun v7 =>
  nm (x3 ||| (v7.toInt64 <<< (((8 : Int32) * x5).toInt64 &&& 63))) fun v8 =>
  f_Receiver_frameWindow_69 kh5 x1 x2 v8 x5
def f_Receiver_frameWindow_5 (Sh_depth : Int32) (Sh_wordBytes : Int32) (Sh_e : Int32) (Rc_bytes : Nat → Int32) : Nat → Int32 → Int32 → Int64 → Int32 → Option (Int64)
  | 0 => fun _ _ _ _ => none
  | n + 1 => fun x1 x2 x3 x5 => f_Receiver_frameWindow_5_b Sh_depth Sh_wordBytes Sh_e Rc_bytes (f_Receiver_frameWindow_5 Sh_depth Sh_wordBytes Sh_e Rc_bytes n) x1 x2 x3 x5
def f_Receiver_frameWindow (Sh_depth : Int32) (Sh_wordBytes : Int32) (Sh_e : Int32) (Rc_bytes : Nat → Int32) (x1 : Int32) (x2 : Int32) : Option (Int64) :=
  f_Receiver_frameWindow_5 Sh_depth Sh_wordBytes Sh_e Rc_bytes 10000 x1 x2 (0 : Int64) (0 : Int32)
set_option maxHeartbeats 4000000 in
set_option maxRecDepth 100000 in
theorem c_Receiver_frameWindow (l : Launch) (D : va_G) (cI cJ : ClassId) (tt : Nat → Nat) (qRc qSh qRc_bytes : Nat) (Rc_words Rc_mixer Rc_nearest Rc_found Rc_facts Rc_putRight Rc_lastOfChannel Rc_lastMaster Rc_differing Rc_taken Sh_pattern : Value) (sz : Nat) (Sh_depth : Int32) (Sh_wordBytes : Int32) (Sh_e : Int32) (Rc_bytes : Nat → Int32) (x1 : Int32) (x2 : Int32) (rr : Int64) (hm : f_Receiver_frameWindow Sh_depth Sh_wordBytes Sh_e Rc_bytes x1 x2 = some rr) : CTl l y_Receiver_frameWindow b_Receiver_frameWindow 8 (some .long) (RM 1 20) D cI cJ tt [.ref qRc, .int x1, .int x2] (w_Receiver_frameWindow cI cJ qRc qSh qRc_bytes Rc_words Rc_mixer Rc_nearest Rc_found Rc_facts Rc_putRight Rc_lastOfChannel Rc_lastMaster Rc_differing Rc_taken Sh_pattern Sh_depth Sh_wordBytes Sh_e Rc_bytes) (w_Receiver_frameWindow cI cJ qRc qSh qRc_bytes Rc_words Rc_mixer Rc_nearest Rc_found Rc_facts Rc_putRight Rc_lastOfChannel Rc_lastMaster Rc_differing Rc_taken Sh_pattern Sh_depth Sh_wordBytes Sh_e Rc_bytes) sz rr := by
  refine Met.ofW (cc := b_Receiver_frameWindow) (maxL := 8) (ret := (some .long)) (by decide) rfl ?_
  intro p e s m args below meth c s₁ B hml hv
  obtain ⟨hargs, hsz, hP, hK, hD0, hE⟩ := hv
  have hx := B.exec
  have hb := B.bytes
  have hr := B.returns
  have hts : ∀ w ∈ TB, w.before args s = true := z_mV s (atoms_spec (ws := WD y_Receiver_frameWindow b_Receiver_frameWindow 8 (some .long)) B.pre)
  have hown : s.vm.findClass "DeepChannel$Receiver" = some m.cls := findClass_of_methodNamed B.named
  have hlocks := B.notSynchronized
  subst hsz
  have hD := hD0.self (sz := s.heap.size)
  generalize hAe : va_A (w_Receiver_frameWindow cI cJ qRc qSh qRc_bytes Rc_words Rc_mixer Rc_nearest Rc_found Rc_facts Rc_putRight Rc_lastOfChannel Rc_lastMaster Rc_differing Rc_taken Sh_pattern Sh_depth Sh_wordBytes Sh_e Rc_bytes) s.heap.size = A at hD hE ⊢
  have hA : ∀ q : Nat, s.heap.size ≤ q → A q := fun q h => by rw [← hAe]; exact Or.inr h
  have hS : va_S A s.heap s.heap [] := va_S.rf
  refine z_entry (vs := [.ref qRc, .int x1, .int x2]) hargs (Nat.le_of_ble_eq_true rfl) (fun ls hl => ?_)
  have hl : lv_has ls 8 [(0, .ref qRc), (1, .int x1), (2, .int x2)] := hl
  show W p l e (RM 1 20) s m args below meth c s.heap [] 0 0 _ _
  refine z_qi (fun Q0 hQ => ?_)
  have F : CallFix p m c b_Receiver_frameWindow 8 s args TB "DeepChannel$Receiver" := ⟨hx, hb, hml, hown, hts⟩
  have T5 : ∀ (n5 : Nat) (x1 : Int32) (x2 : Int32) (x3 : Int64) (x5 : Int32), f_Receiver_frameWindow_5 Sh_depth Sh_wordBytes Sh_e Rc_bytes n5 x1 x2 x3 x5 = some rr → ∀ (H : Heap) (locs : List Loc), va_P D classes (w_Receiver_frameWindow cI cJ qRc qSh qRc_bytes Rc_words Rc_mixer Rc_nearest Rc_found Rc_facts Rc_putRight Rc_lastOfChannel Rc_lastMaster Rc_differing Rc_taken Sh_pattern Sh_depth Sh_wordBytes Sh_e Rc_bytes) H → va_D A (w_Receiver_frameWindow cI cJ qRc qSh qRc_bytes Rc_words Rc_mixer Rc_nearest Rc_found Rc_facts Rc_putRight Rc_lastOfChannel Rc_lastMaster Rc_differing Rc_taken Sh_pattern Sh_depth Sh_wordBytes Sh_e Rc_bytes) → va_S A s.heap H locs → ∀ (ls : Array Slot), lv_has ls 8 [(0, .ref qRc), (1, .int x1), (2, .int x2), (3, .long x3), (5, .int x5)] → W p l e (RM 1 20) s m args below meth c H locs 0 0 Q0 (F0 m 5 ls []) := by
    intro n5
    induction n5 with
    | zero => intro x1 x2 x3 x5 hm; cases hm
    | succ n5 ih5 =>
      have T69 : ∀ (x1 : Int32) (x2 : Int32) (x3 : Int64) (x5 : Int32), f_Receiver_frameWindow_69 (f_Receiver_frameWindow_5 Sh_depth Sh_wordBytes Sh_e Rc_bytes n5) x1 x2 x3 x5 = some rr → ∀ (H : Heap) (locs : List Loc), va_P D classes (w_Receiver_frameWindow cI cJ qRc qSh qRc_bytes Rc_words Rc_mixer Rc_nearest Rc_found Rc_facts Rc_putRight Rc_lastOfChannel Rc_lastMaster Rc_differing Rc_taken Sh_pattern Sh_depth Sh_wordBytes Sh_e Rc_bytes) H → va_D A (w_Receiver_frameWindow cI cJ qRc qSh qRc_bytes Rc_words Rc_mixer Rc_nearest Rc_found Rc_facts Rc_putRight Rc_lastOfChannel Rc_lastMaster Rc_differing Rc_taken Sh_pattern Sh_depth Sh_wordBytes Sh_e Rc_bytes) → va_S A s.heap H locs → ∀ (ls : Array Slot), lv_has ls 8 [(0, .ref qRc), (1, .int x1), (2, .int x2), (3, .long x3), (5, .int x5)] → W p l e (RM 1 20) s m args below meth c H locs 0 0 Q0 (F0 m 69 ls []) := by
        intro x1 x2 x3 x5 hm H locs hP hD hS ls hl
        unfold f_Receiver_frameWindow_69 at hm
        obtain ⟨v1, ev, hm⟩ := nm_el hm
        refine lv_iinc (v := v1) (lv' := [(5, .int v1), (0, .ref qRc), (1, .int x1), (2, .int x2), (3, .long x3)]) hx hb d_Receiver_frameWindow_69 hl (k := 4) rfl (by rw [ev]; rfl) (by decide) rfl (fun ls hl => ?_)
        refine lv_goto (tgt := 5) hx hb d_Receiver_frameWindow_72 (by decide) ?_
        exact ih5 x1 x2 x3 v1 hm _ _ hP hD hS _ (lv_sub hl [1, 2, 3, 4, 0] rfl)
      intro x1 x2 x3 x5 hm H locs hP hD hS ls hl
      replace hm : f_Receiver_frameWindow_5_b Sh_depth Sh_wordBytes Sh_e Rc_bytes (f_Receiver_frameWindow_5 Sh_depth Sh_wordBytes Sh_e Rc_bytes n5) x1 x2 x3 x5 = some rr := hm
      unfold f_Receiver_frameWindow_5_b at hm
      refine lv_iload hx hb d_Receiver_frameWindow_5 (lv_at hl 4 rfl) ?_
      refine lv_bipush (v := (8 : Int32)) hx hb d_Receiver_frameWindow_7 (by decide) ?_
      refine z_if hm (lv_icmp_ge (tgt := 75) hx hb d_Receiver_frameWindow_9 (by decide)) (fun hm => ?_) (fun hm => ?_)
      · refine lv_lload_n hx hb d_Receiver_frameWindow_75 rfl (lv_at hl 3 rfl) ?_
        cases hm
        exact z_qo hQ (z_lret hr hx hb hlocks hK hP hD hS d_Receiver_frameWindow_76)
      · refine lv_iload_n hx hb d_Receiver_frameWindow_12 rfl (lv_at hl 2 rfl) ?_
        refine lv_i2l (v := x2.toInt64) hx hb d_Receiver_frameWindow_13 rfl ?_
        refine lv_iload hx hb d_Receiver_frameWindow_14 (lv_at hl 4 rfl) ?_
        refine lv_i2l (v := x5.toInt64) hx hb d_Receiver_frameWindow_16 rfl ?_
        refine lv_ladd hx hb d_Receiver_frameWindow_17 ?_
        refine z_nml hm (fun v2 hm => ?_)
        refine lv_lstore (lv' := [(6, .long v2), (0, .ref qRc), (1, .int x1), (2, .int x2), (3, .long x3), (5, .int x5)]) hx hb d_Receiver_frameWindow_18 hl (by decide) rfl (fun ls hl => ?_)
        refine lv_lload hx hb d_Receiver_frameWindow_20 (lv_at hl 0 rfl) ?_
        refine lv_lconst (v := (0 : Int64)) hx hb d_Receiver_frameWindow_22 (by decide) ?_
        refine W.lcmp hx hb d_Receiver_frameWindow_23 ?_
        refine z_if hm (lv_if_lt (tgt := 69) hx hb d_Receiver_frameWindow_24 (by decide)) (fun hm => ?_) (fun hm => ?_)
        · exact T69 x1 x2 x3 x5 hm _ _ hP hD hS _ (lv_sub hl [1, 2, 3, 4, 5] rfl)
        · refine lv_lload hx hb d_Receiver_frameWindow_27 (lv_at hl 0 rfl) ?_
          refine lv_aload_n hx hb d_Receiver_frameWindow_29 rfl (lv_at hl 1 rfl) ?_
          refine va_get (D := D) (ci := 6) (v := .ref qSh) (C := "DeepChannel$Receiver") (T := fT_Receiver) (N := 12) hx hb hts u_Receiver hown hK hP 0 rfl rfl 0 (by decide) (hts _ k_304) (fun _ h9 => h9) rfl d_Receiver_frameWindow_30 ?_
          obtain ⟨r3, hu, hm⟩ := bd_el hm
          replace hm := nm_1 hm
          refine z_cVi (wc := w_Shape_frameBytes cI cJ qSh Sh_pattern Sh_depth Sh_wordBytes Sh_e) (wc' := w_Shape_frameBytes cI cJ qSh Sh_pattern Sh_depth Sh_wordBytes Sh_e) (wr := [(qRc, .inr (6, [.ref qSh, Rc_words, Rc_mixer, Rc_nearest, Rc_found, .ref qRc_bytes, Rc_facts, Rc_putRight, Rc_lastOfChannel, Rc_lastMaster, Rc_differing, Rc_taken])), (qRc_bytes, .inl (cI, 512, .inl Rc_bytes))]) (As := []) (rest := [.long v2]) (c_Shape_frameBytes l D cI cJ tt qSh Sh_pattern _ Sh_depth Sh_wordBytes Sh_e r3 hu) F ok_Shape_frameBytes rfl k_808 hK hE hP hD hS hA [1] [0, 2] rfl rfl (by decide) (by decide) (by decide) 0 rfl rfl rfl ⟨rfl, rfl, Nat.le_of_ble_eq_true rfl, Nat.le_of_ble_eq_true rfl⟩ ⟨Nat.zero_le _, Nat.zero_le _⟩ rfl hl.1 rfl (Nat.le_of_ble_eq_true rfl) d_Receiver_frameWindow_33 (fun H locs hP hD hS => ?_)
          have hP : va_P D classes (w_Receiver_frameWindow cI cJ qRc qSh qRc_bytes Rc_words Rc_mixer Rc_nearest Rc_found Rc_facts Rc_putRight Rc_lastOfChannel Rc_lastMaster Rc_differing Rc_taken Sh_pattern Sh_depth Sh_wordBytes Sh_e Rc_bytes) H := hP.sub [0, 2, 1] rfl
          have hD : va_D A (w_Receiver_frameWindow cI cJ qRc qSh qRc_bytes Rc_words Rc_mixer Rc_nearest Rc_found Rc_facts Rc_putRight Rc_lastOfChannel Rc_lastMaster Rc_differing Rc_taken Sh_pattern Sh_depth Sh_wordBytes Sh_e Rc_bytes) := hD.sub [0, 2, 1] (by decide) rfl
          refine lv_i2l (v := r3.toInt64) hx hb d_Receiver_frameWindow_36 rfl ?_
          refine W.lcmp hx hb d_Receiver_frameWindow_37 ?_
          refine z_if hm (lv_if_ge (tgt := 69) hx hb d_Receiver_frameWindow_38 (by decide)) (fun hm => ?_) (fun hm => ?_)
          · exact T69 x1 x2 x3 x5 hm _ _ hP hD hS _ (lv_sub hl [1, 2, 3, 4, 5] rfl)
          · refine lv_lload_n hx hb d_Receiver_frameWindow_41 rfl (lv_at hl 4 rfl) ?_
            refine lv_aload_n hx hb d_Receiver_frameWindow_42 rfl (lv_at hl 1 rfl) ?_
            refine va_get (D := D) (ci := 6) (v := .ref qRc_bytes) (C := "DeepChannel$Receiver") (T := fT_Receiver) (N := 12) hx hb hts u_Receiver hown hK hP 0 rfl rfl 5 (by decide) (hts _ k_309) (fun _ h9 => h9) rfl d_Receiver_frameWindow_43 ?_
            refine lv_iload_n hx hb d_Receiver_frameWindow_46 rfl (lv_at hl 2 rfl) ?_
            refine lv_aload_n hx hb d_Receiver_frameWindow_47 rfl (lv_at hl 1 rfl) ?_
            refine va_get (D := D) (ci := 6) (v := .ref qSh) (C := "DeepChannel$Receiver") (T := fT_Receiver) (N := 12) hx hb hts u_Receiver hown hK hP 0 rfl rfl 0 (by decide) (hts _ k_304) (fun _ h9 => h9) rfl d_Receiver_frameWindow_48 ?_
            obtain ⟨r5, hu, hm⟩ := bd_el hm
            replace hm := nm_1 hm
            refine z_cVi (wc := w_Shape_blockBytes cI cJ qSh (.int Sh_e) Sh_pattern Sh_depth Sh_wordBytes) (wc' := w_Shape_blockBytes cI cJ qSh (.int Sh_e) Sh_pattern Sh_depth Sh_wordBytes) (wr := [(qRc, .inr (6, [.ref qSh, Rc_words, Rc_mixer, Rc_nearest, Rc_found, .ref qRc_bytes, Rc_facts, Rc_putRight, Rc_lastOfChannel, Rc_lastMaster, Rc_differing, Rc_taken])), (qRc_bytes, .inl (cI, 512, .inl Rc_bytes))]) (As := []) (rest := [.int x1, .ref qRc_bytes, .long x3]) (c_Shape_blockBytes l D cI cJ tt qSh (.int Sh_e) Sh_pattern _ Sh_depth Sh_wordBytes r5 hu) F ok_Shape_blockBytes rfl k_726 hK hE hP hD hS hA [1] [0, 2] rfl rfl (by decide) (by decide) (by decide) 0 rfl rfl rfl ⟨rfl, rfl, Nat.le_of_ble_eq_true rfl, Nat.le_of_ble_eq_true rfl⟩ ⟨Nat.zero_le _, Nat.zero_le _⟩ rfl hl.1 rfl (Nat.le_of_ble_eq_true rfl) d_Receiver_frameWindow_51 (fun H locs hP hD hS => ?_)
            have hP : va_P D classes (w_Receiver_frameWindow cI cJ qRc qSh qRc_bytes Rc_words Rc_mixer Rc_nearest Rc_found Rc_facts Rc_putRight Rc_lastOfChannel Rc_lastMaster Rc_differing Rc_taken Sh_pattern Sh_depth Sh_wordBytes Sh_e Rc_bytes) H := hP.sub [0, 2, 1] rfl
            have hD : va_D A (w_Receiver_frameWindow cI cJ qRc qSh qRc_bytes Rc_words Rc_mixer Rc_nearest Rc_found Rc_facts Rc_putRight Rc_lastOfChannel Rc_lastMaster Rc_differing Rc_taken Sh_pattern Sh_depth Sh_wordBytes Sh_e Rc_bytes) := hD.sub [0, 2, 1] (by decide) rfl
            refine lv_imul hx hb d_Receiver_frameWindow_54 ?_
            refine lv_lload hx hb d_Receiver_frameWindow_55 (lv_at hl 0 rfl) ?_
            refine lv_l2i (v := v2.toInt32) hx hb d_Receiver_frameWindow_57 rfl ?_
            refine lv_iadd hx hb d_Receiver_frameWindow_58 ?_
            refine z_iald hm hx hb hK hP 2 rfl d_Receiver_frameWindow_59 (fun v7 hm => ?_)
            refine lv_i2l (v := v7.toInt64) hx hb d_Receiver_frameWindow_60 rfl ?_
            refine lv_bipush (v := (8 : Int32)) hx hb d_Receiver_frameWindow_61 (by decide) ?_
            refine lv_iload hx hb d_Receiver_frameWindow_63 (lv_at hl 5 rfl) ?_
            refine lv_imul hx hb d_Receiver_frameWindow_65 ?_
            refine lv_lshl (v := (v7.toInt64 <<< (((8 : Int32) * x5).toInt64 &&& 63))) hx hb d_Receiver_frameWindow_66 rfl ?_
            refine lv_lor hx hb d_Receiver_frameWindow_67 ?_
            refine z_nml hm (fun v8 hm => ?_)
            refine lv_lstore_n (lv' := [(3, .long v8), (6, .long v2), (0, .ref qRc), (1, .int x1), (2, .int x2), (5, .int x5)]) hx hb d_Receiver_frameWindow_68 rfl hl (by decide) rfl (fun ls hl => ?_)
            exact T69 x1 x2 v8 x5 hm _ _ hP hD hS _ (lv_sub hl [2, 3, 4, 0, 5] rfl)
  unfold f_Receiver_frameWindow at hm
  refine lv_lconst (v := (0 : Int64)) hx hb d_Receiver_frameWindow_0 (by decide) ?_
  refine lv_lstore_n (lv' := [(3, .long (0 : Int64)), (0, .ref qRc), (1, .int x1), (2, .int x2)]) hx hb d_Receiver_frameWindow_1 rfl hl (by decide) rfl (fun ls hl => ?_)
  refine lv_iconst (v := (0 : Int32)) hx hb d_Receiver_frameWindow_2 (by decide) ?_
  refine lv_istore (lv' := [(5, .int (0 : Int32)), (3, .long (0 : Int64)), (0, .ref qRc), (1, .int x1), (2, .int x2)]) hx hb d_Receiver_frameWindow_3 hl (by decide) rfl (fun ls hl => ?_)
  exact T5 10000 x1 x2 (0 : Int64) (0 : Int32) hm _ _ hP hD hS _ (lv_sub hl [2, 3, 4, 1, 0] rfl)
-- DeepChannel$Receiver.setFact(III)V
abbrev b_Receiver_setFact : ByteArray := prog_8_method_15_code
abbrev y_Receiver_setFact : MethodName := ⟨"DeepChannel$Receiver", "setFact", "(III)V"⟩
theorem d_Receiver_setFact_0 : decode b_Receiver_setFact 0 = .ok (.aload_n 0, 1) := by decide +kernel
theorem d_Receiver_setFact_1 : decode b_Receiver_setFact 1 = .ok (.getfield 29, 3) := by decide +kernel
theorem d_Receiver_setFact_4 : decode b_Receiver_setFact 4 = .ok (.iload_n 1, 1) := by decide +kernel
theorem d_Receiver_setFact_5 : decode b_Receiver_setFact 5 = .ok (.bipush 9, 2) := by decide +kernel
theorem d_Receiver_setFact_7 : decode b_Receiver_setFact 7 = .ok (.imul, 1) := by decide +kernel
theorem d_Receiver_setFact_8 : decode b_Receiver_setFact 8 = .ok (.iload_n 2, 1) := by decide +kernel
theorem d_Receiver_setFact_9 : decode b_Receiver_setFact 9 = .ok (.iadd, 1) := by decide +kernel
theorem d_Receiver_setFact_10 : decode b_Receiver_setFact 10 = .ok (.iload_n 3, 1) := by decide +kernel
theorem d_Receiver_setFact_11 : decode b_Receiver_setFact 11 = .ok (.iastore, 1) := by decide +kernel
theorem d_Receiver_setFact_12 : decode b_Receiver_setFact 12 = .ok (.return_, 1) := by decide +kernel
theorem ok_Receiver_setFact : OKv y_Receiver_setFact b_Receiver_setFact 4 none "DeepChannel$Receiver" 3 := ⟨k_735, k_734, k_7, k_53, by decide +kernel, by decide +kernel, by decide +kernel⟩
abbrev w_Receiver_setFact (cI cJ : ClassId) (qRc qRc_facts : Nat) (Rc_shape Rc_words Rc_mixer Rc_nearest Rc_found Rc_bytes Rc_putRight Rc_lastOfChannel Rc_lastMaster Rc_differing Rc_taken : Value) (Rc_facts : Nat → Int32) : va_W := [(qRc, .inr (6, [Rc_shape, Rc_words, Rc_mixer, Rc_nearest, Rc_found, Rc_bytes, .ref qRc_facts, Rc_putRight, Rc_lastOfChannel, Rc_lastMaster, Rc_differing, Rc_taken])), (qRc_facts, .inl (cI, 144, .inl Rc_facts))]
def f_Receiver_setFact (Rc_facts : Nat → Int32) (x1 : Int32) (x2 : Int32) (x3 : Int32) : Option ((Nat → Int32)) :=
  wrI Rc_facts 144 ((x1 * (9 : Int32)) + x2) x3 fun g1 =>
  some g1
set_option maxHeartbeats 4000000 in
set_option maxRecDepth 100000 in
theorem c_Receiver_setFact (l : Launch) (D : va_G) (cI cJ : ClassId) (tt : Nat → Nat) (qRc qRc_facts : Nat) (Rc_shape Rc_words Rc_mixer Rc_nearest Rc_found Rc_bytes Rc_putRight Rc_lastOfChannel Rc_lastMaster Rc_differing Rc_taken : Value) (sz : Nat) (Rc_facts : Nat → Int32) (x1 : Int32) (x2 : Int32) (x3 : Int32) (Rc_facts' : Nat → Int32) (hm : f_Receiver_setFact Rc_facts x1 x2 x3 = some Rc_facts') : CTv l y_Receiver_setFact b_Receiver_setFact 4 none (RM 0 0) D cI cJ tt [.ref qRc, .int x1, .int x2, .int x3] (w_Receiver_setFact cI cJ qRc qRc_facts Rc_shape Rc_words Rc_mixer Rc_nearest Rc_found Rc_bytes Rc_putRight Rc_lastOfChannel Rc_lastMaster Rc_differing Rc_taken Rc_facts) (w_Receiver_setFact cI cJ qRc qRc_facts Rc_shape Rc_words Rc_mixer Rc_nearest Rc_found Rc_bytes Rc_putRight Rc_lastOfChannel Rc_lastMaster Rc_differing Rc_taken Rc_facts') sz := by
  refine Met.ofW (cc := b_Receiver_setFact) (maxL := 4) (ret := none) (by decide) rfl ?_
  intro p e s m args below meth c s₁ B hml hv
  obtain ⟨hargs, hsz, hP, hK, hD0, hE⟩ := hv
  have hx := B.exec
  have hb := B.bytes
  have hr := B.returns
  have hts : ∀ w ∈ TB, w.before args s = true := z_mV s (atoms_spec (ws := WD y_Receiver_setFact b_Receiver_setFact 4 none) B.pre)
  have hown : s.vm.findClass "DeepChannel$Receiver" = some m.cls := findClass_of_methodNamed B.named
  have hlocks := B.notSynchronized
  subst hsz
  have hD := hD0.self (sz := s.heap.size)
  generalize hAe : va_A (w_Receiver_setFact cI cJ qRc qRc_facts Rc_shape Rc_words Rc_mixer Rc_nearest Rc_found Rc_bytes Rc_putRight Rc_lastOfChannel Rc_lastMaster Rc_differing Rc_taken Rc_facts) s.heap.size = A at hD hE ⊢
  have hA : ∀ q : Nat, s.heap.size ≤ q → A q := fun q h => by rw [← hAe]; exact Or.inr h
  have hS : va_S A s.heap s.heap [] := va_S.rf
  refine z_entry (vs := [.ref qRc, .int x1, .int x2, .int x3]) hargs (Nat.le_of_ble_eq_true rfl) (fun ls hl => ?_)
  have hl : lv_has ls 4 [(0, .ref qRc), (1, .int x1), (2, .int x2), (3, .int x3)] := hl
  show W p l e (RM 0 0) s m args below meth c s.heap [] 0 0 _ _
  refine z_qi (fun Q0 hQ => ?_)
  have F : CallFix p m c b_Receiver_setFact 4 s args TB "DeepChannel$Receiver" := ⟨hx, hb, hml, hown, hts⟩
  unfold f_Receiver_setFact at hm
  refine lv_aload_n hx hb d_Receiver_setFact_0 rfl (lv_at hl 0 rfl) ?_
  refine va_get (D := D) (ci := 6) (v := .ref qRc_facts) (C := "DeepChannel$Receiver") (T := fT_Receiver) (N := 12) hx hb hts u_Receiver hown hK hP 0 rfl rfl 6 (by decide) (hts _ k_310) (fun _ h9 => h9) rfl d_Receiver_setFact_1 ?_
  refine lv_iload_n hx hb d_Receiver_setFact_4 rfl (lv_at hl 1 rfl) ?_
  refine lv_bipush (v := (9 : Int32)) hx hb d_Receiver_setFact_5 (by decide) ?_
  refine lv_imul hx hb d_Receiver_setFact_7 ?_
  refine lv_iload_n hx hb d_Receiver_setFact_8 rfl (lv_at hl 2 rfl) ?_
  refine lv_iadd hx hb d_Receiver_setFact_9 ?_
  refine lv_iload_n hx hb d_Receiver_setFact_10 rfl (lv_at hl 3 rfl) ?_
  refine z_iast hm hx hb hK hP hD hS 1 rfl d_Receiver_setFact_11 (fun g1 hm H locs hP hD hS => ?_)
  have hP : va_P D classes (w_Receiver_setFact cI cJ qRc qRc_facts Rc_shape Rc_words Rc_mixer Rc_nearest Rc_found Rc_bytes Rc_putRight Rc_lastOfChannel Rc_lastMaster Rc_differing Rc_taken g1) H := hP
  have hD : va_D A (w_Receiver_setFact cI cJ qRc qRc_facts Rc_shape Rc_words Rc_mixer Rc_nearest Rc_found Rc_bytes Rc_putRight Rc_lastOfChannel Rc_lastMaster Rc_differing Rc_taken g1) := hD
  cases hm
  exact z_qo hQ (z_vret hr hx hb hlocks hK hP hD hS d_Receiver_setFact_12)
-- DeepChannel$Receiver.findBlocks(I)V
abbrev b_Receiver_findBlocks : ByteArray := prog_8_method_12_code
abbrev y_Receiver_findBlocks : MethodName := ⟨"DeepChannel$Receiver", "findBlocks", "(I)V"⟩
theorem d_Receiver_findBlocks_0 : decode b_Receiver_findBlocks 0 = .ok (.bipush 32, 2) := by decide +kernel
theorem d_Receiver_findBlocks_2 : decode b_Receiver_findBlocks 2 = .ok (.bipush 8, 2) := by decide +kernel
theorem d_Receiver_findBlocks_4 : decode b_Receiver_findBlocks 4 = .ok (.aload_n 0, 1) := by decide +kernel
theorem d_Receiver_findBlocks_5 : decode b_Receiver_findBlocks 5 = .ok (.getfield 48, 3) := by decide +kernel
theorem d_Receiver_findBlocks_8 : decode b_Receiver_findBlocks 8 = .ok (.invokevirtual 79, 3) := by decide +kernel
theorem d_Receiver_findBlocks_11 : decode b_Receiver_findBlocks 11 = .ok (.imul, 1) := by decide +kernel
theorem d_Receiver_findBlocks_12 : decode b_Receiver_findBlocks 12 = .ok (.iadd, 1) := by decide +kernel
theorem d_Receiver_findBlocks_13 : decode b_Receiver_findBlocks 13 = .ok (.istore_n 2, 1) := by decide +kernel
theorem d_Receiver_findBlocks_14 : decode b_Receiver_findBlocks 14 = .ok (.ldc2_w 89, 3) := by decide +kernel
theorem d_Receiver_findBlocks_17 : decode b_Receiver_findBlocks 17 = .ok (.bipush 32, 2) := by decide +kernel
theorem d_Receiver_findBlocks_19 : decode b_Receiver_findBlocks 19 = .ok (.invokestatic 91, 3) := by decide +kernel
theorem d_Receiver_findBlocks_22 : decode b_Receiver_findBlocks 22 = .ok (.istore_n 3, 1) := by decide +kernel
theorem d_Receiver_findBlocks_23 : decode b_Receiver_findBlocks 23 = .ok (.iconst (-1), 1) := by decide +kernel
theorem d_Receiver_findBlocks_24 : decode b_Receiver_findBlocks 24 = .ok (.istore 4, 2) := by decide +kernel
theorem d_Receiver_findBlocks_26 : decode b_Receiver_findBlocks 26 = .ok (.iconst 0, 1) := by decide +kernel
theorem d_Receiver_findBlocks_27 : decode b_Receiver_findBlocks 27 = .ok (.istore 5, 2) := by decide +kernel
theorem d_Receiver_findBlocks_29 : decode b_Receiver_findBlocks 29 = .ok (.aload_n 0, 1) := by decide +kernel
theorem d_Receiver_findBlocks_30 : decode b_Receiver_findBlocks 30 = .ok (.iconst 0, 1) := by decide +kernel
theorem d_Receiver_findBlocks_31 : decode b_Receiver_findBlocks 31 = .ok (.putfield 45, 3) := by decide +kernel
theorem d_Receiver_findBlocks_34 : decode b_Receiver_findBlocks 34 = .ok (.iload 5, 2) := by decide +kernel
theorem d_Receiver_findBlocks_36 : decode b_Receiver_findBlocks 36 = .ok (.iload_n 2, 1) := by decide +kernel
theorem d_Receiver_findBlocks_37 : decode b_Receiver_findBlocks 37 = .ok (.iadd, 1) := by decide +kernel
theorem d_Receiver_findBlocks_38 : decode b_Receiver_findBlocks 38 = .ok (.aload_n 0, 1) := by decide +kernel
theorem d_Receiver_findBlocks_39 : decode b_Receiver_findBlocks 39 = .ok (.getfield 21, 3) := by decide +kernel
theorem d_Receiver_findBlocks_42 : decode b_Receiver_findBlocks 42 = .ok (.invokevirtual 63, 3) := by decide +kernel
theorem d_Receiver_findBlocks_45 : decode b_Receiver_findBlocks 45 = .ok (.if_icmp .gt 106, 3) := by decide +kernel
theorem d_Receiver_findBlocks_48 : decode b_Receiver_findBlocks 48 = .ok (.aload_n 0, 1) := by decide +kernel
theorem d_Receiver_findBlocks_49 : decode b_Receiver_findBlocks 49 = .ok (.getfield 45, 3) := by decide +kernel
theorem d_Receiver_findBlocks_52 : decode b_Receiver_findBlocks 52 = .ok (.bipush 16, 2) := by decide +kernel
theorem d_Receiver_findBlocks_54 : decode b_Receiver_findBlocks 54 = .ok (.if_icmp .ge 97, 3) := by decide +kernel
theorem d_Receiver_findBlocks_57 : decode b_Receiver_findBlocks 57 = .ok (.aload_n 0, 1) := by decide +kernel
theorem d_Receiver_findBlocks_58 : decode b_Receiver_findBlocks 58 = .ok (.getfield 21, 3) := by decide +kernel
theorem d_Receiver_findBlocks_61 : decode b_Receiver_findBlocks 61 = .ok (.iload 5, 2) := by decide +kernel
theorem d_Receiver_findBlocks_63 : decode b_Receiver_findBlocks 63 = .ok (.invokevirtual 67, 3) := by decide +kernel
theorem d_Receiver_findBlocks_66 : decode b_Receiver_findBlocks 66 = .ok (.l2i, 1) := by decide +kernel
theorem d_Receiver_findBlocks_67 : decode b_Receiver_findBlocks 67 = .ok (.iload_n 3, 1) := by decide +kernel
theorem d_Receiver_findBlocks_68 : decode b_Receiver_findBlocks 68 = .ok (.ixor, 1) := by decide +kernel
theorem d_Receiver_findBlocks_69 : decode b_Receiver_findBlocks 69 = .ok (.invokestatic 95, 3) := by decide +kernel
theorem d_Receiver_findBlocks_72 : decode b_Receiver_findBlocks 72 = .ok (.istore 6, 2) := by decide +kernel
theorem d_Receiver_findBlocks_74 : decode b_Receiver_findBlocks 74 = .ok (.iload 6, 2) := by decide +kernel
theorem d_Receiver_findBlocks_76 : decode b_Receiver_findBlocks 76 = .ok (.iload_n 1, 1) := by decide +kernel
theorem d_Receiver_findBlocks_77 : decode b_Receiver_findBlocks 77 = .ok (.if_icmp .le 10, 3) := by decide +kernel
theorem d_Receiver_findBlocks_80 : decode b_Receiver_findBlocks 80 = .ok (.iload 5, 2) := by decide +kernel
theorem d_Receiver_findBlocks_82 : decode b_Receiver_findBlocks 82 = .ok (.iload 4, 2) := by decide +kernel
theorem d_Receiver_findBlocks_84 : decode b_Receiver_findBlocks 84 = .ok (.if_icmp .ne 61, 3) := by decide +kernel
theorem d_Receiver_findBlocks_87 : decode b_Receiver_findBlocks 87 = .ok (.aload_n 0, 1) := by decide +kernel
theorem d_Receiver_findBlocks_88 : decode b_Receiver_findBlocks 88 = .ok (.aload_n 0, 1) := by decide +kernel
theorem d_Receiver_findBlocks_89 : decode b_Receiver_findBlocks 89 = .ok (.getfield 45, 3) := by decide +kernel
theorem d_Receiver_findBlocks_92 : decode b_Receiver_findBlocks 92 = .ok (.iconst 0, 1) := by decide +kernel
theorem d_Receiver_findBlocks_93 : decode b_Receiver_findBlocks 93 = .ok (.iload 5, 2) := by decide +kernel
theorem d_Receiver_findBlocks_95 : decode b_Receiver_findBlocks 95 = .ok (.bipush 32, 2) := by decide +kernel
theorem d_Receiver_findBlocks_97 : decode b_Receiver_findBlocks 97 = .ok (.iadd, 1) := by decide +kernel
theorem d_Receiver_findBlocks_98 : decode b_Receiver_findBlocks 98 = .ok (.invokevirtual 101, 3) := by decide +kernel
theorem d_Receiver_findBlocks_101 : decode b_Receiver_findBlocks 101 = .ok (.aload_n 0, 1) := by decide +kernel
theorem d_Receiver_findBlocks_102 : decode b_Receiver_findBlocks 102 = .ok (.aload_n 0, 1) := by decide +kernel
theorem d_Receiver_findBlocks_103 : decode b_Receiver_findBlocks 103 = .ok (.getfield 45, 3) := by decide +kernel
theorem d_Receiver_findBlocks_106 : decode b_Receiver_findBlocks 106 = .ok (.iconst 1, 1) := by decide +kernel
theorem d_Receiver_findBlocks_107 : decode b_Receiver_findBlocks 107 = .ok (.iload 6, 2) := by decide +kernel
theorem d_Receiver_findBlocks_109 : decode b_Receiver_findBlocks 109 = .ok (.invokevirtual 101, 3) := by decide +kernel
theorem d_Receiver_findBlocks_112 : decode b_Receiver_findBlocks 112 = .ok (.aload_n 0, 1) := by decide +kernel
theorem d_Receiver_findBlocks_113 : decode b_Receiver_findBlocks 113 = .ok (.dup, 1) := by decide +kernel
theorem d_Receiver_findBlocks_114 : decode b_Receiver_findBlocks 114 = .ok (.getfield 45, 3) := by decide +kernel
theorem d_Receiver_findBlocks_117 : decode b_Receiver_findBlocks 117 = .ok (.iconst 1, 1) := by decide +kernel
theorem d_Receiver_findBlocks_118 : decode b_Receiver_findBlocks 118 = .ok (.iadd, 1) := by decide +kernel
theorem d_Receiver_findBlocks_119 : decode b_Receiver_findBlocks 119 = .ok (.putfield 45, 3) := by decide +kernel
theorem d_Receiver_findBlocks_122 : decode b_Receiver_findBlocks 122 = .ok (.iload 5, 2) := by decide +kernel
theorem d_Receiver_findBlocks_124 : decode b_Receiver_findBlocks 124 = .ok (.iload_n 2, 1) := by decide +kernel
theorem d_Receiver_findBlocks_125 : decode b_Receiver_findBlocks 125 = .ok (.iadd, 1) := by decide +kernel
theorem d_Receiver_findBlocks_126 : decode b_Receiver_findBlocks 126 = .ok (.istore 5, 2) := by decide +kernel
theorem d_Receiver_findBlocks_128 : decode b_Receiver_findBlocks 128 = .ok (.iload 6, 2) := by decide +kernel
theorem d_Receiver_findBlocks_130 : decode b_Receiver_findBlocks 130 = .ok (.iload_n 1, 1) := by decide +kernel
theorem d_Receiver_findBlocks_131 : decode b_Receiver_findBlocks 131 = .ok (.if_icmp .gt 8, 3) := by decide +kernel
theorem d_Receiver_findBlocks_134 : decode b_Receiver_findBlocks 134 = .ok (.iload 5, 2) := by decide +kernel
theorem d_Receiver_findBlocks_136 : decode b_Receiver_findBlocks 136 = .ok (.goto 4, 3) := by decide +kernel
theorem d_Receiver_findBlocks_139 : decode b_Receiver_findBlocks 139 = .ok (.iconst (-1), 1) := by decide +kernel
theorem d_Receiver_findBlocks_140 : decode b_Receiver_findBlocks 140 = .ok (.istore 4, 2) := by decide +kernel
theorem d_Receiver_findBlocks_142 : decode b_Receiver_findBlocks 142 = .ok (.goto 6, 3) := by decide +kernel
theorem d_Receiver_findBlocks_145 : decode b_Receiver_findBlocks 145 = .ok (.iinc 5 1, 3) := by decide +kernel
theorem d_Receiver_findBlocks_148 : decode b_Receiver_findBlocks 148 = .ok (.goto (-114), 3) := by decide +kernel
theorem d_Receiver_findBlocks_151 : decode b_Receiver_findBlocks 151 = .ok (.return_, 1) := by decide +kernel
theorem ok_Receiver_findBlocks : OKv y_Receiver_findBlocks b_Receiver_findBlocks 7 none "DeepChannel$Receiver" 1 := ⟨k_725, k_723, k_724, k_53, by decide +kernel, by decide +kernel, by decide +kernel⟩
abbrev w_Receiver_findBlocks (cI cJ : ClassId) (qRc qSh qFo qFo_cells qRc_facts : Nat) (Rc_words Rc_mixer Rc_nearest Rc_bytes Rc_putRight Rc_lastOfChannel Rc_lastMaster Rc_differing Sh_e Sh_pattern : Value) (Rc_taken : Int32) (Sh_depth : Int32) (Sh_wordBytes : Int32) (Fo_length : Int32) (Fo_cells : Nat → Int64) (Rc_facts : Nat → Int32) : va_W := [(qRc, .inr (6, [.ref qSh, Rc_words, Rc_mixer, Rc_nearest, .ref qFo, Rc_bytes, .ref qRc_facts, Rc_putRight, Rc_lastOfChannel, Rc_lastMaster, Rc_differing, .int Rc_taken])), (qSh, .inr (8, [.int Sh_depth, .int Sh_wordBytes, Sh_e, Sh_pattern])), (qFo, .inr (0, [.ref qFo_cells, .int Fo_length])), (qFo_cells, .inl (cJ, 64, .inr (.inl Fo_cells))), (qRc_facts, .inl (cI, 144, .inl Rc_facts))]
def f_Receiver_findBlocks_148 (kh34 : Int32 → Int32 → Int32 → Int32 → Int32 → Int32 → (Nat → Int32) → Option (Int32 × (Nat → Int32))) (x1 : Int32) (x2 : Int32) (x3 : Int32) (x4 : Int32) (x5 : Int32) (Rc_taken : Int32) (Rc_facts : Nat → Int32) : Option (Int32 × (Nat → Int32)) :=
  kh34 x1 x2 x3 x4 x5 Rc_taken Rc_facts
def f_Receiver_findBlocks_140 (kh34 : Int32 → Int32 → Int32 → Int32 → Int32 → Int32 → (Nat → Int32) → Option (Int32 × (Nat → Int32))) (x1 : Int32) (x2 : Int32) (x3 : Int32) (x5 : Int32) (t0 : Int32) (Rc_taken : Int32) (Rc_facts : Nat → Int32) : Option (Int32 × (Nat → Int32)) :=
  f_Receiver_findBlocks_148 kh34 x1 x2 x3 t0 x5 Rc_taken Rc_facts
def f_Receiver_findBlocks_87 (kh34 : Int32 → Int32 → Int32 → Int32 → Int32 → Int32 → (Nat → Int32) → Option (Int32 × (Nat → Int32))) (x1 : Int32) (x2 : Int32) (x3 : Int32) (x5 : Int32) (x6 : Int32) (Rc_taken : Int32) (Rc_facts : Nat → Int32) : Option (Int32 × (Nat → Int32)) :=
  bd (f_Receiver_setFact Rc_facts Rc_taken (0 : Int32) (x5 + (32 : Int32))) fun u2 =>
  nm u2 fun g1 =>
  bd (f_Receiver_setFact g1 Rc_taken (1 : Int32) x6) fun u4 =>
  nm u4 fun g3 =>
  nm (Rc_taken + (1 : Int32)) fun v5 =>
  nm (x5 + x2) fun v6 =>
  if x1 < x6 then
    f_Receiver_findBlocks_140 kh34 x1 x2 x3 v6 (-1 : Int32) v5 g3
  else
  f_Receiver_findBlocks_140 kh34 x1 x2 x3 v6 v6 v5 g3
def f_Receiver_findBlocks_34_b (Fo_length : Int32) (Fo_cells : Nat → Int64) (kh34 : Int32 → Int32 → Int32 → Int32 → Int32 → Int32 → (Nat → Int32) → Option (Int32 × (Nat → Int32))) (x1 : Int32) (x2 : Int32) (x3 : Int32) (x4 : Int32) (x5 : Int32) (Rc_taken : Int32) (Rc_facts : Nat → Int32) : Option (Int32 × (Nat → Int32)) :=
  bd (f_BitRow_size Fo_length) fun u8 =>
  nm u8 fun r7 =>
  if r7 < (x5 + x2) then
    some (Rc_taken, Rc_facts)
  else
  if (16 : Int32) ≤ Rc_taken then
    some (Rc_taken, Rc_facts)
  else
  bd (f_BitRow_window Fo_cells x5) fun u10 =>
  nm u10 fun r9 =>
  bd (f_Integer_bitCount (r9.toInt32 ^^^ x3)) fun u12 =>
  nm u12 fun r11 =>
  if r11 ≤ x1 then
    f_Receiver_findBlocks_87 kh34 x1 x2 x3 x5 r11 Rc_taken Rc_facts
  else
  if x5 = x4 then
    f_Receiver_findBlocks_87 kh34 x1 x2 x3 x5 r11 Rc_taken Rc_facts
  else
  nm (x5 + (1 : Int32)) fun v13 =>
  f_Receiver_findBlocks_148 kh34 x1 x2 x3 x4 v13 Rc_taken Rc_facts
def f_Receiver_findBlocks_34 (Fo_length : Int32) (Fo_cells : Nat → Int64) : Nat → Int32 → Int32 → Int32 → Int32 → Int32 → Int32 → (Nat → Int32) → Option (Int32 × (Nat → Int32))
  | 0 => fun _ _ _ _ _ _ _ => none
  | n + 1 => fun x1 x2 x3 x4 x5 Rc_taken Rc_facts => f_Receiver_findBlocks_34_b Fo_length Fo_cells (f_Receiver_findBlocks_34 Fo_length Fo_cells n) x1 x2 x3 x4 x5 Rc_taken Rc_facts
def f_Receiver_findBlocks (Rc_taken : Int32) (Sh_depth : Int32) (Sh_wordBytes : Int32) (Fo_length : Int32) (Fo_cells : Nat → Int64) (Rc_facts : Nat → Int32) (x1 : Int32) : Option (Int32 × (Nat → Int32)) :=
  bd (f_Shape_blockBytes Sh_depth Sh_wordBytes) fun u15 =>
  nm u15 fun r14 =>
  nm ((32 : Int32) + ((8 : Int32) * r14)) fun v16 =>
  bd (f_DC_mirrored (449838109 : Int64) (32 : Int32)) fun u18 =>
  nm u18 fun r17 =>
  f_Receiver_findBlocks_34 Fo_length Fo_cells 10000 x1 v16 r17 (-1 : Int32) (0 : Int32) (0 : Int32) Rc_facts
set_option maxHeartbeats 4000000 in
set_option maxRecDepth 100000 in
theorem c_Receiver_findBlocks (l : Launch) (D : va_G) (cI cJ : ClassId) (tt : Nat → Nat) (qRc qSh qFo qFo_cells qRc_facts : Nat) (Rc_words Rc_mixer Rc_nearest Rc_bytes Rc_putRight Rc_lastOfChannel Rc_lastMaster Rc_differing Sh_e Sh_pattern : Value) (sz : Nat) (Rc_taken : Int32) (Sh_depth : Int32) (Sh_wordBytes : Int32) (Fo_length : Int32) (Fo_cells : Nat → Int64) (Rc_facts : Nat → Int32) (x1 : Int32) (Rc_taken' : Int32) (Rc_facts' : Nat → Int32) (hm : f_Receiver_findBlocks Rc_taken Sh_depth Sh_wordBytes Fo_length Fo_cells Rc_facts x1 = some (Rc_taken', Rc_facts')) : CTv l y_Receiver_findBlocks b_Receiver_findBlocks 7 none (RM 2 46) D cI cJ tt [.ref qRc, .int x1] (w_Receiver_findBlocks cI cJ qRc qSh qFo qFo_cells qRc_facts Rc_words Rc_mixer Rc_nearest Rc_bytes Rc_putRight Rc_lastOfChannel Rc_lastMaster Rc_differing Sh_e Sh_pattern Rc_taken Sh_depth Sh_wordBytes Fo_length Fo_cells Rc_facts) (w_Receiver_findBlocks cI cJ qRc qSh qFo qFo_cells qRc_facts Rc_words Rc_mixer Rc_nearest Rc_bytes Rc_putRight Rc_lastOfChannel Rc_lastMaster Rc_differing Sh_e Sh_pattern Rc_taken' Sh_depth Sh_wordBytes Fo_length Fo_cells Rc_facts') sz := by
  refine Met.ofW (cc := b_Receiver_findBlocks) (maxL := 7) (ret := none) (by decide) rfl ?_
  intro p e s m args below meth c s₁ B hml hv
  obtain ⟨hargs, hsz, hP, hK, hD0, hE⟩ := hv
  have hx := B.exec
  have hb := B.bytes
  have hr := B.returns
  have hts : ∀ w ∈ TB, w.before args s = true := z_mV s (atoms_spec (ws := WD y_Receiver_findBlocks b_Receiver_findBlocks 7 none) B.pre)
  have hown : s.vm.findClass "DeepChannel$Receiver" = some m.cls := findClass_of_methodNamed B.named
  have hlocks := B.notSynchronized
  subst hsz
  have hD := hD0.self (sz := s.heap.size)
  generalize hAe : va_A (w_Receiver_findBlocks cI cJ qRc qSh qFo qFo_cells qRc_facts Rc_words Rc_mixer Rc_nearest Rc_bytes Rc_putRight Rc_lastOfChannel Rc_lastMaster Rc_differing Sh_e Sh_pattern Rc_taken Sh_depth Sh_wordBytes Fo_length Fo_cells Rc_facts) s.heap.size = A at hD hE ⊢
  have hA : ∀ q : Nat, s.heap.size ≤ q → A q := fun q h => by rw [← hAe]; exact Or.inr h
  have hS : va_S A s.heap s.heap [] := va_S.rf
  refine z_entry (vs := [.ref qRc, .int x1]) hargs (Nat.le_of_ble_eq_true rfl) (fun ls hl => ?_)
  have hl : lv_has ls 7 [(0, .ref qRc), (1, .int x1)] := hl
  show W p l e (RM 2 46) s m args below meth c s.heap [] 0 0 _ _
  refine z_qi (fun Q0 hQ => ?_)
  have F : CallFix p m c b_Receiver_findBlocks 7 s args TB "DeepChannel$Receiver" := ⟨hx, hb, hml, hown, hts⟩
  have T34 : ∀ (n34 : Nat) (x1 : Int32) (x2 : Int32) (x3 : Int32) (x4 : Int32) (x5 : Int32) (Rc_taken : Int32) (Rc_facts : Nat → Int32), f_Receiver_findBlocks_34 Fo_length Fo_cells n34 x1 x2 x3 x4 x5 Rc_taken Rc_facts = some (Rc_taken', Rc_facts') → ∀ (H : Heap) (locs : List Loc), va_P D classes (w_Receiver_findBlocks cI cJ qRc qSh qFo qFo_cells qRc_facts Rc_words Rc_mixer Rc_nearest Rc_bytes Rc_putRight Rc_lastOfChannel Rc_lastMaster Rc_differing Sh_e Sh_pattern Rc_taken Sh_depth Sh_wordBytes Fo_length Fo_cells Rc_facts) H → va_D A (w_Receiver_findBlocks cI cJ qRc qSh qFo qFo_cells qRc_facts Rc_words Rc_mixer Rc_nearest Rc_bytes Rc_putRight Rc_lastOfChannel Rc_lastMaster Rc_differing Sh_e Sh_pattern Rc_taken Sh_depth Sh_wordBytes Fo_length Fo_cells Rc_facts) → va_S A s.heap H locs → ∀ (ls : Array Slot), lv_has ls 7 [(0, .ref qRc), (1, .int x1), (2, .int x2), (3, .int x3), (4, .int x4), (5, .int x5)] → W p l e (RM 2 46) s m args below meth c H locs 0 0 Q0 (F0 m 34 ls []) := by
    intro n34
    induction n34 with
    | zero => intro x1 x2 x3 x4 x5 Rc_taken Rc_facts hm; cases hm
    | succ n34 ih34 =>
      have T148 : ∀ (x1 : Int32) (x2 : Int32) (x3 : Int32) (x4 : Int32) (x5 : Int32) (Rc_taken : Int32) (Rc_facts : Nat → Int32), f_Receiver_findBlocks_148 (f_Receiver_findBlocks_34 Fo_length Fo_cells n34) x1 x2 x3 x4 x5 Rc_taken Rc_facts = some (Rc_taken', Rc_facts') → ∀ (H : Heap) (locs : List Loc), va_P D classes (w_Receiver_findBlocks cI cJ qRc qSh qFo qFo_cells qRc_facts Rc_words Rc_mixer Rc_nearest Rc_bytes Rc_putRight Rc_lastOfChannel Rc_lastMaster Rc_differing Sh_e Sh_pattern Rc_taken Sh_depth Sh_wordBytes Fo_length Fo_cells Rc_facts) H → va_D A (w_Receiver_findBlocks cI cJ qRc qSh qFo qFo_cells qRc_facts Rc_words Rc_mixer Rc_nearest Rc_bytes Rc_putRight Rc_lastOfChannel Rc_lastMaster Rc_differing Sh_e Sh_pattern Rc_taken Sh_depth Sh_wordBytes Fo_length Fo_cells Rc_facts) → va_S A s.heap H locs → ∀ (ls : Array Slot), lv_has ls 7 [(0, .ref qRc), (1, .int x1), (2, .int x2), (3, .int x3), (4, .int x4), (5, .int x5)] → W p l e (RM 2 46) s m args below meth c H locs 0 0 Q0 (F0 m 148 ls []) := by
        intro x1 x2 x3 x4 x5 Rc_taken Rc_facts hm H locs hP hD hS ls hl
        unfold f_Receiver_findBlocks_148 at hm
        refine lv_goto (tgt := 34) hx hb d_Receiver_findBlocks_148 (by decide) ?_
        exact ih34 x1 x2 x3 x4 x5 Rc_taken Rc_facts hm _ _ hP hD hS _ (lv_sub hl [0, 1, 2, 3, 4, 5] rfl)
      have T140 : ∀ (x1 : Int32) (x2 : Int32) (x3 : Int32) (x5 : Int32) (t0 : Int32) (Rc_taken : Int32) (Rc_facts : Nat → Int32), f_Receiver_findBlocks_140 (f_Receiver_findBlocks_34 Fo_length Fo_cells n34) x1 x2 x3 x5 t0 Rc_taken Rc_facts = some (Rc_taken', Rc_facts') → ∀ (H : Heap) (locs : List Loc), va_P D classes (w_Receiver_findBlocks cI cJ qRc qSh qFo qFo_cells qRc_facts Rc_words Rc_mixer Rc_nearest Rc_bytes Rc_putRight Rc_lastOfChannel Rc_lastMaster Rc_differing Sh_e Sh_pattern Rc_taken Sh_depth Sh_wordBytes Fo_length Fo_cells Rc_facts) H → va_D A (w_Receiver_findBlocks cI cJ qRc qSh qFo qFo_cells qRc_facts Rc_words Rc_mixer Rc_nearest Rc_bytes Rc_putRight Rc_lastOfChannel Rc_lastMaster Rc_differing Sh_e Sh_pattern Rc_taken Sh_depth Sh_wordBytes Fo_length Fo_cells Rc_facts) → va_S A s.heap H locs → ∀ (ls : Array Slot), lv_has ls 7 [(0, .ref qRc), (1, .int x1), (2, .int x2), (3, .int x3), (5, .int x5)] → W p l e (RM 2 46) s m args below meth c H locs 0 0 Q0 (F0 m 140 ls [.int t0]) := by
        intro x1 x2 x3 x5 t0 Rc_taken Rc_facts hm H locs hP hD hS ls hl
        unfold f_Receiver_findBlocks_140 at hm
        refine lv_istore (lv' := [(4, .int t0), (0, .ref qRc), (1, .int x1), (2, .int x2), (3, .int x3), (5, .int x5)]) hx hb d_Receiver_findBlocks_140 hl (by decide) rfl (fun ls hl => ?_)
        refine lv_goto (tgt := 148) hx hb d_Receiver_findBlocks_142 (by decide) ?_
        exact T148 x1 x2 x3 t0 x5 Rc_taken Rc_facts hm _ _ hP hD hS _ (lv_sub hl [1, 2, 3, 4, 0, 5] rfl)
      have T87 : ∀ (x1 : Int32) (x2 : Int32) (x3 : Int32) (x5 : Int32) (x6 : Int32) (Rc_taken : Int32) (Rc_facts : Nat → Int32), f_Receiver_findBlocks_87 (f_Receiver_findBlocks_34 Fo_length Fo_cells n34) x1 x2 x3 x5 x6 Rc_taken Rc_facts = some (Rc_taken', Rc_facts') → ∀ (H : Heap) (locs : List Loc), va_P D classes (w_Receiver_findBlocks cI cJ qRc qSh qFo qFo_cells qRc_facts Rc_words Rc_mixer Rc_nearest Rc_bytes Rc_putRight Rc_lastOfChannel Rc_lastMaster Rc_differing Sh_e Sh_pattern Rc_taken Sh_depth Sh_wordBytes Fo_length Fo_cells Rc_facts) H → va_D A (w_Receiver_findBlocks cI cJ qRc qSh qFo qFo_cells qRc_facts Rc_words Rc_mixer Rc_nearest Rc_bytes Rc_putRight Rc_lastOfChannel Rc_lastMaster Rc_differing Sh_e Sh_pattern Rc_taken Sh_depth Sh_wordBytes Fo_length Fo_cells Rc_facts) → va_S A s.heap H locs → ∀ (ls : Array Slot), lv_has ls 7 [(0, .ref qRc), (1, .int x1), (2, .int x2), (3, .int x3), (5, .int x5), (6, .int x6)] → W p l e (RM 2 46) s m args below meth c H locs 0 0 Q0 (F0 m 87 ls []) := by
        intro x1 x2 x3 x5 x6 Rc_taken Rc_facts hm H locs hP hD hS ls hl
        unfold f_Receiver_findBlocks_87 at hm
        refine lv_aload_n hx hb d_Receiver_findBlocks_87 rfl (lv_at hl 0 rfl) ?_
        refine lv_aload_n hx hb d_Receiver_findBlocks_88 rfl (lv_at hl 0 rfl) ?_
        refine va_get (D := D) (ci := 6) (v := .int Rc_taken) (C := "DeepChannel$Receiver") (T := fT_Receiver) (N := 12) hx hb hts u_Receiver hown hK hP 0 rfl rfl 11 (by decide) (hts _ k_315) (fun _ h9 => h9) rfl d_Receiver_findBlocks_89 ?_
        refine lv_iconst (v := (0 : Int32)) hx hb d_Receiver_findBlocks_92 (by decide) ?_
        refine lv_iload hx hb d_Receiver_findBlocks_93 (lv_at hl 4 rfl) ?_
        refine lv_bipush (v := (32 : Int32)) hx hb d_Receiver_findBlocks_95 (by decide) ?_
        refine lv_iadd hx hb d_Receiver_findBlocks_97 ?_
        obtain ⟨g1, hu, hm⟩ := bd_el hm
        replace hm := nm_1 hm
        refine z_cVv (wc := w_Receiver_setFact cI cJ qRc qRc_facts (.ref qSh) Rc_words Rc_mixer Rc_nearest (.ref qFo) Rc_bytes Rc_putRight Rc_lastOfChannel Rc_lastMaster Rc_differing (.int Rc_taken) Rc_facts) (wc' := w_Receiver_setFact cI cJ qRc qRc_facts (.ref qSh) Rc_words Rc_mixer Rc_nearest (.ref qFo) Rc_bytes Rc_putRight Rc_lastOfChannel Rc_lastMaster Rc_differing (.int Rc_taken) g1) (wr := [(qSh, .inr (8, [.int Sh_depth, .int Sh_wordBytes, Sh_e, Sh_pattern])), (qFo, .inr (0, [.ref qFo_cells, .int Fo_length])), (qFo_cells, .inl (cJ, 64, .inr (.inl Fo_cells)))]) (As := [.int Rc_taken, .int (0 : Int32), .int (x5 + (32 : Int32))]) (rest := []) (c_Receiver_setFact l D cI cJ tt qRc qRc_facts (.ref qSh) Rc_words Rc_mixer Rc_nearest (.ref qFo) Rc_bytes Rc_putRight Rc_lastOfChannel Rc_lastMaster Rc_differing (.int Rc_taken) _ Rc_facts Rc_taken (0 : Int32) (x5 + (32 : Int32)) g1 hu) F ok_Receiver_setFact rfl k_732 hK hE hP hD hS hA [0, 4] [1, 2, 3] rfl rfl (by decide) (by decide) (by decide) 0 rfl rfl rfl ⟨rfl, rfl, Nat.le_of_ble_eq_true rfl, Nat.le_of_ble_eq_true rfl⟩ ⟨Nat.zero_le _, Nat.zero_le _⟩ rfl hl.1 rfl (Nat.le_of_ble_eq_true rfl) d_Receiver_findBlocks_98 (fun H locs hP hD hS => ?_)
        have hP : va_P D classes (w_Receiver_findBlocks cI cJ qRc qSh qFo qFo_cells qRc_facts Rc_words Rc_mixer Rc_nearest Rc_bytes Rc_putRight Rc_lastOfChannel Rc_lastMaster Rc_differing Sh_e Sh_pattern Rc_taken Sh_depth Sh_wordBytes Fo_length Fo_cells g1) H := hP.sub [3, 0, 1, 2, 4] rfl
        have hD : va_D A (w_Receiver_findBlocks cI cJ qRc qSh qFo qFo_cells qRc_facts Rc_words Rc_mixer Rc_nearest Rc_bytes Rc_putRight Rc_lastOfChannel Rc_lastMaster Rc_differing Sh_e Sh_pattern Rc_taken Sh_depth Sh_wordBytes Fo_length Fo_cells g1) := hD.sub [3, 0, 1, 2, 4] (by decide) rfl
        refine lv_aload_n hx hb d_Receiver_findBlocks_101 rfl (lv_at hl 0 rfl) ?_
        refine lv_aload_n hx hb d_Receiver_findBlocks_102 rfl (lv_at hl 0 rfl) ?_
        refine va_get (D := D) (ci := 6) (v := .int Rc_taken) (C := "DeepChannel$Receiver") (T := fT_Receiver) (N := 12) hx hb hts u_Receiver hown hK hP 0 rfl rfl 11 (by decide) (hts _ k_315) (fun _ h9 => h9) rfl d_Receiver_findBlocks_103 ?_
        refine lv_iconst (v := (1 : Int32)) hx hb d_Receiver_findBlocks_106 (by decide) ?_
        refine lv_iload hx hb d_Receiver_findBlocks_107 (lv_at hl 5 rfl) ?_
        obtain ⟨g3, hu, hm⟩ := bd_el hm
        replace hm := nm_1 hm
        refine z_cVv (wc := w_Receiver_setFact cI cJ qRc qRc_facts (.ref qSh) Rc_words Rc_mixer Rc_nearest (.ref qFo) Rc_bytes Rc_putRight Rc_lastOfChannel Rc_lastMaster Rc_differing (.int Rc_taken) g1) (wc' := w_Receiver_setFact cI cJ qRc qRc_facts (.ref qSh) Rc_words Rc_mixer Rc_nearest (.ref qFo) Rc_bytes Rc_putRight Rc_lastOfChannel Rc_lastMaster Rc_differing (.int Rc_taken) g3) (wr := [(qSh, .inr (8, [.int Sh_depth, .int Sh_wordBytes, Sh_e, Sh_pattern])), (qFo, .inr (0, [.ref qFo_cells, .int Fo_length])), (qFo_cells, .inl (cJ, 64, .inr (.inl Fo_cells)))]) (As := [.int Rc_taken, .int (1 : Int32), .int x6]) (rest := []) (c_Receiver_setFact l D cI cJ tt qRc qRc_facts (.ref qSh) Rc_words Rc_mixer Rc_nearest (.ref qFo) Rc_bytes Rc_putRight Rc_lastOfChannel Rc_lastMaster Rc_differing (.int Rc_taken) _ g1 Rc_taken (1 : Int32) x6 g3 hu) F ok_Receiver_setFact rfl k_732 hK hE hP hD hS hA [0, 4] [1, 2, 3] rfl rfl (by decide) (by decide) (by decide) 0 rfl rfl rfl ⟨rfl, rfl, Nat.le_of_ble_eq_true rfl, Nat.le_of_ble_eq_true rfl⟩ ⟨Nat.zero_le _, Nat.zero_le _⟩ rfl hl.1 rfl (Nat.le_of_ble_eq_true rfl) d_Receiver_findBlocks_109 (fun H locs hP hD hS => ?_)
        have hP : va_P D classes (w_Receiver_findBlocks cI cJ qRc qSh qFo qFo_cells qRc_facts Rc_words Rc_mixer Rc_nearest Rc_bytes Rc_putRight Rc_lastOfChannel Rc_lastMaster Rc_differing Sh_e Sh_pattern Rc_taken Sh_depth Sh_wordBytes Fo_length Fo_cells g3) H := hP.sub [3, 0, 1, 2, 4] rfl
        have hD : va_D A (w_Receiver_findBlocks cI cJ qRc qSh qFo qFo_cells qRc_facts Rc_words Rc_mixer Rc_nearest Rc_bytes Rc_putRight Rc_lastOfChannel Rc_lastMaster Rc_differing Sh_e Sh_pattern Rc_taken Sh_depth Sh_wordBytes Fo_length Fo_cells g3) := hD.sub [3, 0, 1, 2, 4] (by decide) rfl
        refine lv_aload_n hx hb d_Receiver_findBlocks_112 rfl (lv_at hl 0 rfl) ?_
        refine lv_dup hx hb d_Receiver_findBlocks_113 rfl ?_
        refine va_get (D := D) (ci := 6) (v := .int Rc_taken) (C := "DeepChannel$Receiver") (T := fT_Receiver) (N := 12) hx hb hts u_Receiver hown hK hP 0 rfl rfl 11 (by decide) (hts _ k_315) (fun _ h9 => h9) rfl d_Receiver_findBlocks_114 ?_
        refine lv_iconst (v := (1 : Int32)) hx hb d_Receiver_findBlocks_117 (by decide) ?_
        refine lv_iadd hx hb d_Receiver_findBlocks_118 ?_
        refine z_nmi hm (fun v5 hm => ?_)
        refine va_put (D := D) (ci := 6) (v := .int v5) (ty := .int) (C := "DeepChannel$Receiver") (T := fT_Receiver) (N := 12) hx hb hts u_Receiver fY_Receiver fK_Receiver fN_Receiver hown hK hP hD hS 0 rfl rfl 11 (by decide) (hts _ k_315) (fun _ h9 => h9) rfl (by decide +kernel) rfl rfl (Nat.le_of_ble_eq_true rfl) d_Receiver_findBlocks_119 (fun H locs hP hD hS => ?_)
        have hP : va_P D classes (w_Receiver_findBlocks cI cJ qRc qSh qFo qFo_cells qRc_facts Rc_words Rc_mixer Rc_nearest Rc_bytes Rc_putRight Rc_lastOfChannel Rc_lastMaster Rc_differing Sh_e Sh_pattern v5 Sh_depth Sh_wordBytes Fo_length Fo_cells g3) H := hP
        have hD : va_D A (w_Receiver_findBlocks cI cJ qRc qSh qFo qFo_cells qRc_facts Rc_words Rc_mixer Rc_nearest Rc_bytes Rc_putRight Rc_lastOfChannel Rc_lastMaster Rc_differing Sh_e Sh_pattern v5 Sh_depth Sh_wordBytes Fo_length Fo_cells g3) := hD
        refine lv_iload hx hb d_Receiver_findBlocks_122 (lv_at hl 4 rfl) ?_
        refine lv_iload_n hx hb d_Receiver_findBlocks_124 rfl (lv_at hl 2 rfl) ?_
        refine lv_iadd hx hb d_Receiver_findBlocks_125 ?_
        refine z_nmi hm (fun v6 hm => ?_)
        refine lv_istore (lv' := [(5, .int v6), (0, .ref qRc), (1, .int x1), (2, .int x2), (3, .int x3), (6, .int x6)]) hx hb d_Receiver_findBlocks_126 hl (by decide) rfl (fun ls hl => ?_)
        refine lv_iload hx hb d_Receiver_findBlocks_128 (lv_at hl 5 rfl) ?_
        refine lv_iload_n hx hb d_Receiver_findBlocks_130 rfl (lv_at hl 2 rfl) ?_
        refine z_if hm (lv_icmp_gt (tgt := 139) hx hb d_Receiver_findBlocks_131 (by decide)) (fun hm => ?_) (fun hm => ?_)
        · refine lv_iconst (v := (-1 : Int32)) hx hb d_Receiver_findBlocks_139 (by decide) ?_
          exact T140 x1 x2 x3 v6 (-1 : Int32) v5 g3 hm _ _ hP hD hS _ (lv_sub hl [1, 2, 3, 4, 0] rfl)
        · refine lv_iload hx hb d_Receiver_findBlocks_134 (lv_at hl 0 rfl) ?_
          refine lv_goto (tgt := 140) hx hb d_Receiver_findBlocks_136 (by decide) ?_
          exact T140 x1 x2 x3 v6 v6 v5 g3 hm _ _ hP hD hS _ (lv_sub hl [1, 2, 3, 4, 0] rfl)
      intro x1 x2 x3 x4 x5 Rc_taken Rc_facts hm H locs hP hD hS ls hl
      replace hm : f_Receiver_findBlocks_34_b Fo_length Fo_cells (f_Receiver_findBlocks_34 Fo_length Fo_cells n34) x1 x2 x3 x4 x5 Rc_taken Rc_facts = some (Rc_taken', Rc_facts') := hm
      unfold f_Receiver_findBlocks_34_b at hm
      refine lv_iload hx hb d_Receiver_findBlocks_34 (lv_at hl 5 rfl) ?_
      refine lv_iload_n hx hb d_Receiver_findBlocks_36 rfl (lv_at hl 2 rfl) ?_
      refine lv_iadd hx hb d_Receiver_findBlocks_37 ?_
      refine lv_aload_n hx hb d_Receiver_findBlocks_38 rfl (lv_at hl 0 rfl) ?_
      refine va_get (D := D) (ci := 6) (v := .ref qFo) (C := "DeepChannel$Receiver") (T := fT_Receiver) (N := 12) hx hb hts u_Receiver hown hK hP 0 rfl rfl 4 (by decide) (hts _ k_308) (fun _ h9 => h9) rfl d_Receiver_findBlocks_39 ?_
      obtain ⟨r7, hu, hm⟩ := bd_el hm
      replace hm := nm_1 hm
      refine z_cVi (wc := w_BitRow_size cI cJ qFo (.ref qFo_cells) Fo_length) (wc' := w_BitRow_size cI cJ qFo (.ref qFo_cells) Fo_length) (wr := [(qRc, .inr (6, [.ref qSh, Rc_words, Rc_mixer, Rc_nearest, .ref qFo, Rc_bytes, .ref qRc_facts, Rc_putRight, Rc_lastOfChannel, Rc_lastMaster, Rc_differing, .int Rc_taken])), (qSh, .inr (8, [.int Sh_depth, .int Sh_wordBytes, Sh_e, Sh_pattern])), (qFo_cells, .inl (cJ, 64, .inr (.inl Fo_cells))), (qRc_facts, .inl (cI, 144, .inl Rc_facts))]) (As := []) (rest := [.int (x5 + x2)]) (c_BitRow_size l D cI cJ tt qFo (.ref qFo_cells) _ Fo_length r7 hu) F ok_BitRow_size rfl k_542 hK hE hP hD hS hA [2] [0, 1, 3, 4] rfl rfl (by decide) (by decide) (by decide) 0 rfl rfl rfl ⟨rfl, rfl, Nat.le_of_ble_eq_true rfl, Nat.le_of_ble_eq_true rfl⟩ ⟨Nat.zero_le _, Nat.zero_le _⟩ rfl hl.1 rfl (Nat.le_of_ble_eq_true rfl) d_Receiver_findBlocks_42 (fun H locs hP hD hS => ?_)
      have hP : va_P D classes (w_Receiver_findBlocks cI cJ qRc qSh qFo qFo_cells qRc_facts Rc_words Rc_mixer Rc_nearest Rc_bytes Rc_putRight Rc_lastOfChannel Rc_lastMaster Rc_differing Sh_e Sh_pattern Rc_taken Sh_depth Sh_wordBytes Fo_length Fo_cells Rc_facts) H := hP.sub [0, 1, 4, 2, 3] rfl
      have hD : va_D A (w_Receiver_findBlocks cI cJ qRc qSh qFo qFo_cells qRc_facts Rc_words Rc_mixer Rc_nearest Rc_bytes Rc_putRight Rc_lastOfChannel Rc_lastMaster Rc_differing Sh_e Sh_pattern Rc_taken Sh_depth Sh_wordBytes Fo_length Fo_cells Rc_facts) := hD.sub [0, 1, 4, 2, 3] (by decide) rfl
      refine z_if hm (lv_icmp_gt (tgt := 151) hx hb d_Receiver_findBlocks_45 (by decide)) (fun hm => ?_) (fun hm => ?_)
      · cases hm
        exact z_qo hQ (z_vret hr hx hb hlocks hK hP hD hS d_Receiver_findBlocks_151)
      · refine lv_aload_n hx hb d_Receiver_findBlocks_48 rfl (lv_at hl 0 rfl) ?_
        refine va_get (D := D) (ci := 6) (v := .int Rc_taken) (C := "DeepChannel$Receiver") (T := fT_Receiver) (N := 12) hx hb hts u_Receiver hown hK hP 0 rfl rfl 11 (by decide) (hts _ k_315) (fun _ h9 => h9) rfl d_Receiver_findBlocks_49 ?_
        refine lv_bipush (v := (16 : Int32)) hx hb d_Receiver_findBlocks_52 (by decide) ?_
        refine z_if hm (lv_icmp_ge (tgt := 151) hx hb d_Receiver_findBlocks_54 (by decide)) (fun hm => ?_) (fun hm => ?_)
        · cases hm
          exact z_qo hQ (z_vret hr hx hb hlocks hK hP hD hS d_Receiver_findBlocks_151)
        · refine lv_aload_n hx hb d_Receiver_findBlocks_57 rfl (lv_at hl 0 rfl) ?_
          refine va_get (D := D) (ci := 6) (v := .ref qFo) (C := "DeepChannel$Receiver") (T := fT_Receiver) (N := 12) hx hb hts u_Receiver hown hK hP 0 rfl rfl 4 (by decide) (hts _ k_308) (fun _ h9 => h9) rfl d_Receiver_findBlocks_58 ?_
          refine lv_iload hx hb d_Receiver_findBlocks_61 (lv_at hl 5 rfl) ?_
          obtain ⟨r9, hu, hm⟩ := bd_el hm
          replace hm := nm_1 hm
          refine z_cVl (wc := w_BitRow_window cI cJ qFo qFo_cells (.int Fo_length) Fo_cells) (wc' := w_BitRow_window cI cJ qFo qFo_cells (.int Fo_length) Fo_cells) (wr := [(qRc, .inr (6, [.ref qSh, Rc_words, Rc_mixer, Rc_nearest, .ref qFo, Rc_bytes, .ref qRc_facts, Rc_putRight, Rc_lastOfChannel, Rc_lastMaster, Rc_differing, .int Rc_taken])), (qSh, .inr (8, [.int Sh_depth, .int Sh_wordBytes, Sh_e, Sh_pattern])), (qRc_facts, .inl (cI, 144, .inl Rc_facts))]) (As := [.int x5]) (rest := []) (c_BitRow_window l D cI cJ tt qFo qFo_cells (.int Fo_length) _ Fo_cells x5 r9 hu) F ok_BitRow_window rfl k_392 hK hE hP hD hS hA [2, 3] [0, 1, 4] rfl rfl (by decide) (by decide) (by decide) 0 rfl rfl rfl ⟨rfl, rfl, Nat.le_of_ble_eq_true rfl, Nat.le_of_ble_eq_true rfl⟩ ⟨Nat.zero_le _, Nat.zero_le _⟩ rfl hl.1 rfl (Nat.le_of_ble_eq_true rfl) d_Receiver_findBlocks_63 (fun H locs hP hD hS => ?_)
          have hP : va_P D classes (w_Receiver_findBlocks cI cJ qRc qSh qFo qFo_cells qRc_facts Rc_words Rc_mixer Rc_nearest Rc_bytes Rc_putRight Rc_lastOfChannel Rc_lastMaster Rc_differing Sh_e Sh_pattern Rc_taken Sh_depth Sh_wordBytes Fo_length Fo_cells Rc_facts) H := hP.sub [0, 1, 3, 4, 2] rfl
          have hD : va_D A (w_Receiver_findBlocks cI cJ qRc qSh qFo qFo_cells qRc_facts Rc_words Rc_mixer Rc_nearest Rc_bytes Rc_putRight Rc_lastOfChannel Rc_lastMaster Rc_differing Sh_e Sh_pattern Rc_taken Sh_depth Sh_wordBytes Fo_length Fo_cells Rc_facts) := hD.sub [0, 1, 3, 4, 2] (by decide) rfl
          refine lv_l2i (v := r9.toInt32) hx hb d_Receiver_findBlocks_66 rfl ?_
          refine lv_iload_n hx hb d_Receiver_findBlocks_67 rfl (lv_at hl 3 rfl) ?_
          refine lv_ixor hx hb d_Receiver_findBlocks_68 ?_
          obtain ⟨r11, hu, hm⟩ := bd_el hm
          replace hm := nm_1 hm
          refine z_cSi (wc := w_Integer_bitCount) (wc' := w_Integer_bitCount) (wr := [(qRc, .inr (6, [.ref qSh, Rc_words, Rc_mixer, Rc_nearest, .ref qFo, Rc_bytes, .ref qRc_facts, Rc_putRight, Rc_lastOfChannel, Rc_lastMaster, Rc_differing, .int Rc_taken])), (qSh, .inr (8, [.int Sh_depth, .int Sh_wordBytes, Sh_e, Sh_pattern])), (qFo, .inr (0, [.ref qFo_cells, .int Fo_length])), (qFo_cells, .inl (cJ, 64, .inr (.inl Fo_cells))), (qRc_facts, .inl (cI, 144, .inl Rc_facts))]) (As := [.int (r9.toInt32 ^^^ x3)]) (rest := []) (c_Integer_bitCount l D cI cJ tt _ (r9.toInt32 ^^^ x3) r11 hu) F ok_Integer_bitCount k_731 hK hE hP hD hS hA [] [0, 1, 2, 3, 4] rfl rfl (by decide) (by decide) (by decide) ⟨rfl, rfl, Nat.le_of_ble_eq_true rfl, Nat.le_of_ble_eq_true rfl⟩ ⟨Nat.zero_le _, Nat.zero_le _⟩ rfl hl.1 rfl (Nat.le_of_ble_eq_true rfl) d_Receiver_findBlocks_69 (fun H locs hP hD hS => ?_)
          have hP : va_P D classes (w_Receiver_findBlocks cI cJ qRc qSh qFo qFo_cells qRc_facts Rc_words Rc_mixer Rc_nearest Rc_bytes Rc_putRight Rc_lastOfChannel Rc_lastMaster Rc_differing Sh_e Sh_pattern Rc_taken Sh_depth Sh_wordBytes Fo_length Fo_cells Rc_facts) H := hP.sub [0, 1, 2, 3, 4] rfl
          have hD : va_D A (w_Receiver_findBlocks cI cJ qRc qSh qFo qFo_cells qRc_facts Rc_words Rc_mixer Rc_nearest Rc_bytes Rc_putRight Rc_lastOfChannel Rc_lastMaster Rc_differing Sh_e Sh_pattern Rc_taken Sh_depth Sh_wordBytes Fo_length Fo_cells Rc_facts) := hD.sub [0, 1, 2, 3, 4] (by decide) rfl
          refine lv_istore (lv' := [(6, .int r11), (0, .ref qRc), (1, .int x1), (2, .int x2), (3, .int x3), (4, .int x4), (5, .int x5)]) hx hb d_Receiver_findBlocks_72 hl (by decide) rfl (fun ls hl => ?_)
          refine lv_iload hx hb d_Receiver_findBlocks_74 (lv_at hl 0 rfl) ?_
          refine lv_iload_n hx hb d_Receiver_findBlocks_76 rfl (lv_at hl 2 rfl) ?_
          refine z_if hm (lv_icmp_le (tgt := 87) hx hb d_Receiver_findBlocks_77 (by decide)) (fun hm => ?_) (fun hm => ?_)
          · exact T87 x1 x2 x3 x5 r11 Rc_taken Rc_facts hm _ _ hP hD hS _ (lv_sub hl [1, 2, 3, 4, 6, 0] rfl)
          · refine lv_iload hx hb d_Receiver_findBlocks_80 (lv_at hl 6 rfl) ?_
            refine lv_iload hx hb d_Receiver_findBlocks_82 (lv_at hl 5 rfl) ?_
            refine z_ifn hm (lv_icmp_ne (tgt := 145) hx hb d_Receiver_findBlocks_84 (by decide)) (fun hm => ?_) (fun hm => ?_)
            · exact T87 x1 x2 x3 x5 r11 Rc_taken Rc_facts hm _ _ hP hD hS _ (lv_sub hl [1, 2, 3, 4, 6, 0] rfl)
            · obtain ⟨v13, ev, hm⟩ := nm_el hm
              refine lv_iinc (v := v13) (lv' := [(5, .int v13), (6, .int r11), (0, .ref qRc), (1, .int x1), (2, .int x2), (3, .int x3), (4, .int x4)]) hx hb d_Receiver_findBlocks_145 hl (k := 6) rfl (by rw [ev]; rfl) (by decide) rfl (fun ls hl => ?_)
              exact T148 x1 x2 x3 x4 v13 Rc_taken Rc_facts hm _ _ hP hD hS _ (lv_sub hl [2, 3, 4, 5, 6, 0] rfl)
  unfold f_Receiver_findBlocks at hm
  refine lv_bipush (v := (32 : Int32)) hx hb d_Receiver_findBlocks_0 (by decide) ?_
  refine lv_bipush (v := (8 : Int32)) hx hb d_Receiver_findBlocks_2 (by decide) ?_
  refine lv_aload_n hx hb d_Receiver_findBlocks_4 rfl (lv_at hl 0 rfl) ?_
  refine va_get (D := D) (ci := 6) (v := .ref qSh) (C := "DeepChannel$Receiver") (T := fT_Receiver) (N := 12) hx hb hts u_Receiver hown hK hP 0 rfl rfl 0 (by decide) (hts _ k_304) (fun _ h9 => h9) rfl d_Receiver_findBlocks_5 ?_
  obtain ⟨r14, hu, hm⟩ := bd_el hm
  replace hm := nm_1 hm
  refine z_cVi (wc := w_Shape_blockBytes cI cJ qSh Sh_e Sh_pattern Sh_depth Sh_wordBytes) (wc' := w_Shape_blockBytes cI cJ qSh Sh_e Sh_pattern Sh_depth Sh_wordBytes) (wr := [(qRc, .inr (6, [.ref qSh, Rc_words, Rc_mixer, Rc_nearest, .ref qFo, Rc_bytes, .ref qRc_facts, Rc_putRight, Rc_lastOfChannel, Rc_lastMaster, Rc_differing, .int Rc_taken])), (qFo, .inr (0, [.ref qFo_cells, .int Fo_length])), (qFo_cells, .inl (cJ, 64, .inr (.inl Fo_cells))), (qRc_facts, .inl (cI, 144, .inl Rc_facts))]) (As := []) (rest := [.int (8 : Int32), .int (32 : Int32)]) (c_Shape_blockBytes l D cI cJ tt qSh Sh_e Sh_pattern _ Sh_depth Sh_wordBytes r14 hu) F ok_Shape_blockBytes rfl k_726 hK hE hP hD hS hA [1] [0, 2, 3, 4] rfl rfl (by decide) (by decide) (by decide) 0 rfl rfl rfl ⟨rfl, rfl, Nat.le_of_ble_eq_true rfl, Nat.le_of_ble_eq_true rfl⟩ ⟨Nat.zero_le _, Nat.zero_le _⟩ rfl hl.1 rfl (Nat.le_of_ble_eq_true rfl) d_Receiver_findBlocks_8 (fun H locs hP hD hS => ?_)
  have hP : va_P D classes (w_Receiver_findBlocks cI cJ qRc qSh qFo qFo_cells qRc_facts Rc_words Rc_mixer Rc_nearest Rc_bytes Rc_putRight Rc_lastOfChannel Rc_lastMaster Rc_differing Sh_e Sh_pattern Rc_taken Sh_depth Sh_wordBytes Fo_length Fo_cells Rc_facts) H := hP.sub [0, 4, 1, 2, 3] rfl
  have hD : va_D A (w_Receiver_findBlocks cI cJ qRc qSh qFo qFo_cells qRc_facts Rc_words Rc_mixer Rc_nearest Rc_bytes Rc_putRight Rc_lastOfChannel Rc_lastMaster Rc_differing Sh_e Sh_pattern Rc_taken Sh_depth Sh_wordBytes Fo_length Fo_cells Rc_facts) := hD.sub [0, 4, 1, 2, 3] (by decide) rfl
  refine lv_imul hx hb d_Receiver_findBlocks_11 ?_
  refine lv_iadd hx hb d_Receiver_findBlocks_12 ?_
  refine z_nmi hm (fun v16 hm => ?_)
  refine lv_istore_n (lv' := [(2, .int v16), (0, .ref qRc), (1, .int x1)]) hx hb d_Receiver_findBlocks_13 rfl hl (by decide) rfl (fun ls hl => ?_)
  refine lv_ldc2 (v := (449838109 : Int64)) hx hb hown (hts _ k_727) d_Receiver_findBlocks_14 ?_
  refine lv_bipush (v := (32 : Int32)) hx hb d_Receiver_findBlocks_17 (by decide) ?_
  obtain ⟨r17, hu, hm⟩ := bd_el hm
  replace hm := nm_1 hm
  refine z_cNSi (wc := w_DC_mirrored) (wc' := w_DC_mirrored) (wr := [(qRc, .inr (6, [.ref qSh, Rc_words, Rc_mixer, Rc_nearest, .ref qFo, Rc_bytes, .ref qRc_facts, Rc_putRight, Rc_lastOfChannel, Rc_lastMaster, Rc_differing, .int Rc_taken])), (qSh, .inr (8, [.int Sh_depth, .int Sh_wordBytes, Sh_e, Sh_pattern])), (qFo, .inr (0, [.ref qFo_cells, .int Fo_length])), (qFo_cells, .inl (cJ, 64, .inr (.inl Fo_cells))), (qRc_facts, .inl (cI, 144, .inl Rc_facts))]) (As := [.long (449838109 : Int64), .int (32 : Int32)]) (rest := []) (c_DC_mirrored l D cI cJ tt _ (449838109 : Int64) (32 : Int32) r17 hu) F ok_DC_mirrored (hE.1 _ (List.mem_of_getElem? (i := 10) rfl)) hK hE hP hD hS hA [] [0, 1, 2, 3, 4] rfl rfl (by decide) (by decide) (by decide) ⟨rfl, rfl, Nat.le_of_ble_eq_true rfl, Nat.le_of_ble_eq_true rfl⟩ ⟨Nat.zero_le _, Nat.zero_le _⟩ rfl hl.1 rfl (Nat.le_of_ble_eq_true rfl) d_Receiver_findBlocks_19 (fun H locs hP hD hS => ?_)
  have hP : va_P D classes (w_Receiver_findBlocks cI cJ qRc qSh qFo qFo_cells qRc_facts Rc_words Rc_mixer Rc_nearest Rc_bytes Rc_putRight Rc_lastOfChannel Rc_lastMaster Rc_differing Sh_e Sh_pattern Rc_taken Sh_depth Sh_wordBytes Fo_length Fo_cells Rc_facts) H := hP.sub [0, 1, 2, 3, 4] rfl
  have hD : va_D A (w_Receiver_findBlocks cI cJ qRc qSh qFo qFo_cells qRc_facts Rc_words Rc_mixer Rc_nearest Rc_bytes Rc_putRight Rc_lastOfChannel Rc_lastMaster Rc_differing Sh_e Sh_pattern Rc_taken Sh_depth Sh_wordBytes Fo_length Fo_cells Rc_facts) := hD.sub [0, 1, 2, 3, 4] (by decide) rfl
  refine lv_istore_n (lv' := [(3, .int r17), (2, .int v16), (0, .ref qRc), (1, .int x1)]) hx hb d_Receiver_findBlocks_22 rfl hl (by decide) rfl (fun ls hl => ?_)
  refine lv_iconst (v := (-1 : Int32)) hx hb d_Receiver_findBlocks_23 (by decide) ?_
  refine lv_istore (lv' := [(4, .int (-1 : Int32)), (3, .int r17), (2, .int v16), (0, .ref qRc), (1, .int x1)]) hx hb d_Receiver_findBlocks_24 hl (by decide) rfl (fun ls hl => ?_)
  refine lv_iconst (v := (0 : Int32)) hx hb d_Receiver_findBlocks_26 (by decide) ?_
  refine lv_istore (lv' := [(5, .int (0 : Int32)), (4, .int (-1 : Int32)), (3, .int r17), (2, .int v16), (0, .ref qRc), (1, .int x1)]) hx hb d_Receiver_findBlocks_27 hl (by decide) rfl (fun ls hl => ?_)
  refine lv_aload_n hx hb d_Receiver_findBlocks_29 rfl (lv_at hl 4 rfl) ?_
  refine lv_iconst (v := (0 : Int32)) hx hb d_Receiver_findBlocks_30 (by decide) ?_
  refine va_put (D := D) (ci := 6) (v := .int (0 : Int32)) (ty := .int) (C := "DeepChannel$Receiver") (T := fT_Receiver) (N := 12) hx hb hts u_Receiver fY_Receiver fK_Receiver fN_Receiver hown hK hP hD hS 0 rfl rfl 11 (by decide) (hts _ k_315) (fun _ h9 => h9) rfl (by decide +kernel) rfl rfl (Nat.le_of_ble_eq_true rfl) d_Receiver_findBlocks_31 (fun H locs hP hD hS => ?_)
  have hP : va_P D classes (w_Receiver_findBlocks cI cJ qRc qSh qFo qFo_cells qRc_facts Rc_words Rc_mixer Rc_nearest Rc_bytes Rc_putRight Rc_lastOfChannel Rc_lastMaster Rc_differing Sh_e Sh_pattern (0 : Int32) Sh_depth Sh_wordBytes Fo_length Fo_cells Rc_facts) H := hP
  have hD : va_D A (w_Receiver_findBlocks cI cJ qRc qSh qFo qFo_cells qRc_facts Rc_words Rc_mixer Rc_nearest Rc_bytes Rc_putRight Rc_lastOfChannel Rc_lastMaster Rc_differing Sh_e Sh_pattern (0 : Int32) Sh_depth Sh_wordBytes Fo_length Fo_cells Rc_facts) := hD
  exact T34 10000 x1 v16 r17 (-1 : Int32) (0 : Int32) (0 : Int32) Rc_facts hm _ _ hP hD hS _ (lv_sub hl [4, 5, 3, 2, 1, 0] rfl)
