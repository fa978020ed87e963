-- DeepChannel$Sender.restart()V
abbrev b_Sender_restart : ByteArray := prog_9_method_2_code
abbrev y_Sender_restart : MethodName := ⟨"DeepChannel$Sender", "restart", "()V"⟩
theorem d_Sender_restart_0 : decode b_Sender_restart 0 = .ok (.aload_n 0, 1) := by decide +kernel
theorem d_Sender_restart_1 : decode b_Sender_restart 1 = .ok (.iconst 0, 1) := by decide +kernel
theorem d_Sender_restart_2 : decode b_Sender_restart 2 = .ok (.putfield 25, 3) := by decide +kernel
theorem d_Sender_restart_5 : decode b_Sender_restart 5 = .ok (.aload_n 0, 1) := by decide +kernel
theorem d_Sender_restart_6 : decode b_Sender_restart 6 = .ok (.iconst 0, 1) := by decide +kernel
theorem d_Sender_restart_7 : decode b_Sender_restart 7 = .ok (.putfield 18, 3) := by decide +kernel
theorem d_Sender_restart_10 : decode b_Sender_restart 10 = .ok (.aload_n 0, 1) := by decide +kernel
theorem d_Sender_restart_11 : decode b_Sender_restart 11 = .ok (.getfield 15, 3) := by decide +kernel
theorem d_Sender_restart_14 : decode b_Sender_restart 14 = .ok (.iconst 0, 1) := by decide +kernel
theorem d_Sender_restart_15 : decode b_Sender_restart 15 = .ok (.invokestatic 40, 3) := by decide +kernel
theorem d_Sender_restart_18 : decode b_Sender_restart 18 = .ok (.return_, 1) := by decide +kernel
theorem ok_Sender_restart : OKv y_Sender_restart b_Sender_restart 1 none "DeepChannel$Sender" 0 := ⟨k_491, k_489, k_490, k_52, by decide +kernel, by decide +kernel, by decide +kernel⟩
abbrev w_Sender_restart (cI cJ : ClassId) (qSd qSd_channelCounts : Nat) (Sd_shape Sd_words Sd_mixer Sd_bytes Sd_craft : Value) (Sd_masterCount : Int32) (Sd_dataCount : Int32) (Sd_channelCounts : Nat → Int32) : va_W := [(qSd, .inr (7, [Sd_shape, Sd_words, Sd_mixer, Sd_bytes, .ref qSd_channelCounts, .int Sd_masterCount, Sd_craft, .int Sd_dataCount])), (qSd_channelCounts, .inl (cI, 8, .inl Sd_channelCounts))]
def f_Sender_restart (Sd_masterCount : Int32) (Sd_dataCount : Int32) (Sd_channelCounts : Nat → Int32) : Option (Int32 × Int32 × (Nat → Int32)) :=
  bd (f_Arrays_fillI Sd_channelCounts 8 (0 : Int32)) fun u2 =>
  nm u2 fun g1 =>
  some ((0 : Int32), (0 : Int32), g1)
set_option maxHeartbeats 4000000 in
set_option maxRecDepth 100000 in
theorem c_Sender_restart (l : Launch) (D : va_G) (cI cJ : ClassId) (tt : Nat → Nat) (qSd qSd_channelCounts : Nat) (Sd_shape Sd_words Sd_mixer Sd_bytes Sd_craft : Value) (sz : Nat) (Sd_masterCount : Int32) (Sd_dataCount : Int32) (Sd_channelCounts : Nat → Int32) (Sd_masterCount' : Int32) (Sd_dataCount' : Int32) (Sd_channelCounts' : Nat → Int32) (hm : f_Sender_restart Sd_masterCount Sd_dataCount Sd_channelCounts = some (Sd_masterCount', Sd_dataCount', Sd_channelCounts')) : CTv l y_Sender_restart b_Sender_restart 1 none (RM 1 23) D cI cJ tt [.ref qSd] (w_Sender_restart cI cJ qSd qSd_channelCounts Sd_shape Sd_words Sd_mixer Sd_bytes Sd_craft Sd_masterCount Sd_dataCount Sd_channelCounts) (w_Sender_restart cI cJ qSd qSd_channelCounts Sd_shape Sd_words Sd_mixer Sd_bytes Sd_craft Sd_masterCount' Sd_dataCount' Sd_channelCounts') sz := by
  refine Met.ofW (cc := b_Sender_restart) (maxL := 1) (ret := none) (by decide) rfl ?_
  intro p e s m args below meth c s₁ B hml hv
  obtain ⟨hargs, hsz, hP, hK, hD0, hE⟩ := hv
  have hx := B.exec
  have hb := B.bytes
  have hr := B.returns
  have hts : ∀ w ∈ TB, w.before args s = true := z_mV s (atoms_spec (ws := WD y_Sender_restart b_Sender_restart 1 none) B.pre)
  have hown : s.vm.findClass "DeepChannel$Sender" = some m.cls := findClass_of_methodNamed B.named
  have hlocks := B.notSynchronized
  subst hsz
  have hD := hD0.self (sz := s.heap.size)
  generalize hAe : va_A (w_Sender_restart cI cJ qSd qSd_channelCounts Sd_shape Sd_words Sd_mixer Sd_bytes Sd_craft Sd_masterCount Sd_dataCount Sd_channelCounts) s.heap.size = A at hD hE ⊢
  have hA : ∀ q : Nat, s.heap.size ≤ q → A q := fun q h => by rw [← hAe]; exact Or.inr h
  have hS : va_S A s.heap s.heap [] := va_S.rf
  refine z_entry (vs := [.ref qSd]) hargs (Nat.le_of_ble_eq_true rfl) (fun ls hl => ?_)
  have hl : lv_has ls 1 [(0, .ref qSd)] := hl
  show W p l e (RM 1 23) s m args below meth c s.heap [] 0 0 _ _
  refine z_qi (fun Q0 hQ => ?_)
  have F : CallFix p m c b_Sender_restart 1 s args TB "DeepChannel$Sender" := ⟨hx, hb, hml, hown, hts⟩
  unfold f_Sender_restart at hm
  refine lv_aload_n hx hb d_Sender_restart_0 rfl (lv_at hl 0 rfl) ?_
  refine lv_iconst (v := (0 : Int32)) hx hb d_Sender_restart_1 (by decide) ?_
  refine va_put (D := D) (ci := 7) (v := .int (0 : Int32)) (ty := .int) (C := "DeepChannel$Sender") (T := fT_Sender) (N := 8) hx hb hts u_Sender fY_Sender fK_Sender fN_Sender hown hK hP hD hS 0 rfl rfl 7 (by decide) (hts _ k_252) (fun _ h9 => h9) rfl (by decide +kernel) rfl rfl (Nat.le_of_ble_eq_true rfl) d_Sender_restart_2 (fun H locs hP hD hS => ?_)
  have hP : va_P D classes (w_Sender_restart cI cJ qSd qSd_channelCounts Sd_shape Sd_words Sd_mixer Sd_bytes Sd_craft Sd_masterCount (0 : Int32) Sd_channelCounts) H := hP
  have hD : va_D A (w_Sender_restart cI cJ qSd qSd_channelCounts Sd_shape Sd_words Sd_mixer Sd_bytes Sd_craft Sd_masterCount (0 : Int32) Sd_channelCounts) := hD
  refine lv_aload_n hx hb d_Sender_restart_5 rfl (lv_at hl 0 rfl) ?_
  refine lv_iconst (v := (0 : Int32)) hx hb d_Sender_restart_6 (by decide) ?_
  refine va_put (D := D) (ci := 7) (v := .int (0 : Int32)) (ty := .int) (C := "DeepChannel$Sender") (T := fT_Sender) (N := 8) hx hb hts u_Sender fY_Sender fK_Sender fN_Sender hown hK hP hD hS 0 rfl rfl 5 (by decide) (hts _ k_250) (fun _ h9 => h9) rfl (by decide +kernel) rfl rfl (Nat.le_of_ble_eq_true rfl) d_Sender_restart_7 (fun H locs hP hD hS => ?_)
  have hP : va_P D classes (w_Sender_restart cI cJ qSd qSd_channelCounts Sd_shape Sd_words Sd_mixer Sd_bytes Sd_craft (0 : Int32) (0 : Int32) Sd_channelCounts) H := hP
  have hD : va_D A (w_Sender_restart cI cJ qSd qSd_channelCounts Sd_shape Sd_words Sd_mixer Sd_bytes Sd_craft (0 : Int32) (0 : Int32) Sd_channelCounts) := hD
  refine lv_aload_n hx hb d_Sender_restart_10 rfl (lv_at hl 0 rfl) ?_
  refine va_get (D := D) (ci := 7) (v := .ref qSd_channelCounts) (C := "DeepChannel$Sender") (T := fT_Sender) (N := 8) hx hb hts u_Sender hown hK hP 0 rfl rfl 4 (by decide) (hts _ k_249) (fun _ h9 => h9) rfl d_Sender_restart_11 ?_
  refine lv_iconst (v := (0 : Int32)) hx hb d_Sender_restart_14 (by decide) ?_
  obtain ⟨g1, hu, hm⟩ := bd_el hm
  replace hm := nm_1 hm
  refine z_cSv (wc := w_Arrays_fillI cI cJ qSd_channelCounts 8 Sd_channelCounts) (wc' := w_Arrays_fillI cI cJ qSd_channelCounts 8 g1) (wr := [(qSd, .inr (7, [Sd_shape, Sd_words, Sd_mixer, Sd_bytes, .ref qSd_channelCounts, .int (0 : Int32), Sd_craft, .int (0 : Int32)]))]) (As := [.ref qSd_channelCounts, .int (0 : Int32)]) (rest := []) (c_Arrays_fillI l D cI cJ tt qSd_channelCounts 8 _ Sd_channelCounts (0 : Int32) g1 hu) F ok_Arrays_fillI k_492 hK hE hP hD hS hA [1] [0] rfl rfl (by decide) (by decide) (by decide) ⟨rfl, rfl, Nat.le_of_ble_eq_true rfl, Nat.le_of_ble_eq_true rfl⟩ ⟨Nat.zero_le _, Nat.zero_le _⟩ rfl hl.1 rfl (Nat.le_of_ble_eq_true rfl) d_Sender_restart_15 (fun H locs hP hD hS => ?_)
  have hP : va_P D classes (w_Sender_restart cI cJ qSd qSd_channelCounts Sd_shape Sd_words Sd_mixer Sd_bytes Sd_craft (0 : Int32) (0 : Int32) g1) H := hP.sub [0, 1] rfl
  have hD : va_D A (w_Sender_restart cI cJ qSd qSd_channelCounts Sd_shape Sd_words Sd_mixer Sd_bytes Sd_craft (0 : Int32) (0 : Int32) g1) := hD.sub [0, 1] (by decide) rfl
  cases hm
  exact z_qo hQ (z_vret hr hx hb hlocks hK hP hD hS d_Sender_restart_18)
-- DeepChannel$Sender.exchangeCraft(I)I
abbrev b_Sender_exchangeCraft : ByteArray := prog_9_method_3_code
abbrev y_Sender_exchangeCraft : MethodName := ⟨"DeepChannel$Sender", "exchangeCraft", "(I)I"⟩
theorem d_Sender_exchangeCraft_0 : decode b_Sender_exchangeCraft 0 = .ok (.aload_n 0, 1) := by decide +kernel
theorem d_Sender_exchangeCraft_1 : decode b_Sender_exchangeCraft 1 = .ok (.getfield 22, 3) := by decide +kernel
theorem d_Sender_exchangeCraft_4 : decode b_Sender_exchangeCraft 4 = .ok (.istore_n 2, 1) := by decide +kernel
theorem d_Sender_exchangeCraft_5 : decode b_Sender_exchangeCraft 5 = .ok (.aload_n 0, 1) := by decide +kernel
theorem d_Sender_exchangeCraft_6 : decode b_Sender_exchangeCraft 6 = .ok (.iload_n 1, 1) := by decide +kernel
theorem d_Sender_exchangeCraft_7 : decode b_Sender_exchangeCraft 7 = .ok (.putfield 22, 3) := by decide +kernel
theorem d_Sender_exchangeCraft_10 : decode b_Sender_exchangeCraft 10 = .ok (.iload_n 2, 1) := by decide +kernel
theorem d_Sender_exchangeCraft_11 : decode b_Sender_exchangeCraft 11 = .ok (.ireturn, 1) := by decide +kernel
theorem ok_Sender_exchangeCraft : OKv y_Sender_exchangeCraft b_Sender_exchangeCraft 3 (some .int) "DeepChannel$Sender" 1 := ⟨k_509, k_507, k_508, k_52, by decide +kernel, by decide +kernel, by decide +kernel⟩
abbrev w_Sender_exchangeCraft (cI cJ : ClassId) (qSd : Nat) (Sd_shape Sd_words Sd_mixer Sd_bytes Sd_channelCounts Sd_masterCount Sd_dataCount : Value) (Sd_craft : Int32) : va_W := [(qSd, .inr (7, [Sd_shape, Sd_words, Sd_mixer, Sd_bytes, Sd_channelCounts, Sd_masterCount, .int Sd_craft, Sd_dataCount]))]
def f_Sender_exchangeCraft (Sd_craft : Int32) (x1 : Int32) : Option (Int32 × Int32) :=
  some (Sd_craft, x1)
set_option maxHeartbeats 4000000 in
set_option maxRecDepth 100000 in
theorem c_Sender_exchangeCraft (l : Launch) (D : va_G) (cI cJ : ClassId) (tt : Nat → Nat) (qSd : Nat) (Sd_shape Sd_words Sd_mixer Sd_bytes Sd_channelCounts Sd_masterCount Sd_dataCount : Value) (sz : Nat) (Sd_craft : Int32) (x1 : Int32) (rr : Int32) (Sd_craft' : Int32) (hm : f_Sender_exchangeCraft Sd_craft x1 = some (rr, Sd_craft')) : CTi l y_Sender_exchangeCraft b_Sender_exchangeCraft 3 (some .int) (RM 0 0) D cI cJ tt [.ref qSd, .int x1] (w_Sender_exchangeCraft cI cJ qSd Sd_shape Sd_words Sd_mixer Sd_bytes Sd_channelCounts Sd_masterCount Sd_dataCount Sd_craft) (w_Sender_exchangeCraft cI cJ qSd Sd_shape Sd_words Sd_mixer Sd_bytes Sd_channelCounts Sd_masterCount Sd_dataCount Sd_craft') sz rr := by
  refine Met.ofW (cc := b_Sender_exchangeCraft) (maxL := 3) (ret := (some .int)) (by decide) rfl ?_
  intro p e s m args below meth c s₁ B hml hv
  obtain ⟨hargs, hsz, hP, hK, hD0, hE⟩ := hv
  have hx := B.exec
  have hb := B.bytes
  have hr := B.returns
  have hts : ∀ w ∈ TB, w.before args s = true := z_mV s (atoms_spec (ws := WD y_Sender_exchangeCraft b_Sender_exchangeCraft 3 (some .int)) B.pre)
  have hown : s.vm.findClass "DeepChannel$Sender" = some m.cls := findClass_of_methodNamed B.named
  have hlocks := B.notSynchronized
  subst hsz
  have hD := hD0.self (sz := s.heap.size)
  generalize hAe : va_A (w_Sender_exchangeCraft cI cJ qSd Sd_shape Sd_words Sd_mixer Sd_bytes Sd_channelCounts Sd_masterCount Sd_dataCount Sd_craft) s.heap.size = A at hD hE ⊢
  have hA : ∀ q : Nat, s.heap.size ≤ q → A q := fun q h => by rw [← hAe]; exact Or.inr h
  have hS : va_S A s.heap s.heap [] := va_S.rf
  refine z_entry (vs := [.ref qSd, .int x1]) hargs (Nat.le_of_ble_eq_true rfl) (fun ls hl => ?_)
  have hl : lv_has ls 3 [(0, .ref qSd), (1, .int x1)] := hl
  show W p l e (RM 0 0) s m args below meth c s.heap [] 0 0 _ _
  refine z_qi (fun Q0 hQ => ?_)
  have F : CallFix p m c b_Sender_exchangeCraft 3 s args TB "DeepChannel$Sender" := ⟨hx, hb, hml, hown, hts⟩
  unfold f_Sender_exchangeCraft at hm
  refine lv_aload_n hx hb d_Sender_exchangeCraft_0 rfl (lv_at hl 0 rfl) ?_
  refine va_get (D := D) (ci := 7) (v := .int Sd_craft) (C := "DeepChannel$Sender") (T := fT_Sender) (N := 8) hx hb hts u_Sender hown hK hP 0 rfl rfl 6 (by decide) (hts _ k_251) (fun _ h9 => h9) rfl d_Sender_exchangeCraft_1 ?_
  refine lv_istore_n (lv' := [(2, .int Sd_craft), (0, .ref qSd), (1, .int x1)]) hx hb d_Sender_exchangeCraft_4 rfl hl (by decide) rfl (fun ls hl => ?_)
  refine lv_aload_n hx hb d_Sender_exchangeCraft_5 rfl (lv_at hl 1 rfl) ?_
  refine lv_iload_n hx hb d_Sender_exchangeCraft_6 rfl (lv_at hl 2 rfl) ?_
  refine va_put (D := D) (ci := 7) (v := .int x1) (ty := .int) (C := "DeepChannel$Sender") (T := fT_Sender) (N := 8) hx hb hts u_Sender fY_Sender fK_Sender fN_Sender hown hK hP hD hS 0 rfl rfl 6 (by decide) (hts _ k_251) (fun _ h9 => h9) rfl (by decide +kernel) rfl rfl (Nat.le_of_ble_eq_true rfl) d_Sender_exchangeCraft_7 (fun H locs hP hD hS => ?_)
  have hP : va_P D classes (w_Sender_exchangeCraft cI cJ qSd Sd_shape Sd_words Sd_mixer Sd_bytes Sd_channelCounts Sd_masterCount Sd_dataCount x1) H := hP
  have hD : va_D A (w_Sender_exchangeCraft cI cJ qSd Sd_shape Sd_words Sd_mixer Sd_bytes Sd_channelCounts Sd_masterCount Sd_dataCount x1) := hD
  refine lv_iload_n hx hb d_Sender_exchangeCraft_10 rfl (lv_at hl 0 rfl) ?_
  cases hm
  exact z_qo hQ (z_ireti hr hx hb hlocks hK hP hD hS d_Sender_exchangeCraft_11)
-- DeepChannel$Sender.waiting()I
abbrev b_Sender_waiting : ByteArray := prog_9_method_4_code
abbrev y_Sender_waiting : MethodName := ⟨"DeepChannel$Sender", "waiting", "()I"⟩
theorem d_Sender_waiting_0 : decode b_Sender_waiting 0 = .ok (.aload_n 0, 1) := by decide +kernel
theorem d_Sender_waiting_1 : decode b_Sender_waiting 1 = .ok (.getfield 25, 3) := by decide +kernel
theorem d_Sender_waiting_4 : decode b_Sender_waiting 4 = .ok (.ireturn, 1) := by decide +kernel
theorem ok_Sender_waiting : OKv y_Sender_waiting b_Sender_waiting 1 (some .int) "DeepChannel$Sender" 0 := ⟨k_537, k_535, k_536, k_52, by decide +kernel, by decide +kernel, by decide +kernel⟩
abbrev w_Sender_waiting (cI cJ : ClassId) (qSd : Nat) (Sd_shape Sd_words Sd_mixer Sd_bytes Sd_channelCounts Sd_masterCount Sd_craft : Value) (Sd_dataCount : Int32) : va_W := [(qSd, .inr (7, [Sd_shape, Sd_words, Sd_mixer, Sd_bytes, Sd_channelCounts, Sd_masterCount, Sd_craft, .int Sd_dataCount]))]
def f_Sender_waiting (Sd_dataCount : Int32) : Option (Int32) :=
  some Sd_dataCount
set_option maxHeartbeats 4000000 in
set_option maxRecDepth 100000 in
theorem c_Sender_waiting (l : Launch) (D : va_G) (cI cJ : ClassId) (tt : Nat → Nat) (qSd : Nat) (Sd_shape Sd_words Sd_mixer Sd_bytes Sd_channelCounts Sd_masterCount Sd_craft : Value) (sz : Nat) (Sd_dataCount : Int32) (rr : Int32) (hm : f_Sender_waiting Sd_dataCount = some rr) : CTi l y_Sender_waiting b_Sender_waiting 1 (some .int) (RM 0 0) D cI cJ tt [.ref qSd] (w_Sender_waiting cI cJ qSd Sd_shape Sd_words Sd_mixer Sd_bytes Sd_channelCounts Sd_masterCount Sd_craft Sd_dataCount) (w_Sender_waiting cI cJ qSd Sd_shape Sd_words Sd_mixer Sd_bytes Sd_channelCounts Sd_masterCount Sd_craft Sd_dataCount) sz rr := by
  refine Met.ofW (cc := b_Sender_waiting) (maxL := 1) (ret := (some .int)) (by decide) rfl ?_
  intro p e s m args below meth c s₁ B hml hv
  obtain ⟨hargs, hsz, hP, hK, hD0, hE⟩ := hv
  have hx := B.exec
  have hb := B.bytes
  have hr := B.returns
  have hts : ∀ w ∈ TB, w.before args s = true := z_mV s (atoms_spec (ws := WD y_Sender_waiting b_Sender_waiting 1 (some .int)) B.pre)
  have hown : s.vm.findClass "DeepChannel$Sender" = some m.cls := findClass_of_methodNamed B.named
  have hlocks := B.notSynchronized
  subst hsz
  have hD := hD0.self (sz := s.heap.size)
  generalize hAe : va_A (w_Sender_waiting cI cJ qSd Sd_shape Sd_words Sd_mixer Sd_bytes Sd_channelCounts Sd_masterCount Sd_craft Sd_dataCount) s.heap.size = A at hD hE ⊢
  have hA : ∀ q : Nat, s.heap.size ≤ q → A q := fun q h => by rw [← hAe]; exact Or.inr h
  have hS : va_S A s.heap s.heap [] := va_S.rf
  refine z_entry (vs := [.ref qSd]) hargs (Nat.le_of_ble_eq_true rfl) (fun ls hl => ?_)
  have hl : lv_has ls 1 [(0, .ref qSd)] := hl
  show W p l e (RM 0 0) s m args below meth c s.heap [] 0 0 _ _
  refine z_qi (fun Q0 hQ => ?_)
  have F : CallFix p m c b_Sender_waiting 1 s args TB "DeepChannel$Sender" := ⟨hx, hb, hml, hown, hts⟩
  unfold f_Sender_waiting at hm
  refine lv_aload_n hx hb d_Sender_waiting_0 rfl (lv_at hl 0 rfl) ?_
  refine va_get (D := D) (ci := 7) (v := .int Sd_dataCount) (C := "DeepChannel$Sender") (T := fT_Sender) (N := 8) hx hb hts u_Sender hown hK hP 0 rfl rfl 7 (by decide) (hts _ k_252) (fun _ h9 => h9) rfl d_Sender_waiting_1 ?_
  cases hm
  exact z_qo hQ (z_ireti hr hx hb hlocks hK hP hD hS d_Sender_waiting_4)
-- DeepChannel$Sender.addData(IJ)Z
abbrev b_Sender_addData : ByteArray := prog_9_method_5_code
abbrev y_Sender_addData : MethodName := ⟨"DeepChannel$Sender", "addData", "(IJ)Z"⟩
theorem d_Sender_addData_0 : decode b_Sender_addData 0 = .ok (.aload_n 0, 1) := by decide +kernel
theorem d_Sender_addData_1 : decode b_Sender_addData 1 = .ok (.getfield 25, 3) := by decide +kernel
theorem d_Sender_addData_4 : decode b_Sender_addData 4 = .ok (.iload_n 1, 1) := by decide +kernel
theorem d_Sender_addData_5 : decode b_Sender_addData 5 = .ok (.iadd, 1) := by decide +kernel
theorem d_Sender_addData_6 : decode b_Sender_addData 6 = .ok (.aload_n 0, 1) := by decide +kernel
theorem d_Sender_addData_7 : decode b_Sender_addData 7 = .ok (.getfield 28, 3) := by decide +kernel
theorem d_Sender_addData_10 : decode b_Sender_addData 10 = .ok (.invokevirtual 46, 3) := by decide +kernel
theorem d_Sender_addData_13 : decode b_Sender_addData 13 = .ok (.if_icmp .le 5, 3) := by decide +kernel
theorem d_Sender_addData_16 : decode b_Sender_addData 16 = .ok (.iconst 0, 1) := by decide +kernel
theorem d_Sender_addData_17 : decode b_Sender_addData 17 = .ok (.ireturn, 1) := by decide +kernel
theorem d_Sender_addData_18 : decode b_Sender_addData 18 = .ok (.iconst 0, 1) := by decide +kernel
theorem d_Sender_addData_19 : decode b_Sender_addData 19 = .ok (.istore 4, 2) := by decide +kernel
theorem d_Sender_addData_21 : decode b_Sender_addData 21 = .ok (.iload 4, 2) := by decide +kernel
theorem d_Sender_addData_23 : decode b_Sender_addData 23 = .ok (.iload_n 1, 1) := by decide +kernel
theorem d_Sender_addData_24 : decode b_Sender_addData 24 = .ok (.if_icmp .ge 36, 3) := by decide +kernel
theorem d_Sender_addData_27 : decode b_Sender_addData 27 = .ok (.aload_n 0, 1) := by decide +kernel
theorem d_Sender_addData_28 : decode b_Sender_addData 28 = .ok (.getfield 9, 3) := by decide +kernel
theorem d_Sender_addData_31 : decode b_Sender_addData 31 = .ok (.bipush 6, 2) := by decide +kernel
theorem d_Sender_addData_33 : decode b_Sender_addData 33 = .ok (.aload_n 0, 1) := by decide +kernel
theorem d_Sender_addData_34 : decode b_Sender_addData 34 = .ok (.getfield 25, 3) := by decide +kernel
theorem d_Sender_addData_37 : decode b_Sender_addData 37 = .ok (.iadd, 1) := by decide +kernel
theorem d_Sender_addData_38 : decode b_Sender_addData 38 = .ok (.iload 4, 2) := by decide +kernel
theorem d_Sender_addData_40 : decode b_Sender_addData 40 = .ok (.iadd, 1) := by decide +kernel
theorem d_Sender_addData_41 : decode b_Sender_addData 41 = .ok (.lload_n 2, 1) := by decide +kernel
theorem d_Sender_addData_42 : decode b_Sender_addData 42 = .ok (.bipush 8, 2) := by decide +kernel
theorem d_Sender_addData_44 : decode b_Sender_addData 44 = .ok (.iload 4, 2) := by decide +kernel
theorem d_Sender_addData_46 : decode b_Sender_addData 46 = .ok (.imul, 1) := by decide +kernel
theorem d_Sender_addData_47 : decode b_Sender_addData 47 = .ok (.lushr, 1) := by decide +kernel
theorem d_Sender_addData_48 : decode b_Sender_addData 48 = .ok (.l2i, 1) := by decide +kernel
theorem d_Sender_addData_49 : decode b_Sender_addData 49 = .ok (.sipush 255, 3) := by decide +kernel
theorem d_Sender_addData_52 : decode b_Sender_addData 52 = .ok (.iand, 1) := by decide +kernel
theorem d_Sender_addData_53 : decode b_Sender_addData 53 = .ok (.iastore, 1) := by decide +kernel
theorem d_Sender_addData_54 : decode b_Sender_addData 54 = .ok (.iinc 4 1, 3) := by decide +kernel
theorem d_Sender_addData_57 : decode b_Sender_addData 57 = .ok (.goto (-36), 3) := by decide +kernel
theorem d_Sender_addData_60 : decode b_Sender_addData 60 = .ok (.aload_n 0, 1) := by decide +kernel
theorem d_Sender_addData_61 : decode b_Sender_addData 61 = .ok (.dup, 1) := by decide +kernel
theorem d_Sender_addData_62 : decode b_Sender_addData 62 = .ok (.getfield 25, 3) := by decide +kernel
theorem d_Sender_addData_65 : decode b_Sender_addData 65 = .ok (.iload_n 1, 1) := by decide +kernel
theorem d_Sender_addData_66 : decode b_Sender_addData 66 = .ok (.iadd, 1) := by decide +kernel
theorem d_Sender_addData_67 : decode b_Sender_addData 67 = .ok (.putfield 25, 3) := by decide +kernel
theorem d_Sender_addData_70 : decode b_Sender_addData 70 = .ok (.iconst 1, 1) := by decide +kernel
theorem d_Sender_addData_71 : decode b_Sender_addData 71 = .ok (.ireturn, 1) := by decide +kernel
theorem ok_Sender_addData : OKv y_Sender_addData b_Sender_addData 5 (some .boolean) "DeepChannel$Sender" 2 := ⟨k_563, k_561, k_562, k_52, by decide +kernel, by decide +kernel, by decide +kernel⟩
abbrev w_Sender_addData (cI cJ : ClassId) (qSd qSh qSd_bytes : Nat) (Sd_words Sd_mixer Sd_channelCounts Sd_masterCount Sd_craft Sh_pattern : Value) (Sd_dataCount : Int32) (Sh_depth : Int32) (Sh_wordBytes : Int32) (Sh_e : Int32) (Sd_bytes : Nat → Int32) : va_W := [(qSd, .inr (7, [.ref qSh, Sd_words, Sd_mixer, .ref qSd_bytes, Sd_channelCounts, Sd_masterCount, Sd_craft, .int Sd_dataCount])), (qSh, .inr (8, [.int Sh_depth, .int Sh_wordBytes, .int Sh_e, Sh_pattern])), (qSd_bytes, .inl (cI, 250, .inl Sd_bytes))]
def f_Sender_addData_60  (x1 : Int32) (Sd_dataCount : Int32) (Sd_bytes : Nat → Int32) : Option (Int32 × Int32 × (Nat → Int32)) :=
  nm (Sd_dataCount + x1) fun v1 =>
  zb (1 : Int32) <|
  some ((1 : Int32), v1, Sd_bytes)
def f_Sender_addData_21_b  (kh21 : Int32 → Int64 → Int32 → Int32 → (Nat → Int32) → Option (Int32 × Int32 × (Nat → Int32))) (x1 : Int32) (x2 : Int64) (x4 : Int32) (Sd_dataCount : Int32) (Sd_bytes : Nat → Int32) : Option (Int32 × Int32 × (Nat → Int32)) :=
  if x1 ≤ x4 then
    f_Sender_addData_60 x1 Sd_dataCount Sd_bytes
  else
  wrI Sd_bytes 250 (((6 : Int32) + Sd_dataCount) + x4) (((x2.toUInt64 >>> (((8 : Int32) * x4).toInt64.toUInt64 &&& Int64.toUInt64 63)).toInt64).toInt32 &&& (255 : Int32)) fun g2 =>
  nm (x4 + (1 : Int32)) fun v3 =>
  kh21 x1 x2 v3 Sd_dataCount g2
def f_Sender_addData_21  : Nat → Int32 → Int64 → Int32 → Int32 → (Nat → Int32) → Option (Int32 × Int32 × (Nat → Int32))
  | 0 => fun _ _ _ _ _ => none
  | n + 1 => fun x1 x2 x4 Sd_dataCount Sd_bytes => f_Sender_addData_21_b (f_Sender_addData_21 n) x1 x2 x4 Sd_dataCount Sd_bytes
def f_Sender_addData (Sd_dataCount : Int32) (Sh_depth : Int32) (Sh_wordBytes : Int32) (Sh_e : Int32) (Sd_bytes : Nat → Int32) (x1 : Int32) (x2 : Int64) : Option (Int32 × Int32 × (Nat → Int32)) :=
  bd (f_Shape_dataBytes Sh_depth Sh_wordBytes Sh_e) fun u5 =>
  nm u5 fun r4 =>
  if (Sd_dataCount + x1) ≤ r4 then
    f_Sender_addData_21 10000 x1 x2 (0 : Int32) Sd_dataCount Sd_bytes
  else
  zb (0 : Int32) <|
  some ((0 : Int32), Sd_dataCount, Sd_bytes)
set_option maxHeartbeats 4000000 in
set_option maxRecDepth 100000 in
theorem c_Sender_addData (l : Launch) (D : va_G) (cI cJ : ClassId) (tt : Nat → Nat) (qSd qSh qSd_bytes : Nat) (Sd_words Sd_mixer Sd_channelCounts Sd_masterCount Sd_craft Sh_pattern : Value) (sz : Nat) (Sd_dataCount : Int32) (Sh_depth : Int32) (Sh_wordBytes : Int32) (Sh_e : Int32) (Sd_bytes : Nat → Int32) (x1 : Int32) (x2 : Int64) (rr : Int32) (Sd_dataCount' : Int32) (Sd_bytes' : Nat → Int32) (hm : f_Sender_addData Sd_dataCount Sh_depth Sh_wordBytes Sh_e Sd_bytes x1 x2 = some (rr, Sd_dataCount', Sd_bytes')) : CTi l y_Sender_addData b_Sender_addData 5 (some .boolean) (RM 2 40) D cI cJ tt [.ref qSd, .int x1, .long x2] (w_Sender_addData cI cJ qSd qSh qSd_bytes Sd_words Sd_mixer Sd_channelCounts Sd_masterCount Sd_craft Sh_pattern Sd_dataCount Sh_depth Sh_wordBytes Sh_e Sd_bytes) (w_Sender_addData cI cJ qSd qSh qSd_bytes Sd_words Sd_mixer Sd_channelCounts Sd_masterCount Sd_craft Sh_pattern Sd_dataCount' Sh_depth Sh_wordBytes Sh_e Sd_bytes') sz rr := by
  refine Met.ofW (cc := b_Sender_addData) (maxL := 5) (ret := (some .boolean)) (by decide) rfl ?_
  intro p e s m args below meth c s₁ B hml hv
  obtain ⟨hargs, hsz, hP, hK, hD0, hE⟩ := hv
  have hx := B.exec
  have hb := B.bytes
  have hr := B.returns
  have hts : ∀ w ∈ TB, w.before args s = true := z_mV s (atoms_spec (ws := WD y_Sender_addData b_Sender_addData 5 (some .boolean)) B.pre)
  have hown : s.vm.findClass "DeepChannel$Sender" = some m.cls := findClass_of_methodNamed B.named
  have hlocks := B.notSynchronized
  subst hsz
  have hD := hD0.self (sz := s.heap.size)
  generalize hAe : va_A (w_Sender_addData cI cJ qSd qSh qSd_bytes Sd_words Sd_mixer Sd_channelCounts Sd_masterCount Sd_craft Sh_pattern Sd_dataCount Sh_depth Sh_wordBytes Sh_e Sd_bytes) s.heap.size = A at hD hE ⊢
  have hA : ∀ q : Nat, s.heap.size ≤ q → A q := fun q h => by rw [← hAe]; exact Or.inr h
  have hS : va_S A s.heap s.heap [] := va_S.rf
  refine z_entry (vs := [.ref qSd, .int x1, .long x2]) hargs (Nat.le_of_ble_eq_true rfl) (fun ls hl => ?_)
  have hl : lv_has ls 5 [(0, .ref qSd), (1, .int x1), (2, .long x2)] := hl
  show W p l e (RM 2 40) s m args below meth c s.heap [] 0 0 _ _
  refine z_qi (fun Q0 hQ => ?_)
  have F : CallFix p m c b_Sender_addData 5 s args TB "DeepChannel$Sender" := ⟨hx, hb, hml, hown, hts⟩
  have T60 : ∀ (x1 : Int32) (Sd_dataCount : Int32) (Sd_bytes : Nat → Int32), f_Sender_addData_60 x1 Sd_dataCount Sd_bytes = some (rr, Sd_dataCount', Sd_bytes') → ∀ (H : Heap) (locs : List Loc), va_P D classes (w_Sender_addData cI cJ qSd qSh qSd_bytes Sd_words Sd_mixer Sd_channelCounts Sd_masterCount Sd_craft Sh_pattern Sd_dataCount Sh_depth Sh_wordBytes Sh_e Sd_bytes) H → va_D A (w_Sender_addData cI cJ qSd qSh qSd_bytes Sd_words Sd_mixer Sd_channelCounts Sd_masterCount Sd_craft Sh_pattern Sd_dataCount Sh_depth Sh_wordBytes Sh_e Sd_bytes) → va_S A s.heap H locs → ∀ (ls : Array Slot), lv_has ls 5 [(0, .ref qSd), (1, .int x1)] → W p l e (RM 2 40) s m args below meth c H locs 0 0 Q0 (F0 m 60 ls []) := by
    intro x1 Sd_dataCount Sd_bytes hm H locs hP hD hS ls hl
    unfold f_Sender_addData_60 at hm
    refine lv_aload_n hx hb d_Sender_addData_60 rfl (lv_at hl 0 rfl) ?_
    refine lv_dup hx hb d_Sender_addData_61 rfl ?_
    refine va_get (D := D) (ci := 7) (v := .int Sd_dataCount) (C := "DeepChannel$Sender") (T := fT_Sender) (N := 8) hx hb hts u_Sender hown hK hP 0 rfl rfl 7 (by decide) (hts _ k_252) (fun _ h9 => h9) rfl d_Sender_addData_62 ?_
    refine lv_iload_n hx hb d_Sender_addData_65 rfl (lv_at hl 1 rfl) ?_
    refine lv_iadd hx hb d_Sender_addData_66 ?_
    refine z_nmi hm (fun v1 hm => ?_)
    refine va_put (D := D) (ci := 7) (v := .int v1) (ty := .int) (C := "DeepChannel$Sender") (T := fT_Sender) (N := 8) hx hb hts u_Sender fY_Sender fK_Sender fN_Sender hown hK hP hD hS 0 rfl rfl 7 (by decide) (hts _ k_252) (fun _ h9 => h9) rfl (by decide +kernel) rfl rfl (Nat.le_of_ble_eq_true rfl) d_Sender_addData_67 (fun H locs hP hD hS => ?_)
    have hP : va_P D classes (w_Sender_addData cI cJ qSd qSh qSd_bytes Sd_words Sd_mixer Sd_channelCounts Sd_masterCount Sd_craft Sh_pattern v1 Sh_depth Sh_wordBytes Sh_e Sd_bytes) H := hP
    have hD : va_D A (w_Sender_addData cI cJ qSd qSh qSd_bytes Sd_words Sd_mixer Sd_channelCounts Sd_masterCount Sd_craft Sh_pattern v1 Sh_depth Sh_wordBytes Sh_e Sd_bytes) := hD
    refine lv_iconst (v := (1 : Int32)) hx hb d_Sender_addData_70 (by decide) ?_
    obtain ⟨hz, hm⟩ := zb_el hm
    cases hm
    exact z_qo hQ (z_iretz hz hr hx hb hlocks hK hP hD hS d_Sender_addData_71)
  have T21 : ∀ (n21 : Nat) (x1 : Int32) (x2 : Int64) (x4 : Int32) (Sd_dataCount : Int32) (Sd_bytes : Nat → Int32), f_Sender_addData_21 n21 x1 x2 x4 Sd_dataCount Sd_bytes = some (rr, Sd_dataCount', Sd_bytes') → ∀ (H : Heap) (locs : List Loc), va_P D classes (w_Sender_addData cI cJ qSd qSh qSd_bytes Sd_words Sd_mixer Sd_channelCounts Sd_masterCount Sd_craft Sh_pattern Sd_dataCount Sh_depth Sh_wordBytes Sh_e Sd_bytes) H → va_D A (w_Sender_addData cI cJ qSd qSh qSd_bytes Sd_words Sd_mixer Sd_channelCounts Sd_masterCount Sd_craft Sh_pattern Sd_dataCount Sh_depth Sh_wordBytes Sh_e Sd_bytes) → va_S A s.heap H locs → ∀ (ls : Array Slot), lv_has ls 5 [(0, .ref qSd), (1, .int x1), (2, .long x2), (4, .int x4)] → W p l e (RM 2 40) s m args below meth c H locs 0 0 Q0 (F0 m 21 ls []) := by
    intro n21
    induction n21 with
    | zero => intro x1 x2 x4 Sd_dataCount Sd_bytes hm; cases hm
    | succ n21 ih21 =>
      intro x1 x2 x4 Sd_dataCount Sd_bytes hm H locs hP hD hS ls hl
      replace hm : f_Sender_addData_21_b (f_Sender_addData_21 n21) x1 x2 x4 Sd_dataCount Sd_bytes = some (rr, Sd_dataCount', Sd_bytes') := hm
      unfold f_Sender_addData_21_b at hm
      refine lv_iload hx hb d_Sender_addData_21 (lv_at hl 3 rfl) ?_
      refine lv_iload_n hx hb d_Sender_addData_23 rfl (lv_at hl 1 rfl) ?_
      refine z_if hm (lv_icmp_ge (tgt := 60) hx hb d_Sender_addData_24 (by decide)) (fun hm => ?_) (fun hm => ?_)
      · exact T60 x1 Sd_dataCount Sd_bytes hm _ _ hP hD hS _ (lv_sub hl [0, 1] rfl)
      · refine lv_aload_n hx hb d_Sender_addData_27 rfl (lv_at hl 0 rfl) ?_
        refine va_get (D := D) (ci := 7) (v := .ref qSd_bytes) (C := "DeepChannel$Sender") (T := fT_Sender) (N := 8) hx hb hts u_Sender hown hK hP 0 rfl rfl 3 (by decide) (hts _ k_248) (fun _ h9 => h9) rfl d_Sender_addData_28 ?_
        refine lv_bipush (v := (6 : Int32)) hx hb d_Sender_addData_31 (by decide) ?_
        refine lv_aload_n hx hb d_Sender_addData_33 rfl (lv_at hl 0 rfl) ?_
        refine va_get (D := D) (ci := 7) (v := .int Sd_dataCount) (C := "DeepChannel$Sender") (T := fT_Sender) (N := 8) hx hb hts u_Sender hown hK hP 0 rfl rfl 7 (by decide) (hts _ k_252) (fun _ h9 => h9) rfl d_Sender_addData_34 ?_
        refine lv_iadd hx hb d_Sender_addData_37 ?_
        refine lv_iload hx hb d_Sender_addData_38 (lv_at hl 3 rfl) ?_
        refine lv_iadd hx hb d_Sender_addData_40 ?_
        refine lv_lload_n hx hb d_Sender_addData_41 rfl (lv_at hl 2 rfl) ?_
        refine lv_bipush (v := (8 : Int32)) hx hb d_Sender_addData_42 (by decide) ?_
        refine lv_iload hx hb d_Sender_addData_44 (lv_at hl 3 rfl) ?_
        refine lv_imul hx hb d_Sender_addData_46 ?_
        refine lv_lushr (v := ((x2.toUInt64 >>> (((8 : Int32) * x4).toInt64.toUInt64 &&& Int64.toUInt64 63)).toInt64)) hx hb d_Sender_addData_47 rfl ?_
        refine lv_l2i (v := ((x2.toUInt64 >>> (((8 : Int32) * x4).toInt64.toUInt64 &&& Int64.toUInt64 63)).toInt64).toInt32) hx hb d_Sender_addData_48 rfl ?_
        refine lv_sipush (v := (255 : Int32)) hx hb d_Sender_addData_49 (by decide) ?_
        refine lv_iand hx hb d_Sender_addData_52 ?_
        refine z_iast hm hx hb hK hP hD hS 2 rfl d_Sender_addData_53 (fun g2 hm H locs hP hD hS => ?_)
        have hP : va_P D classes (w_Sender_addData cI cJ qSd qSh qSd_bytes Sd_words Sd_mixer Sd_channelCounts Sd_masterCount Sd_craft Sh_pattern Sd_dataCount Sh_depth Sh_wordBytes Sh_e g2) H := hP
        have hD : va_D A (w_Sender_addData cI cJ qSd qSh qSd_bytes Sd_words Sd_mixer Sd_channelCounts Sd_masterCount Sd_craft Sh_pattern Sd_dataCount Sh_depth Sh_wordBytes Sh_e g2) := hD
        obtain ⟨v3, ev, hm⟩ := nm_el hm
        refine lv_iinc (v := v3) (lv' := [(4, .int v3), (0, .ref qSd), (1, .int x1), (2, .long x2)]) hx hb d_Sender_addData_54 hl (k := 3) rfl (by rw [ev]; rfl) (by decide) rfl (fun ls hl => ?_)
        refine lv_goto (tgt := 21) hx hb d_Sender_addData_57 (by decide) ?_
        exact ih21 x1 x2 v3 Sd_dataCount g2 hm _ _ hP hD hS _ (lv_sub hl [1, 2, 3, 0] rfl)
  unfold f_Sender_addData at hm
  refine lv_aload_n hx hb d_Sender_addData_0 rfl (lv_at hl 0 rfl) ?_
  refine va_get (D := D) (ci := 7) (v := .int Sd_dataCount) (C := "DeepChannel$Sender") (T := fT_Sender) (N := 8) hx hb hts u_Sender hown hK hP 0 rfl rfl 7 (by decide) (hts _ k_252) (fun _ h9 => h9) rfl d_Sender_addData_1 ?_
  refine lv_iload_n hx hb d_Sender_addData_4 rfl (lv_at hl 1 rfl) ?_
  refine lv_iadd hx hb d_Sender_addData_5 ?_
  refine lv_aload_n hx hb d_Sender_addData_6 rfl (lv_at hl 0 rfl) ?_
  refine va_get (D := D) (ci := 7) (v := .ref qSh) (C := "DeepChannel$Sender") (T := fT_Sender) (N := 8) hx hb hts u_Sender hown hK hP 0 rfl rfl 0 (by decide) (hts _ k_245) (fun _ h9 => h9) rfl d_Sender_addData_7 ?_
  obtain ⟨r4, hu, hm⟩ := bd_el hm
  replace hm := nm_1 hm
  refine z_cVi (wc := w_Shape_dataBytes cI cJ qSh Sh_pattern Sh_depth Sh_wordBytes Sh_e) (wc' := w_Shape_dataBytes cI cJ qSh Sh_pattern Sh_depth Sh_wordBytes Sh_e) (wr := [(qSd, .inr (7, [.ref qSh, Sd_words, Sd_mixer, .ref qSd_bytes, Sd_channelCounts, Sd_masterCount, Sd_craft, .int Sd_dataCount])), (qSd_bytes, .inl (cI, 250, .inl Sd_bytes))]) (As := []) (rest := [.int (Sd_dataCount + x1)]) (c_Shape_dataBytes l D cI cJ tt qSh Sh_pattern _ Sh_depth Sh_wordBytes Sh_e r4 hu) F ok_Shape_dataBytes rfl k_564 hK hE hP hD hS hA [1] [0, 2] rfl rfl (by decide) (by decide) (by decide) 0 rfl rfl rfl ⟨rfl, rfl, Nat.le_of_ble_eq_true rfl, Nat.le_of_ble_eq_true rfl⟩ ⟨Nat.zero_le _, Nat.zero_le _⟩ rfl hl.1 rfl (Nat.le_of_ble_eq_true rfl) d_Sender_addData_10 (fun H locs hP hD hS => ?_)
  have hP : va_P D classes (w_Sender_addData cI cJ qSd qSh qSd_bytes Sd_words Sd_mixer Sd_channelCounts Sd_masterCount Sd_craft Sh_pattern Sd_dataCount Sh_depth Sh_wordBytes Sh_e Sd_bytes) H := hP.sub [0, 2, 1] rfl
  have hD : va_D A (w_Sender_addData cI cJ qSd qSh qSd_bytes Sd_words Sd_mixer Sd_channelCounts Sd_masterCount Sd_craft Sh_pattern Sd_dataCount Sh_depth Sh_wordBytes Sh_e Sd_bytes) := hD.sub [0, 2, 1] (by decide) rfl
  refine z_if hm (lv_icmp_le (tgt := 18) hx hb d_Sender_addData_13 (by decide)) (fun hm => ?_) (fun hm => ?_)
  · refine lv_iconst (v := (0 : Int32)) hx hb d_Sender_addData_18 (by decide) ?_
    refine lv_istore (lv' := [(4, .int (0 : Int32)), (0, .ref qSd), (1, .int x1), (2, .long x2)]) hx hb d_Sender_addData_19 hl (by decide) rfl (fun ls hl => ?_)
    exact T21 10000 x1 x2 (0 : Int32) Sd_dataCount Sd_bytes hm _ _ hP hD hS _ (lv_sub hl [1, 2, 3, 0] rfl)
  · refine lv_iconst (v := (0 : Int32)) hx hb d_Sender_addData_16 (by decide) ?_
    obtain ⟨hz, hm⟩ := zb_el hm
    cases hm
    exact z_qo hQ (z_iretz hz hr hx hb hlocks hK hP hD hS d_Sender_addData_17)
-- DeepChannel$Sender.countFrame(I)V
abbrev b_Sender_countFrame : ByteArray := prog_9_method_8_code
abbrev y_Sender_countFrame : MethodName := ⟨"DeepChannel$Sender", "countFrame", "(I)V"⟩
theorem d_Sender_countFrame_0 : decode b_Sender_countFrame 0 = .ok (.aload_n 0, 1) := by decide +kernel
theorem d_Sender_countFrame_1 : decode b_Sender_countFrame 1 = .ok (.aload_n 0, 1) := by decide +kernel
theorem d_Sender_countFrame_2 : decode b_Sender_countFrame 2 = .ok (.getfield 18, 3) := by decide +kernel
theorem d_Sender_countFrame_5 : decode b_Sender_countFrame 5 = .ok (.iconst 1, 1) := by decide +kernel
theorem d_Sender_countFrame_6 : decode b_Sender_countFrame 6 = .ok (.iadd, 1) := by decide +kernel
theorem d_Sender_countFrame_7 : decode b_Sender_countFrame 7 = .ok (.sipush 255, 3) := by decide +kernel
theorem d_Sender_countFrame_10 : decode b_Sender_countFrame 10 = .ok (.iand, 1) := by decide +kernel
theorem d_Sender_countFrame_11 : decode b_Sender_countFrame 11 = .ok (.putfield 18, 3) := by decide +kernel
theorem d_Sender_countFrame_14 : decode b_Sender_countFrame 14 = .ok (.aload_n 0, 1) := by decide +kernel
theorem d_Sender_countFrame_15 : decode b_Sender_countFrame 15 = .ok (.getfield 15, 3) := by decide +kernel
theorem d_Sender_countFrame_18 : decode b_Sender_countFrame 18 = .ok (.iload_n 1, 1) := by decide +kernel
theorem d_Sender_countFrame_19 : decode b_Sender_countFrame 19 = .ok (.aload_n 0, 1) := by decide +kernel
theorem d_Sender_countFrame_20 : decode b_Sender_countFrame 20 = .ok (.getfield 15, 3) := by decide +kernel
theorem d_Sender_countFrame_23 : decode b_Sender_countFrame 23 = .ok (.iload_n 1, 1) := by decide +kernel
theorem d_Sender_countFrame_24 : decode b_Sender_countFrame 24 = .ok (.iaload, 1) := by decide +kernel
theorem d_Sender_countFrame_25 : decode b_Sender_countFrame 25 = .ok (.iconst 1, 1) := by decide +kernel
theorem d_Sender_countFrame_26 : decode b_Sender_countFrame 26 = .ok (.iadd, 1) := by decide +kernel
theorem d_Sender_countFrame_27 : decode b_Sender_countFrame 27 = .ok (.sipush 255, 3) := by decide +kernel
theorem d_Sender_countFrame_30 : decode b_Sender_countFrame 30 = .ok (.iand, 1) := by decide +kernel
theorem d_Sender_countFrame_31 : decode b_Sender_countFrame 31 = .ok (.iastore, 1) := by decide +kernel
theorem d_Sender_countFrame_32 : decode b_Sender_countFrame 32 = .ok (.return_, 1) := by decide +kernel
theorem ok_Sender_countFrame : OKv y_Sender_countFrame b_Sender_countFrame 2 none "DeepChannel$Sender" 1 := ⟨k_658, k_656, k_657, k_52, by decide +kernel, by decide +kernel, by decide +kernel⟩
abbrev w_Sender_countFrame (cI cJ : ClassId) (qSd qSd_channelCounts : Nat) (Sd_shape Sd_words Sd_mixer Sd_bytes Sd_craft Sd_dataCount : Value) (Sd_masterCount : Int32) (Sd_channelCounts : Nat → Int32) : va_W := [(qSd, .inr (7, [Sd_shape, Sd_words, Sd_mixer, Sd_bytes, .ref qSd_channelCounts, .int Sd_masterCount, Sd_craft, Sd_dataCount])), (qSd_channelCounts, .inl (cI, 8, .inl Sd_channelCounts))]
def f_Sender_countFrame (Sd_masterCount : Int32) (Sd_channelCounts : Nat → Int32) (x1 : Int32) : Option (Int32 × (Nat → Int32)) :=
  nm ((Sd_masterCount + (1 : Int32)) &&& (255 : Int32)) fun v1 =>
  rdI Sd_channelCounts 8 x1 fun v2 =>
  wrI Sd_channelCounts 8 x1 ((v2 + (1 : Int32)) &&& (255 : Int32)) fun g3 =>
  some (v1, g3)
set_option maxHeartbeats 4000000 in
set_option maxRecDepth 100000 in
theorem c_Sender_countFrame (l : Launch) (D : va_G) (cI cJ : ClassId) (tt : Nat → Nat) (qSd qSd_channelCounts : Nat) (Sd_shape Sd_words Sd_mixer Sd_bytes Sd_craft Sd_dataCount : Value) (sz : Nat) (Sd_masterCount : Int32) (Sd_channelCounts : Nat → Int32) (x1 : Int32) (Sd_masterCount' : Int32) (Sd_channelCounts' : Nat → Int32) (hm : f_Sender_countFrame Sd_masterCount Sd_channelCounts x1 = some (Sd_masterCount', Sd_channelCounts')) : CTv l y_Sender_countFrame b_Sender_countFrame 2 none (RM 0 0) D cI cJ tt [.ref qSd, .int x1] (w_Sender_countFrame cI cJ qSd qSd_channelCounts Sd_shape Sd_words Sd_mixer Sd_bytes Sd_craft Sd_dataCount Sd_masterCount Sd_channelCounts) (w_Sender_countFrame cI cJ qSd qSd_channelCounts Sd_shape Sd_words Sd_mixer Sd_bytes Sd_craft Sd_dataCount Sd_masterCount' Sd_channelCounts') sz := by
  refine Met.ofW (cc := b_Sender_countFrame) (maxL := 2) (ret := none) (by decide) rfl ?_
  intro p e s m args below meth c s₁ B hml hv
  obtain ⟨hargs, hsz, hP, hK, hD0, hE⟩ := hv
  have hx := B.exec
  have hb := B.bytes
  have hr := B.returns
  have hts : ∀ w ∈ TB, w.before args s = true := z_mV s (atoms_spec (ws := WD y_Sender_countFrame b_Sender_countFrame 2 none) B.pre)
  have hown : s.vm.findClass "DeepChannel$Sender" = some m.cls := findClass_of_methodNamed B.named
  have hlocks := B.notSynchronized
  subst hsz
  have hD := hD0.self (sz := s.heap.size)
  generalize hAe : va_A (w_Sender_countFrame cI cJ qSd qSd_channelCounts Sd_shape Sd_words Sd_mixer Sd_bytes Sd_craft Sd_dataCount Sd_masterCount Sd_channelCounts) s.heap.size = A at hD hE ⊢
  have hA : ∀ q : Nat, s.heap.size ≤ q → A q := fun q h => by rw [← hAe]; exact Or.inr h
  have hS : va_S A s.heap s.heap [] := va_S.rf
  refine z_entry (vs := [.ref qSd, .int x1]) hargs (Nat.le_of_ble_eq_true rfl) (fun ls hl => ?_)
  have hl : lv_has ls 2 [(0, .ref qSd), (1, .int x1)] := hl
  show W p l e (RM 0 0) s m args below meth c s.heap [] 0 0 _ _
  refine z_qi (fun Q0 hQ => ?_)
  have F : CallFix p m c b_Sender_countFrame 2 s args TB "DeepChannel$Sender" := ⟨hx, hb, hml, hown, hts⟩
  unfold f_Sender_countFrame at hm
  refine lv_aload_n hx hb d_Sender_countFrame_0 rfl (lv_at hl 0 rfl) ?_
  refine lv_aload_n hx hb d_Sender_countFrame_1 rfl (lv_at hl 0 rfl) ?_
  refine va_get (D := D) (ci := 7) (v := .int Sd_masterCount) (C := "DeepChannel$Sender") (T := fT_Sender) (N := 8) hx hb hts u_Sender hown hK hP 0 rfl rfl 5 (by decide) (hts _ k_250) (fun _ h9 => h9) rfl d_Sender_countFrame_2 ?_
  refine lv_iconst (v := (1 : Int32)) hx hb d_Sender_countFrame_5 (by decide) ?_
  refine lv_iadd hx hb d_Sender_countFrame_6 ?_
  refine lv_sipush (v := (255 : Int32)) hx hb d_Sender_countFrame_7 (by decide) ?_
  refine lv_iand hx hb d_Sender_countFrame_10 ?_
  refine z_nmi hm (fun v1 hm => ?_)
  refine va_put (D := D) (ci := 7) (v := .int v1) (ty := .int) (C := "DeepChannel$Sender") (T := fT_Sender) (N := 8) hx hb hts u_Sender fY_Sender fK_Sender fN_Sender hown hK hP hD hS 0 rfl rfl 5 (by decide) (hts _ k_250) (fun _ h9 => h9) rfl (by decide +kernel) rfl rfl (Nat.le_of_ble_eq_true rfl) d_Sender_countFrame_11 (fun H locs hP hD hS => ?_)
  have hP : va_P D classes (w_Sender_countFrame cI cJ qSd qSd_channelCounts Sd_shape Sd_words Sd_mixer Sd_bytes Sd_craft Sd_dataCount v1 Sd_channelCounts) H := hP
  have hD : va_D A (w_Sender_countFrame cI cJ qSd qSd_channelCounts Sd_shape Sd_words Sd_mixer Sd_bytes Sd_craft Sd_dataCount v1 Sd_channelCounts) := hD
  refine lv_aload_n hx hb d_Sender_countFrame_14 rfl (lv_at hl 0 rfl) ?_
  refine va_get (D := D) (ci := 7) (v := .ref qSd_channelCounts) (C := "DeepChannel$Sender") (T := fT_Sender) (N := 8) hx hb hts u_Sender hown hK hP 0 rfl rfl 4 (by decide) (hts _ k_249) (fun _ h9 => h9) rfl d_Sender_countFrame_15 ?_
  refine lv_iload_n hx hb d_Sender_countFrame_18 rfl (lv_at hl 1 rfl) ?_
  refine lv_aload_n hx hb d_Sender_countFrame_19 rfl (lv_at hl 0 rfl) ?_
  refine va_get (D := D) (ci := 7) (v := .ref qSd_channelCounts) (C := "DeepChannel$Sender") (T := fT_Sender) (N := 8) hx hb hts u_Sender hown hK hP 0 rfl rfl 4 (by decide) (hts _ k_249) (fun _ h9 => h9) rfl d_Sender_countFrame_20 ?_
  refine lv_iload_n hx hb d_Sender_countFrame_23 rfl (lv_at hl 1 rfl) ?_
  refine z_iald hm hx hb hK hP 1 rfl d_Sender_countFrame_24 (fun v2 hm => ?_)
  refine lv_iconst (v := (1 : Int32)) hx hb d_Sender_countFrame_25 (by decide) ?_
  refine lv_iadd hx hb d_Sender_countFrame_26 ?_
  refine lv_sipush (v := (255 : Int32)) hx hb d_Sender_countFrame_27 (by decide) ?_
  refine lv_iand hx hb d_Sender_countFrame_30 ?_
  refine z_iast hm hx hb hK hP hD hS 1 rfl d_Sender_countFrame_31 (fun g3 hm H locs hP hD hS => ?_)
  have hP : va_P D classes (w_Sender_countFrame cI cJ qSd qSd_channelCounts Sd_shape Sd_words Sd_mixer Sd_bytes Sd_craft Sd_dataCount v1 g3) H := hP
  have hD : va_D A (w_Sender_countFrame cI cJ qSd qSd_channelCounts Sd_shape Sd_words Sd_mixer Sd_bytes Sd_craft Sd_dataCount v1 g3) := hD
  cases hm
  exact z_qo hQ (z_vret hr hx hb hlocks hK hP hD hS d_Sender_countFrame_32)
-- DeepChannel$Sender.fillHeader(I)V
abbrev b_Sender_fillHeader : ByteArray := prog_9_method_7_code
abbrev y_Sender_fillHeader : MethodName := ⟨"DeepChannel$Sender", "fillHeader", "(I)V"⟩
theorem d_Sender_fillHeader_0 : decode b_Sender_fillHeader 0 = .ok (.aload_n 0, 1) := by decide +kernel
theorem d_Sender_fillHeader_1 : decode b_Sender_fillHeader 1 = .ok (.getfield 22, 3) := by decide +kernel
theorem d_Sender_fillHeader_4 : decode b_Sender_fillHeader 4 = .ok (.bipush 16, 2) := by decide +kernel
theorem d_Sender_fillHeader_6 : decode b_Sender_fillHeader 6 = .ok (.imul, 1) := by decide +kernel
theorem d_Sender_fillHeader_7 : decode b_Sender_fillHeader 7 = .ok (.iload_n 1, 1) := by decide +kernel
theorem d_Sender_fillHeader_8 : decode b_Sender_fillHeader 8 = .ok (.iconst 2, 1) := by decide +kernel
theorem d_Sender_fillHeader_9 : decode b_Sender_fillHeader 9 = .ok (.imul, 1) := by decide +kernel
theorem d_Sender_fillHeader_10 : decode b_Sender_fillHeader 10 = .ok (.iadd, 1) := by decide +kernel
theorem d_Sender_fillHeader_11 : decode b_Sender_fillHeader 11 = .ok (.istore_n 2, 1) := by decide +kernel
theorem d_Sender_fillHeader_12 : decode b_Sender_fillHeader 12 = .ok (.aload_n 0, 1) := by decide +kernel
theorem d_Sender_fillHeader_13 : decode b_Sender_fillHeader 13 = .ok (.getfield 9, 3) := by decide +kernel
theorem d_Sender_fillHeader_16 : decode b_Sender_fillHeader 16 = .ok (.iconst 0, 1) := by decide +kernel
theorem d_Sender_fillHeader_17 : decode b_Sender_fillHeader 17 = .ok (.iload_n 2, 1) := by decide +kernel
theorem d_Sender_fillHeader_18 : decode b_Sender_fillHeader 18 = .ok (.bipush 8, 2) := by decide +kernel
theorem d_Sender_fillHeader_20 : decode b_Sender_fillHeader 20 = .ok (.ishr, 1) := by decide +kernel
theorem d_Sender_fillHeader_21 : decode b_Sender_fillHeader 21 = .ok (.iastore, 1) := by decide +kernel
theorem d_Sender_fillHeader_22 : decode b_Sender_fillHeader 22 = .ok (.aload_n 0, 1) := by decide +kernel
theorem d_Sender_fillHeader_23 : decode b_Sender_fillHeader 23 = .ok (.getfield 9, 3) := by decide +kernel
theorem d_Sender_fillHeader_26 : decode b_Sender_fillHeader 26 = .ok (.iconst 1, 1) := by decide +kernel
theorem d_Sender_fillHeader_27 : decode b_Sender_fillHeader 27 = .ok (.iload_n 2, 1) := by decide +kernel
theorem d_Sender_fillHeader_28 : decode b_Sender_fillHeader 28 = .ok (.sipush 255, 3) := by decide +kernel
theorem d_Sender_fillHeader_31 : decode b_Sender_fillHeader 31 = .ok (.iand, 1) := by decide +kernel
theorem d_Sender_fillHeader_32 : decode b_Sender_fillHeader 32 = .ok (.iastore, 1) := by decide +kernel
theorem d_Sender_fillHeader_33 : decode b_Sender_fillHeader 33 = .ok (.aload_n 0, 1) := by decide +kernel
theorem d_Sender_fillHeader_34 : decode b_Sender_fillHeader 34 = .ok (.getfield 9, 3) := by decide +kernel
theorem d_Sender_fillHeader_37 : decode b_Sender_fillHeader 37 = .ok (.iconst 2, 1) := by decide +kernel
theorem d_Sender_fillHeader_38 : decode b_Sender_fillHeader 38 = .ok (.aload_n 0, 1) := by decide +kernel
theorem d_Sender_fillHeader_39 : decode b_Sender_fillHeader 39 = .ok (.getfield 18, 3) := by decide +kernel
theorem d_Sender_fillHeader_42 : decode b_Sender_fillHeader 42 = .ok (.iastore, 1) := by decide +kernel
theorem d_Sender_fillHeader_43 : decode b_Sender_fillHeader 43 = .ok (.aload_n 0, 1) := by decide +kernel
theorem d_Sender_fillHeader_44 : decode b_Sender_fillHeader 44 = .ok (.getfield 9, 3) := by decide +kernel
theorem d_Sender_fillHeader_47 : decode b_Sender_fillHeader 47 = .ok (.iconst 3, 1) := by decide +kernel
theorem d_Sender_fillHeader_48 : decode b_Sender_fillHeader 48 = .ok (.aload_n 0, 1) := by decide +kernel
theorem d_Sender_fillHeader_49 : decode b_Sender_fillHeader 49 = .ok (.getfield 15, 3) := by decide +kernel
theorem d_Sender_fillHeader_52 : decode b_Sender_fillHeader 52 = .ok (.iload_n 1, 1) := by decide +kernel
theorem d_Sender_fillHeader_53 : decode b_Sender_fillHeader 53 = .ok (.iaload, 1) := by decide +kernel
theorem d_Sender_fillHeader_54 : decode b_Sender_fillHeader 54 = .ok (.iastore, 1) := by decide +kernel
theorem d_Sender_fillHeader_55 : decode b_Sender_fillHeader 55 = .ok (.aload_n 0, 1) := by decide +kernel
theorem d_Sender_fillHeader_56 : decode b_Sender_fillHeader 56 = .ok (.getfield 9, 3) := by decide +kernel
theorem d_Sender_fillHeader_59 : decode b_Sender_fillHeader 59 = .ok (.iconst 4, 1) := by decide +kernel
theorem d_Sender_fillHeader_60 : decode b_Sender_fillHeader 60 = .ok (.bipush 24, 2) := by decide +kernel
theorem d_Sender_fillHeader_62 : decode b_Sender_fillHeader 62 = .ok (.iastore, 1) := by decide +kernel
theorem d_Sender_fillHeader_63 : decode b_Sender_fillHeader 63 = .ok (.aload_n 0, 1) := by decide +kernel
theorem d_Sender_fillHeader_64 : decode b_Sender_fillHeader 64 = .ok (.getfield 9, 3) := by decide +kernel
theorem d_Sender_fillHeader_67 : decode b_Sender_fillHeader 67 = .ok (.iconst 5, 1) := by decide +kernel
theorem d_Sender_fillHeader_68 : decode b_Sender_fillHeader 68 = .ok (.iconst 0, 1) := by decide +kernel
theorem d_Sender_fillHeader_69 : decode b_Sender_fillHeader 69 = .ok (.iastore, 1) := by decide +kernel
theorem d_Sender_fillHeader_70 : decode b_Sender_fillHeader 70 = .ok (.return_, 1) := by decide +kernel
theorem ok_Sender_fillHeader : OKv y_Sender_fillHeader b_Sender_fillHeader 3 none "DeepChannel$Sender" 1 := ⟨k_614, k_613, k_2, k_52, by decide +kernel, by decide +kernel, by decide +kernel⟩
abbrev w_Sender_fillHeader (cI cJ : ClassId) (qSd qSd_bytes qSd_channelCounts : Nat) (Sd_shape Sd_words Sd_mixer Sd_dataCount : Value) (Sd_masterCount : Int32) (Sd_craft : Int32) (Sd_bytes : Nat → Int32) (Sd_channelCounts : Nat → Int32) : va_W := [(qSd, .inr (7, [Sd_shape, Sd_words, Sd_mixer, .ref qSd_bytes, .ref qSd_channelCounts, .int Sd_masterCount, .int Sd_craft, Sd_dataCount])), (qSd_bytes, .inl (cI, 250, .inl Sd_bytes)), (qSd_channelCounts, .inl (cI, 8, .inl Sd_channelCounts))]
def f_Sender_fillHeader (Sd_masterCount : Int32) (Sd_craft : Int32) (Sd_bytes : Nat → Int32) (Sd_channelCounts : Nat → Int32) (x1 : Int32) : Option ((Nat → Int32)) :=
  nm ((Sd_craft * (16 : Int32)) + (x1 * (2 : Int32))) fun v1 =>
  wrI Sd_bytes 250 (0 : Int32) (v1 >>> ((8 : Int32) &&& 31)) fun g2 =>
  wrI g2 250 (1 : Int32) (v1 &&& (255 : Int32)) fun g3 =>
  wrI g3 250 (2 : Int32) Sd_masterCount fun g4 =>
  rdI Sd_channelCounts 8 x1 fun v5 =>
  wrI g4 250 (3 : Int32) v5 fun g6 =>
  wrI g6 250 (4 : Int32) (24 : Int32) fun g7 =>
  wrI g7 250 (5 : Int32) (0 : Int32) fun g8 =>
  some g8
set_option maxHeartbeats 4000000 in
set_option maxRecDepth 100000 in
theorem c_Sender_fillHeader (l : Launch) (D : va_G) (cI cJ : ClassId) (tt : Nat → Nat) (qSd qSd_bytes qSd_channelCounts : Nat) (Sd_shape Sd_words Sd_mixer Sd_dataCount : Value) (sz : Nat) (Sd_masterCount : Int32) (Sd_craft : Int32) (Sd_bytes : Nat → Int32) (Sd_channelCounts : Nat → Int32) (x1 : Int32) (Sd_bytes' : Nat → Int32) (hm : f_Sender_fillHeader Sd_masterCount Sd_craft Sd_bytes Sd_channelCounts x1 = some Sd_bytes') : CTv l y_Sender_fillHeader b_Sender_fillHeader 3 none (RM 0 0) D cI cJ tt [.ref qSd, .int x1] (w_Sender_fillHeader cI cJ qSd qSd_bytes qSd_channelCounts Sd_shape Sd_words Sd_mixer Sd_dataCount Sd_masterCount Sd_craft Sd_bytes Sd_channelCounts) (w_Sender_fillHeader cI cJ qSd qSd_bytes qSd_channelCounts Sd_shape Sd_words Sd_mixer Sd_dataCount Sd_masterCount Sd_craft Sd_bytes' Sd_channelCounts) sz := by
  refine Met.ofW (cc := b_Sender_fillHeader) (maxL := 3) (ret := none) (by decide) rfl ?_
  intro p e s m args below meth c s₁ B hml hv
  obtain ⟨hargs, hsz, hP, hK, hD0, hE⟩ := hv
  have hx := B.exec
  have hb := B.bytes
  have hr := B.returns
  have hts : ∀ w ∈ TB, w.before args s = true := z_mV s (atoms_spec (ws := WD y_Sender_fillHeader b_Sender_fillHeader 3 none) B.pre)
  have hown : s.vm.findClass "DeepChannel$Sender" = some m.cls := findClass_of_methodNamed B.named
  have hlocks := B.notSynchronized
  subst hsz
  have hD := hD0.self (sz := s.heap.size)
  generalize hAe : va_A (w_Sender_fillHeader cI cJ qSd qSd_bytes qSd_channelCounts Sd_shape Sd_words Sd_mixer Sd_dataCount Sd_masterCount Sd_craft Sd_bytes Sd_channelCounts) s.heap.size = A at hD hE ⊢
  have hA : ∀ q : Nat, s.heap.size ≤ q → A q := fun q h => by rw [← hAe]; exact Or.inr h
  have hS : va_S A s.heap s.heap [] := va_S.rf
  refine z_entry (vs := [.ref qSd, .int x1]) hargs (Nat.le_of_ble_eq_true rfl) (fun ls hl => ?_)
  have hl : lv_has ls 3 [(0, .ref qSd), (1, .int x1)] := hl
  show W p l e (RM 0 0) s m args below meth c s.heap [] 0 0 _ _
  refine z_qi (fun Q0 hQ => ?_)
  have F : CallFix p m c b_Sender_fillHeader 3 s args TB "DeepChannel$Sender" := ⟨hx, hb, hml, hown, hts⟩
  unfold f_Sender_fillHeader at hm
  refine lv_aload_n hx hb d_Sender_fillHeader_0 rfl (lv_at hl 0 rfl) ?_
  refine va_get (D := D) (ci := 7) (v := .int Sd_craft) (C := "DeepChannel$Sender") (T := fT_Sender) (N := 8) hx hb hts u_Sender hown hK hP 0 rfl rfl 6 (by decide) (hts _ k_251) (fun _ h9 => h9) rfl d_Sender_fillHeader_1 ?_
  refine lv_bipush (v := (16 : Int32)) hx hb d_Sender_fillHeader_4 (by decide) ?_
  refine lv_imul hx hb d_Sender_fillHeader_6 ?_
  refine lv_iload_n hx hb d_Sender_fillHeader_7 rfl (lv_at hl 1 rfl) ?_
  refine lv_iconst (v := (2 : Int32)) hx hb d_Sender_fillHeader_8 (by decide) ?_
  refine lv_imul hx hb d_Sender_fillHeader_9 ?_
  refine lv_iadd hx hb d_Sender_fillHeader_10 ?_
  refine z_nmi hm (fun v1 hm => ?_)
  refine lv_istore_n (lv' := [(2, .int v1), (0, .ref qSd), (1, .int x1)]) hx hb d_Sender_fillHeader_11 rfl hl (by decide) rfl (fun ls hl => ?_)
  refine lv_aload_n hx hb d_Sender_fillHeader_12 rfl (lv_at hl 1 rfl) ?_
  refine va_get (D := D) (ci := 7) (v := .ref qSd_bytes) (C := "DeepChannel$Sender") (T := fT_Sender) (N := 8) hx hb hts u_Sender hown hK hP 0 rfl rfl 3 (by decide) (hts _ k_248) (fun _ h9 => h9) rfl d_Sender_fillHeader_13 ?_
  refine lv_iconst (v := (0 : Int32)) hx hb d_Sender_fillHeader_16 (by decide) ?_
  refine lv_iload_n hx hb d_Sender_fillHeader_17 rfl (lv_at hl 0 rfl) ?_
  refine lv_bipush (v := (8 : Int32)) hx hb d_Sender_fillHeader_18 (by decide) ?_
  refine lv_ishr hx hb d_Sender_fillHeader_20 ?_
  refine z_iast hm hx hb hK hP hD hS 1 rfl d_Sender_fillHeader_21 (fun g2 hm H locs hP hD hS => ?_)
  have hP : va_P D classes (w_Sender_fillHeader cI cJ qSd qSd_bytes qSd_channelCounts Sd_shape Sd_words Sd_mixer Sd_dataCount Sd_masterCount Sd_craft g2 Sd_channelCounts) H := hP
  have hD : va_D A (w_Sender_fillHeader cI cJ qSd qSd_bytes qSd_channelCounts Sd_shape Sd_words Sd_mixer Sd_dataCount Sd_masterCount Sd_craft g2 Sd_channelCounts) := hD
  refine lv_aload_n hx hb d_Sender_fillHeader_22 rfl (lv_at hl 1 rfl) ?_
  refine va_get (D := D) (ci := 7) (v := .ref qSd_bytes) (C := "DeepChannel$Sender") (T := fT_Sender) (N := 8) hx hb hts u_Sender hown hK hP 0 rfl rfl 3 (by decide) (hts _ k_248) (fun _ h9 => h9) rfl d_Sender_fillHeader_23 ?_
  refine lv_iconst (v := (1 : Int32)) hx hb d_Sender_fillHeader_26 (by decide) ?_
  refine lv_iload_n hx hb d_Sender_fillHeader_27 rfl (lv_at hl 0 rfl) ?_
  refine lv_sipush (v := (255 : Int32)) hx hb d_Sender_fillHeader_28 (by decide) ?_
  refine lv_iand hx hb d_Sender_fillHeader_31 ?_
  refine z_iast hm hx hb hK hP hD hS 1 rfl d_Sender_fillHeader_32 (fun g3 hm H locs hP hD hS => ?_)
  have hP : va_P D classes (w_Sender_fillHeader cI cJ qSd qSd_bytes qSd_channelCounts Sd_shape Sd_words Sd_mixer Sd_dataCount Sd_masterCount Sd_craft g3 Sd_channelCounts) H := hP
  have hD : va_D A (w_Sender_fillHeader cI cJ qSd qSd_bytes qSd_channelCounts Sd_shape Sd_words Sd_mixer Sd_dataCount Sd_masterCount Sd_craft g3 Sd_channelCounts) := hD
  refine lv_aload_n hx hb d_Sender_fillHeader_33 rfl (lv_at hl 1 rfl) ?_
  refine va_get (D := D) (ci := 7) (v := .ref qSd_bytes) (C := "DeepChannel$Sender") (T := fT_Sender) (N := 8) hx hb hts u_Sender hown hK hP 0 rfl rfl 3 (by decide) (hts _ k_248) (fun _ h9 => h9) rfl d_Sender_fillHeader_34 ?_
  refine lv_iconst (v := (2 : Int32)) hx hb d_Sender_fillHeader_37 (by decide) ?_
  refine lv_aload_n hx hb d_Sender_fillHeader_38 rfl (lv_at hl 1 rfl) ?_
  refine va_get (D := D) (ci := 7) (v := .int Sd_masterCount) (C := "DeepChannel$Sender") (T := fT_Sender) (N := 8) hx hb hts u_Sender hown hK hP 0 rfl rfl 5 (by decide) (hts _ k_250) (fun _ h9 => h9) rfl d_Sender_fillHeader_39 ?_
  refine z_iast hm hx hb hK hP hD hS 1 rfl d_Sender_fillHeader_42 (fun g4 hm H locs hP hD hS => ?_)
  have hP : va_P D classes (w_Sender_fillHeader cI cJ qSd qSd_bytes qSd_channelCounts Sd_shape Sd_words Sd_mixer Sd_dataCount Sd_masterCount Sd_craft g4 Sd_channelCounts) H := hP
  have hD : va_D A (w_Sender_fillHeader cI cJ qSd qSd_bytes qSd_channelCounts Sd_shape Sd_words Sd_mixer Sd_dataCount Sd_masterCount Sd_craft g4 Sd_channelCounts) := hD
  refine lv_aload_n hx hb d_Sender_fillHeader_43 rfl (lv_at hl 1 rfl) ?_
  refine va_get (D := D) (ci := 7) (v := .ref qSd_bytes) (C := "DeepChannel$Sender") (T := fT_Sender) (N := 8) hx hb hts u_Sender hown hK hP 0 rfl rfl 3 (by decide) (hts _ k_248) (fun _ h9 => h9) rfl d_Sender_fillHeader_44 ?_
  refine lv_iconst (v := (3 : Int32)) hx hb d_Sender_fillHeader_47 (by decide) ?_
  refine lv_aload_n hx hb d_Sender_fillHeader_48 rfl (lv_at hl 1 rfl) ?_
  refine va_get (D := D) (ci := 7) (v := .ref qSd_channelCounts) (C := "DeepChannel$Sender") (T := fT_Sender) (N := 8) hx hb hts u_Sender hown hK hP 0 rfl rfl 4 (by decide) (hts _ k_249) (fun _ h9 => h9) rfl d_Sender_fillHeader_49 ?_
  refine lv_iload_n hx hb d_Sender_fillHeader_52 rfl (lv_at hl 2 rfl) ?_
  refine z_iald hm hx hb hK hP 2 rfl d_Sender_fillHeader_53 (fun v5 hm => ?_)
  refine z_iast hm hx hb hK hP hD hS 1 rfl d_Sender_fillHeader_54 (fun g6 hm H locs hP hD hS => ?_)
  have hP : va_P D classes (w_Sender_fillHeader cI cJ qSd qSd_bytes qSd_channelCounts Sd_shape Sd_words Sd_mixer Sd_dataCount Sd_masterCount Sd_craft g6 Sd_channelCounts) H := hP
  have hD : va_D A (w_Sender_fillHeader cI cJ qSd qSd_bytes qSd_channelCounts Sd_shape Sd_words Sd_mixer Sd_dataCount Sd_masterCount Sd_craft g6 Sd_channelCounts) := hD
  refine lv_aload_n hx hb d_Sender_fillHeader_55 rfl (lv_at hl 1 rfl) ?_
  refine va_get (D := D) (ci := 7) (v := .ref qSd_bytes) (C := "DeepChannel$Sender") (T := fT_Sender) (N := 8) hx hb hts u_Sender hown hK hP 0 rfl rfl 3 (by decide) (hts _ k_248) (fun _ h9 => h9) rfl d_Sender_fillHeader_56 ?_
  refine lv_iconst (v := (4 : Int32)) hx hb d_Sender_fillHeader_59 (by decide) ?_
  refine lv_bipush (v := (24 : Int32)) hx hb d_Sender_fillHeader_60 (by decide) ?_
  refine z_iast hm hx hb hK hP hD hS 1 rfl d_Sender_fillHeader_62 (fun g7 hm H locs hP hD hS => ?_)
  have hP : va_P D classes (w_Sender_fillHeader cI cJ qSd qSd_bytes qSd_channelCounts Sd_shape Sd_words Sd_mixer Sd_dataCount Sd_masterCount Sd_craft g7 Sd_channelCounts) H := hP
  have hD : va_D A (w_Sender_fillHeader cI cJ qSd qSd_bytes qSd_channelCounts Sd_shape Sd_words Sd_mixer Sd_dataCount Sd_masterCount Sd_craft g7 Sd_channelCounts) := hD
  refine lv_aload_n hx hb d_Sender_fillHeader_63 rfl (lv_at hl 1 rfl) ?_
  refine va_get (D := D) (ci := 7) (v := .ref qSd_bytes) (C := "DeepChannel$Sender") (T := fT_Sender) (N := 8) hx hb hts u_Sender hown hK hP 0 rfl rfl 3 (by decide) (hts _ k_248) (fun _ h9 => h9) rfl d_Sender_fillHeader_64 ?_
  refine lv_iconst (v := (5 : Int32)) hx hb d_Sender_fillHeader_67 (by decide) ?_
  refine lv_iconst (v := (0 : Int32)) hx hb d_Sender_fillHeader_68 (by decide) ?_
  refine z_iast hm hx hb hK hP hD hS 1 rfl d_Sender_fillHeader_69 (fun g8 hm H locs hP hD hS => ?_)
  have hP : va_P D classes (w_Sender_fillHeader cI cJ qSd qSd_bytes qSd_channelCounts Sd_shape Sd_words Sd_mixer Sd_dataCount Sd_masterCount Sd_craft g8 Sd_channelCounts) H := hP
  have hD : va_D A (w_Sender_fillHeader cI cJ qSd qSd_bytes qSd_channelCounts Sd_shape Sd_words Sd_mixer Sd_dataCount Sd_masterCount Sd_craft g8 Sd_channelCounts) := hD
  cases hm
  exact z_qo hQ (z_vret hr hx hb hlocks hK hP hD hS d_Sender_fillHeader_70)
-- DeepChannel$Sender.sendFrame(ILDeepChannel$Coder;)V
abbrev b_Sender_sendFrame : ByteArray := prog_9_method_6_code
abbrev y_Sender_sendFrame : MethodName := ⟨"DeepChannel$Sender", "sendFrame", "(ILDeepChannel$Coder;)V"⟩
theorem d_Sender_sendFrame_0 : decode b_Sender_sendFrame 0 = .ok (.aload_n 0, 1) := by decide +kernel
theorem d_Sender_sendFrame_1 : decode b_Sender_sendFrame 1 = .ok (.iload_n 1, 1) := by decide +kernel
theorem d_Sender_sendFrame_2 : decode b_Sender_sendFrame 2 = .ok (.invokevirtual 52, 3) := by decide +kernel
theorem d_Sender_sendFrame_5 : decode b_Sender_sendFrame 5 = .ok (.aload_n 0, 1) := by decide +kernel
theorem d_Sender_sendFrame_6 : decode b_Sender_sendFrame 6 = .ok (.getfield 28, 3) := by decide +kernel
theorem d_Sender_sendFrame_9 : decode b_Sender_sendFrame 9 = .ok (.invokevirtual 56, 3) := by decide +kernel
theorem d_Sender_sendFrame_12 : decode b_Sender_sendFrame 12 = .ok (.iconst 2, 1) := by decide +kernel
theorem d_Sender_sendFrame_13 : decode b_Sender_sendFrame 13 = .ok (.isub, 1) := by decide +kernel
theorem d_Sender_sendFrame_14 : decode b_Sender_sendFrame 14 = .ok (.istore_n 3, 1) := by decide +kernel
theorem d_Sender_sendFrame_15 : decode b_Sender_sendFrame 15 = .ok (.aload_n 0, 1) := by decide +kernel
theorem d_Sender_sendFrame_16 : decode b_Sender_sendFrame 16 = .ok (.getfield 9, 3) := by decide +kernel
theorem d_Sender_sendFrame_19 : decode b_Sender_sendFrame 19 = .ok (.iconst 0, 1) := by decide +kernel
theorem d_Sender_sendFrame_20 : decode b_Sender_sendFrame 20 = .ok (.iload_n 3, 1) := by decide +kernel
theorem d_Sender_sendFrame_21 : decode b_Sender_sendFrame 21 = .ok (.invokestatic 59, 3) := by decide +kernel
theorem d_Sender_sendFrame_24 : decode b_Sender_sendFrame 24 = .ok (.istore 4, 2) := by decide +kernel
theorem d_Sender_sendFrame_26 : decode b_Sender_sendFrame 26 = .ok (.aload_n 0, 1) := by decide +kernel
theorem d_Sender_sendFrame_27 : decode b_Sender_sendFrame 27 = .ok (.getfield 9, 3) := by decide +kernel
theorem d_Sender_sendFrame_30 : decode b_Sender_sendFrame 30 = .ok (.iload_n 3, 1) := by decide +kernel
theorem d_Sender_sendFrame_31 : decode b_Sender_sendFrame 31 = .ok (.iload 4, 2) := by decide +kernel
theorem d_Sender_sendFrame_33 : decode b_Sender_sendFrame 33 = .ok (.bipush 8, 2) := by decide +kernel
theorem d_Sender_sendFrame_35 : decode b_Sender_sendFrame 35 = .ok (.ishr, 1) := by decide +kernel
theorem d_Sender_sendFrame_36 : decode b_Sender_sendFrame 36 = .ok (.iastore, 1) := by decide +kernel
theorem d_Sender_sendFrame_37 : decode b_Sender_sendFrame 37 = .ok (.aload_n 0, 1) := by decide +kernel
theorem d_Sender_sendFrame_38 : decode b_Sender_sendFrame 38 = .ok (.getfield 9, 3) := by decide +kernel
theorem d_Sender_sendFrame_41 : decode b_Sender_sendFrame 41 = .ok (.iload_n 3, 1) := by decide +kernel
theorem d_Sender_sendFrame_42 : decode b_Sender_sendFrame 42 = .ok (.iconst 1, 1) := by decide +kernel
theorem d_Sender_sendFrame_43 : decode b_Sender_sendFrame 43 = .ok (.iadd, 1) := by decide +kernel
theorem d_Sender_sendFrame_44 : decode b_Sender_sendFrame 44 = .ok (.iload 4, 2) := by decide +kernel
theorem d_Sender_sendFrame_46 : decode b_Sender_sendFrame 46 = .ok (.sipush 255, 3) := by decide +kernel
theorem d_Sender_sendFrame_49 : decode b_Sender_sendFrame 49 = .ok (.iand, 1) := by decide +kernel
theorem d_Sender_sendFrame_50 : decode b_Sender_sendFrame 50 = .ok (.iastore, 1) := by decide +kernel
theorem d_Sender_sendFrame_51 : decode b_Sender_sendFrame 51 = .ok (.aload_n 0, 1) := by decide +kernel
theorem d_Sender_sendFrame_52 : decode b_Sender_sendFrame 52 = .ok (.getfield 32, 3) := by decide +kernel
theorem d_Sender_sendFrame_55 : decode b_Sender_sendFrame 55 = .ok (.aload_n 0, 1) := by decide +kernel
theorem d_Sender_sendFrame_56 : decode b_Sender_sendFrame 56 = .ok (.getfield 9, 3) := by decide +kernel
theorem d_Sender_sendFrame_59 : decode b_Sender_sendFrame 59 = .ok (.invokevirtual 63, 3) := by decide +kernel
theorem d_Sender_sendFrame_62 : decode b_Sender_sendFrame 62 = .ok (.aload_n 2, 1) := by decide +kernel
theorem d_Sender_sendFrame_63 : decode b_Sender_sendFrame 63 = .ok (.ldc 69, 2) := by decide +kernel
theorem d_Sender_sendFrame_65 : decode b_Sender_sendFrame 65 = .ok (.bipush 32, 2) := by decide +kernel
theorem d_Sender_sendFrame_67 : decode b_Sender_sendFrame 67 = .ok (.invokevirtual 70, 3) := by decide +kernel
theorem d_Sender_sendFrame_70 : decode b_Sender_sendFrame 70 = .ok (.iconst 0, 1) := by decide +kernel
theorem d_Sender_sendFrame_71 : decode b_Sender_sendFrame 71 = .ok (.istore 5, 2) := by decide +kernel
theorem d_Sender_sendFrame_73 : decode b_Sender_sendFrame 73 = .ok (.iload 5, 2) := by decide +kernel
theorem d_Sender_sendFrame_75 : decode b_Sender_sendFrame 75 = .ok (.aload_n 0, 1) := by decide +kernel
theorem d_Sender_sendFrame_76 : decode b_Sender_sendFrame 76 = .ok (.getfield 28, 3) := by decide +kernel
theorem d_Sender_sendFrame_79 : decode b_Sender_sendFrame 79 = .ok (.invokevirtual 76, 3) := by decide +kernel
theorem d_Sender_sendFrame_82 : decode b_Sender_sendFrame 82 = .ok (.if_icmp .ge 32, 3) := by decide +kernel
theorem d_Sender_sendFrame_85 : decode b_Sender_sendFrame 85 = .ok (.aload_n 2, 1) := by decide +kernel
theorem d_Sender_sendFrame_86 : decode b_Sender_sendFrame 86 = .ok (.aload_n 0, 1) := by decide +kernel
theorem d_Sender_sendFrame_87 : decode b_Sender_sendFrame 87 = .ok (.getfield 9, 3) := by decide +kernel
theorem d_Sender_sendFrame_90 : decode b_Sender_sendFrame 90 = .ok (.iload 5, 2) := by decide +kernel
theorem d_Sender_sendFrame_92 : decode b_Sender_sendFrame 92 = .ok (.iaload, 1) := by decide +kernel
theorem d_Sender_sendFrame_93 : decode b_Sender_sendFrame 93 = .ok (.aload_n 0, 1) := by decide +kernel
theorem d_Sender_sendFrame_94 : decode b_Sender_sendFrame 94 = .ok (.getfield 36, 3) := by decide +kernel
theorem d_Sender_sendFrame_97 : decode b_Sender_sendFrame 97 = .ok (.iload 5, 2) := by decide +kernel
theorem d_Sender_sendFrame_99 : decode b_Sender_sendFrame 99 = .ok (.invokevirtual 79, 3) := by decide +kernel
theorem d_Sender_sendFrame_102 : decode b_Sender_sendFrame 102 = .ok (.ixor, 1) := by decide +kernel
theorem d_Sender_sendFrame_103 : decode b_Sender_sendFrame 103 = .ok (.bipush 8, 2) := by decide +kernel
theorem d_Sender_sendFrame_105 : decode b_Sender_sendFrame 105 = .ok (.invokevirtual 70, 3) := by decide +kernel
theorem d_Sender_sendFrame_108 : decode b_Sender_sendFrame 108 = .ok (.iinc 5 1, 3) := by decide +kernel
theorem d_Sender_sendFrame_111 : decode b_Sender_sendFrame 111 = .ok (.goto (-38), 3) := by decide +kernel
theorem d_Sender_sendFrame_114 : decode b_Sender_sendFrame 114 = .ok (.aload_n 0, 1) := by decide +kernel
theorem d_Sender_sendFrame_115 : decode b_Sender_sendFrame 115 = .ok (.iload_n 1, 1) := by decide +kernel
theorem d_Sender_sendFrame_116 : decode b_Sender_sendFrame 116 = .ok (.invokevirtual 85, 3) := by decide +kernel
theorem d_Sender_sendFrame_119 : decode b_Sender_sendFrame 119 = .ok (.aload_n 0, 1) := by decide +kernel
theorem d_Sender_sendFrame_120 : decode b_Sender_sendFrame 120 = .ok (.iconst 0, 1) := by decide +kernel
theorem d_Sender_sendFrame_121 : decode b_Sender_sendFrame 121 = .ok (.putfield 25, 3) := by decide +kernel
theorem d_Sender_sendFrame_124 : decode b_Sender_sendFrame 124 = .ok (.return_, 1) := by decide +kernel
theorem ok_Sender_sendFrame : OKv y_Sender_sendFrame b_Sender_sendFrame 6 none "DeepChannel$Sender" 2 := ⟨k_610, k_608, k_609, k_52, by decide +kernel, by decide +kernel, by decide +kernel⟩
abbrev w_Sender_sendFrame (cI cJ : ClassId) (qSd qSd_bytes qSd_channelCounts qSh qWd qWd_remainder qFd qFd_otherForms qFd_elements qWd_generator qFd_logs qFd_powers qCd qRw qRw_cells qMx qMx_bytes : Nat) (Wd_coefficients Wd_syndromes Wd_locator : Value) (Sd_masterCount : Int32) (Sd_craft : Int32) (Sd_dataCount : Int32) (Sd_bytes : Nat → Int32) (Sd_channelCounts : Nat → Int32) (Sh_depth : Int32) (Sh_wordBytes : Int32) (Sh_e : Int32) (Sh_pattern : Int32) (Wd_remainder : Nat → Int32) (Fd_otherForms : Nat → Int32) (Fd_elements : Nat → Int32) (Wd_generator : Nat → Int32) (Fd_logs : Nat → Int32) (Fd_powers : Nat → Int32) (Cd_register : Int32) (Cd_put : Int32) (Rw_length : Int32) (Rw_cells : Nat → Int64) (Mx_bytes : Nat → Int32) : va_W := [(qSd, .inr (7, [.ref qSh, .ref qWd, .ref qMx, .ref qSd_bytes, .ref qSd_channelCounts, .int Sd_masterCount, .int Sd_craft, .int Sd_dataCount])), (qSd_bytes, .inl (cI, 250, .inl Sd_bytes)), (qSd_channelCounts, .inl (cI, 8, .inl Sd_channelCounts)), (qSh, .inr (8, [.int Sh_depth, .int Sh_wordBytes, .int Sh_e, .int Sh_pattern])), (qWd, .inr (9, [.ref qSh, .ref qFd, .ref qWd_generator, .ref qWd_remainder, Wd_coefficients, Wd_syndromes, Wd_locator])), (qWd_remainder, .inl (cI, 32, .inl Wd_remainder)), (qFd, .inr (2, [.ref qFd_powers, .ref qFd_logs, .ref qFd_otherForms, .ref qFd_elements])), (qFd_otherForms, .inl (cI, 256, .inl Fd_otherForms)), (qFd_elements, .inl (cI, 256, .inl Fd_elements)), (qWd_generator, .inl (cI, 33, .inl Wd_generator)), (qFd_logs, .inl (cI, 256, .inl Fd_logs)), (qFd_powers, .inl (cI, 255, .inl Fd_powers)), (qCd, .inr (1, [.ref qSh, .ref qRw, .int Cd_register, .int Cd_put])), (qRw, .inr (0, [.ref qRw_cells, .int Rw_length])), (qRw_cells, .inl (cJ, 64, .inr (.inl Rw_cells))), (qMx, .inr (4, [.ref qMx_bytes])), (qMx_bytes, .inl (cI, 250, .inl Mx_bytes))]
def f_Sender_sendFrame_114  (x1 : Int32) (Sd_masterCount : Int32) (Sd_dataCount : Int32) (Sd_bytes : Nat → Int32) (Sd_channelCounts : Nat → Int32) (Wd_remainder : Nat → Int32) (Cd_register : Int32) (Cd_put : Int32) (Rw_length : Int32) (Rw_cells : Nat → Int64) : Option (Int32 × Int32 × (Nat → Int32) × (Nat → Int32) × (Nat → Int32) × Int32 × Int32 × Int32 × (Nat → Int64)) :=
  bd (f_Sender_countFrame Sd_masterCount Sd_channelCounts x1) fun u3 =>
  nm u3.1 fun v1 =>
  nm u3.2 fun g2 =>
  some (v1, (0 : Int32), Sd_bytes, g2, Wd_remainder, Cd_register, Cd_put, Rw_length, Rw_cells)
def f_Sender_sendFrame_73_b (Sh_depth : Int32) (Sh_wordBytes : Int32) (Sh_pattern : Int32) (Mx_bytes : Nat → Int32) (kh73 : Int32 → Int32 → Int32 → Int32 → (Nat → Int32) → (Nat → Int32) → (Nat → Int32) → Int32 → Int32 → Int32 → (Nat → Int64) → Option (Int32 × Int32 × (Nat → Int32) × (Nat → Int32) × (Nat → Int32) × Int32 × Int32 × Int32 × (Nat → Int64))) (x1 : Int32) (x5 : Int32) (Sd_masterCount : Int32) (Sd_dataCount : Int32) (Sd_bytes : Nat → Int32) (Sd_channelCounts : Nat → Int32) (Wd_remainder : Nat → Int32) (Cd_register : Int32) (Cd_put : Int32) (Rw_length : Int32) (Rw_cells : Nat → Int64) : Option (Int32 × Int32 × (Nat → Int32) × (Nat → Int32) × (Nat → Int32) × Int32 × Int32 × Int32 × (Nat → Int64)) :=
  bd (f_Shape_blockBytes Sh_depth Sh_wordBytes) fun u5 =>
  nm u5 fun r4 =>
  if r4 ≤ x5 then
    f_Sender_sendFrame_114 x1 Sd_masterCount Sd_dataCount Sd_bytes Sd_channelCounts Wd_remainder Cd_register Cd_put Rw_length Rw_cells
  else
  rdI Sd_bytes 250 x5 fun v6 =>
  bd (f_Mixer_at Mx_bytes x5) fun u8 =>
  nm u8 fun r7 =>
  bd (f_Coder_putBits Cd_register Cd_put Sh_pattern Rw_length Rw_cells (v6 ^^^ r7) (8 : Int32)) fun u13 =>
  nm u13.1 fun v9 =>
  nm u13.2.1 fun v10 =>
  nm u13.2.2.1 fun v11 =>
  nm u13.2.2.2 fun g12 =>
  nm (x5 + (1 : Int32)) fun v14 =>
  kh73 x1 v14 Sd_masterCount Sd_dataCount Sd_bytes Sd_channelCounts Wd_remainder v9 v10 v11 g12
def f_Sender_sendFrame_73 (Sh_depth : Int32) (Sh_wordBytes : Int32) (Sh_pattern : Int32) (Mx_bytes : Nat → Int32) : Nat → Int32 → Int32 → Int32 → Int32 → (Nat → Int32) → (Nat → Int32) → (Nat → Int32) → Int32 → Int32 → Int32 → (Nat → Int64) → Option (Int32 × Int32 × (Nat → Int32) × (Nat → Int32) × (Nat → Int32) × Int32 × Int32 × Int32 × (Nat → Int64))
  | 0 => fun _ _ _ _ _ _ _ _ _ _ _ => none
  | n + 1 => fun x1 x5 Sd_masterCount Sd_dataCount Sd_bytes Sd_channelCounts Wd_remainder Cd_register Cd_put Rw_length Rw_cells => f_Sender_sendFrame_73_b Sh_depth Sh_wordBytes Sh_pattern Mx_bytes (f_Sender_sendFrame_73 Sh_depth Sh_wordBytes Sh_pattern Mx_bytes n) x1 x5 Sd_masterCount Sd_dataCount Sd_bytes Sd_channelCounts Wd_remainder Cd_register Cd_put Rw_length Rw_cells
def f_Sender_sendFrame (Sd_masterCount : Int32) (Sd_craft : Int32) (Sd_dataCount : Int32) (Sd_bytes : Nat → Int32) (Sd_channelCounts : Nat → Int32) (Sh_depth : Int32) (Sh_wordBytes : Int32) (Sh_e : Int32) (Sh_pattern : Int32) (Wd_remainder : Nat → Int32) (Fd_otherForms : Nat → Int32) (Fd_elements : Nat → Int32) (Wd_generator : Nat → Int32) (Fd_logs : Nat → Int32) (Fd_powers : Nat → Int32) (Cd_register : Int32) (Cd_put : Int32) (Rw_length : Int32) (Rw_cells : Nat → Int64) (Mx_bytes : Nat → Int32) (x1 : Int32) : Option (Int32 × Int32 × (Nat → Int32) × (Nat → Int32) × (Nat → Int32) × Int32 × Int32 × Int32 × (Nat → Int64)) :=
  bd (f_Sender_fillHeader Sd_masterCount Sd_craft Sd_bytes Sd_channelCounts x1) fun u16 =>
  nm u16 fun g15 =>
  bd (f_Shape_frameBytes Sh_depth Sh_wordBytes Sh_e) fun u18 =>
  nm u18 fun r17 =>
  nm (r17 - (2 : Int32)) fun v19 =>
  bd (f_DC_checkOf g15 250 (0 : Int32) v19) fun u21 =>
  nm u21 fun r20 =>
  wrI g15 250 v19 (r20 >>> ((8 : Int32) &&& 31)) fun g22 =>
  wrI g22 250 (v19 + (1 : Int32)) (r20 &&& (255 : Int32)) fun g23 =>
  bd (f_Words_addChecks Sh_depth Sh_wordBytes Sh_e Wd_remainder Fd_otherForms g23 Fd_elements Wd_generator Fd_logs Fd_powers 250) fun u26 =>
  nm u26.1 fun g24 =>
  nm u26.2 fun g25 =>
  bd (f_Coder_putBits Cd_register Cd_put Sh_pattern Rw_length Rw_cells (449838109 : Int32) (32 : Int32)) fun u31 =>
  nm u31.1 fun v27 =>
  nm u31.2.1 fun v28 =>
  nm u31.2.2.1 fun v29 =>
  nm u31.2.2.2 fun g30 =>
  f_Sender_sendFrame_73 Sh_depth Sh_wordBytes Sh_pattern Mx_bytes 10000 x1 (0 : Int32) Sd_masterCount Sd_dataCount g25 Sd_channelCounts g24 v27 v28 v29 g30
set_option maxHeartbeats 4000000 in
set_option maxRecDepth 100000 in
theorem c_Sender_sendFrame (l : Launch) (D : va_G) (cI cJ : ClassId) (tt : Nat → Nat) (qSd qSd_bytes qSd_channelCounts qSh qWd qWd_remainder qFd qFd_otherForms qFd_elements qWd_generator qFd_logs qFd_powers qCd qRw qRw_cells qMx qMx_bytes : Nat) (Wd_coefficients Wd_syndromes Wd_locator : Value) (sz : Nat) (Sd_masterCount : Int32) (Sd_craft : Int32) (Sd_dataCount : Int32) (Sd_bytes : Nat → Int32) (Sd_channelCounts : Nat → Int32) (Sh_depth : Int32) (Sh_wordBytes : Int32) (Sh_e : Int32) (Sh_pattern : Int32) (Wd_remainder : Nat → Int32) (Fd_otherForms : Nat → Int32) (Fd_elements : Nat → Int32) (Wd_generator : Nat → Int32) (Fd_logs : Nat → Int32) (Fd_powers : Nat → Int32) (Cd_register : Int32) (Cd_put : Int32) (Rw_length : Int32) (Rw_cells : Nat → Int64) (Mx_bytes : Nat → Int32) (x1 : Int32) (Sd_masterCount' : Int32) (Sd_dataCount' : Int32) (Sd_bytes' : Nat → Int32) (Sd_channelCounts' : Nat → Int32) (Wd_remainder' : Nat → Int32) (Cd_register' : Int32) (Cd_put' : Int32) (Rw_length' : Int32) (Rw_cells' : Nat → Int64) (hm : f_Sender_sendFrame Sd_masterCount Sd_craft Sd_dataCount Sd_bytes Sd_channelCounts Sh_depth Sh_wordBytes Sh_e Sh_pattern Wd_remainder Fd_otherForms Fd_elements Wd_generator Fd_logs Fd_powers Cd_register Cd_put Rw_length Rw_cells Mx_bytes x1 = some (Sd_masterCount', Sd_dataCount', Sd_bytes', Sd_channelCounts', Wd_remainder', Cd_register', Cd_put', Rw_length', Rw_cells')) : CTv l y_Sender_sendFrame b_Sender_sendFrame 6 none (RM 4 88) D cI cJ tt [.ref qSd, .int x1, .ref qCd] (w_Sender_sendFrame cI cJ qSd qSd_bytes qSd_channelCounts qSh qWd qWd_remainder qFd qFd_otherForms qFd_elements qWd_generator qFd_logs qFd_powers qCd qRw qRw_cells qMx qMx_bytes Wd_coefficients Wd_syndromes Wd_locator Sd_masterCount Sd_craft Sd_dataCount Sd_bytes Sd_channelCounts Sh_depth Sh_wordBytes Sh_e Sh_pattern Wd_remainder Fd_otherForms Fd_elements Wd_generator Fd_logs Fd_powers Cd_register Cd_put Rw_length Rw_cells Mx_bytes) (w_Sender_sendFrame cI cJ qSd qSd_bytes qSd_channelCounts qSh qWd qWd_remainder qFd qFd_otherForms qFd_elements qWd_generator qFd_logs qFd_powers qCd qRw qRw_cells qMx qMx_bytes Wd_coefficients Wd_syndromes Wd_locator Sd_masterCount' Sd_craft Sd_dataCount' Sd_bytes' Sd_channelCounts' Sh_depth Sh_wordBytes Sh_e Sh_pattern Wd_remainder' Fd_otherForms Fd_elements Wd_generator Fd_logs Fd_powers Cd_register' Cd_put' Rw_length' Rw_cells' Mx_bytes) sz := by
  refine Met.ofW (cc := b_Sender_sendFrame) (maxL := 6) (ret := none) (by decide) rfl ?_
  intro p e s m args below meth c s₁ B hml hv
  obtain ⟨hargs, hsz, hP, hK, hD0, hE⟩ := hv
  have hx := B.exec
  have hb := B.bytes
  have hr := B.returns
  have hts : ∀ w ∈ TB, w.before args s = true := z_mV s (atoms_spec (ws := WD y_Sender_sendFrame b_Sender_sendFrame 6 none) B.pre)
  have hown : s.vm.findClass "DeepChannel$Sender" = some m.cls := findClass_of_methodNamed B.named
  have hlocks := B.notSynchronized
  subst hsz
  have hD := hD0.self (sz := s.heap.size)
  generalize hAe : va_A (w_Sender_sendFrame cI cJ qSd qSd_bytes qSd_channelCounts qSh qWd qWd_remainder qFd qFd_otherForms qFd_elements qWd_generator qFd_logs qFd_powers qCd qRw qRw_cells qMx qMx_bytes Wd_coefficients Wd_syndromes Wd_locator Sd_masterCount Sd_craft Sd_dataCount Sd_bytes Sd_channelCounts Sh_depth Sh_wordBytes Sh_e Sh_pattern Wd_remainder Fd_otherForms Fd_elements Wd_generator Fd_logs Fd_powers Cd_register Cd_put Rw_length Rw_cells Mx_bytes) s.heap.size = A at hD hE ⊢
  have hA : ∀ q : Nat, s.heap.size ≤ q → A q := fun q h => by rw [← hAe]; exact Or.inr h
  have hS : va_S A s.heap s.heap [] := va_S.rf
  refine z_entry (vs := [.ref qSd, .int x1, .ref qCd]) hargs (Nat.le_of_ble_eq_true rfl) (fun ls hl => ?_)
  have hl : lv_has ls 6 [(0, .ref qSd), (1, .int x1), (2, .ref qCd)] := hl
  show W p l e (RM 4 88) s m args below meth c s.heap [] 0 0 _ _
  refine z_qi (fun Q0 hQ => ?_)
  have F : CallFix p m c b_Sender_sendFrame 6 s args TB "DeepChannel$Sender" := ⟨hx, hb, hml, hown, hts⟩
  have T114 : ∀ (x1 : Int32) (Sd_masterCount : Int32) (Sd_dataCount : Int32) (Sd_bytes : Nat → Int32) (Sd_channelCounts : Nat → Int32) (Wd_remainder : Nat → Int32) (Cd_register : Int32) (Cd_put : Int32) (Rw_length : Int32) (Rw_cells : Nat → Int64), f_Sender_sendFrame_114 x1 Sd_masterCount Sd_dataCount Sd_bytes Sd_channelCounts Wd_remainder Cd_register Cd_put Rw_length Rw_cells = some (Sd_masterCount', Sd_dataCount', Sd_bytes', Sd_channelCounts', Wd_remainder', Cd_register', Cd_put', Rw_length', Rw_cells') → ∀ (H : Heap) (locs : List Loc), va_P D classes (w_Sender_sendFrame cI cJ qSd qSd_bytes qSd_channelCounts qSh qWd qWd_remainder qFd qFd_otherForms qFd_elements qWd_generator qFd_logs qFd_powers qCd qRw qRw_cells qMx qMx_bytes Wd_coefficients Wd_syndromes Wd_locator Sd_masterCount Sd_craft Sd_dataCount Sd_bytes Sd_channelCounts Sh_depth Sh_wordBytes Sh_e Sh_pattern Wd_remainder Fd_otherForms Fd_elements Wd_generator Fd_logs Fd_powers Cd_register Cd_put Rw_length Rw_cells Mx_bytes) H → va_D A (w_Sender_sendFrame cI cJ qSd qSd_bytes qSd_channelCounts qSh qWd qWd_remainder qFd qFd_otherForms qFd_elements qWd_generator qFd_logs qFd_powers qCd qRw qRw_cells qMx qMx_bytes Wd_coefficients Wd_syndromes Wd_locator Sd_masterCount Sd_craft Sd_dataCount Sd_bytes Sd_channelCounts Sh_depth Sh_wordBytes Sh_e Sh_pattern Wd_remainder Fd_otherForms Fd_elements Wd_generator Fd_logs Fd_powers Cd_register Cd_put Rw_length Rw_cells Mx_bytes) → va_S A s.heap H locs → ∀ (ls : Array Slot), lv_has ls 6 [(0, .ref qSd), (1, .int x1)] → W p l e (RM 4 88) s m args below meth c H locs 0 0 Q0 (F0 m 114 ls []) := by
    intro x1 Sd_masterCount Sd_dataCount Sd_bytes Sd_channelCounts Wd_remainder Cd_register Cd_put Rw_length Rw_cells hm H locs hP hD hS ls hl
    unfold f_Sender_sendFrame_114 at hm
    refine lv_aload_n hx hb d_Sender_sendFrame_114 rfl (lv_at hl 0 rfl) ?_
    refine lv_iload_n hx hb d_Sender_sendFrame_115 rfl (lv_at hl 1 rfl) ?_
    obtain ⟨⟨v1, g2⟩, hu, hm⟩ := bd_el hm
    replace hm := nm_2 hm
    refine z_cVv (wc := w_Sender_countFrame cI cJ qSd qSd_channelCounts (.ref qSh) (.ref qWd) (.ref qMx) (.ref qSd_bytes) (.int Sd_craft) (.int Sd_dataCount) Sd_masterCount Sd_channelCounts) (wc' := w_Sender_countFrame cI cJ qSd qSd_channelCounts (.ref qSh) (.ref qWd) (.ref qMx) (.ref qSd_bytes) (.int Sd_craft) (.int Sd_dataCount) v1 g2) (wr := [(qSd_bytes, .inl (cI, 250, .inl Sd_bytes)), (qSh, .inr (8, [.int Sh_depth, .int Sh_wordBytes, .int Sh_e, .int Sh_pattern])), (qWd, .inr (9, [.ref qSh, .ref qFd, .ref qWd_generator, .ref qWd_remainder, Wd_coefficients, Wd_syndromes, Wd_locator])), (qWd_remainder, .inl (cI, 32, .inl Wd_remainder)), (qFd, .inr (2, [.ref qFd_powers, .ref qFd_logs, .ref qFd_otherForms, .ref qFd_elements])), (qFd_otherForms, .inl (cI, 256, .inl Fd_otherForms)), (qFd_elements, .inl (cI, 256, .inl Fd_elements)), (qWd_generator, .inl (cI, 33, .inl Wd_generator)), (qFd_logs, .inl (cI, 256, .inl Fd_logs)), (qFd_powers, .inl (cI, 255, .inl Fd_powers)), (qCd, .inr (1, [.ref qSh, .ref qRw, .int Cd_register, .int Cd_put])), (qRw, .inr (0, [.ref qRw_cells, .int Rw_length])), (qRw_cells, .inl (cJ, 64, .inr (.inl Rw_cells))), (qMx, .inr (4, [.ref qMx_bytes])), (qMx_bytes, .inl (cI, 250, .inl Mx_bytes))]) (As := [.int x1]) (rest := []) (c_Sender_countFrame l D cI cJ tt qSd qSd_channelCounts (.ref qSh) (.ref qWd) (.ref qMx) (.ref qSd_bytes) (.int Sd_craft) (.int Sd_dataCount) _ Sd_masterCount Sd_channelCounts x1 v1 g2 hu) F ok_Sender_countFrame rfl k_655 hK hE hP hD hS hA [0, 2] [1, 3, 4, 5, 6, 7, 8, 9, 10, 11, 12, 13, 14, 15, 16] rfl rfl (by decide) (by decide) (by decide) 0 rfl rfl rfl ⟨rfl, rfl, Nat.le_of_ble_eq_true rfl, Nat.le_of_ble_eq_true rfl⟩ ⟨Nat.zero_le _, Nat.zero_le _⟩ rfl hl.1 rfl (Nat.le_of_ble_eq_true rfl) d_Sender_sendFrame_116 (fun H locs hP hD hS => ?_)
    have hP : va_P D classes (w_Sender_sendFrame cI cJ qSd qSd_bytes qSd_channelCounts qSh qWd qWd_remainder qFd qFd_otherForms qFd_elements qWd_generator qFd_logs qFd_powers qCd qRw qRw_cells qMx qMx_bytes Wd_coefficients Wd_syndromes Wd_locator v1 Sd_craft Sd_dataCount Sd_bytes g2 Sh_depth Sh_wordBytes Sh_e Sh_pattern Wd_remainder Fd_otherForms Fd_elements Wd_generator Fd_logs Fd_powers Cd_register Cd_put Rw_length Rw_cells Mx_bytes) H := hP.sub [15, 0, 16, 1, 2, 3, 4, 5, 6, 7, 8, 9, 10, 11, 12, 13, 14] rfl
    have hD : va_D A (w_Sender_sendFrame cI cJ qSd qSd_bytes qSd_channelCounts qSh qWd qWd_remainder qFd qFd_otherForms qFd_elements qWd_generator qFd_logs qFd_powers qCd qRw qRw_cells qMx qMx_bytes Wd_coefficients Wd_syndromes Wd_locator v1 Sd_craft Sd_dataCount Sd_bytes g2 Sh_depth Sh_wordBytes Sh_e Sh_pattern Wd_remainder Fd_otherForms Fd_elements Wd_generator Fd_logs Fd_powers Cd_register Cd_put Rw_length Rw_cells Mx_bytes) := hD.sub [15, 0, 16, 1, 2, 3, 4, 5, 6, 7, 8, 9, 10, 11, 12, 13, 14] (by decide) rfl
    refine lv_aload_n hx hb d_Sender_sendFrame_119 rfl (lv_at hl 0 rfl) ?_
    refine lv_iconst (v := (0 : Int32)) hx hb d_Sender_sendFrame_120 (by decide) ?_
    refine va_put (D := D) (ci := 7) (v := .int (0 : Int32)) (ty := .int) (C := "DeepChannel$Sender") (T := fT_Sender) (N := 8) hx hb hts u_Sender fY_Sender fK_Sender fN_Sender hown hK hP hD hS 0 rfl rfl 7 (by decide) (hts _ k_252) (fun _ h9 => h9) rfl (by decide +kernel) rfl rfl (Nat.le_of_ble_eq_true rfl) d_Sender_sendFrame_121 (fun H locs hP hD hS => ?_)
    have hP : va_P D classes (w_Sender_sendFrame cI cJ qSd qSd_bytes qSd_channelCounts qSh qWd qWd_remainder qFd qFd_otherForms qFd_elements qWd_generator qFd_logs qFd_powers qCd qRw qRw_cells qMx qMx_bytes Wd_coefficients Wd_syndromes Wd_locator v1 Sd_craft (0 : Int32) Sd_bytes g2 Sh_depth Sh_wordBytes Sh_e Sh_pattern Wd_remainder Fd_otherForms Fd_elements Wd_generator Fd_logs Fd_powers Cd_register Cd_put Rw_length Rw_cells Mx_bytes) H := hP
    have hD : va_D A (w_Sender_sendFrame cI cJ qSd qSd_bytes qSd_channelCounts qSh qWd qWd_remainder qFd qFd_otherForms qFd_elements qWd_generator qFd_logs qFd_powers qCd qRw qRw_cells qMx qMx_bytes Wd_coefficients Wd_syndromes Wd_locator v1 Sd_craft (0 : Int32) Sd_bytes g2 Sh_depth Sh_wordBytes Sh_e Sh_pattern Wd_remainder Fd_otherForms Fd_elements Wd_generator Fd_logs Fd_powers Cd_register Cd_put Rw_length Rw_cells Mx_bytes) := hD
    cases hm
    exact z_qo hQ (z_vret hr hx hb hlocks hK hP hD hS d_Sender_sendFrame_124)
  have T73 : ∀ (n73 : Nat) (x1 : Int32) (x5 : Int32) (Sd_masterCount : Int32) (Sd_dataCount : Int32) (Sd_bytes : Nat → Int32) (Sd_channelCounts : Nat → Int32) (Wd_remainder : Nat → Int32) (Cd_register : Int32) (Cd_put : Int32) (Rw_length : Int32) (Rw_cells : Nat → Int64), f_Sender_sendFrame_73 Sh_depth Sh_wordBytes Sh_pattern Mx_bytes n73 x1 x5 Sd_masterCount Sd_dataCount Sd_bytes Sd_channelCounts Wd_remainder Cd_register Cd_put Rw_length Rw_cells = some (Sd_masterCount', Sd_dataCount', Sd_bytes', Sd_channelCounts', Wd_remainder', Cd_register', Cd_put', Rw_length', Rw_cells') → ∀ (H : Heap) (locs : List Loc), va_P D classes (w_Sender_sendFrame cI cJ qSd qSd_bytes qSd_channelCounts qSh qWd qWd_remainder qFd qFd_otherForms qFd_elements qWd_generator qFd_logs qFd_powers qCd qRw qRw_cells qMx qMx_bytes Wd_coefficients Wd_syndromes Wd_locator Sd_masterCount Sd_craft Sd_dataCount Sd_bytes Sd_channelCounts Sh_depth Sh_wordBytes Sh_e Sh_pattern Wd_remainder Fd_otherForms Fd_elements Wd_generator Fd_logs Fd_powers Cd_register Cd_put Rw_length Rw_cells Mx_bytes) H → va_D A (w_Sender_sendFrame cI cJ qSd qSd_bytes qSd_channelCounts qSh qWd qWd_remainder qFd qFd_otherForms qFd_elements qWd_generator qFd_logs qFd_powers qCd qRw qRw_cells qMx qMx_bytes Wd_coefficients Wd_syndromes Wd_locator Sd_masterCount Sd_craft Sd_dataCount Sd_bytes Sd_channelCounts Sh_depth Sh_wordBytes Sh_e Sh_pattern Wd_remainder Fd_otherForms Fd_elements Wd_generator Fd_logs Fd_powers Cd_register Cd_put Rw_length Rw_cells Mx_bytes) → va_S A s.heap H locs → ∀ (ls : Array Slot), lv_has ls 6 [(0, .ref qSd), (1, .int x1), (2, .ref qCd), (5, .int x5)] → W p l e (RM 4 88) s m args below meth c H locs 0 0 Q0 (F0 m 73 ls []) := by
    intro n73
    induction n73 with
    | zero => intro x1 x5 Sd_masterCount Sd_dataCount Sd_bytes Sd_channelCounts Wd_remainder Cd_register Cd_put Rw_length Rw_cells hm; cases hm
    | succ n73 ih73 =>
      intro x1 x5 Sd_masterCount Sd_dataCount Sd_bytes Sd_channelCounts Wd_remainder Cd_register Cd_put Rw_length Rw_cells hm H locs hP hD hS ls hl
      replace hm : f_Sender_sendFrame_73_b Sh_depth Sh_wordBytes Sh_pattern Mx_bytes (f_Sender_sendFrame_73 Sh_depth Sh_wordBytes Sh_pattern Mx_bytes n73) x1 x5 Sd_masterCount Sd_dataCount Sd_bytes Sd_channelCounts Wd_remainder Cd_register Cd_put Rw_length Rw_cells = some (Sd_masterCount', Sd_dataCount', Sd_bytes', Sd_channelCounts', Wd_remainder', Cd_register', Cd_put', Rw_length', Rw_cells') := hm
      unfold f_Sender_sendFrame_73_b at hm
      refine lv_iload hx hb d_Sender_sendFrame_73 (lv_at hl 3 rfl) ?_
      refine lv_aload_n hx hb d_Sender_sendFrame_75 rfl (lv_at hl 0 rfl) ?_
      refine va_get (D := D) (ci := 7) (v := .ref qSh) (C := "DeepChannel$Sender") (T := fT_Sender) (N := 8) hx hb hts u_Sender hown hK hP 0 rfl rfl 0 (by decide) (hts _ k_245) (fun _ h9 => h9) rfl d_Sender_sendFrame_76 ?_
      obtain ⟨r4, hu, hm⟩ := bd_el hm
      replace hm := nm_1 hm
      refine z_cVi (wc := w_Shape_blockBytes cI cJ qSh (.int Sh_e) (.int Sh_pattern) Sh_depth Sh_wordBytes) (wc' := w_Shape_blockBytes cI cJ qSh (.int Sh_e) (.int Sh_pattern) Sh_depth Sh_wordBytes) (wr := [(qSd, .inr (7, [.ref qSh, .ref qWd, .ref qMx, .ref qSd_bytes, .ref qSd_channelCounts, .int Sd_masterCount, .int Sd_craft, .int Sd_dataCount])), (qSd_bytes, .inl (cI, 250, .inl Sd_bytes)), (qSd_channelCounts, .inl (cI, 8, .inl Sd_channelCounts)), (qWd, .inr (9, [.ref qSh, .ref qFd, .ref qWd_generator, .ref qWd_remainder, Wd_coefficients, Wd_syndromes, Wd_locator])), (qWd_remainder, .inl (cI, 32, .inl Wd_remainder)), (qFd, .inr (2, [.ref qFd_powers, .ref qFd_logs, .ref qFd_otherForms, .ref qFd_elements])), (qFd_otherForms, .inl (cI, 256, .inl Fd_otherForms)), (qFd_elements, .inl (cI, 256, .inl Fd_elements)), (qWd_generator, .inl (cI, 33, .inl Wd_generator)), (qFd_logs, .inl (cI, 256, .inl Fd_logs)), (qFd_powers, .inl (cI, 255, .inl Fd_powers)), (qCd, .inr (1, [.ref qSh, .ref qRw, .int Cd_register, .int Cd_put])), (qRw, .inr (0, [.ref qRw_cells, .int Rw_length])), (qRw_cells, .inl (cJ, 64, .inr (.inl Rw_cells))), (qMx, .inr (4, [.ref qMx_bytes])), (qMx_bytes, .inl (cI, 250, .inl Mx_bytes))]) (As := []) (rest := [.int x5]) (c_Shape_blockBytes l D cI cJ tt qSh (.int Sh_e) (.int Sh_pattern) _ Sh_depth Sh_wordBytes r4 hu) F ok_Shape_blockBytes rfl k_650 hK hE hP hD hS hA [3] [0, 1, 2, 4, 5, 6, 7, 8, 9, 10, 11, 12, 13, 14, 15, 16] rfl rfl (by decide) (by decide) (by decide) 0 rfl rfl rfl ⟨rfl, rfl, Nat.le_of_ble_eq_true rfl, Nat.le_of_ble_eq_true rfl⟩ ⟨Nat.zero_le _, Nat.zero_le _⟩ rfl hl.1 rfl (Nat.le_of_ble_eq_true rfl) d_Sender_sendFrame_79 (fun H locs hP hD hS => ?_)
      have hP : va_P D classes (w_Sender_sendFrame cI cJ qSd qSd_bytes qSd_channelCounts qSh qWd qWd_remainder qFd qFd_otherForms qFd_elements qWd_generator qFd_logs qFd_powers qCd qRw qRw_cells qMx qMx_bytes Wd_coefficients Wd_syndromes Wd_locator Sd_masterCount Sd_craft Sd_dataCount Sd_bytes Sd_channelCounts Sh_depth Sh_wordBytes Sh_e Sh_pattern Wd_remainder Fd_otherForms Fd_elements Wd_generator Fd_logs Fd_powers Cd_register Cd_put Rw_length Rw_cells Mx_bytes) H := hP.sub [0, 1, 2, 16, 3, 4, 5, 6, 7, 8, 9, 10, 11, 12, 13, 14, 15] rfl
      have hD : va_D A (w_Sender_sendFrame cI cJ qSd qSd_bytes qSd_channelCounts qSh qWd qWd_remainder qFd qFd_otherForms qFd_elements qWd_generator qFd_logs qFd_powers qCd qRw qRw_cells qMx qMx_bytes Wd_coefficients Wd_syndromes Wd_locator Sd_masterCount Sd_craft Sd_dataCount Sd_bytes Sd_channelCounts Sh_depth Sh_wordBytes Sh_e Sh_pattern Wd_remainder Fd_otherForms Fd_elements Wd_generator Fd_logs Fd_powers Cd_register Cd_put Rw_length Rw_cells Mx_bytes) := hD.sub [0, 1, 2, 16, 3, 4, 5, 6, 7, 8, 9, 10, 11, 12, 13, 14, 15] (by decide) rfl
      refine z_if hm (lv_icmp_ge (tgt := 114) hx hb d_Sender_sendFrame_82 (by decide)) (fun hm => ?_) (fun hm => ?_)
      · exact T114 x1 Sd_masterCount Sd_dataCount Sd_bytes Sd_channelCounts Wd_remainder Cd_register Cd_put Rw_length Rw_cells hm _ _ hP hD hS _ (lv_sub hl [0, 1] rfl)
      · refine lv_aload_n hx hb d_Sender_sendFrame_85 rfl (lv_at hl 2 rfl) ?_
        refine lv_aload_n hx hb d_Sender_sendFrame_86 rfl (lv_at hl 0 rfl) ?_
        refine va_get (D := D) (ci := 7) (v := .ref qSd_bytes) (C := "DeepChannel$Sender") (T := fT_Sender) (N := 8) hx hb hts u_Sender hown hK hP 0 rfl rfl 3 (by decide) (hts _ k_248) (fun _ h9 => h9) rfl d_Sender_sendFrame_87 ?_
        refine lv_iload hx hb d_Sender_sendFrame_90 (lv_at hl 3 rfl) ?_
        refine z_iald hm hx hb hK hP 1 rfl d_Sender_sendFrame_92 (fun v6 hm => ?_)
        refine lv_aload_n hx hb d_Sender_sendFrame_93 rfl (lv_at hl 0 rfl) ?_
        refine va_get (D := D) (ci := 7) (v := .ref qMx) (C := "DeepChannel$Sender") (T := fT_Sender) (N := 8) hx hb hts u_Sender hown hK hP 0 rfl rfl 2 (by decide) (hts _ k_247) (fun _ h9 => h9) rfl d_Sender_sendFrame_94 ?_
        refine lv_iload hx hb d_Sender_sendFrame_97 (lv_at hl 3 rfl) ?_
        obtain ⟨r7, hu, hm⟩ := bd_el hm
        replace hm := nm_1 hm
        refine z_cVi (wc := w_Mixer_at cI cJ qMx qMx_bytes Mx_bytes) (wc' := w_Mixer_at cI cJ qMx qMx_bytes Mx_bytes) (wr := [(qSd, .inr (7, [.ref qSh, .ref qWd, .ref qMx, .ref qSd_bytes, .ref qSd_channelCounts, .int Sd_masterCount, .int Sd_craft, .int Sd_dataCount])), (qSd_bytes, .inl (cI, 250, .inl Sd_bytes)), (qSd_channelCounts, .inl (cI, 8, .inl Sd_channelCounts)), (qSh, .inr (8, [.int Sh_depth, .int Sh_wordBytes, .int Sh_e, .int Sh_pattern])), (qWd, .inr (9, [.ref qSh, .ref qFd, .ref qWd_generator, .ref qWd_remainder, Wd_coefficients, Wd_syndromes, Wd_locator])), (qWd_remainder, .inl (cI, 32, .inl Wd_remainder)), (qFd, .inr (2, [.ref qFd_powers, .ref qFd_logs, .ref qFd_otherForms, .ref qFd_elements])), (qFd_otherForms, .inl (cI, 256, .inl Fd_otherForms)), (qFd_elements, .inl (cI, 256, .inl Fd_elements)), (qWd_generator, .inl (cI, 33, .inl Wd_generator)), (qFd_logs, .inl (cI, 256, .inl Fd_logs)), (qFd_powers, .inl (cI, 255, .inl Fd_powers)), (qCd, .inr (1, [.ref qSh, .ref qRw, .int Cd_register, .int Cd_put])), (qRw, .inr (0, [.ref qRw_cells, .int Rw_length])), (qRw_cells, .inl (cJ, 64, .inr (.inl Rw_cells)))]) (As := [.int x5]) (rest := [.int v6, .ref qCd]) (c_Mixer_at l D cI cJ tt qMx qMx_bytes _ Mx_bytes x5 r7 hu) F ok_Mixer_at rfl k_651 hK hE hP hD hS hA [15, 16] [0, 1, 2, 3, 4, 5, 6, 7, 8, 9, 10, 11, 12, 13, 14] rfl rfl (by decide) (by decide) (by decide) 0 rfl rfl rfl ⟨rfl, rfl, Nat.le_of_ble_eq_true rfl, Nat.le_of_ble_eq_true rfl⟩ ⟨Nat.zero_le _, Nat.zero_le _⟩ rfl hl.1 rfl (Nat.le_of_ble_eq_true rfl) d_Sender_sendFrame_99 (fun H locs hP hD hS => ?_)
        have hP : va_P D classes (w_Sender_sendFrame cI cJ qSd qSd_bytes qSd_channelCounts qSh qWd qWd_remainder qFd qFd_otherForms qFd_elements qWd_generator qFd_logs qFd_powers qCd qRw qRw_cells qMx qMx_bytes Wd_coefficients Wd_syndromes Wd_locator Sd_masterCount Sd_craft Sd_dataCount Sd_bytes Sd_channelCounts Sh_depth Sh_wordBytes Sh_e Sh_pattern Wd_remainder Fd_otherForms Fd_elements Wd_generator Fd_logs Fd_powers Cd_register Cd_put Rw_length Rw_cells Mx_bytes) H := hP.sub [0, 1, 2, 3, 4, 5, 6, 7, 8, 9, 10, 11, 12, 13, 14, 15, 16] rfl
        have hD : va_D A (w_Sender_sendFrame cI cJ qSd qSd_bytes qSd_channelCounts qSh qWd qWd_remainder qFd qFd_otherForms qFd_elements qWd_generator qFd_logs qFd_powers qCd qRw qRw_cells qMx qMx_bytes Wd_coefficients Wd_syndromes Wd_locator Sd_masterCount Sd_craft Sd_dataCount Sd_bytes Sd_channelCounts Sh_depth Sh_wordBytes Sh_e Sh_pattern Wd_remainder Fd_otherForms Fd_elements Wd_generator Fd_logs Fd_powers Cd_register Cd_put Rw_length Rw_cells Mx_bytes) := hD.sub [0, 1, 2, 3, 4, 5, 6, 7, 8, 9, 10, 11, 12, 13, 14, 15, 16] (by decide) rfl
        refine lv_ixor hx hb d_Sender_sendFrame_102 ?_
        refine lv_bipush (v := (8 : Int32)) hx hb d_Sender_sendFrame_103 (by decide) ?_
        obtain ⟨⟨v9, v10, v11, g12⟩, hu, hm⟩ := bd_el hm
        replace hm := nm_4 hm
        refine z_cVv (wc := w_Coder_putBits cI cJ qCd qSh qRw qRw_cells (.int Sh_depth) (.int Sh_wordBytes) (.int Sh_e) Cd_register Cd_put Sh_pattern Rw_length Rw_cells) (wc' := w_Coder_putBits cI cJ qCd qSh qRw qRw_cells (.int Sh_depth) (.int Sh_wordBytes) (.int Sh_e) v9 v10 Sh_pattern v11 g12) (wr := [(qSd, .inr (7, [.ref qSh, .ref qWd, .ref qMx, .ref qSd_bytes, .ref qSd_channelCounts, .int Sd_masterCount, .int Sd_craft, .int Sd_dataCount])), (qSd_bytes, .inl (cI, 250, .inl Sd_bytes)), (qSd_channelCounts, .inl (cI, 8, .inl Sd_channelCounts)), (qWd, .inr (9, [.ref qSh, .ref qFd, .ref qWd_generator, .ref qWd_remainder, Wd_coefficients, Wd_syndromes, Wd_locator])), (qWd_remainder, .inl (cI, 32, .inl Wd_remainder)), (qFd, .inr (2, [.ref qFd_powers, .ref qFd_logs, .ref qFd_otherForms, .ref qFd_elements])), (qFd_otherForms, .inl (cI, 256, .inl Fd_otherForms)), (qFd_elements, .inl (cI, 256, .inl Fd_elements)), (qWd_generator, .inl (cI, 33, .inl Wd_generator)), (qFd_logs, .inl (cI, 256, .inl Fd_logs)), (qFd_powers, .inl (cI, 255, .inl Fd_powers)), (qMx, .inr (4, [.ref qMx_bytes])), (qMx_bytes, .inl (cI, 250, .inl Mx_bytes))]) (As := [.int (v6 ^^^ r7), .int (8 : Int32)]) (rest := []) (c_Coder_putBits l D cI cJ tt qCd qSh qRw qRw_cells (.int Sh_depth) (.int Sh_wordBytes) (.int Sh_e) _ Cd_register Cd_put Sh_pattern Rw_length Rw_cells (v6 ^^^ r7) (8 : Int32) v9 v10 v11 g12 hu) F ok_Coder_putBits rfl k_637 hK hE hP hD hS hA [12, 3, 13, 14] [0, 1, 2, 4, 5, 6, 7, 8, 9, 10, 11, 15, 16] rfl rfl (by decide) (by decide) (by decide) 0 rfl rfl rfl ⟨rfl, rfl, Nat.le_of_ble_eq_true rfl, Nat.le_of_ble_eq_true rfl⟩ ⟨Nat.zero_le _, Nat.zero_le _⟩ rfl hl.1 rfl (Nat.le_of_ble_eq_true rfl) d_Sender_sendFrame_105 (fun H locs hP hD hS => ?_)
        have hP : va_P D classes (w_Sender_sendFrame cI cJ qSd qSd_bytes qSd_channelCounts qSh qWd qWd_remainder qFd qFd_otherForms qFd_elements qWd_generator qFd_logs qFd_powers qCd qRw qRw_cells qMx qMx_bytes Wd_coefficients Wd_syndromes Wd_locator Sd_masterCount Sd_craft Sd_dataCount Sd_bytes Sd_channelCounts Sh_depth Sh_wordBytes Sh_e Sh_pattern Wd_remainder Fd_otherForms Fd_elements Wd_generator Fd_logs Fd_powers v9 v10 v11 g12 Mx_bytes) H := hP.sub [0, 1, 2, 14, 3, 4, 5, 6, 7, 8, 9, 10, 13, 15, 16, 11, 12] rfl
        have hD : va_D A (w_Sender_sendFrame cI cJ qSd qSd_bytes qSd_channelCounts qSh qWd qWd_remainder qFd qFd_otherForms qFd_elements qWd_generator qFd_logs qFd_powers qCd qRw qRw_cells qMx qMx_bytes Wd_coefficients Wd_syndromes Wd_locator Sd_masterCount Sd_craft Sd_dataCount Sd_bytes Sd_channelCounts Sh_depth Sh_wordBytes Sh_e Sh_pattern Wd_remainder Fd_otherForms Fd_elements Wd_generator Fd_logs Fd_powers v9 v10 v11 g12 Mx_bytes) := hD.sub [0, 1, 2, 14, 3, 4, 5, 6, 7, 8, 9, 10, 13, 15, 16, 11, 12] (by decide) rfl
        obtain ⟨v14, ev, hm⟩ := nm_el hm
        refine lv_iinc (v := v14) (lv' := [(5, .int v14), (0, .ref qSd), (1, .int x1), (2, .ref qCd)]) hx hb d_Sender_sendFrame_108 hl (k := 3) rfl (by rw [ev]; rfl) (by decide) rfl (fun ls hl => ?_)
        refine lv_goto (tgt := 73) hx hb d_Sender_sendFrame_111 (by decide) ?_
        exact ih73 x1 v14 Sd_masterCount Sd_dataCount Sd_bytes Sd_channelCounts Wd_remainder v9 v10 v11 g12 hm _ _ hP hD hS _ (lv_sub hl [1, 2, 3, 0] rfl)
  unfold f_Sender_sendFrame at hm
  refine lv_aload_n hx hb d_Sender_sendFrame_0 rfl (lv_at hl 0 rfl) ?_
  refine lv_iload_n hx hb d_Sender_sendFrame_1 rfl (lv_at hl 1 rfl) ?_
  obtain ⟨g15, hu, hm⟩ := bd_el hm
  replace hm := nm_1 hm
  refine z_cVv (wc := w_Sender_fillHeader cI cJ qSd qSd_bytes qSd_channelCounts (.ref qSh) (.ref qWd) (.ref qMx) (.int Sd_dataCount) Sd_masterCount Sd_craft Sd_bytes Sd_channelCounts) (wc' := w_Sender_fillHeader cI cJ qSd qSd_bytes qSd_channelCounts (.ref qSh) (.ref qWd) (.ref qMx) (.int Sd_dataCount) Sd_masterCount Sd_craft g15 Sd_channelCounts) (wr := [(qSh, .inr (8, [.int Sh_depth, .int Sh_wordBytes, .int Sh_e, .int Sh_pattern])), (qWd, .inr (9, [.ref qSh, .ref qFd, .ref qWd_generator, .ref qWd_remainder, Wd_coefficients, Wd_syndromes, Wd_locator])), (qWd_remainder, .inl (cI, 32, .inl Wd_remainder)), (qFd, .inr (2, [.ref qFd_powers, .ref qFd_logs, .ref qFd_otherForms, .ref qFd_elements])), (qFd_otherForms, .inl (cI, 256, .inl Fd_otherForms)), (qFd_elements, .inl (cI, 256, .inl Fd_elements)), (qWd_generator, .inl (cI, 33, .inl Wd_generator)), (qFd_logs, .inl (cI, 256, .inl Fd_logs)), (qFd_powers, .inl (cI, 255, .inl Fd_powers)), (qCd, .inr (1, [.ref qSh, .ref qRw, .int Cd_register, .int Cd_put])), (qRw, .inr (0, [.ref qRw_cells, .int Rw_length])), (qRw_cells, .inl (cJ, 64, .inr (.inl Rw_cells))), (qMx, .inr (4, [.ref qMx_bytes])), (qMx_bytes, .inl (cI, 250, .inl Mx_bytes))]) (As := [.int x1]) (rest := []) (c_Sender_fillHeader l D cI cJ tt qSd qSd_bytes qSd_channelCounts (.ref qSh) (.ref qWd) (.ref qMx) (.int Sd_dataCount) _ Sd_masterCount Sd_craft Sd_bytes Sd_channelCounts x1 g15 hu) F ok_Sender_fillHeader rfl k_611 hK hE hP hD hS hA [0, 1, 2] [3, 4, 5, 6, 7, 8, 9, 10, 11, 12, 13, 14, 15, 16] rfl rfl (by decide) (by decide) (by decide) 0 rfl rfl rfl ⟨rfl, rfl, Nat.le_of_ble_eq_true rfl, Nat.le_of_ble_eq_true rfl⟩ ⟨Nat.zero_le _, Nat.zero_le _⟩ rfl hl.1 rfl (Nat.le_of_ble_eq_true rfl) d_Sender_sendFrame_2 (fun H locs hP hD hS => ?_)
  have hP : va_P D classes (w_Sender_sendFrame cI cJ qSd qSd_bytes qSd_channelCounts qSh qWd qWd_remainder qFd qFd_otherForms qFd_elements qWd_generator qFd_logs qFd_powers qCd qRw qRw_cells qMx qMx_bytes Wd_coefficients Wd_syndromes Wd_locator Sd_masterCount Sd_craft Sd_dataCount g15 Sd_channelCounts Sh_depth Sh_wordBytes Sh_e Sh_pattern Wd_remainder Fd_otherForms Fd_elements Wd_generator Fd_logs Fd_powers Cd_register Cd_put Rw_length Rw_cells Mx_bytes) H := hP.sub [14, 15, 16, 0, 1, 2, 3, 4, 5, 6, 7, 8, 9, 10, 11, 12, 13] rfl
  have hD : va_D A (w_Sender_sendFrame cI cJ qSd qSd_bytes qSd_channelCounts qSh qWd qWd_remainder qFd qFd_otherForms qFd_elements qWd_generator qFd_logs qFd_powers qCd qRw qRw_cells qMx qMx_bytes Wd_coefficients Wd_syndromes Wd_locator Sd_masterCount Sd_craft Sd_dataCount g15 Sd_channelCounts Sh_depth Sh_wordBytes Sh_e Sh_pattern Wd_remainder Fd_otherForms Fd_elements Wd_generator Fd_logs Fd_powers Cd_register Cd_put Rw_length Rw_cells Mx_bytes) := hD.sub [14, 15, 16, 0, 1, 2, 3, 4, 5, 6, 7, 8, 9, 10, 11, 12, 13] (by decide) rfl
  refine lv_aload_n hx hb d_Sender_sendFrame_5 rfl (lv_at hl 0 rfl) ?_
  refine va_get (D := D) (ci := 7) (v := .ref qSh) (C := "DeepChannel$Sender") (T := fT_Sender) (N := 8) hx hb hts u_Sender hown hK hP 0 rfl rfl 0 (by decide) (hts _ k_245) (fun _ h9 => h9) rfl d_Sender_sendFrame_6 ?_
  obtain ⟨r17, hu, hm⟩ := bd_el hm
  replace hm := nm_1 hm
  refine z_cVi (wc := w_Shape_frameBytes cI cJ qSh (.int Sh_pattern) Sh_depth Sh_wordBytes Sh_e) (wc' := w_Shape_frameBytes cI cJ qSh (.int Sh_pattern) Sh_depth Sh_wordBytes Sh_e) (wr := [(qSd, .inr (7, [.ref qSh, .ref qWd, .ref qMx, .ref qSd_bytes, .ref qSd_channelCounts, .int Sd_masterCount, .int Sd_craft, .int Sd_dataCount])), (qSd_bytes, .inl (cI, 250, .inl g15)), (qSd_channelCounts, .inl (cI, 8, .inl Sd_channelCounts)), (qWd, .inr (9, [.ref qSh, .ref qFd, .ref qWd_generator, .ref qWd_remainder, Wd_coefficients, Wd_syndromes, Wd_locator])), (qWd_remainder, .inl (cI, 32, .inl Wd_remainder)), (qFd, .inr (2, [.ref qFd_powers, .ref qFd_logs, .ref qFd_otherForms, .ref qFd_elements])), (qFd_otherForms, .inl (cI, 256, .inl Fd_otherForms)), (qFd_elements, .inl (cI, 256, .inl Fd_elements)), (qWd_generator, .inl (cI, 33, .inl Wd_generator)), (qFd_logs, .inl (cI, 256, .inl Fd_logs)), (qFd_powers, .inl (cI, 255, .inl Fd_powers)), (qCd, .inr (1, [.ref qSh, .ref qRw, .int Cd_register, .int Cd_put])), (qRw, .inr (0, [.ref qRw_cells, .int Rw_length])), (qRw_cells, .inl (cJ, 64, .inr (.inl Rw_cells))), (qMx, .inr (4, [.ref qMx_bytes])), (qMx_bytes, .inl (cI, 250, .inl Mx_bytes))]) (As := []) (rest := []) (c_Shape_frameBytes l D cI cJ tt qSh (.int Sh_pattern) _ Sh_depth Sh_wordBytes Sh_e r17 hu) F ok_Shape_frameBytes rfl k_615 hK hE hP hD hS hA [3] [0, 1, 2, 4, 5, 6, 7, 8, 9, 10, 11, 12, 13, 14, 15, 16] rfl rfl (by decide) (by decide) (by decide) 0 rfl rfl rfl ⟨rfl, rfl, Nat.le_of_ble_eq_true rfl, Nat.le_of_ble_eq_true rfl⟩ ⟨Nat.zero_le _, Nat.zero_le _⟩ rfl hl.1 rfl (Nat.le_of_ble_eq_true rfl) d_Sender_sendFrame_9 (fun H locs hP hD hS => ?_)
  have hP : va_P D classes (w_Sender_sendFrame cI cJ qSd qSd_bytes qSd_channelCounts qSh qWd qWd_remainder qFd qFd_otherForms qFd_elements qWd_generator qFd_logs qFd_powers qCd qRw qRw_cells qMx qMx_bytes Wd_coefficients Wd_syndromes Wd_locator Sd_masterCount Sd_craft Sd_dataCount g15 Sd_channelCounts Sh_depth Sh_wordBytes Sh_e Sh_pattern Wd_remainder Fd_otherForms Fd_elements Wd_generator Fd_logs Fd_powers Cd_register Cd_put Rw_length Rw_cells Mx_bytes) H := hP.sub [0, 1, 2, 16, 3, 4, 5, 6, 7, 8, 9, 10, 11, 12, 13, 14, 15] rfl
  have hD : va_D A (w_Sender_sendFrame cI cJ qSd qSd_bytes qSd_channelCounts qSh qWd qWd_remainder qFd qFd_otherForms qFd_elements qWd_generator qFd_logs qFd_powers qCd qRw qRw_cells qMx qMx_bytes Wd_coefficients Wd_syndromes Wd_locator Sd_masterCount Sd_craft Sd_dataCount g15 Sd_channelCounts Sh_depth Sh_wordBytes Sh_e Sh_pattern Wd_remainder Fd_otherForms Fd_elements Wd_generator Fd_logs Fd_powers Cd_register Cd_put Rw_length Rw_cells Mx_bytes) := hD.sub [0, 1, 2, 16, 3, 4, 5, 6, 7, 8, 9, 10, 11, 12, 13, 14, 15] (by decide) rfl
  refine lv_iconst (v := (2 : Int32)) hx hb d_Sender_sendFrame_12 (by decide) ?_
  refine lv_isub hx hb d_Sender_sendFrame_13 ?_
  refine z_nmi hm (fun v19 hm => ?_)
  refine lv_istore_n (lv' := [(3, .int v19), (0, .ref qSd), (1, .int x1), (2, .ref qCd)]) hx hb d_Sender_sendFrame_14 rfl hl (by decide) rfl (fun ls hl => ?_)
  refine lv_aload_n hx hb d_Sender_sendFrame_15 rfl (lv_at hl 1 rfl) ?_
  refine va_get (D := D) (ci := 7) (v := .ref qSd_bytes) (C := "DeepChannel$Sender") (T := fT_Sender) (N := 8) hx hb hts u_Sender hown hK hP 0 rfl rfl 3 (by decide) (hts _ k_248) (fun _ h9 => h9) rfl d_Sender_sendFrame_16 ?_
  refine lv_iconst (v := (0 : Int32)) hx hb d_Sender_sendFrame_19 (by decide) ?_
  refine lv_iload_n hx hb d_Sender_sendFrame_20 rfl (lv_at hl 0 rfl) ?_
  obtain ⟨r20, hu, hm⟩ := bd_el hm
  replace hm := nm_1 hm
  refine z_cNSi (wc := w_DC_checkOf cI cJ qSd_bytes 250 g15) (wc' := w_DC_checkOf cI cJ qSd_bytes 250 g15) (wr := [(qSd, .inr (7, [.ref qSh, .ref qWd, .ref qMx, .ref qSd_bytes, .ref qSd_channelCounts, .int Sd_masterCount, .int Sd_craft, .int Sd_dataCount])), (qSd_channelCounts, .inl (cI, 8, .inl Sd_channelCounts)), (qSh, .inr (8, [.int Sh_depth, .int Sh_wordBytes, .int Sh_e, .int Sh_pattern])), (qWd, .inr (9, [.ref qSh, .ref qFd, .ref qWd_generator, .ref qWd_remainder, Wd_coefficients, Wd_syndromes, Wd_locator])), (qWd_remainder, .inl (cI, 32, .inl Wd_remainder)), (qFd, .inr (2, [.ref qFd_powers, .ref qFd_logs, .ref qFd_otherForms, .ref qFd_elements])), (qFd_otherForms, .inl (cI, 256, .inl Fd_otherForms)), (qFd_elements, .inl (cI, 256, .inl Fd_elements)), (qWd_generator, .inl (cI, 33, .inl Wd_generator)), (qFd_logs, .inl (cI, 256, .inl Fd_logs)), (qFd_powers, .inl (cI, 255, .inl Fd_powers)), (qCd, .inr (1, [.ref qSh, .ref qRw, .int Cd_register, .int Cd_put])), (qRw, .inr (0, [.ref qRw_cells, .int Rw_length])), (qRw_cells, .inl (cJ, 64, .inr (.inl Rw_cells))), (qMx, .inr (4, [.ref qMx_bytes])), (qMx_bytes, .inl (cI, 250, .inl Mx_bytes))]) (As := [.ref qSd_bytes, .int (0 : Int32), .int v19]) (rest := []) (c_DC_checkOf l D cI cJ tt qSd_bytes 250 _ g15 (0 : Int32) v19 r20 hu) F ok_DC_checkOf (hE.1 _ (List.mem_of_getElem? (i := 9) rfl)) hK hE hP hD hS hA [1] [0, 2, 3, 4, 5, 6, 7, 8, 9, 10, 11, 12, 13, 14, 15, 16] rfl rfl (by decide) (by decide) (by decide) ⟨rfl, rfl, Nat.le_of_ble_eq_true rfl, Nat.le_of_ble_eq_true rfl⟩ ⟨Nat.zero_le _, Nat.zero_le _⟩ rfl hl.1 rfl (Nat.le_of_ble_eq_true rfl) d_Sender_sendFrame_21 (fun H locs hP hD hS => ?_)
  have hP : va_P D classes (w_Sender_sendFrame cI cJ qSd qSd_bytes qSd_channelCounts qSh qWd qWd_remainder qFd qFd_otherForms qFd_elements qWd_generator qFd_logs qFd_powers qCd qRw qRw_cells qMx qMx_bytes Wd_coefficients Wd_syndromes Wd_locator Sd_masterCount Sd_craft Sd_dataCount g15 Sd_channelCounts Sh_depth Sh_wordBytes Sh_e Sh_pattern Wd_remainder Fd_otherForms Fd_elements Wd_generator Fd_logs Fd_powers Cd_register Cd_put Rw_length Rw_cells Mx_bytes) H := hP.sub [0, 16, 1, 2, 3, 4, 5, 6, 7, 8, 9, 10, 11, 12, 13, 14, 15] rfl
  have hD : va_D A (w_Sender_sendFrame cI cJ qSd qSd_bytes qSd_channelCounts qSh qWd qWd_remainder qFd qFd_otherForms qFd_elements qWd_generator qFd_logs qFd_powers qCd qRw qRw_cells qMx qMx_bytes Wd_coefficients Wd_syndromes Wd_locator Sd_masterCount Sd_craft Sd_dataCount g15 Sd_channelCounts Sh_depth Sh_wordBytes Sh_e Sh_pattern Wd_remainder Fd_otherForms Fd_elements Wd_generator Fd_logs Fd_powers Cd_register Cd_put Rw_length Rw_cells Mx_bytes) := hD.sub [0, 16, 1, 2, 3, 4, 5, 6, 7, 8, 9, 10, 11, 12, 13, 14, 15] (by decide) rfl
  refine lv_istore (lv' := [(4, .int r20), (3, .int v19), (0, .ref qSd), (1, .int x1), (2, .ref qCd)]) hx hb d_Sender_sendFrame_24 hl (by decide) rfl (fun ls hl => ?_)
  refine lv_aload_n hx hb d_Sender_sendFrame_26 rfl (lv_at hl 2 rfl) ?_
  refine va_get (D := D) (ci := 7) (v := .ref qSd_bytes) (C := "DeepChannel$Sender") (T := fT_Sender) (N := 8) hx hb hts u_Sender hown hK hP 0 rfl rfl 3 (by decide) (hts _ k_248) (fun _ h9 => h9) rfl d_Sender_sendFrame_27 ?_
  refine lv_iload_n hx hb d_Sender_sendFrame_30 rfl (lv_at hl 1 rfl) ?_
  refine lv_iload hx hb d_Sender_sendFrame_31 (lv_at hl 0 rfl) ?_
  refine lv_bipush (v := (8 : Int32)) hx hb d_Sender_sendFrame_33 (by decide) ?_
  refine lv_ishr hx hb d_Sender_sendFrame_35 ?_
  refine z_iast hm hx hb hK hP hD hS 1 rfl d_Sender_sendFrame_36 (fun g22 hm H locs hP hD hS => ?_)
  have hP : va_P D classes (w_Sender_sendFrame cI cJ qSd qSd_bytes qSd_channelCounts qSh qWd qWd_remainder qFd qFd_otherForms qFd_elements qWd_generator qFd_logs qFd_powers qCd qRw qRw_cells qMx qMx_bytes Wd_coefficients Wd_syndromes Wd_locator Sd_masterCount Sd_craft Sd_dataCount g22 Sd_channelCounts Sh_depth Sh_wordBytes Sh_e Sh_pattern Wd_remainder Fd_otherForms Fd_elements Wd_generator Fd_logs Fd_powers Cd_register Cd_put Rw_length Rw_cells Mx_bytes) H := hP
  have hD : va_D A (w_Sender_sendFrame cI cJ qSd qSd_bytes qSd_channelCounts qSh qWd qWd_remainder qFd qFd_otherForms qFd_elements qWd_generator qFd_logs qFd_powers qCd qRw qRw_cells qMx qMx_bytes Wd_coefficients Wd_syndromes Wd_locator Sd_masterCount Sd_craft Sd_dataCount g22 Sd_channelCounts Sh_depth Sh_wordBytes Sh_e Sh_pattern Wd_remainder Fd_otherForms Fd_elements Wd_generator Fd_logs Fd_powers Cd_register Cd_put Rw_length Rw_cells Mx_bytes) := hD
  refine lv_aload_n hx hb d_Sender_sendFrame_37 rfl (lv_at hl 2 rfl) ?_
  refine va_get (D := D) (ci := 7) (v := .ref qSd_bytes) (C := "DeepChannel$Sender") (T := fT_Sender) (N := 8) hx hb hts u_Sender hown hK hP 0 rfl rfl 3 (by decide) (hts _ k_248) (fun _ h9 => h9) rfl d_Sender_sendFrame_38 ?_
  refine lv_iload_n hx hb d_Sender_sendFrame_41 rfl (lv_at hl 1 rfl) ?_
  refine lv_iconst (v := (1 : Int32)) hx hb d_Sender_sendFrame_42 (by decide) ?_
  refine lv_iadd hx hb d_Sender_sendFrame_43 ?_
  refine lv_iload hx hb d_Sender_sendFrame_44 (lv_at hl 0 rfl) ?_
  refine lv_sipush (v := (255 : Int32)) hx hb d_Sender_sendFrame_46 (by decide) ?_
  refine lv_iand hx hb d_Sender_sendFrame_49 ?_
  refine z_iast hm hx hb hK hP hD hS 1 rfl d_Sender_sendFrame_50 (fun g23 hm H locs hP hD hS => ?_)
  have hP : va_P D classes (w_Sender_sendFrame cI cJ qSd qSd_bytes qSd_channelCounts qSh qWd qWd_remainder qFd qFd_otherForms qFd_elements qWd_generator qFd_logs qFd_powers qCd qRw qRw_cells qMx qMx_bytes Wd_coefficients Wd_syndromes Wd_locator Sd_masterCount Sd_craft Sd_dataCount g23 Sd_channelCounts Sh_depth Sh_wordBytes Sh_e Sh_pattern Wd_remainder Fd_otherForms Fd_elements Wd_generator Fd_logs Fd_powers Cd_register Cd_put Rw_length Rw_cells Mx_bytes) H := hP
  have hD : va_D A (w_Sender_sendFrame cI cJ qSd qSd_bytes qSd_channelCounts qSh qWd qWd_remainder qFd qFd_otherForms qFd_elements qWd_generator qFd_logs qFd_powers qCd qRw qRw_cells qMx qMx_bytes Wd_coefficients Wd_syndromes Wd_locator Sd_masterCount Sd_craft Sd_dataCount g23 Sd_channelCounts Sh_depth Sh_wordBytes Sh_e Sh_pattern Wd_remainder Fd_otherForms Fd_elements Wd_generator Fd_logs Fd_powers Cd_register Cd_put Rw_length Rw_cells Mx_bytes) := hD
  refine lv_aload_n hx hb d_Sender_sendFrame_51 rfl (lv_at hl 2 rfl) ?_
  refine va_get (D := D) (ci := 7) (v := .ref qWd) (C := "DeepChannel$Sender") (T := fT_Sender) (N := 8) hx hb hts u_Sender hown hK hP 0 rfl rfl 1 (by decide) (hts _ k_246) (fun _ h9 => h9) rfl d_Sender_sendFrame_52 ?_
  refine lv_aload_n hx hb d_Sender_sendFrame_55 rfl (lv_at hl 2 rfl) ?_
  refine va_get (D := D) (ci := 7) (v := .ref qSd_bytes) (C := "DeepChannel$Sender") (T := fT_Sender) (N := 8) hx hb hts u_Sender hown hK hP 0 rfl rfl 3 (by decide) (hts _ k_248) (fun _ h9 => h9) rfl d_Sender_sendFrame_56 ?_
  obtain ⟨⟨g24, g25⟩, hu, hm⟩ := bd_el hm
  replace hm := nm_2 hm
  refine z_cVv (wc := w_Words_addChecks cI cJ qWd qSh qWd_remainder qFd qFd_otherForms qSd_bytes qFd_elements qWd_generator qFd_logs qFd_powers Wd_coefficients Wd_syndromes Wd_locator (.int Sh_pattern) 250 Sh_depth Sh_wordBytes Sh_e Wd_remainder Fd_otherForms g23 Fd_elements Wd_generator Fd_logs Fd_powers) (wc' := w_Words_addChecks cI cJ qWd qSh qWd_remainder qFd qFd_otherForms qSd_bytes qFd_elements qWd_generator qFd_logs qFd_powers Wd_coefficients Wd_syndromes Wd_locator (.int Sh_pattern) 250 Sh_depth Sh_wordBytes Sh_e g24 Fd_otherForms g25 Fd_elements Wd_generator Fd_logs Fd_powers) (wr := [(qSd, .inr (7, [.ref qSh, .ref qWd, .ref qMx, .ref qSd_bytes, .ref qSd_channelCounts, .int Sd_masterCount, .int Sd_craft, .int Sd_dataCount])), (qSd_channelCounts, .inl (cI, 8, .inl Sd_channelCounts)), (qCd, .inr (1, [.ref qSh, .ref qRw, .int Cd_register, .int Cd_put])), (qRw, .inr (0, [.ref qRw_cells, .int Rw_length])), (qRw_cells, .inl (cJ, 64, .inr (.inl Rw_cells))), (qMx, .inr (4, [.ref qMx_bytes])), (qMx_bytes, .inl (cI, 250, .inl Mx_bytes))]) (As := [.ref qSd_bytes]) (rest := []) (c_Words_addChecks l D cI cJ tt qWd qSh qWd_remainder qFd qFd_otherForms qSd_bytes qFd_elements qWd_generator qFd_logs qFd_powers Wd_coefficients Wd_syndromes Wd_locator (.int Sh_pattern) 250 _ Sh_depth Sh_wordBytes Sh_e Wd_remainder Fd_otherForms g23 Fd_elements Wd_generator Fd_logs Fd_powers g24 g25 hu) F ok_Words_addChecks rfl k_620 hK hE hP hD hS hA [4, 3, 5, 6, 7, 1, 8, 9, 10, 11] [0, 2, 12, 13, 14, 15, 16] rfl rfl (by decide) (by decide) (by decide) 0 rfl rfl rfl ⟨rfl, rfl, Nat.le_of_ble_eq_true rfl, Nat.le_of_ble_eq_true rfl⟩ ⟨Nat.zero_le _, Nat.zero_le _⟩ rfl hl.1 rfl (Nat.le_of_ble_eq_true rfl) d_Sender_sendFrame_59 (fun H locs hP hD hS => ?_)
  have hP : va_P D classes (w_Sender_sendFrame cI cJ qSd qSd_bytes qSd_channelCounts qSh qWd qWd_remainder qFd qFd_otherForms qFd_elements qWd_generator qFd_logs qFd_powers qCd qRw qRw_cells qMx qMx_bytes Wd_coefficients Wd_syndromes Wd_locator Sd_masterCount Sd_craft Sd_dataCount g25 Sd_channelCounts Sh_depth Sh_wordBytes Sh_e Sh_pattern g24 Fd_otherForms Fd_elements Wd_generator Fd_logs Fd_powers Cd_register Cd_put Rw_length Rw_cells Mx_bytes) H := hP.sub [0, 12, 1, 8, 7, 9, 10, 11, 13, 14, 15, 16, 2, 3, 4, 5, 6] rfl
  have hD : va_D A (w_Sender_sendFrame cI cJ qSd qSd_bytes qSd_channelCounts qSh qWd qWd_remainder qFd qFd_otherForms qFd_elements qWd_generator qFd_logs qFd_powers qCd qRw qRw_cells qMx qMx_bytes Wd_coefficients Wd_syndromes Wd_locator Sd_masterCount Sd_craft Sd_dataCount g25 Sd_channelCounts Sh_depth Sh_wordBytes Sh_e Sh_pattern g24 Fd_otherForms Fd_elements Wd_generator Fd_logs Fd_powers Cd_register Cd_put Rw_length Rw_cells Mx_bytes) := hD.sub [0, 12, 1, 8, 7, 9, 10, 11, 13, 14, 15, 16, 2, 3, 4, 5, 6] (by decide) rfl
  refine lv_aload_n hx hb d_Sender_sendFrame_62 rfl (lv_at hl 4 rfl) ?_
  refine lv_ldc (v := (449838109 : Int32)) hx hb hown (hts _ k_636) d_Sender_sendFrame_63 ?_
  refine lv_bipush (v := (32 : Int32)) hx hb d_Sender_sendFrame_65 (by decide) ?_
  obtain ⟨⟨v27, v28, v29, g30⟩, hu, hm⟩ := bd_el hm
  replace hm := nm_4 hm
  refine z_cVv (wc := w_Coder_putBits cI cJ qCd qSh qRw qRw_cells (.int Sh_depth) (.int Sh_wordBytes) (.int Sh_e) Cd_register Cd_put Sh_pattern Rw_length Rw_cells) (wc' := w_Coder_putBits cI cJ qCd qSh qRw qRw_cells (.int Sh_depth) (.int Sh_wordBytes) (.int Sh_e) v27 v28 Sh_pattern v29 g30) (wr := [(qSd, .inr (7, [.ref qSh, .ref qWd, .ref qMx, .ref qSd_bytes, .ref qSd_channelCounts, .int Sd_masterCount, .int Sd_craft, .int Sd_dataCount])), (qSd_bytes, .inl (cI, 250, .inl g25)), (qSd_channelCounts, .inl (cI, 8, .inl Sd_channelCounts)), (qWd, .inr (9, [.ref qSh, .ref qFd, .ref qWd_generator, .ref qWd_remainder, Wd_coefficients, Wd_syndromes, Wd_locator])), (qWd_remainder, .inl (cI, 32, .inl g24)), (qFd, .inr (2, [.ref qFd_powers, .ref qFd_logs, .ref qFd_otherForms, .ref qFd_elements])), (qFd_otherForms, .inl (cI, 256, .inl Fd_otherForms)), (qFd_elements, .inl (cI, 256, .inl Fd_elements)), (qWd_generator, .inl (cI, 33, .inl Wd_generator)), (qFd_logs, .inl (cI, 256, .inl Fd_logs)), (qFd_powers, .inl (cI, 255, .inl Fd_powers)), (qMx, .inr (4, [.ref qMx_bytes])), (qMx_bytes, .inl (cI, 250, .inl Mx_bytes))]) (As := [.int (449838109 : Int32), .int (32 : Int32)]) (rest := []) (c_Coder_putBits l D cI cJ tt qCd qSh qRw qRw_cells (.int Sh_depth) (.int Sh_wordBytes) (.int Sh_e) _ Cd_register Cd_put Sh_pattern Rw_length Rw_cells (449838109 : Int32) (32 : Int32) v27 v28 v29 g30 hu) F ok_Coder_putBits rfl k_637 hK hE hP hD hS hA [12, 3, 13, 14] [0, 1, 2, 4, 5, 6, 7, 8, 9, 10, 11, 15, 16] rfl rfl (by decide) (by decide) (by decide) 0 rfl rfl rfl ⟨rfl, rfl, Nat.le_of_ble_eq_true rfl, Nat.le_of_ble_eq_true rfl⟩ ⟨Nat.zero_le _, Nat.zero_le _⟩ rfl hl.1 rfl (Nat.le_of_ble_eq_true rfl) d_Sender_sendFrame_67 (fun H locs hP hD hS => ?_)
  have hP : va_P D classes (w_Sender_sendFrame cI cJ qSd qSd_bytes qSd_channelCounts qSh qWd qWd_remainder qFd qFd_otherForms qFd_elements qWd_generator qFd_logs qFd_powers qCd qRw qRw_cells qMx qMx_bytes Wd_coefficients Wd_syndromes Wd_locator Sd_masterCount Sd_craft Sd_dataCount g25 Sd_channelCounts Sh_depth Sh_wordBytes Sh_e Sh_pattern g24 Fd_otherForms Fd_elements Wd_generator Fd_logs Fd_powers v27 v28 v29 g30 Mx_bytes) H := hP.sub [0, 1, 2, 14, 3, 4, 5, 6, 7, 8, 9, 10, 13, 15, 16, 11, 12] rfl
  have hD : va_D A (w_Sender_sendFrame cI cJ qSd qSd_bytes qSd_channelCounts qSh qWd qWd_remainder qFd qFd_otherForms qFd_elements qWd_generator qFd_logs qFd_powers qCd qRw qRw_cells qMx qMx_bytes Wd_coefficients Wd_syndromes Wd_locator Sd_masterCount Sd_craft Sd_dataCount g25 Sd_channelCounts Sh_depth Sh_wordBytes Sh_e Sh_pattern g24 Fd_otherForms Fd_elements Wd_generator Fd_logs Fd_powers v27 v28 v29 g30 Mx_bytes) := hD.sub [0, 1, 2, 14, 3, 4, 5, 6, 7, 8, 9, 10, 13, 15, 16, 11, 12] (by decide) rfl
  refine lv_iconst (v := (0 : Int32)) hx hb d_Sender_sendFrame_70 (by decide) ?_
  refine lv_istore (lv' := [(5, .int (0 : Int32)), (4, .int r20), (3, .int v19), (0, .ref qSd), (1, .int x1), (2, .ref qCd)]) hx hb d_Sender_sendFrame_71 hl (by decide) rfl (fun ls hl => ?_)
  exact T73 10000 x1 (0 : Int32) Sd_masterCount Sd_dataCount g25 Sd_channelCounts g24 v27 v28 v29 g30 hm _ _ hP hD hS _ (lv_sub hl [3, 4, 5, 0] rfl)
