-- DeepChannel$Receiver.unmix(II)V
abbrev b_Receiver_unmix : ByteArray := prog_8_method_14_code
abbrev y_Receiver_unmix : MethodName := ⟨"DeepChannel$Receiver", "unmix", "(II)V"⟩
theorem d_Receiver_unmix_0 : decode b_Receiver_unmix 0 = .ok (.iconst 0, 1) := by decide +kernel
theorem d_Receiver_unmix_1 : decode b_Receiver_unmix 1 = .ok (.istore_n 3, 1) := by decide +kernel
theorem d_Receiver_unmix_2 : decode b_Receiver_unmix 2 = .ok (.iload_n 3, 1) := by decide +kernel
theorem d_Receiver_unmix_3 : decode b_Receiver_unmix 3 = .ok (.aload_n 0, 1) := by decide +kernel
theorem d_Receiver_unmix_4 : decode b_Receiver_unmix 4 = .ok (.getfield 48, 3) := by decide +kernel
theorem d_Receiver_unmix_7 : decode b_Receiver_unmix 7 = .ok (.invokevirtual 79, 3) := by decide +kernel
theorem d_Receiver_unmix_10 : decode b_Receiver_unmix 10 = .ok (.if_icmp .ge 44, 3) := by decide +kernel
theorem d_Receiver_unmix_13 : decode b_Receiver_unmix 13 = .ok (.aload_n 0, 1) := by decide +kernel
theorem d_Receiver_unmix_14 : decode b_Receiver_unmix 14 = .ok (.getfield 25, 3) := by decide +kernel
theorem d_Receiver_unmix_17 : decode b_Receiver_unmix 17 = .ok (.iload_n 2, 1) := by decide +kernel
theorem d_Receiver_unmix_18 : decode b_Receiver_unmix 18 = .ok (.iload_n 3, 1) := by decide +kernel
theorem d_Receiver_unmix_19 : decode b_Receiver_unmix 19 = .ok (.iadd, 1) := by decide +kernel
theorem d_Receiver_unmix_20 : decode b_Receiver_unmix 20 = .ok (.aload_n 0, 1) := by decide +kernel
theorem d_Receiver_unmix_21 : decode b_Receiver_unmix 21 = .ok (.getfield 21, 3) := by decide +kernel
theorem d_Receiver_unmix_24 : decode b_Receiver_unmix 24 = .ok (.iload_n 1, 1) := by decide +kernel
theorem d_Receiver_unmix_25 : decode b_Receiver_unmix 25 = .ok (.bipush 8, 2) := by decide +kernel
theorem d_Receiver_unmix_27 : decode b_Receiver_unmix 27 = .ok (.iload_n 3, 1) := by decide +kernel
theorem d_Receiver_unmix_28 : decode b_Receiver_unmix 28 = .ok (.imul, 1) := by decide +kernel
theorem d_Receiver_unmix_29 : decode b_Receiver_unmix 29 = .ok (.iadd, 1) := by decide +kernel
theorem d_Receiver_unmix_30 : decode b_Receiver_unmix 30 = .ok (.invokevirtual 67, 3) := by decide +kernel
theorem d_Receiver_unmix_33 : decode b_Receiver_unmix 33 = .ok (.bipush 8, 2) := by decide +kernel
theorem d_Receiver_unmix_35 : decode b_Receiver_unmix 35 = .ok (.invokestatic 91, 3) := by decide +kernel
theorem d_Receiver_unmix_38 : decode b_Receiver_unmix 38 = .ok (.aload_n 0, 1) := by decide +kernel
theorem d_Receiver_unmix_39 : decode b_Receiver_unmix 39 = .ok (.getfield 56, 3) := by decide +kernel
theorem d_Receiver_unmix_42 : decode b_Receiver_unmix 42 = .ok (.iload_n 3, 1) := by decide +kernel
theorem d_Receiver_unmix_43 : decode b_Receiver_unmix 43 = .ok (.invokevirtual 125, 3) := by decide +kernel
theorem d_Receiver_unmix_46 : decode b_Receiver_unmix 46 = .ok (.ixor, 1) := by decide +kernel
theorem d_Receiver_unmix_47 : decode b_Receiver_unmix 47 = .ok (.iastore, 1) := by decide +kernel
theorem d_Receiver_unmix_48 : decode b_Receiver_unmix 48 = .ok (.iinc 3 1, 3) := by decide +kernel
theorem d_Receiver_unmix_51 : decode b_Receiver_unmix 51 = .ok (.goto (-49), 3) := by decide +kernel
theorem d_Receiver_unmix_54 : decode b_Receiver_unmix 54 = .ok (.return_, 1) := by decide +kernel
theorem ok_Receiver_unmix : OKv y_Receiver_unmix b_Receiver_unmix 4 none "DeepChannel$Receiver" 2 := ⟨k_748, k_747, k_8, k_53, by decide +kernel, by decide +kernel, by decide +kernel⟩
abbrev w_Receiver_unmix (cI cJ : ClassId) (qRc qSh qFo qFo_cells qMx qMx_bytes qRc_bytes : Nat) (Rc_words Rc_nearest Rc_facts Rc_putRight Rc_lastOfChannel Rc_lastMaster Rc_differing Rc_taken Sh_e Sh_pattern Fo_length : Value) (Sh_depth : Int32) (Sh_wordBytes : Int32) (Fo_cells : Nat → Int64) (Mx_bytes : Nat → Int32) (Rc_bytes : Nat → Int32) : va_W := [(qRc, .inr (6, [.ref qSh, Rc_words, .ref qMx, Rc_nearest, .ref qFo, .ref qRc_bytes, Rc_facts, Rc_putRight, Rc_lastOfChannel, Rc_lastMaster, Rc_differing, Rc_taken])), (qSh, .inr (8, [.int Sh_depth, .int Sh_wordBytes, Sh_e, Sh_pattern])), (qFo, .inr (0, [.ref qFo_cells, Fo_length])), (qFo_cells, .inl (cJ, 64, .inr (.inl Fo_cells))), (qMx, .inr (4, [.ref qMx_bytes])), (qMx_bytes, .inl (cI, 250, .inl Mx_bytes)), (qRc_bytes, .inl (cI, 512, .inl Rc_bytes))]
def f_Receiver_unmix_2_b (Sh_depth : Int32) (Sh_wordBytes : Int32) (Fo_cells : Nat → Int64) (Mx_bytes : Nat → Int32) (kh2 : Int32 → Int32 → Int32 → (Nat → Int32) → Option ((Nat → Int32))) (x1 : Int32) (x2 : Int32) (x3 : Int32) (Rc_bytes : Nat → Int32) : Option ((Nat → Int32)) :=
  bd (f_Shape_blockBytes Sh_depth Sh_wordBytes) fun u2 =>
  nm u2 fun r1 =>
  if r1 ≤ x3 then
    some Rc_bytes
  else
  bd (f_BitRow_window Fo_cells (x1 + ((8 : Int32) * x3))) fun u4 =>
  nm u4 fun r3 =>
  bd (f_DC_mirrored r3 (8 : Int32)) fun u6 =>
  nm u6 fun r5 =>
  bd (f_Mixer_at Mx_bytes x3) fun u8 =>
  nm u8 fun r7 =>
  wrI Rc_bytes 512 (x2 + x3) (r5 ^^^ r7) fun g9 =>
  nm (x3 + (1 : Int32)) fun v10 =>
  kh2 x1 x2 v10 g9
def f_Receiver_unmix_2 (Sh_depth : Int32) (Sh_wordBytes : Int32) (Fo_cells : Nat → Int64) (Mx_bytes : Nat → Int32) : Nat → Int32 → Int32 → Int32 → (Nat → Int32) → Option ((Nat → Int32))
  | 0 => fun _ _ _ _ => none
  | n + 1 => fun x1 x2 x3 Rc_bytes => f_Receiver_unmix_2_b Sh_depth Sh_wordBytes Fo_cells Mx_bytes (f_Receiver_unmix_2 Sh_depth Sh_wordBytes Fo_cells Mx_bytes n) x1 x2 x3 Rc_bytes
def f_Receiver_unmix (Sh_depth : Int32) (Sh_wordBytes : Int32) (Fo_cells : Nat → Int64) (Mx_bytes : Nat → Int32) (Rc_bytes : Nat → Int32) (x1 : Int32) (x2 : Int32) : Option ((Nat → Int32)) :=
  f_Receiver_unmix_2 Sh_depth Sh_wordBytes Fo_cells Mx_bytes 10000 x1 x2 (0 : Int32) Rc_bytes
set_option maxHeartbeats 4000000 in
set_option maxRecDepth 100000 in
theorem c_Receiver_unmix (l : Launch) (D : va_G) (cI cJ : ClassId) (tt : Nat → Nat) (qRc qSh qFo qFo_cells qMx qMx_bytes qRc_bytes : Nat) (Rc_words Rc_nearest Rc_facts Rc_putRight Rc_lastOfChannel Rc_lastMaster Rc_differing Rc_taken Sh_e Sh_pattern Fo_length : Value) (sz : Nat) (Sh_depth : Int32) (Sh_wordBytes : Int32) (Fo_cells : Nat → Int64) (Mx_bytes : Nat → Int32) (Rc_bytes : Nat → Int32) (x1 : Int32) (x2 : Int32) (Rc_bytes' : Nat → Int32) (hm : f_Receiver_unmix Sh_depth Sh_wordBytes Fo_cells Mx_bytes Rc_bytes x1 x2 = some Rc_bytes') : CTv l y_Receiver_unmix b_Receiver_unmix 4 none (RM 2 46) D cI cJ tt [.ref qRc, .int x1, .int x2] (w_Receiver_unmix cI cJ qRc qSh qFo qFo_cells qMx qMx_bytes qRc_bytes Rc_words Rc_nearest Rc_facts Rc_putRight Rc_lastOfChannel Rc_lastMaster Rc_differing Rc_taken Sh_e Sh_pattern Fo_length Sh_depth Sh_wordBytes Fo_cells Mx_bytes Rc_bytes) (w_Receiver_unmix cI cJ qRc qSh qFo qFo_cells qMx qMx_bytes qRc_bytes Rc_words Rc_nearest Rc_facts Rc_putRight Rc_lastOfChannel Rc_lastMaster Rc_differing Rc_taken Sh_e Sh_pattern Fo_length Sh_depth Sh_wordBytes Fo_cells Mx_bytes Rc_bytes') sz := by
  refine Met.ofW (cc := b_Receiver_unmix) (maxL := 4) (ret := none) (by decide) rfl ?_
  intro p e s m args below meth c s₁ B hml hv
  obtain ⟨hargs, hsz, hP, hK, hD0, hE⟩ := hv
  have hx := B.exec
  have hb := B.bytes
  have hr := B.returns
  have hts : ∀ w ∈ TB, w.before args s = true := z_mV s (atoms_spec (ws := WD y_Receiver_unmix b_Receiver_unmix 4 none) B.pre)
  have hown : s.vm.findClass "DeepChannel$Receiver" = some m.cls := findClass_of_methodNamed B.named
  have hlocks := B.notSynchronized
  subst hsz
  have hD := hD0.self (sz := s.heap.size)
  generalize hAe : va_A (w_Receiver_unmix cI cJ qRc qSh qFo qFo_cells qMx qMx_bytes qRc_bytes Rc_words Rc_nearest Rc_facts Rc_putRight Rc_lastOfChannel Rc_lastMaster Rc_differing Rc_taken Sh_e Sh_pattern Fo_length Sh_depth Sh_wordBytes Fo_cells Mx_bytes Rc_bytes) s.heap.size = A at hD hE ⊢
  have hA : ∀ q : Nat, s.heap.size ≤ q → A q := fun q h => by rw [← hAe]; exact Or.inr h
  have hS : va_S A s.heap s.heap [] := va_S.rf
  refine z_entry (vs := [.ref qRc, .int x1, .int x2]) hargs (Nat.le_of_ble_eq_true rfl) (fun ls hl => ?_)
  have hl : lv_has ls 4 [(0, .ref qRc), (1, .int x1), (2, .int x2)] := hl
  show W p l e (RM 2 46) s m args below meth c s.heap [] 0 0 _ _
  refine z_qi (fun Q0 hQ => ?_)
  have F : CallFix p m c b_Receiver_unmix 4 s args TB "DeepChannel$Receiver" := ⟨hx, hb, hml, hown, hts⟩
  have T2 : ∀ (n2 : Nat) (x1 : Int32) (x2 : Int32) (x3 : Int32) (Rc_bytes : Nat → Int32), f_Receiver_unmix_2 Sh_depth Sh_wordBytes Fo_cells Mx_bytes n2 x1 x2 x3 Rc_bytes = some Rc_bytes' → ∀ (H : Heap) (locs : List Loc), va_P D classes (w_Receiver_unmix cI cJ qRc qSh qFo qFo_cells qMx qMx_bytes qRc_bytes Rc_words Rc_nearest Rc_facts Rc_putRight Rc_lastOfChannel Rc_lastMaster Rc_differing Rc_taken Sh_e Sh_pattern Fo_length Sh_depth Sh_wordBytes Fo_cells Mx_bytes Rc_bytes) H → va_D A (w_Receiver_unmix cI cJ qRc qSh qFo qFo_cells qMx qMx_bytes qRc_bytes Rc_words Rc_nearest Rc_facts Rc_putRight Rc_lastOfChannel Rc_lastMaster Rc_differing Rc_taken Sh_e Sh_pattern Fo_length Sh_depth Sh_wordBytes Fo_cells Mx_bytes Rc_bytes) → va_S A s.heap H locs → ∀ (ls : Array Slot), lv_has ls 4 [(0, .ref qRc), (1, .int x1), (2, .int x2), (3, .int x3)] → W p l e (RM 2 46) s m args below meth c H locs 0 0 Q0 (F0 m 2 ls []) := by
    intro n2
    induction n2 with
    | zero => intro x1 x2 x3 Rc_bytes hm; cases hm
    | succ n2 ih2 =>
      intro x1 x2 x3 Rc_bytes hm H locs hP hD hS ls hl
      replace hm : f_Receiver_unmix_2_b Sh_depth Sh_wordBytes Fo_cells Mx_bytes (f_Receiver_unmix_2 Sh_depth Sh_wordBytes Fo_cells Mx_bytes n2) x1 x2 x3 Rc_bytes = some Rc_bytes' := hm
      unfold f_Receiver_unmix_2_b at hm
      refine lv_iload_n hx hb d_Receiver_unmix_2 rfl (lv_at hl 3 rfl) ?_
      refine lv_aload_n hx hb d_Receiver_unmix_3 rfl (lv_at hl 0 rfl) ?_
      refine va_get (D := D) (ci := 6) (v := .ref qSh) (C := "DeepChannel$Receiver") (T := fT_Receiver) (N := 12) hx hb hts u_Receiver hown hK hP 0 rfl rfl 0 (by decide) (hts _ k_304) (fun _ h9 => h9) rfl d_Receiver_unmix_4 ?_
      obtain ⟨r1, hu, hm⟩ := bd_el hm
      replace hm := nm_1 hm
      refine z_cVi (wc := w_Shape_blockBytes cI cJ qSh Sh_e Sh_pattern Sh_depth Sh_wordBytes) (wc' := w_Shape_blockBytes cI cJ qSh Sh_e Sh_pattern Sh_depth Sh_wordBytes) (wr := [(qRc, .inr (6, [.ref qSh, Rc_words, .ref qMx, Rc_nearest, .ref qFo, .ref qRc_bytes, Rc_facts, Rc_putRight, Rc_lastOfChannel, Rc_lastMaster, Rc_differing, Rc_taken])), (qFo, .inr (0, [.ref qFo_cells, Fo_length])), (qFo_cells, .inl (cJ, 64, .inr (.inl Fo_cells))), (qMx, .inr (4, [.ref qMx_bytes])), (qMx_bytes, .inl (cI, 250, .inl Mx_bytes)), (qRc_bytes, .inl (cI, 512, .inl Rc_bytes))]) (As := []) (rest := [.int x3]) (c_Shape_blockBytes l D cI cJ tt qSh Sh_e Sh_pattern _ Sh_depth Sh_wordBytes r1 hu) F ok_Shape_blockBytes rfl k_726 hK hE hP hD hS hA [1] [0, 2, 3, 4, 5, 6] rfl rfl (by decide) (by decide) (by decide) 0 rfl rfl rfl ⟨rfl, rfl, Nat.le_of_ble_eq_true rfl, Nat.le_of_ble_eq_true rfl⟩ ⟨Nat.zero_le _, Nat.zero_le _⟩ rfl hl.1 rfl (Nat.le_of_ble_eq_true rfl) d_Receiver_unmix_7 (fun H locs hP hD hS => ?_)
      have hP : va_P D classes (w_Receiver_unmix cI cJ qRc qSh qFo qFo_cells qMx qMx_bytes qRc_bytes Rc_words Rc_nearest Rc_facts Rc_putRight Rc_lastOfChannel Rc_lastMaster Rc_differing Rc_taken Sh_e Sh_pattern Fo_length Sh_depth Sh_wordBytes Fo_cells Mx_bytes Rc_bytes) H := hP.sub [0, 6, 1, 2, 3, 4, 5] rfl
      have hD : va_D A (w_Receiver_unmix cI cJ qRc qSh qFo qFo_cells qMx qMx_bytes qRc_bytes Rc_words Rc_nearest Rc_facts Rc_putRight Rc_lastOfChannel Rc_lastMaster Rc_differing Rc_taken Sh_e Sh_pattern Fo_length Sh_depth Sh_wordBytes Fo_cells Mx_bytes Rc_bytes) := hD.sub [0, 6, 1, 2, 3, 4, 5] (by decide) rfl
      refine z_if hm (lv_icmp_ge (tgt := 54) hx hb d_Receiver_unmix_10 (by decide)) (fun hm => ?_) (fun hm => ?_)
      · cases hm
        exact z_qo hQ (z_vret hr hx hb hlocks hK hP hD hS d_Receiver_unmix_54)
      · refine lv_aload_n hx hb d_Receiver_unmix_13 rfl (lv_at hl 0 rfl) ?_
        refine va_get (D := D) (ci := 6) (v := .ref qRc_bytes) (C := "DeepChannel$Receiver") (T := fT_Receiver) (N := 12) hx hb hts u_Receiver hown hK hP 0 rfl rfl 5 (by decide) (hts _ k_309) (fun _ h9 => h9) rfl d_Receiver_unmix_14 ?_
        refine lv_iload_n hx hb d_Receiver_unmix_17 rfl (lv_at hl 2 rfl) ?_
        refine lv_iload_n hx hb d_Receiver_unmix_18 rfl (lv_at hl 3 rfl) ?_
        refine lv_iadd hx hb d_Receiver_unmix_19 ?_
        refine lv_aload_n hx hb d_Receiver_unmix_20 rfl (lv_at hl 0 rfl) ?_
        refine va_get (D := D) (ci := 6) (v := .ref qFo) (C := "DeepChannel$Receiver") (T := fT_Receiver) (N := 12) hx hb hts u_Receiver hown hK hP 0 rfl rfl 4 (by decide) (hts _ k_308) (fun _ h9 => h9) rfl d_Receiver_unmix_21 ?_
        refine lv_iload_n hx hb d_Receiver_unmix_24 rfl (lv_at hl 1 rfl) ?_
        refine lv_bipush (v := (8 : Int32)) hx hb d_Receiver_unmix_25 (by decide) ?_
        refine lv_iload_n hx hb d_Receiver_unmix_27 rfl (lv_at hl 3 rfl) ?_
        refine lv_imul hx hb d_Receiver_unmix_28 ?_
        refine lv_iadd hx hb d_Receiver_unmix_29 ?_
        obtain ⟨r3, hu, hm⟩ := bd_el hm
        replace hm := nm_1 hm
        refine z_cVl (wc := w_BitRow_window cI cJ qFo qFo_cells Fo_length Fo_cells) (wc' := w_BitRow_window cI cJ qFo qFo_cells Fo_length Fo_cells) (wr := [(qRc, .inr (6, [.ref qSh, Rc_words, .ref qMx, Rc_nearest, .ref qFo, .ref qRc_bytes, Rc_facts, Rc_putRight, Rc_lastOfChannel, Rc_lastMaster, Rc_differing, Rc_taken])), (qSh, .inr (8, [.int Sh_depth, .int Sh_wordBytes, Sh_e, Sh_pattern])), (qMx, .inr (4, [.ref qMx_bytes])), (qMx_bytes, .inl (cI, 250, .inl Mx_bytes)), (qRc_bytes, .inl (cI, 512, .inl Rc_bytes))]) (As := [.int (x1 + ((8 : Int32) * x3))]) (rest := [.int (x2 + x3), .ref qRc_bytes]) (c_BitRow_window l D cI cJ tt qFo qFo_cells Fo_length _ Fo_cells (x1 + ((8 : Int32) * x3)) r3 hu) F ok_BitRow_window rfl k_392 hK hE hP hD hS hA [2, 3] [0, 1, 4, 5, 6] rfl rfl (by decide) (by decide) (by decide) 0 rfl rfl rfl ⟨rfl, rfl, Nat.le_of_ble_eq_true rfl, Nat.le_of_ble_eq_true rfl⟩ ⟨Nat.zero_le _, Nat.zero_le _⟩ rfl hl.1 rfl (Nat.le_of_ble_eq_true rfl) d_Receiver_unmix_30 (fun H locs hP hD hS => ?_)
        have hP : va_P D classes (w_Receiver_unmix cI cJ qRc qSh qFo qFo_cells qMx qMx_bytes qRc_bytes Rc_words Rc_nearest Rc_facts Rc_putRight Rc_lastOfChannel Rc_lastMaster Rc_differing Rc_taken Sh_e Sh_pattern Fo_length Sh_depth Sh_wordBytes Fo_cells Mx_bytes Rc_bytes) H := hP.sub [0, 1, 5, 6, 2, 3, 4] rfl
        have hD : va_D A (w_Receiver_unmix cI cJ qRc qSh qFo qFo_cells qMx qMx_bytes qRc_bytes Rc_words Rc_nearest Rc_facts Rc_putRight Rc_lastOfChannel Rc_lastMaster Rc_differing Rc_taken Sh_e Sh_pattern Fo_length Sh_depth Sh_wordBytes Fo_cells Mx_bytes Rc_bytes) := hD.sub [0, 1, 5, 6, 2, 3, 4] (by decide) rfl
        refine lv_bipush (v := (8 : Int32)) hx hb d_Receiver_unmix_33 (by decide) ?_
        obtain ⟨r5, hu, hm⟩ := bd_el hm
        replace hm := nm_1 hm
        refine z_cNSi (wc := w_DC_mirrored) (wc' := w_DC_mirrored) (wr := [(qRc, .inr (6, [.ref qSh, Rc_words, .ref qMx, Rc_nearest, .ref qFo, .ref qRc_bytes, Rc_facts, Rc_putRight, Rc_lastOfChannel, Rc_lastMaster, Rc_differing, Rc_taken])), (qSh, .inr (8, [.int Sh_depth, .int Sh_wordBytes, Sh_e, Sh_pattern])), (qFo, .inr (0, [.ref qFo_cells, Fo_length])), (qFo_cells, .inl (cJ, 64, .inr (.inl Fo_cells))), (qMx, .inr (4, [.ref qMx_bytes])), (qMx_bytes, .inl (cI, 250, .inl Mx_bytes)), (qRc_bytes, .inl (cI, 512, .inl Rc_bytes))]) (As := [.long r3, .int (8 : Int32)]) (rest := [.int (x2 + x3), .ref qRc_bytes]) (c_DC_mirrored l D cI cJ tt _ r3 (8 : Int32) r5 hu) F ok_DC_mirrored (hE.1 _ (List.mem_of_getElem? (i := 10) rfl)) hK hE hP hD hS hA [] [0, 1, 2, 3, 4, 5, 6] rfl rfl (by decide) (by decide) (by decide) ⟨rfl, rfl, Nat.le_of_ble_eq_true rfl, Nat.le_of_ble_eq_true rfl⟩ ⟨Nat.zero_le _, Nat.zero_le _⟩ rfl hl.1 rfl (Nat.le_of_ble_eq_true rfl) d_Receiver_unmix_35 (fun H locs hP hD hS => ?_)
        have hP : va_P D classes (w_Receiver_unmix cI cJ qRc qSh qFo qFo_cells qMx qMx_bytes qRc_bytes Rc_words Rc_nearest Rc_facts Rc_putRight Rc_lastOfChannel Rc_lastMaster Rc_differing Rc_taken Sh_e Sh_pattern Fo_length Sh_depth Sh_wordBytes Fo_cells Mx_bytes Rc_bytes) H := hP.sub [0, 1, 2, 3, 4, 5, 6] rfl
        have hD : va_D A (w_Receiver_unmix cI cJ qRc qSh qFo qFo_cells qMx qMx_bytes qRc_bytes Rc_words Rc_nearest Rc_facts Rc_putRight Rc_lastOfChannel Rc_lastMaster Rc_differing Rc_taken Sh_e Sh_pattern Fo_length Sh_depth Sh_wordBytes Fo_cells Mx_bytes Rc_bytes) := hD.sub [0, 1, 2, 3, 4, 5, 6] (by decide) rfl
        refine lv_aload_n hx hb d_Receiver_unmix_38 rfl (lv_at hl 0 rfl) ?_
        refine va_get (D := D) (ci := 6) (v := .ref qMx) (C := "DeepChannel$Receiver") (T := fT_Receiver) (N := 12) hx hb hts u_Receiver hown hK hP 0 rfl rfl 2 (by decide) (hts _ k_306) (fun _ h9 => h9) rfl d_Receiver_unmix_39 ?_
        refine lv_iload_n hx hb d_Receiver_unmix_42 rfl (lv_at hl 3 rfl) ?_
        obtain ⟨r7, hu, hm⟩ := bd_el hm
        replace hm := nm_1 hm
        refine z_cVi (wc := w_Mixer_at cI cJ qMx qMx_bytes Mx_bytes) (wc' := w_Mixer_at cI cJ qMx qMx_bytes Mx_bytes) (wr := [(qRc, .inr (6, [.ref qSh, Rc_words, .ref qMx, Rc_nearest, .ref qFo, .ref qRc_bytes, Rc_facts, Rc_putRight, Rc_lastOfChannel, Rc_lastMaster, Rc_differing, Rc_taken])), (qSh, .inr (8, [.int Sh_depth, .int Sh_wordBytes, Sh_e, Sh_pattern])), (qFo, .inr (0, [.ref qFo_cells, Fo_length])), (qFo_cells, .inl (cJ, 64, .inr (.inl Fo_cells))), (qRc_bytes, .inl (cI, 512, .inl Rc_bytes))]) (As := [.int x3]) (rest := [.int r5, .int (x2 + x3), .ref qRc_bytes]) (c_Mixer_at l D cI cJ tt qMx qMx_bytes _ Mx_bytes x3 r7 hu) F ok_Mixer_at rfl k_749 hK hE hP hD hS hA [4, 5] [0, 1, 2, 3, 6] rfl rfl (by decide) (by decide) (by decide) 0 rfl rfl rfl ⟨rfl, rfl, Nat.le_of_ble_eq_true rfl, Nat.le_of_ble_eq_true rfl⟩ ⟨Nat.zero_le _, Nat.zero_le _⟩ rfl hl.1 rfl (Nat.le_of_ble_eq_true rfl) d_Receiver_unmix_43 (fun H locs hP hD hS => ?_)
        have hP : va_P D classes (w_Receiver_unmix cI cJ qRc qSh qFo qFo_cells qMx qMx_bytes qRc_bytes Rc_words Rc_nearest Rc_facts Rc_putRight Rc_lastOfChannel Rc_lastMaster Rc_differing Rc_taken Sh_e Sh_pattern Fo_length Sh_depth Sh_wordBytes Fo_cells Mx_bytes Rc_bytes) H := hP.sub [0, 1, 2, 3, 5, 6, 4] rfl
        have hD : va_D A (w_Receiver_unmix cI cJ qRc qSh qFo qFo_cells qMx qMx_bytes qRc_bytes Rc_words Rc_nearest Rc_facts Rc_putRight Rc_lastOfChannel Rc_lastMaster Rc_differing Rc_taken Sh_e Sh_pattern Fo_length Sh_depth Sh_wordBytes Fo_cells Mx_bytes Rc_bytes) := hD.sub [0, 1, 2, 3, 5, 6, 4] (by decide) rfl
        refine lv_ixor hx hb d_Receiver_unmix_46 ?_
        refine z_iast hm hx hb hK hP hD hS 6 rfl d_Receiver_unmix_47 (fun g9 hm H locs hP hD hS => ?_)
        have hP : va_P D classes (w_Receiver_unmix cI cJ qRc qSh qFo qFo_cells qMx qMx_bytes qRc_bytes Rc_words Rc_nearest Rc_facts Rc_putRight Rc_lastOfChannel Rc_lastMaster Rc_differing Rc_taken Sh_e Sh_pattern Fo_length Sh_depth Sh_wordBytes Fo_cells Mx_bytes g9) H := hP
        have hD : va_D A (w_Receiver_unmix cI cJ qRc qSh qFo qFo_cells qMx qMx_bytes qRc_bytes Rc_words Rc_nearest Rc_facts Rc_putRight Rc_lastOfChannel Rc_lastMaster Rc_differing Rc_taken Sh_e Sh_pattern Fo_length Sh_depth Sh_wordBytes Fo_cells Mx_bytes g9) := hD
        obtain ⟨v10, ev, hm⟩ := nm_el hm
        refine lv_iinc (v := v10) (lv' := [(3, .int v10), (0, .ref qRc), (1, .int x1), (2, .int x2)]) hx hb d_Receiver_unmix_48 hl (k := 3) rfl (by rw [ev]; rfl) (by decide) rfl (fun ls hl => ?_)
        refine lv_goto (tgt := 2) hx hb d_Receiver_unmix_51 (by decide) ?_
        exact ih2 x1 x2 v10 g9 hm _ _ hP hD hS _ (lv_sub hl [1, 2, 3, 0] rfl)
  unfold f_Receiver_unmix at hm
  refine lv_iconst (v := (0 : Int32)) hx hb d_Receiver_unmix_0 (by decide) ?_
  refine lv_istore_n (lv' := [(3, .int (0 : Int32)), (0, .ref qRc), (1, .int x1), (2, .int x2)]) hx hb d_Receiver_unmix_1 rfl hl (by decide) rfl (fun ls hl => ?_)
  exact T2 10000 x1 x2 (0 : Int32) Rc_bytes hm _ _ hP hD hS _ (lv_sub hl [1, 2, 3, 0] rfl)
-- DeepChannel$Receiver.putWordsRight(II)V
abbrev b_Receiver_putWordsRight : ByteArray := prog_8_method_16_code
abbrev y_Receiver_putWordsRight : MethodName := ⟨"DeepChannel$Receiver", "putWordsRight", "(II)V"⟩
theorem d_Receiver_putWordsRight_0 : decode b_Receiver_putWordsRight 0 = .ok (.iconst 0, 1) := by decide +kernel
theorem d_Receiver_putWordsRight_1 : decode b_Receiver_putWordsRight 1 = .ok (.istore_n 3, 1) := by decide +kernel
theorem d_Receiver_putWordsRight_2 : decode b_Receiver_putWordsRight 2 = .ok (.iconst 0, 1) := by decide +kernel
theorem d_Receiver_putWordsRight_3 : decode b_Receiver_putWordsRight 3 = .ok (.istore 4, 2) := by decide +kernel
theorem d_Receiver_putWordsRight_5 : decode b_Receiver_putWordsRight 5 = .ok (.iconst 0, 1) := by decide +kernel
theorem d_Receiver_putWordsRight_6 : decode b_Receiver_putWordsRight 6 = .ok (.istore 5, 2) := by decide +kernel
theorem d_Receiver_putWordsRight_8 : decode b_Receiver_putWordsRight 8 = .ok (.iload 5, 2) := by decide +kernel
theorem d_Receiver_putWordsRight_10 : decode b_Receiver_putWordsRight 10 = .ok (.aload_n 0, 1) := by decide +kernel
theorem d_Receiver_putWordsRight_11 : decode b_Receiver_putWordsRight 11 = .ok (.getfield 48, 3) := by decide +kernel
theorem d_Receiver_putWordsRight_14 : decode b_Receiver_putWordsRight 14 = .ok (.getfield 71, 3) := by decide +kernel
theorem d_Receiver_putWordsRight_17 : decode b_Receiver_putWordsRight 17 = .ok (.if_icmp .ge 58, 3) := by decide +kernel
theorem d_Receiver_putWordsRight_20 : decode b_Receiver_putWordsRight 20 = .ok (.aload_n 0, 1) := by decide +kernel
theorem d_Receiver_putWordsRight_21 : decode b_Receiver_putWordsRight 21 = .ok (.getfield 52, 3) := by decide +kernel
theorem d_Receiver_putWordsRight_24 : decode b_Receiver_putWordsRight 24 = .ok (.aload_n 0, 1) := by decide +kernel
theorem d_Receiver_putWordsRight_25 : decode b_Receiver_putWordsRight 25 = .ok (.getfield 25, 3) := by decide +kernel
theorem d_Receiver_putWordsRight_28 : decode b_Receiver_putWordsRight 28 = .ok (.iload_n 2, 1) := by decide +kernel
theorem d_Receiver_putWordsRight_29 : decode b_Receiver_putWordsRight 29 = .ok (.iload 5, 2) := by decide +kernel
theorem d_Receiver_putWordsRight_31 : decode b_Receiver_putWordsRight 31 = .ok (.invokevirtual 130, 3) := by decide +kernel
theorem d_Receiver_putWordsRight_34 : decode b_Receiver_putWordsRight 34 = .ok (.istore 6, 2) := by decide +kernel
theorem d_Receiver_putWordsRight_36 : decode b_Receiver_putWordsRight 36 = .ok (.aload_n 0, 1) := by decide +kernel
theorem d_Receiver_putWordsRight_37 : decode b_Receiver_putWordsRight 37 = .ok (.getfield 32, 3) := by decide +kernel
theorem d_Receiver_putWordsRight_40 : decode b_Receiver_putWordsRight 40 = .ok (.iload_n 1, 1) := by decide +kernel
theorem d_Receiver_putWordsRight_41 : decode b_Receiver_putWordsRight 41 = .ok (.bipush 8, 2) := by decide +kernel
theorem d_Receiver_putWordsRight_43 : decode b_Receiver_putWordsRight 43 = .ok (.imul, 1) := by decide +kernel
theorem d_Receiver_putWordsRight_44 : decode b_Receiver_putWordsRight 44 = .ok (.iload 5, 2) := by decide +kernel
theorem d_Receiver_putWordsRight_46 : decode b_Receiver_putWordsRight 46 = .ok (.iadd, 1) := by decide +kernel
theorem d_Receiver_putWordsRight_47 : decode b_Receiver_putWordsRight 47 = .ok (.iload 6, 2) := by decide +kernel
theorem d_Receiver_putWordsRight_49 : decode b_Receiver_putWordsRight 49 = .ok (.iastore, 1) := by decide +kernel
theorem d_Receiver_putWordsRight_50 : decode b_Receiver_putWordsRight 50 = .ok (.iload 6, 2) := by decide +kernel
theorem d_Receiver_putWordsRight_52 : decode b_Receiver_putWordsRight 52 = .ok (.iconst (-1), 1) := by decide +kernel
theorem d_Receiver_putWordsRight_53 : decode b_Receiver_putWordsRight 53 = .ok (.if_icmp .ne 9, 3) := by decide +kernel
theorem d_Receiver_putWordsRight_56 : decode b_Receiver_putWordsRight 56 = .ok (.iinc 3 1, 3) := by decide +kernel
theorem d_Receiver_putWordsRight_59 : decode b_Receiver_putWordsRight 59 = .ok (.goto 10, 3) := by decide +kernel
theorem d_Receiver_putWordsRight_62 : decode b_Receiver_putWordsRight 62 = .ok (.iload 4, 2) := by decide +kernel
theorem d_Receiver_putWordsRight_64 : decode b_Receiver_putWordsRight 64 = .ok (.iload 6, 2) := by decide +kernel
theorem d_Receiver_putWordsRight_66 : decode b_Receiver_putWordsRight 66 = .ok (.iadd, 1) := by decide +kernel
theorem d_Receiver_putWordsRight_67 : decode b_Receiver_putWordsRight 67 = .ok (.istore 4, 2) := by decide +kernel
theorem d_Receiver_putWordsRight_69 : decode b_Receiver_putWordsRight 69 = .ok (.iinc 5 1, 3) := by decide +kernel
theorem d_Receiver_putWordsRight_72 : decode b_Receiver_putWordsRight 72 = .ok (.goto (-64), 3) := by decide +kernel
theorem d_Receiver_putWordsRight_75 : decode b_Receiver_putWordsRight 75 = .ok (.aload_n 0, 1) := by decide +kernel
theorem d_Receiver_putWordsRight_76 : decode b_Receiver_putWordsRight 76 = .ok (.iload_n 1, 1) := by decide +kernel
theorem d_Receiver_putWordsRight_77 : decode b_Receiver_putWordsRight 77 = .ok (.iconst 2, 1) := by decide +kernel
theorem d_Receiver_putWordsRight_78 : decode b_Receiver_putWordsRight 78 = .ok (.iload_n 3, 1) := by decide +kernel
theorem d_Receiver_putWordsRight_79 : decode b_Receiver_putWordsRight 79 = .ok (.invokevirtual 101, 3) := by decide +kernel
theorem d_Receiver_putWordsRight_82 : decode b_Receiver_putWordsRight 82 = .ok (.aload_n 0, 1) := by decide +kernel
theorem d_Receiver_putWordsRight_83 : decode b_Receiver_putWordsRight 83 = .ok (.iload_n 1, 1) := by decide +kernel
theorem d_Receiver_putWordsRight_84 : decode b_Receiver_putWordsRight 84 = .ok (.iconst 3, 1) := by decide +kernel
theorem d_Receiver_putWordsRight_85 : decode b_Receiver_putWordsRight 85 = .ok (.iload 4, 2) := by decide +kernel
theorem d_Receiver_putWordsRight_87 : decode b_Receiver_putWordsRight 87 = .ok (.invokevirtual 101, 3) := by decide +kernel
theorem d_Receiver_putWordsRight_90 : decode b_Receiver_putWordsRight 90 = .ok (.return_, 1) := by decide +kernel
theorem ok_Receiver_putWordsRight : OKv y_Receiver_putWordsRight b_Receiver_putWordsRight 7 none "DeepChannel$Receiver" 2 := ⟨k_753, k_752, k_9, k_53, by decide +kernel, by decide +kernel, by decide +kernel⟩
abbrev w_Receiver_putWordsRight (cI cJ : ClassId) (qRc qSh qRc_facts qWd qFd qFd_powers qWd_syndromes qFd_logs qWd_coefficients qLc qLc_poly qLc_earlier qLc_spare qLc_places qLc_evaluator qFd_otherForms qRc_bytes qFd_elements qRc_putRight : Nat) (Rc_mixer Rc_nearest Rc_found Rc_lastOfChannel Rc_lastMaster Rc_differing Rc_taken Sh_pattern Wd_generator Wd_remainder : Value) (Sh_depth : Int32) (Sh_wordBytes : Int32) (Sh_e : Int32) (Rc_facts : Nat → Int32) (Fd_powers : Nat → Int32) (Wd_syndromes : Nat → Int32) (Fd_logs : Nat → Int32) (Wd_coefficients : Nat → Int32) (Lc_poly : Nat → Int32) (Lc_earlier : Nat → Int32) (Lc_spare : Nat → Int32) (Lc_places : Nat → Int32) (Lc_evaluator : Nat → Int32) (Fd_otherForms : Nat → Int32) (Rc_bytes : Nat → Int32) (Fd_elements : Nat → Int32) (Rc_putRight : Nat → Int32) : va_W := [(qRc, .inr (6, [.ref qSh, .ref qWd, Rc_mixer, Rc_nearest, Rc_found, .ref qRc_bytes, .ref qRc_facts, .ref qRc_putRight, Rc_lastOfChannel, Rc_lastMaster, Rc_differing, Rc_taken])), (qSh, .inr (8, [.int Sh_depth, .int Sh_wordBytes, .int Sh_e, Sh_pattern])), (qRc_facts, .inl (cI, 144, .inl Rc_facts)), (qWd, .inr (9, [.ref qSh, .ref qFd, Wd_generator, Wd_remainder, .ref qWd_coefficients, .ref qWd_syndromes, .ref qLc])), (qFd, .inr (2, [.ref qFd_powers, .ref qFd_logs, .ref qFd_otherForms, .ref qFd_elements])), (qFd_powers, .inl (cI, 255, .inl Fd_powers)), (qWd_syndromes, .inl (cI, 32, .inl Wd_syndromes)), (qFd_logs, .inl (cI, 256, .inl Fd_logs)), (qWd_coefficients, .inl (cI, 250, .inl Wd_coefficients)), (qLc, .inr (3, [.ref qFd, .ref qLc_poly, .ref qLc_earlier, .ref qLc_spare, .ref qLc_evaluator, .ref qLc_places])), (qLc_poly, .inl (cI, 33, .inl Lc_poly)), (qLc_earlier, .inl (cI, 33, .inl Lc_earlier)), (qLc_spare, .inl (cI, 33, .inl Lc_spare)), (qLc_places, .inl (cI, 32, .inl Lc_places)), (qLc_evaluator, .inl (cI, 33, .inl Lc_evaluator)), (qFd_otherForms, .inl (cI, 256, .inl Fd_otherForms)), (qRc_bytes, .inl (cI, 512, .inl Rc_bytes)), (qFd_elements, .inl (cI, 256, .inl Fd_elements)), (qRc_putRight, .inl (cI, 128, .inl Rc_putRight))]
def f_Receiver_putWordsRight_75  (x1 : Int32) (x3 : Int32) (x4 : Int32) (Rc_facts : Nat → Int32) (Wd_syndromes : Nat → Int32) (Wd_coefficients : Nat → Int32) (Lc_poly : Nat → Int32) (Lc_earlier : Nat → Int32) (Lc_spare : Nat → Int32) (Lc_places : Nat → Int32) (Lc_evaluator : Nat → Int32) (Rc_bytes : Nat → Int32) (Rc_putRight : Nat → Int32) : Option ((Nat → Int32) × (Nat → Int32) × (Nat → Int32) × (Nat → Int32) × (Nat → Int32) × (Nat → Int32) × (Nat → Int32) × (Nat → Int32) × (Nat → Int32) × (Nat → Int32)) :=
  bd (f_Receiver_setFact Rc_facts x1 (2 : Int32) x3) fun u2 =>
  nm u2 fun g1 =>
  bd (f_Receiver_setFact g1 x1 (3 : Int32) x4) fun u4 =>
  nm u4 fun g3 =>
  some (g3, Wd_syndromes, Wd_coefficients, Lc_poly, Lc_earlier, Lc_spare, Lc_places, Lc_evaluator, Rc_bytes, Rc_putRight)
def f_Receiver_putWordsRight_69 (kh8 : Int32 → Int32 → Int32 → Int32 → Int32 → (Nat → Int32) → (Nat → Int32) → (Nat → Int32) → (Nat → Int32) → (Nat → Int32) → (Nat → Int32) → (Nat → Int32) → (Nat → Int32) → (Nat → Int32) → (Nat → Int32) → Option ((Nat → Int32) × (Nat → Int32) × (Nat → Int32) × (Nat → Int32) × (Nat → Int32) × (Nat → Int32) × (Nat → Int32) × (Nat → Int32) × (Nat → Int32) × (Nat → Int32))) (x1 : Int32) (x2 : Int32) (x3 : Int32) (x4 : Int32) (x5 : Int32) (Rc_facts : Nat → Int32) (Wd_syndromes : Nat → Int32) (Wd_coefficients : Nat → Int32) (Lc_poly : Nat → Int32) (Lc_earlier : Nat → Int32) (Lc_spare : Nat → Int32) (Lc_places : Nat → Int32) (Lc_evaluator : Nat → Int32) (Rc_bytes : Nat → Int32) (Rc_putRight : Nat → Int32) : Option ((Nat → Int32) × (Nat → Int32) × (Nat → Int32) × (Nat → Int32) × (Nat → Int32) × (Nat → Int32) × (Nat → Int32) × (Nat → Int32) × (Nat → Int32) × (Nat → Int32)) :=
  nm (x5 + (1 : Int32)) fun v5 =>
  kh8 x1 x2 x3 x4 v5 Rc_facts Wd_syndromes Wd_coefficients Lc_poly Lc_earlier Lc_spare Lc_places Lc_evaluator Rc_bytes Rc_putRight
def f_Receiver_putWordsRight_8_b (Sh_depth : Int32) (Sh_wordBytes : Int32) (Sh_e : Int32) (Fd_powers : Nat → Int32) (Fd_logs : Nat → Int32) (Fd_otherForms : Nat → Int32) (Fd_elements : Nat → Int32) (kh8 : Int32 → Int32 → Int32 → Int32 → Int32 → (Nat → Int32) → (Nat → Int32) → (Nat → Int32) → (Nat → Int32) → (Nat → Int32) → (Nat → Int32) → (Nat → Int32) → (Nat → Int32) → (Nat → Int32) → (Nat → Int32) → Option ((Nat → Int32) × (Nat → Int32) × (Nat → Int32) × (Nat → Int32) × (Nat → Int32) × (Nat → Int32) × (Nat → Int32) × (Nat → Int32) × (Nat → Int32) × (Nat → Int32))) (x1 : Int32) (x2 : Int32) (x3 : Int32) (x4 : Int32) (x5 : Int32) (Rc_facts : Nat → Int32) (Wd_syndromes : Nat → Int32) (Wd_coefficients : Nat → Int32) (Lc_poly : Nat → Int32) (Lc_earlier : Nat → Int32) (Lc_spare : Nat → Int32) (Lc_places : Nat → Int32) (Lc_evaluator : Nat → Int32) (Rc_bytes : Nat → Int32) (Rc_putRight : Nat → Int32) : Option ((Nat → Int32) × (Nat → Int32) × (Nat → Int32) × (Nat → Int32) × (Nat → Int32) × (Nat → Int32) × (Nat → Int32) × (Nat → Int32) × (Nat → Int32) × (Nat → Int32)) :=
  if Sh_depth ≤ x5 then
    f_Receiver_putWordsRight_75 x1 x3 x4 Rc_facts Wd_syndromes Wd_coefficients Lc_poly Lc_earlier Lc_spare Lc_places Lc_evaluator Rc_bytes Rc_putRight
  else
  bd (f_Words_putRight Sh_depth Sh_wordBytes Sh_e Fd_powers Wd_syndromes Fd_logs Wd_coefficients Lc_poly Lc_earlier Lc_spare Lc_places Lc_evaluator Fd_otherForms Rc_bytes Fd_elements 512 x2 x5) fun u15 =>
  nm u15.1 fun r6 =>
  nm u15.2.1 fun g7 =>
  nm u15.2.2.1 fun g8 =>
  nm u15.2.2.2.1 fun g9 =>
  nm u15.2.2.2.2.1 fun g10 =>
  nm u15.2.2.2.2.2.1 fun g11 =>
  nm u15.2.2.2.2.2.2.1 fun g12 =>
  nm u15.2.2.2.2.2.2.2.1 fun g13 =>
  nm u15.2.2.2.2.2.2.2.2 fun g14 =>
  wrI Rc_putRight 128 ((x1 * (8 : Int32)) + x5) r6 fun g16 =>
  if r6 = (-1 : Int32) then
    nm (x3 + (1 : Int32)) fun v18 =>
    f_Receiver_putWordsRight_69 kh8 x1 x2 v18 x4 x5 Rc_facts g7 g8 g9 g10 g11 g12 g13 g14 g16
  else
  nm (x4 + r6) fun v17 =>
  f_Receiver_putWordsRight_69 kh8 x1 x2 x3 v17 x5 Rc_facts g7 g8 g9 g10 g11 g12 g13 g14 g16
def f_Receiver_putWordsRight_8 (Sh_depth : Int32) (Sh_wordBytes : Int32) (Sh_e : Int32) (Fd_powers : Nat → Int32) (Fd_logs : Nat → Int32) (Fd_otherForms : Nat → Int32) (Fd_elements : Nat → Int32) : Nat → Int32 → Int32 → Int32 → Int32 → Int32 → (Nat → Int32) → (Nat → Int32) → (Nat → Int32) → (Nat → Int32) → (Nat → Int32) → (Nat → Int32) → (Nat → Int32) → (Nat → Int32) → (Nat → Int32) → (Nat → Int32) → Option ((Nat → Int32) × (Nat → Int32) × (Nat → Int32) × (Nat → Int32) × (Nat → Int32) × (Nat → Int32) × (Nat → Int32) × (Nat → Int32) × (Nat → Int32) × (Nat → Int32))
  | 0 => fun _ _ _ _ _ _ _ _ _ _ _ _ _ _ _ => none
  | n + 1 => fun x1 x2 x3 x4 x5 Rc_facts Wd_syndromes Wd_coefficients Lc_poly Lc_earlier Lc_spare Lc_places Lc_evaluator Rc_bytes Rc_putRight => f_Receiver_putWordsRight_8_b Sh_depth Sh_wordBytes Sh_e Fd_powers Fd_logs Fd_otherForms Fd_elements (f_Receiver_putWordsRight_8 Sh_depth Sh_wordBytes Sh_e Fd_powers Fd_logs Fd_otherForms Fd_elements n) x1 x2 x3 x4 x5 Rc_facts Wd_syndromes Wd_coefficients Lc_poly Lc_earlier Lc_spare Lc_places Lc_evaluator Rc_bytes Rc_putRight
def f_Receiver_putWordsRight (Sh_depth : Int32) (Sh_wordBytes : Int32) (Sh_e : Int32) (Rc_facts : Nat → Int32) (Fd_powers : Nat → Int32) (Wd_syndromes : Nat → Int32) (Fd_logs : Nat → Int32) (Wd_coefficients : Nat → Int32) (Lc_poly : Nat → Int32) (Lc_earlier : Nat → Int32) (Lc_spare : Nat → Int32) (Lc_places : Nat → Int32) (Lc_evaluator : Nat → Int32) (Fd_otherForms : Nat → Int32) (Rc_bytes : Nat → Int32) (Fd_elements : Nat → Int32) (Rc_putRight : Nat → Int32) (x1 : Int32) (x2 : Int32) : Option ((Nat → Int32) × (Nat → Int32) × (Nat → Int32) × (Nat → Int32) × (Nat → Int32) × (Nat → Int32) × (Nat → Int32) × (Nat → Int32) × (Nat → Int32) × (Nat → Int32)) :=
  f_Receiver_putWordsRight_8 Sh_depth Sh_wordBytes Sh_e Fd_powers Fd_logs Fd_otherForms Fd_elements 10000 x1 x2 (0 : Int32) (0 : Int32) (0 : Int32) Rc_facts Wd_syndromes Wd_coefficients Lc_poly Lc_earlier Lc_spare Lc_places Lc_evaluator Rc_bytes Rc_putRight
set_option maxHeartbeats 4000000 in
set_option maxRecDepth 100000 in
theorem c_Receiver_putWordsRight (l : Launch) (D : va_G) (cI cJ : ClassId) (tt : Nat → Nat) (qRc qSh qRc_facts qWd qFd qFd_powers qWd_syndromes qFd_logs qWd_coefficients qLc qLc_poly qLc_earlier qLc_spare qLc_places qLc_evaluator qFd_otherForms qRc_bytes qFd_elements qRc_putRight : Nat) (Rc_mixer Rc_nearest Rc_found Rc_lastOfChannel Rc_lastMaster Rc_differing Rc_taken Sh_pattern Wd_generator Wd_remainder : Value) (sz : Nat) (Sh_depth : Int32) (Sh_wordBytes : Int32) (Sh_e : Int32) (Rc_facts : Nat → Int32) (Fd_powers : Nat → Int32) (Wd_syndromes : Nat → Int32) (Fd_logs : Nat → Int32) (Wd_coefficients : Nat → Int32) (Lc_poly : Nat → Int32) (Lc_earlier : Nat → Int32) (Lc_spare : Nat → Int32) (Lc_places : Nat → Int32) (Lc_evaluator : Nat → Int32) (Fd_otherForms : Nat → Int32) (Rc_bytes : Nat → Int32) (Fd_elements : Nat → Int32) (Rc_putRight : Nat → Int32) (x1 : Int32) (x2 : Int32) (Rc_facts' : Nat → Int32) (Wd_syndromes' : Nat → Int32) (Wd_coefficients' : Nat → Int32) (Lc_poly' : Nat → Int32) (Lc_earlier' : Nat → Int32) (Lc_spare' : Nat → Int32) (Lc_places' : Nat → Int32) (Lc_evaluator' : Nat → Int32) (Rc_bytes' : Nat → Int32) (Rc_putRight' : Nat → Int32) (hm : f_Receiver_putWordsRight Sh_depth Sh_wordBytes Sh_e Rc_facts Fd_powers Wd_syndromes Fd_logs Wd_coefficients Lc_poly Lc_earlier Lc_spare Lc_places Lc_evaluator Fd_otherForms Rc_bytes Fd_elements Rc_putRight x1 x2 = some (Rc_facts', Wd_syndromes', Wd_coefficients', Lc_poly', Lc_earlier', Lc_spare', Lc_places', Lc_evaluator', Rc_bytes', Rc_putRight')) : CTv l y_Receiver_putWordsRight b_Receiver_putWordsRight 7 none (RM 4 116) D cI cJ tt [.ref qRc, .int x1, .int x2] (w_Receiver_putWordsRight cI cJ qRc qSh qRc_facts qWd qFd qFd_powers qWd_syndromes qFd_logs qWd_coefficients qLc qLc_poly qLc_earlier qLc_spare qLc_places qLc_evaluator qFd_otherForms qRc_bytes qFd_elements qRc_putRight Rc_mixer Rc_nearest Rc_found Rc_lastOfChannel Rc_lastMaster Rc_differing Rc_taken Sh_pattern Wd_generator Wd_remainder Sh_depth Sh_wordBytes Sh_e Rc_facts Fd_powers Wd_syndromes Fd_logs Wd_coefficients Lc_poly Lc_earlier Lc_spare Lc_places Lc_evaluator Fd_otherForms Rc_bytes Fd_elements Rc_putRight) (w_Receiver_putWordsRight cI cJ qRc qSh qRc_facts qWd qFd qFd_powers qWd_syndromes qFd_logs qWd_coefficients qLc qLc_poly qLc_earlier qLc_spare qLc_places qLc_evaluator qFd_otherForms qRc_bytes qFd_elements qRc_putRight Rc_mixer Rc_nearest Rc_found Rc_lastOfChannel Rc_lastMaster Rc_differing Rc_taken Sh_pattern Wd_generator Wd_remainder Sh_depth Sh_wordBytes Sh_e Rc_facts' Fd_powers Wd_syndromes' Fd_logs Wd_coefficients' Lc_poly' Lc_earlier' Lc_spare' Lc_places' Lc_evaluator' Fd_otherForms Rc_bytes' Fd_elements Rc_putRight') sz := by
  refine Met.ofW (cc := b_Receiver_putWordsRight) (maxL := 7) (ret := none) (by decide) rfl ?_
  intro p e s m args below meth c s₁ B hml hv
  obtain ⟨hargs, hsz, hP, hK, hD0, hE⟩ := hv
  have hx := B.exec
  have hb := B.bytes
  have hr := B.returns
  have hts : ∀ w ∈ TB, w.before args s = true := z_mV s (atoms_spec (ws := WD y_Receiver_putWordsRight b_Receiver_putWordsRight 7 none) B.pre)
  have hown : s.vm.findClass "DeepChannel$Receiver" = some m.cls := findClass_of_methodNamed B.named
  have hlocks := B.notSynchronized
  subst hsz
  have hD := hD0.self (sz := s.heap.size)
  generalize hAe : va_A (w_Receiver_putWordsRight cI cJ qRc qSh qRc_facts qWd qFd qFd_powers qWd_syndromes qFd_logs qWd_coefficients qLc qLc_poly qLc_earlier qLc_spare qLc_places qLc_evaluator qFd_otherForms qRc_bytes qFd_elements qRc_putRight Rc_mixer Rc_nearest Rc_found Rc_lastOfChannel Rc_lastMaster Rc_differing Rc_taken Sh_pattern Wd_generator Wd_remainder Sh_depth Sh_wordBytes Sh_e Rc_facts Fd_powers Wd_syndromes Fd_logs Wd_coefficients Lc_poly Lc_earlier Lc_spare Lc_places Lc_evaluator Fd_otherForms Rc_bytes Fd_elements Rc_putRight) s.heap.size = A at hD hE ⊢
  have hA : ∀ q : Nat, s.heap.size ≤ q → A q := fun q h => by rw [← hAe]; exact Or.inr h
  have hS : va_S A s.heap s.heap [] := va_S.rf
  refine z_entry (vs := [.ref qRc, .int x1, .int x2]) hargs (Nat.le_of_ble_eq_true rfl) (fun ls hl => ?_)
  have hl : lv_has ls 7 [(0, .ref qRc), (1, .int x1), (2, .int x2)] := hl
  show W p l e (RM 4 116) s m args below meth c s.heap [] 0 0 _ _
  refine z_qi (fun Q0 hQ => ?_)
  have F : CallFix p m c b_Receiver_putWordsRight 7 s args TB "DeepChannel$Receiver" := ⟨hx, hb, hml, hown, hts⟩
  have T75 : ∀ (x1 : Int32) (x3 : Int32) (x4 : Int32) (Rc_facts : Nat → Int32) (Wd_syndromes : Nat → Int32) (Wd_coefficients : Nat → Int32) (Lc_poly : Nat → Int32) (Lc_earlier : Nat → Int32) (Lc_spare : Nat → Int32) (Lc_places : Nat → Int32) (Lc_evaluator : Nat → Int32) (Rc_bytes : Nat → Int32) (Rc_putRight : Nat → Int32), f_Receiver_putWordsRight_75 x1 x3 x4 Rc_facts Wd_syndromes Wd_coefficients Lc_poly Lc_earlier Lc_spare Lc_places Lc_evaluator Rc_bytes Rc_putRight = some (Rc_facts', Wd_syndromes', Wd_coefficients', Lc_poly', Lc_earlier', Lc_spare', Lc_places', Lc_evaluator', Rc_bytes', Rc_putRight') → ∀ (H : Heap) (locs : List Loc), va_P D classes (w_Receiver_putWordsRight cI cJ qRc qSh qRc_facts qWd qFd qFd_powers qWd_syndromes qFd_logs qWd_coefficients qLc qLc_poly qLc_earlier qLc_spare qLc_places qLc_evaluator qFd_otherForms qRc_bytes qFd_elements qRc_putRight Rc_mixer Rc_nearest Rc_found Rc_lastOfChannel Rc_lastMaster Rc_differing Rc_taken Sh_pattern Wd_generator Wd_remainder Sh_depth Sh_wordBytes Sh_e Rc_facts Fd_powers Wd_syndromes Fd_logs Wd_coefficients Lc_poly Lc_earlier Lc_spare Lc_places Lc_evaluator Fd_otherForms Rc_bytes Fd_elements Rc_putRight) H → va_D A (w_Receiver_putWordsRight cI cJ qRc qSh qRc_facts qWd qFd qFd_powers qWd_syndromes qFd_logs qWd_coefficients qLc qLc_poly qLc_earlier qLc_spare qLc_places qLc_evaluator qFd_otherForms qRc_bytes qFd_elements qRc_putRight Rc_mixer Rc_nearest Rc_found Rc_lastOfChannel Rc_lastMaster Rc_differing Rc_taken Sh_pattern Wd_generator Wd_remainder Sh_depth Sh_wordBytes Sh_e Rc_facts Fd_powers Wd_syndromes Fd_logs Wd_coefficients Lc_poly Lc_earlier Lc_spare Lc_places Lc_evaluator Fd_otherForms Rc_bytes Fd_elements Rc_putRight) → va_S A s.heap H locs → ∀ (ls : Array Slot), lv_has ls 7 [(0, .ref qRc), (1, .int x1), (3, .int x3), (4, .int x4)] → W p l e (RM 4 116) s m args below meth c H locs 0 0 Q0 (F0 m 75 ls []) := by
    intro x1 x3 x4 Rc_facts Wd_syndromes Wd_coefficients Lc_poly Lc_earlier Lc_spare Lc_places Lc_evaluator Rc_bytes Rc_putRight hm H locs hP hD hS ls hl
    unfold f_Receiver_putWordsRight_75 at hm
    refine lv_aload_n hx hb d_Receiver_putWordsRight_75 rfl (lv_at hl 0 rfl) ?_
    refine lv_iload_n hx hb d_Receiver_putWordsRight_76 rfl (lv_at hl 1 rfl) ?_
    refine lv_iconst (v := (2 : Int32)) hx hb d_Receiver_putWordsRight_77 (by decide) ?_
    refine lv_iload_n hx hb d_Receiver_putWordsRight_78 rfl (lv_at hl 2 rfl) ?_
    obtain ⟨g1, hu, hm⟩ := bd_el hm
    replace hm := nm_1 hm
    refine z_cVv (wc := w_Receiver_setFact cI cJ qRc qRc_facts (.ref qSh) (.ref qWd) Rc_mixer Rc_nearest Rc_found (.ref qRc_bytes) (.ref qRc_putRight) Rc_lastOfChannel Rc_lastMaster Rc_differing Rc_taken Rc_facts) (wc' := w_Receiver_setFact cI cJ qRc qRc_facts (.ref qSh) (.ref qWd) Rc_mixer Rc_nearest Rc_found (.ref qRc_bytes) (.ref qRc_putRight) Rc_lastOfChannel Rc_lastMaster Rc_differing Rc_taken g1) (wr := [(qSh, .inr (8, [.int Sh_depth, .int Sh_wordBytes, .int Sh_e, Sh_pattern])), (qWd, .inr (9, [.ref qSh, .ref qFd, Wd_generator, Wd_remainder, .ref qWd_coefficients, .ref qWd_syndromes, .ref qLc])), (qFd, .inr (2, [.ref qFd_powers, .ref qFd_logs, .ref qFd_otherForms, .ref qFd_elements])), (qFd_powers, .inl (cI, 255, .inl Fd_powers)), (qWd_syndromes, .inl (cI, 32, .inl Wd_syndromes)), (qFd_logs, .inl (cI, 256, .inl Fd_logs)), (qWd_coefficients, .inl (cI, 250, .inl Wd_coefficients)), (qLc, .inr (3, [.ref qFd, .ref qLc_poly, .ref qLc_earlier, .ref qLc_spare, .ref qLc_evaluator, .ref qLc_places])), (qLc_poly, .inl (cI, 33, .inl Lc_poly)), (qLc_earlier, .inl (cI, 33, .inl Lc_earlier)), (qLc_spare, .inl (cI, 33, .inl Lc_spare)), (qLc_places, .inl (cI, 32, .inl Lc_places)), (qLc_evaluator, .inl (cI, 33, .inl Lc_evaluator)), (qFd_otherForms, .inl (cI, 256, .inl Fd_otherForms)), (qRc_bytes, .inl (cI, 512, .inl Rc_bytes)), (qFd_elements, .inl (cI, 256, .inl Fd_elements)), (qRc_putRight, .inl (cI, 128, .inl Rc_putRight))]) (As := [.int x1, .int (2 : Int32), .int x3]) (rest := []) (c_Receiver_setFact l D cI cJ tt qRc qRc_facts (.ref qSh) (.ref qWd) Rc_mixer Rc_nearest Rc_found (.ref qRc_bytes) (.ref qRc_putRight) Rc_lastOfChannel Rc_lastMaster Rc_differing Rc_taken _ Rc_facts x1 (2 : Int32) x3 g1 hu) F ok_Receiver_setFact rfl k_732 hK hE hP hD hS hA [0, 2] [1, 3, 4, 5, 6, 7, 8, 9, 10, 11, 12, 13, 14, 15, 16, 17, 18] rfl rfl (by decide) (by decide) (by decide) 0 rfl rfl rfl ⟨rfl, rfl, Nat.le_of_ble_eq_true rfl, Nat.le_of_ble_eq_true rfl⟩ ⟨Nat.zero_le _, Nat.zero_le _⟩ rfl hl.1 rfl (Nat.le_of_ble_eq_true rfl) d_Receiver_putWordsRight_79 (fun H locs hP hD hS => ?_)
    have hP : va_P D classes (w_Receiver_putWordsRight cI cJ qRc qSh qRc_facts qWd qFd qFd_powers qWd_syndromes qFd_logs qWd_coefficients qLc qLc_poly qLc_earlier qLc_spare qLc_places qLc_evaluator qFd_otherForms qRc_bytes qFd_elements qRc_putRight Rc_mixer Rc_nearest Rc_found Rc_lastOfChannel Rc_lastMaster Rc_differing Rc_taken Sh_pattern Wd_generator Wd_remainder Sh_depth Sh_wordBytes Sh_e g1 Fd_powers Wd_syndromes Fd_logs Wd_coefficients Lc_poly Lc_earlier Lc_spare Lc_places Lc_evaluator Fd_otherForms Rc_bytes Fd_elements Rc_putRight) H := hP.sub [17, 0, 18, 1, 2, 3, 4, 5, 6, 7, 8, 9, 10, 11, 12, 13, 14, 15, 16] rfl
    have hD : va_D A (w_Receiver_putWordsRight cI cJ qRc qSh qRc_facts qWd qFd qFd_powers qWd_syndromes qFd_logs qWd_coefficients qLc qLc_poly qLc_earlier qLc_spare qLc_places qLc_evaluator qFd_otherForms qRc_bytes qFd_elements qRc_putRight Rc_mixer Rc_nearest Rc_found Rc_lastOfChannel Rc_lastMaster Rc_differing Rc_taken Sh_pattern Wd_generator Wd_remainder Sh_depth Sh_wordBytes Sh_e g1 Fd_powers Wd_syndromes Fd_logs Wd_coefficients Lc_poly Lc_earlier Lc_spare Lc_places Lc_evaluator Fd_otherForms Rc_bytes Fd_elements Rc_putRight) := hD.sub [17, 0, 18, 1, 2, 3, 4, 5, 6, 7, 8, 9, 10, 11, 12, 13, 14, 15, 16] (by decide) rfl
    refine lv_aload_n hx hb d_Receiver_putWordsRight_82 rfl (lv_at hl 0 rfl) ?_
    refine lv_iload_n hx hb d_Receiver_putWordsRight_83 rfl (lv_at hl 1 rfl) ?_
    refine lv_iconst (v := (3 : Int32)) hx hb d_Receiver_putWordsRight_84 (by decide) ?_
    refine lv_iload hx hb d_Receiver_putWordsRight_85 (lv_at hl 3 rfl) ?_
    obtain ⟨g3, hu, hm⟩ := bd_el hm
    replace hm := nm_1 hm
    refine z_cVv (wc := w_Receiver_setFact cI cJ qRc qRc_facts (.ref qSh) (.ref qWd) Rc_mixer Rc_nearest Rc_found (.ref qRc_bytes) (.ref qRc_putRight) Rc_lastOfChannel Rc_lastMaster Rc_differing Rc_taken g1) (wc' := w_Receiver_setFact cI cJ qRc qRc_facts (.ref qSh) (.ref qWd) Rc_mixer Rc_nearest Rc_found (.ref qRc_bytes) (.ref qRc_putRight) Rc_lastOfChannel Rc_lastMaster Rc_differing Rc_taken g3) (wr := [(qSh, .inr (8, [.int Sh_depth, .int Sh_wordBytes, .int Sh_e, Sh_pattern])), (qWd, .inr (9, [.ref qSh, .ref qFd, Wd_generator, Wd_remainder, .ref qWd_coefficients, .ref qWd_syndromes, .ref qLc])), (qFd, .inr (2, [.ref qFd_powers, .ref qFd_logs, .ref qFd_otherForms, .ref qFd_elements])), (qFd_powers, .inl (cI, 255, .inl Fd_powers)), (qWd_syndromes, .inl (cI, 32, .inl Wd_syndromes)), (qFd_logs, .inl (cI, 256, .inl Fd_logs)), (qWd_coefficients, .inl (cI, 250, .inl Wd_coefficients)), (qLc, .inr (3, [.ref qFd, .ref qLc_poly, .ref qLc_earlier, .ref qLc_spare, .ref qLc_evaluator, .ref qLc_places])), (qLc_poly, .inl (cI, 33, .inl Lc_poly)), (qLc_earlier, .inl (cI, 33, .inl Lc_earlier)), (qLc_spare, .inl (cI, 33, .inl Lc_spare)), (qLc_places, .inl (cI, 32, .inl Lc_places)), (qLc_evaluator, .inl (cI, 33, .inl Lc_evaluator)), (qFd_otherForms, .inl (cI, 256, .inl Fd_otherForms)), (qRc_bytes, .inl (cI, 512, .inl Rc_bytes)), (qFd_elements, .inl (cI, 256, .inl Fd_elements)), (qRc_putRight, .inl (cI, 128, .inl Rc_putRight))]) (As := [.int x1, .int (3 : Int32), .int x4]) (rest := []) (c_Receiver_setFact l D cI cJ tt qRc qRc_facts (.ref qSh) (.ref qWd) Rc_mixer Rc_nearest Rc_found (.ref qRc_bytes) (.ref qRc_putRight) Rc_lastOfChannel Rc_lastMaster Rc_differing Rc_taken _ g1 x1 (3 : Int32) x4 g3 hu) F ok_Receiver_setFact rfl k_732 hK hE hP hD hS hA [0, 2] [1, 3, 4, 5, 6, 7, 8, 9, 10, 11, 12, 13, 14, 15, 16, 17, 18] rfl rfl (by decide) (by decide) (by decide) 0 rfl rfl rfl ⟨rfl, rfl, Nat.le_of_ble_eq_true rfl, Nat.le_of_ble_eq_true rfl⟩ ⟨Nat.zero_le _, Nat.zero_le _⟩ rfl hl.1 rfl (Nat.le_of_ble_eq_true rfl) d_Receiver_putWordsRight_87 (fun H locs hP hD hS => ?_)
    have hP : va_P D classes (w_Receiver_putWordsRight cI cJ qRc qSh qRc_facts qWd qFd qFd_powers qWd_syndromes qFd_logs qWd_coefficients qLc qLc_poly qLc_earlier qLc_spare qLc_places qLc_evaluator qFd_otherForms qRc_bytes qFd_elements qRc_putRight Rc_mixer Rc_nearest Rc_found Rc_lastOfChannel Rc_lastMaster Rc_differing Rc_taken Sh_pattern Wd_generator Wd_remainder Sh_depth Sh_wordBytes Sh_e g3 Fd_powers Wd_syndromes Fd_logs Wd_coefficients Lc_poly Lc_earlier Lc_spare Lc_places Lc_evaluator Fd_otherForms Rc_bytes Fd_elements Rc_putRight) H := hP.sub [17, 0, 18, 1, 2, 3, 4, 5, 6, 7, 8, 9, 10, 11, 12, 13, 14, 15, 16] rfl
    have hD : va_D A (w_Receiver_putWordsRight cI cJ qRc qSh qRc_facts qWd qFd qFd_powers qWd_syndromes qFd_logs qWd_coefficients qLc qLc_poly qLc_earlier qLc_spare qLc_places qLc_evaluator qFd_otherForms qRc_bytes qFd_elements qRc_putRight Rc_mixer Rc_nearest Rc_found Rc_lastOfChannel Rc_lastMaster Rc_differing Rc_taken Sh_pattern Wd_generator Wd_remainder Sh_depth Sh_wordBytes Sh_e g3 Fd_powers Wd_syndromes Fd_logs Wd_coefficients Lc_poly Lc_earlier Lc_spare Lc_places Lc_evaluator Fd_otherForms Rc_bytes Fd_elements Rc_putRight) := hD.sub [17, 0, 18, 1, 2, 3, 4, 5, 6, 7, 8, 9, 10, 11, 12, 13, 14, 15, 16] (by decide) rfl
    cases hm
    exact z_qo hQ (z_vret hr hx hb hlocks hK hP hD hS d_Receiver_putWordsRight_90)
  have T8 : ∀ (n8 : Nat) (x1 : Int32) (x2 : Int32) (x3 : Int32) (x4 : Int32) (x5 : Int32) (Rc_facts : Nat → Int32) (Wd_syndromes : Nat → Int32) (Wd_coefficients : Nat → Int32) (Lc_poly : Nat → Int32) (Lc_earlier : Nat → Int32) (Lc_spare : Nat → Int32) (Lc_places : Nat → Int32) (Lc_evaluator : Nat → Int32) (Rc_bytes : Nat → Int32) (Rc_putRight : Nat → Int32), f_Receiver_putWordsRight_8 Sh_depth Sh_wordBytes Sh_e Fd_powers Fd_logs Fd_otherForms Fd_elements n8 x1 x2 x3 x4 x5 Rc_facts Wd_syndromes Wd_coefficients Lc_poly Lc_earlier Lc_spare Lc_places Lc_evaluator Rc_bytes Rc_putRight = some (Rc_facts', Wd_syndromes', Wd_coefficients', Lc_poly', Lc_earlier', Lc_spare', Lc_places', Lc_evaluator', Rc_bytes', Rc_putRight') → ∀ (H : Heap) (locs : List Loc), va_P D classes (w_Receiver_putWordsRight cI cJ qRc qSh qRc_facts qWd qFd qFd_powers qWd_syndromes qFd_logs qWd_coefficients qLc qLc_poly qLc_earlier qLc_spare qLc_places qLc_evaluator qFd_otherForms qRc_bytes qFd_elements qRc_putRight Rc_mixer Rc_nearest Rc_found Rc_lastOfChannel Rc_lastMaster Rc_differing Rc_taken Sh_pattern Wd_generator Wd_remainder Sh_depth Sh_wordBytes Sh_e Rc_facts Fd_powers Wd_syndromes Fd_logs Wd_coefficients Lc_poly Lc_earlier Lc_spare Lc_places Lc_evaluator Fd_otherForms Rc_bytes Fd_elements Rc_putRight) H → va_D A (w_Receiver_putWordsRight cI cJ qRc qSh qRc_facts qWd qFd qFd_powers qWd_syndromes qFd_logs qWd_coefficients qLc qLc_poly qLc_earlier qLc_spare qLc_places qLc_evaluator qFd_otherForms qRc_bytes qFd_elements qRc_putRight Rc_mixer Rc_nearest Rc_found Rc_lastOfChannel Rc_lastMaster Rc_differing Rc_taken Sh_pattern Wd_generator Wd_remainder Sh_depth Sh_wordBytes Sh_e Rc_facts Fd_powers Wd_syndromes Fd_logs Wd_coefficients Lc_poly Lc_earlier Lc_spare Lc_places Lc_evaluator Fd_otherForms Rc_bytes Fd_elements Rc_putRight) → va_S A s.heap H locs → ∀ (ls : Array Slot), lv_has ls 7 [(0, .ref qRc), (1, .int x1), (2, .int x2), (3, .int x3), (4, .int x4), (5, .int x5)] → W p l e (RM 4 116) s m args below meth c H locs 0 0 Q0 (F0 m 8 ls []) := by
    intro n8
    induction n8 with
    | zero => intro x1 x2 x3 x4 x5 Rc_facts Wd_syndromes Wd_coefficients Lc_poly Lc_earlier Lc_spare Lc_places Lc_evaluator Rc_bytes Rc_putRight hm; cases hm
    | succ n8 ih8 =>
      have T69 : ∀ (x1 : Int32) (x2 : Int32) (x3 : Int32) (x4 : Int32) (x5 : Int32) (Rc_facts : Nat → Int32) (Wd_syndromes : Nat → Int32) (Wd_coefficients : Nat → Int32) (Lc_poly : Nat → Int32) (Lc_earlier : Nat → Int32) (Lc_spare : Nat → Int32) (Lc_places : Nat → Int32) (Lc_evaluator : Nat → Int32) (Rc_bytes : Nat → Int32) (Rc_putRight : Nat → Int32), f_Receiver_putWordsRight_69 (f_Receiver_putWordsRight_8 Sh_depth Sh_wordBytes Sh_e Fd_powers Fd_logs Fd_otherForms Fd_elements n8) x1 x2 x3 x4 x5 Rc_facts Wd_syndromes Wd_coefficients Lc_poly Lc_earlier Lc_spare Lc_places Lc_evaluator Rc_bytes Rc_putRight = some (Rc_facts', Wd_syndromes', Wd_coefficients', Lc_poly', Lc_earlier', Lc_spare', Lc_places', Lc_evaluator', Rc_bytes', Rc_putRight') → ∀ (H : Heap) (locs : List Loc), va_P D classes (w_Receiver_putWordsRight cI cJ qRc qSh qRc_facts qWd qFd qFd_powers qWd_syndromes qFd_logs qWd_coefficients qLc qLc_poly qLc_earlier qLc_spare qLc_places qLc_evaluator qFd_otherForms qRc_bytes qFd_elements qRc_putRight Rc_mixer Rc_nearest Rc_found Rc_lastOfChannel Rc_lastMaster Rc_differing Rc_taken Sh_pattern Wd_generator Wd_remainder Sh_depth Sh_wordBytes Sh_e Rc_facts Fd_powers Wd_syndromes Fd_logs Wd_coefficients Lc_poly Lc_earlier Lc_spare Lc_places Lc_evaluator Fd_otherForms Rc_bytes Fd_elements Rc_putRight) H → va_D A (w_Receiver_putWordsRight cI cJ qRc qSh qRc_facts qWd qFd qFd_powers qWd_syndromes qFd_logs qWd_coefficients qLc qLc_poly qLc_earlier qLc_spare qLc_places qLc_evaluator qFd_otherForms qRc_bytes qFd_elements qRc_putRight Rc_mixer Rc_nearest Rc_found Rc_lastOfChannel Rc_lastMaster Rc_differing Rc_taken Sh_pattern Wd_generator Wd_remainder Sh_depth Sh_wordBytes Sh_e Rc_facts Fd_powers Wd_syndromes Fd_logs Wd_coefficients Lc_poly Lc_earlier Lc_spare Lc_places Lc_evaluator Fd_otherForms Rc_bytes Fd_elements Rc_putRight) → va_S A s.heap H locs → ∀ (ls : Array Slot), lv_has ls 7 [(0, .ref qRc), (1, .int x1), (2, .int x2), (3, .int x3), (4, .int x4), (5, .int x5)] → W p l e (RM 4 116) s m args below meth c H locs 0 0 Q0 (F0 m 69 ls []) := by
        intro x1 x2 x3 x4 x5 Rc_facts Wd_syndromes Wd_coefficients Lc_poly Lc_earlier Lc_spare Lc_places Lc_evaluator Rc_bytes Rc_putRight hm H locs hP hD hS ls hl
        unfold f_Receiver_putWordsRight_69 at hm
        obtain ⟨v5, ev, hm⟩ := nm_el hm
        refine lv_iinc (v := v5) (lv' := [(5, .int v5), (0, .ref qRc), (1, .int x1), (2, .int x2), (3, .int x3), (4, .int x4)]) hx hb d_Receiver_putWordsRight_69 hl (k := 5) rfl (by rw [ev]; rfl) (by decide) rfl (fun ls hl => ?_)
        refine lv_goto (tgt := 8) hx hb d_Receiver_putWordsRight_72 (by decide) ?_
        exact ih8 x1 x2 x3 x4 v5 Rc_facts Wd_syndromes Wd_coefficients Lc_poly Lc_earlier Lc_spare Lc_places Lc_evaluator Rc_bytes Rc_putRight hm _ _ hP hD hS _ (lv_sub hl [1, 2, 3, 4, 5, 0] rfl)
      intro x1 x2 x3 x4 x5 Rc_facts Wd_syndromes Wd_coefficients Lc_poly Lc_earlier Lc_spare Lc_places Lc_evaluator Rc_bytes Rc_putRight hm H locs hP hD hS ls hl
      replace hm : f_Receiver_putWordsRight_8_b Sh_depth Sh_wordBytes Sh_e Fd_powers Fd_logs Fd_otherForms Fd_elements (f_Receiver_putWordsRight_8 Sh_depth Sh_wordBytes Sh_e Fd_powers Fd_logs Fd_otherForms Fd_elements n8) x1 x2 x3 x4 x5 Rc_facts Wd_syndromes Wd_coefficients Lc_poly Lc_earlier Lc_spare Lc_places Lc_evaluator Rc_bytes Rc_putRight = some (Rc_facts', Wd_syndromes', Wd_coefficients', Lc_poly', Lc_earlier', Lc_spare', Lc_places', Lc_evaluator', Rc_bytes', Rc_putRight') := hm
      unfold f_Receiver_putWordsRight_8_b at hm
      refine lv_iload hx hb d_Receiver_putWordsRight_8 (lv_at hl 5 rfl) ?_
      refine lv_aload_n hx hb d_Receiver_putWordsRight_10 rfl (lv_at hl 0 rfl) ?_
      refine va_get (D := D) (ci := 6) (v := .ref qSh) (C := "DeepChannel$Receiver") (T := fT_Receiver) (N := 12) hx hb hts u_Receiver hown hK hP 0 rfl rfl 0 (by decide) (hts _ k_304) (fun _ h9 => h9) rfl d_Receiver_putWordsRight_11 ?_
      refine va_getN (D := D) (ci := 8) (v := .int Sh_depth) (C := "DeepChannel$Shape") (T := fT_Shape) (N := 4) hx hb hts u_Shape hown hK hP 1 rfl rfl 0 (by decide) (va_Nw.use rfl (hE.1 _ (List.mem_of_getElem? (i := 2) rfl))) (fun _ h9 => h9) rfl d_Receiver_putWordsRight_14 ?_
      refine z_if hm (lv_icmp_ge (tgt := 75) hx hb d_Receiver_putWordsRight_17 (by decide)) (fun hm => ?_) (fun hm => ?_)
      · exact T75 x1 x3 x4 Rc_facts Wd_syndromes Wd_coefficients Lc_poly Lc_earlier Lc_spare Lc_places Lc_evaluator Rc_bytes Rc_putRight hm _ _ hP hD hS _ (lv_sub hl [0, 1, 3, 4] rfl)
      · refine lv_aload_n hx hb d_Receiver_putWordsRight_20 rfl (lv_at hl 0 rfl) ?_
        refine va_get (D := D) (ci := 6) (v := .ref qWd) (C := "DeepChannel$Receiver") (T := fT_Receiver) (N := 12) hx hb hts u_Receiver hown hK hP 0 rfl rfl 1 (by decide) (hts _ k_305) (fun _ h9 => h9) rfl d_Receiver_putWordsRight_21 ?_
        refine lv_aload_n hx hb d_Receiver_putWordsRight_24 rfl (lv_at hl 0 rfl) ?_
        refine va_get (D := D) (ci := 6) (v := .ref qRc_bytes) (C := "DeepChannel$Receiver") (T := fT_Receiver) (N := 12) hx hb hts u_Receiver hown hK hP 0 rfl rfl 5 (by decide) (hts _ k_309) (fun _ h9 => h9) rfl d_Receiver_putWordsRight_25 ?_
        refine lv_iload_n hx hb d_Receiver_putWordsRight_28 rfl (lv_at hl 2 rfl) ?_
        refine lv_iload hx hb d_Receiver_putWordsRight_29 (lv_at hl 5 rfl) ?_
        obtain ⟨⟨r6, g7, g8, g9, g10, g11, g12, g13, g14⟩, hu, hm⟩ := bd_el hm
        replace hm := nm_9 hm
        refine z_cVi (wc := w_Words_putRight cI cJ qWd qSh qFd qFd_powers qWd_syndromes qFd_logs qWd_coefficients qLc qLc_poly qLc_earlier qLc_spare qLc_places qLc_evaluator qFd_otherForms qRc_bytes qFd_elements Wd_generator Wd_remainder Sh_pattern 512 Sh_depth Sh_wordBytes Sh_e Fd_powers Wd_syndromes Fd_logs Wd_coefficients Lc_poly Lc_earlier Lc_spare Lc_places Lc_evaluator Fd_otherForms Rc_bytes Fd_elements) (wc' := w_Words_putRight cI cJ qWd qSh qFd qFd_powers qWd_syndromes qFd_logs qWd_coefficients qLc qLc_poly qLc_earlier qLc_spare qLc_places qLc_evaluator qFd_otherForms qRc_bytes qFd_elements Wd_generator Wd_remainder Sh_pattern 512 Sh_depth Sh_wordBytes Sh_e Fd_powers g7 Fd_logs g8 g9 g10 g11 g12 g13 Fd_otherForms g14 Fd_elements) (wr := [(qRc, .inr (6, [.ref qSh, .ref qWd, Rc_mixer, Rc_nearest, Rc_found, .ref qRc_bytes, .ref qRc_facts, .ref qRc_putRight, Rc_lastOfChannel, Rc_lastMaster, Rc_differing, Rc_taken])), (qRc_facts, .inl (cI, 144, .inl Rc_facts)), (qRc_putRight, .inl (cI, 128, .inl Rc_putRight))]) (As := [.ref qRc_bytes, .int x2, .int x5]) (rest := []) (c_Words_putRight l D cI cJ tt qWd qSh qFd qFd_powers qWd_syndromes qFd_logs qWd_coefficients qLc qLc_poly qLc_earlier qLc_spare qLc_places qLc_evaluator qFd_otherForms qRc_bytes qFd_elements Wd_generator Wd_remainder Sh_pattern 512 _ Sh_depth Sh_wordBytes Sh_e Fd_powers Wd_syndromes Fd_logs Wd_coefficients Lc_poly Lc_earlier Lc_spare Lc_places Lc_evaluator Fd_otherForms Rc_bytes Fd_elements x2 x5 r6 g7 g8 g9 g10 g11 g12 g13 g14 hu) F ok_Words_putRight rfl k_754 hK hE hP hD hS hA [3, 1, 4, 5, 6, 7, 8, 9, 10, 11, 12, 13, 14, 15, 16, 17] [0, 2, 18] rfl rfl (by decide) (by decide) (by decide) 0 rfl rfl rfl ⟨rfl, rfl, Nat.le_of_ble_eq_true rfl, Nat.le_of_ble_eq_true rfl⟩ ⟨Nat.zero_le _, Nat.zero_le _⟩ rfl hl.1 rfl (Nat.le_of_ble_eq_true rfl) d_Receiver_putWordsRight_31 (fun H locs hP hD hS => ?_)
        have hP : va_P D classes (w_Receiver_putWordsRight cI cJ qRc qSh qRc_facts qWd qFd qFd_powers qWd_syndromes qFd_logs qWd_coefficients qLc qLc_poly qLc_earlier qLc_spare qLc_places qLc_evaluator qFd_otherForms qRc_bytes qFd_elements qRc_putRight Rc_mixer Rc_nearest Rc_found Rc_lastOfChannel Rc_lastMaster Rc_differing Rc_taken Sh_pattern Wd_generator Wd_remainder Sh_depth Sh_wordBytes Sh_e Rc_facts Fd_powers g7 Fd_logs g8 g9 g10 g11 g12 g13 Fd_otherForms g14 Fd_elements Rc_putRight) H := hP.sub [0, 4, 1, 3, 5, 6, 7, 8, 9, 10, 11, 12, 13, 14, 15, 16, 17, 18, 2] rfl
        have hD : va_D A (w_Receiver_putWordsRight cI cJ qRc qSh qRc_facts qWd qFd qFd_powers qWd_syndromes qFd_logs qWd_coefficients qLc qLc_poly qLc_earlier qLc_spare qLc_places qLc_evaluator qFd_otherForms qRc_bytes qFd_elements qRc_putRight Rc_mixer Rc_nearest Rc_found Rc_lastOfChannel Rc_lastMaster Rc_differing Rc_taken Sh_pattern Wd_generator Wd_remainder Sh_depth Sh_wordBytes Sh_e Rc_facts Fd_powers g7 Fd_logs g8 g9 g10 g11 g12 g13 Fd_otherForms g14 Fd_elements Rc_putRight) := hD.sub [0, 4, 1, 3, 5, 6, 7, 8, 9, 10, 11, 12, 13, 14, 15, 16, 17, 18, 2] (by decide) rfl
        refine lv_istore (lv' := [(6, .int r6), (0, .ref qRc), (1, .int x1), (2, .int x2), (3, .int x3), (4, .int x4), (5, .int x5)]) hx hb d_Receiver_putWordsRight_34 hl (by decide) rfl (fun ls hl => ?_)
        refine lv_aload_n hx hb d_Receiver_putWordsRight_36 rfl (lv_at hl 1 rfl) ?_
        refine va_get (D := D) (ci := 6) (v := .ref qRc_putRight) (C := "DeepChannel$Receiver") (T := fT_Receiver) (N := 12) hx hb hts u_Receiver hown hK hP 0 rfl rfl 7 (by decide) (hts _ k_311) (fun _ h9 => h9) rfl d_Receiver_putWordsRight_37 ?_
        refine lv_iload_n hx hb d_Receiver_putWordsRight_40 rfl (lv_at hl 2 rfl) ?_
        refine lv_bipush (v := (8 : Int32)) hx hb d_Receiver_putWordsRight_41 (by decide) ?_
        refine lv_imul hx hb d_Receiver_putWordsRight_43 ?_
        refine lv_iload hx hb d_Receiver_putWordsRight_44 (lv_at hl 6 rfl) ?_
        refine lv_iadd hx hb d_Receiver_putWordsRight_46 ?_
        refine lv_iload hx hb d_Receiver_putWordsRight_47 (lv_at hl 0 rfl) ?_
        refine z_iast hm hx hb hK hP hD hS 18 rfl d_Receiver_putWordsRight_49 (fun g16 hm H locs hP hD hS => ?_)
        have hP : va_P D classes (w_Receiver_putWordsRight cI cJ qRc qSh qRc_facts qWd qFd qFd_powers qWd_syndromes qFd_logs qWd_coefficients qLc qLc_poly qLc_earlier qLc_spare qLc_places qLc_evaluator qFd_otherForms qRc_bytes qFd_elements qRc_putRight Rc_mixer Rc_nearest Rc_found Rc_lastOfChannel Rc_lastMaster Rc_differing Rc_taken Sh_pattern Wd_generator Wd_remainder Sh_depth Sh_wordBytes Sh_e Rc_facts Fd_powers g7 Fd_logs g8 g9 g10 g11 g12 g13 Fd_otherForms g14 Fd_elements g16) H := hP
        have hD : va_D A (w_Receiver_putWordsRight cI cJ qRc qSh qRc_facts qWd qFd qFd_powers qWd_syndromes qFd_logs qWd_coefficients qLc qLc_poly qLc_earlier qLc_spare qLc_places qLc_evaluator qFd_otherForms qRc_bytes qFd_elements qRc_putRight Rc_mixer Rc_nearest Rc_found Rc_lastOfChannel Rc_lastMaster Rc_differing Rc_taken Sh_pattern Wd_generator Wd_remainder Sh_depth Sh_wordBytes Sh_e Rc_facts Fd_powers g7 Fd_logs g8 g9 g10 g11 g12 g13 Fd_otherForms g14 Fd_elements g16) := hD
        refine lv_iload hx hb d_Receiver_putWordsRight_50 (lv_at hl 0 rfl) ?_
        refine lv_iconst (v := (-1 : Int32)) hx hb d_Receiver_putWordsRight_52 (by decide) ?_
        refine z_ifn hm (lv_icmp_ne (tgt := 62) hx hb d_Receiver_putWordsRight_53 (by decide)) (fun hm => ?_) (fun hm => ?_)
        · obtain ⟨v18, ev, hm⟩ := nm_el hm
          refine lv_iinc (v := v18) (lv' := [(3, .int v18), (6, .int r6), (0, .ref qRc), (1, .int x1), (2, .int x2), (4, .int x4), (5, .int x5)]) hx hb d_Receiver_putWordsRight_56 hl (k := 4) rfl (by rw [ev]; rfl) (by decide) rfl (fun ls hl => ?_)
          refine lv_goto (tgt := 69) hx hb d_Receiver_putWordsRight_59 (by decide) ?_
          exact T69 x1 x2 v18 x4 x5 Rc_facts g7 g8 g9 g10 g11 g12 g13 g14 g16 hm _ _ hP hD hS _ (lv_sub hl [2, 3, 4, 0, 5, 6] rfl)
        · refine lv_iload hx hb d_Receiver_putWordsRight_62 (lv_at hl 5 rfl) ?_
          refine lv_iload hx hb d_Receiver_putWordsRight_64 (lv_at hl 0 rfl) ?_
          refine lv_iadd hx hb d_Receiver_putWordsRight_66 ?_
          refine z_nmi hm (fun v17 hm => ?_)
          refine lv_istore (lv' := [(4, .int v17), (6, .int r6), (0, .ref qRc), (1, .int x1), (2, .int x2), (3, .int x3), (5, .int x5)]) hx hb d_Receiver_putWordsRight_67 hl (by decide) rfl (fun ls hl => ?_)
          exact T69 x1 x2 x3 v17 x5 Rc_facts g7 g8 g9 g10 g11 g12 g13 g14 g16 hm _ _ hP hD hS _ (lv_sub hl [2, 3, 4, 5, 0, 6] rfl)
  unfold f_Receiver_putWordsRight at hm
  refine lv_iconst (v := (0 : Int32)) hx hb d_Receiver_putWordsRight_0 (by decide) ?_
  refine lv_istore_n (lv' := [(3, .int (0 : Int32)), (0, .ref qRc), (1, .int x1), (2, .int x2)]) hx hb d_Receiver_putWordsRight_1 rfl hl (by decide) rfl (fun ls hl => ?_)
  refine lv_iconst (v := (0 : Int32)) hx hb d_Receiver_putWordsRight_2 (by decide) ?_
  refine lv_istore (lv' := [(4, .int (0 : Int32)), (3, .int (0 : Int32)), (0, .ref qRc), (1, .int x1), (2, .int x2)]) hx hb d_Receiver_putWordsRight_3 hl (by decide) rfl (fun ls hl => ?_)
  refine lv_iconst (v := (0 : Int32)) hx hb d_Receiver_putWordsRight_5 (by decide) ?_
  refine lv_istore (lv' := [(5, .int (0 : Int32)), (4, .int (0 : Int32)), (3, .int (0 : Int32)), (0, .ref qRc), (1, .int x1), (2, .int x2)]) hx hb d_Receiver_putWordsRight_6 hl (by decide) rfl (fun ls hl => ?_)
  exact T8 10000 x1 x2 (0 : Int32) (0 : Int32) (0 : Int32) Rc_facts Wd_syndromes Wd_coefficients Lc_poly Lc_earlier Lc_spare Lc_places Lc_evaluator Rc_bytes Rc_putRight hm _ _ hP hD hS _ (lv_sub hl [3, 4, 5, 2, 1, 0] rfl)
-- DeepChannel$Receiver.gap(II)I
abbrev b_Receiver_gap : ByteArray := prog_8_method_19_code
abbrev y_Receiver_gap : MethodName := ⟨"DeepChannel$Receiver", "gap", "(II)I"⟩
theorem d_Receiver_gap_0 : decode b_Receiver_gap 0 = .ok (.iload_n 0, 1) := by decide +kernel
theorem d_Receiver_gap_1 : decode b_Receiver_gap 1 = .ok (.iconst (-1), 1) := by decide +kernel
theorem d_Receiver_gap_2 : decode b_Receiver_gap 2 = .ok (.if_icmp .ne 7, 3) := by decide +kernel
theorem d_Receiver_gap_5 : decode b_Receiver_gap 5 = .ok (.iconst 0, 1) := by decide +kernel
theorem d_Receiver_gap_6 : decode b_Receiver_gap 6 = .ok (.goto 12, 3) := by decide +kernel
theorem d_Receiver_gap_9 : decode b_Receiver_gap 9 = .ok (.iload_n 1, 1) := by decide +kernel
theorem d_Receiver_gap_10 : decode b_Receiver_gap 10 = .ok (.iload_n 0, 1) := by decide +kernel
theorem d_Receiver_gap_11 : decode b_Receiver_gap 11 = .ok (.isub, 1) := by decide +kernel
theorem d_Receiver_gap_12 : decode b_Receiver_gap 12 = .ok (.iconst 1, 1) := by decide +kernel
theorem d_Receiver_gap_13 : decode b_Receiver_gap 13 = .ok (.isub, 1) := by decide +kernel
theorem d_Receiver_gap_14 : decode b_Receiver_gap 14 = .ok (.sipush 255, 3) := by decide +kernel
theorem d_Receiver_gap_17 : decode b_Receiver_gap 17 = .ok (.iand, 1) := by decide +kernel
theorem d_Receiver_gap_18 : decode b_Receiver_gap 18 = .ok (.ireturn, 1) := by decide +kernel
theorem ok_Receiver_gap : OKs y_Receiver_gap b_Receiver_gap 2 (some .int) 2 := ⟨k_816, k_815, k_53, by decide +kernel, by decide +kernel, by decide +kernel⟩
abbrev w_Receiver_gap  : va_W := []
def f_Receiver_gap (x0 : Int32) (x1 : Int32) : Option (Int32) :=
  if x0 = (-1 : Int32) then
    some (0 : Int32)
  else
  some (((x1 - x0) - (1 : Int32)) &&& (255 : Int32))
set_option maxHeartbeats 4000000 in
set_option maxRecDepth 100000 in
theorem c_Receiver_gap (l : Launch) (D : va_G) (cI cJ : ClassId) (tt : Nat → Nat) (sz : Nat) (x0 : Int32) (x1 : Int32) (rr : Int32) (hm : f_Receiver_gap x0 x1 = some rr) : CTi l y_Receiver_gap b_Receiver_gap 2 (some .int) (RM 0 0) D cI cJ tt [.int x0, .int x1] (w_Receiver_gap) (w_Receiver_gap) sz rr := by
  refine Met.ofW (cc := b_Receiver_gap) (maxL := 2) (ret := (some .int)) (by decide) rfl ?_
  intro p e s m args below meth c s₁ B hml hv
  obtain ⟨hargs, hsz, hP, hK, hD0, hE⟩ := hv
  have hx := B.exec
  have hb := B.bytes
  have hr := B.returns
  have hts : ∀ w ∈ TB, w.before args s = true := z_mV s (atoms_spec (ws := WD y_Receiver_gap b_Receiver_gap 2 (some .int)) B.pre)
  have hown : s.vm.findClass "DeepChannel$Receiver" = some m.cls := findClass_of_methodNamed B.named
  have hlocks := B.notSynchronized
  subst hsz
  have hD := hD0.self (sz := s.heap.size)
  generalize hAe : va_A (w_Receiver_gap) s.heap.size = A at hD hE ⊢
  have hA : ∀ q : Nat, s.heap.size ≤ q → A q := fun q h => by rw [← hAe]; exact Or.inr h
  have hS : va_S A s.heap s.heap [] := va_S.rf
  refine z_entry (vs := [.int x0, .int x1]) hargs (Nat.le_of_ble_eq_true rfl) (fun ls hl => ?_)
  have hl : lv_has ls 2 [(0, .int x0), (1, .int x1)] := hl
  show W p l e (RM 0 0) s m args below meth c s.heap [] 0 0 _ _
  refine z_qi (fun Q0 hQ => ?_)
  have F : CallFix p m c b_Receiver_gap 2 s args TB "DeepChannel$Receiver" := ⟨hx, hb, hml, hown, hts⟩
  unfold f_Receiver_gap at hm
  refine lv_iload_n hx hb d_Receiver_gap_0 rfl (lv_at hl 0 rfl) ?_
  refine lv_iconst (v := (-1 : Int32)) hx hb d_Receiver_gap_1 (by decide) ?_
  refine z_ifn hm (lv_icmp_ne (tgt := 9) hx hb d_Receiver_gap_2 (by decide)) (fun hm => ?_) (fun hm => ?_)
  · refine lv_iconst (v := (0 : Int32)) hx hb d_Receiver_gap_5 (by decide) ?_
    refine lv_goto (tgt := 18) hx hb d_Receiver_gap_6 (by decide) ?_
    cases hm
    exact z_qo hQ (z_ireti hr hx hb hlocks hK hP hD hS d_Receiver_gap_18)
  · refine lv_iload_n hx hb d_Receiver_gap_9 rfl (lv_at hl 1 rfl) ?_
    refine lv_iload_n hx hb d_Receiver_gap_10 rfl (lv_at hl 0 rfl) ?_
    refine lv_isub hx hb d_Receiver_gap_11 ?_
    refine lv_iconst (v := (1 : Int32)) hx hb d_Receiver_gap_12 (by decide) ?_
    refine lv_isub hx hb d_Receiver_gap_13 ?_
    refine lv_sipush (v := (255 : Int32)) hx hb d_Receiver_gap_14 (by decide) ?_
    refine lv_iand hx hb d_Receiver_gap_17 ?_
    cases hm
    exact z_qo hQ (z_ireti hr hx hb hlocks hK hP hD hS d_Receiver_gap_18)
-- DeepChannel$Receiver.readHeader(II)V
abbrev b_Receiver_readHeader : ByteArray := prog_8_method_18_code
abbrev y_Receiver_readHeader : MethodName := ⟨"DeepChannel$Receiver", "readHeader", "(II)V"⟩
theorem d_Receiver_readHeader_0 : decode b_Receiver_readHeader 0 = .ok (.aload_n 0, 1) := by decide +kernel
theorem d_Receiver_readHeader_1 : decode b_Receiver_readHeader 1 = .ok (.getfield 25, 3) := by decide +kernel
theorem d_Receiver_readHeader_4 : decode b_Receiver_readHeader 4 = .ok (.iload_n 2, 1) := by decide +kernel
theorem d_Receiver_readHeader_5 : decode b_Receiver_readHeader 5 = .ok (.iaload, 1) := by decide +kernel
theorem d_Receiver_readHeader_6 : decode b_Receiver_readHeader 6 = .ok (.bipush 8, 2) := by decide +kernel
theorem d_Receiver_readHeader_8 : decode b_Receiver_readHeader 8 = .ok (.ishl, 1) := by decide +kernel
theorem d_Receiver_readHeader_9 : decode b_Receiver_readHeader 9 = .ok (.aload_n 0, 1) := by decide +kernel
theorem d_Receiver_readHeader_10 : decode b_Receiver_readHeader 10 = .ok (.getfield 25, 3) := by decide +kernel
theorem d_Receiver_readHeader_13 : decode b_Receiver_readHeader 13 = .ok (.iload_n 2, 1) := by decide +kernel
theorem d_Receiver_readHeader_14 : decode b_Receiver_readHeader 14 = .ok (.iconst 1, 1) := by decide +kernel
theorem d_Receiver_readHeader_15 : decode b_Receiver_readHeader 15 = .ok (.iadd, 1) := by decide +kernel
theorem d_Receiver_readHeader_16 : decode b_Receiver_readHeader 16 = .ok (.iaload, 1) := by decide +kernel
theorem d_Receiver_readHeader_17 : decode b_Receiver_readHeader 17 = .ok (.ior, 1) := by decide +kernel
theorem d_Receiver_readHeader_18 : decode b_Receiver_readHeader 18 = .ok (.istore_n 3, 1) := by decide +kernel
theorem d_Receiver_readHeader_19 : decode b_Receiver_readHeader 19 = .ok (.iload_n 3, 1) := by decide +kernel
theorem d_Receiver_readHeader_20 : decode b_Receiver_readHeader 20 = .ok (.iconst 1, 1) := by decide +kernel
theorem d_Receiver_readHeader_21 : decode b_Receiver_readHeader 21 = .ok (.ishr, 1) := by decide +kernel
theorem d_Receiver_readHeader_22 : decode b_Receiver_readHeader 22 = .ok (.bipush 7, 2) := by decide +kernel
theorem d_Receiver_readHeader_24 : decode b_Receiver_readHeader 24 = .ok (.iand, 1) := by decide +kernel
theorem d_Receiver_readHeader_25 : decode b_Receiver_readHeader 25 = .ok (.istore 4, 2) := by decide +kernel
theorem d_Receiver_readHeader_27 : decode b_Receiver_readHeader 27 = .ok (.aload_n 0, 1) := by decide +kernel
theorem d_Receiver_readHeader_28 : decode b_Receiver_readHeader 28 = .ok (.getfield 25, 3) := by decide +kernel
theorem d_Receiver_readHeader_31 : decode b_Receiver_readHeader 31 = .ok (.iload_n 2, 1) := by decide +kernel
theorem d_Receiver_readHeader_32 : decode b_Receiver_readHeader 32 = .ok (.iconst 2, 1) := by decide +kernel
theorem d_Receiver_readHeader_33 : decode b_Receiver_readHeader 33 = .ok (.iadd, 1) := by decide +kernel
theorem d_Receiver_readHeader_34 : decode b_Receiver_readHeader 34 = .ok (.iaload, 1) := by decide +kernel
theorem d_Receiver_readHeader_35 : decode b_Receiver_readHeader 35 = .ok (.istore 5, 2) := by decide +kernel
theorem d_Receiver_readHeader_37 : decode b_Receiver_readHeader 37 = .ok (.aload_n 0, 1) := by decide +kernel
theorem d_Receiver_readHeader_38 : decode b_Receiver_readHeader 38 = .ok (.getfield 25, 3) := by decide +kernel
theorem d_Receiver_readHeader_41 : decode b_Receiver_readHeader 41 = .ok (.iload_n 2, 1) := by decide +kernel
theorem d_Receiver_readHeader_42 : decode b_Receiver_readHeader 42 = .ok (.iconst 3, 1) := by decide +kernel
theorem d_Receiver_readHeader_43 : decode b_Receiver_readHeader 43 = .ok (.iadd, 1) := by decide +kernel
theorem d_Receiver_readHeader_44 : decode b_Receiver_readHeader 44 = .ok (.iaload, 1) := by decide +kernel
theorem d_Receiver_readHeader_45 : decode b_Receiver_readHeader 45 = .ok (.istore 6, 2) := by decide +kernel
theorem d_Receiver_readHeader_47 : decode b_Receiver_readHeader 47 = .ok (.aload_n 0, 1) := by decide +kernel
theorem d_Receiver_readHeader_48 : decode b_Receiver_readHeader 48 = .ok (.iload_n 1, 1) := by decide +kernel
theorem d_Receiver_readHeader_49 : decode b_Receiver_readHeader 49 = .ok (.iconst 5, 1) := by decide +kernel
theorem d_Receiver_readHeader_50 : decode b_Receiver_readHeader 50 = .ok (.iload_n 3, 1) := by decide +kernel
theorem d_Receiver_readHeader_51 : decode b_Receiver_readHeader 51 = .ok (.iconst 4, 1) := by decide +kernel
theorem d_Receiver_readHeader_52 : decode b_Receiver_readHeader 52 = .ok (.ishr, 1) := by decide +kernel
theorem d_Receiver_readHeader_53 : decode b_Receiver_readHeader 53 = .ok (.sipush 1023, 3) := by decide +kernel
theorem d_Receiver_readHeader_56 : decode b_Receiver_readHeader 56 = .ok (.iand, 1) := by decide +kernel
theorem d_Receiver_readHeader_57 : decode b_Receiver_readHeader 57 = .ok (.invokevirtual 101, 3) := by decide +kernel
theorem d_Receiver_readHeader_60 : decode b_Receiver_readHeader 60 = .ok (.aload_n 0, 1) := by decide +kernel
theorem d_Receiver_readHeader_61 : decode b_Receiver_readHeader 61 = .ok (.iload_n 1, 1) := by decide +kernel
theorem d_Receiver_readHeader_62 : decode b_Receiver_readHeader 62 = .ok (.bipush 6, 2) := by decide +kernel
theorem d_Receiver_readHeader_64 : decode b_Receiver_readHeader 64 = .ok (.iload 4, 2) := by decide +kernel
theorem d_Receiver_readHeader_66 : decode b_Receiver_readHeader 66 = .ok (.invokevirtual 101, 3) := by decide +kernel
theorem d_Receiver_readHeader_69 : decode b_Receiver_readHeader 69 = .ok (.aload_n 0, 1) := by decide +kernel
theorem d_Receiver_readHeader_70 : decode b_Receiver_readHeader 70 = .ok (.iload_n 1, 1) := by decide +kernel
theorem d_Receiver_readHeader_71 : decode b_Receiver_readHeader 71 = .ok (.bipush 7, 2) := by decide +kernel
theorem d_Receiver_readHeader_73 : decode b_Receiver_readHeader 73 = .ok (.aload_n 0, 1) := by decide +kernel
theorem d_Receiver_readHeader_74 : decode b_Receiver_readHeader 74 = .ok (.getfield 38, 3) := by decide +kernel
theorem d_Receiver_readHeader_77 : decode b_Receiver_readHeader 77 = .ok (.iload 5, 2) := by decide +kernel
theorem d_Receiver_readHeader_79 : decode b_Receiver_readHeader 79 = .ok (.invokestatic 141, 3) := by decide +kernel
theorem d_Receiver_readHeader_82 : decode b_Receiver_readHeader 82 = .ok (.invokevirtual 101, 3) := by decide +kernel
theorem d_Receiver_readHeader_85 : decode b_Receiver_readHeader 85 = .ok (.aload_n 0, 1) := by decide +kernel
theorem d_Receiver_readHeader_86 : decode b_Receiver_readHeader 86 = .ok (.iload_n 1, 1) := by decide +kernel
theorem d_Receiver_readHeader_87 : decode b_Receiver_readHeader 87 = .ok (.bipush 8, 2) := by decide +kernel
theorem d_Receiver_readHeader_89 : decode b_Receiver_readHeader 89 = .ok (.aload_n 0, 1) := by decide +kernel
theorem d_Receiver_readHeader_90 : decode b_Receiver_readHeader 90 = .ok (.getfield 35, 3) := by decide +kernel
theorem d_Receiver_readHeader_93 : decode b_Receiver_readHeader 93 = .ok (.iload 4, 2) := by decide +kernel
theorem d_Receiver_readHeader_95 : decode b_Receiver_readHeader 95 = .ok (.iaload, 1) := by decide +kernel
theorem d_Receiver_readHeader_96 : decode b_Receiver_readHeader 96 = .ok (.iload 6, 2) := by decide +kernel
theorem d_Receiver_readHeader_98 : decode b_Receiver_readHeader 98 = .ok (.invokestatic 141, 3) := by decide +kernel
theorem d_Receiver_readHeader_101 : decode b_Receiver_readHeader 101 = .ok (.invokevirtual 101, 3) := by decide +kernel
theorem d_Receiver_readHeader_104 : decode b_Receiver_readHeader 104 = .ok (.aload_n 0, 1) := by decide +kernel
theorem d_Receiver_readHeader_105 : decode b_Receiver_readHeader 105 = .ok (.iload 5, 2) := by decide +kernel
theorem d_Receiver_readHeader_107 : decode b_Receiver_readHeader 107 = .ok (.putfield 38, 3) := by decide +kernel
theorem d_Receiver_readHeader_110 : decode b_Receiver_readHeader 110 = .ok (.aload_n 0, 1) := by decide +kernel
theorem d_Receiver_readHeader_111 : decode b_Receiver_readHeader 111 = .ok (.getfield 35, 3) := by decide +kernel
theorem d_Receiver_readHeader_114 : decode b_Receiver_readHeader 114 = .ok (.iload 4, 2) := by decide +kernel
theorem d_Receiver_readHeader_116 : decode b_Receiver_readHeader 116 = .ok (.iload 6, 2) := by decide +kernel
theorem d_Receiver_readHeader_118 : decode b_Receiver_readHeader 118 = .ok (.iastore, 1) := by decide +kernel
theorem d_Receiver_readHeader_119 : decode b_Receiver_readHeader 119 = .ok (.return_, 1) := by decide +kernel
theorem ok_Receiver_readHeader : OKv y_Receiver_readHeader b_Receiver_readHeader 7 none "DeepChannel$Receiver" 2 := ⟨k_813, k_812, k_15, k_53, by decide +kernel, by decide +kernel, by decide +kernel⟩
abbrev w_Receiver_readHeader (cI cJ : ClassId) (qRc qRc_bytes qRc_facts qRc_lastOfChannel : Nat) (Rc_shape Rc_words Rc_mixer Rc_nearest Rc_found Rc_putRight Rc_differing Rc_taken : Value) (Rc_lastMaster : Int32) (Rc_bytes : Nat → Int32) (Rc_facts : Nat → Int32) (Rc_lastOfChannel : Nat → Int32) : va_W := [(qRc, .inr (6, [Rc_shape, Rc_words, Rc_mixer, Rc_nearest, Rc_found, .ref qRc_bytes, .ref qRc_facts, Rc_putRight, .ref qRc_lastOfChannel, .int Rc_lastMaster, Rc_differing, Rc_taken])), (qRc_bytes, .inl (cI, 512, .inl Rc_bytes)), (qRc_facts, .inl (cI, 144, .inl Rc_facts)), (qRc_lastOfChannel, .inl (cI, 8, .inl Rc_lastOfChannel))]
def f_Receiver_readHeader (Rc_lastMaster : Int32) (Rc_bytes : Nat → Int32) (Rc_facts : Nat → Int32) (Rc_lastOfChannel : Nat → Int32) (x1 : Int32) (x2 : Int32) : Option (Int32 × (Nat → Int32) × (Nat → Int32)) :=
  rdI Rc_bytes 512 x2 fun v1 =>
  rdI Rc_bytes 512 (x2 + (1 : Int32)) fun v2 =>
  nm ((v1 <<< ((8 : Int32) &&& 31)) ||| v2) fun v3 =>
  nm ((v3 >>> ((1 : Int32) &&& 31)) &&& (7 : Int32)) fun v4 =>
  rdI Rc_bytes 512 (x2 + (2 : Int32)) fun v5 =>
  rdI Rc_bytes 512 (x2 + (3 : Int32)) fun v6 =>
  bd (f_Receiver_setFact Rc_facts x1 (5 : Int32) ((v3 >>> ((4 : Int32) &&& 31)) &&& (1023 : Int32))) fun u8 =>
  nm u8 fun g7 =>
  bd (f_Receiver_setFact g7 x1 (6 : Int32) v4) fun u10 =>
  nm u10 fun g9 =>
  bd (f_Receiver_gap Rc_lastMaster v5) fun u12 =>
  nm u12 fun r11 =>
  bd (f_Receiver_setFact g9 x1 (7 : Int32) r11) fun u14 =>
  nm u14 fun g13 =>
  rdI Rc_lastOfChannel 8 v4 fun v15 =>
  bd (f_Receiver_gap v15 v6) fun u17 =>
  nm u17 fun r16 =>
  bd (f_Receiver_setFact g13 x1 (8 : Int32) r16) fun u19 =>
  nm u19 fun g18 =>
  wrI Rc_lastOfChannel 8 v4 v6 fun g20 =>
  some (v5, g18, g20)
set_option maxHeartbeats 4000000 in
set_option maxRecDepth 100000 in
theorem c_Receiver_readHeader (l : Launch) (D : va_G) (cI cJ : ClassId) (tt : Nat → Nat) (qRc qRc_bytes qRc_facts qRc_lastOfChannel : Nat) (Rc_shape Rc_words Rc_mixer Rc_nearest Rc_found Rc_putRight Rc_differing Rc_taken : Value) (sz : Nat) (Rc_lastMaster : Int32) (Rc_bytes : Nat → Int32) (Rc_facts : Nat → Int32) (Rc_lastOfChannel : Nat → Int32) (x1 : Int32) (x2 : Int32) (Rc_lastMaster' : Int32) (Rc_facts' : Nat → Int32) (Rc_lastOfChannel' : Nat → Int32) (hm : f_Receiver_readHeader Rc_lastMaster Rc_bytes Rc_facts Rc_lastOfChannel x1 x2 = some (Rc_lastMaster', Rc_facts', Rc_lastOfChannel')) : CTv l y_Receiver_readHeader b_Receiver_readHeader 7 none (RM 1 23) D cI cJ tt [.ref qRc, .int x1, .int x2] (w_Receiver_readHeader cI cJ qRc qRc_bytes qRc_facts qRc_lastOfChannel Rc_shape Rc_words Rc_mixer Rc_nearest Rc_found Rc_putRight Rc_differing Rc_taken Rc_lastMaster Rc_bytes Rc_facts Rc_lastOfChannel) (w_Receiver_readHeader cI cJ qRc qRc_bytes qRc_facts qRc_lastOfChannel Rc_shape Rc_words Rc_mixer Rc_nearest Rc_found Rc_putRight Rc_differing Rc_taken Rc_lastMaster' Rc_bytes Rc_facts' Rc_lastOfChannel') sz := by
  refine Met.ofW (cc := b_Receiver_readHeader) (maxL := 7) (ret := none) (by decide) rfl ?_
  intro p e s m args below meth c s₁ B hml hv
  obtain ⟨hargs, hsz, hP, hK, hD0, hE⟩ := hv
  have hx := B.exec
  have hb := B.bytes
  have hr := B.returns
  have hts : ∀ w ∈ TB, w.before args s = true := z_mV s (atoms_spec (ws := WD y_Receiver_readHeader b_Receiver_readHeader 7 none) B.pre)
  have hown : s.vm.findClass "DeepChannel$Receiver" = some m.cls := findClass_of_methodNamed B.named
  have hlocks := B.notSynchronized
  subst hsz
  have hD := hD0.self (sz := s.heap.size)
  generalize hAe : va_A (w_Receiver_readHeader cI cJ qRc qRc_bytes qRc_facts qRc_lastOfChannel Rc_shape Rc_words Rc_mixer Rc_nearest Rc_found Rc_putRight Rc_differing Rc_taken Rc_lastMaster Rc_bytes Rc_facts Rc_lastOfChannel) s.heap.size = A at hD hE ⊢
  have hA : ∀ q : Nat, s.heap.size ≤ q → A q := fun q h => by rw [← hAe]; exact Or.inr h
  have hS : va_S A s.heap s.heap [] := va_S.rf
  refine z_entry (vs := [.ref qRc, .int x1, .int x2]) hargs (Nat.le_of_ble_eq_true rfl) (fun ls hl => ?_)
  have hl : lv_has ls 7 [(0, .ref qRc), (1, .int x1), (2, .int x2)] := hl
  show W p l e (RM 1 23) s m args below meth c s.heap [] 0 0 _ _
  refine z_qi (fun Q0 hQ => ?_)
  have F : CallFix p m c b_Receiver_readHeader 7 s args TB "DeepChannel$Receiver" := ⟨hx, hb, hml, hown, hts⟩
  unfold f_Receiver_readHeader at hm
  refine lv_aload_n hx hb d_Receiver_readHeader_0 rfl (lv_at hl 0 rfl) ?_
  refine va_get (D := D) (ci := 6) (v := .ref qRc_bytes) (C := "DeepChannel$Receiver") (T := fT_Receiver) (N := 12) hx hb hts u_Receiver hown hK hP 0 rfl rfl 5 (by decide) (hts _ k_309) (fun _ h9 => h9) rfl d_Receiver_readHeader_1 ?_
  refine lv_iload_n hx hb d_Receiver_readHeader_4 rfl (lv_at hl 2 rfl) ?_
  refine z_iald hm hx hb hK hP 1 rfl d_Receiver_readHeader_5 (fun v1 hm => ?_)
  refine lv_bipush (v := (8 : Int32)) hx hb d_Receiver_readHeader_6 (by decide) ?_
  refine lv_ishl hx hb d_Receiver_readHeader_8 ?_
  refine lv_aload_n hx hb d_Receiver_readHeader_9 rfl (lv_at hl 0 rfl) ?_
  refine va_get (D := D) (ci := 6) (v := .ref qRc_bytes) (C := "DeepChannel$Receiver") (T := fT_Receiver) (N := 12) hx hb hts u_Receiver hown hK hP 0 rfl rfl 5 (by decide) (hts _ k_309) (fun _ h9 => h9) rfl d_Receiver_readHeader_10 ?_
  refine lv_iload_n hx hb d_Receiver_readHeader_13 rfl (lv_at hl 2 rfl) ?_
  refine lv_iconst (v := (1 : Int32)) hx hb d_Receiver_readHeader_14 (by decide) ?_
  refine lv_iadd hx hb d_Receiver_readHeader_15 ?_
  refine z_iald hm hx hb hK hP 1 rfl d_Receiver_readHeader_16 (fun v2 hm => ?_)
  refine lv_ior hx hb d_Receiver_readHeader_17 ?_
  refine z_nmi hm (fun v3 hm => ?_)
  refine lv_istore_n (lv' := [(3, .int v3), (0, .ref qRc), (1, .int x1), (2, .int x2)]) hx hb d_Receiver_readHeader_18 rfl hl (by decide) rfl (fun ls hl => ?_)
  refine lv_iload_n hx hb d_Receiver_readHeader_19 rfl (lv_at hl 0 rfl) ?_
  refine lv_iconst (v := (1 : Int32)) hx hb d_Receiver_readHeader_20 (by decide) ?_
  refine lv_ishr hx hb d_Receiver_readHeader_21 ?_
  refine lv_bipush (v := (7 : Int32)) hx hb d_Receiver_readHeader_22 (by decide) ?_
  refine lv_iand hx hb d_Receiver_readHeader_24 ?_
  refine z_nmi hm (fun v4 hm => ?_)
  refine lv_istore (lv' := [(4, .int v4), (3, .int v3), (0, .ref qRc), (1, .int x1), (2, .int x2)]) hx hb d_Receiver_readHeader_25 hl (by decide) rfl (fun ls hl => ?_)
  refine lv_aload_n hx hb d_Receiver_readHeader_27 rfl (lv_at hl 2 rfl) ?_
  refine va_get (D := D) (ci := 6) (v := .ref qRc_bytes) (C := "DeepChannel$Receiver") (T := fT_Receiver) (N := 12) hx hb hts u_Receiver hown hK hP 0 rfl rfl 5 (by decide) (hts _ k_309) (fun _ h9 => h9) rfl d_Receiver_readHeader_28 ?_
  refine lv_iload_n hx hb d_Receiver_readHeader_31 rfl (lv_at hl 4 rfl) ?_
  refine lv_iconst (v := (2 : Int32)) hx hb d_Receiver_readHeader_32 (by decide) ?_
  refine lv_iadd hx hb d_Receiver_readHeader_33 ?_
  refine z_iald hm hx hb hK hP 1 rfl d_Receiver_readHeader_34 (fun v5 hm => ?_)
  refine lv_istore (lv' := [(5, .int v5), (4, .int v4), (3, .int v3), (0, .ref qRc), (1, .int x1), (2, .int x2)]) hx hb d_Receiver_readHeader_35 hl (by decide) rfl (fun ls hl => ?_)
  refine lv_aload_n hx hb d_Receiver_readHeader_37 rfl (lv_at hl 3 rfl) ?_
  refine va_get (D := D) (ci := 6) (v := .ref qRc_bytes) (C := "DeepChannel$Receiver") (T := fT_Receiver) (N := 12) hx hb hts u_Receiver hown hK hP 0 rfl rfl 5 (by decide) (hts _ k_309) (fun _ h9 => h9) rfl d_Receiver_readHeader_38 ?_
  refine lv_iload_n hx hb d_Receiver_readHeader_41 rfl (lv_at hl 5 rfl) ?_
  refine lv_iconst (v := (3 : Int32)) hx hb d_Receiver_readHeader_42 (by decide) ?_
  refine lv_iadd hx hb d_Receiver_readHeader_43 ?_
  refine z_iald hm hx hb hK hP 1 rfl d_Receiver_readHeader_44 (fun v6 hm => ?_)
  refine lv_istore (lv' := [(6, .int v6), (5, .int v5), (4, .int v4), (3, .int v3), (0, .ref qRc), (1, .int x1), (2, .int x2)]) hx hb d_Receiver_readHeader_45 hl (by decide) rfl (fun ls hl => ?_)
  refine lv_aload_n hx hb d_Receiver_readHeader_47 rfl (lv_at hl 4 rfl) ?_
  refine lv_iload_n hx hb d_Receiver_readHeader_48 rfl (lv_at hl 5 rfl) ?_
  refine lv_iconst (v := (5 : Int32)) hx hb d_Receiver_readHeader_49 (by decide) ?_
  refine lv_iload_n hx hb d_Receiver_readHeader_50 rfl (lv_at hl 3 rfl) ?_
  refine lv_iconst (v := (4 : Int32)) hx hb d_Receiver_readHeader_51 (by decide) ?_
  refine lv_ishr hx hb d_Receiver_readHeader_52 ?_
  refine lv_sipush (v := (1023 : Int32)) hx hb d_Receiver_readHeader_53 (by decide) ?_
  refine lv_iand hx hb d_Receiver_readHeader_56 ?_
  obtain ⟨g7, hu, hm⟩ := bd_el hm
  replace hm := nm_1 hm
  refine z_cVv (wc := w_Receiver_setFact cI cJ qRc qRc_facts Rc_shape Rc_words Rc_mixer Rc_nearest Rc_found (.ref qRc_bytes) Rc_putRight (.ref qRc_lastOfChannel) (.int Rc_lastMaster) Rc_differing Rc_taken Rc_facts) (wc' := w_Receiver_setFact cI cJ qRc qRc_facts Rc_shape Rc_words Rc_mixer Rc_nearest Rc_found (.ref qRc_bytes) Rc_putRight (.ref qRc_lastOfChannel) (.int Rc_lastMaster) Rc_differing Rc_taken g7) (wr := [(qRc_bytes, .inl (cI, 512, .inl Rc_bytes)), (qRc_lastOfChannel, .inl (cI, 8, .inl Rc_lastOfChannel))]) (As := [.int x1, .int (5 : Int32), .int ((v3 >>> ((4 : Int32) &&& 31)) &&& (1023 : Int32))]) (rest := []) (c_Receiver_setFact l D cI cJ tt qRc qRc_facts Rc_shape Rc_words Rc_mixer Rc_nearest Rc_found (.ref qRc_bytes) Rc_putRight (.ref qRc_lastOfChannel) (.int Rc_lastMaster) Rc_differing Rc_taken _ Rc_facts x1 (5 : Int32) ((v3 >>> ((4 : Int32) &&& 31)) &&& (1023 : Int32)) g7 hu) F ok_Receiver_setFact rfl k_732 hK hE hP hD hS hA [0, 2] [1, 3] rfl rfl (by decide) (by decide) (by decide) 0 rfl rfl rfl ⟨rfl, rfl, Nat.le_of_ble_eq_true rfl, Nat.le_of_ble_eq_true rfl⟩ ⟨Nat.zero_le _, Nat.zero_le _⟩ rfl hl.1 rfl (Nat.le_of_ble_eq_true rfl) d_Receiver_readHeader_57 (fun H locs hP hD hS => ?_)
  have hP : va_P D classes (w_Receiver_readHeader cI cJ qRc qRc_bytes qRc_facts qRc_lastOfChannel Rc_shape Rc_words Rc_mixer Rc_nearest Rc_found Rc_putRight Rc_differing Rc_taken Rc_lastMaster Rc_bytes g7 Rc_lastOfChannel) H := hP.sub [2, 0, 3, 1] rfl
  have hD : va_D A (w_Receiver_readHeader cI cJ qRc qRc_bytes qRc_facts qRc_lastOfChannel Rc_shape Rc_words Rc_mixer Rc_nearest Rc_found Rc_putRight Rc_differing Rc_taken Rc_lastMaster Rc_bytes g7 Rc_lastOfChannel) := hD.sub [2, 0, 3, 1] (by decide) rfl
  refine lv_aload_n hx hb d_Receiver_readHeader_60 rfl (lv_at hl 4 rfl) ?_
  refine lv_iload_n hx hb d_Receiver_readHeader_61 rfl (lv_at hl 5 rfl) ?_
  refine lv_bipush (v := (6 : Int32)) hx hb d_Receiver_readHeader_62 (by decide) ?_
  refine lv_iload hx hb d_Receiver_readHeader_64 (lv_at hl 2 rfl) ?_
  obtain ⟨g9, hu, hm⟩ := bd_el hm
  replace hm := nm_1 hm
  refine z_cVv (wc := w_Receiver_setFact cI cJ qRc qRc_facts Rc_shape Rc_words Rc_mixer Rc_nearest Rc_found (.ref qRc_bytes) Rc_putRight (.ref qRc_lastOfChannel) (.int Rc_lastMaster) Rc_differing Rc_taken g7) (wc' := w_Receiver_setFact cI cJ qRc qRc_facts Rc_shape Rc_words Rc_mixer Rc_nearest Rc_found (.ref qRc_bytes) Rc_putRight (.ref qRc_lastOfChannel) (.int Rc_lastMaster) Rc_differing Rc_taken g9) (wr := [(qRc_bytes, .inl (cI, 512, .inl Rc_bytes)), (qRc_lastOfChannel, .inl (cI, 8, .inl Rc_lastOfChannel))]) (As := [.int x1, .int (6 : Int32), .int v4]) (rest := []) (c_Receiver_setFact l D cI cJ tt qRc qRc_facts Rc_shape Rc_words Rc_mixer Rc_nearest Rc_found (.ref qRc_bytes) Rc_putRight (.ref qRc_lastOfChannel) (.int Rc_lastMaster) Rc_differing Rc_taken _ g7 x1 (6 : Int32) v4 g9 hu) F ok_Receiver_setFact rfl k_732 hK hE hP hD hS hA [0, 2] [1, 3] rfl rfl (by decide) (by decide) (by decide) 0 rfl rfl rfl ⟨rfl, rfl, Nat.le_of_ble_eq_true rfl, Nat.le_of_ble_eq_true rfl⟩ ⟨Nat.zero_le _, Nat.zero_le _⟩ rfl hl.1 rfl (Nat.le_of_ble_eq_true rfl) d_Receiver_readHeader_66 (fun H locs hP hD hS => ?_)
  have hP : va_P D classes (w_Receiver_readHeader cI cJ qRc qRc_bytes qRc_facts qRc_lastOfChannel Rc_shape Rc_words Rc_mixer Rc_nearest Rc_found Rc_putRight Rc_differing Rc_taken Rc_lastMaster Rc_bytes g9 Rc_lastOfChannel) H := hP.sub [2, 0, 3, 1] rfl
  have hD : va_D A (w_Receiver_readHeader cI cJ qRc qRc_bytes qRc_facts qRc_lastOfChannel Rc_shape Rc_words Rc_mixer Rc_nearest Rc_found Rc_putRight Rc_differing Rc_taken Rc_lastMaster Rc_bytes g9 Rc_lastOfChannel) := hD.sub [2, 0, 3, 1] (by decide) rfl
  refine lv_aload_n hx hb d_Receiver_readHeader_69 rfl (lv_at hl 4 rfl) ?_
  refine lv_iload_n hx hb d_Receiver_readHeader_70 rfl (lv_at hl 5 rfl) ?_
  refine lv_bipush (v := (7 : Int32)) hx hb d_Receiver_readHeader_71 (by decide) ?_
  refine lv_aload_n hx hb d_Receiver_readHeader_73 rfl (lv_at hl 4 rfl) ?_
  refine va_get (D := D) (ci := 6) (v := .int Rc_lastMaster) (C := "DeepChannel$Receiver") (T := fT_Receiver) (N := 12) hx hb hts u_Receiver hown hK hP 0 rfl rfl 9 (by decide) (hts _ k_313) (fun _ h9 => h9) rfl d_Receiver_readHeader_74 ?_
  refine lv_iload hx hb d_Receiver_readHeader_77 (lv_at hl 1 rfl) ?_
  obtain ⟨r11, hu, hm⟩ := bd_el hm
  replace hm := nm_1 hm
  refine z_cSi (wc := w_Receiver_gap) (wc' := w_Receiver_gap) (wr := [(qRc, .inr (6, [Rc_shape, Rc_words, Rc_mixer, Rc_nearest, Rc_found, .ref qRc_bytes, .ref qRc_facts, Rc_putRight, .ref qRc_lastOfChannel, .int Rc_lastMaster, Rc_differing, Rc_taken])), (qRc_bytes, .inl (cI, 512, .inl Rc_bytes)), (qRc_facts, .inl (cI, 144, .inl g9)), (qRc_lastOfChannel, .inl (cI, 8, .inl Rc_lastOfChannel))]) (As := [.int Rc_lastMaster, .int v5]) (rest := [.int (7 : Int32), .int x1, .ref qRc]) (c_Receiver_gap l D cI cJ tt _ Rc_lastMaster v5 r11 hu) F ok_Receiver_gap k_814 hK hE hP hD hS hA [] [0, 1, 2, 3] rfl rfl (by decide) (by decide) (by decide) ⟨rfl, rfl, Nat.le_of_ble_eq_true rfl, Nat.le_of_ble_eq_true rfl⟩ ⟨Nat.zero_le _, Nat.zero_le _⟩ rfl hl.1 rfl (Nat.le_of_ble_eq_true rfl) d_Receiver_readHeader_79 (fun H locs hP hD hS => ?_)
  have hP : va_P D classes (w_Receiver_readHeader cI cJ qRc qRc_bytes qRc_facts qRc_lastOfChannel Rc_shape Rc_words Rc_mixer Rc_nearest Rc_found Rc_putRight Rc_differing Rc_taken Rc_lastMaster Rc_bytes g9 Rc_lastOfChannel) H := hP.sub [0, 1, 2, 3] rfl
  have hD : va_D A (w_Receiver_readHeader cI cJ qRc qRc_bytes qRc_facts qRc_lastOfChannel Rc_shape Rc_words Rc_mixer Rc_nearest Rc_found Rc_putRight Rc_differing Rc_taken Rc_lastMaster Rc_bytes g9 Rc_lastOfChannel) := hD.sub [0, 1, 2, 3] (by decide) rfl
  obtain ⟨g13, hu, hm⟩ := bd_el hm
  replace hm := nm_1 hm
  refine z_cVv (wc := w_Receiver_setFact cI cJ qRc qRc_facts Rc_shape Rc_words Rc_mixer Rc_nearest Rc_found (.ref qRc_bytes) Rc_putRight (.ref qRc_lastOfChannel) (.int Rc_lastMaster) Rc_differing Rc_taken g9) (wc' := w_Receiver_setFact cI cJ qRc qRc_facts Rc_shape Rc_words Rc_mixer Rc_nearest Rc_found (.ref qRc_bytes) Rc_putRight (.ref qRc_lastOfChannel) (.int Rc_lastMaster) Rc_differing Rc_taken g13) (wr := [(qRc_bytes, .inl (cI, 512, .inl Rc_bytes)), (qRc_lastOfChannel, .inl (cI, 8, .inl Rc_lastOfChannel))]) (As := [.int x1, .int (7 : Int32), .int r11]) (rest := []) (c_Receiver_setFact l D cI cJ tt qRc qRc_facts Rc_shape Rc_words Rc_mixer Rc_nearest Rc_found (.ref qRc_bytes) Rc_putRight (.ref qRc_lastOfChannel) (.int Rc_lastMaster) Rc_differing Rc_taken _ g9 x1 (7 : Int32) r11 g13 hu) F ok_Receiver_setFact rfl k_732 hK hE hP hD hS hA [0, 2] [1, 3] rfl rfl (by decide) (by decide) (by decide) 0 rfl rfl rfl ⟨rfl, rfl, Nat.le_of_ble_eq_true rfl, Nat.le_of_ble_eq_true rfl⟩ ⟨Nat.zero_le _, Nat.zero_le _⟩ rfl hl.1 rfl (Nat.le_of_ble_eq_true rfl) d_Receiver_readHeader_82 (fun H locs hP hD hS => ?_)
  have hP : va_P D classes (w_Receiver_readHeader cI cJ qRc qRc_bytes qRc_facts qRc_lastOfChannel Rc_shape Rc_words Rc_mixer Rc_nearest Rc_found Rc_putRight Rc_differing Rc_taken Rc_lastMaster Rc_bytes g13 Rc_lastOfChannel) H := hP.sub [2, 0, 3, 1] rfl
  have hD : va_D A (w_Receiver_readHeader cI cJ qRc qRc_bytes qRc_facts qRc_lastOfChannel Rc_shape Rc_words Rc_mixer Rc_nearest Rc_found Rc_putRight Rc_differing Rc_taken Rc_lastMaster Rc_bytes g13 Rc_lastOfChannel) := hD.sub [2, 0, 3, 1] (by decide) rfl
  refine lv_aload_n hx hb d_Receiver_readHeader_85 rfl (lv_at hl 4 rfl) ?_
  refine lv_iload_n hx hb d_Receiver_readHeader_86 rfl (lv_at hl 5 rfl) ?_
  refine lv_bipush (v := (8 : Int32)) hx hb d_Receiver_readHeader_87 (by decide) ?_
  refine lv_aload_n hx hb d_Receiver_readHeader_89 rfl (lv_at hl 4 rfl) ?_
  refine va_get (D := D) (ci := 6) (v := .ref qRc_lastOfChannel) (C := "DeepChannel$Receiver") (T := fT_Receiver) (N := 12) hx hb hts u_Receiver hown hK hP 0 rfl rfl 8 (by decide) (hts _ k_312) (fun _ h9 => h9) rfl d_Receiver_readHeader_90 ?_
  refine lv_iload hx hb d_Receiver_readHeader_93 (lv_at hl 2 rfl) ?_
  refine z_iald hm hx hb hK hP 3 rfl d_Receiver_readHeader_95 (fun v15 hm => ?_)
  refine lv_iload hx hb d_Receiver_readHeader_96 (lv_at hl 0 rfl) ?_
  obtain ⟨r16, hu, hm⟩ := bd_el hm
  replace hm := nm_1 hm
  refine z_cSi (wc := w_Receiver_gap) (wc' := w_Receiver_gap) (wr := [(qRc, .inr (6, [Rc_shape, Rc_words, Rc_mixer, Rc_nearest, Rc_found, .ref qRc_bytes, .ref qRc_facts, Rc_putRight, .ref qRc_lastOfChannel, .int Rc_lastMaster, Rc_differing, Rc_taken])), (qRc_bytes, .inl (cI, 512, .inl Rc_bytes)), (qRc_facts, .inl (cI, 144, .inl g13)), (qRc_lastOfChannel, .inl (cI, 8, .inl Rc_lastOfChannel))]) (As := [.int v15, .int v6]) (rest := [.int (8 : Int32), .int x1, .ref qRc]) (c_Receiver_gap l D cI cJ tt _ v15 v6 r16 hu) F ok_Receiver_gap k_814 hK hE hP hD hS hA [] [0, 1, 2, 3] rfl rfl (by decide) (by decide) (by decide) ⟨rfl, rfl, Nat.le_of_ble_eq_true rfl, Nat.le_of_ble_eq_true rfl⟩ ⟨Nat.zero_le _, Nat.zero_le _⟩ rfl hl.1 rfl (Nat.le_of_ble_eq_true rfl) d_Receiver_readHeader_98 (fun H locs hP hD hS => ?_)
  have hP : va_P D classes (w_Receiver_readHeader cI cJ qRc qRc_bytes qRc_facts qRc_lastOfChannel Rc_shape Rc_words Rc_mixer Rc_nearest Rc_found Rc_putRight Rc_differing Rc_taken Rc_lastMaster Rc_bytes g13 Rc_lastOfChannel) H := hP.sub [0, 1, 2, 3] rfl
  have hD : va_D A (w_Receiver_readHeader cI cJ qRc qRc_bytes qRc_facts qRc_lastOfChannel Rc_shape Rc_words Rc_mixer Rc_nearest Rc_found Rc_putRight Rc_differing Rc_taken Rc_lastMaster Rc_bytes g13 Rc_lastOfChannel) := hD.sub [0, 1, 2, 3] (by decide) rfl
  obtain ⟨g18, hu, hm⟩ := bd_el hm
  replace hm := nm_1 hm
  refine z_cVv (wc := w_Receiver_setFact cI cJ qRc qRc_facts Rc_shape Rc_words Rc_mixer Rc_nearest Rc_found (.ref qRc_bytes) Rc_putRight (.ref qRc_lastOfChannel) (.int Rc_lastMaster) Rc_differing Rc_taken g13) (wc' := w_Receiver_setFact cI cJ qRc qRc_facts Rc_shape Rc_words Rc_mixer Rc_nearest Rc_found (.ref qRc_bytes) Rc_putRight (.ref qRc_lastOfChannel) (.int Rc_lastMaster) Rc_differing Rc_taken g18) (wr := [(qRc_bytes, .inl (cI, 512, .inl Rc_bytes)), (qRc_lastOfChannel, .inl (cI, 8, .inl Rc_lastOfChannel))]) (As := [.int x1, .int (8 : Int32), .int r16]) (rest := []) (c_Receiver_setFact l D cI cJ tt qRc qRc_facts Rc_shape Rc_words Rc_mixer Rc_nearest Rc_found (.ref qRc_bytes) Rc_putRight (.ref qRc_lastOfChannel) (.int Rc_lastMaster) Rc_differing Rc_taken _ g13 x1 (8 : Int32) r16 g18 hu) F ok_Receiver_setFact rfl k_732 hK hE hP hD hS hA [0, 2] [1, 3] rfl rfl (by decide) (by decide) (by decide) 0 rfl rfl rfl ⟨rfl, rfl, Nat.le_of_ble_eq_true rfl, Nat.le_of_ble_eq_true rfl⟩ ⟨Nat.zero_le _, Nat.zero_le _⟩ rfl hl.1 rfl (Nat.le_of_ble_eq_true rfl) d_Receiver_readHeader_101 (fun H locs hP hD hS => ?_)
  have hP : va_P D classes (w_Receiver_readHeader cI cJ qRc qRc_bytes qRc_facts qRc_lastOfChannel Rc_shape Rc_words Rc_mixer Rc_nearest Rc_found Rc_putRight Rc_differing Rc_taken Rc_lastMaster Rc_bytes g18 Rc_lastOfChannel) H := hP.sub [2, 0, 3, 1] rfl
  have hD : va_D A (w_Receiver_readHeader cI cJ qRc qRc_bytes qRc_facts qRc_lastOfChannel Rc_shape Rc_words Rc_mixer Rc_nearest Rc_found Rc_putRight Rc_differing Rc_taken Rc_lastMaster Rc_bytes g18 Rc_lastOfChannel) := hD.sub [2, 0, 3, 1] (by decide) rfl
  refine lv_aload_n hx hb d_Receiver_readHeader_104 rfl (lv_at hl 4 rfl) ?_
  refine lv_iload hx hb d_Receiver_readHeader_105 (lv_at hl 1 rfl) ?_
  refine va_put (D := D) (ci := 6) (v := .int v5) (ty := .int) (C := "DeepChannel$Receiver") (T := fT_Receiver) (N := 12) hx hb hts u_Receiver fY_Receiver fK_Receiver fN_Receiver hown hK hP hD hS 0 rfl rfl 9 (by decide) (hts _ k_313) (fun _ h9 => h9) rfl (by decide +kernel) rfl rfl (Nat.le_of_ble_eq_true rfl) d_Receiver_readHeader_107 (fun H locs hP hD hS => ?_)
  have hP : va_P D classes (w_Receiver_readHeader cI cJ qRc qRc_bytes qRc_facts qRc_lastOfChannel Rc_shape Rc_words Rc_mixer Rc_nearest Rc_found Rc_putRight Rc_differing Rc_taken v5 Rc_bytes g18 Rc_lastOfChannel) H := hP
  have hD : va_D A (w_Receiver_readHeader cI cJ qRc qRc_bytes qRc_facts qRc_lastOfChannel Rc_shape Rc_words Rc_mixer Rc_nearest Rc_found Rc_putRight Rc_differing Rc_taken v5 Rc_bytes g18 Rc_lastOfChannel) := hD
  refine lv_aload_n hx hb d_Receiver_readHeader_110 rfl (lv_at hl 4 rfl) ?_
  refine va_get (D := D) (ci := 6) (v := .ref qRc_lastOfChannel) (C := "DeepChannel$Receiver") (T := fT_Receiver) (N := 12) hx hb hts u_Receiver hown hK hP 0 rfl rfl 8 (by decide) (hts _ k_312) (fun _ h9 => h9) rfl d_Receiver_readHeader_111 ?_
  refine lv_iload hx hb d_Receiver_readHeader_114 (lv_at hl 2 rfl) ?_
  refine lv_iload hx hb d_Receiver_readHeader_116 (lv_at hl 0 rfl) ?_
  refine z_iast hm hx hb hK hP hD hS 3 rfl d_Receiver_readHeader_118 (fun g20 hm H locs hP hD hS => ?_)
  have hP : va_P D classes (w_Receiver_readHeader cI cJ qRc qRc_bytes qRc_facts qRc_lastOfChannel Rc_shape Rc_words Rc_mixer Rc_nearest Rc_found Rc_putRight Rc_differing Rc_taken v5 Rc_bytes g18 g20) H := hP
  have hD : va_D A (w_Receiver_readHeader cI cJ qRc qRc_bytes qRc_facts qRc_lastOfChannel Rc_shape Rc_words Rc_mixer Rc_nearest Rc_found Rc_putRight Rc_differing Rc_taken v5 Rc_bytes g18 g20) := hD
  cases hm
  exact z_qo hQ (z_vret hr hx hb hlocks hK hP hD hS d_Receiver_readHeader_119)
-- DeepChannel$Receiver.judgeFrame(II)V
abbrev b_Receiver_judgeFrame : ByteArray := prog_8_method_17_code
abbrev y_Receiver_judgeFrame : MethodName := ⟨"DeepChannel$Receiver", "judgeFrame", "(II)V"⟩
theorem d_Receiver_judgeFrame_0 : decode b_Receiver_judgeFrame 0 = .ok (.aload_n 0, 1) := by decide +kernel
theorem d_Receiver_judgeFrame_1 : decode b_Receiver_judgeFrame 1 = .ok (.getfield 48, 3) := by decide +kernel
theorem d_Receiver_judgeFrame_4 : decode b_Receiver_judgeFrame 4 = .ok (.invokevirtual 76, 3) := by decide +kernel
theorem d_Receiver_judgeFrame_7 : decode b_Receiver_judgeFrame 7 = .ok (.iconst 2, 1) := by decide +kernel
theorem d_Receiver_judgeFrame_8 : decode b_Receiver_judgeFrame 8 = .ok (.isub, 1) := by decide +kernel
theorem d_Receiver_judgeFrame_9 : decode b_Receiver_judgeFrame 9 = .ok (.istore_n 3, 1) := by decide +kernel
theorem d_Receiver_judgeFrame_10 : decode b_Receiver_judgeFrame 10 = .ok (.aload_n 0, 1) := by decide +kernel
theorem d_Receiver_judgeFrame_11 : decode b_Receiver_judgeFrame 11 = .ok (.getfield 25, 3) := by decide +kernel
theorem d_Receiver_judgeFrame_14 : decode b_Receiver_judgeFrame 14 = .ok (.iload_n 2, 1) := by decide +kernel
theorem d_Receiver_judgeFrame_15 : decode b_Receiver_judgeFrame 15 = .ok (.iload_n 3, 1) := by decide +kernel
theorem d_Receiver_judgeFrame_16 : decode b_Receiver_judgeFrame 16 = .ok (.iadd, 1) := by decide +kernel
theorem d_Receiver_judgeFrame_17 : decode b_Receiver_judgeFrame 17 = .ok (.iaload, 1) := by decide +kernel
theorem d_Receiver_judgeFrame_18 : decode b_Receiver_judgeFrame 18 = .ok (.bipush 8, 2) := by decide +kernel
theorem d_Receiver_judgeFrame_20 : decode b_Receiver_judgeFrame 20 = .ok (.ishl, 1) := by decide +kernel
theorem d_Receiver_judgeFrame_21 : decode b_Receiver_judgeFrame 21 = .ok (.aload_n 0, 1) := by decide +kernel
theorem d_Receiver_judgeFrame_22 : decode b_Receiver_judgeFrame 22 = .ok (.getfield 25, 3) := by decide +kernel
theorem d_Receiver_judgeFrame_25 : decode b_Receiver_judgeFrame 25 = .ok (.iload_n 2, 1) := by decide +kernel
theorem d_Receiver_judgeFrame_26 : decode b_Receiver_judgeFrame 26 = .ok (.iload_n 3, 1) := by decide +kernel
theorem d_Receiver_judgeFrame_27 : decode b_Receiver_judgeFrame 27 = .ok (.iadd, 1) := by decide +kernel
theorem d_Receiver_judgeFrame_28 : decode b_Receiver_judgeFrame 28 = .ok (.iconst 1, 1) := by decide +kernel
theorem d_Receiver_judgeFrame_29 : decode b_Receiver_judgeFrame 29 = .ok (.iadd, 1) := by decide +kernel
theorem d_Receiver_judgeFrame_30 : decode b_Receiver_judgeFrame 30 = .ok (.iaload, 1) := by decide +kernel
theorem d_Receiver_judgeFrame_31 : decode b_Receiver_judgeFrame 31 = .ok (.ior, 1) := by decide +kernel
theorem d_Receiver_judgeFrame_32 : decode b_Receiver_judgeFrame 32 = .ok (.istore 4, 2) := by decide +kernel
theorem d_Receiver_judgeFrame_34 : decode b_Receiver_judgeFrame 34 = .ok (.aload_n 0, 1) := by decide +kernel
theorem d_Receiver_judgeFrame_35 : decode b_Receiver_judgeFrame 35 = .ok (.iload_n 1, 1) := by decide +kernel
theorem d_Receiver_judgeFrame_36 : decode b_Receiver_judgeFrame 36 = .ok (.iconst 2, 1) := by decide +kernel
theorem d_Receiver_judgeFrame_37 : decode b_Receiver_judgeFrame 37 = .ok (.invokevirtual 111, 3) := by decide +kernel
theorem d_Receiver_judgeFrame_40 : decode b_Receiver_judgeFrame 40 = .ok (.ifCond .ne 21, 3) := by decide +kernel
theorem d_Receiver_judgeFrame_43 : decode b_Receiver_judgeFrame 43 = .ok (.aload_n 0, 1) := by decide +kernel
theorem d_Receiver_judgeFrame_44 : decode b_Receiver_judgeFrame 44 = .ok (.getfield 25, 3) := by decide +kernel
theorem d_Receiver_judgeFrame_47 : decode b_Receiver_judgeFrame 47 = .ok (.iload_n 2, 1) := by decide +kernel
theorem d_Receiver_judgeFrame_48 : decode b_Receiver_judgeFrame 48 = .ok (.iload_n 3, 1) := by decide +kernel
theorem d_Receiver_judgeFrame_49 : decode b_Receiver_judgeFrame 49 = .ok (.invokestatic 135, 3) := by decide +kernel
theorem d_Receiver_judgeFrame_52 : decode b_Receiver_judgeFrame 52 = .ok (.iload 4, 2) := by decide +kernel
theorem d_Receiver_judgeFrame_54 : decode b_Receiver_judgeFrame 54 = .ok (.if_icmp .ne 7, 3) := by decide +kernel
theorem d_Receiver_judgeFrame_57 : decode b_Receiver_judgeFrame 57 = .ok (.iconst 1, 1) := by decide +kernel
theorem d_Receiver_judgeFrame_58 : decode b_Receiver_judgeFrame 58 = .ok (.goto 4, 3) := by decide +kernel
theorem d_Receiver_judgeFrame_61 : decode b_Receiver_judgeFrame 61 = .ok (.iconst 0, 1) := by decide +kernel
theorem d_Receiver_judgeFrame_62 : decode b_Receiver_judgeFrame 62 = .ok (.istore 5, 2) := by decide +kernel
theorem d_Receiver_judgeFrame_64 : decode b_Receiver_judgeFrame 64 = .ok (.aload_n 0, 1) := by decide +kernel
theorem d_Receiver_judgeFrame_65 : decode b_Receiver_judgeFrame 65 = .ok (.iload_n 1, 1) := by decide +kernel
theorem d_Receiver_judgeFrame_66 : decode b_Receiver_judgeFrame 66 = .ok (.iconst 4, 1) := by decide +kernel
theorem d_Receiver_judgeFrame_67 : decode b_Receiver_judgeFrame 67 = .ok (.iload 5, 2) := by decide +kernel
theorem d_Receiver_judgeFrame_69 : decode b_Receiver_judgeFrame 69 = .ok (.ifCond .eq 7, 3) := by decide +kernel
theorem d_Receiver_judgeFrame_72 : decode b_Receiver_judgeFrame 72 = .ok (.iconst 1, 1) := by decide +kernel
theorem d_Receiver_judgeFrame_73 : decode b_Receiver_judgeFrame 73 = .ok (.goto 4, 3) := by decide +kernel
theorem d_Receiver_judgeFrame_76 : decode b_Receiver_judgeFrame 76 = .ok (.iconst 0, 1) := by decide +kernel
theorem d_Receiver_judgeFrame_77 : decode b_Receiver_judgeFrame 77 = .ok (.invokevirtual 101, 3) := by decide +kernel
theorem d_Receiver_judgeFrame_80 : decode b_Receiver_judgeFrame 80 = .ok (.iload 5, 2) := by decide +kernel
theorem d_Receiver_judgeFrame_82 : decode b_Receiver_judgeFrame 82 = .ok (.ifCond .eq 12, 3) := by decide +kernel
theorem d_Receiver_judgeFrame_85 : decode b_Receiver_judgeFrame 85 = .ok (.aload_n 0, 1) := by decide +kernel
theorem d_Receiver_judgeFrame_86 : decode b_Receiver_judgeFrame 86 = .ok (.iload_n 1, 1) := by decide +kernel
theorem d_Receiver_judgeFrame_87 : decode b_Receiver_judgeFrame 87 = .ok (.iload_n 2, 1) := by decide +kernel
theorem d_Receiver_judgeFrame_88 : decode b_Receiver_judgeFrame 88 = .ok (.invokevirtual 138, 3) := by decide +kernel
theorem d_Receiver_judgeFrame_91 : decode b_Receiver_judgeFrame 91 = .ok (.goto 27, 3) := by decide +kernel
theorem d_Receiver_judgeFrame_94 : decode b_Receiver_judgeFrame 94 = .ok (.iconst 5, 1) := by decide +kernel
theorem d_Receiver_judgeFrame_95 : decode b_Receiver_judgeFrame 95 = .ok (.istore 6, 2) := by decide +kernel
theorem d_Receiver_judgeFrame_97 : decode b_Receiver_judgeFrame 97 = .ok (.iload 6, 2) := by decide +kernel
theorem d_Receiver_judgeFrame_99 : decode b_Receiver_judgeFrame 99 = .ok (.bipush 8, 2) := by decide +kernel
theorem d_Receiver_judgeFrame_101 : decode b_Receiver_judgeFrame 101 = .ok (.if_icmp .gt 17, 3) := by decide +kernel
theorem d_Receiver_judgeFrame_104 : decode b_Receiver_judgeFrame 104 = .ok (.aload_n 0, 1) := by decide +kernel
theorem d_Receiver_judgeFrame_105 : decode b_Receiver_judgeFrame 105 = .ok (.iload_n 1, 1) := by decide +kernel
theorem d_Receiver_judgeFrame_106 : decode b_Receiver_judgeFrame 106 = .ok (.iload 6, 2) := by decide +kernel
theorem d_Receiver_judgeFrame_108 : decode b_Receiver_judgeFrame 108 = .ok (.iconst (-1), 1) := by decide +kernel
theorem d_Receiver_judgeFrame_109 : decode b_Receiver_judgeFrame 109 = .ok (.invokevirtual 101, 3) := by decide +kernel
theorem d_Receiver_judgeFrame_112 : decode b_Receiver_judgeFrame 112 = .ok (.iinc 6 1, 3) := by decide +kernel
theorem d_Receiver_judgeFrame_115 : decode b_Receiver_judgeFrame 115 = .ok (.goto (-18), 3) := by decide +kernel
theorem d_Receiver_judgeFrame_118 : decode b_Receiver_judgeFrame 118 = .ok (.return_, 1) := by decide +kernel
theorem ok_Receiver_judgeFrame : OKv y_Receiver_judgeFrame b_Receiver_judgeFrame 7 none "DeepChannel$Receiver" 2 := ⟨k_807, k_806, k_14, k_53, by decide +kernel, by decide +kernel, by decide +kernel⟩
abbrev w_Receiver_judgeFrame (cI cJ : ClassId) (qRc qSh qRc_bytes qRc_facts qRc_lastOfChannel : Nat) (Rc_words Rc_mixer Rc_nearest Rc_found Rc_putRight Rc_differing Rc_taken Sh_pattern : Value) (Rc_lastMaster : Int32) (Sh_depth : Int32) (Sh_wordBytes : Int32) (Sh_e : Int32) (Rc_bytes : Nat → Int32) (Rc_facts : Nat → Int32) (Rc_lastOfChannel : Nat → Int32) : va_W := [(qRc, .inr (6, [.ref qSh, Rc_words, Rc_mixer, Rc_nearest, Rc_found, .ref qRc_bytes, .ref qRc_facts, Rc_putRight, .ref qRc_lastOfChannel, .int Rc_lastMaster, Rc_differing, Rc_taken])), (qSh, .inr (8, [.int Sh_depth, .int Sh_wordBytes, .int Sh_e, Sh_pattern])), (qRc_bytes, .inl (cI, 512, .inl Rc_bytes)), (qRc_facts, .inl (cI, 144, .inl Rc_facts)), (qRc_lastOfChannel, .inl (cI, 8, .inl Rc_lastOfChannel))]
def f_Receiver_judgeFrame_97_b  (kh97 : Int32 → Int32 → Int32 → (Nat → Int32) → (Nat → Int32) → Option (Int32 × (Nat → Int32) × (Nat → Int32))) (x1 : Int32) (x6 : Int32) (Rc_lastMaster : Int32) (Rc_facts : Nat → Int32) (Rc_lastOfChannel : Nat → Int32) : Option (Int32 × (Nat → Int32) × (Nat → Int32)) :=
  if (8 : Int32) < x6 then
    some (Rc_lastMaster, Rc_facts, Rc_lastOfChannel)
  else
  bd (f_Receiver_setFact Rc_facts x1 x6 (-1 : Int32)) fun u2 =>
  nm u2 fun g1 =>
  nm (x6 + (1 : Int32)) fun v3 =>
  kh97 x1 v3 Rc_lastMaster g1 Rc_lastOfChannel
def f_Receiver_judgeFrame_97  : Nat → Int32 → Int32 → Int32 → (Nat → Int32) → (Nat → Int32) → Option (Int32 × (Nat → Int32) × (Nat → Int32))
  | 0 => fun _ _ _ _ _ => none
  | n + 1 => fun x1 x6 Rc_lastMaster Rc_facts Rc_lastOfChannel => f_Receiver_judgeFrame_97_b (f_Receiver_judgeFrame_97 n) x1 x6 Rc_lastMaster Rc_facts Rc_lastOfChannel
def f_Receiver_judgeFrame_77 (Rc_bytes : Nat → Int32) (x1 : Int32) (x2 : Int32) (x5 : Int32) (t1 : Int32) (t2 : Int32) (t3 : Int32) (Rc_lastMaster : Int32) (Rc_facts : Nat → Int32) (Rc_lastOfChannel : Nat → Int32) : Option (Int32 × (Nat → Int32) × (Nat → Int32)) :=
  bd (f_Receiver_setFact Rc_facts t1 t2 t3) fun u5 =>
  nm u5 fun g4 =>
  if x5 = 0 then
    f_Receiver_judgeFrame_97 10000 x1 (5 : Int32) Rc_lastMaster g4 Rc_lastOfChannel
  else
  bd (f_Receiver_readHeader Rc_lastMaster Rc_bytes g4 Rc_lastOfChannel x1 x2) fun u9 =>
  nm u9.1 fun v6 =>
  nm u9.2.1 fun g7 =>
  nm u9.2.2 fun g8 =>
  some (v6, g7, g8)
def f_Receiver_judgeFrame_62 (Rc_bytes : Nat → Int32) (x1 : Int32) (x2 : Int32) (t0 : Int32) (Rc_lastMaster : Int32) (Rc_facts : Nat → Int32) (Rc_lastOfChannel : Nat → Int32) : Option (Int32 × (Nat → Int32) × (Nat → Int32)) :=
  if t0 = 0 then
    f_Receiver_judgeFrame_77 Rc_bytes x1 x2 t0 x1 (4 : Int32) (0 : Int32) Rc_lastMaster Rc_facts Rc_lastOfChannel
  else
  f_Receiver_judgeFrame_77 Rc_bytes x1 x2 t0 x1 (4 : Int32) (1 : Int32) Rc_lastMaster Rc_facts Rc_lastOfChannel
def f_Receiver_judgeFrame_61 (Rc_bytes : Nat → Int32) (x1 : Int32) (x2 : Int32) (Rc_lastMaster : Int32) (Rc_facts : Nat → Int32) (Rc_lastOfChannel : Nat → Int32) : Option (Int32 × (Nat → Int32) × (Nat → Int32)) :=
  f_Receiver_judgeFrame_62 Rc_bytes x1 x2 (0 : Int32) Rc_lastMaster Rc_facts Rc_lastOfChannel
def f_Receiver_judgeFrame (Rc_lastMaster : Int32) (Sh_depth : Int32) (Sh_wordBytes : Int32) (Sh_e : Int32) (Rc_bytes : Nat → Int32) (Rc_facts : Nat → Int32) (Rc_lastOfChannel : Nat → Int32) (x1 : Int32) (x2 : Int32) : Option (Int32 × (Nat → Int32) × (Nat → Int32)) :=
  bd (f_Shape_frameBytes Sh_depth Sh_wordBytes Sh_e) fun u11 =>
  nm u11 fun r10 =>
  nm (r10 - (2 : Int32)) fun v12 =>
  rdI Rc_bytes 512 (x2 + v12) fun v13 =>
  rdI Rc_bytes 512 ((x2 + v12) + (1 : Int32)) fun v14 =>
  nm ((v13 <<< ((8 : Int32) &&& 31)) ||| v14) fun v15 =>
  bd (f_Receiver_fact Rc_facts x1 (2 : Int32)) fun u17 =>
  nm u17 fun r16 =>
  if r16 = 0 then
    bd (f_DC_checkOf Rc_bytes 512 x2 v12) fun u19 =>
    nm u19 fun r18 =>
    if r18 = v15 then
      f_Receiver_judgeFrame_62 Rc_bytes x1 x2 (1 : Int32) Rc_lastMaster Rc_facts Rc_lastOfChannel
    else
    f_Receiver_judgeFrame_61 Rc_bytes x1 x2 Rc_lastMaster Rc_facts Rc_lastOfChannel
  else
  f_Receiver_judgeFrame_61 Rc_bytes x1 x2 Rc_lastMaster Rc_facts Rc_lastOfChannel
set_option maxHeartbeats 4000000 in
set_option maxRecDepth 100000 in
theorem c_Receiver_judgeFrame (l : Launch) (D : va_G) (cI cJ : ClassId) (tt : Nat → Nat) (qRc qSh qRc_bytes qRc_facts qRc_lastOfChannel : Nat) (Rc_words Rc_mixer Rc_nearest Rc_found Rc_putRight Rc_differing Rc_taken Sh_pattern : Value) (sz : Nat) (Rc_lastMaster : Int32) (Sh_depth : Int32) (Sh_wordBytes : Int32) (Sh_e : Int32) (Rc_bytes : Nat → Int32) (Rc_facts : Nat → Int32) (Rc_lastOfChannel : Nat → Int32) (x1 : Int32) (x2 : Int32) (Rc_lastMaster' : Int32) (Rc_facts' : Nat → Int32) (Rc_lastOfChannel' : Nat → Int32) (hm : f_Receiver_judgeFrame Rc_lastMaster Sh_depth Sh_wordBytes Sh_e Rc_bytes Rc_facts Rc_lastOfChannel x1 x2 = some (Rc_lastMaster', Rc_facts', Rc_lastOfChannel')) : CTv l y_Receiver_judgeFrame b_Receiver_judgeFrame 7 none (RM 2 49) D cI cJ tt [.ref qRc, .int x1, .int x2] (w_Receiver_judgeFrame cI cJ qRc qSh qRc_bytes qRc_facts qRc_lastOfChannel Rc_words Rc_mixer Rc_nearest Rc_found Rc_putRight Rc_differing Rc_taken Sh_pattern Rc_lastMaster Sh_depth Sh_wordBytes Sh_e Rc_bytes Rc_facts Rc_lastOfChannel) (w_Receiver_judgeFrame cI cJ qRc qSh qRc_bytes qRc_facts qRc_lastOfChannel Rc_words Rc_mixer Rc_nearest Rc_found Rc_putRight Rc_differing Rc_taken Sh_pattern Rc_lastMaster' Sh_depth Sh_wordBytes Sh_e Rc_bytes Rc_facts' Rc_lastOfChannel') sz := by
  refine Met.ofW (cc := b_Receiver_judgeFrame) (maxL := 7) (ret := none) (by decide) rfl ?_
  intro p e s m args below meth c s₁ B hml hv
  obtain ⟨hargs, hsz, hP, hK, hD0, hE⟩ := hv
  have hx := B.exec
  have hb := B.bytes
  have hr := B.returns
  have hts : ∀ w ∈ TB, w.before args s = true := z_mV s (atoms_spec (ws := WD y_Receiver_judgeFrame b_Receiver_judgeFrame 7 none) B.pre)
  have hown : s.vm.findClass "DeepChannel$Receiver" = some m.cls := findClass_of_methodNamed B.named
  have hlocks := B.notSynchronized
  subst hsz
  have hD := hD0.self (sz := s.heap.size)
  generalize hAe : va_A (w_Receiver_judgeFrame cI cJ qRc qSh qRc_bytes qRc_facts qRc_lastOfChannel Rc_words Rc_mixer Rc_nearest Rc_found Rc_putRight Rc_differing Rc_taken Sh_pattern Rc_lastMaster Sh_depth Sh_wordBytes Sh_e Rc_bytes Rc_facts Rc_lastOfChannel) s.heap.size = A at hD hE ⊢
  have hA : ∀ q : Nat, s.heap.size ≤ q → A q := fun q h => by rw [← hAe]; exact Or.inr h
  have hS : va_S A s.heap s.heap [] := va_S.rf
  refine z_entry (vs := [.ref qRc, .int x1, .int x2]) hargs (Nat.le_of_ble_eq_true rfl) (fun ls hl => ?_)
  have hl : lv_has ls 7 [(0, .ref qRc), (1, .int x1), (2, .int x2)] := hl
  show W p l e (RM 2 49) s m args below meth c s.heap [] 0 0 _ _
  refine z_qi (fun Q0 hQ => ?_)
  have F : CallFix p m c b_Receiver_judgeFrame 7 s args TB "DeepChannel$Receiver" := ⟨hx, hb, hml, hown, hts⟩
  have T97 : ∀ (n97 : Nat) (x1 : Int32) (x6 : Int32) (Rc_lastMaster : Int32) (Rc_facts : Nat → Int32) (Rc_lastOfChannel : Nat → Int32), f_Receiver_judgeFrame_97 n97 x1 x6 Rc_lastMaster Rc_facts Rc_lastOfChannel = some (Rc_lastMaster', Rc_facts', Rc_lastOfChannel') → ∀ (H : Heap) (locs : List Loc), va_P D classes (w_Receiver_judgeFrame cI cJ qRc qSh qRc_bytes qRc_facts qRc_lastOfChannel Rc_words Rc_mixer Rc_nearest Rc_found Rc_putRight Rc_differing Rc_taken Sh_pattern Rc_lastMaster Sh_depth Sh_wordBytes Sh_e Rc_bytes Rc_facts Rc_lastOfChannel) H → va_D A (w_Receiver_judgeFrame cI cJ qRc qSh qRc_bytes qRc_facts qRc_lastOfChannel Rc_words Rc_mixer Rc_nearest Rc_found Rc_putRight Rc_differing Rc_taken Sh_pattern Rc_lastMaster Sh_depth Sh_wordBytes Sh_e Rc_bytes Rc_facts Rc_lastOfChannel) → va_S A s.heap H locs → ∀ (ls : Array Slot), lv_has ls 7 [(0, .ref qRc), (1, .int x1), (6, .int x6)] → W p l e (RM 2 49) s m args below meth c H locs 0 0 Q0 (F0 m 97 ls []) := by
    intro n97
    induction n97 with
    | zero => intro x1 x6 Rc_lastMaster Rc_facts Rc_lastOfChannel hm; cases hm
    | succ n97 ih97 =>
      intro x1 x6 Rc_lastMaster Rc_facts Rc_lastOfChannel hm H locs hP hD hS ls hl
      replace hm : f_Receiver_judgeFrame_97_b (f_Receiver_judgeFrame_97 n97) x1 x6 Rc_lastMaster Rc_facts Rc_lastOfChannel = some (Rc_lastMaster', Rc_facts', Rc_lastOfChannel') := hm
      unfold f_Receiver_judgeFrame_97_b at hm
      refine lv_iload hx hb d_Receiver_judgeFrame_97 (lv_at hl 2 rfl) ?_
      refine lv_bipush (v := (8 : Int32)) hx hb d_Receiver_judgeFrame_99 (by decide) ?_
      refine z_if hm (lv_icmp_gt (tgt := 118) hx hb d_Receiver_judgeFrame_101 (by decide)) (fun hm => ?_) (fun hm => ?_)
      · cases hm
        exact z_qo hQ (z_vret hr hx hb hlocks hK hP hD hS d_Receiver_judgeFrame_118)
      · refine lv_aload_n hx hb d_Receiver_judgeFrame_104 rfl (lv_at hl 0 rfl) ?_
        refine lv_iload_n hx hb d_Receiver_judgeFrame_105 rfl (lv_at hl 1 rfl) ?_
        refine lv_iload hx hb d_Receiver_judgeFrame_106 (lv_at hl 2 rfl) ?_
        refine lv_iconst (v := (-1 : Int32)) hx hb d_Receiver_judgeFrame_108 (by decide) ?_
        obtain ⟨g1, hu, hm⟩ := bd_el hm
        replace hm := nm_1 hm
        refine z_cVv (wc := w_Receiver_setFact cI cJ qRc qRc_facts (.ref qSh) Rc_words Rc_mixer Rc_nearest Rc_found (.ref qRc_bytes) Rc_putRight (.ref qRc_lastOfChannel) (.int Rc_lastMaster) Rc_differing Rc_taken Rc_facts) (wc' := w_Receiver_setFact cI cJ qRc qRc_facts (.ref qSh) Rc_words Rc_mixer Rc_nearest Rc_found (.ref qRc_bytes) Rc_putRight (.ref qRc_lastOfChannel) (.int Rc_lastMaster) Rc_differing Rc_taken g1) (wr := [(qSh, .inr (8, [.int Sh_depth, .int Sh_wordBytes, .int Sh_e, Sh_pattern])), (qRc_bytes, .inl (cI, 512, .inl Rc_bytes)), (qRc_lastOfChannel, .inl (cI, 8, .inl Rc_lastOfChannel))]) (As := [.int x1, .int x6, .int (-1 : Int32)]) (rest := []) (c_Receiver_setFact l D cI cJ tt qRc qRc_facts (.ref qSh) Rc_words Rc_mixer Rc_nearest Rc_found (.ref qRc_bytes) Rc_putRight (.ref qRc_lastOfChannel) (.int Rc_lastMaster) Rc_differing Rc_taken _ Rc_facts x1 x6 (-1 : Int32) g1 hu) F ok_Receiver_setFact rfl k_732 hK hE hP hD hS hA [0, 3] [1, 2, 4] rfl rfl (by decide) (by decide) (by decide) 0 rfl rfl rfl ⟨rfl, rfl, Nat.le_of_ble_eq_true rfl, Nat.le_of_ble_eq_true rfl⟩ ⟨Nat.zero_le _, Nat.zero_le _⟩ rfl hl.1 rfl (Nat.le_of_ble_eq_true rfl) d_Receiver_judgeFrame_109 (fun H locs hP hD hS => ?_)
        have hP : va_P D classes (w_Receiver_judgeFrame cI cJ qRc qSh qRc_bytes qRc_facts qRc_lastOfChannel Rc_words Rc_mixer Rc_nearest Rc_found Rc_putRight Rc_differing Rc_taken Sh_pattern Rc_lastMaster Sh_depth Sh_wordBytes Sh_e Rc_bytes g1 Rc_lastOfChannel) H := hP.sub [3, 0, 1, 4, 2] rfl
        have hD : va_D A (w_Receiver_judgeFrame cI cJ qRc qSh qRc_bytes qRc_facts qRc_lastOfChannel Rc_words Rc_mixer Rc_nearest Rc_found Rc_putRight Rc_differing Rc_taken Sh_pattern Rc_lastMaster Sh_depth Sh_wordBytes Sh_e Rc_bytes g1 Rc_lastOfChannel) := hD.sub [3, 0, 1, 4, 2] (by decide) rfl
        obtain ⟨v3, ev, hm⟩ := nm_el hm
        refine lv_iinc (v := v3) (lv' := [(6, .int v3), (0, .ref qRc), (1, .int x1)]) hx hb d_Receiver_judgeFrame_112 hl (k := 2) rfl (by rw [ev]; rfl) (by decide) rfl (fun ls hl => ?_)
        refine lv_goto (tgt := 97) hx hb d_Receiver_judgeFrame_115 (by decide) ?_
        exact ih97 x1 v3 Rc_lastMaster g1 Rc_lastOfChannel hm _ _ hP hD hS _ (lv_sub hl [1, 2, 0] rfl)
  have T77 : ∀ (x1 : Int32) (x2 : Int32) (x5 : Int32) (t1 : Int32) (t2 : Int32) (t3 : Int32) (Rc_lastMaster : Int32) (Rc_facts : Nat → Int32) (Rc_lastOfChannel : Nat → Int32), f_Receiver_judgeFrame_77 Rc_bytes x1 x2 x5 t1 t2 t3 Rc_lastMaster Rc_facts Rc_lastOfChannel = some (Rc_lastMaster', Rc_facts', Rc_lastOfChannel') → ∀ (H : Heap) (locs : List Loc), va_P D classes (w_Receiver_judgeFrame cI cJ qRc qSh qRc_bytes qRc_facts qRc_lastOfChannel Rc_words Rc_mixer Rc_nearest Rc_found Rc_putRight Rc_differing Rc_taken Sh_pattern Rc_lastMaster Sh_depth Sh_wordBytes Sh_e Rc_bytes Rc_facts Rc_lastOfChannel) H → va_D A (w_Receiver_judgeFrame cI cJ qRc qSh qRc_bytes qRc_facts qRc_lastOfChannel Rc_words Rc_mixer Rc_nearest Rc_found Rc_putRight Rc_differing Rc_taken Sh_pattern Rc_lastMaster Sh_depth Sh_wordBytes Sh_e Rc_bytes Rc_facts Rc_lastOfChannel) → va_S A s.heap H locs → ∀ (ls : Array Slot), lv_has ls 7 [(0, .ref qRc), (1, .int x1), (2, .int x2), (5, .int x5)] → W p l e (RM 2 49) s m args below meth c H locs 0 0 Q0 (F0 m 77 ls [.int t3, .int t2, .int t1, .ref qRc]) := by
    intro x1 x2 x5 t1 t2 t3 Rc_lastMaster Rc_facts Rc_lastOfChannel hm H locs hP hD hS ls hl
    unfold f_Receiver_judgeFrame_77 at hm
    obtain ⟨g4, hu, hm⟩ := bd_el hm
    replace hm := nm_1 hm
    refine z_cVv (wc := w_Receiver_setFact cI cJ qRc qRc_facts (.ref qSh) Rc_words Rc_mixer Rc_nearest Rc_found (.ref qRc_bytes) Rc_putRight (.ref qRc_lastOfChannel) (.int Rc_lastMaster) Rc_differing Rc_taken Rc_facts) (wc' := w_Receiver_setFact cI cJ qRc qRc_facts (.ref qSh) Rc_words Rc_mixer Rc_nearest Rc_found (.ref qRc_bytes) Rc_putRight (.ref qRc_lastOfChannel) (.int Rc_lastMaster) Rc_differing Rc_taken g4) (wr := [(qSh, .inr (8, [.int Sh_depth, .int Sh_wordBytes, .int Sh_e, Sh_pattern])), (qRc_bytes, .inl (cI, 512, .inl Rc_bytes)), (qRc_lastOfChannel, .inl (cI, 8, .inl Rc_lastOfChannel))]) (As := [.int t1, .int t2, .int t3]) (rest := []) (c_Receiver_setFact l D cI cJ tt qRc qRc_facts (.ref qSh) Rc_words Rc_mixer Rc_nearest Rc_found (.ref qRc_bytes) Rc_putRight (.ref qRc_lastOfChannel) (.int Rc_lastMaster) Rc_differing Rc_taken _ Rc_facts t1 t2 t3 g4 hu) F ok_Receiver_setFact rfl k_732 hK hE hP hD hS hA [0, 3] [1, 2, 4] rfl rfl (by decide) (by decide) (by decide) 0 rfl rfl rfl ⟨rfl, rfl, Nat.le_of_ble_eq_true rfl, Nat.le_of_ble_eq_true rfl⟩ ⟨Nat.zero_le _, Nat.zero_le _⟩ rfl hl.1 rfl (Nat.le_of_ble_eq_true rfl) d_Receiver_judgeFrame_77 (fun H locs hP hD hS => ?_)
    have hP : va_P D classes (w_Receiver_judgeFrame cI cJ qRc qSh qRc_bytes qRc_facts qRc_lastOfChannel Rc_words Rc_mixer Rc_nearest Rc_found Rc_putRight Rc_differing Rc_taken Sh_pattern Rc_lastMaster Sh_depth Sh_wordBytes Sh_e Rc_bytes g4 Rc_lastOfChannel) H := hP.sub [3, 0, 1, 4, 2] rfl
    have hD : va_D A (w_Receiver_judgeFrame cI cJ qRc qSh qRc_bytes qRc_facts qRc_lastOfChannel Rc_words Rc_mixer Rc_nearest Rc_found Rc_putRight Rc_differing Rc_taken Sh_pattern Rc_lastMaster Sh_depth Sh_wordBytes Sh_e Rc_bytes g4 Rc_lastOfChannel) := hD.sub [3, 0, 1, 4, 2] (by decide) rfl
    refine lv_iload hx hb d_Receiver_judgeFrame_80 (lv_at hl 3 rfl) ?_
    refine z_if hm (lv_if_eq (tgt := 94) hx hb d_Receiver_judgeFrame_82 (by decide)) (fun hm => ?_) (fun hm => ?_)
    · refine lv_iconst (v := (5 : Int32)) hx hb d_Receiver_judgeFrame_94 (by decide) ?_
      refine lv_istore (lv' := [(6, .int (5 : Int32)), (0, .ref qRc), (1, .int x1), (2, .int x2), (5, .int x5)]) hx hb d_Receiver_judgeFrame_95 hl (by decide) rfl (fun ls hl => ?_)
      exact T97 10000 x1 (5 : Int32) Rc_lastMaster g4 Rc_lastOfChannel hm _ _ hP hD hS _ (lv_sub hl [1, 2, 0] rfl)
    · refine lv_aload_n hx hb d_Receiver_judgeFrame_85 rfl (lv_at hl 0 rfl) ?_
      refine lv_iload_n hx hb d_Receiver_judgeFrame_86 rfl (lv_at hl 1 rfl) ?_
      refine lv_iload_n hx hb d_Receiver_judgeFrame_87 rfl (lv_at hl 2 rfl) ?_
      obtain ⟨⟨v6, g7, g8⟩, hu, hm⟩ := bd_el hm
      replace hm := nm_3 hm
      refine z_cVv (wc := w_Receiver_readHeader cI cJ qRc qRc_bytes qRc_facts qRc_lastOfChannel (.ref qSh) Rc_words Rc_mixer Rc_nearest Rc_found Rc_putRight Rc_differing Rc_taken Rc_lastMaster Rc_bytes g4 Rc_lastOfChannel) (wc' := w_Receiver_readHeader cI cJ qRc qRc_bytes qRc_facts qRc_lastOfChannel (.ref qSh) Rc_words Rc_mixer Rc_nearest Rc_found Rc_putRight Rc_differing Rc_taken v6 Rc_bytes g7 g8) (wr := [(qSh, .inr (8, [.int Sh_depth, .int Sh_wordBytes, .int Sh_e, Sh_pattern]))]) (As := [.int x1, .int x2]) (rest := []) (c_Receiver_readHeader l D cI cJ tt qRc qRc_bytes qRc_facts qRc_lastOfChannel (.ref qSh) Rc_words Rc_mixer Rc_nearest Rc_found Rc_putRight Rc_differing Rc_taken _ Rc_lastMaster Rc_bytes g4 Rc_lastOfChannel x1 x2 v6 g7 g8 hu) F ok_Receiver_readHeader rfl k_810 hK hE hP hD hS hA [0, 2, 3, 4] [1] rfl rfl (by decide) (by decide) (by decide) 0 rfl rfl rfl ⟨rfl, rfl, Nat.le_of_ble_eq_true rfl, Nat.le_of_ble_eq_true rfl⟩ ⟨Nat.zero_le _, Nat.zero_le _⟩ rfl hl.1 rfl (Nat.le_of_ble_eq_true rfl) d_Receiver_judgeFrame_88 (fun H locs hP hD hS => ?_)
      have hP : va_P D classes (w_Receiver_judgeFrame cI cJ qRc qSh qRc_bytes qRc_facts qRc_lastOfChannel Rc_words Rc_mixer Rc_nearest Rc_found Rc_putRight Rc_differing Rc_taken Sh_pattern v6 Sh_depth Sh_wordBytes Sh_e Rc_bytes g7 g8) H := hP.sub [1, 0, 2, 3, 4] rfl
      have hD : va_D A (w_Receiver_judgeFrame cI cJ qRc qSh qRc_bytes qRc_facts qRc_lastOfChannel Rc_words Rc_mixer Rc_nearest Rc_found Rc_putRight Rc_differing Rc_taken Sh_pattern v6 Sh_depth Sh_wordBytes Sh_e Rc_bytes g7 g8) := hD.sub [1, 0, 2, 3, 4] (by decide) rfl
      refine lv_goto (tgt := 118) hx hb d_Receiver_judgeFrame_91 (by decide) ?_
      cases hm
      exact z_qo hQ (z_vret hr hx hb hlocks hK hP hD hS d_Receiver_judgeFrame_118)
  have T62 : ∀ (x1 : Int32) (x2 : Int32) (t0 : Int32) (Rc_lastMaster : Int32) (Rc_facts : Nat → Int32) (Rc_lastOfChannel : Nat → Int32), f_Receiver_judgeFrame_62 Rc_bytes x1 x2 t0 Rc_lastMaster Rc_facts Rc_lastOfChannel = some (Rc_lastMaster', Rc_facts', Rc_lastOfChannel') → ∀ (H : Heap) (locs : List Loc), va_P D classes (w_Receiver_judgeFrame cI cJ qRc qSh qRc_bytes qRc_facts qRc_lastOfChannel Rc_words Rc_mixer Rc_nearest Rc_found Rc_putRight Rc_differing Rc_taken Sh_pattern Rc_lastMaster Sh_depth Sh_wordBytes Sh_e Rc_bytes Rc_facts Rc_lastOfChannel) H → va_D A (w_Receiver_judgeFrame cI cJ qRc qSh qRc_bytes qRc_facts qRc_lastOfChannel Rc_words Rc_mixer Rc_nearest Rc_found Rc_putRight Rc_differing Rc_taken Sh_pattern Rc_lastMaster Sh_depth Sh_wordBytes Sh_e Rc_bytes Rc_facts Rc_lastOfChannel) → va_S A s.heap H locs → ∀ (ls : Array Slot), lv_has ls 7 [(0, .ref qRc), (1, .int x1), (2, .int x2)] → W p l e (RM 2 49) s m args below meth c H locs 0 0 Q0 (F0 m 62 ls [.int t0]) := by
    intro x1 x2 t0 Rc_lastMaster Rc_facts Rc_lastOfChannel hm H locs hP hD hS ls hl
    unfold f_Receiver_judgeFrame_62 at hm
    refine lv_istore (lv' := [(5, .int t0), (0, .ref qRc), (1, .int x1), (2, .int x2)]) hx hb d_Receiver_judgeFrame_62 hl (by decide) rfl (fun ls hl => ?_)
    refine lv_aload_n hx hb d_Receiver_judgeFrame_64 rfl (lv_at hl 1 rfl) ?_
    refine lv_iload_n hx hb d_Receiver_judgeFrame_65 rfl (lv_at hl 2 rfl) ?_
    refine lv_iconst (v := (4 : Int32)) hx hb d_Receiver_judgeFrame_66 (by decide) ?_
    refine lv_iload hx hb d_Receiver_judgeFrame_67 (lv_at hl 0 rfl) ?_
    refine z_if hm (lv_if_eq (tgt := 76) hx hb d_Receiver_judgeFrame_69 (by decide)) (fun hm => ?_) (fun hm => ?_)
    · refine lv_iconst (v := (0 : Int32)) hx hb d_Receiver_judgeFrame_76 (by decide) ?_
      exact T77 x1 x2 t0 x1 (4 : Int32) (0 : Int32) Rc_lastMaster Rc_facts Rc_lastOfChannel hm _ _ hP hD hS _ (lv_sub hl [1, 2, 3, 0] rfl)
    · refine lv_iconst (v := (1 : Int32)) hx hb d_Receiver_judgeFrame_72 (by decide) ?_
      refine lv_goto (tgt := 77) hx hb d_Receiver_judgeFrame_73 (by decide) ?_
      exact T77 x1 x2 t0 x1 (4 : Int32) (1 : Int32) Rc_lastMaster Rc_facts Rc_lastOfChannel hm _ _ hP hD hS _ (lv_sub hl [1, 2, 3, 0] rfl)
  have T61 : ∀ (x1 : Int32) (x2 : Int32) (Rc_lastMaster : Int32) (Rc_facts : Nat → Int32) (Rc_lastOfChannel : Nat → Int32), f_Receiver_judgeFrame_61 Rc_bytes x1 x2 Rc_lastMaster Rc_facts Rc_lastOfChannel = some (Rc_lastMaster', Rc_facts', Rc_lastOfChannel') → ∀ (H : Heap) (locs : List Loc), va_P D classes (w_Receiver_judgeFrame cI cJ qRc qSh qRc_bytes qRc_facts qRc_lastOfChannel Rc_words Rc_mixer Rc_nearest Rc_found Rc_putRight Rc_differing Rc_taken Sh_pattern Rc_lastMaster Sh_depth Sh_wordBytes Sh_e Rc_bytes Rc_facts Rc_lastOfChannel) H → va_D A (w_Receiver_judgeFrame cI cJ qRc qSh qRc_bytes qRc_facts qRc_lastOfChannel Rc_words Rc_mixer Rc_nearest Rc_found Rc_putRight Rc_differing Rc_taken Sh_pattern Rc_lastMaster Sh_depth Sh_wordBytes Sh_e Rc_bytes Rc_facts Rc_lastOfChannel) → va_S A s.heap H locs → ∀ (ls : Array Slot), lv_has ls 7 [(0, .ref qRc), (1, .int x1), (2, .int x2)] → W p l e (RM 2 49) s m args below meth c H locs 0 0 Q0 (F0 m 61 ls []) := by
    intro x1 x2 Rc_lastMaster Rc_facts Rc_lastOfChannel hm H locs hP hD hS ls hl
    unfold f_Receiver_judgeFrame_61 at hm
    refine lv_iconst (v := (0 : Int32)) hx hb d_Receiver_judgeFrame_61 (by decide) ?_
    exact T62 x1 x2 (0 : Int32) Rc_lastMaster Rc_facts Rc_lastOfChannel hm _ _ hP hD hS _ (lv_sub hl [0, 1, 2] rfl)
  unfold f_Receiver_judgeFrame at hm
  refine lv_aload_n hx hb d_Receiver_judgeFrame_0 rfl (lv_at hl 0 rfl) ?_
  refine va_get (D := D) (ci := 6) (v := .ref qSh) (C := "DeepChannel$Receiver") (T := fT_Receiver) (N := 12) hx hb hts u_Receiver hown hK hP 0 rfl rfl 0 (by decide) (hts _ k_304) (fun _ h9 => h9) rfl d_Receiver_judgeFrame_1 ?_
  obtain ⟨r10, hu, hm⟩ := bd_el hm
  replace hm := nm_1 hm
  refine z_cVi (wc := w_Shape_frameBytes cI cJ qSh Sh_pattern Sh_depth Sh_wordBytes Sh_e) (wc' := w_Shape_frameBytes cI cJ qSh Sh_pattern Sh_depth Sh_wordBytes Sh_e) (wr := [(qRc, .inr (6, [.ref qSh, Rc_words, Rc_mixer, Rc_nearest, Rc_found, .ref qRc_bytes, .ref qRc_facts, Rc_putRight, .ref qRc_lastOfChannel, .int Rc_lastMaster, Rc_differing, Rc_taken])), (qRc_bytes, .inl (cI, 512, .inl Rc_bytes)), (qRc_facts, .inl (cI, 144, .inl Rc_facts)), (qRc_lastOfChannel, .inl (cI, 8, .inl Rc_lastOfChannel))]) (As := []) (rest := []) (c_Shape_frameBytes l D cI cJ tt qSh Sh_pattern _ Sh_depth Sh_wordBytes Sh_e r10 hu) F ok_Shape_frameBytes rfl k_808 hK hE hP hD hS hA [1] [0, 2, 3, 4] rfl rfl (by decide) (by decide) (by decide) 0 rfl rfl rfl ⟨rfl, rfl, Nat.le_of_ble_eq_true rfl, Nat.le_of_ble_eq_true rfl⟩ ⟨Nat.zero_le _, Nat.zero_le _⟩ rfl hl.1 rfl (Nat.le_of_ble_eq_true rfl) d_Receiver_judgeFrame_4 (fun H locs hP hD hS => ?_)
  have hP : va_P D classes (w_Receiver_judgeFrame cI cJ qRc qSh qRc_bytes qRc_facts qRc_lastOfChannel Rc_words Rc_mixer Rc_nearest Rc_found Rc_putRight Rc_differing Rc_taken Sh_pattern Rc_lastMaster Sh_depth Sh_wordBytes Sh_e Rc_bytes Rc_facts Rc_lastOfChannel) H := hP.sub [0, 4, 1, 2, 3] rfl
  have hD : va_D A (w_Receiver_judgeFrame cI cJ qRc qSh qRc_bytes qRc_facts qRc_lastOfChannel Rc_words Rc_mixer Rc_nearest Rc_found Rc_putRight Rc_differing Rc_taken Sh_pattern Rc_lastMaster Sh_depth Sh_wordBytes Sh_e Rc_bytes Rc_facts Rc_lastOfChannel) := hD.sub [0, 4, 1, 2, 3] (by decide) rfl
  refine lv_iconst (v := (2 : Int32)) hx hb d_Receiver_judgeFrame_7 (by decide) ?_
  refine lv_isub hx hb d_Receiver_judgeFrame_8 ?_
  refine z_nmi hm (fun v12 hm => ?_)
  refine lv_istore_n (lv' := [(3, .int v12), (0, .ref qRc), (1, .int x1), (2, .int x2)]) hx hb d_Receiver_judgeFrame_9 rfl hl (by decide) rfl (fun ls hl => ?_)
  refine lv_aload_n hx hb d_Receiver_judgeFrame_10 rfl (lv_at hl 1 rfl) ?_
  refine va_get (D := D) (ci := 6) (v := .ref qRc_bytes) (C := "DeepChannel$Receiver") (T := fT_Receiver) (N := 12) hx hb hts u_Receiver hown hK hP 0 rfl rfl 5 (by decide) (hts _ k_309) (fun _ h9 => h9) rfl d_Receiver_judgeFrame_11 ?_
  refine lv_iload_n hx hb d_Receiver_judgeFrame_14 rfl (lv_at hl 3 rfl) ?_
  refine lv_iload_n hx hb d_Receiver_judgeFrame_15 rfl (lv_at hl 0 rfl) ?_
  refine lv_iadd hx hb d_Receiver_judgeFrame_16 ?_
  refine z_iald hm hx hb hK hP 2 rfl d_Receiver_judgeFrame_17 (fun v13 hm => ?_)
  refine lv_bipush (v := (8 : Int32)) hx hb d_Receiver_judgeFrame_18 (by decide) ?_
  refine lv_ishl hx hb d_Receiver_judgeFrame_20 ?_
  refine lv_aload_n hx hb d_Receiver_judgeFrame_21 rfl (lv_at hl 1 rfl) ?_
  refine va_get (D := D) (ci := 6) (v := .ref qRc_bytes) (C := "DeepChannel$Receiver") (T := fT_Receiver) (N := 12) hx hb hts u_Receiver hown hK hP 0 rfl rfl 5 (by decide) (hts _ k_309) (fun _ h9 => h9) rfl d_Receiver_judgeFrame_22 ?_
  refine lv_iload_n hx hb d_Receiver_judgeFrame_25 rfl (lv_at hl 3 rfl) ?_
  refine lv_iload_n hx hb d_Receiver_judgeFrame_26 rfl (lv_at hl 0 rfl) ?_
  refine lv_iadd hx hb d_Receiver_judgeFrame_27 ?_
  refine lv_iconst (v := (1 : Int32)) hx hb d_Receiver_judgeFrame_28 (by decide) ?_
  refine lv_iadd hx hb d_Receiver_judgeFrame_29 ?_
  refine z_iald hm hx hb hK hP 2 rfl d_Receiver_judgeFrame_30 (fun v14 hm => ?_)
  refine lv_ior hx hb d_Receiver_judgeFrame_31 ?_
  refine z_nmi hm (fun v15 hm => ?_)
  refine lv_istore (lv' := [(4, .int v15), (3, .int v12), (0, .ref qRc), (1, .int x1), (2, .int x2)]) hx hb d_Receiver_judgeFrame_32 hl (by decide) rfl (fun ls hl => ?_)
  refine lv_aload_n hx hb d_Receiver_judgeFrame_34 rfl (lv_at hl 2 rfl) ?_
  refine lv_iload_n hx hb d_Receiver_judgeFrame_35 rfl (lv_at hl 3 rfl) ?_
  refine lv_iconst (v := (2 : Int32)) hx hb d_Receiver_judgeFrame_36 (by decide) ?_
  obtain ⟨r16, hu, hm⟩ := bd_el hm
  replace hm := nm_1 hm
  refine z_cVi (wc := w_Receiver_fact cI cJ qRc qRc_facts (.ref qSh) Rc_words Rc_mixer Rc_nearest Rc_found (.ref qRc_bytes) Rc_putRight (.ref qRc_lastOfChannel) (.int Rc_lastMaster) Rc_differing Rc_taken Rc_facts) (wc' := w_Receiver_fact cI cJ qRc qRc_facts (.ref qSh) Rc_words Rc_mixer Rc_nearest Rc_found (.ref qRc_bytes) Rc_putRight (.ref qRc_lastOfChannel) (.int Rc_lastMaster) Rc_differing Rc_taken Rc_facts) (wr := [(qSh, .inr (8, [.int Sh_depth, .int Sh_wordBytes, .int Sh_e, Sh_pattern])), (qRc_bytes, .inl (cI, 512, .inl Rc_bytes)), (qRc_lastOfChannel, .inl (cI, 8, .inl Rc_lastOfChannel))]) (As := [.int x1, .int (2 : Int32)]) (rest := []) (c_Receiver_fact l D cI cJ tt qRc qRc_facts (.ref qSh) Rc_words Rc_mixer Rc_nearest Rc_found (.ref qRc_bytes) Rc_putRight (.ref qRc_lastOfChannel) (.int Rc_lastMaster) Rc_differing Rc_taken _ Rc_facts x1 (2 : Int32) r16 hu) F ok_Receiver_fact rfl k_741 hK hE hP hD hS hA [0, 3] [1, 2, 4] rfl rfl (by decide) (by decide) (by decide) 0 rfl rfl rfl ⟨rfl, rfl, Nat.le_of_ble_eq_true rfl, Nat.le_of_ble_eq_true rfl⟩ ⟨Nat.zero_le _, Nat.zero_le _⟩ rfl hl.1 rfl (Nat.le_of_ble_eq_true rfl) d_Receiver_judgeFrame_37 (fun H locs hP hD hS => ?_)
  have hP : va_P D classes (w_Receiver_judgeFrame cI cJ qRc qSh qRc_bytes qRc_facts qRc_lastOfChannel Rc_words Rc_mixer Rc_nearest Rc_found Rc_putRight Rc_differing Rc_taken Sh_pattern Rc_lastMaster Sh_depth Sh_wordBytes Sh_e Rc_bytes Rc_facts Rc_lastOfChannel) H := hP.sub [3, 0, 1, 4, 2] rfl
  have hD : va_D A (w_Receiver_judgeFrame cI cJ qRc qSh qRc_bytes qRc_facts qRc_lastOfChannel Rc_words Rc_mixer Rc_nearest Rc_found Rc_putRight Rc_differing Rc_taken Sh_pattern Rc_lastMaster Sh_depth Sh_wordBytes Sh_e Rc_bytes Rc_facts Rc_lastOfChannel) := hD.sub [3, 0, 1, 4, 2] (by decide) rfl
  refine z_ifn hm (lv_if_ne (tgt := 61) hx hb d_Receiver_judgeFrame_40 (by decide)) (fun hm => ?_) (fun hm => ?_)
  · refine lv_aload_n hx hb d_Receiver_judgeFrame_43 rfl (lv_at hl 2 rfl) ?_
    refine va_get (D := D) (ci := 6) (v := .ref qRc_bytes) (C := "DeepChannel$Receiver") (T := fT_Receiver) (N := 12) hx hb hts u_Receiver hown hK hP 0 rfl rfl 5 (by decide) (hts _ k_309) (fun _ h9 => h9) rfl d_Receiver_judgeFrame_44 ?_
    refine lv_iload_n hx hb d_Receiver_judgeFrame_47 rfl (lv_at hl 4 rfl) ?_
    refine lv_iload_n hx hb d_Receiver_judgeFrame_48 rfl (lv_at hl 1 rfl) ?_
    obtain ⟨r18, hu, hm⟩ := bd_el hm
    replace hm := nm_1 hm
    refine z_cNSi (wc := w_DC_checkOf cI cJ qRc_bytes 512 Rc_bytes) (wc' := w_DC_checkOf cI cJ qRc_bytes 512 Rc_bytes) (wr := [(qRc, .inr (6, [.ref qSh, Rc_words, Rc_mixer, Rc_nearest, Rc_found, .ref qRc_bytes, .ref qRc_facts, Rc_putRight, .ref qRc_lastOfChannel, .int Rc_lastMaster, Rc_differing, Rc_taken])), (qSh, .inr (8, [.int Sh_depth, .int Sh_wordBytes, .int Sh_e, Sh_pattern])), (qRc_facts, .inl (cI, 144, .inl Rc_facts)), (qRc_lastOfChannel, .inl (cI, 8, .inl Rc_lastOfChannel))]) (As := [.ref qRc_bytes, .int x2, .int v12]) (rest := []) (c_DC_checkOf l D cI cJ tt qRc_bytes 512 _ Rc_bytes x2 v12 r18 hu) F ok_DC_checkOf (hE.1 _ (List.mem_of_getElem? (i := 11) rfl)) hK hE hP hD hS hA [2] [0, 1, 3, 4] rfl rfl (by decide) (by decide) (by decide) ⟨rfl, rfl, Nat.le_of_ble_eq_true rfl, Nat.le_of_ble_eq_true rfl⟩ ⟨Nat.zero_le _, Nat.zero_le _⟩ rfl hl.1 rfl (Nat.le_of_ble_eq_true rfl) d_Receiver_judgeFrame_49 (fun H locs hP hD hS => ?_)
    have hP : va_P D classes (w_Receiver_judgeFrame cI cJ qRc qSh qRc_bytes qRc_facts qRc_lastOfChannel Rc_words Rc_mixer Rc_nearest Rc_found Rc_putRight Rc_differing Rc_taken Sh_pattern Rc_lastMaster Sh_depth Sh_wordBytes Sh_e Rc_bytes Rc_facts Rc_lastOfChannel) H := hP.sub [0, 1, 4, 2, 3] rfl
    have hD : va_D A (w_Receiver_judgeFrame cI cJ qRc qSh qRc_bytes qRc_facts qRc_lastOfChannel Rc_words Rc_mixer Rc_nearest Rc_found Rc_putRight Rc_differing Rc_taken Sh_pattern Rc_lastMaster Sh_depth Sh_wordBytes Sh_e Rc_bytes Rc_facts Rc_lastOfChannel) := hD.sub [0, 1, 4, 2, 3] (by decide) rfl
    refine lv_iload hx hb d_Receiver_judgeFrame_52 (lv_at hl 0 rfl) ?_
    refine z_ifn hm (lv_icmp_ne (tgt := 61) hx hb d_Receiver_judgeFrame_54 (by decide)) (fun hm => ?_) (fun hm => ?_)
    · refine lv_iconst (v := (1 : Int32)) hx hb d_Receiver_judgeFrame_57 (by decide) ?_
      refine lv_goto (tgt := 62) hx hb d_Receiver_judgeFrame_58 (by decide) ?_
      exact T62 x1 x2 (1 : Int32) Rc_lastMaster Rc_facts Rc_lastOfChannel hm _ _ hP hD hS _ (lv_sub hl [2, 3, 4] rfl)
    · exact T61 x1 x2 Rc_lastMaster Rc_facts Rc_lastOfChannel hm _ _ hP hD hS _ (lv_sub hl [2, 3, 4] rfl)
  · exact T61 x1 x2 Rc_lastMaster Rc_facts Rc_lastOfChannel hm _ _ hP hD hS _ (lv_sub hl [2, 3, 4] rfl)
-- DeepChannel$Receiver.readBlocks()V
abbrev b_Receiver_readBlocks : ByteArray := prog_8_method_13_code
abbrev y_Receiver_readBlocks : MethodName := ⟨"DeepChannel$Receiver", "readBlocks", "()V"⟩
theorem d_Receiver_readBlocks_0 : decode b_Receiver_readBlocks 0 = .ok (.aload_n 0, 1) := by decide +kernel
theorem d_Receiver_readBlocks_1 : decode b_Receiver_readBlocks 1 = .ok (.iconst (-1), 1) := by decide +kernel
theorem d_Receiver_readBlocks_2 : decode b_Receiver_readBlocks 2 = .ok (.putfield 38, 3) := by decide +kernel
theorem d_Receiver_readBlocks_5 : decode b_Receiver_readBlocks 5 = .ok (.aload_n 0, 1) := by decide +kernel
theorem d_Receiver_readBlocks_6 : decode b_Receiver_readBlocks 6 = .ok (.getfield 35, 3) := by decide +kernel
theorem d_Receiver_readBlocks_9 : decode b_Receiver_readBlocks 9 = .ok (.iconst (-1), 1) := by decide +kernel
theorem d_Receiver_readBlocks_10 : decode b_Receiver_readBlocks 10 = .ok (.invokestatic 105, 3) := by decide +kernel
theorem d_Receiver_readBlocks_13 : decode b_Receiver_readBlocks 13 = .ok (.iconst 0, 1) := by decide +kernel
theorem d_Receiver_readBlocks_14 : decode b_Receiver_readBlocks 14 = .ok (.istore_n 1, 1) := by decide +kernel
theorem d_Receiver_readBlocks_15 : decode b_Receiver_readBlocks 15 = .ok (.iconst 0, 1) := by decide +kernel
theorem d_Receiver_readBlocks_16 : decode b_Receiver_readBlocks 16 = .ok (.istore_n 2, 1) := by decide +kernel
theorem d_Receiver_readBlocks_17 : decode b_Receiver_readBlocks 17 = .ok (.iload_n 2, 1) := by decide +kernel
theorem d_Receiver_readBlocks_18 : decode b_Receiver_readBlocks 18 = .ok (.aload_n 0, 1) := by decide +kernel
theorem d_Receiver_readBlocks_19 : decode b_Receiver_readBlocks 19 = .ok (.getfield 45, 3) := by decide +kernel
theorem d_Receiver_readBlocks_22 : decode b_Receiver_readBlocks 22 = .ok (.if_icmp .ge 42, 3) := by decide +kernel
theorem d_Receiver_readBlocks_25 : decode b_Receiver_readBlocks 25 = .ok (.aload_n 0, 1) := by decide +kernel
theorem d_Receiver_readBlocks_26 : decode b_Receiver_readBlocks 26 = .ok (.aload_n 0, 1) := by decide +kernel
theorem d_Receiver_readBlocks_27 : decode b_Receiver_readBlocks 27 = .ok (.iload_n 2, 1) := by decide +kernel
theorem d_Receiver_readBlocks_28 : decode b_Receiver_readBlocks 28 = .ok (.iconst 0, 1) := by decide +kernel
theorem d_Receiver_readBlocks_29 : decode b_Receiver_readBlocks 29 = .ok (.invokevirtual 111, 3) := by decide +kernel
theorem d_Receiver_readBlocks_32 : decode b_Receiver_readBlocks 32 = .ok (.iload_n 1, 1) := by decide +kernel
theorem d_Receiver_readBlocks_33 : decode b_Receiver_readBlocks 33 = .ok (.invokevirtual 115, 3) := by decide +kernel
theorem d_Receiver_readBlocks_36 : decode b_Receiver_readBlocks 36 = .ok (.aload_n 0, 1) := by decide +kernel
theorem d_Receiver_readBlocks_37 : decode b_Receiver_readBlocks 37 = .ok (.iload_n 2, 1) := by decide +kernel
theorem d_Receiver_readBlocks_38 : decode b_Receiver_readBlocks 38 = .ok (.iload_n 1, 1) := by decide +kernel
theorem d_Receiver_readBlocks_39 : decode b_Receiver_readBlocks 39 = .ok (.invokevirtual 119, 3) := by decide +kernel
theorem d_Receiver_readBlocks_42 : decode b_Receiver_readBlocks 42 = .ok (.aload_n 0, 1) := by decide +kernel
theorem d_Receiver_readBlocks_43 : decode b_Receiver_readBlocks 43 = .ok (.iload_n 2, 1) := by decide +kernel
theorem d_Receiver_readBlocks_44 : decode b_Receiver_readBlocks 44 = .ok (.iload_n 1, 1) := by decide +kernel
theorem d_Receiver_readBlocks_45 : decode b_Receiver_readBlocks 45 = .ok (.invokevirtual 122, 3) := by decide +kernel
theorem d_Receiver_readBlocks_48 : decode b_Receiver_readBlocks 48 = .ok (.iload_n 1, 1) := by decide +kernel
theorem d_Receiver_readBlocks_49 : decode b_Receiver_readBlocks 49 = .ok (.aload_n 0, 1) := by decide +kernel
theorem d_Receiver_readBlocks_50 : decode b_Receiver_readBlocks 50 = .ok (.getfield 48, 3) := by decide +kernel
theorem d_Receiver_readBlocks_53 : decode b_Receiver_readBlocks 53 = .ok (.invokevirtual 79, 3) := by decide +kernel
theorem d_Receiver_readBlocks_56 : decode b_Receiver_readBlocks 56 = .ok (.iadd, 1) := by decide +kernel
theorem d_Receiver_readBlocks_57 : decode b_Receiver_readBlocks 57 = .ok (.istore_n 1, 1) := by decide +kernel
theorem d_Receiver_readBlocks_58 : decode b_Receiver_readBlocks 58 = .ok (.iinc 2 1, 3) := by decide +kernel
theorem d_Receiver_readBlocks_61 : decode b_Receiver_readBlocks 61 = .ok (.goto (-44), 3) := by decide +kernel
theorem d_Receiver_readBlocks_64 : decode b_Receiver_readBlocks 64 = .ok (.return_, 1) := by decide +kernel
theorem ok_Receiver_readBlocks : OKv y_Receiver_readBlocks b_Receiver_readBlocks 3 none "DeepChannel$Receiver" 0 := ⟨k_739, k_737, k_738, k_53, by decide +kernel, by decide +kernel, by decide +kernel⟩
abbrev w_Receiver_readBlocks (cI cJ : ClassId) (qRc qRc_lastOfChannel qRc_facts qSh qFo qFo_cells qMx qMx_bytes qRc_bytes qWd qFd qFd_powers qWd_syndromes qFd_logs qWd_coefficients qLc qLc_poly qLc_earlier qLc_spare qLc_places qLc_evaluator qFd_otherForms qFd_elements qRc_putRight : Nat) (Rc_nearest Rc_differing Sh_pattern Fo_length Wd_generator Wd_remainder : Value) (Rc_lastMaster : Int32) (Rc_taken : Int32) (Rc_lastOfChannel : Nat → Int32) (Rc_facts : Nat → Int32) (Sh_depth : Int32) (Sh_wordBytes : Int32) (Sh_e : Int32) (Fo_cells : Nat → Int64) (Mx_bytes : Nat → Int32) (Rc_bytes : Nat → Int32) (Fd_powers : Nat → Int32) (Wd_syndromes : Nat → Int32) (Fd_logs : Nat → Int32) (Wd_coefficients : Nat → Int32) (Lc_poly : Nat → Int32) (Lc_earlier : Nat → Int32) (Lc_spare : Nat → Int32) (Lc_places : Nat → Int32) (Lc_evaluator : Nat → Int32) (Fd_otherForms : Nat → Int32) (Fd_elements : Nat → Int32) (Rc_putRight : Nat → Int32) : va_W := [(qRc, .inr (6, [.ref qSh, .ref qWd, .ref qMx, Rc_nearest, .ref qFo, .ref qRc_bytes, .ref qRc_facts, .ref qRc_putRight, .ref qRc_lastOfChannel, .int Rc_lastMaster, Rc_differing, .int Rc_taken])), (qRc_lastOfChannel, .inl (cI, 8, .inl Rc_lastOfChannel)), (qRc_facts, .inl (cI, 144, .inl Rc_facts)), (qSh, .inr (8, [.int Sh_depth, .int Sh_wordBytes, .int Sh_e, Sh_pattern])), (qFo, .inr (0, [.ref qFo_cells, Fo_length])), (qFo_cells, .inl (cJ, 64, .inr (.inl Fo_cells))), (qMx, .inr (4, [.ref qMx_bytes])), (qMx_bytes, .inl (cI, 250, .inl Mx_bytes)), (qRc_bytes, .inl (cI, 512, .inl Rc_bytes)), (qWd, .inr (9, [.ref qSh, .ref qFd, Wd_generator, Wd_remainder, .ref qWd_coefficients, .ref qWd_syndromes, .ref qLc])), (qFd, .inr (2, [.ref qFd_powers, .ref qFd_logs, .ref qFd_otherForms, .ref qFd_elements])), (qFd_powers, .inl (cI, 255, .inl Fd_powers)), (qWd_syndromes, .inl (cI, 32, .inl Wd_syndromes)), (qFd_logs, .inl (cI, 256, .inl Fd_logs)), (qWd_coefficients, .inl (cI, 250, .inl Wd_coefficients)), (qLc, .inr (3, [.ref qFd, .ref qLc_poly, .ref qLc_earlier, .ref qLc_spare, .ref qLc_evaluator, .ref qLc_places])), (qLc_poly, .inl (cI, 33, .inl Lc_poly)), (qLc_earlier, .inl (cI, 33, .inl Lc_earlier)), (qLc_spare, .inl (cI, 33, .inl Lc_spare)), (qLc_places, .inl (cI, 32, .inl Lc_places)), (qLc_evaluator, .inl (cI, 33, .inl Lc_evaluator)), (qFd_otherForms, .inl (cI, 256, .inl Fd_otherForms)), (qFd_elements, .inl (cI, 256, .inl Fd_elements)), (qRc_putRight, .inl (cI, 128, .inl Rc_putRight))]
def f_Receiver_readBlocks_17_b (Rc_taken : Int32) (Sh_depth : Int32) (Sh_wordBytes : Int32) (Sh_e : Int32) (Fo_cells : Nat → Int64) (Mx_bytes : Nat → Int32) (Fd_powers : Nat → Int32) (Fd_logs : Nat → Int32) (Fd_otherForms : Nat → Int32) (Fd_elements : Nat → Int32) (kh17 : Int32 → Int32 → Int32 → (Nat → Int32) → (Nat → Int32) → (Nat → Int32) → (Nat → Int32) → (Nat → Int32) → (Nat → Int32) → (Nat → Int32) → (Nat → Int32) → (Nat → Int32) → (Nat → Int32) → (Nat → Int32) → Option (Int32 × (Nat → Int32) × (Nat → Int32) × (Nat → Int32) × (Nat → Int32) × (Nat → Int32) × (Nat → Int32) × (Nat → Int32) × (Nat → Int32) × (Nat → Int32) × (Nat → Int32) × (Nat → Int32))) (x1 : Int32) (x2 : Int32) (Rc_lastMaster : Int32) (Rc_lastOfChannel : Nat → Int32) (Rc_facts : Nat → Int32) (Rc_bytes : Nat → Int32) (Wd_syndromes : Nat → Int32) (Wd_coefficients : Nat → Int32) (Lc_poly : Nat → Int32) (Lc_earlier : Nat → Int32) (Lc_spare : Nat → Int32) (Lc_places : Nat → Int32) (Lc_evaluator : Nat → Int32) (Rc_putRight : Nat → Int32) : Option (Int32 × (Nat → Int32) × (Nat → Int32) × (Nat → Int32) × (Nat → Int32) × (Nat → Int32) × (Nat → Int32) × (Nat → Int32) × (Nat → Int32) × (Nat → Int32) × (Nat → Int32) × (Nat → Int32)) :=
  if Rc_taken ≤ x2 then
    some (Rc_lastMaster, Rc_lastOfChannel, Rc_facts, Rc_bytes, Wd_syndromes, Wd_coefficients, Lc_poly, Lc_earlier, Lc_spare, Lc_places, Lc_evaluator, Rc_putRight)
  else
  bd (f_Receiver_fact Rc_facts x2 (0 : Int32)) fun u2 =>
  nm u2 fun r1 =>
  bd (f_Receiver_unmix Sh_depth Sh_wordBytes Fo_cells Mx_bytes Rc_bytes r1 x1) fun u4 =>
  nm u4 fun g3 =>
  bd (f_Receiver_putWordsRight Sh_depth Sh_wordBytes Sh_e Rc_facts Fd_powers Wd_syndromes Fd_logs Wd_coefficients Lc_poly Lc_earlier Lc_spare Lc_places Lc_evaluator Fd_otherForms g3 Fd_elements Rc_putRight x2 x1) fun u15 =>
  nm u15.1 fun g5 =>
  nm u15.2.1 fun g6 =>
  nm u15.2.2.1 fun g7 =>
  nm u15.2.2.2.1 fun g8 =>
  nm u15.2.2.2.2.1 fun g9 =>
  nm u15.2.2.2.2.2.1 fun g10 =>
  nm u15.2.2.2.2.2.2.1 fun g11 =>
  nm u15.2.2.2.2.2.2.2.1 fun g12 =>
  nm u15.2.2.2.2.2.2.2.2.1 fun g13 =>
  nm u15.2.2.2.2.2.2.2.2.2 fun g14 =>
  bd (f_Receiver_judgeFrame Rc_lastMaster Sh_depth Sh_wordBytes Sh_e g13 g5 Rc_lastOfChannel x2 x1) fun u19 =>
  nm u19.1 fun v16 =>
  nm u19.2.1 fun g17 =>
  nm u19.2.2 fun g18 =>
  bd (f_Shape_blockBytes Sh_depth Sh_wordBytes) fun u21 =>
  nm u21 fun r20 =>
  nm (x1 + r20) fun v22 =>
  nm (x2 + (1 : Int32)) fun v23 =>
  kh17 v22 v23 v16 g18 g17 g13 g6 g7 g8 g9 g10 g11 g12 g14
def f_Receiver_readBlocks_17 (Rc_taken : Int32) (Sh_depth : Int32) (Sh_wordBytes : Int32) (Sh_e : Int32) (Fo_cells : Nat → Int64) (Mx_bytes : Nat → Int32) (Fd_powers : Nat → Int32) (Fd_logs : Nat → Int32) (Fd_otherForms : Nat → Int32) (Fd_elements : Nat → Int32) : Nat → Int32 → Int32 → Int32 → (Nat → Int32) → (Nat → Int32) → (Nat → Int32) → (Nat → Int32) → (Nat → Int32) → (Nat → Int32) → (Nat → Int32) → (Nat → Int32) → (Nat → Int32) → (Nat → Int32) → (Nat → Int32) → Option (Int32 × (Nat → Int32) × (Nat → Int32) × (Nat → Int32) × (Nat → Int32) × (Nat → Int32) × (Nat → Int32) × (Nat → Int32) × (Nat → Int32) × (Nat → Int32) × (Nat → Int32) × (Nat → Int32))
  | 0 => fun _ _ _ _ _ _ _ _ _ _ _ _ _ _ => none
  | n + 1 => fun x1 x2 Rc_lastMaster Rc_lastOfChannel Rc_facts Rc_bytes Wd_syndromes Wd_coefficients Lc_poly Lc_earlier Lc_spare Lc_places Lc_evaluator Rc_putRight => f_Receiver_readBlocks_17_b Rc_taken Sh_depth Sh_wordBytes Sh_e Fo_cells Mx_bytes Fd_powers Fd_logs Fd_otherForms Fd_elements (f_Receiver_readBlocks_17 Rc_taken Sh_depth Sh_wordBytes Sh_e Fo_cells Mx_bytes Fd_powers Fd_logs Fd_otherForms Fd_elements n) x1 x2 Rc_lastMaster Rc_lastOfChannel Rc_facts Rc_bytes Wd_syndromes Wd_coefficients Lc_poly Lc_earlier Lc_spare Lc_places Lc_evaluator Rc_putRight
def f_Receiver_readBlocks (Rc_lastMaster : Int32) (Rc_taken : Int32) (Rc_lastOfChannel : Nat → Int32) (Rc_facts : Nat → Int32) (Sh_depth : Int32) (Sh_wordBytes : Int32) (Sh_e : Int32) (Fo_cells : Nat → Int64) (Mx_bytes : Nat → Int32) (Rc_bytes : Nat → Int32) (Fd_powers : Nat → Int32) (Wd_syndromes : Nat → Int32) (Fd_logs : Nat → Int32) (Wd_coefficients : Nat → Int32) (Lc_poly : Nat → Int32) (Lc_earlier : Nat → Int32) (Lc_spare : Nat → Int32) (Lc_places : Nat → Int32) (Lc_evaluator : Nat → Int32) (Fd_otherForms : Nat → Int32) (Fd_elements : Nat → Int32) (Rc_putRight : Nat → Int32) : Option (Int32 × (Nat → Int32) × (Nat → Int32) × (Nat → Int32) × (Nat → Int32) × (Nat → Int32) × (Nat → Int32) × (Nat → Int32) × (Nat → Int32) × (Nat → Int32) × (Nat → Int32) × (Nat → Int32)) :=
  bd (f_Arrays_fillI Rc_lastOfChannel 8 (-1 : Int32)) fun u25 =>
  nm u25 fun g24 =>
  f_Receiver_readBlocks_17 Rc_taken Sh_depth Sh_wordBytes Sh_e Fo_cells Mx_bytes Fd_powers Fd_logs Fd_otherForms Fd_elements 10000 (0 : Int32) (0 : Int32) (-1 : Int32) g24 Rc_facts Rc_bytes Wd_syndromes Wd_coefficients Lc_poly Lc_earlier Lc_spare Lc_places Lc_evaluator Rc_putRight
set_option maxHeartbeats 4000000 in
set_option maxRecDepth 100000 in
theorem c_Receiver_readBlocks (l : Launch) (D : va_G) (cI cJ : ClassId) (tt : Nat → Nat) (qRc qRc_lastOfChannel qRc_facts qSh qFo qFo_cells qMx qMx_bytes qRc_bytes qWd qFd qFd_powers qWd_syndromes qFd_logs qWd_coefficients qLc qLc_poly qLc_earlier qLc_spare qLc_places qLc_evaluator qFd_otherForms qFd_elements qRc_putRight : Nat) (Rc_nearest Rc_differing Sh_pattern Fo_length Wd_generator Wd_remainder : Value) (sz : Nat) (Rc_lastMaster : Int32) (Rc_taken : Int32) (Rc_lastOfChannel : Nat → Int32) (Rc_facts : Nat → Int32) (Sh_depth : Int32) (Sh_wordBytes : Int32) (Sh_e : Int32) (Fo_cells : Nat → Int64) (Mx_bytes : Nat → Int32) (Rc_bytes : Nat → Int32) (Fd_powers : Nat → Int32) (Wd_syndromes : Nat → Int32) (Fd_logs : Nat → Int32) (Wd_coefficients : Nat → Int32) (Lc_poly : Nat → Int32) (Lc_earlier : Nat → Int32) (Lc_spare : Nat → Int32) (Lc_places : Nat → Int32) (Lc_evaluator : Nat → Int32) (Fd_otherForms : Nat → Int32) (Fd_elements : Nat → Int32) (Rc_putRight : Nat → Int32) (Rc_lastMaster' : Int32) (Rc_lastOfChannel' : Nat → Int32) (Rc_facts' : Nat → Int32) (Rc_bytes' : Nat → Int32) (Wd_syndromes' : Nat → Int32) (Wd_coefficients' : Nat → Int32) (Lc_poly' : Nat → Int32) (Lc_earlier' : Nat → Int32) (Lc_spare' : Nat → Int32) (Lc_places' : Nat → Int32) (Lc_evaluator' : Nat → Int32) (Rc_putRight' : Nat → Int32) (hm : f_Receiver_readBlocks Rc_lastMaster Rc_taken Rc_lastOfChannel Rc_facts Sh_depth Sh_wordBytes Sh_e Fo_cells Mx_bytes Rc_bytes Fd_powers Wd_syndromes Fd_logs Wd_coefficients Lc_poly Lc_earlier Lc_spare Lc_places Lc_evaluator Fd_otherForms Fd_elements Rc_putRight = some (Rc_lastMaster', Rc_lastOfChannel', Rc_facts', Rc_bytes', Wd_syndromes', Wd_coefficients', Lc_poly', Lc_earlier', Lc_spare', Lc_places', Lc_evaluator', Rc_putRight')) : CTv l y_Receiver_readBlocks b_Receiver_readBlocks 3 none (RM 5 142) D cI cJ tt [.ref qRc] (w_Receiver_readBlocks cI cJ qRc qRc_lastOfChannel qRc_facts qSh qFo qFo_cells qMx qMx_bytes qRc_bytes qWd qFd qFd_powers qWd_syndromes qFd_logs qWd_coefficients qLc qLc_poly qLc_earlier qLc_spare qLc_places qLc_evaluator qFd_otherForms qFd_elements qRc_putRight Rc_nearest Rc_differing Sh_pattern Fo_length Wd_generator Wd_remainder Rc_lastMaster Rc_taken Rc_lastOfChannel Rc_facts Sh_depth Sh_wordBytes Sh_e Fo_cells Mx_bytes Rc_bytes Fd_powers Wd_syndromes Fd_logs Wd_coefficients Lc_poly Lc_earlier Lc_spare Lc_places Lc_evaluator Fd_otherForms Fd_elements Rc_putRight) (w_Receiver_readBlocks cI cJ qRc qRc_lastOfChannel qRc_facts qSh qFo qFo_cells qMx qMx_bytes qRc_bytes qWd qFd qFd_powers qWd_syndromes qFd_logs qWd_coefficients qLc qLc_poly qLc_earlier qLc_spare qLc_places qLc_evaluator qFd_otherForms qFd_elements qRc_putRight Rc_nearest Rc_differing Sh_pattern Fo_length Wd_generator Wd_remainder Rc_lastMaster' Rc_taken Rc_lastOfChannel' Rc_facts' Sh_depth Sh_wordBytes Sh_e Fo_cells Mx_bytes Rc_bytes' Fd_powers Wd_syndromes' Fd_logs Wd_coefficients' Lc_poly' Lc_earlier' Lc_spare' Lc_places' Lc_evaluator' Fd_otherForms Fd_elements Rc_putRight') sz := by
  refine Met.ofW (cc := b_Receiver_readBlocks) (maxL := 3) (ret := none) (by decide) rfl ?_
  intro p e s m args below meth c s₁ B hml hv
  obtain ⟨hargs, hsz, hP, hK, hD0, hE⟩ := hv
  have hx := B.exec
  have hb := B.bytes
  have hr := B.returns
  have hts : ∀ w ∈ TB, w.before args s = true := z_mV s (atoms_spec (ws := WD y_Receiver_readBlocks b_Receiver_readBlocks 3 none) B.pre)
  have hown : s.vm.findClass "DeepChannel$Receiver" = some m.cls := findClass_of_methodNamed B.named
  have hlocks := B.notSynchronized
  subst hsz
  have hD := hD0.self (sz := s.heap.size)
  generalize hAe : va_A (w_Receiver_readBlocks cI cJ qRc qRc_lastOfChannel qRc_facts qSh qFo qFo_cells qMx qMx_bytes qRc_bytes qWd qFd qFd_powers qWd_syndromes qFd_logs qWd_coefficients qLc qLc_poly qLc_earlier qLc_spare qLc_places qLc_evaluator qFd_otherForms qFd_elements qRc_putRight Rc_nearest Rc_differing Sh_pattern Fo_length Wd_generator Wd_remainder Rc_lastMaster Rc_taken Rc_lastOfChannel Rc_facts Sh_depth Sh_wordBytes Sh_e Fo_cells Mx_bytes Rc_bytes Fd_powers Wd_syndromes Fd_logs Wd_coefficients Lc_poly Lc_earlier Lc_spare Lc_places Lc_evaluator Fd_otherForms Fd_elements Rc_putRight) s.heap.size = A at hD hE ⊢
  have hA : ∀ q : Nat, s.heap.size ≤ q → A q := fun q h => by rw [← hAe]; exact Or.inr h
  have hS : va_S A s.heap s.heap [] := va_S.rf
  refine z_entry (vs := [.ref qRc]) hargs (Nat.le_of_ble_eq_true rfl) (fun ls hl => ?_)
  have hl : lv_has ls 3 [(0, .ref qRc)] := hl
  show W p l e (RM 5 142) s m args below meth c s.heap [] 0 0 _ _
  refine z_qi (fun Q0 hQ => ?_)
  have F : CallFix p m c b_Receiver_readBlocks 3 s args TB "DeepChannel$Receiver" := ⟨hx, hb, hml, hown, hts⟩
  have T17 : ∀ (n17 : Nat) (x1 : Int32) (x2 : Int32) (Rc_lastMaster : Int32) (Rc_lastOfChannel : Nat → Int32) (Rc_facts : Nat → Int32) (Rc_bytes : Nat → Int32) (Wd_syndromes : Nat → Int32) (Wd_coefficients : Nat → Int32) (Lc_poly : Nat → Int32) (Lc_earlier : Nat → Int32) (Lc_spare : Nat → Int32) (Lc_places : Nat → Int32) (Lc_evaluator : Nat → Int32) (Rc_putRight : Nat → Int32), f_Receiver_readBlocks_17 Rc_taken Sh_depth Sh_wordBytes Sh_e Fo_cells Mx_bytes Fd_powers Fd_logs Fd_otherForms Fd_elements n17 x1 x2 Rc_lastMaster Rc_lastOfChannel Rc_facts Rc_bytes Wd_syndromes Wd_coefficients Lc_poly Lc_earlier Lc_spare Lc_places Lc_evaluator Rc_putRight = some (Rc_lastMaster', Rc_lastOfChannel', Rc_facts', Rc_bytes', Wd_syndromes', Wd_coefficients', Lc_poly', Lc_earlier', Lc_spare', Lc_places', Lc_evaluator', Rc_putRight') → ∀ (H : Heap) (locs : List Loc), va_P D classes (w_Receiver_readBlocks cI cJ qRc qRc_lastOfChannel qRc_facts qSh qFo qFo_cells qMx qMx_bytes qRc_bytes qWd qFd qFd_powers qWd_syndromes qFd_logs qWd_coefficients qLc qLc_poly qLc_earlier qLc_spare qLc_places qLc_evaluator qFd_otherForms qFd_elements qRc_putRight Rc_nearest Rc_differing Sh_pattern Fo_length Wd_generator Wd_remainder Rc_lastMaster Rc_taken Rc_lastOfChannel Rc_facts Sh_depth Sh_wordBytes Sh_e Fo_cells Mx_bytes Rc_bytes Fd_powers Wd_syndromes Fd_logs Wd_coefficients Lc_poly Lc_earlier Lc_spare Lc_places Lc_evaluator Fd_otherForms Fd_elements Rc_putRight) H → va_D A (w_Receiver_readBlocks cI cJ qRc qRc_lastOfChannel qRc_facts qSh qFo qFo_cells qMx qMx_bytes qRc_bytes qWd qFd qFd_powers qWd_syndromes qFd_logs qWd_coefficients qLc qLc_poly qLc_earlier qLc_spare qLc_places qLc_evaluator qFd_otherForms qFd_elements qRc_putRight Rc_nearest Rc_differing Sh_pattern Fo_length Wd_generator Wd_remainder Rc_lastMaster Rc_taken Rc_lastOfChannel Rc_facts Sh_depth Sh_wordBytes Sh_e Fo_cells Mx_bytes Rc_bytes Fd_powers Wd_syndromes Fd_logs Wd_coefficients Lc_poly Lc_earlier Lc_spare Lc_places Lc_evaluator Fd_otherForms Fd_elements Rc_putRight) → va_S A s.heap H locs → ∀ (ls : Array Slot), lv_has ls 3 [(0, .ref qRc), (1, .int x1), (2, .int x2)] → W p l e (RM 5 142) s m args below meth c H locs 0 0 Q0 (F0 m 17 ls []) := by
    intro n17
    induction n17 with
    | zero => intro x1 x2 Rc_lastMaster Rc_lastOfChannel Rc_facts Rc_bytes Wd_syndromes Wd_coefficients Lc_poly Lc_earlier Lc_spare Lc_places Lc_evaluator Rc_putRight hm; cases hm
    | succ n17 ih17 =>
      intro x1 x2 Rc_lastMaster Rc_lastOfChannel Rc_facts Rc_bytes Wd_syndromes Wd_coefficients Lc_poly Lc_earlier Lc_spare Lc_places Lc_evaluator Rc_putRight hm H locs hP hD hS ls hl
      replace hm : f_Receiver_readBlocks_17_b Rc_taken Sh_depth Sh_wordBytes Sh_e Fo_cells Mx_bytes Fd_powers Fd_logs Fd_otherForms Fd_elements (f_Receiver_readBlocks_17 Rc_taken Sh_depth Sh_wordBytes Sh_e Fo_cells Mx_bytes Fd_powers Fd_logs Fd_otherForms Fd_elements n17) x1 x2 Rc_lastMaster Rc_lastOfChannel Rc_facts Rc_bytes Wd_syndromes Wd_coefficients Lc_poly Lc_earlier Lc_spare Lc_places Lc_evaluator Rc_putRight = some (Rc_lastMaster', Rc_lastOfChannel', Rc_facts', Rc_bytes', Wd_syndromes', Wd_coefficients', Lc_poly', Lc_earlier', Lc_spare', Lc_places', Lc_evaluator', Rc_putRight') := hm
      unfold f_Receiver_readBlocks_17_b at hm
      refine lv_iload_n hx hb d_Receiver_readBlocks_17 rfl (lv_at hl 2 rfl) ?_
      refine lv_aload_n hx hb d_Receiver_readBlocks_18 rfl (lv_at hl 0 rfl) ?_
      refine va_get (D := D) (ci := 6) (v := .int Rc_taken) (C := "DeepChannel$Receiver") (T := fT_Receiver) (N := 12) hx hb hts u_Receiver hown hK hP 0 rfl rfl 11 (by decide) (hts _ k_315) (fun _ h9 => h9) rfl d_Receiver_readBlocks_19 ?_
      refine z_if hm (lv_icmp_ge (tgt := 64) hx hb d_Receiver_readBlocks_22 (by decide)) (fun hm => ?_) (fun hm => ?_)
      · cases hm
        exact z_qo hQ (z_vret hr hx hb hlocks hK hP hD hS d_Receiver_readBlocks_64)
      · refine lv_aload_n hx hb d_Receiver_readBlocks_25 rfl (lv_at hl 0 rfl) ?_
        refine lv_aload_n hx hb d_Receiver_readBlocks_26 rfl (lv_at hl 0 rfl) ?_
        refine lv_iload_n hx hb d_Receiver_readBlocks_27 rfl (lv_at hl 2 rfl) ?_
        refine lv_iconst (v := (0 : Int32)) hx hb d_Receiver_readBlocks_28 (by decide) ?_
        obtain ⟨r1, hu, hm⟩ := bd_el hm
        replace hm := nm_1 hm
        refine z_cVi (wc := w_Receiver_fact cI cJ qRc qRc_facts (.ref qSh) (.ref qWd) (.ref qMx) Rc_nearest (.ref qFo) (.ref qRc_bytes) (.ref qRc_putRight) (.ref qRc_lastOfChannel) (.int Rc_lastMaster) Rc_differing (.int Rc_taken) Rc_facts) (wc' := w_Receiver_fact cI cJ qRc qRc_facts (.ref qSh) (.ref qWd) (.ref qMx) Rc_nearest (.ref qFo) (.ref qRc_bytes) (.ref qRc_putRight) (.ref qRc_lastOfChannel) (.int Rc_lastMaster) Rc_differing (.int Rc_taken) Rc_facts) (wr := [(qRc_lastOfChannel, .inl (cI, 8, .inl Rc_lastOfChannel)), (qSh, .inr (8, [.int Sh_depth, .int Sh_wordBytes, .int Sh_e, Sh_pattern])), (qFo, .inr (0, [.ref qFo_cells, Fo_length])), (qFo_cells, .inl (cJ, 64, .inr (.inl Fo_cells))), (qMx, .inr (4, [.ref qMx_bytes])), (qMx_bytes, .inl (cI, 250, .inl Mx_bytes)), (qRc_bytes, .inl (cI, 512, .inl Rc_bytes)), (qWd, .inr (9, [.ref qSh, .ref qFd, Wd_generator, Wd_remainder, .ref qWd_coefficients, .ref qWd_syndromes, .ref qLc])), (qFd, .inr (2, [.ref qFd_powers, .ref qFd_logs, .ref qFd_otherForms, .ref qFd_elements])), (qFd_powers, .inl (cI, 255, .inl Fd_powers)), (qWd_syndromes, .inl (cI, 32, .inl Wd_syndromes)), (qFd_logs, .inl (cI, 256, .inl Fd_logs)), (qWd_coefficients, .inl (cI, 250, .inl Wd_coefficients)), (qLc, .inr (3, [.ref qFd, .ref qLc_poly, .ref qLc_earlier, .ref qLc_spare, .ref qLc_evaluator, .ref qLc_places])), (qLc_poly, .inl (cI, 33, .inl Lc_poly)), (qLc_earlier, .inl (cI, 33, .inl Lc_earlier)), (qLc_spare, .inl (cI, 33, .inl Lc_spare)), (qLc_places, .inl (cI, 32, .inl Lc_places)), (qLc_evaluator, .inl (cI, 33, .inl Lc_evaluator)), (qFd_otherForms, .inl (cI, 256, .inl Fd_otherForms)), (qFd_elements, .inl (cI, 256, .inl Fd_elements)), (qRc_putRight, .inl (cI, 128, .inl Rc_putRight))]) (As := [.int x2, .int (0 : Int32)]) (rest := [.ref qRc]) (c_Receiver_fact l D cI cJ tt qRc qRc_facts (.ref qSh) (.ref qWd) (.ref qMx) Rc_nearest (.ref qFo) (.ref qRc_bytes) (.ref qRc_putRight) (.ref qRc_lastOfChannel) (.int Rc_lastMaster) Rc_differing (.int Rc_taken) _ Rc_facts x2 (0 : Int32) r1 hu) F ok_Receiver_fact rfl k_741 hK hE hP hD hS hA [0, 2] [1, 3, 4, 5, 6, 7, 8, 9, 10, 11, 12, 13, 14, 15, 16, 17, 18, 19, 20, 21, 22, 23] rfl rfl (by decide) (by decide) (by decide) 0 rfl rfl rfl ⟨rfl, rfl, Nat.le_of_ble_eq_true rfl, Nat.le_of_ble_eq_true rfl⟩ ⟨Nat.zero_le _, Nat.zero_le _⟩ rfl hl.1 rfl (Nat.le_of_ble_eq_true rfl) d_Receiver_readBlocks_29 (fun H locs hP hD hS => ?_)
        have hP : va_P D classes (w_Receiver_readBlocks cI cJ qRc qRc_lastOfChannel qRc_facts qSh qFo qFo_cells qMx qMx_bytes qRc_bytes qWd qFd qFd_powers qWd_syndromes qFd_logs qWd_coefficients qLc qLc_poly qLc_earlier qLc_spare qLc_places qLc_evaluator qFd_otherForms qFd_elements qRc_putRight Rc_nearest Rc_differing Sh_pattern Fo_length Wd_generator Wd_remainder Rc_lastMaster Rc_taken Rc_lastOfChannel Rc_facts Sh_depth Sh_wordBytes Sh_e Fo_cells Mx_bytes Rc_bytes Fd_powers Wd_syndromes Fd_logs Wd_coefficients Lc_poly Lc_earlier Lc_spare Lc_places Lc_evaluator Fd_otherForms Fd_elements Rc_putRight) H := hP.sub [22, 0, 23, 1, 2, 3, 4, 5, 6, 7, 8, 9, 10, 11, 12, 13, 14, 15, 16, 17, 18, 19, 20, 21] rfl
        have hD : va_D A (w_Receiver_readBlocks cI cJ qRc qRc_lastOfChannel qRc_facts qSh qFo qFo_cells qMx qMx_bytes qRc_bytes qWd qFd qFd_powers qWd_syndromes qFd_logs qWd_coefficients qLc qLc_poly qLc_earlier qLc_spare qLc_places qLc_evaluator qFd_otherForms qFd_elements qRc_putRight Rc_nearest Rc_differing Sh_pattern Fo_length Wd_generator Wd_remainder Rc_lastMaster Rc_taken Rc_lastOfChannel Rc_facts Sh_depth Sh_wordBytes Sh_e Fo_cells Mx_bytes Rc_bytes Fd_powers Wd_syndromes Fd_logs Wd_coefficients Lc_poly Lc_earlier Lc_spare Lc_places Lc_evaluator Fd_otherForms Fd_elements Rc_putRight) := hD.sub [22, 0, 23, 1, 2, 3, 4, 5, 6, 7, 8, 9, 10, 11, 12, 13, 14, 15, 16, 17, 18, 19, 20, 21] (by decide) rfl
        refine lv_iload_n hx hb d_Receiver_readBlocks_32 rfl (lv_at hl 1 rfl) ?_
        obtain ⟨g3, hu, hm⟩ := bd_el hm
        replace hm := nm_1 hm
        refine z_cVv (wc := w_Receiver_unmix cI cJ qRc qSh qFo qFo_cells qMx qMx_bytes qRc_bytes (.ref qWd) Rc_nearest (.ref qRc_facts) (.ref qRc_putRight) (.ref qRc_lastOfChannel) (.int Rc_lastMaster) Rc_differing (.int Rc_taken) (.int Sh_e) Sh_pattern Fo_length Sh_depth Sh_wordBytes Fo_cells Mx_bytes Rc_bytes) (wc' := w_Receiver_unmix cI cJ qRc qSh qFo qFo_cells qMx qMx_bytes qRc_bytes (.ref qWd) Rc_nearest (.ref qRc_facts) (.ref qRc_putRight) (.ref qRc_lastOfChannel) (.int Rc_lastMaster) Rc_differing (.int Rc_taken) (.int Sh_e) Sh_pattern Fo_length Sh_depth Sh_wordBytes Fo_cells Mx_bytes g3) (wr := [(qRc_lastOfChannel, .inl (cI, 8, .inl Rc_lastOfChannel)), (qRc_facts, .inl (cI, 144, .inl Rc_facts)), (qWd, .inr (9, [.ref qSh, .ref qFd, Wd_generator, Wd_remainder, .ref qWd_coefficients, .ref qWd_syndromes, .ref qLc])), (qFd, .inr (2, [.ref qFd_powers, .ref qFd_logs, .ref qFd_otherForms, .ref qFd_elements])), (qFd_powers, .inl (cI, 255, .inl Fd_powers)), (qWd_syndromes, .inl (cI, 32, .inl Wd_syndromes)), (qFd_logs, .inl (cI, 256, .inl Fd_logs)), (qWd_coefficients, .inl (cI, 250, .inl Wd_coefficients)), (qLc, .inr (3, [.ref qFd, .ref qLc_poly, .ref qLc_earlier, .ref qLc_spare, .ref qLc_evaluator, .ref qLc_places])), (qLc_poly, .inl (cI, 33, .inl Lc_poly)), (qLc_earlier, .inl (cI, 33, .inl Lc_earlier)), (qLc_spare, .inl (cI, 33, .inl Lc_spare)), (qLc_places, .inl (cI, 32, .inl Lc_places)), (qLc_evaluator, .inl (cI, 33, .inl Lc_evaluator)), (qFd_otherForms, .inl (cI, 256, .inl Fd_otherForms)), (qFd_elements, .inl (cI, 256, .inl Fd_elements)), (qRc_putRight, .inl (cI, 128, .inl Rc_putRight))]) (As := [.int r1, .int x1]) (rest := []) (c_Receiver_unmix l D cI cJ tt qRc qSh qFo qFo_cells qMx qMx_bytes qRc_bytes (.ref qWd) Rc_nearest (.ref qRc_facts) (.ref qRc_putRight) (.ref qRc_lastOfChannel) (.int Rc_lastMaster) Rc_differing (.int Rc_taken) (.int Sh_e) Sh_pattern Fo_length _ Sh_depth Sh_wordBytes Fo_cells Mx_bytes Rc_bytes r1 x1 g3 hu) F ok_Receiver_unmix rfl k_745 hK hE hP hD hS hA [0, 3, 4, 5, 6, 7, 8] [1, 2, 9, 10, 11, 12, 13, 14, 15, 16, 17, 18, 19, 20, 21, 22, 23] rfl rfl (by decide) (by decide) (by decide) 0 rfl rfl rfl ⟨rfl, rfl, Nat.le_of_ble_eq_true rfl, Nat.le_of_ble_eq_true rfl⟩ ⟨Nat.zero_le _, Nat.zero_le _⟩ rfl hl.1 rfl (Nat.le_of_ble_eq_true rfl) d_Receiver_readBlocks_33 (fun H locs hP hD hS => ?_)
        have hP : va_P D classes (w_Receiver_readBlocks cI cJ qRc qRc_lastOfChannel qRc_facts qSh qFo qFo_cells qMx qMx_bytes qRc_bytes qWd qFd qFd_powers qWd_syndromes qFd_logs qWd_coefficients qLc qLc_poly qLc_earlier qLc_spare qLc_places qLc_evaluator qFd_otherForms qFd_elements qRc_putRight Rc_nearest Rc_differing Sh_pattern Fo_length Wd_generator Wd_remainder Rc_lastMaster Rc_taken Rc_lastOfChannel Rc_facts Sh_depth Sh_wordBytes Sh_e Fo_cells Mx_bytes g3 Fd_powers Wd_syndromes Fd_logs Wd_coefficients Lc_poly Lc_earlier Lc_spare Lc_places Lc_evaluator Fd_otherForms Fd_elements Rc_putRight) H := hP.sub [17, 0, 1, 18, 19, 20, 21, 22, 23, 2, 3, 4, 5, 6, 7, 8, 9, 10, 11, 12, 13, 14, 15, 16] rfl
        have hD : va_D A (w_Receiver_readBlocks cI cJ qRc qRc_lastOfChannel qRc_facts qSh qFo qFo_cells qMx qMx_bytes qRc_bytes qWd qFd qFd_powers qWd_syndromes qFd_logs qWd_coefficients qLc qLc_poly qLc_earlier qLc_spare qLc_places qLc_evaluator qFd_otherForms qFd_elements qRc_putRight Rc_nearest Rc_differing Sh_pattern Fo_length Wd_generator Wd_remainder Rc_lastMaster Rc_taken Rc_lastOfChannel Rc_facts Sh_depth Sh_wordBytes Sh_e Fo_cells Mx_bytes g3 Fd_powers Wd_syndromes Fd_logs Wd_coefficients Lc_poly Lc_earlier Lc_spare Lc_places Lc_evaluator Fd_otherForms Fd_elements Rc_putRight) := hD.sub [17, 0, 1, 18, 19, 20, 21, 22, 23, 2, 3, 4, 5, 6, 7, 8, 9, 10, 11, 12, 13, 14, 15, 16] (by decide) rfl
        refine lv_aload_n hx hb d_Receiver_readBlocks_36 rfl (lv_at hl 0 rfl) ?_
        refine lv_iload_n hx hb d_Receiver_readBlocks_37 rfl (lv_at hl 2 rfl) ?_
        refine lv_iload_n hx hb d_Receiver_readBlocks_38 rfl (lv_at hl 1 rfl) ?_
        obtain ⟨⟨g5, g6, g7, g8, g9, g10, g11, g12, g13, g14⟩, hu, hm⟩ := bd_el hm
        replace hm := nm_10 hm
        refine z_cVv (wc := w_Receiver_putWordsRight cI cJ qRc qSh qRc_facts qWd qFd qFd_powers qWd_syndromes qFd_logs qWd_coefficients qLc qLc_poly qLc_earlier qLc_spare qLc_places qLc_evaluator qFd_otherForms qRc_bytes qFd_elements qRc_putRight (.ref qMx) Rc_nearest (.ref qFo) (.ref qRc_lastOfChannel) (.int Rc_lastMaster) Rc_differing (.int Rc_taken) Sh_pattern Wd_generator Wd_remainder Sh_depth Sh_wordBytes Sh_e Rc_facts Fd_powers Wd_syndromes Fd_logs Wd_coefficients Lc_poly Lc_earlier Lc_spare Lc_places Lc_evaluator Fd_otherForms g3 Fd_elements Rc_putRight) (wc' := w_Receiver_putWordsRight cI cJ qRc qSh qRc_facts qWd qFd qFd_powers qWd_syndromes qFd_logs qWd_coefficients qLc qLc_poly qLc_earlier qLc_spare qLc_places qLc_evaluator qFd_otherForms qRc_bytes qFd_elements qRc_putRight (.ref qMx) Rc_nearest (.ref qFo) (.ref qRc_lastOfChannel) (.int Rc_lastMaster) Rc_differing (.int Rc_taken) Sh_pattern Wd_generator Wd_remainder Sh_depth Sh_wordBytes Sh_e g5 Fd_powers g6 Fd_logs g7 g8 g9 g10 g11 g12 Fd_otherForms g13 Fd_elements g14) (wr := [(qRc_lastOfChannel, .inl (cI, 8, .inl Rc_lastOfChannel)), (qFo, .inr (0, [.ref qFo_cells, Fo_length])), (qFo_cells, .inl (cJ, 64, .inr (.inl Fo_cells))), (qMx, .inr (4, [.ref qMx_bytes])), (qMx_bytes, .inl (cI, 250, .inl Mx_bytes))]) (As := [.int x2, .int x1]) (rest := []) (c_Receiver_putWordsRight l D cI cJ tt qRc qSh qRc_facts qWd qFd qFd_powers qWd_syndromes qFd_logs qWd_coefficients qLc qLc_poly qLc_earlier qLc_spare qLc_places qLc_evaluator qFd_otherForms qRc_bytes qFd_elements qRc_putRight (.ref qMx) Rc_nearest (.ref qFo) (.ref qRc_lastOfChannel) (.int Rc_lastMaster) Rc_differing (.int Rc_taken) Sh_pattern Wd_generator Wd_remainder _ Sh_depth Sh_wordBytes Sh_e Rc_facts Fd_powers Wd_syndromes Fd_logs Wd_coefficients Lc_poly Lc_earlier Lc_spare Lc_places Lc_evaluator Fd_otherForms g3 Fd_elements Rc_putRight x2 x1 g5 g6 g7 g8 g9 g10 g11 g12 g13 g14 hu) F ok_Receiver_putWordsRight rfl k_750 hK hE hP hD hS hA [0, 3, 2, 9, 10, 11, 12, 13, 14, 15, 16, 17, 18, 19, 20, 21, 8, 22, 23] [1, 4, 5, 6, 7] rfl rfl (by decide) (by decide) (by decide) 0 rfl rfl rfl ⟨rfl, rfl, Nat.le_of_ble_eq_true rfl, Nat.le_of_ble_eq_true rfl⟩ ⟨Nat.zero_le _, Nat.zero_le _⟩ rfl hl.1 rfl (Nat.le_of_ble_eq_true rfl) d_Receiver_readBlocks_39 (fun H locs hP hD hS => ?_)
        have hP : va_P D classes (w_Receiver_readBlocks cI cJ qRc qRc_lastOfChannel qRc_facts qSh qFo qFo_cells qMx qMx_bytes qRc_bytes qWd qFd qFd_powers qWd_syndromes qFd_logs qWd_coefficients qLc qLc_poly qLc_earlier qLc_spare qLc_places qLc_evaluator qFd_otherForms qFd_elements qRc_putRight Rc_nearest Rc_differing Sh_pattern Fo_length Wd_generator Wd_remainder Rc_lastMaster Rc_taken Rc_lastOfChannel g5 Sh_depth Sh_wordBytes Sh_e Fo_cells Mx_bytes g13 Fd_powers g6 Fd_logs g7 g8 g9 g10 g11 g12 Fd_otherForms Fd_elements g14) H := hP.sub [5, 0, 7, 6, 1, 2, 3, 4, 21, 8, 9, 10, 11, 12, 13, 14, 15, 16, 17, 18, 19, 20, 22, 23] rfl
        have hD : va_D A (w_Receiver_readBlocks cI cJ qRc qRc_lastOfChannel qRc_facts qSh qFo qFo_cells qMx qMx_bytes qRc_bytes qWd qFd qFd_powers qWd_syndromes qFd_logs qWd_coefficients qLc qLc_poly qLc_earlier qLc_spare qLc_places qLc_evaluator qFd_otherForms qFd_elements qRc_putRight Rc_nearest Rc_differing Sh_pattern Fo_length Wd_generator Wd_remainder Rc_lastMaster Rc_taken Rc_lastOfChannel g5 Sh_depth Sh_wordBytes Sh_e Fo_cells Mx_bytes g13 Fd_powers g6 Fd_logs g7 g8 g9 g10 g11 g12 Fd_otherForms Fd_elements g14) := hD.sub [5, 0, 7, 6, 1, 2, 3, 4, 21, 8, 9, 10, 11, 12, 13, 14, 15, 16, 17, 18, 19, 20, 22, 23] (by decide) rfl
        refine lv_aload_n hx hb d_Receiver_readBlocks_42 rfl (lv_at hl 0 rfl) ?_
        refine lv_iload_n hx hb d_Receiver_readBlocks_43 rfl (lv_at hl 2 rfl) ?_
        refine lv_iload_n hx hb d_Receiver_readBlocks_44 rfl (lv_at hl 1 rfl) ?_
        obtain ⟨⟨v16, g17, g18⟩, hu, hm⟩ := bd_el hm
        replace hm := nm_3 hm
        refine z_cVv (wc := w_Receiver_judgeFrame cI cJ qRc qSh qRc_bytes qRc_facts qRc_lastOfChannel (.ref qWd) (.ref qMx) Rc_nearest (.ref qFo) (.ref qRc_putRight) Rc_differing (.int Rc_taken) Sh_pattern Rc_lastMaster Sh_depth Sh_wordBytes Sh_e g13 g5 Rc_lastOfChannel) (wc' := w_Receiver_judgeFrame cI cJ qRc qSh qRc_bytes qRc_facts qRc_lastOfChannel (.ref qWd) (.ref qMx) Rc_nearest (.ref qFo) (.ref qRc_putRight) Rc_differing (.int Rc_taken) Sh_pattern v16 Sh_depth Sh_wordBytes Sh_e g13 g17 g18) (wr := [(qFo, .inr (0, [.ref qFo_cells, Fo_length])), (qFo_cells, .inl (cJ, 64, .inr (.inl Fo_cells))), (qMx, .inr (4, [.ref qMx_bytes])), (qMx_bytes, .inl (cI, 250, .inl Mx_bytes)), (qWd, .inr (9, [.ref qSh, .ref qFd, Wd_generator, Wd_remainder, .ref qWd_coefficients, .ref qWd_syndromes, .ref qLc])), (qFd, .inr (2, [.ref qFd_powers, .ref qFd_logs, .ref qFd_otherForms, .ref qFd_elements])), (qFd_powers, .inl (cI, 255, .inl Fd_powers)), (qWd_syndromes, .inl (cI, 32, .inl g6)), (qFd_logs, .inl (cI, 256, .inl Fd_logs)), (qWd_coefficients, .inl (cI, 250, .inl g7)), (qLc, .inr (3, [.ref qFd, .ref qLc_poly, .ref qLc_earlier, .ref qLc_spare, .ref qLc_evaluator, .ref qLc_places])), (qLc_poly, .inl (cI, 33, .inl g8)), (qLc_earlier, .inl (cI, 33, .inl g9)), (qLc_spare, .inl (cI, 33, .inl g10)), (qLc_places, .inl (cI, 32, .inl g11)), (qLc_evaluator, .inl (cI, 33, .inl g12)), (qFd_otherForms, .inl (cI, 256, .inl Fd_otherForms)), (qFd_elements, .inl (cI, 256, .inl Fd_elements)), (qRc_putRight, .inl (cI, 128, .inl g14))]) (As := [.int x2, .int x1]) (rest := []) (c_Receiver_judgeFrame l D cI cJ tt qRc qSh qRc_bytes qRc_facts qRc_lastOfChannel (.ref qWd) (.ref qMx) Rc_nearest (.ref qFo) (.ref qRc_putRight) Rc_differing (.int Rc_taken) Sh_pattern _ Rc_lastMaster Sh_depth Sh_wordBytes Sh_e g13 g5 Rc_lastOfChannel x2 x1 v16 g17 g18 hu) F ok_Receiver_judgeFrame rfl k_804 hK hE hP hD hS hA [0, 3, 8, 2, 1] [4, 5, 6, 7, 9, 10, 11, 12, 13, 14, 15, 16, 17, 18, 19, 20, 21, 22, 23] rfl rfl (by decide) (by decide) (by decide) 0 rfl rfl rfl ⟨rfl, rfl, Nat.le_of_ble_eq_true rfl, Nat.le_of_ble_eq_true rfl⟩ ⟨Nat.zero_le _, Nat.zero_le _⟩ rfl hl.1 rfl (Nat.le_of_ble_eq_true rfl) d_Receiver_readBlocks_45 (fun H locs hP hD hS => ?_)
        have hP : va_P D classes (w_Receiver_readBlocks cI cJ qRc qRc_lastOfChannel qRc_facts qSh qFo qFo_cells qMx qMx_bytes qRc_bytes qWd qFd qFd_powers qWd_syndromes qFd_logs qWd_coefficients qLc qLc_poly qLc_earlier qLc_spare qLc_places qLc_evaluator qFd_otherForms qFd_elements qRc_putRight Rc_nearest Rc_differing Sh_pattern Fo_length Wd_generator Wd_remainder v16 Rc_taken g18 g17 Sh_depth Sh_wordBytes Sh_e Fo_cells Mx_bytes g13 Fd_powers g6 Fd_logs g7 g8 g9 g10 g11 g12 Fd_otherForms Fd_elements g14) H := hP.sub [19, 23, 22, 20, 0, 1, 2, 3, 21, 4, 5, 6, 7, 8, 9, 10, 11, 12, 13, 14, 15, 16, 17, 18] rfl
        have hD : va_D A (w_Receiver_readBlocks cI cJ qRc qRc_lastOfChannel qRc_facts qSh qFo qFo_cells qMx qMx_bytes qRc_bytes qWd qFd qFd_powers qWd_syndromes qFd_logs qWd_coefficients qLc qLc_poly qLc_earlier qLc_spare qLc_places qLc_evaluator qFd_otherForms qFd_elements qRc_putRight Rc_nearest Rc_differing Sh_pattern Fo_length Wd_generator Wd_remainder v16 Rc_taken g18 g17 Sh_depth Sh_wordBytes Sh_e Fo_cells Mx_bytes g13 Fd_powers g6 Fd_logs g7 g8 g9 g10 g11 g12 Fd_otherForms Fd_elements g14) := hD.sub [19, 23, 22, 20, 0, 1, 2, 3, 21, 4, 5, 6, 7, 8, 9, 10, 11, 12, 13, 14, 15, 16, 17, 18] (by decide) rfl
        refine lv_iload_n hx hb d_Receiver_readBlocks_48 rfl (lv_at hl 1 rfl) ?_
        refine lv_aload_n hx hb d_Receiver_readBlocks_49 rfl (lv_at hl 0 rfl) ?_
        refine va_get (D := D) (ci := 6) (v := .ref qSh) (C := "DeepChannel$Receiver") (T := fT_Receiver) (N := 12) hx hb hts u_Receiver hown hK hP 0 rfl rfl 0 (by decide) (hts _ k_304) (fun _ h9 => h9) rfl d_Receiver_readBlocks_50 ?_
        obtain ⟨r20, hu, hm⟩ := bd_el hm
        replace hm := nm_1 hm
        refine z_cVi (wc := w_Shape_blockBytes cI cJ qSh (.int Sh_e) Sh_pattern Sh_depth Sh_wordBytes) (wc' := w_Shape_blockBytes cI cJ qSh (.int Sh_e) Sh_pattern Sh_depth Sh_wordBytes) (wr := [(qRc, .inr (6, [.ref qSh, .ref qWd, .ref qMx, Rc_nearest, .ref qFo, .ref qRc_bytes, .ref qRc_facts, .ref qRc_putRight, .ref qRc_lastOfChannel, .int v16, Rc_differing, .int Rc_taken])), (qRc_lastOfChannel, .inl (cI, 8, .inl g18)), (qRc_facts, .inl (cI, 144, .inl g17)), (qFo, .inr (0, [.ref qFo_cells, Fo_length])), (qFo_cells, .inl (cJ, 64, .inr (.inl Fo_cells))), (qMx, .inr (4, [.ref qMx_bytes])), (qMx_bytes, .inl (cI, 250, .inl Mx_bytes)), (qRc_bytes, .inl (cI, 512, .inl g13)), (qWd, .inr (9, [.ref qSh, .ref qFd, Wd_generator, Wd_remainder, .ref qWd_coefficients, .ref qWd_syndromes, .ref qLc])), (qFd, .inr (2, [.ref qFd_powers, .ref qFd_logs, .ref qFd_otherForms, .ref qFd_elements])), (qFd_powers, .inl (cI, 255, .inl Fd_powers)), (qWd_syndromes, .inl (cI, 32, .inl g6)), (qFd_logs, .inl (cI, 256, .inl Fd_logs)), (qWd_coefficients, .inl (cI, 250, .inl g7)), (qLc, .inr (3, [.ref qFd, .ref qLc_poly, .ref qLc_earlier, .ref qLc_spare, .ref qLc_evaluator, .ref qLc_places])), (qLc_poly, .inl (cI, 33, .inl g8)), (qLc_earlier, .inl (cI, 33, .inl g9)), (qLc_spare, .inl (cI, 33, .inl g10)), (qLc_places, .inl (cI, 32, .inl g11)), (qLc_evaluator, .inl (cI, 33, .inl g12)), (qFd_otherForms, .inl (cI, 256, .inl Fd_otherForms)), (qFd_elements, .inl (cI, 256, .inl Fd_elements)), (qRc_putRight, .inl (cI, 128, .inl g14))]) (As := []) (rest := [.int x1]) (c_Shape_blockBytes l D cI cJ tt qSh (.int Sh_e) Sh_pattern _ Sh_depth Sh_wordBytes r20 hu) F ok_Shape_blockBytes rfl k_726 hK hE hP hD hS hA [3] [0, 1, 2, 4, 5, 6, 7, 8, 9, 10, 11, 12, 13, 14, 15, 16, 17, 18, 19, 20, 21, 22, 23] rfl rfl (by decide) (by decide) (by decide) 0 rfl rfl rfl ⟨rfl, rfl, Nat.le_of_ble_eq_true rfl, Nat.le_of_ble_eq_true rfl⟩ ⟨Nat.zero_le _, Nat.zero_le _⟩ rfl hl.1 rfl (Nat.le_of_ble_eq_true rfl) d_Receiver_readBlocks_53 (fun H locs hP hD hS => ?_)
        have hP : va_P D classes (w_Receiver_readBlocks cI cJ qRc qRc_lastOfChannel qRc_facts qSh qFo qFo_cells qMx qMx_bytes qRc_bytes qWd qFd qFd_powers qWd_syndromes qFd_logs qWd_coefficients qLc qLc_poly qLc_earlier qLc_spare qLc_places qLc_evaluator qFd_otherForms qFd_elements qRc_putRight Rc_nearest Rc_differing Sh_pattern Fo_length Wd_generator Wd_remainder v16 Rc_taken g18 g17 Sh_depth Sh_wordBytes Sh_e Fo_cells Mx_bytes g13 Fd_powers g6 Fd_logs g7 g8 g9 g10 g11 g12 Fd_otherForms Fd_elements g14) H := hP.sub [0, 1, 2, 23, 3, 4, 5, 6, 7, 8, 9, 10, 11, 12, 13, 14, 15, 16, 17, 18, 19, 20, 21, 22] rfl
        have hD : va_D A (w_Receiver_readBlocks cI cJ qRc qRc_lastOfChannel qRc_facts qSh qFo qFo_cells qMx qMx_bytes qRc_bytes qWd qFd qFd_powers qWd_syndromes qFd_logs qWd_coefficients qLc qLc_poly qLc_earlier qLc_spare qLc_places qLc_evaluator qFd_otherForms qFd_elements qRc_putRight Rc_nearest Rc_differing Sh_pattern Fo_length Wd_generator Wd_remainder v16 Rc_taken g18 g17 Sh_depth Sh_wordBytes Sh_e Fo_cells Mx_bytes g13 Fd_powers g6 Fd_logs g7 g8 g9 g10 g11 g12 Fd_otherForms Fd_elements g14) := hD.sub [0, 1, 2, 23, 3, 4, 5, 6, 7, 8, 9, 10, 11, 12, 13, 14, 15, 16, 17, 18, 19, 20, 21, 22] (by decide) rfl
        refine lv_iadd hx hb d_Receiver_readBlocks_56 ?_
        refine z_nmi hm (fun v22 hm => ?_)
        refine lv_istore_n (lv' := [(1, .int v22), (0, .ref qRc), (2, .int x2)]) hx hb d_Receiver_readBlocks_57 rfl hl (by decide) rfl (fun ls hl => ?_)
        obtain ⟨v23, ev, hm⟩ := nm_el hm
        refine lv_iinc (v := v23) (lv' := [(2, .int v23), (1, .int v22), (0, .ref qRc)]) hx hb d_Receiver_readBlocks_58 hl (k := 2) rfl (by rw [ev]; rfl) (by decide) rfl (fun ls hl => ?_)
        refine lv_goto (tgt := 17) hx hb d_Receiver_readBlocks_61 (by decide) ?_
        exact ih17 v22 v23 v16 g18 g17 g13 g6 g7 g8 g9 g10 g11 g12 g14 hm _ _ hP hD hS _ (lv_sub hl [2, 1, 0] rfl)
  unfold f_Receiver_readBlocks at hm
  refine lv_aload_n hx hb d_Receiver_readBlocks_0 rfl (lv_at hl 0 rfl) ?_
  refine lv_iconst (v := (-1 : Int32)) hx hb d_Receiver_readBlocks_1 (by decide) ?_
  refine va_put (D := D) (ci := 6) (v := .int (-1 : Int32)) (ty := .int) (C := "DeepChannel$Receiver") (T := fT_Receiver) (N := 12) hx hb hts u_Receiver fY_Receiver fK_Receiver fN_Receiver hown hK hP hD hS 0 rfl rfl 9 (by decide) (hts _ k_313) (fun _ h9 => h9) rfl (by decide +kernel) rfl rfl (Nat.le_of_ble_eq_true rfl) d_Receiver_readBlocks_2 (fun H locs hP hD hS => ?_)
  have hP : va_P D classes (w_Receiver_readBlocks cI cJ qRc qRc_lastOfChannel qRc_facts qSh qFo qFo_cells qMx qMx_bytes qRc_bytes qWd qFd qFd_powers qWd_syndromes qFd_logs qWd_coefficients qLc qLc_poly qLc_earlier qLc_spare qLc_places qLc_evaluator qFd_otherForms qFd_elements qRc_putRight Rc_nearest Rc_differing Sh_pattern Fo_length Wd_generator Wd_remainder (-1 : Int32) Rc_taken Rc_lastOfChannel Rc_facts Sh_depth Sh_wordBytes Sh_e Fo_cells Mx_bytes Rc_bytes Fd_powers Wd_syndromes Fd_logs Wd_coefficients Lc_poly Lc_earlier Lc_spare Lc_places Lc_evaluator Fd_otherForms Fd_elements Rc_putRight) H := hP
  have hD : va_D A (w_Receiver_readBlocks cI cJ qRc qRc_lastOfChannel qRc_facts qSh qFo qFo_cells qMx qMx_bytes qRc_bytes qWd qFd qFd_powers qWd_syndromes qFd_logs qWd_coefficients qLc qLc_poly qLc_earlier qLc_spare qLc_places qLc_evaluator qFd_otherForms qFd_elements qRc_putRight Rc_nearest Rc_differing Sh_pattern Fo_length Wd_generator Wd_remainder (-1 : Int32) Rc_taken Rc_lastOfChannel Rc_facts Sh_depth Sh_wordBytes Sh_e Fo_cells Mx_bytes Rc_bytes Fd_powers Wd_syndromes Fd_logs Wd_coefficients Lc_poly Lc_earlier Lc_spare Lc_places Lc_evaluator Fd_otherForms Fd_elements Rc_putRight) := hD
  refine lv_aload_n hx hb d_Receiver_readBlocks_5 rfl (lv_at hl 0 rfl) ?_
  refine va_get (D := D) (ci := 6) (v := .ref qRc_lastOfChannel) (C := "DeepChannel$Receiver") (T := fT_Receiver) (N := 12) hx hb hts u_Receiver hown hK hP 0 rfl rfl 8 (by decide) (hts _ k_312) (fun _ h9 => h9) rfl d_Receiver_readBlocks_6 ?_
  refine lv_iconst (v := (-1 : Int32)) hx hb d_Receiver_readBlocks_9 (by decide) ?_
  obtain ⟨g24, hu, hm⟩ := bd_el hm
  replace hm := nm_1 hm
  refine z_cSv (wc := w_Arrays_fillI cI cJ qRc_lastOfChannel 8 Rc_lastOfChannel) (wc' := w_Arrays_fillI cI cJ qRc_lastOfChannel 8 g24) (wr := [(qRc, .inr (6, [.ref qSh, .ref qWd, .ref qMx, Rc_nearest, .ref qFo, .ref qRc_bytes, .ref qRc_facts, .ref qRc_putRight, .ref qRc_lastOfChannel, .int (-1 : Int32), Rc_differing, .int Rc_taken])), (qRc_facts, .inl (cI, 144, .inl Rc_facts)), (qSh, .inr (8, [.int Sh_depth, .int Sh_wordBytes, .int Sh_e, Sh_pattern])), (qFo, .inr (0, [.ref qFo_cells, Fo_length])), (qFo_cells, .inl (cJ, 64, .inr (.inl Fo_cells))), (qMx, .inr (4, [.ref qMx_bytes])), (qMx_bytes, .inl (cI, 250, .inl Mx_bytes)), (qRc_bytes, .inl (cI, 512, .inl Rc_bytes)), (qWd, .inr (9, [.ref qSh, .ref qFd, Wd_generator, Wd_remainder, .ref qWd_coefficients, .ref qWd_syndromes, .ref qLc])), (qFd, .inr (2, [.ref qFd_powers, .ref qFd_logs, .ref qFd_otherForms, .ref qFd_elements])), (qFd_powers, .inl (cI, 255, .inl Fd_powers)), (qWd_syndromes, .inl (cI, 32, .inl Wd_syndromes)), (qFd_logs, .inl (cI, 256, .inl Fd_logs)), (qWd_coefficients, .inl (cI, 250, .inl Wd_coefficients)), (qLc, .inr (3, [.ref qFd, .ref qLc_poly, .ref qLc_earlier, .ref qLc_spare, .ref qLc_evaluator, .ref qLc_places])), (qLc_poly, .inl (cI, 33, .inl Lc_poly)), (qLc_earlier, .inl (cI, 33, .inl Lc_earlier)), (qLc_spare, .inl (cI, 33, .inl Lc_spare)), (qLc_places, .inl (cI, 32, .inl Lc_places)), (qLc_evaluator, .inl (cI, 33, .inl Lc_evaluator)), (qFd_otherForms, .inl (cI, 256, .inl Fd_otherForms)), (qFd_elements, .inl (cI, 256, .inl Fd_elements)), (qRc_putRight, .inl (cI, 128, .inl Rc_putRight))]) (As := [.ref qRc_lastOfChannel, .int (-1 : Int32)]) (rest := []) (c_Arrays_fillI l D cI cJ tt qRc_lastOfChannel 8 _ Rc_lastOfChannel (-1 : Int32) g24 hu) F ok_Arrays_fillI k_740 hK hE hP hD hS hA [1] [0, 2, 3, 4, 5, 6, 7, 8, 9, 10, 11, 12, 13, 14, 15, 16, 17, 18, 19, 20, 21, 22, 23] rfl rfl (by decide) (by decide) (by decide) ⟨rfl, rfl, Nat.le_of_ble_eq_true rfl, Nat.le_of_ble_eq_true rfl⟩ ⟨Nat.zero_le _, Nat.zero_le _⟩ rfl hl.1 rfl (Nat.le_of_ble_eq_true rfl) d_Receiver_readBlocks_10 (fun H locs hP hD hS => ?_)
  have hP : va_P D classes (w_Receiver_readBlocks cI cJ qRc qRc_lastOfChannel qRc_facts qSh qFo qFo_cells qMx qMx_bytes qRc_bytes qWd qFd qFd_powers qWd_syndromes qFd_logs qWd_coefficients qLc qLc_poly qLc_earlier qLc_spare qLc_places qLc_evaluator qFd_otherForms qFd_elements qRc_putRight Rc_nearest Rc_differing Sh_pattern Fo_length Wd_generator Wd_remainder (-1 : Int32) Rc_taken g24 Rc_facts Sh_depth Sh_wordBytes Sh_e Fo_cells Mx_bytes Rc_bytes Fd_powers Wd_syndromes Fd_logs Wd_coefficients Lc_poly Lc_earlier Lc_spare Lc_places Lc_evaluator Fd_otherForms Fd_elements Rc_putRight) H := hP.sub [0, 23, 1, 2, 3, 4, 5, 6, 7, 8, 9, 10, 11, 12, 13, 14, 15, 16, 17, 18, 19, 20, 21, 22] rfl
  have hD : va_D A (w_Receiver_readBlocks cI cJ qRc qRc_lastOfChannel qRc_facts qSh qFo qFo_cells qMx qMx_bytes qRc_bytes qWd qFd qFd_powers qWd_syndromes qFd_logs qWd_coefficients qLc qLc_poly qLc_earlier qLc_spare qLc_places qLc_evaluator qFd_otherForms qFd_elements qRc_putRight Rc_nearest Rc_differing Sh_pattern Fo_length Wd_generator Wd_remainder (-1 : Int32) Rc_taken g24 Rc_facts Sh_depth Sh_wordBytes Sh_e Fo_cells Mx_bytes Rc_bytes Fd_powers Wd_syndromes Fd_logs Wd_coefficients Lc_poly Lc_earlier Lc_spare Lc_places Lc_evaluator Fd_otherForms Fd_elements Rc_putRight) := hD.sub [0, 23, 1, 2, 3, 4, 5, 6, 7, 8, 9, 10, 11, 12, 13, 14, 15, 16, 17, 18, 19, 20, 21, 22] (by decide) rfl
  refine lv_iconst (v := (0 : Int32)) hx hb d_Receiver_readBlocks_13 (by decide) ?_
  refine lv_istore_n (lv' := [(1, .int (0 : Int32)), (0, .ref qRc)]) hx hb d_Receiver_readBlocks_14 rfl hl (by decide) rfl (fun ls hl => ?_)
  refine lv_iconst (v := (0 : Int32)) hx hb d_Receiver_readBlocks_15 (by decide) ?_
  refine lv_istore_n (lv' := [(2, .int (0 : Int32)), (1, .int (0 : Int32)), (0, .ref qRc)]) hx hb d_Receiver_readBlocks_16 rfl hl (by decide) rfl (fun ls hl => ?_)
  exact T17 10000 (0 : Int32) (0 : Int32) (-1 : Int32) g24 Rc_facts Rc_bytes Wd_syndromes Wd_coefficients Lc_poly Lc_earlier Lc_spare Lc_places Lc_evaluator Rc_putRight hm _ _ hP hD hS _ (lv_sub hl [2, 1, 0] rfl)
