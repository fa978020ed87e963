theorem fs_BitRow : ∀ j, j < 2 → defaultValue (fY_BitRow j) = vp_V [.null, .int (0 : Int32)] j := by
  intro j hj
  rcases (show j = 0 ∨ j = 1 by omega) with rfl | rfl <;> rfl
theorem fs_Coder : ∀ j, j < 4 → defaultValue (fY_Coder j) = vp_V [.null, .null, .int (0 : Int32), .int (0 : Int32)] j := by
  intro j hj
  rcases (show j = 0 ∨ j = 1 ∨ j = 2 ∨ j = 3 by omega) with rfl | rfl | rfl | rfl <;> rfl
theorem fs_Field : ∀ j, j < 4 → defaultValue (fY_Field j) = vp_V [.null, .null, .null, .null] j := by
  intro j hj
  rcases (show j = 0 ∨ j = 1 ∨ j = 2 ∨ j = 3 by omega) with rfl | rfl | rfl | rfl <;> rfl
theorem fs_Locator : ∀ j, j < 6 → defaultValue (fY_Locator j) = vp_V [.null, .null, .null, .null, .null, .null] j := by
  intro j hj
  rcases (show j = 0 ∨ j = 1 ∨ j = 2 ∨ j = 3 ∨ j = 4 ∨ j = 5 by omega) with rfl | rfl | rfl | rfl | rfl | rfl <;> rfl
theorem fs_Mixer : ∀ j, j < 1 → defaultValue (fY_Mixer j) = vp_V [.null] j := by
  intro j hj
  rcases (show j = 0 by omega) with rfl <;> rfl
theorem fs_Nearest : ∀ j, j < 5 → defaultValue (fY_Nearest j) = vp_V [.null, .null, .null, .null, .null] j := by
  intro j hj
  rcases (show j = 0 ∨ j = 1 ∨ j = 2 ∨ j = 3 ∨ j = 4 by omega) with rfl | rfl | rfl | rfl | rfl <;> rfl
theorem fs_Receiver : ∀ j, j < 12 → defaultValue (fY_Receiver j) = vp_V [.null, .null, .null, .null, .null, .null, .null, .null, .null, .int (0 : Int32), .int (0 : Int32), .int (0 : Int32)] j := by
  intro j hj
  rcases (show j = 0 ∨ j = 1 ∨ j = 2 ∨ j = 3 ∨ j = 4 ∨ j = 5 ∨ j = 6 ∨ j = 7 ∨ j = 8 ∨ j = 9 ∨ j = 10 ∨ j = 11 by omega) with rfl | rfl | rfl | rfl | rfl | rfl | rfl | rfl | rfl | rfl | rfl | rfl <;> rfl
theorem fs_Sender : ∀ j, j < 8 → defaultValue (fY_Sender j) = vp_V [.null, .null, .null, .null, .null, .int (0 : Int32), .int (0 : Int32), .int (0 : Int32)] j := by
  intro j hj
  rcases (show j = 0 ∨ j = 1 ∨ j = 2 ∨ j = 3 ∨ j = 4 ∨ j = 5 ∨ j = 6 ∨ j = 7 by omega) with rfl | rfl | rfl | rfl | rfl | rfl | rfl | rfl <;> rfl
theorem fs_Shape : ∀ j, j < 4 → defaultValue (fY_Shape j) = vp_V [.int (0 : Int32), .int (0 : Int32), .int (0 : Int32), .int (0 : Int32)] j := by
  intro j hj
  rcases (show j = 0 ∨ j = 1 ∨ j = 2 ∨ j = 3 by omega) with rfl | rfl | rfl | rfl <;> rfl
theorem fs_Words : ∀ j, j < 7 → defaultValue (fY_Words j) = vp_V [.null, .null, .null, .null, .null, .null, .null] j := by
  intro j hj
  rcases (show j = 0 ∨ j = 1 ∨ j = 2 ∨ j = 3 ∨ j = 4 ∨ j = 5 ∨ j = 6 by omega) with rfl | rfl | rfl | rfl | rfl | rfl | rfl <;> rfl
theorem fs_DC : ∀ j, j < 7 → defaultValue (fY_DC j) = vp_V [.null, .null, .null, .null, .null, .null, .null] j := by
  intro j hj
  rcases (show j = 0 ∨ j = 1 ∨ j = 2 ∨ j = 3 ∨ j = 4 ∨ j = 5 ∨ j = 6 by omega) with rfl | rfl | rfl | rfl | rfl | rfl | rfl <;> rfl
theorem fs_Mo : ∀ j, j < 40 → defaultValue (fY_Mo j) = vp_V [.int (0 : Int32), .int (0 : Int32), .int (0 : Int32), .int (0 : Int32), .int (0 : Int32), .int (0 : Int32), .null, .null, .null, .null, .null, .null, .null, .null, .null, .int (0 : Int32), .int (0 : Int32), .null, .null, .int (0 : Int32), .int (0 : Int32), .int (0 : Int32), .null, .null, .null, .int (0 : Int32), .int (0 : Int32), .int (0 : Int32), .null, .null, .null, .null, .null, .int (0 : Int32), .null, .null, .null, .null, .null, .null] j := by
  intro j hj
  rcases (show j = 0 ∨ j = 1 ∨ j = 2 ∨ j = 3 ∨ j = 4 ∨ j = 5 ∨ j = 6 ∨ j = 7 ∨ j = 8 ∨ j = 9 ∨ j = 10 ∨ j = 11 ∨ j = 12 ∨ j = 13 ∨ j = 14 ∨ j = 15 ∨ j = 16 ∨ j = 17 ∨ j = 18 ∨ j = 19 ∨ j = 20 ∨ j = 21 ∨ j = 22 ∨ j = 23 ∨ j = 24 ∨ j = 25 ∨ j = 26 ∨ j = 27 ∨ j = 28 ∨ j = 29 ∨ j = 30 ∨ j = 31 ∨ j = 32 ∨ j = 33 ∨ j = 34 ∨ j = 35 ∨ j = 36 ∨ j = 37 ∨ j = 38 ∨ j = 39 by omega) with rfl | rfl | rfl | rfl | rfl | rfl | rfl | rfl | rfl | rfl | rfl | rfl | rfl | rfl | rfl | rfl | rfl | rfl | rfl | rfl | rfl | rfl | rfl | rfl | rfl | rfl | rfl | rfl | rfl | rfl | rfl | rfl | rfl | rfl | rfl | rfl | rfl | rfl | rfl | rfl <;> rfl
-- DeepChannel$Shape.<init>()V
abbrev b_Shape_init : ByteArray := prog_10_method_1_code
abbrev y_Shape_init : MethodName := ⟨"DeepChannel$Shape", "<init>", "()V"⟩
theorem d_Shape_init_0 : decode b_Shape_init 0 = .ok (.aload_n 0, 1) := by decide +kernel
theorem d_Shape_init_1 : decode b_Shape_init 1 = .ok (.invokespecial 3, 3) := by decide +kernel
theorem d_Shape_init_4 : decode b_Shape_init 4 = .ok (.aload_n 0, 1) := by decide +kernel
theorem d_Shape_init_5 : decode b_Shape_init 5 = .ok (.iconst 1, 1) := by decide +kernel
theorem d_Shape_init_6 : decode b_Shape_init 6 = .ok (.putfield 9, 3) := by decide +kernel
theorem d_Shape_init_9 : decode b_Shape_init 9 = .ok (.aload_n 0, 1) := by decide +kernel
theorem d_Shape_init_10 : decode b_Shape_init 10 = .ok (.bipush 55, 2) := by decide +kernel
theorem d_Shape_init_12 : decode b_Shape_init 12 = .ok (.putfield 15, 3) := by decide +kernel
theorem d_Shape_init_15 : decode b_Shape_init 15 = .ok (.aload_n 0, 1) := by decide +kernel
theorem d_Shape_init_16 : decode b_Shape_init 16 = .ok (.bipush 8, 2) := by decide +kernel
theorem d_Shape_init_18 : decode b_Shape_init 18 = .ok (.putfield 18, 3) := by decide +kernel
theorem d_Shape_init_21 : decode b_Shape_init 21 = .ok (.aload_n 0, 1) := by decide +kernel
theorem d_Shape_init_22 : decode b_Shape_init 22 = .ok (.iconst 0, 1) := by decide +kernel
theorem d_Shape_init_23 : decode b_Shape_init 23 = .ok (.putfield 21, 3) := by decide +kernel
theorem d_Shape_init_26 : decode b_Shape_init 26 = .ok (.return_, 1) := by decide +kernel
theorem ok_Shape_init : OKc y_Shape_init b_Shape_init 1 0 := ⟨k_76, k_75, k_43, rfl, by decide +kernel, by decide +kernel, by decide +kernel⟩
abbrev w1_Shape_init (cI cJ : ClassId) (qSh : Nat)   : va_W := [(qSh, .inr (8, [.int (0 : Int32), .int (0 : Int32), .int (0 : Int32), .int (0 : Int32)]))]
abbrev w2_Shape_init (cI cJ : ClassId) (qSh : Nat)    (Sh_depth' : Int32) (Sh_wordBytes' : Int32) (Sh_e' : Int32) (Sh_pattern' : Int32) : va_W := [(qSh, .inr (8, [.int Sh_depth', .int Sh_wordBytes', .int Sh_e', .int Sh_pattern']))]
def f_Shape_init  : Option (Int32 × Int32 × Int32 × Int32) :=
  some ((1 : Int32), (55 : Int32), (8 : Int32), (0 : Int32))
set_option maxHeartbeats 4000000 in
set_option maxRecDepth 100000 in
theorem c_Shape_init (l : Launch) (D : va_G) (cI cJ : ClassId) (tt : Nat → Nat) (qSh : Nat)  (sz : Nat)  (Sh_depth' : Int32) (Sh_wordBytes' : Int32) (Sh_e' : Int32) (Sh_pattern' : Int32) (hm : f_Shape_init = some (Sh_depth', Sh_wordBytes', Sh_e', Sh_pattern')) : CTc l y_Shape_init b_Shape_init 1 (RC 1 0 0 20) D cI cJ tt [.ref qSh] (w1_Shape_init cI cJ qSh) (Nat → Nat) (fun (u : Nat → Nat) => w2_Shape_init cI cJ qSh Sh_depth' Sh_wordBytes' Sh_e' Sh_pattern') sz 0 0 := by
  refine Met.ofW (cc := b_Shape_init) (maxL := 1) (ret := none) (by decide) rfl ?_
  intro p e s m args below meth c s₁ B hml hv
  obtain ⟨hargs, hsz, hP, hK, hD0, hE⟩ := hv
  have hx := B.exec
  have hb := B.bytes
  have hr := B.returns
  have hts : ∀ w ∈ TB, w.before args s = true := z_mV s (atoms_spec (ws := WD y_Shape_init b_Shape_init 1 none) B.pre)
  have hown : s.vm.findClass "DeepChannel$Shape" = some m.cls := findClass_of_methodNamed B.named
  have hlocks := B.notSynchronized
  have hin : meth.name = "<init>" := (name_of_methodNamed B.named B.method).1
  subst hsz
  have hD := hD0.self (sz := s.heap.size)
  generalize hAe : va_A (w1_Shape_init cI cJ qSh) s.heap.size = A at hD hE ⊢
  have hA : ∀ q : Nat, s.heap.size ≤ q → A q := fun q h => by rw [← hAe]; exact Or.inr h
  have hS : va_S A s.heap s.heap [] := va_S.rf
  refine z_entry (vs := [.ref qSh]) hargs (Nat.le_of_ble_eq_true rfl) (fun ls hl => ?_)
  have hl : lv_has ls 1 [(0, .ref qSh)] := hl
  show W p l e (RC 1 0 0 20) s m args below meth c s.heap [] 0 0 _ _
  refine z_qi (fun Q0 hQ => ?_)
  have F : CallFix p m c b_Shape_init 1 s args TB "DeepChannel$Shape" := ⟨hx, hb, hml, hown, hts⟩
  unfold f_Shape_init at hm
  refine lv_aload_n hx hb d_Shape_init_0 rfl (lv_at hl 0 rfl) ?_
  refine W.objInit hx hb hown (hts _ k_77) (hts _ k_70) (hts _ k_71) rfl (by rw [hml]; exact hl.1) rfl d_Shape_init_1 (Nat.le_of_ble_eq_true rfl) (Nat.le_of_ble_eq_true rfl) ?_
  refine W.eq (g2 := F0 m 4 ls []) rfl ?_
  refine lv_aload_n hx hb d_Shape_init_4 rfl (lv_at hl 0 rfl) ?_
  refine lv_iconst (v := (1 : Int32)) hx hb d_Shape_init_5 (by decide) ?_
  refine va_put (D := D) (ci := 8) (v := .int (1 : Int32)) (ty := .int) (C := "DeepChannel$Shape") (T := fT_Shape) (N := 4) hx hb hts u_Shape fY_Shape fK_Shape fN_Shape hown hK hP hD hS 0 rfl rfl 0 (by decide) (hts _ k_78) (fun _ h9 => h9) rfl (by decide +kernel) rfl rfl (Nat.le_of_ble_eq_true rfl) d_Shape_init_6 (fun H locs hP hD hS => ?_)
  have hP : va_P D classes ([(qSh, .inr (8, [.int (1 : Int32), .int (0 : Int32), .int (0 : Int32), .int (0 : Int32)]))]) H := hP
  have hD : va_D A ([(qSh, .inr (8, [.int (1 : Int32), .int (0 : Int32), .int (0 : Int32), .int (0 : Int32)]))]) := hD
  refine lv_aload_n hx hb d_Shape_init_9 rfl (lv_at hl 0 rfl) ?_
  refine lv_bipush (v := (55 : Int32)) hx hb d_Shape_init_10 (by decide) ?_
  refine va_put (D := D) (ci := 8) (v := .int (55 : Int32)) (ty := .int) (C := "DeepChannel$Shape") (T := fT_Shape) (N := 4) hx hb hts u_Shape fY_Shape fK_Shape fN_Shape hown hK hP hD hS 0 rfl rfl 1 (by decide) (hts _ k_81) (fun _ h9 => h9) rfl (by decide +kernel) rfl rfl (Nat.le_of_ble_eq_true rfl) d_Shape_init_12 (fun H locs hP hD hS => ?_)
  have hP : va_P D classes ([(qSh, .inr (8, [.int (1 : Int32), .int (55 : Int32), .int (0 : Int32), .int (0 : Int32)]))]) H := hP
  have hD : va_D A ([(qSh, .inr (8, [.int (1 : Int32), .int (55 : Int32), .int (0 : Int32), .int (0 : Int32)]))]) := hD
  refine lv_aload_n hx hb d_Shape_init_15 rfl (lv_at hl 0 rfl) ?_
  refine lv_bipush (v := (8 : Int32)) hx hb d_Shape_init_16 (by decide) ?_
  refine va_put (D := D) (ci := 8) (v := .int (8 : Int32)) (ty := .int) (C := "DeepChannel$Shape") (T := fT_Shape) (N := 4) hx hb hts u_Shape fY_Shape fK_Shape fN_Shape hown hK hP hD hS 0 rfl rfl 2 (by decide) (hts _ k_83) (fun _ h9 => h9) rfl (by decide +kernel) rfl rfl (Nat.le_of_ble_eq_true rfl) d_Shape_init_18 (fun H locs hP hD hS => ?_)
  have hP : va_P D classes ([(qSh, .inr (8, [.int (1 : Int32), .int (55 : Int32), .int (8 : Int32), .int (0 : Int32)]))]) H := hP
  have hD : va_D A ([(qSh, .inr (8, [.int (1 : Int32), .int (55 : Int32), .int (8 : Int32), .int (0 : Int32)]))]) := hD
  refine lv_aload_n hx hb d_Shape_init_21 rfl (lv_at hl 0 rfl) ?_
  refine lv_iconst (v := (0 : Int32)) hx hb d_Shape_init_22 (by decide) ?_
  refine va_put (D := D) (ci := 8) (v := .int (0 : Int32)) (ty := .int) (C := "DeepChannel$Shape") (T := fT_Shape) (N := 4) hx hb hts u_Shape fY_Shape fK_Shape fN_Shape hown hK hP hD hS 0 rfl rfl 3 (by decide) (hts _ k_85) (fun _ h9 => h9) rfl (by decide +kernel) rfl rfl (Nat.le_of_ble_eq_true rfl) d_Shape_init_23 (fun H locs hP hD hS => ?_)
  have hP : va_P D classes ([(qSh, .inr (8, [.int (1 : Int32), .int (55 : Int32), .int (8 : Int32), .int (0 : Int32)]))]) H := hP
  have hD : va_D A ([(qSh, .inr (8, [.int (1 : Int32), .int (55 : Int32), .int (8 : Int32), .int (0 : Int32)]))]) := hD
  cases hm
  exact z_qo hQ (z_vretC (fun k => [].getD k 0) hr hx hb hlocks hK hP hD hS d_Shape_init_26)
-- DeepChannel$BitRow.<init>()V
abbrev b_BitRow_init : ByteArray := prog_2_method_1_code
abbrev y_BitRow_init : MethodName := ⟨"DeepChannel$BitRow", "<init>", "()V"⟩
theorem d_BitRow_init_0 : decode b_BitRow_init 0 = .ok (.aload_n 0, 1) := by decide +kernel
theorem d_BitRow_init_1 : decode b_BitRow_init 1 = .ok (.invokespecial 3, 3) := by decide +kernel
theorem d_BitRow_init_4 : decode b_BitRow_init 4 = .ok (.aload_n 0, 1) := by decide +kernel
theorem d_BitRow_init_5 : decode b_BitRow_init 5 = .ok (.bipush 64, 2) := by decide +kernel
theorem d_BitRow_init_7 : decode b_BitRow_init 7 = .ok (.newarray .long, 2) := by decide +kernel
theorem d_BitRow_init_9 : decode b_BitRow_init 9 = .ok (.putfield 9, 3) := by decide +kernel
theorem d_BitRow_init_12 : decode b_BitRow_init 12 = .ok (.aload_n 0, 1) := by decide +kernel
theorem d_BitRow_init_13 : decode b_BitRow_init 13 = .ok (.iconst 0, 1) := by decide +kernel
theorem d_BitRow_init_14 : decode b_BitRow_init 14 = .ok (.putfield 15, 3) := by decide +kernel
theorem d_BitRow_init_17 : decode b_BitRow_init 17 = .ok (.return_, 1) := by decide +kernel
theorem ok_BitRow_init : OKc y_BitRow_init b_BitRow_init 1 0 := ⟨k_210, k_209, k_50, rfl, by decide +kernel, by decide +kernel, by decide +kernel⟩
abbrev w1_BitRow_init (cI cJ : ClassId) (qB : Nat)   : va_W := [(qB, .inr (0, [.null, .int (0 : Int32)]))]
abbrev w2_BitRow_init (cI cJ : ClassId) (qB : Nat) (qB_cells : Nat)   (B_length' : Int32) : va_W := [(qB, .inr (0, [.ref qB_cells, .int B_length'])), (qB_cells, .inl (cJ, 64, .inr (.inl (fun _ => (0 : Int64)))))]
def f_BitRow_init  : Option (Int32) :=
  some (0 : Int32)
set_option maxHeartbeats 4000000 in
set_option maxRecDepth 100000 in
theorem c_BitRow_init (l : Launch) (D : va_G) (cI cJ : ClassId) (tt : Nat → Nat) (qB : Nat)  (sz : Nat)  (B_length' : Int32) (hm : f_BitRow_init = some B_length') : CTc l y_BitRow_init b_BitRow_init 1 (RC 1 1 64 20) D cI cJ tt [.ref qB] (w1_BitRow_init cI cJ qB) (Nat → Nat) (fun (u : Nat → Nat) => w2_BitRow_init cI cJ qB (u 0) B_length') sz 1 64 := by
  refine Met.ofW (cc := b_BitRow_init) (maxL := 1) (ret := none) (by decide) rfl ?_
  intro p e s m args below meth c s₁ B hml hv
  obtain ⟨hargs, hsz, hP, hK, hD0, hE⟩ := hv
  have hx := B.exec
  have hb := B.bytes
  have hr := B.returns
  have hts : ∀ w ∈ TB, w.before args s = true := z_mV s (atoms_spec (ws := WD y_BitRow_init b_BitRow_init 1 none) B.pre)
  have hown : s.vm.findClass "DeepChannel$BitRow" = some m.cls := findClass_of_methodNamed B.named
  have hlocks := B.notSynchronized
  have hin : meth.name = "<init>" := (name_of_methodNamed B.named B.method).1
  subst hsz
  have hD := hD0.self (sz := s.heap.size)
  generalize hAe : va_A (w1_BitRow_init cI cJ qB) s.heap.size = A at hD hE ⊢
  have hA : ∀ q : Nat, s.heap.size ≤ q → A q := fun q h => by rw [← hAe]; exact Or.inr h
  have hS : va_S A s.heap s.heap [] := va_S.rf
  refine z_entry (vs := [.ref qB]) hargs (Nat.le_of_ble_eq_true rfl) (fun ls hl => ?_)
  have hl : lv_has ls 1 [(0, .ref qB)] := hl
  show W p l e (RC 1 1 64 20) s m args below meth c s.heap [] 0 0 _ _
  refine z_qi (fun Q0 hQ => ?_)
  have F : CallFix p m c b_BitRow_init 1 s args TB "DeepChannel$BitRow" := ⟨hx, hb, hml, hown, hts⟩
  unfold f_BitRow_init at hm
  refine lv_aload_n hx hb d_BitRow_init_0 rfl (lv_at hl 0 rfl) ?_
  refine W.objInit hx hb hown (hts _ k_211) (hts _ k_70) (hts _ k_71) rfl (by rw [hml]; exact hl.1) rfl d_BitRow_init_1 (Nat.le_of_ble_eq_true rfl) (Nat.le_of_ble_eq_true rfl) ?_
  refine W.eq (g2 := F0 m 4 ls []) rfl ?_
  refine lv_aload_n hx hb d_BitRow_init_4 rfl (lv_at hl 0 rfl) ?_
  refine lv_bipush (v := (64 : Int32)) hx hb d_BitRow_init_5 (by decide) ?_
  refine z_newL (N := 64) hx hb hts k_219 hK hP hD hS hA (by decide) (by decide) (Nat.le_of_ble_eq_true rfl) (Nat.le_of_ble_eq_true rfl) (Nat.le_of_ble_eq_true rfl) d_BitRow_init_7 (fun qB_cells H hP hD hS => ?_)
  have hP : va_P D classes ([(qB, .inr (0, [.null, .int (0 : Int32)])), (qB_cells, .inl (cJ, 64, .inr (.inl (fun _ => (0 : Int64)))))]) H := hP
  have hD : va_D A ([(qB, .inr (0, [.null, .int (0 : Int32)])), (qB_cells, .inl (cJ, 64, .inr (.inl (fun _ => (0 : Int64)))))]) := hD
  refine va_putF (D := D) (ci := 0) (v := .ref qB_cells) (ty := .array .long) (C := "DeepChannel$BitRow") (T := fT_BitRow) (N := 2) hx hb hts u_BitRow fY_BitRow fK_BitRow fN_BitRow hown hK hP hD hS 0 rfl rfl 0 (by decide) (hts _ k_212) (fun _ h9 => h9) rfl hin rfl (by decide +kernel) rfl rfl (Nat.le_of_ble_eq_true rfl) d_BitRow_init_9 (fun H locs hP hD hS => ?_)
  have hP : va_P D classes ([(qB, .inr (0, [.ref qB_cells, .int (0 : Int32)])), (qB_cells, .inl (cJ, 64, .inr (.inl (fun _ => (0 : Int64)))))]) H := hP
  have hD : va_D A ([(qB, .inr (0, [.ref qB_cells, .int (0 : Int32)])), (qB_cells, .inl (cJ, 64, .inr (.inl (fun _ => (0 : Int64)))))]) := hD
  refine lv_aload_n hx hb d_BitRow_init_12 rfl (lv_at hl 0 rfl) ?_
  refine lv_iconst (v := (0 : Int32)) hx hb d_BitRow_init_13 (by decide) ?_
  refine va_put (D := D) (ci := 0) (v := .int (0 : Int32)) (ty := .int) (C := "DeepChannel$BitRow") (T := fT_BitRow) (N := 2) hx hb hts u_BitRow fY_BitRow fK_BitRow fN_BitRow hown hK hP hD hS 0 rfl rfl 1 (by decide) (hts _ k_213) (fun _ h9 => h9) rfl (by decide +kernel) rfl rfl (Nat.le_of_ble_eq_true rfl) d_BitRow_init_14 (fun H locs hP hD hS => ?_)
  have hP : va_P D classes ([(qB, .inr (0, [.ref qB_cells, .int (0 : Int32)])), (qB_cells, .inl (cJ, 64, .inr (.inl (fun _ => (0 : Int64)))))]) H := hP
  have hD : va_D A ([(qB, .inr (0, [.ref qB_cells, .int (0 : Int32)])), (qB_cells, .inl (cJ, 64, .inr (.inl (fun _ => (0 : Int64)))))]) := hD
  cases hm
  exact z_qo hQ (z_vretC (fun k => [qB_cells].getD k 0) hr hx hb hlocks hK hP hD hS d_BitRow_init_17)
-- DeepChannel$Coder.<init>(LDeepChannel$Shape;LDeepChannel$BitRow;)V
abbrev b_Coder_init : ByteArray := prog_3_method_1_code
abbrev y_Coder_init : MethodName := ⟨"DeepChannel$Coder", "<init>", "(LDeepChannel$Shape;LDeepChannel$BitRow;)V"⟩
theorem d_Coder_init_0 : decode b_Coder_init 0 = .ok (.aload_n 0, 1) := by decide +kernel
theorem d_Coder_init_1 : decode b_Coder_init 1 = .ok (.invokespecial 3, 3) := by decide +kernel
theorem d_Coder_init_4 : decode b_Coder_init 4 = .ok (.aload_n 0, 1) := by decide +kernel
theorem d_Coder_init_5 : decode b_Coder_init 5 = .ok (.iconst 0, 1) := by decide +kernel
theorem d_Coder_init_6 : decode b_Coder_init 6 = .ok (.putfield 9, 3) := by decide +kernel
theorem d_Coder_init_9 : decode b_Coder_init 9 = .ok (.aload_n 0, 1) := by decide +kernel
theorem d_Coder_init_10 : decode b_Coder_init 10 = .ok (.iconst 0, 1) := by decide +kernel
theorem d_Coder_init_11 : decode b_Coder_init 11 = .ok (.putfield 15, 3) := by decide +kernel
theorem d_Coder_init_14 : decode b_Coder_init 14 = .ok (.aload_n 0, 1) := by decide +kernel
theorem d_Coder_init_15 : decode b_Coder_init 15 = .ok (.aload_n 1, 1) := by decide +kernel
theorem d_Coder_init_16 : decode b_Coder_init 16 = .ok (.putfield 18, 3) := by decide +kernel
theorem d_Coder_init_19 : decode b_Coder_init 19 = .ok (.aload_n 0, 1) := by decide +kernel
theorem d_Coder_init_20 : decode b_Coder_init 20 = .ok (.aload_n 2, 1) := by decide +kernel
theorem d_Coder_init_21 : decode b_Coder_init 21 = .ok (.putfield 22, 3) := by decide +kernel
theorem d_Coder_init_24 : decode b_Coder_init 24 = .ok (.return_, 1) := by decide +kernel
theorem ok_Coder_init : OKc y_Coder_init b_Coder_init 3 2 := ⟨k_224, k_223, k_51, rfl, by decide +kernel, by decide +kernel, by decide +kernel⟩
abbrev w1_Coder_init (cI cJ : ClassId) (qCd qSh qB : Nat)   : va_W := [(qCd, .inr (1, [.null, .null, .int (0 : Int32), .int (0 : Int32)]))]
abbrev w2_Coder_init (cI cJ : ClassId) (qCd qSh qB : Nat)    (Cd_register' : Int32) (Cd_put' : Int32) : va_W := [(qCd, .inr (1, [.ref qSh, .ref qB, .int Cd_register', .int Cd_put']))]
def f_Coder_init  : Option (Int32 × Int32) :=
  some ((0 : Int32), (0 : Int32))
set_option maxHeartbeats 4000000 in
set_option maxRecDepth 100000 in
theorem c_Coder_init (l : Launch) (D : va_G) (cI cJ : ClassId) (tt : Nat → Nat) (qCd qSh qB : Nat)  (sz : Nat)  (Cd_register' : Int32) (Cd_put' : Int32) (hm : f_Coder_init = some (Cd_register', Cd_put')) : CTc l y_Coder_init b_Coder_init 3 (RC 1 0 0 20) D cI cJ tt [.ref qCd, .ref qSh, .ref qB] (w1_Coder_init cI cJ qCd qSh qB) (Nat → Nat) (fun (u : Nat → Nat) => w2_Coder_init cI cJ qCd qSh qB Cd_register' Cd_put') sz 0 0 := by
  refine Met.ofW (cc := b_Coder_init) (maxL := 3) (ret := none) (by decide) rfl ?_
  intro p e s m args below meth c s₁ B hml hv
  obtain ⟨hargs, hsz, hP, hK, hD0, hE⟩ := hv
  have hx := B.exec
  have hb := B.bytes
  have hr := B.returns
  have hts : ∀ w ∈ TB, w.before args s = true := z_mV s (atoms_spec (ws := WD y_Coder_init b_Coder_init 3 none) B.pre)
  have hown : s.vm.findClass "DeepChannel$Coder" = some m.cls := findClass_of_methodNamed B.named
  have hlocks := B.notSynchronized
  have hin : meth.name = "<init>" := (name_of_methodNamed B.named B.method).1
  subst hsz
  have hD := hD0.self (sz := s.heap.size)
  generalize hAe : va_A (w1_Coder_init cI cJ qCd qSh qB) s.heap.size = A at hD hE ⊢
  have hA : ∀ q : Nat, s.heap.size ≤ q → A q := fun q h => by rw [← hAe]; exact Or.inr h
  have hS : va_S A s.heap s.heap [] := va_S.rf
  refine z_entry (vs := [.ref qCd, .ref qSh, .ref qB]) hargs (Nat.le_of_ble_eq_true rfl) (fun ls hl => ?_)
  have hl : lv_has ls 3 [(0, .ref qCd), (1, .ref qSh), (2, .ref qB)] := hl
  show W p l e (RC 1 0 0 20) s m args below meth c s.heap [] 0 0 _ _
  refine z_qi (fun Q0 hQ => ?_)
  have F : CallFix p m c b_Coder_init 3 s args TB "DeepChannel$Coder" := ⟨hx, hb, hml, hown, hts⟩
  unfold f_Coder_init at hm
  refine lv_aload_n hx hb d_Coder_init_0 rfl (lv_at hl 0 rfl) ?_
  refine W.objInit hx hb hown (hts _ k_225) (hts _ k_70) (hts _ k_71) rfl (by rw [hml]; exact hl.1) rfl d_Coder_init_1 (Nat.le_of_ble_eq_true rfl) (Nat.le_of_ble_eq_true rfl) ?_
  refine W.eq (g2 := F0 m 4 ls []) rfl ?_
  refine lv_aload_n hx hb d_Coder_init_4 rfl (lv_at hl 0 rfl) ?_
  refine lv_iconst (v := (0 : Int32)) hx hb d_Coder_init_5 (by decide) ?_
  refine va_put (D := D) (ci := 1) (v := .int (0 : Int32)) (ty := .int) (C := "DeepChannel$Coder") (T := fT_Coder) (N := 4) hx hb hts u_Coder fY_Coder fK_Coder fN_Coder hown hK hP hD hS 0 rfl rfl 2 (by decide) (hts _ k_228) (fun _ h9 => h9) rfl (by decide +kernel) rfl rfl (Nat.le_of_ble_eq_true rfl) d_Coder_init_6 (fun H locs hP hD hS => ?_)
  have hP : va_P D classes ([(qCd, .inr (1, [.null, .null, .int (0 : Int32), .int (0 : Int32)]))]) H := hP
  have hD : va_D A ([(qCd, .inr (1, [.null, .null, .int (0 : Int32), .int (0 : Int32)]))]) := hD
  refine lv_aload_n hx hb d_Coder_init_9 rfl (lv_at hl 0 rfl) ?_
  refine lv_iconst (v := (0 : Int32)) hx hb d_Coder_init_10 (by decide) ?_
  refine va_put (D := D) (ci := 1) (v := .int (0 : Int32)) (ty := .int) (C := "DeepChannel$Coder") (T := fT_Coder) (N := 4) hx hb hts u_Coder fY_Coder fK_Coder fN_Coder hown hK hP hD hS 0 rfl rfl 3 (by decide) (hts _ k_229) (fun _ h9 => h9) rfl (by decide +kernel) rfl rfl (Nat.le_of_ble_eq_true rfl) d_Coder_init_11 (fun H locs hP hD hS => ?_)
  have hP : va_P D classes ([(qCd, .inr (1, [.null, .null, .int (0 : Int32), .int (0 : Int32)]))]) H := hP
  have hD : va_D A ([(qCd, .inr (1, [.null, .null, .int (0 : Int32), .int (0 : Int32)]))]) := hD
  refine lv_aload_n hx hb d_Coder_init_14 rfl (lv_at hl 0 rfl) ?_
  refine lv_aload_n hx hb d_Coder_init_15 rfl (lv_at hl 1 rfl) ?_
  refine va_putF (D := D) (ci := 1) (v := .ref qSh) (ty := .object "DeepChannel$Shape") (C := "DeepChannel$Coder") (T := fT_Coder) (N := 4) hx hb hts u_Coder fY_Coder fK_Coder fN_Coder hown hK hP hD hS 0 rfl rfl 0 (by decide) (hts _ k_226) (fun _ h9 => h9) rfl hin rfl (by decide +kernel) rfl rfl (Nat.le_of_ble_eq_true rfl) d_Coder_init_16 (fun H locs hP hD hS => ?_)
  have hP : va_P D classes ([(qCd, .inr (1, [.ref qSh, .null, .int (0 : Int32), .int (0 : Int32)]))]) H := hP
  have hD : va_D A ([(qCd, .inr (1, [.ref qSh, .null, .int (0 : Int32), .int (0 : Int32)]))]) := hD
  refine lv_aload_n hx hb d_Coder_init_19 rfl (lv_at hl 0 rfl) ?_
  refine lv_aload_n hx hb d_Coder_init_20 rfl (lv_at hl 2 rfl) ?_
  refine va_putF (D := D) (ci := 1) (v := .ref qB) (ty := .object "DeepChannel$BitRow") (C := "DeepChannel$Coder") (T := fT_Coder) (N := 4) hx hb hts u_Coder fY_Coder fK_Coder fN_Coder hown hK hP hD hS 0 rfl rfl 1 (by decide) (hts _ k_227) (fun _ h9 => h9) rfl hin rfl (by decide +kernel) rfl rfl (Nat.le_of_ble_eq_true rfl) d_Coder_init_21 (fun H locs hP hD hS => ?_)
  have hP : va_P D classes ([(qCd, .inr (1, [.ref qSh, .ref qB, .int (0 : Int32), .int (0 : Int32)]))]) H := hP
  have hD : va_D A ([(qCd, .inr (1, [.ref qSh, .ref qB, .int (0 : Int32), .int (0 : Int32)]))]) := hD
  cases hm
  exact z_qo hQ (z_vretC (fun k => [].getD k 0) hr hx hb hlocks hK hP hD hS d_Coder_init_24)
