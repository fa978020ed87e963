-- DeepChannel$Locator.<init>(LDeepChannel$Field;)V
abbrev b_Locator_init : ByteArray := prog_5_method_1_code
abbrev y_Locator_init : MethodName := ⟨"DeepChannel$Locator", "<init>", "(LDeepChannel$Field;)V"⟩
theorem d_Locator_init_0 : decode b_Locator_init 0 = .ok (.aload_n 0, 1) := by decide +kernel
theorem d_Locator_init_1 : decode b_Locator_init 1 = .ok (.invokespecial 3, 3) := by decide +kernel
theorem d_Locator_init_4 : decode b_Locator_init 4 = .ok (.aload_n 0, 1) := by decide +kernel
theorem d_Locator_init_5 : decode b_Locator_init 5 = .ok (.bipush 33, 2) := by decide +kernel
theorem d_Locator_init_7 : decode b_Locator_init 7 = .ok (.newarray .int, 2) := by decide +kernel
theorem d_Locator_init_9 : decode b_Locator_init 9 = .ok (.putfield 9, 3) := by decide +kernel
theorem d_Locator_init_12 : decode b_Locator_init 12 = .ok (.aload_n 0, 1) := by decide +kernel
theorem d_Locator_init_13 : decode b_Locator_init 13 = .ok (.bipush 33, 2) := by decide +kernel
theorem d_Locator_init_15 : decode b_Locator_init 15 = .ok (.newarray .int, 2) := by decide +kernel
theorem d_Locator_init_17 : decode b_Locator_init 17 = .ok (.putfield 15, 3) := by decide +kernel
theorem d_Locator_init_20 : decode b_Locator_init 20 = .ok (.aload_n 0, 1) := by decide +kernel
theorem d_Locator_init_21 : decode b_Locator_init 21 = .ok (.bipush 33, 2) := by decide +kernel
theorem d_Locator_init_23 : decode b_Locator_init 23 = .ok (.newarray .int, 2) := by decide +kernel
theorem d_Locator_init_25 : decode b_Locator_init 25 = .ok (.putfield 18, 3) := by decide +kernel
theorem d_Locator_init_28 : decode b_Locator_init 28 = .ok (.aload_n 0, 1) := by decide +kernel
theorem d_Locator_init_29 : decode b_Locator_init 29 = .ok (.bipush 33, 2) := by decide +kernel
theorem d_Locator_init_31 : decode b_Locator_init 31 = .ok (.newarray .int, 2) := by decide +kernel
theorem d_Locator_init_33 : decode b_Locator_init 33 = .ok (.putfield 21, 3) := by decide +kernel
theorem d_Locator_init_36 : decode b_Locator_init 36 = .ok (.aload_n 0, 1) := by decide +kernel
theorem d_Locator_init_37 : decode b_Locator_init 37 = .ok (.bipush 32, 2) := by decide +kernel
theorem d_Locator_init_39 : decode b_Locator_init 39 = .ok (.newarray .int, 2) := by decide +kernel
theorem d_Locator_init_41 : decode b_Locator_init 41 = .ok (.putfield 24, 3) := by decide +kernel
theorem d_Locator_init_44 : decode b_Locator_init 44 = .ok (.aload_n 0, 1) := by decide +kernel
theorem d_Locator_init_45 : decode b_Locator_init 45 = .ok (.aload_n 1, 1) := by decide +kernel
theorem d_Locator_init_46 : decode b_Locator_init 46 = .ok (.putfield 27, 3) := by decide +kernel
theorem d_Locator_init_49 : decode b_Locator_init 49 = .ok (.return_, 1) := by decide +kernel
theorem ok_Locator_init : OKc y_Locator_init b_Locator_init 2 1 := ⟨k_132, k_131, k_46, rfl, by decide +kernel, by decide +kernel, by decide +kernel⟩
abbrev w1_Locator_init (cI cJ : ClassId) (qLc qFd : Nat)   : va_W := [(qLc, .inr (3, [.null, .null, .null, .null, .null, .null]))]
abbrev w2_Locator_init (cI cJ : ClassId) (qLc qFd : Nat) (qLc_poly qLc_earlier qLc_spare qLc_evaluator qLc_places : Nat)    : va_W := [(qLc, .inr (3, [.ref qFd, .ref qLc_poly, .ref qLc_earlier, .ref qLc_spare, .ref qLc_evaluator, .ref qLc_places])), (qLc_poly, .inl (cI, 33, .inl (fun _ => (0 : Int32)))), (qLc_earlier, .inl (cI, 33, .inl (fun _ => (0 : Int32)))), (qLc_spare, .inl (cI, 33, .inl (fun _ => (0 : Int32)))), (qLc_evaluator, .inl (cI, 33, .inl (fun _ => (0 : Int32)))), (qLc_places, .inl (cI, 32, .inl (fun _ => (0 : Int32))))]
def f_Locator_init  : Option (Unit) :=
  some ()
set_option maxHeartbeats 4000000 in
set_option maxRecDepth 100000 in
theorem c_Locator_init (l : Launch) (D : va_G) (cI cJ : ClassId) (tt : Nat → Nat) (qLc qFd : Nat)  (sz : Nat)   (hm : f_Locator_init = some ()) : CTc l y_Locator_init b_Locator_init 2 (RC 1 5 164 20) D cI cJ tt [.ref qLc, .ref qFd] (w1_Locator_init cI cJ qLc qFd) (Nat → Nat) (fun (u : Nat → Nat) => w2_Locator_init cI cJ qLc qFd (u 0) (u 1) (u 2) (u 3) (u 4)) sz 5 164 := by
  refine Met.ofW (cc := b_Locator_init) (maxL := 2) (ret := none) (by decide) rfl ?_
  intro p e s m args below meth c s₁ B hml hv
  obtain ⟨hargs, hsz, hP, hK, hD0, hE⟩ := hv
  have hx := B.exec
  have hb := B.bytes
  have hr := B.returns
  have hts : ∀ w ∈ TB, w.before args s = true := z_mV s (atoms_spec (ws := WD y_Locator_init b_Locator_init 2 none) B.pre)
  have hown : s.vm.findClass "DeepChannel$Locator" = some m.cls := findClass_of_methodNamed B.named
  have hlocks := B.notSynchronized
  have hin : meth.name = "<init>" := (name_of_methodNamed B.named B.method).1
  subst hsz
  have hD := hD0.self (sz := s.heap.size)
  generalize hAe : va_A (w1_Locator_init cI cJ qLc qFd) s.heap.size = A at hD hE ⊢
  have hA : ∀ q : Nat, s.heap.size ≤ q → A q := fun q h => by rw [← hAe]; exact Or.inr h
  have hS : va_S A s.heap s.heap [] := va_S.rf
  refine z_entry (vs := [.ref qLc, .ref qFd]) hargs (Nat.le_of_ble_eq_true rfl) (fun ls hl => ?_)
  have hl : lv_has ls 2 [(0, .ref qLc), (1, .ref qFd)] := hl
  show W p l e (RC 1 5 164 20) s m args below meth c s.heap [] 0 0 _ _
  refine z_qi (fun Q0 hQ => ?_)
  have F : CallFix p m c b_Locator_init 2 s args TB "DeepChannel$Locator" := ⟨hx, hb, hml, hown, hts⟩
  unfold f_Locator_init at hm
  refine lv_aload_n hx hb d_Locator_init_0 rfl (lv_at hl 0 rfl) ?_
  refine W.objInit hx hb hown (hts _ k_133) (hts _ k_70) (hts _ k_71) rfl (by rw [hml]; exact hl.1) rfl d_Locator_init_1 (Nat.le_of_ble_eq_true rfl) (Nat.le_of_ble_eq_true rfl) ?_
  refine W.eq (g2 := F0 m 4 ls []) rfl ?_
  refine lv_aload_n hx hb d_Locator_init_4 rfl (lv_at hl 0 rfl) ?_
  refine lv_bipush (v := (33 : Int32)) hx hb d_Locator_init_5 (by decide) ?_
  refine z_newI (N := 33) hx hb hts k_123 hK hP hD hS hA (by decide) (by decide) (Nat.le_of_ble_eq_true rfl) (Nat.le_of_ble_eq_true rfl) (Nat.le_of_ble_eq_true rfl) d_Locator_init_7 (fun qLc_poly H hP hD hS => ?_)
  have hP : va_P D classes ([(qLc, .inr (3, [.null, .null, .null, .null, .null, .null])), (qLc_poly, .inl (cI, 33, .inl (fun _ => (0 : Int32))))]) H := hP
  have hD : va_D A ([(qLc, .inr (3, [.null, .null, .null, .null, .null, .null])), (qLc_poly, .inl (cI, 33, .inl (fun _ => (0 : Int32))))]) := hD
  refine va_putF (D := D) (ci := 3) (v := .ref qLc_poly) (ty := .array .int) (C := "DeepChannel$Locator") (T := fT_Locator) (N := 6) hx hb hts u_Locator fY_Locator fK_Locator fN_Locator hown hK hP hD hS 0 rfl rfl 1 (by decide) (hts _ k_135) (fun _ h9 => h9) rfl hin rfl (by decide +kernel) rfl rfl (Nat.le_of_ble_eq_true rfl) d_Locator_init_9 (fun H locs hP hD hS => ?_)
  have hP : va_P D classes ([(qLc, .inr (3, [.null, .ref qLc_poly, .null, .null, .null, .null])), (qLc_poly, .inl (cI, 33, .inl (fun _ => (0 : Int32))))]) H := hP
  have hD : va_D A ([(qLc, .inr (3, [.null, .ref qLc_poly, .null, .null, .null, .null])), (qLc_poly, .inl (cI, 33, .inl (fun _ => (0 : Int32))))]) := hD
  refine lv_aload_n hx hb d_Locator_init_12 rfl (lv_at hl 0 rfl) ?_
  refine lv_bipush (v := (33 : Int32)) hx hb d_Locator_init_13 (by decide) ?_
  refine z_newI (N := 33) hx hb hts k_123 hK hP hD hS hA (by decide) (by decide) (Nat.le_of_ble_eq_true rfl) (Nat.le_of_ble_eq_true rfl) (Nat.le_of_ble_eq_true rfl) d_Locator_init_15 (fun qLc_earlier H hP hD hS => ?_)
  have hP : va_P D classes ([(qLc, .inr (3, [.null, .ref qLc_poly, .null, .null, .null, .null])), (qLc_poly, .inl (cI, 33, .inl (fun _ => (0 : Int32)))), (qLc_earlier, .inl (cI, 33, .inl (fun _ => (0 : Int32))))]) H := hP
  have hD : va_D A ([(qLc, .inr (3, [.null, .ref qLc_poly, .null, .null, .null, .null])), (qLc_poly, .inl (cI, 33, .inl (fun _ => (0 : Int32)))), (qLc_earlier, .inl (cI, 33, .inl (fun _ => (0 : Int32))))]) := hD
  refine va_putF (D := D) (ci := 3) (v := .ref qLc_earlier) (ty := .array .int) (C := "DeepChannel$Locator") (T := fT_Locator) (N := 6) hx hb hts u_Locator fY_Locator fK_Locator fN_Locator hown hK hP hD hS 0 rfl rfl 2 (by decide) (hts _ k_136) (fun _ h9 => h9) rfl hin rfl (by decide +kernel) rfl rfl (Nat.le_of_ble_eq_true rfl) d_Locator_init_17 (fun H locs hP hD hS => ?_)
  have hP : va_P D classes ([(qLc, .inr (3, [.null, .ref qLc_poly, .ref qLc_earlier, .null, .null, .null])), (qLc_poly, .inl (cI, 33, .inl (fun _ => (0 : Int32)))), (qLc_earlier, .inl (cI, 33, .inl (fun _ => (0 : Int32))))]) H := hP
  have hD : va_D A ([(qLc, .inr (3, [.null, .ref qLc_poly, .ref qLc_earlier, .null, .null, .null])), (qLc_poly, .inl (cI, 33, .inl (fun _ => (0 : Int32)))), (qLc_earlier, .inl (cI, 33, .inl (fun _ => (0 : Int32))))]) := hD
  refine lv_aload_n hx hb d_Locator_init_20 rfl (lv_at hl 0 rfl) ?_
  refine lv_bipush (v := (33 : Int32)) hx hb d_Locator_init_21 (by decide) ?_
  refine z_newI (N := 33) hx hb hts k_123 hK hP hD hS hA (by decide) (by decide) (Nat.le_of_ble_eq_true rfl) (Nat.le_of_ble_eq_true rfl) (Nat.le_of_ble_eq_true rfl) d_Locator_init_23 (fun qLc_spare H hP hD hS => ?_)
  have hP : va_P D classes ([(qLc, .inr (3, [.null, .ref qLc_poly, .ref qLc_earlier, .null, .null, .null])), (qLc_poly, .inl (cI, 33, .inl (fun _ => (0 : Int32)))), (qLc_earlier, .inl (cI, 33, .inl (fun _ => (0 : Int32)))), (qLc_spare, .inl (cI, 33, .inl (fun _ => (0 : Int32))))]) H := hP
  have hD : va_D A ([(qLc, .inr (3, [.null, .ref qLc_poly, .ref qLc_earlier, .null, .null, .null])), (qLc_poly, .inl (cI, 33, .inl (fun _ => (0 : Int32)))), (qLc_earlier, .inl (cI, 33, .inl (fun _ => (0 : Int32)))), (qLc_spare, .inl (cI, 33, .inl (fun _ => (0 : Int32))))]) := hD
  refine va_putF (D := D) (ci := 3) (v := .ref qLc_spare) (ty := .array .int) (C := "DeepChannel$Locator") (T := fT_Locator) (N := 6) hx hb hts u_Locator fY_Locator fK_Locator fN_Locator hown hK hP hD hS 0 rfl rfl 3 (by decide) (hts _ k_137) (fun _ h9 => h9) rfl hin rfl (by decide +kernel) rfl rfl (Nat.le_of_ble_eq_true rfl) d_Locator_init_25 (fun H locs hP hD hS => ?_)
  have hP : va_P D classes ([(qLc, .inr (3, [.null, .ref qLc_poly, .ref qLc_earlier, .ref qLc_spare, .null, .null])), (qLc_poly, .inl (cI, 33, .inl (fun _ => (0 : Int32)))), (qLc_earlier, .inl (cI, 33, .inl (fun _ => (0 : Int32)))), (qLc_spare, .inl (cI, 33, .inl (fun _ => (0 : Int32))))]) H := hP
  have hD : va_D A ([(qLc, .inr (3, [.null, .ref qLc_poly, .ref qLc_earlier, .ref qLc_spare, .null, .null])), (qLc_poly, .inl (cI, 33, .inl (fun _ => (0 : Int32)))), (qLc_earlier, .inl (cI, 33, .inl (fun _ => (0 : Int32)))), (qLc_spare, .inl (cI, 33, .inl (fun _ => (0 : Int32))))]) := hD
  refine lv_aload_n hx hb d_Locator_init_28 rfl (lv_at hl 0 rfl) ?_
  refine lv_bipush (v := (33 : Int32)) hx hb d_Locator_init_29 (by decide) ?_
  refine z_newI (N := 33) hx hb hts k_123 hK hP hD hS hA (by decide) (by decide) (Nat.le_of_ble_eq_true rfl) (Nat.le_of_ble_eq_true rfl) (Nat.le_of_ble_eq_true rfl) d_Locator_init_31 (fun qLc_evaluator H hP hD hS => ?_)
  have hP : va_P D classes ([(qLc, .inr (3, [.null, .ref qLc_poly, .ref qLc_earlier, .ref qLc_spare, .null, .null])), (qLc_poly, .inl (cI, 33, .inl (fun _ => (0 : Int32)))), (qLc_earlier, .inl (cI, 33, .inl (fun _ => (0 : Int32)))), (qLc_spare, .inl (cI, 33, .inl (fun _ => (0 : Int32)))), (qLc_evaluator, .inl (cI, 33, .inl (fun _ => (0 : Int32))))]) H := hP
  have hD : va_D A ([(qLc, .inr (3, [.null, .ref qLc_poly, .ref qLc_earlier, .ref qLc_spare, .null, .null])), (qLc_poly, .inl (cI, 33, .inl (fun _ => (0 : Int32)))), (qLc_earlier, .inl (cI, 33, .inl (fun _ => (0 : Int32)))), (qLc_spare, .inl (cI, 33, .inl (fun _ => (0 : Int32)))), (qLc_evaluator, .inl (cI, 33, .inl (fun _ => (0 : Int32))))]) := hD
  refine va_putF (D := D) (ci := 3) (v := .ref qLc_evaluator) (ty := .array .int) (C := "DeepChannel$Locator") (T := fT_Locator) (N := 6) hx hb hts u_Locator fY_Locator fK_Locator fN_Locator hown hK hP hD hS 0 rfl rfl 4 (by decide) (hts _ k_138) (fun _ h9 => h9) rfl hin rfl (by decide +kernel) rfl rfl (Nat.le_of_ble_eq_true rfl) d_Locator_init_33 (fun H locs hP hD hS => ?_)
  have hP : va_P D classes ([(qLc, .inr (3, [.null, .ref qLc_poly, .ref qLc_earlier, .ref qLc_spare, .ref qLc_evaluator, .null])), (qLc_poly, .inl (cI, 33, .inl (fun _ => (0 : Int32)))), (qLc_earlier, .inl (cI, 33, .inl (fun _ => (0 : Int32)))), (qLc_spare, .inl (cI, 33, .inl (fun _ => (0 : Int32)))), (qLc_evaluator, .inl (cI, 33, .inl (fun _ => (0 : Int32))))]) H := hP
  have hD : va_D A ([(qLc, .inr (3, [.null, .ref qLc_poly, .ref qLc_earlier, .ref qLc_spare, .ref qLc_evaluator, .null])), (qLc_poly, .inl (cI, 33, .inl (fun _ => (0 : Int32)))), (qLc_earlier, .inl (cI, 33, .inl (fun _ => (0 : Int32)))), (qLc_spare, .inl (cI, 33, .inl (fun _ => (0 : Int32)))), (qLc_evaluator, .inl (cI, 33, .inl (fun _ => (0 : Int32))))]) := hD
  refine lv_aload_n hx hb d_Locator_init_36 rfl (lv_at hl 0 rfl) ?_
  refine lv_bipush (v := (32 : Int32)) hx hb d_Locator_init_37 (by decide) ?_
  refine z_newI (N := 32) hx hb hts k_123 hK hP hD hS hA (by decide) (by decide) (Nat.le_of_ble_eq_true rfl) (Nat.le_of_ble_eq_true rfl) (Nat.le_of_ble_eq_true rfl) d_Locator_init_39 (fun qLc_places H hP hD hS => ?_)
  have hP : va_P D classes ([(qLc, .inr (3, [.null, .ref qLc_poly, .ref qLc_earlier, .ref qLc_spare, .ref qLc_evaluator, .null])), (qLc_poly, .inl (cI, 33, .inl (fun _ => (0 : Int32)))), (qLc_earlier, .inl (cI, 33, .inl (fun _ => (0 : Int32)))), (qLc_spare, .inl (cI, 33, .inl (fun _ => (0 : Int32)))), (qLc_evaluator, .inl (cI, 33, .inl (fun _ => (0 : Int32)))), (qLc_places, .inl (cI, 32, .inl (fun _ => (0 : Int32))))]) H := hP
  have hD : va_D A ([(qLc, .inr (3, [.null, .ref qLc_poly, .ref qLc_earlier, .ref qLc_spare, .ref qLc_evaluator, .null])), (qLc_poly, .inl (cI, 33, .inl (fun _ => (0 : Int32)))), (qLc_earlier, .inl (cI, 33, .inl (fun _ => (0 : Int32)))), (qLc_spare, .inl (cI, 33, .inl (fun _ => (0 : Int32)))), (qLc_evaluator, .inl (cI, 33, .inl (fun _ => (0 : Int32)))), (qLc_places, .inl (cI, 32, .inl (fun _ => (0 : Int32))))]) := hD
  refine va_putF (D := D) (ci := 3) (v := .ref qLc_places) (ty := .array .int) (C := "DeepChannel$Locator") (T := fT_Locator) (N := 6) hx hb hts u_Locator fY_Locator fK_Locator fN_Locator hown hK hP hD hS 0 rfl rfl 5 (by decide) (hts _ k_139) (fun _ h9 => h9) rfl hin rfl (by decide +kernel) rfl rfl (Nat.le_of_ble_eq_true rfl) d_Locator_init_41 (fun H locs hP hD hS => ?_)
  have hP : va_P D classes ([(qLc, .inr (3, [.null, .ref qLc_poly, .ref qLc_earlier, .ref qLc_spare, .ref qLc_evaluator, .ref qLc_places])), (qLc_poly, .inl (cI, 33, .inl (fun _ => (0 : Int32)))), (qLc_earlier, .inl (cI, 33, .inl (fun _ => (0 : Int32)))), (qLc_spare, .inl (cI, 33, .inl (fun _ => (0 : Int32)))), (qLc_evaluator, .inl (cI, 33, .inl (fun _ => (0 : Int32)))), (qLc_places, .inl (cI, 32, .inl (fun _ => (0 : Int32))))]) H := hP
  have hD : va_D A ([(qLc, .inr (3, [.null, .ref qLc_poly, .ref qLc_earlier, .ref qLc_spare, .ref qLc_evaluator, .ref qLc_places])), (qLc_poly, .inl (cI, 33, .inl (fun _ => (0 : Int32)))), (qLc_earlier, .inl (cI, 33, .inl (fun _ => (0 : Int32)))), (qLc_spare, .inl (cI, 33, .inl (fun _ => (0 : Int32)))), (qLc_evaluator, .inl (cI, 33, .inl (fun _ => (0 : Int32)))), (qLc_places, .inl (cI, 32, .inl (fun _ => (0 : Int32))))]) := hD
  refine lv_aload_n hx hb d_Locator_init_44 rfl (lv_at hl 0 rfl) ?_
  refine lv_aload_n hx hb d_Locator_init_45 rfl (lv_at hl 1 rfl) ?_
  refine va_putF (D := D) (ci := 3) (v := .ref qFd) (ty := .object "DeepChannel$Field") (C := "DeepChannel$Locator") (T := fT_Locator) (N := 6) hx hb hts u_Locator fY_Locator fK_Locator fN_Locator hown hK hP hD hS 0 rfl rfl 0 (by decide) (hts _ k_134) (fun _ h9 => h9) rfl hin rfl (by decide +kernel) rfl rfl (Nat.le_of_ble_eq_true rfl) d_Locator_init_46 (fun H locs hP hD hS => ?_)
  have hP : va_P D classes ([(qLc, .inr (3, [.ref qFd, .ref qLc_poly, .ref qLc_earlier, .ref qLc_spare, .ref qLc_evaluator, .ref qLc_places])), (qLc_poly, .inl (cI, 33, .inl (fun _ => (0 : Int32)))), (qLc_earlier, .inl (cI, 33, .inl (fun _ => (0 : Int32)))), (qLc_spare, .inl (cI, 33, .inl (fun _ => (0 : Int32)))), (qLc_evaluator, .inl (cI, 33, .inl (fun _ => (0 : Int32)))), (qLc_places, .inl (cI, 32, .inl (fun _ => (0 : Int32))))]) H := hP
  have hD : va_D A ([(qLc, .inr (3, [.ref qFd, .ref qLc_poly, .ref qLc_earlier, .ref qLc_spare, .ref qLc_evaluator, .ref qLc_places])), (qLc_poly, .inl (cI, 33, .inl (fun _ => (0 : Int32)))), (qLc_earlier, .inl (cI, 33, .inl (fun _ => (0 : Int32)))), (qLc_spare, .inl (cI, 33, .inl (fun _ => (0 : Int32)))), (qLc_evaluator, .inl (cI, 33, .inl (fun _ => (0 : Int32)))), (qLc_places, .inl (cI, 32, .inl (fun _ => (0 : Int32))))]) := hD
  cases hm
  exact z_qo hQ (z_vretC (fun k => [qLc_poly, qLc_earlier, qLc_spare, qLc_evaluator, qLc_places].getD k 0) hr hx hb hlocks hK hP hD hS d_Locator_init_49)
-- DeepChannel$Sender.<init>(LDeepChannel$Shape;LDeepChannel$Words;LDeepChannel$Mixer;)V
abbrev b_Sender_init : ByteArray := prog_9_method_1_code
abbrev y_Sender_init : MethodName := ⟨"DeepChannel$Sender", "<init>", "(LDeepChannel$Shape;LDeepChannel$Words;LDeepChannel$Mixer;)V"⟩
theorem d_Sender_init_0 : decode b_Sender_init 0 = .ok (.aload_n 0, 1) := by decide +kernel
theorem d_Sender_init_1 : decode b_Sender_init 1 = .ok (.invokespecial 3, 3) := by decide +kernel
theorem d_Sender_init_4 : decode b_Sender_init 4 = .ok (.aload_n 0, 1) := by decide +kernel
theorem d_Sender_init_5 : decode b_Sender_init 5 = .ok (.sipush 250, 3) := by decide +kernel
theorem d_Sender_init_8 : decode b_Sender_init 8 = .ok (.newarray .int, 2) := by decide +kernel
theorem d_Sender_init_10 : decode b_Sender_init 10 = .ok (.putfield 9, 3) := by decide +kernel
theorem d_Sender_init_13 : decode b_Sender_init 13 = .ok (.aload_n 0, 1) := by decide +kernel
theorem d_Sender_init_14 : decode b_Sender_init 14 = .ok (.bipush 8, 2) := by decide +kernel
theorem d_Sender_init_16 : decode b_Sender_init 16 = .ok (.newarray .int, 2) := by decide +kernel
theorem d_Sender_init_18 : decode b_Sender_init 18 = .ok (.putfield 15, 3) := by decide +kernel
theorem d_Sender_init_21 : decode b_Sender_init 21 = .ok (.aload_n 0, 1) := by decide +kernel
theorem d_Sender_init_22 : decode b_Sender_init 22 = .ok (.iconst 0, 1) := by decide +kernel
theorem d_Sender_init_23 : decode b_Sender_init 23 = .ok (.putfield 18, 3) := by decide +kernel
theorem d_Sender_init_26 : decode b_Sender_init 26 = .ok (.aload_n 0, 1) := by decide +kernel
theorem d_Sender_init_27 : decode b_Sender_init 27 = .ok (.iconst 0, 1) := by decide +kernel
theorem d_Sender_init_28 : decode b_Sender_init 28 = .ok (.putfield 22, 3) := by decide +kernel
theorem d_Sender_init_31 : decode b_Sender_init 31 = .ok (.aload_n 0, 1) := by decide +kernel
theorem d_Sender_init_32 : decode b_Sender_init 32 = .ok (.iconst 0, 1) := by decide +kernel
theorem d_Sender_init_33 : decode b_Sender_init 33 = .ok (.putfield 25, 3) := by decide +kernel
theorem d_Sender_init_36 : decode b_Sender_init 36 = .ok (.aload_n 0, 1) := by decide +kernel
theorem d_Sender_init_37 : decode b_Sender_init 37 = .ok (.aload_n 1, 1) := by decide +kernel
theorem d_Sender_init_38 : decode b_Sender_init 38 = .ok (.putfield 28, 3) := by decide +kernel
theorem d_Sender_init_41 : decode b_Sender_init 41 = .ok (.aload_n 0, 1) := by decide +kernel
theorem d_Sender_init_42 : decode b_Sender_init 42 = .ok (.aload_n 2, 1) := by decide +kernel
theorem d_Sender_init_43 : decode b_Sender_init 43 = .ok (.putfield 32, 3) := by decide +kernel
theorem d_Sender_init_46 : decode b_Sender_init 46 = .ok (.aload_n 0, 1) := by decide +kernel
theorem d_Sender_init_47 : decode b_Sender_init 47 = .ok (.aload_n 3, 1) := by decide +kernel
theorem d_Sender_init_48 : decode b_Sender_init 48 = .ok (.putfield 36, 3) := by decide +kernel
theorem d_Sender_init_51 : decode b_Sender_init 51 = .ok (.return_, 1) := by decide +kernel
theorem ok_Sender_init : OKc y_Sender_init b_Sender_init 4 3 := ⟨k_243, k_242, k_52, rfl, by decide +kernel, by decide +kernel, by decide +kernel⟩
abbrev w1_Sender_init (cI cJ : ClassId) (qSd qSh qWd qMx : Nat)   : va_W := [(qSd, .inr (7, [.null, .null, .null, .null, .null, .int (0 : Int32), .int (0 : Int32), .int (0 : Int32)]))]
abbrev w2_Sender_init (cI cJ : ClassId) (qSd qSh qWd qMx : Nat) (qSd_bytes qSd_channelCounts : Nat)   (Sd_masterCount' : Int32) (Sd_craft' : Int32) (Sd_dataCount' : Int32) : va_W := [(qSd, .inr (7, [.ref qSh, .ref qWd, .ref qMx, .ref qSd_bytes, .ref qSd_channelCounts, .int Sd_masterCount', .int Sd_craft', .int Sd_dataCount'])), (qSd_bytes, .inl (cI, 250, .inl (fun _ => (0 : Int32)))), (qSd_channelCounts, .inl (cI, 8, .inl (fun _ => (0 : Int32))))]
def f_Sender_init  : Option (Int32 × Int32 × Int32) :=
  some ((0 : Int32), (0 : Int32), (0 : Int32))
set_option maxHeartbeats 4000000 in
set_option maxRecDepth 100000 in
theorem c_Sender_init (l : Launch) (D : va_G) (cI cJ : ClassId) (tt : Nat → Nat) (qSd qSh qWd qMx : Nat)  (sz : Nat)  (Sd_masterCount' : Int32) (Sd_craft' : Int32) (Sd_dataCount' : Int32) (hm : f_Sender_init = some (Sd_masterCount', Sd_craft', Sd_dataCount')) : CTc l y_Sender_init b_Sender_init 4 (RC 1 2 258 20) D cI cJ tt [.ref qSd, .ref qSh, .ref qWd, .ref qMx] (w1_Sender_init cI cJ qSd qSh qWd qMx) (Nat → Nat) (fun (u : Nat → Nat) => w2_Sender_init cI cJ qSd qSh qWd qMx (u 0) (u 1) Sd_masterCount' Sd_craft' Sd_dataCount') sz 2 258 := by
  refine Met.ofW (cc := b_Sender_init) (maxL := 4) (ret := none) (by decide) rfl ?_
  intro p e s m args below meth c s₁ B hml hv
  obtain ⟨hargs, hsz, hP, hK, hD0, hE⟩ := hv
  have hx := B.exec
  have hb := B.bytes
  have hr := B.returns
  have hts : ∀ w ∈ TB, w.before args s = true := z_mV s (atoms_spec (ws := WD y_Sender_init b_Sender_init 4 none) B.pre)
  have hown : s.vm.findClass "DeepChannel$Sender" = some m.cls := findClass_of_methodNamed B.named
  have hlocks := B.notSynchronized
  have hin : meth.name = "<init>" := (name_of_methodNamed B.named B.method).1
  subst hsz
  have hD := hD0.self (sz := s.heap.size)
  generalize hAe : va_A (w1_Sender_init cI cJ qSd qSh qWd qMx) s.heap.size = A at hD hE ⊢
  have hA : ∀ q : Nat, s.heap.size ≤ q → A q := fun q h => by rw [← hAe]; exact Or.inr h
  have hS : va_S A s.heap s.heap [] := va_S.rf
  refine z_entry (vs := [.ref qSd, .ref qSh, .ref qWd, .ref qMx]) hargs (Nat.le_of_ble_eq_true rfl) (fun ls hl => ?_)
  have hl : lv_has ls 4 [(0, .ref qSd), (1, .ref qSh), (2, .ref qWd), (3, .ref qMx)] := hl
  show W p l e (RC 1 2 258 20) s m args below meth c s.heap [] 0 0 _ _
  refine z_qi (fun Q0 hQ => ?_)
  have F : CallFix p m c b_Sender_init 4 s args TB "DeepChannel$Sender" := ⟨hx, hb, hml, hown, hts⟩
  unfold f_Sender_init at hm
  refine lv_aload_n hx hb d_Sender_init_0 rfl (lv_at hl 0 rfl) ?_
  refine W.objInit hx hb hown (hts _ k_244) (hts _ k_70) (hts _ k_71) rfl (by rw [hml]; exact hl.1) rfl d_Sender_init_1 (Nat.le_of_ble_eq_true rfl) (Nat.le_of_ble_eq_true rfl) ?_
  refine W.eq (g2 := F0 m 4 ls []) rfl ?_
  refine lv_aload_n hx hb d_Sender_init_4 rfl (lv_at hl 0 rfl) ?_
  refine lv_sipush (v := (250 : Int32)) hx hb d_Sender_init_5 (by decide) ?_
  refine z_newI (N := 250) hx hb hts k_123 hK hP hD hS hA (by decide) (by decide) (Nat.le_of_ble_eq_true rfl) (Nat.le_of_ble_eq_true rfl) (Nat.le_of_ble_eq_true rfl) d_Sender_init_8 (fun qSd_bytes H hP hD hS => ?_)
  have hP : va_P D classes ([(qSd, .inr (7, [.null, .null, .null, .null, .null, .int (0 : Int32), .int (0 : Int32), .int (0 : Int32)])), (qSd_bytes, .inl (cI, 250, .inl (fun _ => (0 : Int32))))]) H := hP
  have hD : va_D A ([(qSd, .inr (7, [.null, .null, .null, .null, .null, .int (0 : Int32), .int (0 : Int32), .int (0 : Int32)])), (qSd_bytes, .inl (cI, 250, .inl (fun _ => (0 : Int32))))]) := hD
  refine va_putF (D := D) (ci := 7) (v := .ref qSd_bytes) (ty := .array .int) (C := "DeepChannel$Sender") (T := fT_Sender) (N := 8) hx hb hts u_Sender fY_Sender fK_Sender fN_Sender hown hK hP hD hS 0 rfl rfl 3 (by decide) (hts _ k_248) (fun _ h9 => h9) rfl hin rfl (by decide +kernel) rfl rfl (Nat.le_of_ble_eq_true rfl) d_Sender_init_10 (fun H locs hP hD hS => ?_)
  have hP : va_P D classes ([(qSd, .inr (7, [.null, .null, .null, .ref qSd_bytes, .null, .int (0 : Int32), .int (0 : Int32), .int (0 : Int32)])), (qSd_bytes, .inl (cI, 250, .inl (fun _ => (0 : Int32))))]) H := hP
  have hD : va_D A ([(qSd, .inr (7, [.null, .null, .null, .ref qSd_bytes, .null, .int (0 : Int32), .int (0 : Int32), .int (0 : Int32)])), (qSd_bytes, .inl (cI, 250, .inl (fun _ => (0 : Int32))))]) := hD
  refine lv_aload_n hx hb d_Sender_init_13 rfl (lv_at hl 0 rfl) ?_
  refine lv_bipush (v := (8 : Int32)) hx hb d_Sender_init_14 (by decide) ?_
  refine z_newI (N := 8) hx hb hts k_123 hK hP hD hS hA (by decide) (by decide) (Nat.le_of_ble_eq_true rfl) (Nat.le_of_ble_eq_true rfl) (Nat.le_of_ble_eq_true rfl) d_Sender_init_16 (fun qSd_channelCounts H hP hD hS => ?_)
  have hP : va_P D classes ([(qSd, .inr (7, [.null, .null, .null, .ref qSd_bytes, .null, .int (0 : Int32), .int (0 : Int32), .int (0 : Int32)])), (qSd_bytes, .inl (cI, 250, .inl (fun _ => (0 : Int32)))), (qSd_channelCounts, .inl (cI, 8, .inl (fun _ => (0 : Int32))))]) H := hP
  have hD : va_D A ([(qSd, .inr (7, [.null, .null, .null, .ref qSd_bytes, .null, .int (0 : Int32), .int (0 : Int32), .int (0 : Int32)])), (qSd_bytes, .inl (cI, 250, .inl (fun _ => (0 : Int32)))), (qSd_channelCounts, .inl (cI, 8, .inl (fun _ => (0 : Int32))))]) := hD
  refine va_putF (D := D) (ci := 7) (v := .ref qSd_channelCounts) (ty := .array .int) (C := "DeepChannel$Sender") (T := fT_Sender) (N := 8) hx hb hts u_Sender fY_Sender fK_Sender fN_Sender hown hK hP hD hS 0 rfl rfl 4 (by decide) (hts _ k_249) (fun _ h9 => h9) rfl hin rfl (by decide +kernel) rfl rfl (Nat.le_of_ble_eq_true rfl) d_Sender_init_18 (fun H locs hP hD hS => ?_)
  have hP : va_P D classes ([(qSd, .inr (7, [.null, .null, .null, .ref qSd_bytes, .ref qSd_channelCounts, .int (0 : Int32), .int (0 : Int32), .int (0 : Int32)])), (qSd_bytes, .inl (cI, 250, .inl (fun _ => (0 : Int32)))), (qSd_channelCounts, .inl (cI, 8, .inl (fun _ => (0 : Int32))))]) H := hP
  have hD : va_D A ([(qSd, .inr (7, [.null, .null, .null, .ref qSd_bytes, .ref qSd_channelCounts, .int (0 : Int32), .int (0 : Int32), .int (0 : Int32)])), (qSd_bytes, .inl (cI, 250, .inl (fun _ => (0 : Int32)))), (qSd_channelCounts, .inl (cI, 8, .inl (fun _ => (0 : Int32))))]) := hD
  refine lv_aload_n hx hb d_Sender_init_21 rfl (lv_at hl 0 rfl) ?_
  refine lv_iconst (v := (0 : Int32)) hx hb d_Sender_init_22 (by decide) ?_
  refine va_put (D := D) (ci := 7) (v := .int (0 : Int32)) (ty := .int) (C := "DeepChannel$Sender") (T := fT_Sender) (N := 8) hx hb hts u_Sender fY_Sender fK_Sender fN_Sender hown hK hP hD hS 0 rfl rfl 5 (by decide) (hts _ k_250) (fun _ h9 => h9) rfl (by decide +kernel) rfl rfl (Nat.le_of_ble_eq_true rfl) d_Sender_init_23 (fun H locs hP hD hS => ?_)
  have hP : va_P D classes ([(qSd, .inr (7, [.null, .null, .null, .ref qSd_bytes, .ref qSd_channelCounts, .int (0 : Int32), .int (0 : Int32), .int (0 : Int32)])), (qSd_bytes, .inl (cI, 250, .inl (fun _ => (0 : Int32)))), (qSd_channelCounts, .inl (cI, 8, .inl (fun _ => (0 : Int32))))]) H := hP
  have hD : va_D A ([(qSd, .inr (7, [.null, .null, .null, .ref qSd_bytes, .ref qSd_channelCounts, .int (0 : Int32), .int (0 : Int32), .int (0 : Int32)])), (qSd_bytes, .inl (cI, 250, .inl (fun _ => (0 : Int32)))), (qSd_channelCounts, .inl (cI, 8, .inl (fun _ => (0 : Int32))))]) := hD
  refine lv_aload_n hx hb d_Sender_init_26 rfl (lv_at hl 0 rfl) ?_
  refine lv_iconst (v := (0 : Int32)) hx hb d_Sender_init_27 (by decide) ?_
  refine va_put (D := D) (ci := 7) (v := .int (0 : Int32)) (ty := .int) (C := "DeepChannel$Sender") (T := fT_Sender) (N := 8) hx hb hts u_Sender fY_Sender fK_Sender fN_Sender hown hK hP hD hS 0 rfl rfl 6 (by decide) (hts _ k_251) (fun _ h9 => h9) rfl (by decide +kernel) rfl rfl (Nat.le_of_ble_eq_true rfl) d_Sender_init_28 (fun H locs hP hD hS => ?_)
  have hP : va_P D classes ([(qSd, .inr (7, [.null, .null, .null, .ref qSd_bytes, .ref qSd_channelCounts, .int (0 : Int32), .int (0 : Int32), .int (0 : Int32)])), (qSd_bytes, .inl (cI, 250, .inl (fun _ => (0 : Int32)))), (qSd_channelCounts, .inl (cI, 8, .inl (fun _ => (0 : Int32))))]) H := hP
  have hD : va_D A ([(qSd, .inr (7, [.null, .null, .null, .ref qSd_bytes, .ref qSd_channelCounts, .int (0 : Int32), .int (0 : Int32), .int (0 : Int32)])), (qSd_bytes, .inl (cI, 250, .inl (fun _ => (0 : Int32)))), (qSd_channelCounts, .inl (cI, 8, .inl (fun _ => (0 : Int32))))]) := hD
  refine lv_aload_n hx hb d_Sender_init_31 rfl (lv_at hl 0 rfl) ?_
  refine lv_iconst (v := (0 : Int32)) hx hb d_Sender_init_32 (by decide) ?_
  refine va_put (D := D) (ci := 7) (v := .int (0 : Int32)) (ty := .int) (C := "DeepChannel$Sender") (T := fT_Sender) (N := 8) hx hb hts u_Sender fY_Sender fK_Sender fN_Sender hown hK hP hD hS 0 rfl rfl 7 (by decide) (hts _ k_252) (fun _ h9 => h9) rfl (by decide +kernel) rfl rfl (Nat.le_of_ble_eq_true rfl) d_Sender_init_33 (fun H locs hP hD hS => ?_)
  have hP : va_P D classes ([(qSd, .inr (7, [.null, .null, .null, .ref qSd_bytes, .ref qSd_channelCounts, .int (0 : Int32), .int (0 : Int32), .int (0 : Int32)])), (qSd_bytes, .inl (cI, 250, .inl (fun _ => (0 : Int32)))), (qSd_channelCounts, .inl (cI, 8, .inl (fun _ => (0 : Int32))))]) H := hP
  have hD : va_D A ([(qSd, .inr (7, [.null, .null, .null, .ref qSd_bytes, .ref qSd_channelCounts, .int (0 : Int32), .int (0 : Int32), .int (0 : Int32)])), (qSd_bytes, .inl (cI, 250, .inl (fun _ => (0 : Int32)))), (qSd_channelCounts, .inl (cI, 8, .inl (fun _ => (0 : Int32))))]) := hD
  refine lv_aload_n hx hb d_Sender_init_36 rfl (lv_at hl 0 rfl) ?_
  refine lv_aload_n hx hb d_Sender_init_37 rfl (lv_at hl 1 rfl) ?_
  refine va_putF (D := D) (ci := 7) (v := .ref qSh) (ty := .object "DeepChannel$Shape") (C := "DeepChannel$Sender") (T := fT_Sender) (N := 8) hx hb hts u_Sender fY_Sender fK_Sender fN_Sender hown hK hP hD hS 0 rfl rfl 0 (by decide) (hts _ k_245) (fun _ h9 => h9) rfl hin rfl (by decide +kernel) rfl rfl (Nat.le_of_ble_eq_true rfl) d_Sender_init_38 (fun H locs hP hD hS => ?_)
  have hP : va_P D classes ([(qSd, .inr (7, [.ref qSh, .null, .null, .ref qSd_bytes, .ref qSd_channelCounts, .int (0 : Int32), .int (0 : Int32), .int (0 : Int32)])), (qSd_bytes, .inl (cI, 250, .inl (fun _ => (0 : Int32)))), (qSd_channelCounts, .inl (cI, 8, .inl (fun _ => (0 : Int32))))]) H := hP
  have hD : va_D A ([(qSd, .inr (7, [.ref qSh, .null, .null, .ref qSd_bytes, .ref qSd_channelCounts, .int (0 : Int32), .int (0 : Int32), .int (0 : Int32)])), (qSd_bytes, .inl (cI, 250, .inl (fun _ => (0 : Int32)))), (qSd_channelCounts, .inl (cI, 8, .inl (fun _ => (0 : Int32))))]) := hD
  refine lv_aload_n hx hb d_Sender_init_41 rfl (lv_at hl 0 rfl) ?_
  refine lv_aload_n hx hb d_Sender_init_42 rfl (lv_at hl 2 rfl) ?_
  refine va_putF (D := D) (ci := 7) (v := .ref qWd) (ty := .object "DeepChannel$Words") (C := "DeepChannel$Sender") (T := fT_Sender) (N := 8) hx hb hts u_Sender fY_Sender fK_Sender fN_Sender hown hK hP hD hS 0 rfl rfl 1 (by decide) (hts _ k_246) (fun _ h9 => h9) rfl hin rfl (by decide +kernel) rfl rfl (Nat.le_of_ble_eq_true rfl) d_Sender_init_43 (fun H locs hP hD hS => ?_)
  have hP : va_P D classes ([(qSd, .inr (7, [.ref qSh, .ref qWd, .null, .ref qSd_bytes, .ref qSd_channelCounts, .int (0 : Int32), .int (0 : Int32), .int (0 : Int32)])), (qSd_bytes, .inl (cI, 250, .inl (fun _ => (0 : Int32)))), (qSd_channelCounts, .inl (cI, 8, .inl (fun _ => (0 : Int32))))]) H := hP
  have hD : va_D A ([(qSd, .inr (7, [.ref qSh, .ref qWd, .null, .ref qSd_bytes, .ref qSd_channelCounts, .int (0 : Int32), .int (0 : Int32), .int (0 : Int32)])), (qSd_bytes, .inl (cI, 250, .inl (fun _ => (0 : Int32)))), (qSd_channelCounts, .inl (cI, 8, .inl (fun _ => (0 : Int32))))]) := hD
  refine lv_aload_n hx hb d_Sender_init_46 rfl (lv_at hl 0 rfl) ?_
  refine lv_aload_n hx hb d_Sender_init_47 rfl (lv_at hl 3 rfl) ?_
  refine va_putF (D := D) (ci := 7) (v := .ref qMx) (ty := .object "DeepChannel$Mixer") (C := "DeepChannel$Sender") (T := fT_Sender) (N := 8) hx hb hts u_Sender fY_Sender fK_Sender fN_Sender hown hK hP hD hS 0 rfl rfl 2 (by decide) (hts _ k_247) (fun _ h9 => h9) rfl hin rfl (by decide +kernel) rfl rfl (Nat.le_of_ble_eq_true rfl) d_Sender_init_48 (fun H locs hP hD hS => ?_)
  have hP : va_P D classes ([(qSd, .inr (7, [.ref qSh, .ref qWd, .ref qMx, .ref qSd_bytes, .ref qSd_channelCounts, .int (0 : Int32), .int (0 : Int32), .int (0 : Int32)])), (qSd_bytes, .inl (cI, 250, .inl (fun _ => (0 : Int32)))), (qSd_channelCounts, .inl (cI, 8, .inl (fun _ => (0 : Int32))))]) H := hP
  have hD : va_D A ([(qSd, .inr (7, [.ref qSh, .ref qWd, .ref qMx, .ref qSd_bytes, .ref qSd_channelCounts, .int (0 : Int32), .int (0 : Int32), .int (0 : Int32)])), (qSd_bytes, .inl (cI, 250, .inl (fun _ => (0 : Int32)))), (qSd_channelCounts, .inl (cI, 8, .inl (fun _ => (0 : Int32))))]) := hD
  cases hm
  exact z_qo hQ (z_vretC (fun k => [qSd_bytes, qSd_channelCounts].getD k 0) hr hx hb hlocks hK hP hD hS d_Sender_init_51)
