-- DeepChannel$Field.<init>()V
abbrev b_Field_init : ByteArray := prog_4_method_1_code
abbrev y_Field_init : MethodName := ⟨"DeepChannel$Field", "<init>", "()V"⟩
theorem d_Field_init_0 : decode b_Field_init 0 = .ok (.aload_n 0, 1) := by decide +kernel
theorem d_Field_init_1 : decode b_Field_init 1 = .ok (.invokespecial 1, 3) := by decide +kernel
theorem d_Field_init_4 : decode b_Field_init 4 = .ok (.aload_n 0, 1) := by decide +kernel
theorem d_Field_init_5 : decode b_Field_init 5 = .ok (.sipush 255, 3) := by decide +kernel
theorem d_Field_init_8 : decode b_Field_init 8 = .ok (.newarray .int, 2) := by decide +kernel
theorem d_Field_init_10 : decode b_Field_init 10 = .ok (.putfield 9, 3) := by decide +kernel
theorem d_Field_init_13 : decode b_Field_init 13 = .ok (.aload_n 0, 1) := by decide +kernel
theorem d_Field_init_14 : decode b_Field_init 14 = .ok (.sipush 256, 3) := by decide +kernel
theorem d_Field_init_17 : decode b_Field_init 17 = .ok (.newarray .int, 2) := by decide +kernel
theorem d_Field_init_19 : decode b_Field_init 19 = .ok (.putfield 13, 3) := by decide +kernel
theorem d_Field_init_22 : decode b_Field_init 22 = .ok (.aload_n 0, 1) := by decide +kernel
theorem d_Field_init_23 : decode b_Field_init 23 = .ok (.sipush 256, 3) := by decide +kernel
theorem d_Field_init_26 : decode b_Field_init 26 = .ok (.newarray .int, 2) := by decide +kernel
theorem d_Field_init_28 : decode b_Field_init 28 = .ok (.putfield 16, 3) := by decide +kernel
theorem d_Field_init_31 : decode b_Field_init 31 = .ok (.aload_n 0, 1) := by decide +kernel
theorem d_Field_init_32 : decode b_Field_init 32 = .ok (.sipush 256, 3) := by decide +kernel
theorem d_Field_init_35 : decode b_Field_init 35 = .ok (.newarray .int, 2) := by decide +kernel
theorem d_Field_init_37 : decode b_Field_init 37 = .ok (.putfield 19, 3) := by decide +kernel
theorem d_Field_init_40 : decode b_Field_init 40 = .ok (.iconst 1, 1) := by decide +kernel
theorem d_Field_init_41 : decode b_Field_init 41 = .ok (.istore_n 1, 1) := by decide +kernel
theorem d_Field_init_42 : decode b_Field_init 42 = .ok (.iconst 0, 1) := by decide +kernel
theorem d_Field_init_43 : decode b_Field_init 43 = .ok (.istore_n 2, 1) := by decide +kernel
theorem d_Field_init_44 : decode b_Field_init 44 = .ok (.iload_n 2, 1) := by decide +kernel
theorem d_Field_init_45 : decode b_Field_init 45 = .ok (.sipush 255, 3) := by decide +kernel
theorem d_Field_init_48 : decode b_Field_init 48 = .ok (.if_icmp .ge 32, 3) := by decide +kernel
theorem d_Field_init_51 : decode b_Field_init 51 = .ok (.aload_n 0, 1) := by decide +kernel
theorem d_Field_init_52 : decode b_Field_init 52 = .ok (.getfield 9, 3) := by decide +kernel
theorem d_Field_init_55 : decode b_Field_init 55 = .ok (.iload_n 2, 1) := by decide +kernel
theorem d_Field_init_56 : decode b_Field_init 56 = .ok (.iload_n 1, 1) := by decide +kernel
theorem d_Field_init_57 : decode b_Field_init 57 = .ok (.iastore, 1) := by decide +kernel
theorem d_Field_init_58 : decode b_Field_init 58 = .ok (.aload_n 0, 1) := by decide +kernel
theorem d_Field_init_59 : decode b_Field_init 59 = .ok (.getfield 13, 3) := by decide +kernel
theorem d_Field_init_62 : decode b_Field_init 62 = .ok (.iload_n 1, 1) := by decide +kernel
theorem d_Field_init_63 : decode b_Field_init 63 = .ok (.sipush 255, 3) := by decide +kernel
theorem d_Field_init_66 : decode b_Field_init 66 = .ok (.iand, 1) := by decide +kernel
theorem d_Field_init_67 : decode b_Field_init 67 = .ok (.iload_n 2, 1) := by decide +kernel
theorem d_Field_init_68 : decode b_Field_init 68 = .ok (.iastore, 1) := by decide +kernel
theorem d_Field_init_69 : decode b_Field_init 69 = .ok (.iload_n 1, 1) := by decide +kernel
theorem d_Field_init_70 : decode b_Field_init 70 = .ok (.invokestatic 22, 3) := by decide +kernel
theorem d_Field_init_73 : decode b_Field_init 73 = .ok (.istore_n 1, 1) := by decide +kernel
theorem d_Field_init_74 : decode b_Field_init 74 = .ok (.iinc 2 1, 3) := by decide +kernel
theorem d_Field_init_77 : decode b_Field_init 77 = .ok (.goto (-33), 3) := by decide +kernel
theorem d_Field_init_80 : decode b_Field_init 80 = .ok (.iconst 0, 1) := by decide +kernel
theorem d_Field_init_81 : decode b_Field_init 81 = .ok (.istore_n 2, 1) := by decide +kernel
theorem d_Field_init_82 : decode b_Field_init 82 = .ok (.iload_n 2, 1) := by decide +kernel
theorem d_Field_init_83 : decode b_Field_init 83 = .ok (.sipush 256, 3) := by decide +kernel
theorem d_Field_init_86 : decode b_Field_init 86 = .ok (.if_icmp .ge 61, 3) := by decide +kernel
theorem d_Field_init_89 : decode b_Field_init 89 = .ok (.iconst 0, 1) := by decide +kernel
theorem d_Field_init_90 : decode b_Field_init 90 = .ok (.istore_n 3, 1) := by decide +kernel
theorem d_Field_init_91 : decode b_Field_init 91 = .ok (.iconst 0, 1) := by decide +kernel
theorem d_Field_init_92 : decode b_Field_init 92 = .ok (.istore 4, 2) := by decide +kernel
theorem d_Field_init_94 : decode b_Field_init 94 = .ok (.iload 4, 2) := by decide +kernel
theorem d_Field_init_96 : decode b_Field_init 96 = .ok (.bipush 8, 2) := by decide +kernel
theorem d_Field_init_98 : decode b_Field_init 98 = .ok (.if_icmp .ge 25, 3) := by decide +kernel
theorem d_Field_init_101 : decode b_Field_init 101 = .ok (.iload_n 3, 1) := by decide +kernel
theorem d_Field_init_102 : decode b_Field_init 102 = .ok (.iload_n 2, 1) := by decide +kernel
theorem d_Field_init_103 : decode b_Field_init 103 = .ok (.iload 4, 2) := by decide +kernel
theorem d_Field_init_105 : decode b_Field_init 105 = .ok (.ishr, 1) := by decide +kernel
theorem d_Field_init_106 : decode b_Field_init 106 = .ok (.iconst 1, 1) := by decide +kernel
theorem d_Field_init_107 : decode b_Field_init 107 = .ok (.iand, 1) := by decide +kernel
theorem d_Field_init_108 : decode b_Field_init 108 = .ok (.getstatic 26, 3) := by decide +kernel
theorem d_Field_init_111 : decode b_Field_init 111 = .ok (.iload 4, 2) := by decide +kernel
theorem d_Field_init_113 : decode b_Field_init 113 = .ok (.iaload, 1) := by decide +kernel
theorem d_Field_init_114 : decode b_Field_init 114 = .ok (.imul, 1) := by decide +kernel
theorem d_Field_init_115 : decode b_Field_init 115 = .ok (.ixor, 1) := by decide +kernel
theorem d_Field_init_116 : decode b_Field_init 116 = .ok (.istore_n 3, 1) := by decide +kernel
theorem d_Field_init_117 : decode b_Field_init 117 = .ok (.iinc 4 1, 3) := by decide +kernel
theorem d_Field_init_120 : decode b_Field_init 120 = .ok (.goto (-26), 3) := by decide +kernel
theorem d_Field_init_123 : decode b_Field_init 123 = .ok (.aload_n 0, 1) := by decide +kernel
theorem d_Field_init_124 : decode b_Field_init 124 = .ok (.getfield 16, 3) := by decide +kernel
theorem d_Field_init_127 : decode b_Field_init 127 = .ok (.iload_n 2, 1) := by decide +kernel
theorem d_Field_init_128 : decode b_Field_init 128 = .ok (.iload_n 3, 1) := by decide +kernel
theorem d_Field_init_129 : decode b_Field_init 129 = .ok (.iastore, 1) := by decide +kernel
theorem d_Field_init_130 : decode b_Field_init 130 = .ok (.aload_n 0, 1) := by decide +kernel
theorem d_Field_init_131 : decode b_Field_init 131 = .ok (.getfield 19, 3) := by decide +kernel
theorem d_Field_init_134 : decode b_Field_init 134 = .ok (.iload_n 3, 1) := by decide +kernel
theorem d_Field_init_135 : decode b_Field_init 135 = .ok (.sipush 255, 3) := by decide +kernel
theorem d_Field_init_138 : decode b_Field_init 138 = .ok (.iand, 1) := by decide +kernel
theorem d_Field_init_139 : decode b_Field_init 139 = .ok (.iload_n 2, 1) := by decide +kernel
theorem d_Field_init_140 : decode b_Field_init 140 = .ok (.iastore, 1) := by decide +kernel
theorem d_Field_init_141 : decode b_Field_init 141 = .ok (.iinc 2 1, 3) := by decide +kernel
theorem d_Field_init_144 : decode b_Field_init 144 = .ok (.goto (-62), 3) := by decide +kernel
theorem d_Field_init_147 : decode b_Field_init 147 = .ok (.return_, 1) := by decide +kernel
theorem ok_Field_init : OKc y_Field_init b_Field_init 5 0 := ⟨k_103, k_102, k_45, rfl, by decide +kernel, by decide +kernel, by decide +kernel⟩
abbrev w1_Field_init (cI cJ : ClassId) (qFd : Nat)   : va_W := [(qFd, .inr (2, [.null, .null, .null, .null]))]
abbrev w2_Field_init (cI cJ : ClassId) (qFd : Nat) (qFd_powers qFd_logs qFd_otherForms qFd_elements : Nat)   (Fd_powers' : Nat → Int32) (Fd_logs' : Nat → Int32) (Fd_otherForms' : Nat → Int32) (Fd_elements' : Nat → Int32) : va_W := [(qFd, .inr (2, [.ref qFd_powers, .ref qFd_logs, .ref qFd_otherForms, .ref qFd_elements])), (qFd_powers, .inl (cI, 255, .inl Fd_powers')), (qFd_logs, .inl (cI, 256, .inl Fd_logs')), (qFd_otherForms, .inl (cI, 256, .inl Fd_otherForms')), (qFd_elements, .inl (cI, 256, .inl Fd_elements'))]
def f_Field_init_123 (kh82 : Int32 → (Nat → Int32) → (Nat → Int32) → (Nat → Int32) → (Nat → Int32) → Option ((Nat → Int32) × (Nat → Int32) × (Nat → Int32) × (Nat → Int32))) (x2 : Int32) (x3 : Int32) (Fd_powers : Nat → Int32) (Fd_logs : Nat → Int32) (Fd_otherForms : Nat → Int32) (Fd_elements : Nat → Int32) : Option ((Nat → Int32) × (Nat → Int32) × (Nat → Int32) × (Nat → Int32)) :=
  wrI Fd_otherForms 256 x2 x3 fun g1 =>
  wrI Fd_elements 256 (x3 &&& (255 : Int32)) x2 fun g2 =>
  nm (x2 + (1 : Int32)) fun v3 =>
  kh82 v3 Fd_powers Fd_logs g1 g2
def f_Field_init_94_b (kh82 : Int32 → (Nat → Int32) → (Nat → Int32) → (Nat → Int32) → (Nat → Int32) → Option ((Nat → Int32) × (Nat → Int32) × (Nat → Int32) × (Nat → Int32))) (kh94 : Int32 → Int32 → Int32 → (Nat → Int32) → (Nat → Int32) → (Nat → Int32) → (Nat → Int32) → Option ((Nat → Int32) × (Nat → Int32) × (Nat → Int32) × (Nat → Int32))) (x2 : Int32) (x3 : Int32) (x4 : Int32) (Fd_powers : Nat → Int32) (Fd_logs : Nat → Int32) (Fd_otherForms : Nat → Int32) (Fd_elements : Nat → Int32) : Option ((Nat → Int32) × (Nat → Int32) × (Nat → Int32) × (Nat → Int32)) :=
  if (8 : Int32) ≤ x4 then
    f_Field_init_123 kh82 x2 x3 Fd_powers Fd_logs Fd_otherForms Fd_elements
  else
  rdI stO 8 x4 fun v4 =>
  nm (x3 ^^^ (((x2 >>> (x4 &&& 31)) &&& (1 : Int32)) * v4)) fun v5 =>
  nm (x4 + (1 : Int32)) fun v6 =>
  kh94 x2 v5 v6 Fd_powers Fd_logs Fd_otherForms Fd_elements
def f_Field_init_94 (kh82 : Int32 → (Nat → Int32) → (Nat → Int32) → (Nat → Int32) → (Nat → Int32) → Option ((Nat → Int32) × (Nat → Int32) × (Nat → Int32) × (Nat → Int32))) : Nat → Int32 → Int32 → Int32 → (Nat → Int32) → (Nat → Int32) → (Nat → Int32) → (Nat → Int32) → Option ((Nat → Int32) × (Nat → Int32) × (Nat → Int32) × (Nat → Int32))
  | 0 => fun _ _ _ _ _ _ _ => none
  | n + 1 => fun x2 x3 x4 Fd_powers Fd_logs Fd_otherForms Fd_elements => f_Field_init_94_b kh82 (f_Field_init_94 kh82 n) x2 x3 x4 Fd_powers Fd_logs Fd_otherForms Fd_elements
def f_Field_init_82_b  (kh82 : Int32 → (Nat → Int32) → (Nat → Int32) → (Nat → Int32) → (Nat → Int32) → Option ((Nat → Int32) × (Nat → Int32) × (Nat → Int32) × (Nat → Int32))) (x2 : Int32) (Fd_powers : Nat → Int32) (Fd_logs : Nat → Int32) (Fd_otherForms : Nat → Int32) (Fd_elements : Nat → Int32) : Option ((Nat → Int32) × (Nat → Int32) × (Nat → Int32) × (Nat → Int32)) :=
  if (256 : Int32) ≤ x2 then
    some (Fd_powers, Fd_logs, Fd_otherForms, Fd_elements)
  else
  f_Field_init_94 kh82 10000 x2 (0 : Int32) (0 : Int32) Fd_powers Fd_logs Fd_otherForms Fd_elements
def f_Field_init_82  : Nat → Int32 → (Nat → Int32) → (Nat → Int32) → (Nat → Int32) → (Nat → Int32) → Option ((Nat → Int32) × (Nat → Int32) × (Nat → Int32) × (Nat → Int32))
  | 0 => fun _ _ _ _ _ => none
  | n + 1 => fun x2 Fd_powers Fd_logs Fd_otherForms Fd_elements => f_Field_init_82_b (f_Field_init_82 n) x2 Fd_powers Fd_logs Fd_otherForms Fd_elements
def f_Field_init_80  (Fd_powers : Nat → Int32) (Fd_logs : Nat → Int32) (Fd_otherForms : Nat → Int32) (Fd_elements : Nat → Int32) : Option ((Nat → Int32) × (Nat → Int32) × (Nat → Int32) × (Nat → Int32)) :=
  f_Field_init_82 10000 (0 : Int32) Fd_powers Fd_logs Fd_otherForms Fd_elements
def f_Field_init_44_b  (kh44 : Int32 → Int32 → (Nat → Int32) → (Nat → Int32) → (Nat → Int32) → (Nat → Int32) → Option ((Nat → Int32) × (Nat → Int32) × (Nat → Int32) × (Nat → Int32))) (x1 : Int32) (x2 : Int32) (Fd_powers : Nat → Int32) (Fd_logs : Nat → Int32) (Fd_otherForms : Nat → Int32) (Fd_elements : Nat → Int32) : Option ((Nat → Int32) × (Nat → Int32) × (Nat → Int32) × (Nat → Int32)) :=
  if (255 : Int32) ≤ x2 then
    f_Field_init_80 Fd_powers Fd_logs Fd_otherForms Fd_elements
  else
  wrI Fd_powers 255 x2 x1 fun g7 =>
  wrI Fd_logs 256 (x1 &&& (255 : Int32)) x2 fun g8 =>
  bd (f_Field_timesG x1) fun u10 =>
  nm u10 fun r9 =>
  nm (x2 + (1 : Int32)) fun v11 =>
  kh44 r9 v11 g7 g8 Fd_otherForms Fd_elements
def f_Field_init_44  : Nat → Int32 → Int32 → (Nat → Int32) → (Nat → Int32) → (Nat → Int32) → (Nat → Int32) → Option ((Nat → Int32) × (Nat → Int32) × (Nat → Int32) × (Nat → Int32))
  | 0 => fun _ _ _ _ _ _ => none
  | n + 1 => fun x1 x2 Fd_powers Fd_logs Fd_otherForms Fd_elements => f_Field_init_44_b (f_Field_init_44 n) x1 x2 Fd_powers Fd_logs Fd_otherForms Fd_elements
def f_Field_init  : Option ((Nat → Int32) × (Nat → Int32) × (Nat → Int32) × (Nat → Int32)) :=
  f_Field_init_44 10000 (1 : Int32) (0 : Int32) (fun _ => (0 : Int32)) (fun _ => (0 : Int32)) (fun _ => (0 : Int32)) (fun _ => (0 : Int32))
set_option maxHeartbeats 4000000 in
set_option maxRecDepth 100000 in
theorem c_Field_init (l : Launch) (D : va_G) (cI cJ : ClassId) (tt : Nat → Nat) (qFd : Nat)  (sz : Nat)  (Fd_powers' : Nat → Int32) (Fd_logs' : Nat → Int32) (Fd_otherForms' : Nat → Int32) (Fd_elements' : Nat → Int32) (hm : f_Field_init = some (Fd_powers', Fd_logs', Fd_otherForms', Fd_elements')) : CTc l y_Field_init b_Field_init 5 (RC 1 4 1023 22) D cI cJ tt [.ref qFd] (w1_Field_init cI cJ qFd) (Nat → Nat) (fun (u : Nat → Nat) => w2_Field_init cI cJ qFd (u 0) (u 1) (u 2) (u 3) Fd_powers' Fd_logs' Fd_otherForms' Fd_elements') sz 4 1023 := by
  refine Met.ofW (cc := b_Field_init) (maxL := 5) (ret := none) (by decide) rfl ?_
  intro p e s m args below meth c s₁ B hml hv
  obtain ⟨hargs, hsz, hP, hK, hD0, hE⟩ := hv
  have hx := B.exec
  have hb := B.bytes
  have hr := B.returns
  have hts : ∀ w ∈ TB, w.before args s = true := z_mV s (atoms_spec (ws := WD y_Field_init b_Field_init 5 none) B.pre)
  have hown : s.vm.findClass "DeepChannel$Field" = some m.cls := findClass_of_methodNamed B.named
  have hlocks := B.notSynchronized
  have hin : meth.name = "<init>" := (name_of_methodNamed B.named B.method).1
  subst hsz
  have hD := hD0.self (sz := s.heap.size)
  generalize hAe : va_A (w1_Field_init cI cJ qFd) s.heap.size = A at hD hE ⊢
  have hA : ∀ q : Nat, s.heap.size ≤ q → A q := fun q h => by rw [← hAe]; exact Or.inr h
  have hS : va_S A s.heap s.heap [] := va_S.rf
  refine z_entry (vs := [.ref qFd]) hargs (Nat.le_of_ble_eq_true rfl) (fun ls hl => ?_)
  have hl : lv_has ls 5 [(0, .ref qFd)] := hl
  show W p l e (RC 1 4 1023 22) s m args below meth c s.heap [] 0 0 _ _
  refine z_qi (fun Q0 hQ => ?_)
  have F : CallFix p m c b_Field_init 5 s args TB "DeepChannel$Field" := ⟨hx, hb, hml, hown, hts⟩
  unfold f_Field_init at hm
  refine lv_aload_n hx hb d_Field_init_0 rfl (lv_at hl 0 rfl) ?_
  refine W.objInit hx hb hown (hts _ k_104) (hts _ k_70) (hts _ k_71) rfl (by rw [hml]; exact hl.1) rfl d_Field_init_1 (Nat.le_of_ble_eq_true rfl) (Nat.le_of_ble_eq_true rfl) ?_
  refine W.eq (g2 := F0 m 4 ls []) rfl ?_
  refine lv_aload_n hx hb d_Field_init_4 rfl (lv_at hl 0 rfl) ?_
  refine lv_sipush (v := (255 : Int32)) hx hb d_Field_init_5 (by decide) ?_
  refine z_newI (N := 255) hx hb hts k_123 hK hP hD hS hA (by decide) (by decide) (Nat.le_of_ble_eq_true rfl) (Nat.le_of_ble_eq_true rfl) (Nat.le_of_ble_eq_true rfl) d_Field_init_8 (fun qFd_powers H hP hD hS => ?_)
  have hP : va_P D classes ([(qFd, .inr (2, [.null, .null, .null, .null])), (qFd_powers, .inl (cI, 255, .inl (fun _ => (0 : Int32))))]) H := hP
  have hD : va_D A ([(qFd, .inr (2, [.null, .null, .null, .null])), (qFd_powers, .inl (cI, 255, .inl (fun _ => (0 : Int32))))]) := hD
  refine va_putF (D := D) (ci := 2) (v := .ref qFd_powers) (ty := .array .int) (C := "DeepChannel$Field") (T := fT_Field) (N := 4) hx hb hts u_Field fY_Field fK_Field fN_Field hown hK hP hD hS 0 rfl rfl 0 (by decide) (hts _ k_110) (fun _ h9 => h9) rfl hin rfl (by decide +kernel) rfl rfl (Nat.le_of_ble_eq_true rfl) d_Field_init_10 (fun H locs hP hD hS => ?_)
  have hP : va_P D classes ([(qFd, .inr (2, [.ref qFd_powers, .null, .null, .null])), (qFd_powers, .inl (cI, 255, .inl (fun _ => (0 : Int32))))]) H := hP
  have hD : va_D A ([(qFd, .inr (2, [.ref qFd_powers, .null, .null, .null])), (qFd_powers, .inl (cI, 255, .inl (fun _ => (0 : Int32))))]) := hD
  refine lv_aload_n hx hb d_Field_init_13 rfl (lv_at hl 0 rfl) ?_
  refine lv_sipush (v := (256 : Int32)) hx hb d_Field_init_14 (by decide) ?_
  refine z_newI (N := 256) hx hb hts k_123 hK hP hD hS hA (by decide) (by decide) (Nat.le_of_ble_eq_true rfl) (Nat.le_of_ble_eq_true rfl) (Nat.le_of_ble_eq_true rfl) d_Field_init_17 (fun qFd_logs H hP hD hS => ?_)
  have hP : va_P D classes ([(qFd, .inr (2, [.ref qFd_powers, .null, .null, .null])), (qFd_powers, .inl (cI, 255, .inl (fun _ => (0 : Int32)))), (qFd_logs, .inl (cI, 256, .inl (fun _ => (0 : Int32))))]) H := hP
  have hD : va_D A ([(qFd, .inr (2, [.ref qFd_powers, .null, .null, .null])), (qFd_powers, .inl (cI, 255, .inl (fun _ => (0 : Int32)))), (qFd_logs, .inl (cI, 256, .inl (fun _ => (0 : Int32))))]) := hD
  refine va_putF (D := D) (ci := 2) (v := .ref qFd_logs) (ty := .array .int) (C := "DeepChannel$Field") (T := fT_Field) (N := 4) hx hb hts u_Field fY_Field fK_Field fN_Field hown hK hP hD hS 0 rfl rfl 1 (by decide) (hts _ k_111) (fun _ h9 => h9) rfl hin rfl (by decide +kernel) rfl rfl (Nat.le_of_ble_eq_true rfl) d_Field_init_19 (fun H locs hP hD hS => ?_)
  have hP : va_P D classes ([(qFd, .inr (2, [.ref qFd_powers, .ref qFd_logs, .null, .null])), (qFd_powers, .inl (cI, 255, .inl (fun _ => (0 : Int32)))), (qFd_logs, .inl (cI, 256, .inl (fun _ => (0 : Int32))))]) H := hP
  have hD : va_D A ([(qFd, .inr (2, [.ref qFd_powers, .ref qFd_logs, .null, .null])), (qFd_powers, .inl (cI, 255, .inl (fun _ => (0 : Int32)))), (qFd_logs, .inl (cI, 256, .inl (fun _ => (0 : Int32))))]) := hD
  refine lv_aload_n hx hb d_Field_init_22 rfl (lv_at hl 0 rfl) ?_
  refine lv_sipush (v := (256 : Int32)) hx hb d_Field_init_23 (by decide) ?_
  refine z_newI (N := 256) hx hb hts k_123 hK hP hD hS hA (by decide) (by decide) (Nat.le_of_ble_eq_true rfl) (Nat.le_of_ble_eq_true rfl) (Nat.le_of_ble_eq_true rfl) d_Field_init_26 (fun qFd_otherForms H hP hD hS => ?_)
  have hP : va_P D classes ([(qFd, .inr (2, [.ref qFd_powers, .ref qFd_logs, .null, .null])), (qFd_powers, .inl (cI, 255, .inl (fun _ => (0 : Int32)))), (qFd_logs, .inl (cI, 256, .inl (fun _ => (0 : Int32)))), (qFd_otherForms, .inl (cI, 256, .inl (fun _ => (0 : Int32))))]) H := hP
  have hD : va_D A ([(qFd, .inr (2, [.ref qFd_powers, .ref qFd_logs, .null, .null])), (qFd_powers, .inl (cI, 255, .inl (fun _ => (0 : Int32)))), (qFd_logs, .inl (cI, 256, .inl (fun _ => (0 : Int32)))), (qFd_otherForms, .inl (cI, 256, .inl (fun _ => (0 : Int32))))]) := hD
  refine va_putF (D := D) (ci := 2) (v := .ref qFd_otherForms) (ty := .array .int) (C := "DeepChannel$Field") (T := fT_Field) (N := 4) hx hb hts u_Field fY_Field fK_Field fN_Field hown hK hP hD hS 0 rfl rfl 2 (by decide) (hts _ k_112) (fun _ h9 => h9) rfl hin rfl (by decide +kernel) rfl rfl (Nat.le_of_ble_eq_true rfl) d_Field_init_28 (fun H locs hP hD hS => ?_)
  have hP : va_P D classes ([(qFd, .inr (2, [.ref qFd_powers, .ref qFd_logs, .ref qFd_otherForms, .null])), (qFd_powers, .inl (cI, 255, .inl (fun _ => (0 : Int32)))), (qFd_logs, .inl (cI, 256, .inl (fun _ => (0 : Int32)))), (qFd_otherForms, .inl (cI, 256, .inl (fun _ => (0 : Int32))))]) H := hP
  have hD : va_D A ([(qFd, .inr (2, [.ref qFd_powers, .ref qFd_logs, .ref qFd_otherForms, .null])), (qFd_powers, .inl (cI, 255, .inl (fun _ => (0 : Int32)))), (qFd_logs, .inl (cI, 256, .inl (fun _ => (0 : Int32)))), (qFd_otherForms, .inl (cI, 256, .inl (fun _ => (0 : Int32))))]) := hD
  refine lv_aload_n hx hb d_Field_init_31 rfl (lv_at hl 0 rfl) ?_
  refine lv_sipush (v := (256 : Int32)) hx hb d_Field_init_32 (by decide) ?_
  refine z_newI (N := 256) hx hb hts k_123 hK hP hD hS hA (by decide) (by decide) (Nat.le_of_ble_eq_true rfl) (Nat.le_of_ble_eq_true rfl) (Nat.le_of_ble_eq_true rfl) d_Field_init_35 (fun qFd_elements H hP hD hS => ?_)
  have hP : va_P D classes ([(qFd, .inr (2, [.ref qFd_powers, .ref qFd_logs, .ref qFd_otherForms, .null])), (qFd_powers, .inl (cI, 255, .inl (fun _ => (0 : Int32)))), (qFd_logs, .inl (cI, 256, .inl (fun _ => (0 : Int32)))), (qFd_otherForms, .inl (cI, 256, .inl (fun _ => (0 : Int32)))), (qFd_elements, .inl (cI, 256, .inl (fun _ => (0 : Int32))))]) H := hP
  have hD : va_D A ([(qFd, .inr (2, [.ref qFd_powers, .ref qFd_logs, .ref qFd_otherForms, .null])), (qFd_powers, .inl (cI, 255, .inl (fun _ => (0 : Int32)))), (qFd_logs, .inl (cI, 256, .inl (fun _ => (0 : Int32)))), (qFd_otherForms, .inl (cI, 256, .inl (fun _ => (0 : Int32)))), (qFd_elements, .inl (cI, 256, .inl (fun _ => (0 : Int32))))]) := hD
  refine va_putF (D := D) (ci := 2) (v := .ref qFd_elements) (ty := .array .int) (C := "DeepChannel$Field") (T := fT_Field) (N := 4) hx hb hts u_Field fY_Field fK_Field fN_Field hown hK hP hD hS 0 rfl rfl 3 (by decide) (hts _ k_113) (fun _ h9 => h9) rfl hin rfl (by decide +kernel) rfl rfl (Nat.le_of_ble_eq_true rfl) d_Field_init_37 (fun H locs hP hD hS => ?_)
  have hP : va_P D classes ([(qFd, .inr (2, [.ref qFd_powers, .ref qFd_logs, .ref qFd_otherForms, .ref qFd_elements])), (qFd_powers, .inl (cI, 255, .inl (fun _ => (0 : Int32)))), (qFd_logs, .inl (cI, 256, .inl (fun _ => (0 : Int32)))), (qFd_otherForms, .inl (cI, 256, .inl (fun _ => (0 : Int32)))), (qFd_elements, .inl (cI, 256, .inl (fun _ => (0 : Int32))))]) H := hP
  have hD : va_D A ([(qFd, .inr (2, [.ref qFd_powers, .ref qFd_logs, .ref qFd_otherForms, .ref qFd_elements])), (qFd_powers, .inl (cI, 255, .inl (fun _ => (0 : Int32)))), (qFd_logs, .inl (cI, 256, .inl (fun _ => (0 : Int32)))), (qFd_otherForms, .inl (cI, 256, .inl (fun _ => (0 : Int32)))), (qFd_elements, .inl (cI, 256, .inl (fun _ => (0 : Int32))))]) := hD
  refine lv_iconst (v := (1 : Int32)) hx hb d_Field_init_40 (by decide) ?_
  refine lv_istore_n (lv' := [(1, .int (1 : Int32)), (0, .ref qFd)]) hx hb d_Field_init_41 rfl hl (by decide) rfl (fun ls hl => ?_)
  refine lv_iconst (v := (0 : Int32)) hx hb d_Field_init_42 (by decide) ?_
  refine lv_istore_n (lv' := [(2, .int (0 : Int32)), (1, .int (1 : Int32)), (0, .ref qFd)]) hx hb d_Field_init_43 rfl hl (by decide) rfl (fun ls hl => ?_)
  have T82 : ∀ (n82 : Nat) (x2 : Int32) (Fd_powers : Nat → Int32) (Fd_logs : Nat → Int32) (Fd_otherForms : Nat → Int32) (Fd_elements : Nat → Int32), f_Field_init_82 n82 x2 Fd_powers Fd_logs Fd_otherForms Fd_elements = some (Fd_powers', Fd_logs', Fd_otherForms', Fd_elements') → ∀ (H : Heap) (locs : List Loc), va_P D classes ([(qFd, .inr (2, [.ref qFd_powers, .ref qFd_logs, .ref qFd_otherForms, .ref qFd_elements])), (qFd_powers, .inl (cI, 255, .inl Fd_powers)), (qFd_logs, .inl (cI, 256, .inl Fd_logs)), (qFd_otherForms, .inl (cI, 256, .inl Fd_otherForms)), (qFd_elements, .inl (cI, 256, .inl Fd_elements))]) H → va_D A ([(qFd, .inr (2, [.ref qFd_powers, .ref qFd_logs, .ref qFd_otherForms, .ref qFd_elements])), (qFd_powers, .inl (cI, 255, .inl Fd_powers)), (qFd_logs, .inl (cI, 256, .inl Fd_logs)), (qFd_otherForms, .inl (cI, 256, .inl Fd_otherForms)), (qFd_elements, .inl (cI, 256, .inl Fd_elements))]) → va_S A s.heap H locs → ∀ (ls : Array Slot), lv_has ls 5 [(0, .ref qFd), (2, .int x2)] → W p l e (RC 1 4 1023 22) s m args below meth c H locs 4 1023 Q0 (F0 m 82 ls []) := by
    intro n82
    induction n82 with
    | zero => intro x2 Fd_powers Fd_logs Fd_otherForms Fd_elements hm; cases hm
    | succ n82 ih82 =>
      have T123 : ∀ (x2 : Int32) (x3 : Int32) (Fd_powers : Nat → Int32) (Fd_logs : Nat → Int32) (Fd_otherForms : Nat → Int32) (Fd_elements : Nat → Int32), f_Field_init_123 (f_Field_init_82 n82) x2 x3 Fd_powers Fd_logs Fd_otherForms Fd_elements = some (Fd_powers', Fd_logs', Fd_otherForms', Fd_elements') → ∀ (H : Heap) (locs : List Loc), va_P D classes ([(qFd, .inr (2, [.ref qFd_powers, .ref qFd_logs, .ref qFd_otherForms, .ref qFd_elements])), (qFd_powers, .inl (cI, 255, .inl Fd_powers)), (qFd_logs, .inl (cI, 256, .inl Fd_logs)), (qFd_otherForms, .inl (cI, 256, .inl Fd_otherForms)), (qFd_elements, .inl (cI, 256, .inl Fd_elements))]) H → va_D A ([(qFd, .inr (2, [.ref qFd_powers, .ref qFd_logs, .ref qFd_otherForms, .ref qFd_elements])), (qFd_powers, .inl (cI, 255, .inl Fd_powers)), (qFd_logs, .inl (cI, 256, .inl Fd_logs)), (qFd_otherForms, .inl (cI, 256, .inl Fd_otherForms)), (qFd_elements, .inl (cI, 256, .inl Fd_elements))]) → va_S A s.heap H locs → ∀ (ls : Array Slot), lv_has ls 5 [(0, .ref qFd), (2, .int x2), (3, .int x3)] → W p l e (RC 1 4 1023 22) s m args below meth c H locs 4 1023 Q0 (F0 m 123 ls []) := by
        intro x2 x3 Fd_powers Fd_logs Fd_otherForms Fd_elements hm H locs hP hD hS ls hl
        unfold f_Field_init_123 at hm
        refine lv_aload_n hx hb d_Field_init_123 rfl (lv_at hl 0 rfl) ?_
        refine va_get (D := D) (ci := 2) (v := .ref qFd_otherForms) (C := "DeepChannel$Field") (T := fT_Field) (N := 4) hx hb hts u_Field hown hK hP 0 rfl rfl 2 (by decide) (hts _ k_112) (fun _ h9 => h9) rfl d_Field_init_124 ?_
        refine lv_iload_n hx hb d_Field_init_127 rfl (lv_at hl 1 rfl) ?_
        refine lv_iload_n hx hb d_Field_init_128 rfl (lv_at hl 2 rfl) ?_
        refine z_iast hm hx hb hK hP hD hS 3 rfl d_Field_init_129 (fun g1 hm H locs hP hD hS => ?_)
        have hP : va_P D classes ([(qFd, .inr (2, [.ref qFd_powers, .ref qFd_logs, .ref qFd_otherForms, .ref qFd_elements])), (qFd_powers, .inl (cI, 255, .inl Fd_powers)), (qFd_logs, .inl (cI, 256, .inl Fd_logs)), (qFd_otherForms, .inl (cI, 256, .inl g1)), (qFd_elements, .inl (cI, 256, .inl Fd_elements))]) H := hP
        have hD : va_D A ([(qFd, .inr (2, [.ref qFd_powers, .ref qFd_logs, .ref qFd_otherForms, .ref qFd_elements])), (qFd_powers, .inl (cI, 255, .inl Fd_powers)), (qFd_logs, .inl (cI, 256, .inl Fd_logs)), (qFd_otherForms, .inl (cI, 256, .inl g1)), (qFd_elements, .inl (cI, 256, .inl Fd_elements))]) := hD
        refine lv_aload_n hx hb d_Field_init_130 rfl (lv_at hl 0 rfl) ?_
        refine va_get (D := D) (ci := 2) (v := .ref qFd_elements) (C := "DeepChannel$Field") (T := fT_Field) (N := 4) hx hb hts u_Field hown hK hP 0 rfl rfl 3 (by decide) (hts _ k_113) (fun _ h9 => h9) rfl d_Field_init_131 ?_
        refine lv_iload_n hx hb d_Field_init_134 rfl (lv_at hl 2 rfl) ?_
        refine lv_sipush (v := (255 : Int32)) hx hb d_Field_init_135 (by decide) ?_
        refine lv_iand hx hb d_Field_init_138 ?_
        refine lv_iload_n hx hb d_Field_init_139 rfl (lv_at hl 1 rfl) ?_
        refine z_iast hm hx hb hK hP hD hS 4 rfl d_Field_init_140 (fun g2 hm H locs hP hD hS => ?_)
        have hP : va_P D classes ([(qFd, .inr (2, [.ref qFd_powers, .ref qFd_logs, .ref qFd_otherForms, .ref qFd_elements])), (qFd_powers, .inl (cI, 255, .inl Fd_powers)), (qFd_logs, .inl (cI, 256, .inl Fd_logs)), (qFd_otherForms, .inl (cI, 256, .inl g1)), (qFd_elements, .inl (cI, 256, .inl g2))]) H := hP
        have hD : va_D A ([(qFd, .inr (2, [.ref qFd_powers, .ref qFd_logs, .ref qFd_otherForms, .ref qFd_elements])), (qFd_powers, .inl (cI, 255, .inl Fd_powers)), (qFd_logs, .inl (cI, 256, .inl Fd_logs)), (qFd_otherForms, .inl (cI, 256, .inl g1)), (qFd_elements, .inl (cI, 256, .inl g2))]) := hD
        obtain ⟨v3, ev, hm⟩ := nm_el hm
        refine lv_iinc (v := v3) (lv' := [(2, .int v3), (0, .ref qFd), (3, .int x3)]) hx hb d_Field_init_141 hl (k := 1) rfl (by rw [ev]; rfl) (by decide) rfl (fun ls hl => ?_)
        refine lv_goto (tgt := 82) hx hb d_Field_init_144 (by decide) ?_
        exact ih82 v3 Fd_powers Fd_logs g1 g2 hm _ _ hP hD hS _ (lv_sub hl [1, 0] rfl)
      have T94 : ∀ (n94 : Nat) (x2 : Int32) (x3 : Int32) (x4 : Int32) (Fd_powers : Nat → Int32) (Fd_logs : Nat → Int32) (Fd_otherForms : Nat → Int32) (Fd_elements : Nat → Int32), f_Field_init_94 (f_Field_init_82 n82) n94 x2 x3 x4 Fd_powers Fd_logs Fd_otherForms Fd_elements = some (Fd_powers', Fd_logs', Fd_otherForms', Fd_elements') → ∀ (H : Heap) (locs : List Loc), va_P D classes ([(qFd, .inr (2, [.ref qFd_powers, .ref qFd_logs, .ref qFd_otherForms, .ref qFd_elements])), (qFd_powers, .inl (cI, 255, .inl Fd_powers)), (qFd_logs, .inl (cI, 256, .inl Fd_logs)), (qFd_otherForms, .inl (cI, 256, .inl Fd_otherForms)), (qFd_elements, .inl (cI, 256, .inl Fd_elements))]) H → va_D A ([(qFd, .inr (2, [.ref qFd_powers, .ref qFd_logs, .ref qFd_otherForms, .ref qFd_elements])), (qFd_powers, .inl (cI, 255, .inl Fd_powers)), (qFd_logs, .inl (cI, 256, .inl Fd_logs)), (qFd_otherForms, .inl (cI, 256, .inl Fd_otherForms)), (qFd_elements, .inl (cI, 256, .inl Fd_elements))]) → va_S A s.heap H locs → ∀ (ls : Array Slot), lv_has ls 5 [(0, .ref qFd), (2, .int x2), (3, .int x3), (4, .int x4)] → W p l e (RC 1 4 1023 22) s m args below meth c H locs 4 1023 Q0 (F0 m 94 ls []) := by
        intro n94
        induction n94 with
        | zero => intro x2 x3 x4 Fd_powers Fd_logs Fd_otherForms Fd_elements hm; cases hm
        | succ n94 ih94 =>
          intro x2 x3 x4 Fd_powers Fd_logs Fd_otherForms Fd_elements hm H locs hP hD hS ls hl
          replace hm : f_Field_init_94_b (f_Field_init_82 n82) (f_Field_init_94 (f_Field_init_82 n82) n94) x2 x3 x4 Fd_powers Fd_logs Fd_otherForms Fd_elements = some (Fd_powers', Fd_logs', Fd_otherForms', Fd_elements') := hm
          unfold f_Field_init_94_b at hm
          refine lv_iload hx hb d_Field_init_94 (lv_at hl 3 rfl) ?_
          refine lv_bipush (v := (8 : Int32)) hx hb d_Field_init_96 (by decide) ?_
          refine z_if hm (lv_icmp_ge (tgt := 123) hx hb d_Field_init_98 (by decide)) (fun hm => ?_) (fun hm => ?_)
          · exact T123 x2 x3 Fd_powers Fd_logs Fd_otherForms Fd_elements hm _ _ hP hD hS _ (lv_sub hl [0, 1, 2] rfl)
          · refine lv_iload_n hx hb d_Field_init_101 rfl (lv_at hl 2 rfl) ?_
            refine lv_iload_n hx hb d_Field_init_102 rfl (lv_at hl 1 rfl) ?_
            refine lv_iload hx hb d_Field_init_103 (lv_at hl 3 rfl) ?_
            refine lv_ishr hx hb d_Field_init_105 ?_
            refine lv_iconst (v := (1 : Int32)) hx hb d_Field_init_106 (by decide) ?_
            refine lv_iand hx hb d_Field_init_107 ?_
            refine z_gets hE.2.1 hx hb hS hown hts k_108 d_Field_init_108 ?_
            refine lv_iload hx hb d_Field_init_111 (lv_at hl 3 rfl) ?_
            refine z_tI hm hx hb hE.2.1 hS d_Field_init_113 (fun v4 hm => ?_)
            refine lv_imul hx hb d_Field_init_114 ?_
            refine lv_ixor hx hb d_Field_init_115 ?_
            refine z_nmi hm (fun v5 hm => ?_)
            refine lv_istore_n (lv' := [(3, .int v5), (0, .ref qFd), (2, .int x2), (4, .int x4)]) hx hb d_Field_init_116 rfl hl (by decide) rfl (fun ls hl => ?_)
            obtain ⟨v6, ev, hm⟩ := nm_el hm
            refine lv_iinc (v := v6) (lv' := [(4, .int v6), (3, .int v5), (0, .ref qFd), (2, .int x2)]) hx hb d_Field_init_117 hl (k := 3) rfl (by rw [ev]; rfl) (by decide) rfl (fun ls hl => ?_)
            refine lv_goto (tgt := 94) hx hb d_Field_init_120 (by decide) ?_
            exact ih94 x2 v5 v6 Fd_powers Fd_logs Fd_otherForms Fd_elements hm _ _ hP hD hS _ (lv_sub hl [2, 3, 1, 0] rfl)
      intro x2 Fd_powers Fd_logs Fd_otherForms Fd_elements hm H locs hP hD hS ls hl
      replace hm : f_Field_init_82_b (f_Field_init_82 n82) x2 Fd_powers Fd_logs Fd_otherForms Fd_elements = some (Fd_powers', Fd_logs', Fd_otherForms', Fd_elements') := hm
      unfold f_Field_init_82_b at hm
      refine lv_iload_n hx hb d_Field_init_82 rfl (lv_at hl 1 rfl) ?_
      refine lv_sipush (v := (256 : Int32)) hx hb d_Field_init_83 (by decide) ?_
      refine z_if hm (lv_icmp_ge (tgt := 147) hx hb d_Field_init_86 (by decide)) (fun hm => ?_) (fun hm => ?_)
      · cases hm
        exact z_qo hQ (z_vretC (fun k => [qFd_powers, qFd_logs, qFd_otherForms, qFd_elements].getD k 0) hr hx hb hlocks hK hP hD hS d_Field_init_147)
      · refine lv_iconst (v := (0 : Int32)) hx hb d_Field_init_89 (by decide) ?_
        refine lv_istore_n (lv' := [(3, .int (0 : Int32)), (0, .ref qFd), (2, .int x2)]) hx hb d_Field_init_90 rfl hl (by decide) rfl (fun ls hl => ?_)
        refine lv_iconst (v := (0 : Int32)) hx hb d_Field_init_91 (by decide) ?_
        refine lv_istore (lv' := [(4, .int (0 : Int32)), (3, .int (0 : Int32)), (0, .ref qFd), (2, .int x2)]) hx hb d_Field_init_92 hl (by decide) rfl (fun ls hl => ?_)
        exact T94 10000 x2 (0 : Int32) (0 : Int32) Fd_powers Fd_logs Fd_otherForms Fd_elements hm _ _ hP hD hS _ (lv_sub hl [2, 3, 1, 0] rfl)
  have T80 : ∀ (Fd_powers : Nat → Int32) (Fd_logs : Nat → Int32) (Fd_otherForms : Nat → Int32) (Fd_elements : Nat → Int32), f_Field_init_80 Fd_powers Fd_logs Fd_otherForms Fd_elements = some (Fd_powers', Fd_logs', Fd_otherForms', Fd_elements') → ∀ (H : Heap) (locs : List Loc), va_P D classes ([(qFd, .inr (2, [.ref qFd_powers, .ref qFd_logs, .ref qFd_otherForms, .ref qFd_elements])), (qFd_powers, .inl (cI, 255, .inl Fd_powers)), (qFd_logs, .inl (cI, 256, .inl Fd_logs)), (qFd_otherForms, .inl (cI, 256, .inl Fd_otherForms)), (qFd_elements, .inl (cI, 256, .inl Fd_elements))]) H → va_D A ([(qFd, .inr (2, [.ref qFd_powers, .ref qFd_logs, .ref qFd_otherForms, .ref qFd_elements])), (qFd_powers, .inl (cI, 255, .inl Fd_powers)), (qFd_logs, .inl (cI, 256, .inl Fd_logs)), (qFd_otherForms, .inl (cI, 256, .inl Fd_otherForms)), (qFd_elements, .inl (cI, 256, .inl Fd_elements))]) → va_S A s.heap H locs → ∀ (ls : Array Slot), lv_has ls 5 [(0, .ref qFd)] → W p l e (RC 1 4 1023 22) s m args below meth c H locs 4 1023 Q0 (F0 m 80 ls []) := by
    intro Fd_powers Fd_logs Fd_otherForms Fd_elements hm H locs hP hD hS ls hl
    unfold f_Field_init_80 at hm
    refine lv_iconst (v := (0 : Int32)) hx hb d_Field_init_80 (by decide) ?_
    refine lv_istore_n (lv' := [(2, .int (0 : Int32)), (0, .ref qFd)]) hx hb d_Field_init_81 rfl hl (by decide) rfl (fun ls hl => ?_)
    exact T82 10000 (0 : Int32) Fd_powers Fd_logs Fd_otherForms Fd_elements hm _ _ hP hD hS _ (lv_sub hl [1, 0] rfl)
  have T44 : ∀ (n44 : Nat) (x1 : Int32) (x2 : Int32) (Fd_powers : Nat → Int32) (Fd_logs : Nat → Int32) (Fd_otherForms : Nat → Int32) (Fd_elements : Nat → Int32), f_Field_init_44 n44 x1 x2 Fd_powers Fd_logs Fd_otherForms Fd_elements = some (Fd_powers', Fd_logs', Fd_otherForms', Fd_elements') → ∀ (H : Heap) (locs : List Loc), va_P D classes ([(qFd, .inr (2, [.ref qFd_powers, .ref qFd_logs, .ref qFd_otherForms, .ref qFd_elements])), (qFd_powers, .inl (cI, 255, .inl Fd_powers)), (qFd_logs, .inl (cI, 256, .inl Fd_logs)), (qFd_otherForms, .inl (cI, 256, .inl Fd_otherForms)), (qFd_elements, .inl (cI, 256, .inl Fd_elements))]) H → va_D A ([(qFd, .inr (2, [.ref qFd_powers, .ref qFd_logs, .ref qFd_otherForms, .ref qFd_elements])), (qFd_powers, .inl (cI, 255, .inl Fd_powers)), (qFd_logs, .inl (cI, 256, .inl Fd_logs)), (qFd_otherForms, .inl (cI, 256, .inl Fd_otherForms)), (qFd_elements, .inl (cI, 256, .inl Fd_elements))]) → va_S A s.heap H locs → ∀ (ls : Array Slot), lv_has ls 5 [(0, .ref qFd), (1, .int x1), (2, .int x2)] → W p l e (RC 1 4 1023 22) s m args below meth c H locs 4 1023 Q0 (F0 m 44 ls []) := by
    intro n44
    induction n44 with
    | zero => intro x1 x2 Fd_powers Fd_logs Fd_otherForms Fd_elements hm; cases hm
    | succ n44 ih44 =>
      intro x1 x2 Fd_powers Fd_logs Fd_otherForms Fd_elements hm H locs hP hD hS ls hl
      replace hm : f_Field_init_44_b (f_Field_init_44 n44) x1 x2 Fd_powers Fd_logs Fd_otherForms Fd_elements = some (Fd_powers', Fd_logs', Fd_otherForms', Fd_elements') := hm
      unfold f_Field_init_44_b at hm
      refine lv_iload_n hx hb d_Field_init_44 rfl (lv_at hl 2 rfl) ?_
      refine lv_sipush (v := (255 : Int32)) hx hb d_Field_init_45 (by decide) ?_
      refine z_if hm (lv_icmp_ge (tgt := 80) hx hb d_Field_init_48 (by decide)) (fun hm => ?_) (fun hm => ?_)
      · exact T80 Fd_powers Fd_logs Fd_otherForms Fd_elements hm _ _ hP hD hS _ (lv_sub hl [0] rfl)
      · refine lv_aload_n hx hb d_Field_init_51 rfl (lv_at hl 0 rfl) ?_
        refine va_get (D := D) (ci := 2) (v := .ref qFd_powers) (C := "DeepChannel$Field") (T := fT_Field) (N := 4) hx hb hts u_Field hown hK hP 0 rfl rfl 0 (by decide) (hts _ k_110) (fun _ h9 => h9) rfl d_Field_init_52 ?_
        refine lv_iload_n hx hb d_Field_init_55 rfl (lv_at hl 2 rfl) ?_
        refine lv_iload_n hx hb d_Field_init_56 rfl (lv_at hl 1 rfl) ?_
        refine z_iast hm hx hb hK hP hD hS 1 rfl d_Field_init_57 (fun g7 hm H locs hP hD hS => ?_)
        have hP : va_P D classes ([(qFd, .inr (2, [.ref qFd_powers, .ref qFd_logs, .ref qFd_otherForms, .ref qFd_elements])), (qFd_powers, .inl (cI, 255, .inl g7)), (qFd_logs, .inl (cI, 256, .inl Fd_logs)), (qFd_otherForms, .inl (cI, 256, .inl Fd_otherForms)), (qFd_elements, .inl (cI, 256, .inl Fd_elements))]) H := hP
        have hD : va_D A ([(qFd, .inr (2, [.ref qFd_powers, .ref qFd_logs, .ref qFd_otherForms, .ref qFd_elements])), (qFd_powers, .inl (cI, 255, .inl g7)), (qFd_logs, .inl (cI, 256, .inl Fd_logs)), (qFd_otherForms, .inl (cI, 256, .inl Fd_otherForms)), (qFd_elements, .inl (cI, 256, .inl Fd_elements))]) := hD
        refine lv_aload_n hx hb d_Field_init_58 rfl (lv_at hl 0 rfl) ?_
        refine va_get (D := D) (ci := 2) (v := .ref qFd_logs) (C := "DeepChannel$Field") (T := fT_Field) (N := 4) hx hb hts u_Field hown hK hP 0 rfl rfl 1 (by decide) (hts _ k_111) (fun _ h9 => h9) rfl d_Field_init_59 ?_
        refine lv_iload_n hx hb d_Field_init_62 rfl (lv_at hl 1 rfl) ?_
        refine lv_sipush (v := (255 : Int32)) hx hb d_Field_init_63 (by decide) ?_
        refine lv_iand hx hb d_Field_init_66 ?_
        refine lv_iload_n hx hb d_Field_init_67 rfl (lv_at hl 2 rfl) ?_
        refine z_iast hm hx hb hK hP hD hS 2 rfl d_Field_init_68 (fun g8 hm H locs hP hD hS => ?_)
        have hP : va_P D classes ([(qFd, .inr (2, [.ref qFd_powers, .ref qFd_logs, .ref qFd_otherForms, .ref qFd_elements])), (qFd_powers, .inl (cI, 255, .inl g7)), (qFd_logs, .inl (cI, 256, .inl g8)), (qFd_otherForms, .inl (cI, 256, .inl Fd_otherForms)), (qFd_elements, .inl (cI, 256, .inl Fd_elements))]) H := hP
        have hD : va_D A ([(qFd, .inr (2, [.ref qFd_powers, .ref qFd_logs, .ref qFd_otherForms, .ref qFd_elements])), (qFd_powers, .inl (cI, 255, .inl g7)), (qFd_logs, .inl (cI, 256, .inl g8)), (qFd_otherForms, .inl (cI, 256, .inl Fd_otherForms)), (qFd_elements, .inl (cI, 256, .inl Fd_elements))]) := hD
        refine lv_iload_n hx hb d_Field_init_69 rfl (lv_at hl 1 rfl) ?_
        obtain ⟨r9, hu, hm⟩ := bd_el hm
        replace hm := nm_1 hm
        refine z_cSi (wc := w_Field_timesG) (wc' := w_Field_timesG) (wr := [(qFd, .inr (2, [.ref qFd_powers, .ref qFd_logs, .ref qFd_otherForms, .ref qFd_elements])), (qFd_powers, .inl (cI, 255, .inl g7)), (qFd_logs, .inl (cI, 256, .inl g8)), (qFd_otherForms, .inl (cI, 256, .inl Fd_otherForms)), (qFd_elements, .inl (cI, 256, .inl Fd_elements))]) (As := [.int x1]) (rest := []) (c_Field_timesG l D cI cJ tt _ x1 r9 hu) F ok_Field_timesG k_105 hK hE hP hD hS hA [] [0, 1, 2, 3, 4] rfl rfl (by decide) (by decide) (by decide) ⟨rfl, rfl, Nat.le_of_ble_eq_true rfl, Nat.le_of_ble_eq_true rfl⟩ ⟨Nat.le_of_ble_eq_true rfl, Nat.le_of_ble_eq_true rfl⟩ rfl hl.1 rfl (Nat.le_of_ble_eq_true rfl) d_Field_init_70 (fun H locs hP hD hS => ?_)
        have hP : va_P D classes ([(qFd, .inr (2, [.ref qFd_powers, .ref qFd_logs, .ref qFd_otherForms, .ref qFd_elements])), (qFd_powers, .inl (cI, 255, .inl g7)), (qFd_logs, .inl (cI, 256, .inl g8)), (qFd_otherForms, .inl (cI, 256, .inl Fd_otherForms)), (qFd_elements, .inl (cI, 256, .inl Fd_elements))]) H := hP.sub [0, 1, 2, 3, 4] rfl
        have hD : va_D A ([(qFd, .inr (2, [.ref qFd_powers, .ref qFd_logs, .ref qFd_otherForms, .ref qFd_elements])), (qFd_powers, .inl (cI, 255, .inl g7)), (qFd_logs, .inl (cI, 256, .inl g8)), (qFd_otherForms, .inl (cI, 256, .inl Fd_otherForms)), (qFd_elements, .inl (cI, 256, .inl Fd_elements))]) := hD.sub [0, 1, 2, 3, 4] (by decide) rfl
        refine lv_istore_n (lv' := [(1, .int r9), (0, .ref qFd), (2, .int x2)]) hx hb d_Field_init_73 rfl hl (by decide) rfl (fun ls hl => ?_)
        obtain ⟨v11, ev, hm⟩ := nm_el hm
        refine lv_iinc (v := v11) (lv' := [(2, .int v11), (1, .int r9), (0, .ref qFd)]) hx hb d_Field_init_74 hl (k := 2) rfl (by rw [ev]; rfl) (by decide) rfl (fun ls hl => ?_)
        refine lv_goto (tgt := 44) hx hb d_Field_init_77 (by decide) ?_
        exact ih44 r9 v11 g7 g8 Fd_otherForms Fd_elements hm _ _ hP hD hS _ (lv_sub hl [2, 1, 0] rfl)
  exact T44 10000 (1 : Int32) (0 : Int32) (fun _ => (0 : Int32)) (fun _ => (0 : Int32)) (fun _ => (0 : Int32)) (fun _ => (0 : Int32)) hm _ _ hP hD hS _ (lv_sub hl [2, 1, 0] rfl)
