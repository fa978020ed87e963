-- DeepChannel$Words.prepare()V
abbrev b_Words_prepare : ByteArray := prog_11_method_2_code
abbrev y_Words_prepare : MethodName := ⟨"DeepChannel$Words", "prepare", "()V"⟩
theorem d_Words_prepare_0 : decode b_Words_prepare 0 = .ok (.iconst 2, 1) := by decide +kernel
theorem d_Words_prepare_1 : decode b_Words_prepare 1 = .ok (.aload_n 0, 1) := by decide +kernel
theorem d_Words_prepare_2 : decode b_Words_prepare 2 = .ok (.getfield 24, 3) := by decide +kernel
theorem d_Words_prepare_5 : decode b_Words_prepare 5 = .ok (.getfield 44, 3) := by decide +kernel
theorem d_Words_prepare_8 : decode b_Words_prepare 8 = .ok (.imul, 1) := by decide +kernel
theorem d_Words_prepare_9 : decode b_Words_prepare 9 = .ok (.istore_n 1, 1) := by decide +kernel
theorem d_Words_prepare_10 : decode b_Words_prepare 10 = .ok (.aload_n 0, 1) := by decide +kernel
theorem d_Words_prepare_11 : decode b_Words_prepare 11 = .ok (.getfield 9, 3) := by decide +kernel
theorem d_Words_prepare_14 : decode b_Words_prepare 14 = .ok (.iconst 0, 1) := by decide +kernel
theorem d_Words_prepare_15 : decode b_Words_prepare 15 = .ok (.invokestatic 50, 3) := by decide +kernel
theorem d_Words_prepare_18 : decode b_Words_prepare 18 = .ok (.aload_n 0, 1) := by decide +kernel
theorem d_Words_prepare_19 : decode b_Words_prepare 19 = .ok (.getfield 9, 3) := by decide +kernel
theorem d_Words_prepare_22 : decode b_Words_prepare 22 = .ok (.iconst 0, 1) := by decide +kernel
theorem d_Words_prepare_23 : decode b_Words_prepare 23 = .ok (.iconst 1, 1) := by decide +kernel
theorem d_Words_prepare_24 : decode b_Words_prepare 24 = .ok (.iastore, 1) := by decide +kernel
theorem d_Words_prepare_25 : decode b_Words_prepare 25 = .ok (.iconst 0, 1) := by decide +kernel
theorem d_Words_prepare_26 : decode b_Words_prepare 26 = .ok (.istore_n 2, 1) := by decide +kernel
theorem d_Words_prepare_27 : decode b_Words_prepare 27 = .ok (.iload_n 2, 1) := by decide +kernel
theorem d_Words_prepare_28 : decode b_Words_prepare 28 = .ok (.iload_n 1, 1) := by decide +kernel
theorem d_Words_prepare_29 : decode b_Words_prepare 29 = .ok (.if_icmp .ge 98, 3) := by decide +kernel
theorem d_Words_prepare_32 : decode b_Words_prepare 32 = .ok (.aload_n 0, 1) := by decide +kernel
theorem d_Words_prepare_33 : decode b_Words_prepare 33 = .ok (.getfield 28, 3) := by decide +kernel
theorem d_Words_prepare_36 : decode b_Words_prepare 36 = .ok (.sipush 128, 3) := by decide +kernel
theorem d_Words_prepare_39 : decode b_Words_prepare 39 = .ok (.aload_n 0, 1) := by decide +kernel
theorem d_Words_prepare_40 : decode b_Words_prepare 40 = .ok (.getfield 24, 3) := by decide +kernel
theorem d_Words_prepare_43 : decode b_Words_prepare 43 = .ok (.getfield 44, 3) := by decide +kernel
theorem d_Words_prepare_46 : decode b_Words_prepare 46 = .ok (.isub, 1) := by decide +kernel
theorem d_Words_prepare_47 : decode b_Words_prepare 47 = .ok (.iload_n 2, 1) := by decide +kernel
theorem d_Words_prepare_48 : decode b_Words_prepare 48 = .ok (.iadd, 1) := by decide +kernel
theorem d_Words_prepare_49 : decode b_Words_prepare 49 = .ok (.invokevirtual 56, 3) := by decide +kernel
theorem d_Words_prepare_52 : decode b_Words_prepare 52 = .ok (.istore_n 3, 1) := by decide +kernel
theorem d_Words_prepare_53 : decode b_Words_prepare 53 = .ok (.iload_n 2, 1) := by decide +kernel
theorem d_Words_prepare_54 : decode b_Words_prepare 54 = .ok (.iconst 1, 1) := by decide +kernel
theorem d_Words_prepare_55 : decode b_Words_prepare 55 = .ok (.iadd, 1) := by decide +kernel
theorem d_Words_prepare_56 : decode b_Words_prepare 56 = .ok (.istore 4, 2) := by decide +kernel
theorem d_Words_prepare_58 : decode b_Words_prepare 58 = .ok (.iload 4, 2) := by decide +kernel
theorem d_Words_prepare_60 : decode b_Words_prepare 60 = .ok (.ifCond .le 41, 3) := by decide +kernel
theorem d_Words_prepare_63 : decode b_Words_prepare 63 = .ok (.aload_n 0, 1) := by decide +kernel
theorem d_Words_prepare_64 : decode b_Words_prepare 64 = .ok (.getfield 9, 3) := by decide +kernel
theorem d_Words_prepare_67 : decode b_Words_prepare 67 = .ok (.iload 4, 2) := by decide +kernel
theorem d_Words_prepare_69 : decode b_Words_prepare 69 = .ok (.aload_n 0, 1) := by decide +kernel
theorem d_Words_prepare_70 : decode b_Words_prepare 70 = .ok (.getfield 9, 3) := by decide +kernel
theorem d_Words_prepare_73 : decode b_Words_prepare 73 = .ok (.iload 4, 2) := by decide +kernel
theorem d_Words_prepare_75 : decode b_Words_prepare 75 = .ok (.iconst 1, 1) := by decide +kernel
theorem d_Words_prepare_76 : decode b_Words_prepare 76 = .ok (.isub, 1) := by decide +kernel
theorem d_Words_prepare_77 : decode b_Words_prepare 77 = .ok (.iaload, 1) := by decide +kernel
theorem d_Words_prepare_78 : decode b_Words_prepare 78 = .ok (.aload_n 0, 1) := by decide +kernel
theorem d_Words_prepare_79 : decode b_Words_prepare 79 = .ok (.getfield 28, 3) := by decide +kernel
theorem d_Words_prepare_82 : decode b_Words_prepare 82 = .ok (.aload_n 0, 1) := by decide +kernel
theorem d_Words_prepare_83 : decode b_Words_prepare 83 = .ok (.getfield 9, 3) := by decide +kernel
theorem d_Words_prepare_86 : decode b_Words_prepare 86 = .ok (.iload 4, 2) := by decide +kernel
theorem d_Words_prepare_88 : decode b_Words_prepare 88 = .ok (.iaload, 1) := by decide +kernel
theorem d_Words_prepare_89 : decode b_Words_prepare 89 = .ok (.iload_n 3, 1) := by decide +kernel
theorem d_Words_prepare_90 : decode b_Words_prepare 90 = .ok (.invokevirtual 62, 3) := by decide +kernel
theorem d_Words_prepare_93 : decode b_Words_prepare 93 = .ok (.ixor, 1) := by decide +kernel
theorem d_Words_prepare_94 : decode b_Words_prepare 94 = .ok (.iastore, 1) := by decide +kernel
theorem d_Words_prepare_95 : decode b_Words_prepare 95 = .ok (.iinc 4 (-1), 3) := by decide +kernel
theorem d_Words_prepare_98 : decode b_Words_prepare 98 = .ok (.goto (-40), 3) := by decide +kernel
theorem d_Words_prepare_101 : decode b_Words_prepare 101 = .ok (.aload_n 0, 1) := by decide +kernel
theorem d_Words_prepare_102 : decode b_Words_prepare 102 = .ok (.getfield 9, 3) := by decide +kernel
theorem d_Words_prepare_105 : decode b_Words_prepare 105 = .ok (.iconst 0, 1) := by decide +kernel
theorem d_Words_prepare_106 : decode b_Words_prepare 106 = .ok (.aload_n 0, 1) := by decide +kernel
theorem d_Words_prepare_107 : decode b_Words_prepare 107 = .ok (.getfield 28, 3) := by decide +kernel
theorem d_Words_prepare_110 : decode b_Words_prepare 110 = .ok (.aload_n 0, 1) := by decide +kernel
theorem d_Words_prepare_111 : decode b_Words_prepare 111 = .ok (.getfield 9, 3) := by decide +kernel
theorem d_Words_prepare_114 : decode b_Words_prepare 114 = .ok (.iconst 0, 1) := by decide +kernel
theorem d_Words_prepare_115 : decode b_Words_prepare 115 = .ok (.iaload, 1) := by decide +kernel
theorem d_Words_prepare_116 : decode b_Words_prepare 116 = .ok (.iload_n 3, 1) := by decide +kernel
theorem d_Words_prepare_117 : decode b_Words_prepare 117 = .ok (.invokevirtual 62, 3) := by decide +kernel
theorem d_Words_prepare_120 : decode b_Words_prepare 120 = .ok (.iastore, 1) := by decide +kernel
theorem d_Words_prepare_121 : decode b_Words_prepare 121 = .ok (.iinc 2 1, 3) := by decide +kernel
theorem d_Words_prepare_124 : decode b_Words_prepare 124 = .ok (.goto (-97), 3) := by decide +kernel
theorem d_Words_prepare_127 : decode b_Words_prepare 127 = .ok (.return_, 1) := by decide +kernel
theorem ok_Words_prepare : OKv y_Words_prepare b_Words_prepare 5 none "DeepChannel$Words" 0 := ⟨k_156, k_154, k_155, k_44, by decide +kernel, by decide +kernel, by decide +kernel⟩
abbrev w_Words_prepare (cI cJ : ClassId) (qWd qSh qWd_generator qFd qFd_powers qFd_logs : Nat) (Wd_remainder Wd_coefficients Wd_syndromes Wd_locator Sh_depth Sh_wordBytes Sh_pattern Fd_otherForms Fd_elements : Value) (Sh_e : Int32) (Wd_generator : Nat → Int32) (Fd_powers : Nat → Int32) (Fd_logs : Nat → Int32) : va_W := [(qWd, .inr (9, [.ref qSh, .ref qFd, .ref qWd_generator, Wd_remainder, Wd_coefficients, Wd_syndromes, Wd_locator])), (qSh, .inr (8, [Sh_depth, Sh_wordBytes, .int Sh_e, Sh_pattern])), (qWd_generator, .inl (cI, 33, .inl Wd_generator)), (qFd, .inr (2, [.ref qFd_powers, .ref qFd_logs, Fd_otherForms, Fd_elements])), (qFd_powers, .inl (cI, 255, .inl Fd_powers)), (qFd_logs, .inl (cI, 256, .inl Fd_logs))]
def f_Words_prepare_101 (Fd_powers : Nat → Int32) (Fd_logs : Nat → Int32) (kh27 : Int32 → Int32 → (Nat → Int32) → Option ((Nat → Int32))) (x1 : Int32) (x2 : Int32) (x3 : Int32) (Wd_generator : Nat → Int32) : Option ((Nat → Int32)) :=
  rdI Wd_generator 33 (0 : Int32) fun v1 =>
  bd (f_Field_product Fd_logs Fd_powers v1 x3) fun u3 =>
  nm u3 fun r2 =>
  wrI Wd_generator 33 (0 : Int32) r2 fun g4 =>
  nm (x2 + (1 : Int32)) fun v5 =>
  kh27 x1 v5 g4
def f_Words_prepare_58_b (Fd_powers : Nat → Int32) (Fd_logs : Nat → Int32) (kh27 : Int32 → Int32 → (Nat → Int32) → Option ((Nat → Int32))) (kh58 : Int32 → Int32 → Int32 → Int32 → (Nat → Int32) → Option ((Nat → Int32))) (x1 : Int32) (x2 : Int32) (x3 : Int32) (x4 : Int32) (Wd_generator : Nat → Int32) : Option ((Nat → Int32)) :=
  if x4 ≤ 0 then
    f_Words_prepare_101 Fd_powers Fd_logs kh27 x1 x2 x3 Wd_generator
  else
  rdI Wd_generator 33 (x4 - (1 : Int32)) fun v6 =>
  rdI Wd_generator 33 x4 fun v7 =>
  bd (f_Field_product Fd_logs Fd_powers v7 x3) fun u9 =>
  nm u9 fun r8 =>
  wrI Wd_generator 33 x4 (v6 ^^^ r8) fun g10 =>
  nm (x4 + (-1 : Int32)) fun v11 =>
  kh58 x1 x2 x3 v11 g10
def f_Words_prepare_58 (Fd_powers : Nat → Int32) (Fd_logs : Nat → Int32) (kh27 : Int32 → Int32 → (Nat → Int32) → Option ((Nat → Int32))) : Nat → Int32 → Int32 → Int32 → Int32 → (Nat → Int32) → Option ((Nat → Int32))
  | 0 => fun _ _ _ _ _ => none
  | n + 1 => fun x1 x2 x3 x4 Wd_generator => f_Words_prepare_58_b Fd_powers Fd_logs kh27 (f_Words_prepare_58 Fd_powers Fd_logs kh27 n) x1 x2 x3 x4 Wd_generator
def f_Words_prepare_27_b (Sh_e : Int32) (Fd_powers : Nat → Int32) (Fd_logs : Nat → Int32) (kh27 : Int32 → Int32 → (Nat → Int32) → Option ((Nat → Int32))) (x1 : Int32) (x2 : Int32) (Wd_generator : Nat → Int32) : Option ((Nat → Int32)) :=
  if x1 ≤ x2 then
    some Wd_generator
  else
  bd (f_Field_powerOfG Fd_powers (((128 : Int32) - Sh_e) + x2)) fun u13 =>
  nm u13 fun r12 =>
  nm (x2 + (1 : Int32)) fun v14 =>
  f_Words_prepare_58 Fd_powers Fd_logs kh27 10000 x1 x2 r12 v14 Wd_generator
def f_Words_prepare_27 (Sh_e : Int32) (Fd_powers : Nat → Int32) (Fd_logs : Nat → Int32) : Nat → Int32 → Int32 → (Nat → Int32) → Option ((Nat → Int32))
  | 0 => fun _ _ _ => none
  | n + 1 => fun x1 x2 Wd_generator => f_Words_prepare_27_b Sh_e Fd_powers Fd_logs (f_Words_prepare_27 Sh_e Fd_powers Fd_logs n) x1 x2 Wd_generator
def f_Words_prepare (Sh_e : Int32) (Wd_generator : Nat → Int32) (Fd_powers : Nat → Int32) (Fd_logs : Nat → Int32) : Option ((Nat → Int32)) :=
  nm ((2 : Int32) * Sh_e) fun v15 =>
  bd (f_Arrays_fillI Wd_generator 33 (0 : Int32)) fun u17 =>
  nm u17 fun g16 =>
  wrI g16 33 (0 : Int32) (1 : Int32) fun g18 =>
  f_Words_prepare_27 Sh_e Fd_powers Fd_logs 10000 v15 (0 : Int32) g18
set_option maxHeartbeats 4000000 in
set_option maxRecDepth 100000 in
theorem c_Words_prepare (l : Launch) (D : va_G) (cI cJ : ClassId) (tt : Nat → Nat) (qWd qSh qWd_generator qFd qFd_powers qFd_logs : Nat) (Wd_remainder Wd_coefficients Wd_syndromes Wd_locator Sh_depth Sh_wordBytes Sh_pattern Fd_otherForms Fd_elements : Value) (sz : Nat) (Sh_e : Int32) (Wd_generator : Nat → Int32) (Fd_powers : Nat → Int32) (Fd_logs : Nat → Int32) (Wd_generator' : Nat → Int32) (hm : f_Words_prepare Sh_e Wd_generator Fd_powers Fd_logs = some Wd_generator') : CTv l y_Words_prepare b_Words_prepare 5 none (RM 1 23) D cI cJ tt [.ref qWd] (w_Words_prepare cI cJ qWd qSh qWd_generator qFd qFd_powers qFd_logs Wd_remainder Wd_coefficients Wd_syndromes Wd_locator Sh_depth Sh_wordBytes Sh_pattern Fd_otherForms Fd_elements Sh_e Wd_generator Fd_powers Fd_logs) (w_Words_prepare cI cJ qWd qSh qWd_generator qFd qFd_powers qFd_logs Wd_remainder Wd_coefficients Wd_syndromes Wd_locator Sh_depth Sh_wordBytes Sh_pattern Fd_otherForms Fd_elements Sh_e Wd_generator' Fd_powers Fd_logs) sz := by
  refine Met.ofW (cc := b_Words_prepare) (maxL := 5) (ret := none) (by decide) rfl ?_
  intro p e s m args below meth c s₁ B hml hv
  obtain ⟨hargs, hsz, hP, hK, hD0, hE⟩ := hv
  have hx := B.exec
  have hb := B.bytes
  have hr := B.returns
  have hts : ∀ w ∈ TB, w.before args s = true := z_mV s (atoms_spec (ws := WD y_Words_prepare b_Words_prepare 5 none) B.pre)
  have hown : s.vm.findClass "DeepChannel$Words" = some m.cls := findClass_of_methodNamed B.named
  have hlocks := B.notSynchronized
  subst hsz
  have hD := hD0.self (sz := s.heap.size)
  generalize hAe : va_A (w_Words_prepare cI cJ qWd qSh qWd_generator qFd qFd_powers qFd_logs Wd_remainder Wd_coefficients Wd_syndromes Wd_locator Sh_depth Sh_wordBytes Sh_pattern Fd_otherForms Fd_elements Sh_e Wd_generator Fd_powers Fd_logs) s.heap.size = A at hD hE ⊢
  have hA : ∀ q : Nat, s.heap.size ≤ q → A q := fun q h => by rw [← hAe]; exact Or.inr h
  have hS : va_S A s.heap s.heap [] := va_S.rf
  refine z_entry (vs := [.ref qWd]) hargs (Nat.le_of_ble_eq_true rfl) (fun ls hl => ?_)
  have hl : lv_has ls 5 [(0, .ref qWd)] := hl
  show W p l e (RM 1 23) s m args below meth c s.heap [] 0 0 _ _
  refine z_qi (fun Q0 hQ => ?_)
  have F : CallFix p m c b_Words_prepare 5 s args TB "DeepChannel$Words" := ⟨hx, hb, hml, hown, hts⟩
  have T27 : ∀ (n27 : Nat) (x1 : Int32) (x2 : Int32) (Wd_generator : Nat → Int32), f_Words_prepare_27 Sh_e Fd_powers Fd_logs n27 x1 x2 Wd_generator = some Wd_generator' → ∀ (H : Heap) (locs : List Loc), va_P D classes (w_Words_prepare cI cJ qWd qSh qWd_generator qFd qFd_powers qFd_logs Wd_remainder Wd_coefficients Wd_syndromes Wd_locator Sh_depth Sh_wordBytes Sh_pattern Fd_otherForms Fd_elements Sh_e Wd_generator Fd_powers Fd_logs) H → va_D A (w_Words_prepare cI cJ qWd qSh qWd_generator qFd qFd_powers qFd_logs Wd_remainder Wd_coefficients Wd_syndromes Wd_locator Sh_depth Sh_wordBytes Sh_pattern Fd_otherForms Fd_elements Sh_e Wd_generator Fd_powers Fd_logs) → va_S A s.heap H locs → ∀ (ls : Array Slot), lv_has ls 5 [(0, .ref qWd), (1, .int x1), (2, .int x2)] → W p l e (RM 1 23) s m args below meth c H locs 0 0 Q0 (F0 m 27 ls []) := by
    intro n27
    induction n27 with
    | zero => intro x1 x2 Wd_generator hm; cases hm
    | succ n27 ih27 =>
      have T101 : ∀ (x1 : Int32) (x2 : Int32) (x3 : Int32) (Wd_generator : Nat → Int32), f_Words_prepare_101 Fd_powers Fd_logs (f_Words_prepare_27 Sh_e Fd_powers Fd_logs n27) x1 x2 x3 Wd_generator = some Wd_generator' → ∀ (H : Heap) (locs : List Loc), va_P D classes (w_Words_prepare cI cJ qWd qSh qWd_generator qFd qFd_powers qFd_logs Wd_remainder Wd_coefficients Wd_syndromes Wd_locator Sh_depth Sh_wordBytes Sh_pattern Fd_otherForms Fd_elements Sh_e Wd_generator Fd_powers Fd_logs) H → va_D A (w_Words_prepare cI cJ qWd qSh qWd_generator qFd qFd_powers qFd_logs Wd_remainder Wd_coefficients Wd_syndromes Wd_locator Sh_depth Sh_wordBytes Sh_pattern Fd_otherForms Fd_elements Sh_e Wd_generator Fd_powers Fd_logs) → va_S A s.heap H locs → ∀ (ls : Array Slot), lv_has ls 5 [(0, .ref qWd), (1, .int x1), (2, .int x2), (3, .int x3)] → W p l e (RM 1 23) s m args below meth c H locs 0 0 Q0 (F0 m 101 ls []) := by
        intro x1 x2 x3 Wd_generator hm H locs hP hD hS ls hl
        unfold f_Words_prepare_101 at hm
        refine lv_aload_n hx hb d_Words_prepare_101 rfl (lv_at hl 0 rfl) ?_
        refine va_get (D := D) (ci := 9) (v := .ref qWd_generator) (C := "DeepChannel$Words") (T := fT_Words) (N := 7) hx hb hts u_Words hown hK hP 0 rfl rfl 2 (by decide) (hts _ k_170) (fun _ h9 => h9) rfl d_Words_prepare_102 ?_
        refine lv_iconst (v := (0 : Int32)) hx hb d_Words_prepare_105 (by decide) ?_
        refine lv_aload_n hx hb d_Words_prepare_106 rfl (lv_at hl 0 rfl) ?_
        refine va_get (D := D) (ci := 9) (v := .ref qFd) (C := "DeepChannel$Words") (T := fT_Words) (N := 7) hx hb hts u_Words hown hK hP 0 rfl rfl 1 (by decide) (hts _ k_169) (fun _ h9 => h9) rfl d_Words_prepare_107 ?_
        refine lv_aload_n hx hb d_Words_prepare_110 rfl (lv_at hl 0 rfl) ?_
        refine va_get (D := D) (ci := 9) (v := .ref qWd_generator) (C := "DeepChannel$Words") (T := fT_Words) (N := 7) hx hb hts u_Words hown hK hP 0 rfl rfl 2 (by decide) (hts _ k_170) (fun _ h9 => h9) rfl d_Words_prepare_111 ?_
        refine lv_iconst (v := (0 : Int32)) hx hb d_Words_prepare_114 (by decide) ?_
        refine z_iald hm hx hb hK hP 2 rfl d_Words_prepare_115 (fun v1 hm => ?_)
        refine lv_iload_n hx hb d_Words_prepare_116 rfl (lv_at hl 3 rfl) ?_
        obtain ⟨r2, hu, hm⟩ := bd_el hm
        replace hm := nm_1 hm
        refine z_cVi (wc := w_Field_product cI cJ qFd qFd_logs qFd_powers Fd_otherForms Fd_elements Fd_logs Fd_powers) (wc' := w_Field_product cI cJ qFd qFd_logs qFd_powers Fd_otherForms Fd_elements Fd_logs Fd_powers) (wr := [(qWd, .inr (9, [.ref qSh, .ref qFd, .ref qWd_generator, Wd_remainder, Wd_coefficients, Wd_syndromes, Wd_locator])), (qSh, .inr (8, [Sh_depth, Sh_wordBytes, .int Sh_e, Sh_pattern])), (qWd_generator, .inl (cI, 33, .inl Wd_generator))]) (As := [.int v1, .int x3]) (rest := [.int (0 : Int32), .ref qWd_generator]) (c_Field_product l D cI cJ tt qFd qFd_logs qFd_powers Fd_otherForms Fd_elements _ Fd_logs Fd_powers v1 x3 r2 hu) F ok_Field_product rfl k_164 hK hE hP hD hS hA [3, 5, 4] [0, 1, 2] rfl rfl (by decide) (by decide) (by decide) 0 rfl rfl rfl ⟨rfl, rfl, Nat.le_of_ble_eq_true rfl, Nat.le_of_ble_eq_true rfl⟩ ⟨Nat.zero_le _, Nat.zero_le _⟩ rfl hl.1 rfl (Nat.le_of_ble_eq_true rfl) d_Words_prepare_117 (fun H locs hP hD hS => ?_)
        have hP : va_P D classes (w_Words_prepare cI cJ qWd qSh qWd_generator qFd qFd_powers qFd_logs Wd_remainder Wd_coefficients Wd_syndromes Wd_locator Sh_depth Sh_wordBytes Sh_pattern Fd_otherForms Fd_elements Sh_e Wd_generator Fd_powers Fd_logs) H := hP.sub [0, 1, 2, 3, 5, 4] rfl
        have hD : va_D A (w_Words_prepare cI cJ qWd qSh qWd_generator qFd qFd_powers qFd_logs Wd_remainder Wd_coefficients Wd_syndromes Wd_locator Sh_depth Sh_wordBytes Sh_pattern Fd_otherForms Fd_elements Sh_e Wd_generator Fd_powers Fd_logs) := hD.sub [0, 1, 2, 3, 5, 4] (by decide) rfl
        refine z_iast hm hx hb hK hP hD hS 2 rfl d_Words_prepare_120 (fun g4 hm H locs hP hD hS => ?_)
        have hP : va_P D classes (w_Words_prepare cI cJ qWd qSh qWd_generator qFd qFd_powers qFd_logs Wd_remainder Wd_coefficients Wd_syndromes Wd_locator Sh_depth Sh_wordBytes Sh_pattern Fd_otherForms Fd_elements Sh_e g4 Fd_powers Fd_logs) H := hP
        have hD : va_D A (w_Words_prepare cI cJ qWd qSh qWd_generator qFd qFd_powers qFd_logs Wd_remainder Wd_coefficients Wd_syndromes Wd_locator Sh_depth Sh_wordBytes Sh_pattern Fd_otherForms Fd_elements Sh_e g4 Fd_powers Fd_logs) := hD
        obtain ⟨v5, ev, hm⟩ := nm_el hm
        refine lv_iinc (v := v5) (lv' := [(2, .int v5), (0, .ref qWd), (1, .int x1), (3, .int x3)]) hx hb d_Words_prepare_121 hl (k := 2) rfl (by rw [ev]; rfl) (by decide) rfl (fun ls hl => ?_)
        refine lv_goto (tgt := 27) hx hb d_Words_prepare_124 (by decide) ?_
        exact ih27 x1 v5 g4 hm _ _ hP hD hS _ (lv_sub hl [1, 2, 0] rfl)
      have T58 : ∀ (n58 : Nat) (x1 : Int32) (x2 : Int32) (x3 : Int32) (x4 : Int32) (Wd_generator : Nat → Int32), f_Words_prepare_58 Fd_powers Fd_logs (f_Words_prepare_27 Sh_e Fd_powers Fd_logs n27) n58 x1 x2 x3 x4 Wd_generator = some Wd_generator' → ∀ (H : Heap) (locs : List Loc), va_P D classes (w_Words_prepare cI cJ qWd qSh qWd_generator qFd qFd_powers qFd_logs Wd_remainder Wd_coefficients Wd_syndromes Wd_locator Sh_depth Sh_wordBytes Sh_pattern Fd_otherForms Fd_elements Sh_e Wd_generator Fd_powers Fd_logs) H → va_D A (w_Words_prepare cI cJ qWd qSh qWd_generator qFd qFd_powers qFd_logs Wd_remainder Wd_coefficients Wd_syndromes Wd_locator Sh_depth Sh_wordBytes Sh_pattern Fd_otherForms Fd_elements Sh_e Wd_generator Fd_powers Fd_logs) → va_S A s.heap H locs → ∀ (ls : Array Slot), lv_has ls 5 [(0, .ref qWd), (1, .int x1), (2, .int x2), (3, .int x3), (4, .int x4)] → W p l e (RM 1 23) s m args below meth c H locs 0 0 Q0 (F0 m 58 ls []) := by
        intro n58
        induction n58 with
        | zero => intro x1 x2 x3 x4 Wd_generator hm; cases hm
        | succ n58 ih58 =>
          intro x1 x2 x3 x4 Wd_generator hm H locs hP hD hS ls hl
          replace hm : f_Words_prepare_58_b Fd_powers Fd_logs (f_Words_prepare_27 Sh_e Fd_powers Fd_logs n27) (f_Words_prepare_58 Fd_powers Fd_logs (f_Words_prepare_27 Sh_e Fd_powers Fd_logs n27) n58) x1 x2 x3 x4 Wd_generator = some Wd_generator' := hm
          unfold f_Words_prepare_58_b at hm
          refine lv_iload hx hb d_Words_prepare_58 (lv_at hl 4 rfl) ?_
          refine z_if hm (lv_if_le (tgt := 101) hx hb d_Words_prepare_60 (by decide)) (fun hm => ?_) (fun hm => ?_)
          · exact T101 x1 x2 x3 Wd_generator hm _ _ hP hD hS _ (lv_sub hl [0, 1, 2, 3] rfl)
          · refine lv_aload_n hx hb d_Words_prepare_63 rfl (lv_at hl 0 rfl) ?_
            refine va_get (D := D) (ci := 9) (v := .ref qWd_generator) (C := "DeepChannel$Words") (T := fT_Words) (N := 7) hx hb hts u_Words hown hK hP 0 rfl rfl 2 (by decide) (hts _ k_170) (fun _ h9 => h9) rfl d_Words_prepare_64 ?_
            refine lv_iload hx hb d_Words_prepare_67 (lv_at hl 4 rfl) ?_
            refine lv_aload_n hx hb d_Words_prepare_69 rfl (lv_at hl 0 rfl) ?_
            refine va_get (D := D) (ci := 9) (v := .ref qWd_generator) (C := "DeepChannel$Words") (T := fT_Words) (N := 7) hx hb hts u_Words hown hK hP 0 rfl rfl 2 (by decide) (hts _ k_170) (fun _ h9 => h9) rfl d_Words_prepare_70 ?_
            refine lv_iload hx hb d_Words_prepare_73 (lv_at hl 4 rfl) ?_
            refine lv_iconst (v := (1 : Int32)) hx hb d_Words_prepare_75 (by decide) ?_
            refine lv_isub hx hb d_Words_prepare_76 ?_
            refine z_iald hm hx hb hK hP 2 rfl d_Words_prepare_77 (fun v6 hm => ?_)
            refine lv_aload_n hx hb d_Words_prepare_78 rfl (lv_at hl 0 rfl) ?_
            refine va_get (D := D) (ci := 9) (v := .ref qFd) (C := "DeepChannel$Words") (T := fT_Words) (N := 7) hx hb hts u_Words hown hK hP 0 rfl rfl 1 (by decide) (hts _ k_169) (fun _ h9 => h9) rfl d_Words_prepare_79 ?_
            refine lv_aload_n hx hb d_Words_prepare_82 rfl (lv_at hl 0 rfl) ?_
            refine va_get (D := D) (ci := 9) (v := .ref qWd_generator) (C := "DeepChannel$Words") (T := fT_Words) (N := 7) hx hb hts u_Words hown hK hP 0 rfl rfl 2 (by decide) (hts _ k_170) (fun _ h9 => h9) rfl d_Words_prepare_83 ?_
            refine lv_iload hx hb d_Words_prepare_86 (lv_at hl 4 rfl) ?_
            refine z_iald hm hx hb hK hP 2 rfl d_Words_prepare_88 (fun v7 hm => ?_)
            refine lv_iload_n hx hb d_Words_prepare_89 rfl (lv_at hl 3 rfl) ?_
            obtain ⟨r8, hu, hm⟩ := bd_el hm
            replace hm := nm_1 hm
            refine z_cVi (wc := w_Field_product cI cJ qFd qFd_logs qFd_powers Fd_otherForms Fd_elements Fd_logs Fd_powers) (wc' := w_Field_product cI cJ qFd qFd_logs qFd_powers Fd_otherForms Fd_elements Fd_logs Fd_powers) (wr := [(qWd, .inr (9, [.ref qSh, .ref qFd, .ref qWd_generator, Wd_remainder, Wd_coefficients, Wd_syndromes, Wd_locator])), (qSh, .inr (8, [Sh_depth, Sh_wordBytes, .int Sh_e, Sh_pattern])), (qWd_generator, .inl (cI, 33, .inl Wd_generator))]) (As := [.int v7, .int x3]) (rest := [.int v6, .int x4, .ref qWd_generator]) (c_Field_product l D cI cJ tt qFd qFd_logs qFd_powers Fd_otherForms Fd_elements _ Fd_logs Fd_powers v7 x3 r8 hu) F ok_Field_product rfl k_164 hK hE hP hD hS hA [3, 5, 4] [0, 1, 2] rfl rfl (by decide) (by decide) (by decide) 0 rfl rfl rfl ⟨rfl, rfl, Nat.le_of_ble_eq_true rfl, Nat.le_of_ble_eq_true rfl⟩ ⟨Nat.zero_le _, Nat.zero_le _⟩ rfl hl.1 rfl (Nat.le_of_ble_eq_true rfl) d_Words_prepare_90 (fun H locs hP hD hS => ?_)
            have hP : va_P D classes (w_Words_prepare cI cJ qWd qSh qWd_generator qFd qFd_powers qFd_logs Wd_remainder Wd_coefficients Wd_syndromes Wd_locator Sh_depth Sh_wordBytes Sh_pattern Fd_otherForms Fd_elements Sh_e Wd_generator Fd_powers Fd_logs) H := hP.sub [0, 1, 2, 3, 5, 4] rfl
            have hD : va_D A (w_Words_prepare cI cJ qWd qSh qWd_generator qFd qFd_powers qFd_logs Wd_remainder Wd_coefficients Wd_syndromes Wd_locator Sh_depth Sh_wordBytes Sh_pattern Fd_otherForms Fd_elements Sh_e Wd_generator Fd_powers Fd_logs) := hD.sub [0, 1, 2, 3, 5, 4] (by decide) rfl
            refine lv_ixor hx hb d_Words_prepare_93 ?_
            refine z_iast hm hx hb hK hP hD hS 2 rfl d_Words_prepare_94 (fun g10 hm H locs hP hD hS => ?_)
            have hP : va_P D classes (w_Words_prepare cI cJ qWd qSh qWd_generator qFd qFd_powers qFd_logs Wd_remainder Wd_coefficients Wd_syndromes Wd_locator Sh_depth Sh_wordBytes Sh_pattern Fd_otherForms Fd_elements Sh_e g10 Fd_powers Fd_logs) H := hP
            have hD : va_D A (w_Words_prepare cI cJ qWd qSh qWd_generator qFd qFd_powers qFd_logs Wd_remainder Wd_coefficients Wd_syndromes Wd_locator Sh_depth Sh_wordBytes Sh_pattern Fd_otherForms Fd_elements Sh_e g10 Fd_powers Fd_logs) := hD
            obtain ⟨v11, ev, hm⟩ := nm_el hm
            refine lv_iinc (v := v11) (lv' := [(4, .int v11), (0, .ref qWd), (1, .int x1), (2, .int x2), (3, .int x3)]) hx hb d_Words_prepare_95 hl (k := 4) rfl (by rw [ev]; rfl) (by decide) rfl (fun ls hl => ?_)
            refine lv_goto (tgt := 58) hx hb d_Words_prepare_98 (by decide) ?_
            exact ih58 x1 x2 x3 v11 g10 hm _ _ hP hD hS _ (lv_sub hl [1, 2, 3, 4, 0] rfl)
      intro x1 x2 Wd_generator hm H locs hP hD hS ls hl
      replace hm : f_Words_prepare_27_b Sh_e Fd_powers Fd_logs (f_Words_prepare_27 Sh_e Fd_powers Fd_logs n27) x1 x2 Wd_generator = some Wd_generator' := hm
      unfold f_Words_prepare_27_b at hm
      refine lv_iload_n hx hb d_Words_prepare_27 rfl (lv_at hl 2 rfl) ?_
      refine lv_iload_n hx hb d_Words_prepare_28 rfl (lv_at hl 1 rfl) ?_
      refine z_if hm (lv_icmp_ge (tgt := 127) hx hb d_Words_prepare_29 (by decide)) (fun hm => ?_) (fun hm => ?_)
      · cases hm
        exact z_qo hQ (z_vret hr hx hb hlocks hK hP hD hS d_Words_prepare_127)
      · refine lv_aload_n hx hb d_Words_prepare_32 rfl (lv_at hl 0 rfl) ?_
        refine va_get (D := D) (ci := 9) (v := .ref qFd) (C := "DeepChannel$Words") (T := fT_Words) (N := 7) hx hb hts u_Words hown hK hP 0 rfl rfl 1 (by decide) (hts _ k_169) (fun _ h9 => h9) rfl d_Words_prepare_33 ?_
        refine lv_sipush (v := (128 : Int32)) hx hb d_Words_prepare_36 (by decide) ?_
        refine lv_aload_n hx hb d_Words_prepare_39 rfl (lv_at hl 0 rfl) ?_
        refine va_get (D := D) (ci := 9) (v := .ref qSh) (C := "DeepChannel$Words") (T := fT_Words) (N := 7) hx hb hts u_Words hown hK hP 0 rfl rfl 0 (by decide) (hts _ k_168) (fun _ h9 => h9) rfl d_Words_prepare_40 ?_
        refine va_getN (D := D) (ci := 8) (v := .int Sh_e) (C := "DeepChannel$Shape") (T := fT_Shape) (N := 4) hx hb hts u_Shape hown hK hP 1 rfl rfl 2 (by decide) (va_Nw.use rfl (hE.1 _ (List.mem_of_getElem? (i := 4) rfl))) (fun _ h9 => h9) rfl d_Words_prepare_43 ?_
        refine lv_isub hx hb d_Words_prepare_46 ?_
        refine lv_iload_n hx hb d_Words_prepare_47 rfl (lv_at hl 2 rfl) ?_
        refine lv_iadd hx hb d_Words_prepare_48 ?_
        obtain ⟨r12, hu, hm⟩ := bd_el hm
        replace hm := nm_1 hm
        refine z_cVi (wc := w_Field_powerOfG cI cJ qFd qFd_powers (.ref qFd_logs) Fd_otherForms Fd_elements Fd_powers) (wc' := w_Field_powerOfG cI cJ qFd qFd_powers (.ref qFd_logs) Fd_otherForms Fd_elements Fd_powers) (wr := [(qWd, .inr (9, [.ref qSh, .ref qFd, .ref qWd_generator, Wd_remainder, Wd_coefficients, Wd_syndromes, Wd_locator])), (qSh, .inr (8, [Sh_depth, Sh_wordBytes, .int Sh_e, Sh_pattern])), (qWd_generator, .inl (cI, 33, .inl Wd_generator)), (qFd_logs, .inl (cI, 256, .inl Fd_logs))]) (As := [.int (((128 : Int32) - Sh_e) + x2)]) (rest := []) (c_Field_powerOfG l D cI cJ tt qFd qFd_powers (.ref qFd_logs) Fd_otherForms Fd_elements _ Fd_powers (((128 : Int32) - Sh_e) + x2) r12 hu) F ok_Field_powerOfG rfl k_160 hK hE hP hD hS hA [3, 4] [0, 1, 2, 5] rfl rfl (by decide) (by decide) (by decide) 0 rfl rfl rfl ⟨rfl, rfl, Nat.le_of_ble_eq_true rfl, Nat.le_of_ble_eq_true rfl⟩ ⟨Nat.zero_le _, Nat.zero_le _⟩ rfl hl.1 rfl (Nat.le_of_ble_eq_true rfl) d_Words_prepare_49 (fun H locs hP hD hS => ?_)
        have hP : va_P D classes (w_Words_prepare cI cJ qWd qSh qWd_generator qFd qFd_powers qFd_logs Wd_remainder Wd_coefficients Wd_syndromes Wd_locator Sh_depth Sh_wordBytes Sh_pattern Fd_otherForms Fd_elements Sh_e Wd_generator Fd_powers Fd_logs) H := hP.sub [0, 1, 2, 4, 5, 3] rfl
        have hD : va_D A (w_Words_prepare cI cJ qWd qSh qWd_generator qFd qFd_powers qFd_logs Wd_remainder Wd_coefficients Wd_syndromes Wd_locator Sh_depth Sh_wordBytes Sh_pattern Fd_otherForms Fd_elements Sh_e Wd_generator Fd_powers Fd_logs) := hD.sub [0, 1, 2, 4, 5, 3] (by decide) rfl
        refine lv_istore_n (lv' := [(3, .int r12), (0, .ref qWd), (1, .int x1), (2, .int x2)]) hx hb d_Words_prepare_52 rfl hl (by decide) rfl (fun ls hl => ?_)
        refine lv_iload_n hx hb d_Words_prepare_53 rfl (lv_at hl 3 rfl) ?_
        refine lv_iconst (v := (1 : Int32)) hx hb d_Words_prepare_54 (by decide) ?_
        refine lv_iadd hx hb d_Words_prepare_55 ?_
        refine z_nmi hm (fun v14 hm => ?_)
        refine lv_istore (lv' := [(4, .int v14), (3, .int r12), (0, .ref qWd), (1, .int x1), (2, .int x2)]) hx hb d_Words_prepare_56 hl (by decide) rfl (fun ls hl => ?_)
        exact T58 10000 x1 x2 r12 v14 Wd_generator hm _ _ hP hD hS _ (lv_sub hl [2, 3, 4, 1, 0] rfl)
  unfold f_Words_prepare at hm
  refine lv_iconst (v := (2 : Int32)) hx hb d_Words_prepare_0 (by decide) ?_
  refine lv_aload_n hx hb d_Words_prepare_1 rfl (lv_at hl 0 rfl) ?_
  refine va_get (D := D) (ci := 9) (v := .ref qSh) (C := "DeepChannel$Words") (T := fT_Words) (N := 7) hx hb hts u_Words hown hK hP 0 rfl rfl 0 (by decide) (hts _ k_168) (fun _ h9 => h9) rfl d_Words_prepare_2 ?_
  refine va_getN (D := D) (ci := 8) (v := .int Sh_e) (C := "DeepChannel$Shape") (T := fT_Shape) (N := 4) hx hb hts u_Shape hown hK hP 1 rfl rfl 2 (by decide) (va_Nw.use rfl (hE.1 _ (List.mem_of_getElem? (i := 4) rfl))) (fun _ h9 => h9) rfl d_Words_prepare_5 ?_
  refine lv_imul hx hb d_Words_prepare_8 ?_
  refine z_nmi hm (fun v15 hm => ?_)
  refine lv_istore_n (lv' := [(1, .int v15), (0, .ref qWd)]) hx hb d_Words_prepare_9 rfl hl (by decide) rfl (fun ls hl => ?_)
  refine lv_aload_n hx hb d_Words_prepare_10 rfl (lv_at hl 1 rfl) ?_
  refine va_get (D := D) (ci := 9) (v := .ref qWd_generator) (C := "DeepChannel$Words") (T := fT_Words) (N := 7) hx hb hts u_Words hown hK hP 0 rfl rfl 2 (by decide) (hts _ k_170) (fun _ h9 => h9) rfl d_Words_prepare_11 ?_
  refine lv_iconst (v := (0 : Int32)) hx hb d_Words_prepare_14 (by decide) ?_
  obtain ⟨g16, hu, hm⟩ := bd_el hm
  replace hm := nm_1 hm
  refine z_cSv (wc := w_Arrays_fillI cI cJ qWd_generator 33 Wd_generator) (wc' := w_Arrays_fillI cI cJ qWd_generator 33 g16) (wr := [(qWd, .inr (9, [.ref qSh, .ref qFd, .ref qWd_generator, Wd_remainder, Wd_coefficients, Wd_syndromes, Wd_locator])), (qSh, .inr (8, [Sh_depth, Sh_wordBytes, .int Sh_e, Sh_pattern])), (qFd, .inr (2, [.ref qFd_powers, .ref qFd_logs, Fd_otherForms, Fd_elements])), (qFd_powers, .inl (cI, 255, .inl Fd_powers)), (qFd_logs, .inl (cI, 256, .inl Fd_logs))]) (As := [.ref qWd_generator, .int (0 : Int32)]) (rest := []) (c_Arrays_fillI l D cI cJ tt qWd_generator 33 _ Wd_generator (0 : Int32) g16 hu) F ok_Arrays_fillI k_157 hK hE hP hD hS hA [2] [0, 1, 3, 4, 5] rfl rfl (by decide) (by decide) (by decide) ⟨rfl, rfl, Nat.le_of_ble_eq_true rfl, Nat.le_of_ble_eq_true rfl⟩ ⟨Nat.zero_le _, Nat.zero_le _⟩ rfl hl.1 rfl (Nat.le_of_ble_eq_true rfl) d_Words_prepare_15 (fun H locs hP hD hS => ?_)
  have hP : va_P D classes (w_Words_prepare cI cJ qWd qSh qWd_generator qFd qFd_powers qFd_logs Wd_remainder Wd_coefficients Wd_syndromes Wd_locator Sh_depth Sh_wordBytes Sh_pattern Fd_otherForms Fd_elements Sh_e g16 Fd_powers Fd_logs) H := hP.sub [0, 1, 5, 2, 3, 4] rfl
  have hD : va_D A (w_Words_prepare cI cJ qWd qSh qWd_generator qFd qFd_powers qFd_logs Wd_remainder Wd_coefficients Wd_syndromes Wd_locator Sh_depth Sh_wordBytes Sh_pattern Fd_otherForms Fd_elements Sh_e g16 Fd_powers Fd_logs) := hD.sub [0, 1, 5, 2, 3, 4] (by decide) rfl
  refine lv_aload_n hx hb d_Words_prepare_18 rfl (lv_at hl 1 rfl) ?_
  refine va_get (D := D) (ci := 9) (v := .ref qWd_generator) (C := "DeepChannel$Words") (T := fT_Words) (N := 7) hx hb hts u_Words hown hK hP 0 rfl rfl 2 (by decide) (hts _ k_170) (fun _ h9 => h9) rfl d_Words_prepare_19 ?_
  refine lv_iconst (v := (0 : Int32)) hx hb d_Words_prepare_22 (by decide) ?_
  refine lv_iconst (v := (1 : Int32)) hx hb d_Words_prepare_23 (by decide) ?_
  refine z_iast hm hx hb hK hP hD hS 2 rfl d_Words_prepare_24 (fun g18 hm H locs hP hD hS => ?_)
  have hP : va_P D classes (w_Words_prepare cI cJ qWd qSh qWd_generator qFd qFd_powers qFd_logs Wd_remainder Wd_coefficients Wd_syndromes Wd_locator Sh_depth Sh_wordBytes Sh_pattern Fd_otherForms Fd_elements Sh_e g18 Fd_powers Fd_logs) H := hP
  have hD : va_D A (w_Words_prepare cI cJ qWd qSh qWd_generator qFd qFd_powers qFd_logs Wd_remainder Wd_coefficients Wd_syndromes Wd_locator Sh_depth Sh_wordBytes Sh_pattern Fd_otherForms Fd_elements Sh_e g18 Fd_powers Fd_logs) := hD
  refine lv_iconst (v := (0 : Int32)) hx hb d_Words_prepare_25 (by decide) ?_
  refine lv_istore_n (lv' := [(2, .int (0 : Int32)), (1, .int v15), (0, .ref qWd)]) hx hb d_Words_prepare_26 rfl hl (by decide) rfl (fun ls hl => ?_)
  exact T27 10000 v15 (0 : Int32) g18 hm _ _ hP hD hS _ (lv_sub hl [2, 1, 0] rfl)
-- DeepChannel$Words.isCodeword()Z
abbrev b_Words_isCodeword : ByteArray := prog_11_method_6_code
abbrev y_Words_isCodeword : MethodName := ⟨"DeepChannel$Words", "isCodeword", "()Z"⟩
theorem d_Words_isCodeword_0 : decode b_Words_isCodeword 0 = .ok (.iconst 0, 1) := by decide +kernel
theorem d_Words_isCodeword_1 : decode b_Words_isCodeword 1 = .ok (.istore_n 1, 1) := by decide +kernel
theorem d_Words_isCodeword_2 : decode b_Words_isCodeword 2 = .ok (.iconst 0, 1) := by decide +kernel
theorem d_Words_isCodeword_3 : decode b_Words_isCodeword 3 = .ok (.istore_n 2, 1) := by decide +kernel
theorem d_Words_isCodeword_4 : decode b_Words_isCodeword 4 = .ok (.iload_n 2, 1) := by decide +kernel
theorem d_Words_isCodeword_5 : decode b_Words_isCodeword 5 = .ok (.iconst 2, 1) := by decide +kernel
theorem d_Words_isCodeword_6 : decode b_Words_isCodeword 6 = .ok (.aload_n 0, 1) := by decide +kernel
theorem d_Words_isCodeword_7 : decode b_Words_isCodeword 7 = .ok (.getfield 24, 3) := by decide +kernel
theorem d_Words_isCodeword_10 : decode b_Words_isCodeword 10 = .ok (.getfield 44, 3) := by decide +kernel
theorem d_Words_isCodeword_13 : decode b_Words_isCodeword 13 = .ok (.imul, 1) := by decide +kernel
theorem d_Words_isCodeword_14 : decode b_Words_isCodeword 14 = .ok (.if_icmp .ge 87, 3) := by decide +kernel
theorem d_Words_isCodeword_17 : decode b_Words_isCodeword 17 = .ok (.aload_n 0, 1) := by decide +kernel
theorem d_Words_isCodeword_18 : decode b_Words_isCodeword 18 = .ok (.getfield 28, 3) := by decide +kernel
theorem d_Words_isCodeword_21 : decode b_Words_isCodeword 21 = .ok (.sipush 128, 3) := by decide +kernel
theorem d_Words_isCodeword_24 : decode b_Words_isCodeword 24 = .ok (.aload_n 0, 1) := by decide +kernel
theorem d_Words_isCodeword_25 : decode b_Words_isCodeword 25 = .ok (.getfield 24, 3) := by decide +kernel
theorem d_Words_isCodeword_28 : decode b_Words_isCodeword 28 = .ok (.getfield 44, 3) := by decide +kernel
theorem d_Words_isCodeword_31 : decode b_Words_isCodeword 31 = .ok (.isub, 1) := by decide +kernel
theorem d_Words_isCodeword_32 : decode b_Words_isCodeword 32 = .ok (.iload_n 2, 1) := by decide +kernel
theorem d_Words_isCodeword_33 : decode b_Words_isCodeword 33 = .ok (.iadd, 1) := by decide +kernel
theorem d_Words_isCodeword_34 : decode b_Words_isCodeword 34 = .ok (.invokevirtual 56, 3) := by decide +kernel
theorem d_Words_isCodeword_37 : decode b_Words_isCodeword 37 = .ok (.istore_n 3, 1) := by decide +kernel
theorem d_Words_isCodeword_38 : decode b_Words_isCodeword 38 = .ok (.iconst 0, 1) := by decide +kernel
theorem d_Words_isCodeword_39 : decode b_Words_isCodeword 39 = .ok (.istore 4, 2) := by decide +kernel
theorem d_Words_isCodeword_41 : decode b_Words_isCodeword 41 = .ok (.iconst 0, 1) := by decide +kernel
theorem d_Words_isCodeword_42 : decode b_Words_isCodeword 42 = .ok (.istore 5, 2) := by decide +kernel
theorem d_Words_isCodeword_44 : decode b_Words_isCodeword 44 = .ok (.iload 5, 2) := by decide +kernel
theorem d_Words_isCodeword_46 : decode b_Words_isCodeword 46 = .ok (.aload_n 0, 1) := by decide +kernel
theorem d_Words_isCodeword_47 : decode b_Words_isCodeword 47 = .ok (.getfield 24, 3) := by decide +kernel
theorem d_Words_isCodeword_50 : decode b_Words_isCodeword 50 = .ok (.getfield 72, 3) := by decide +kernel
theorem d_Words_isCodeword_53 : decode b_Words_isCodeword 53 = .ok (.if_icmp .ge 29, 3) := by decide +kernel
theorem d_Words_isCodeword_56 : decode b_Words_isCodeword 56 = .ok (.aload_n 0, 1) := by decide +kernel
theorem d_Words_isCodeword_57 : decode b_Words_isCodeword 57 = .ok (.getfield 28, 3) := by decide +kernel
theorem d_Words_isCodeword_60 : decode b_Words_isCodeword 60 = .ok (.iload 4, 2) := by decide +kernel
theorem d_Words_isCodeword_62 : decode b_Words_isCodeword 62 = .ok (.iload_n 3, 1) := by decide +kernel
theorem d_Words_isCodeword_63 : decode b_Words_isCodeword 63 = .ok (.invokevirtual 62, 3) := by decide +kernel
theorem d_Words_isCodeword_66 : decode b_Words_isCodeword 66 = .ok (.aload_n 0, 1) := by decide +kernel
theorem d_Words_isCodeword_67 : decode b_Words_isCodeword 67 = .ok (.getfield 18, 3) := by decide +kernel
theorem d_Words_isCodeword_70 : decode b_Words_isCodeword 70 = .ok (.iload 5, 2) := by decide +kernel
theorem d_Words_isCodeword_72 : decode b_Words_isCodeword 72 = .ok (.iaload, 1) := by decide +kernel
theorem d_Words_isCodeword_73 : decode b_Words_isCodeword 73 = .ok (.ixor, 1) := by decide +kernel
theorem d_Words_isCodeword_74 : decode b_Words_isCodeword 74 = .ok (.istore 4, 2) := by decide +kernel
theorem d_Words_isCodeword_76 : decode b_Words_isCodeword 76 = .ok (.iinc 5 1, 3) := by decide +kernel
theorem d_Words_isCodeword_79 : decode b_Words_isCodeword 79 = .ok (.goto (-35), 3) := by decide +kernel
theorem d_Words_isCodeword_82 : decode b_Words_isCodeword 82 = .ok (.aload_n 0, 1) := by decide +kernel
theorem d_Words_isCodeword_83 : decode b_Words_isCodeword 83 = .ok (.getfield 21, 3) := by decide +kernel
theorem d_Words_isCodeword_86 : decode b_Words_isCodeword 86 = .ok (.iload_n 2, 1) := by decide +kernel
theorem d_Words_isCodeword_87 : decode b_Words_isCodeword 87 = .ok (.iload 4, 2) := by decide +kernel
theorem d_Words_isCodeword_89 : decode b_Words_isCodeword 89 = .ok (.iastore, 1) := by decide +kernel
theorem d_Words_isCodeword_90 : decode b_Words_isCodeword 90 = .ok (.iload_n 1, 1) := by decide +kernel
theorem d_Words_isCodeword_91 : decode b_Words_isCodeword 91 = .ok (.iload 4, 2) := by decide +kernel
theorem d_Words_isCodeword_93 : decode b_Words_isCodeword 93 = .ok (.ior, 1) := by decide +kernel
theorem d_Words_isCodeword_94 : decode b_Words_isCodeword 94 = .ok (.istore_n 1, 1) := by decide +kernel
theorem d_Words_isCodeword_95 : decode b_Words_isCodeword 95 = .ok (.iinc 2 1, 3) := by decide +kernel
theorem d_Words_isCodeword_98 : decode b_Words_isCodeword 98 = .ok (.goto (-94), 3) := by decide +kernel
theorem d_Words_isCodeword_101 : decode b_Words_isCodeword 101 = .ok (.iload_n 1, 1) := by decide +kernel
theorem d_Words_isCodeword_102 : decode b_Words_isCodeword 102 = .ok (.ifCond .ne 7, 3) := by decide +kernel
theorem d_Words_isCodeword_105 : decode b_Words_isCodeword 105 = .ok (.iconst 1, 1) := by decide +kernel
theorem d_Words_isCodeword_106 : decode b_Words_isCodeword 106 = .ok (.goto 4, 3) := by decide +kernel
theorem d_Words_isCodeword_109 : decode b_Words_isCodeword 109 = .ok (.iconst 0, 1) := by decide +kernel
theorem d_Words_isCodeword_110 : decode b_Words_isCodeword 110 = .ok (.ireturn, 1) := by decide +kernel
theorem ok_Words_isCodeword : OKv y_Words_isCodeword b_Words_isCodeword 6 (some .boolean) "DeepChannel$Words" 0 := ⟨k_761, k_760, k_10, k_44, by decide +kernel, by decide +kernel, by decide +kernel⟩
abbrev w_Words_isCodeword (cI cJ : ClassId) (qWd qSh qFd qFd_powers qWd_syndromes qFd_logs qWd_coefficients : Nat) (Wd_generator Wd_remainder Wd_locator Sh_depth Sh_pattern Fd_otherForms Fd_elements : Value) (Sh_wordBytes : Int32) (Sh_e : Int32) (Fd_powers : Nat → Int32) (Wd_syndromes : Nat → Int32) (Fd_logs : Nat → Int32) (Wd_coefficients : Nat → Int32) : va_W := [(qWd, .inr (9, [.ref qSh, .ref qFd, Wd_generator, Wd_remainder, .ref qWd_coefficients, .ref qWd_syndromes, Wd_locator])), (qSh, .inr (8, [Sh_depth, .int Sh_wordBytes, .int Sh_e, Sh_pattern])), (qFd, .inr (2, [.ref qFd_powers, .ref qFd_logs, Fd_otherForms, Fd_elements])), (qFd_powers, .inl (cI, 255, .inl Fd_powers)), (qWd_syndromes, .inl (cI, 32, .inl Wd_syndromes)), (qFd_logs, .inl (cI, 256, .inl Fd_logs)), (qWd_coefficients, .inl (cI, 250, .inl Wd_coefficients))]
def f_Words_isCodeword_101  (x1 : Int32) (Wd_syndromes : Nat → Int32) : Option (Int32 × (Nat → Int32)) :=
  if x1 = 0 then
    zb (1 : Int32) <|
    some ((1 : Int32), Wd_syndromes)
  else
  zb (0 : Int32) <|
  some ((0 : Int32), Wd_syndromes)
def f_Words_isCodeword_82 (kh4 : Int32 → Int32 → (Nat → Int32) → Option (Int32 × (Nat → Int32))) (x1 : Int32) (x2 : Int32) (x4 : Int32) (Wd_syndromes : Nat → Int32) : Option (Int32 × (Nat → Int32)) :=
  wrI Wd_syndromes 32 x2 x4 fun g1 =>
  nm (x1 ||| x4) fun v2 =>
  nm (x2 + (1 : Int32)) fun v3 =>
  kh4 v2 v3 g1
def f_Words_isCodeword_44_b (Sh_wordBytes : Int32) (Fd_powers : Nat → Int32) (Fd_logs : Nat → Int32) (Wd_coefficients : Nat → Int32) (kh4 : Int32 → Int32 → (Nat → Int32) → Option (Int32 × (Nat → Int32))) (kh44 : Int32 → Int32 → Int32 → Int32 → Int32 → (Nat → Int32) → Option (Int32 × (Nat → Int32))) (x1 : Int32) (x2 : Int32) (x3 : Int32) (x4 : Int32) (x5 : Int32) (Wd_syndromes : Nat → Int32) : Option (Int32 × (Nat → Int32)) :=
  if Sh_wordBytes ≤ x5 then
    f_Words_isCodeword_82 kh4 x1 x2 x4 Wd_syndromes
  else
  bd (f_Field_product Fd_logs Fd_powers x4 x3) fun u5 =>
  nm u5 fun r4 =>
  rdI Wd_coefficients 250 x5 fun v6 =>
  nm (r4 ^^^ v6) fun v7 =>
  nm (x5 + (1 : Int32)) fun v8 =>
  kh44 x1 x2 x3 v7 v8 Wd_syndromes
def f_Words_isCodeword_44 (Sh_wordBytes : Int32) (Fd_powers : Nat → Int32) (Fd_logs : Nat → Int32) (Wd_coefficients : Nat → Int32) (kh4 : Int32 → Int32 → (Nat → Int32) → Option (Int32 × (Nat → Int32))) : Nat → Int32 → Int32 → Int32 → Int32 → Int32 → (Nat → Int32) → Option (Int32 × (Nat → Int32))
  | 0 => fun _ _ _ _ _ _ => none
  | n + 1 => fun x1 x2 x3 x4 x5 Wd_syndromes => f_Words_isCodeword_44_b Sh_wordBytes Fd_powers Fd_logs Wd_coefficients kh4 (f_Words_isCodeword_44 Sh_wordBytes Fd_powers Fd_logs Wd_coefficients kh4 n) x1 x2 x3 x4 x5 Wd_syndromes
def f_Words_isCodeword_4_b (Sh_wordBytes : Int32) (Sh_e : Int32) (Fd_powers : Nat → Int32) (Fd_logs : Nat → Int32) (Wd_coefficients : Nat → Int32) (kh4 : Int32 → Int32 → (Nat → Int32) → Option (Int32 × (Nat → Int32))) (x1 : Int32) (x2 : Int32) (Wd_syndromes : Nat → Int32) : Option (Int32 × (Nat → Int32)) :=
  if ((2 : Int32) * Sh_e) ≤ x2 then
    f_Words_isCodeword_101 x1 Wd_syndromes
  else
  bd (f_Field_powerOfG Fd_powers (((128 : Int32) - Sh_e) + x2)) fun u10 =>
  nm u10 fun r9 =>
  f_Words_isCodeword_44 Sh_wordBytes Fd_powers Fd_logs Wd_coefficients kh4 10000 x1 x2 r9 (0 : Int32) (0 : Int32) Wd_syndromes
def f_Words_isCodeword_4 (Sh_wordBytes : Int32) (Sh_e : Int32) (Fd_powers : Nat → Int32) (Fd_logs : Nat → Int32) (Wd_coefficients : Nat → Int32) : Nat → Int32 → Int32 → (Nat → Int32) → Option (Int32 × (Nat → Int32))
  | 0 => fun _ _ _ => none
  | n + 1 => fun x1 x2 Wd_syndromes => f_Words_isCodeword_4_b Sh_wordBytes Sh_e Fd_powers Fd_logs Wd_coefficients (f_Words_isCodeword_4 Sh_wordBytes Sh_e Fd_powers Fd_logs Wd_coefficients n) x1 x2 Wd_syndromes
def f_Words_isCodeword (Sh_wordBytes : Int32) (Sh_e : Int32) (Fd_powers : Nat → Int32) (Wd_syndromes : Nat → Int32) (Fd_logs : Nat → Int32) (Wd_coefficients : Nat → Int32) : Option (Int32 × (Nat → Int32)) :=
  f_Words_isCodeword_4 Sh_wordBytes Sh_e Fd_powers Fd_logs Wd_coefficients 10000 (0 : Int32) (0 : Int32) Wd_syndromes
set_option maxHeartbeats 4000000 in
set_option maxRecDepth 100000 in
theorem c_Words_isCodeword (l : Launch) (D : va_G) (cI cJ : ClassId) (tt : Nat → Nat) (qWd qSh qFd qFd_powers qWd_syndromes qFd_logs qWd_coefficients : Nat) (Wd_generator Wd_remainder Wd_locator Sh_depth Sh_pattern Fd_otherForms Fd_elements : Value) (sz : Nat) (Sh_wordBytes : Int32) (Sh_e : Int32) (Fd_powers : Nat → Int32) (Wd_syndromes : Nat → Int32) (Fd_logs : Nat → Int32) (Wd_coefficients : Nat → Int32) (rr : Int32) (Wd_syndromes' : Nat → Int32) (hm : f_Words_isCodeword Sh_wordBytes Sh_e Fd_powers Wd_syndromes Fd_logs Wd_coefficients = some (rr, Wd_syndromes')) : CTi l y_Words_isCodeword b_Words_isCodeword 6 (some .boolean) (RM 1 22) D cI cJ tt [.ref qWd] (w_Words_isCodeword cI cJ qWd qSh qFd qFd_powers qWd_syndromes qFd_logs qWd_coefficients Wd_generator Wd_remainder Wd_locator Sh_depth Sh_pattern Fd_otherForms Fd_elements Sh_wordBytes Sh_e Fd_powers Wd_syndromes Fd_logs Wd_coefficients) (w_Words_isCodeword cI cJ qWd qSh qFd qFd_powers qWd_syndromes qFd_logs qWd_coefficients Wd_generator Wd_remainder Wd_locator Sh_depth Sh_pattern Fd_otherForms Fd_elements Sh_wordBytes Sh_e Fd_powers Wd_syndromes' Fd_logs Wd_coefficients) sz rr := by
  refine Met.ofW (cc := b_Words_isCodeword) (maxL := 6) (ret := (some .boolean)) (by decide) rfl ?_
  intro p e s m args below meth c s₁ B hml hv
  obtain ⟨hargs, hsz, hP, hK, hD0, hE⟩ := hv
  have hx := B.exec
  have hb := B.bytes
  have hr := B.returns
  have hts : ∀ w ∈ TB, w.before args s = true := z_mV s (atoms_spec (ws := WD y_Words_isCodeword b_Words_isCodeword 6 (some .boolean)) B.pre)
  have hown : s.vm.findClass "DeepChannel$Words" = some m.cls := findClass_of_methodNamed B.named
  have hlocks := B.notSynchronized
  subst hsz
  have hD := hD0.self (sz := s.heap.size)
  generalize hAe : va_A (w_Words_isCodeword cI cJ qWd qSh qFd qFd_powers qWd_syndromes qFd_logs qWd_coefficients Wd_generator Wd_remainder Wd_locator Sh_depth Sh_pattern Fd_otherForms Fd_elements Sh_wordBytes Sh_e Fd_powers Wd_syndromes Fd_logs Wd_coefficients) s.heap.size = A at hD hE ⊢
  have hA : ∀ q : Nat, s.heap.size ≤ q → A q := fun q h => by rw [← hAe]; exact Or.inr h
  have hS : va_S A s.heap s.heap [] := va_S.rf
  refine z_entry (vs := [.ref qWd]) hargs (Nat.le_of_ble_eq_true rfl) (fun ls hl => ?_)
  have hl : lv_has ls 6 [(0, .ref qWd)] := hl
  show W p l e (RM 1 22) s m args below meth c s.heap [] 0 0 _ _
  refine z_qi (fun Q0 hQ => ?_)
  have F : CallFix p m c b_Words_isCodeword 6 s args TB "DeepChannel$Words" := ⟨hx, hb, hml, hown, hts⟩
  have T101 : ∀ (x1 : Int32) (Wd_syndromes : Nat → Int32), f_Words_isCodeword_101 x1 Wd_syndromes = some (rr, Wd_syndromes') → ∀ (H : Heap) (locs : List Loc), va_P D classes (w_Words_isCodeword cI cJ qWd qSh qFd qFd_powers qWd_syndromes qFd_logs qWd_coefficients Wd_generator Wd_remainder Wd_locator Sh_depth Sh_pattern Fd_otherForms Fd_elements Sh_wordBytes Sh_e Fd_powers Wd_syndromes Fd_logs Wd_coefficients) H → va_D A (w_Words_isCodeword cI cJ qWd qSh qFd qFd_powers qWd_syndromes qFd_logs qWd_coefficients Wd_generator Wd_remainder Wd_locator Sh_depth Sh_pattern Fd_otherForms Fd_elements Sh_wordBytes Sh_e Fd_powers Wd_syndromes Fd_logs Wd_coefficients) → va_S A s.heap H locs → ∀ (ls : Array Slot), lv_has ls 6 [(1, .int x1)] → W p l e (RM 1 22) s m args below meth c H locs 0 0 Q0 (F0 m 101 ls []) := by
    intro x1 Wd_syndromes hm H locs hP hD hS ls hl
    unfold f_Words_isCodeword_101 at hm
    refine lv_iload_n hx hb d_Words_isCodeword_101 rfl (lv_at hl 0 rfl) ?_
    refine z_ifn hm (lv_if_ne (tgt := 109) hx hb d_Words_isCodeword_102 (by decide)) (fun hm => ?_) (fun hm => ?_)
    · refine lv_iconst (v := (1 : Int32)) hx hb d_Words_isCodeword_105 (by decide) ?_
      refine lv_goto (tgt := 110) hx hb d_Words_isCodeword_106 (by decide) ?_
      obtain ⟨hz, hm⟩ := zb_el hm
      cases hm
      exact z_qo hQ (z_iretz hz hr hx hb hlocks hK hP hD hS d_Words_isCodeword_110)
    · refine lv_iconst (v := (0 : Int32)) hx hb d_Words_isCodeword_109 (by decide) ?_
      obtain ⟨hz, hm⟩ := zb_el hm
      cases hm
      exact z_qo hQ (z_iretz hz hr hx hb hlocks hK hP hD hS d_Words_isCodeword_110)
  have T4 : ∀ (n4 : Nat) (x1 : Int32) (x2 : Int32) (Wd_syndromes : Nat → Int32), f_Words_isCodeword_4 Sh_wordBytes Sh_e Fd_powers Fd_logs Wd_coefficients n4 x1 x2 Wd_syndromes = some (rr, Wd_syndromes') → ∀ (H : Heap) (locs : List Loc), va_P D classes (w_Words_isCodeword cI cJ qWd qSh qFd qFd_powers qWd_syndromes qFd_logs qWd_coefficients Wd_generator Wd_remainder Wd_locator Sh_depth Sh_pattern Fd_otherForms Fd_elements Sh_wordBytes Sh_e Fd_powers Wd_syndromes Fd_logs Wd_coefficients) H → va_D A (w_Words_isCodeword cI cJ qWd qSh qFd qFd_powers qWd_syndromes qFd_logs qWd_coefficients Wd_generator Wd_remainder Wd_locator Sh_depth Sh_pattern Fd_otherForms Fd_elements Sh_wordBytes Sh_e Fd_powers Wd_syndromes Fd_logs Wd_coefficients) → va_S A s.heap H locs → ∀ (ls : Array Slot), lv_has ls 6 [(0, .ref qWd), (1, .int x1), (2, .int x2)] → W p l e (RM 1 22) s m args below meth c H locs 0 0 Q0 (F0 m 4 ls []) := by
    intro n4
    induction n4 with
    | zero => intro x1 x2 Wd_syndromes hm; cases hm
    | succ n4 ih4 =>
      have T82 : ∀ (x1 : Int32) (x2 : Int32) (x4 : Int32) (Wd_syndromes : Nat → Int32), f_Words_isCodeword_82 (f_Words_isCodeword_4 Sh_wordBytes Sh_e Fd_powers Fd_logs Wd_coefficients n4) x1 x2 x4 Wd_syndromes = some (rr, Wd_syndromes') → ∀ (H : Heap) (locs : List Loc), va_P D classes (w_Words_isCodeword cI cJ qWd qSh qFd qFd_powers qWd_syndromes qFd_logs qWd_coefficients Wd_generator Wd_remainder Wd_locator Sh_depth Sh_pattern Fd_otherForms Fd_elements Sh_wordBytes Sh_e Fd_powers Wd_syndromes Fd_logs Wd_coefficients) H → va_D A (w_Words_isCodeword cI cJ qWd qSh qFd qFd_powers qWd_syndromes qFd_logs qWd_coefficients Wd_generator Wd_remainder Wd_locator Sh_depth Sh_pattern Fd_otherForms Fd_elements Sh_wordBytes Sh_e Fd_powers Wd_syndromes Fd_logs Wd_coefficients) → va_S A s.heap H locs → ∀ (ls : Array Slot), lv_has ls 6 [(0, .ref qWd), (1, .int x1), (2, .int x2), (4, .int x4)] → W p l e (RM 1 22) s m args below meth c H locs 0 0 Q0 (F0 m 82 ls []) := by
        intro x1 x2 x4 Wd_syndromes hm H locs hP hD hS ls hl
        unfold f_Words_isCodeword_82 at hm
        refine lv_aload_n hx hb d_Words_isCodeword_82 rfl (lv_at hl 0 rfl) ?_
        refine va_get (D := D) (ci := 9) (v := .ref qWd_syndromes) (C := "DeepChannel$Words") (T := fT_Words) (N := 7) hx hb hts u_Words hown hK hP 0 rfl rfl 5 (by decide) (hts _ k_173) (fun _ h9 => h9) rfl d_Words_isCodeword_83 ?_
        refine lv_iload_n hx hb d_Words_isCodeword_86 rfl (lv_at hl 2 rfl) ?_
        refine lv_iload hx hb d_Words_isCodeword_87 (lv_at hl 3 rfl) ?_
        refine z_iast hm hx hb hK hP hD hS 4 rfl d_Words_isCodeword_89 (fun g1 hm H locs hP hD hS => ?_)
        have hP : va_P D classes (w_Words_isCodeword cI cJ qWd qSh qFd qFd_powers qWd_syndromes qFd_logs qWd_coefficients Wd_generator Wd_remainder Wd_locator Sh_depth Sh_pattern Fd_otherForms Fd_elements Sh_wordBytes Sh_e Fd_powers g1 Fd_logs Wd_coefficients) H := hP
        have hD : va_D A (w_Words_isCodeword cI cJ qWd qSh qFd qFd_powers qWd_syndromes qFd_logs qWd_coefficients Wd_generator Wd_remainder Wd_locator Sh_depth Sh_pattern Fd_otherForms Fd_elements Sh_wordBytes Sh_e Fd_powers g1 Fd_logs Wd_coefficients) := hD
        refine lv_iload_n hx hb d_Words_isCodeword_90 rfl (lv_at hl 1 rfl) ?_
        refine lv_iload hx hb d_Words_isCodeword_91 (lv_at hl 3 rfl) ?_
        refine lv_ior hx hb d_Words_isCodeword_93 ?_
        refine z_nmi hm (fun v2 hm => ?_)
        refine lv_istore_n (lv' := [(1, .int v2), (0, .ref qWd), (2, .int x2), (4, .int x4)]) hx hb d_Words_isCodeword_94 rfl hl (by decide) rfl (fun ls hl => ?_)
        obtain ⟨v3, ev, hm⟩ := nm_el hm
        refine lv_iinc (v := v3) (lv' := [(2, .int v3), (1, .int v2), (0, .ref qWd), (4, .int x4)]) hx hb d_Words_isCodeword_95 hl (k := 2) rfl (by rw [ev]; rfl) (by decide) rfl (fun ls hl => ?_)
        refine lv_goto (tgt := 4) hx hb d_Words_isCodeword_98 (by decide) ?_
        exact ih4 v2 v3 g1 hm _ _ hP hD hS _ (lv_sub hl [2, 1, 0] rfl)
      have T44 : ∀ (n44 : Nat) (x1 : Int32) (x2 : Int32) (x3 : Int32) (x4 : Int32) (x5 : Int32) (Wd_syndromes : Nat → Int32), f_Words_isCodeword_44 Sh_wordBytes Fd_powers Fd_logs Wd_coefficients (f_Words_isCodeword_4 Sh_wordBytes Sh_e Fd_powers Fd_logs Wd_coefficients n4) n44 x1 x2 x3 x4 x5 Wd_syndromes = some (rr, Wd_syndromes') → ∀ (H : Heap) (locs : List Loc), va_P D classes (w_Words_isCodeword cI cJ qWd qSh qFd qFd_powers qWd_syndromes qFd_logs qWd_coefficients Wd_generator Wd_remainder Wd_locator Sh_depth Sh_pattern Fd_otherForms Fd_elements Sh_wordBytes Sh_e Fd_powers Wd_syndromes Fd_logs Wd_coefficients) H → va_D A (w_Words_isCodeword cI cJ qWd qSh qFd qFd_powers qWd_syndromes qFd_logs qWd_coefficients Wd_generator Wd_remainder Wd_locator Sh_depth Sh_pattern Fd_otherForms Fd_elements Sh_wordBytes Sh_e Fd_powers Wd_syndromes Fd_logs Wd_coefficients) → va_S A s.heap H locs → ∀ (ls : Array Slot), lv_has ls 6 [(0, .ref qWd), (1, .int x1), (2, .int x2), (3, .int x3), (4, .int x4), (5, .int x5)] → W p l e (RM 1 22) s m args below meth c H locs 0 0 Q0 (F0 m 44 ls []) := by
        intro n44
        induction n44 with
        | zero => intro x1 x2 x3 x4 x5 Wd_syndromes hm; cases hm
        | succ n44 ih44 =>
          intro x1 x2 x3 x4 x5 Wd_syndromes hm H locs hP hD hS ls hl
          replace hm : f_Words_isCodeword_44_b Sh_wordBytes Fd_powers Fd_logs Wd_coefficients (f_Words_isCodeword_4 Sh_wordBytes Sh_e Fd_powers Fd_logs Wd_coefficients n4) (f_Words_isCodeword_44 Sh_wordBytes Fd_powers Fd_logs Wd_coefficients (f_Words_isCodeword_4 Sh_wordBytes Sh_e Fd_powers Fd_logs Wd_coefficients n4) n44) x1 x2 x3 x4 x5 Wd_syndromes = some (rr, Wd_syndromes') := hm
          unfold f_Words_isCodeword_44_b at hm
          refine lv_iload hx hb d_Words_isCodeword_44 (lv_at hl 5 rfl) ?_
          refine lv_aload_n hx hb d_Words_isCodeword_46 rfl (lv_at hl 0 rfl) ?_
          refine va_get (D := D) (ci := 9) (v := .ref qSh) (C := "DeepChannel$Words") (T := fT_Words) (N := 7) hx hb hts u_Words hown hK hP 0 rfl rfl 0 (by decide) (hts _ k_168) (fun _ h9 => h9) rfl d_Words_isCodeword_47 ?_
          refine va_getN (D := D) (ci := 8) (v := .int Sh_wordBytes) (C := "DeepChannel$Shape") (T := fT_Shape) (N := 4) hx hb hts u_Shape hown hK hP 1 rfl rfl 1 (by decide) (va_Nw.use rfl (hE.1 _ (List.mem_of_getElem? (i := 3) rfl))) (fun _ h9 => h9) rfl d_Words_isCodeword_50 ?_
          refine z_if hm (lv_icmp_ge (tgt := 82) hx hb d_Words_isCodeword_53 (by decide)) (fun hm => ?_) (fun hm => ?_)
          · exact T82 x1 x2 x4 Wd_syndromes hm _ _ hP hD hS _ (lv_sub hl [0, 1, 2, 4] rfl)
          · refine lv_aload_n hx hb d_Words_isCodeword_56 rfl (lv_at hl 0 rfl) ?_
            refine va_get (D := D) (ci := 9) (v := .ref qFd) (C := "DeepChannel$Words") (T := fT_Words) (N := 7) hx hb hts u_Words hown hK hP 0 rfl rfl 1 (by decide) (hts _ k_169) (fun _ h9 => h9) rfl d_Words_isCodeword_57 ?_
            refine lv_iload hx hb d_Words_isCodeword_60 (lv_at hl 4 rfl) ?_
            refine lv_iload_n hx hb d_Words_isCodeword_62 rfl (lv_at hl 3 rfl) ?_
            obtain ⟨r4, hu, hm⟩ := bd_el hm
            replace hm := nm_1 hm
            refine z_cVi (wc := w_Field_product cI cJ qFd qFd_logs qFd_powers Fd_otherForms Fd_elements Fd_logs Fd_powers) (wc' := w_Field_product cI cJ qFd qFd_logs qFd_powers Fd_otherForms Fd_elements Fd_logs Fd_powers) (wr := [(qWd, .inr (9, [.ref qSh, .ref qFd, Wd_generator, Wd_remainder, .ref qWd_coefficients, .ref qWd_syndromes, Wd_locator])), (qSh, .inr (8, [Sh_depth, .int Sh_wordBytes, .int Sh_e, Sh_pattern])), (qWd_syndromes, .inl (cI, 32, .inl Wd_syndromes)), (qWd_coefficients, .inl (cI, 250, .inl Wd_coefficients))]) (As := [.int x4, .int x3]) (rest := []) (c_Field_product l D cI cJ tt qFd qFd_logs qFd_powers Fd_otherForms Fd_elements _ Fd_logs Fd_powers x4 x3 r4 hu) F ok_Field_product rfl k_164 hK hE hP hD hS hA [2, 5, 3] [0, 1, 4, 6] rfl rfl (by decide) (by decide) (by decide) 0 rfl rfl rfl ⟨rfl, rfl, Nat.le_of_ble_eq_true rfl, Nat.le_of_ble_eq_true rfl⟩ ⟨Nat.zero_le _, Nat.zero_le _⟩ rfl hl.1 rfl (Nat.le_of_ble_eq_true rfl) d_Words_isCodeword_63 (fun H locs hP hD hS => ?_)
            have hP : va_P D classes (w_Words_isCodeword cI cJ qWd qSh qFd qFd_powers qWd_syndromes qFd_logs qWd_coefficients Wd_generator Wd_remainder Wd_locator Sh_depth Sh_pattern Fd_otherForms Fd_elements Sh_wordBytes Sh_e Fd_powers Wd_syndromes Fd_logs Wd_coefficients) H := hP.sub [0, 1, 4, 6, 2, 5, 3] rfl
            have hD : va_D A (w_Words_isCodeword cI cJ qWd qSh qFd qFd_powers qWd_syndromes qFd_logs qWd_coefficients Wd_generator Wd_remainder Wd_locator Sh_depth Sh_pattern Fd_otherForms Fd_elements Sh_wordBytes Sh_e Fd_powers Wd_syndromes Fd_logs Wd_coefficients) := hD.sub [0, 1, 4, 6, 2, 5, 3] (by decide) rfl
            refine lv_aload_n hx hb d_Words_isCodeword_66 rfl (lv_at hl 0 rfl) ?_
            refine va_get (D := D) (ci := 9) (v := .ref qWd_coefficients) (C := "DeepChannel$Words") (T := fT_Words) (N := 7) hx hb hts u_Words hown hK hP 0 rfl rfl 4 (by decide) (hts _ k_172) (fun _ h9 => h9) rfl d_Words_isCodeword_67 ?_
            refine lv_iload hx hb d_Words_isCodeword_70 (lv_at hl 5 rfl) ?_
            refine z_iald hm hx hb hK hP 6 rfl d_Words_isCodeword_72 (fun v6 hm => ?_)
            refine lv_ixor hx hb d_Words_isCodeword_73 ?_
            refine z_nmi hm (fun v7 hm => ?_)
            refine lv_istore (lv' := [(4, .int v7), (0, .ref qWd), (1, .int x1), (2, .int x2), (3, .int x3), (5, .int x5)]) hx hb d_Words_isCodeword_74 hl (by decide) rfl (fun ls hl => ?_)
            obtain ⟨v8, ev, hm⟩ := nm_el hm
            refine lv_iinc (v := v8) (lv' := [(5, .int v8), (4, .int v7), (0, .ref qWd), (1, .int x1), (2, .int x2), (3, .int x3)]) hx hb d_Words_isCodeword_76 hl (k := 5) rfl (by rw [ev]; rfl) (by decide) rfl (fun ls hl => ?_)
            refine lv_goto (tgt := 44) hx hb d_Words_isCodeword_79 (by decide) ?_
            exact ih44 x1 x2 x3 v7 v8 Wd_syndromes hm _ _ hP hD hS _ (lv_sub hl [2, 3, 4, 5, 1, 0] rfl)
      intro x1 x2 Wd_syndromes hm H locs hP hD hS ls hl
      replace hm : f_Words_isCodeword_4_b Sh_wordBytes Sh_e Fd_powers Fd_logs Wd_coefficients (f_Words_isCodeword_4 Sh_wordBytes Sh_e Fd_powers Fd_logs Wd_coefficients n4) x1 x2 Wd_syndromes = some (rr, Wd_syndromes') := hm
      unfold f_Words_isCodeword_4_b at hm
      refine lv_iload_n hx hb d_Words_isCodeword_4 rfl (lv_at hl 2 rfl) ?_
      refine lv_iconst (v := (2 : Int32)) hx hb d_Words_isCodeword_5 (by decide) ?_
      refine lv_aload_n hx hb d_Words_isCodeword_6 rfl (lv_at hl 0 rfl) ?_
      refine va_get (D := D) (ci := 9) (v := .ref qSh) (C := "DeepChannel$Words") (T := fT_Words) (N := 7) hx hb hts u_Words hown hK hP 0 rfl rfl 0 (by decide) (hts _ k_168) (fun _ h9 => h9) rfl d_Words_isCodeword_7 ?_
      refine va_getN (D := D) (ci := 8) (v := .int Sh_e) (C := "DeepChannel$Shape") (T := fT_Shape) (N := 4) hx hb hts u_Shape hown hK hP 1 rfl rfl 2 (by decide) (va_Nw.use rfl (hE.1 _ (List.mem_of_getElem? (i := 4) rfl))) (fun _ h9 => h9) rfl d_Words_isCodeword_10 ?_
      refine lv_imul hx hb d_Words_isCodeword_13 ?_
      refine z_if hm (lv_icmp_ge (tgt := 101) hx hb d_Words_isCodeword_14 (by decide)) (fun hm => ?_) (fun hm => ?_)
      · exact T101 x1 Wd_syndromes hm _ _ hP hD hS _ (lv_sub hl [1] rfl)
      · refine lv_aload_n hx hb d_Words_isCodeword_17 rfl (lv_at hl 0 rfl) ?_
        refine va_get (D := D) (ci := 9) (v := .ref qFd) (C := "DeepChannel$Words") (T := fT_Words) (N := 7) hx hb hts u_Words hown hK hP 0 rfl rfl 1 (by decide) (hts _ k_169) (fun _ h9 => h9) rfl d_Words_isCodeword_18 ?_
        refine lv_sipush (v := (128 : Int32)) hx hb d_Words_isCodeword_21 (by decide) ?_
        refine lv_aload_n hx hb d_Words_isCodeword_24 rfl (lv_at hl 0 rfl) ?_
        refine va_get (D := D) (ci := 9) (v := .ref qSh) (C := "DeepChannel$Words") (T := fT_Words) (N := 7) hx hb hts u_Words hown hK hP 0 rfl rfl 0 (by decide) (hts _ k_168) (fun _ h9 => h9) rfl d_Words_isCodeword_25 ?_
        refine va_getN (D := D) (ci := 8) (v := .int Sh_e) (C := "DeepChannel$Shape") (T := fT_Shape) (N := 4) hx hb hts u_Shape hown hK hP 1 rfl rfl 2 (by decide) (va_Nw.use rfl (hE.1 _ (List.mem_of_getElem? (i := 4) rfl))) (fun _ h9 => h9) rfl d_Words_isCodeword_28 ?_
        refine lv_isub hx hb d_Words_isCodeword_31 ?_
        refine lv_iload_n hx hb d_Words_isCodeword_32 rfl (lv_at hl 2 rfl) ?_
        refine lv_iadd hx hb d_Words_isCodeword_33 ?_
        obtain ⟨r9, hu, hm⟩ := bd_el hm
        replace hm := nm_1 hm
        refine z_cVi (wc := w_Field_powerOfG cI cJ qFd qFd_powers (.ref qFd_logs) Fd_otherForms Fd_elements Fd_powers) (wc' := w_Field_powerOfG cI cJ qFd qFd_powers (.ref qFd_logs) Fd_otherForms Fd_elements Fd_powers) (wr := [(qWd, .inr (9, [.ref qSh, .ref qFd, Wd_generator, Wd_remainder, .ref qWd_coefficients, .ref qWd_syndromes, Wd_locator])), (qSh, .inr (8, [Sh_depth, .int Sh_wordBytes, .int Sh_e, Sh_pattern])), (qWd_syndromes, .inl (cI, 32, .inl Wd_syndromes)), (qFd_logs, .inl (cI, 256, .inl Fd_logs)), (qWd_coefficients, .inl (cI, 250, .inl Wd_coefficients))]) (As := [.int (((128 : Int32) - Sh_e) + x2)]) (rest := []) (c_Field_powerOfG l D cI cJ tt qFd qFd_powers (.ref qFd_logs) Fd_otherForms Fd_elements _ Fd_powers (((128 : Int32) - Sh_e) + x2) r9 hu) F ok_Field_powerOfG rfl k_160 hK hE hP hD hS hA [2, 3] [0, 1, 4, 5, 6] rfl rfl (by decide) (by decide) (by decide) 0 rfl rfl rfl ⟨rfl, rfl, Nat.le_of_ble_eq_true rfl, Nat.le_of_ble_eq_true rfl⟩ ⟨Nat.zero_le _, Nat.zero_le _⟩ rfl hl.1 rfl (Nat.le_of_ble_eq_true rfl) d_Words_isCodeword_34 (fun H locs hP hD hS => ?_)
        have hP : va_P D classes (w_Words_isCodeword cI cJ qWd qSh qFd qFd_powers qWd_syndromes qFd_logs qWd_coefficients Wd_generator Wd_remainder Wd_locator Sh_depth Sh_pattern Fd_otherForms Fd_elements Sh_wordBytes Sh_e Fd_powers Wd_syndromes Fd_logs Wd_coefficients) H := hP.sub [0, 1, 5, 6, 2, 3, 4] rfl
        have hD : va_D A (w_Words_isCodeword cI cJ qWd qSh qFd qFd_powers qWd_syndromes qFd_logs qWd_coefficients Wd_generator Wd_remainder Wd_locator Sh_depth Sh_pattern Fd_otherForms Fd_elements Sh_wordBytes Sh_e Fd_powers Wd_syndromes Fd_logs Wd_coefficients) := hD.sub [0, 1, 5, 6, 2, 3, 4] (by decide) rfl
        refine lv_istore_n (lv' := [(3, .int r9), (0, .ref qWd), (1, .int x1), (2, .int x2)]) hx hb d_Words_isCodeword_37 rfl hl (by decide) rfl (fun ls hl => ?_)
        refine lv_iconst (v := (0 : Int32)) hx hb d_Words_isCodeword_38 (by decide) ?_
        refine lv_istore (lv' := [(4, .int (0 : Int32)), (3, .int r9), (0, .ref qWd), (1, .int x1), (2, .int x2)]) hx hb d_Words_isCodeword_39 hl (by decide) rfl (fun ls hl => ?_)
        refine lv_iconst (v := (0 : Int32)) hx hb d_Words_isCodeword_41 (by decide) ?_
        refine lv_istore (lv' := [(5, .int (0 : Int32)), (4, .int (0 : Int32)), (3, .int r9), (0, .ref qWd), (1, .int x1), (2, .int x2)]) hx hb d_Words_isCodeword_42 hl (by decide) rfl (fun ls hl => ?_)
        exact T44 10000 x1 x2 r9 (0 : Int32) (0 : Int32) Wd_syndromes hm _ _ hP hD hS _ (lv_sub hl [3, 4, 5, 2, 1, 0] rfl)
  unfold f_Words_isCodeword at hm
  refine lv_iconst (v := (0 : Int32)) hx hb d_Words_isCodeword_0 (by decide) ?_
  refine lv_istore_n (lv' := [(1, .int (0 : Int32)), (0, .ref qWd)]) hx hb d_Words_isCodeword_1 rfl hl (by decide) rfl (fun ls hl => ?_)
  refine lv_iconst (v := (0 : Int32)) hx hb d_Words_isCodeword_2 (by decide) ?_
  refine lv_istore_n (lv' := [(2, .int (0 : Int32)), (1, .int (0 : Int32)), (0, .ref qWd)]) hx hb d_Words_isCodeword_3 rfl hl (by decide) rfl (fun ls hl => ?_)
  exact T4 10000 (0 : Int32) (0 : Int32) Wd_syndromes hm _ _ hP hD hS _ (lv_sub hl [2, 1, 0] rfl)
-- DeepChannel$Words.addChecksOfWord([II)V
abbrev b_Words_addChecksOfWord : ByteArray := prog_11_method_4_code
abbrev y_Words_addChecksOfWord : MethodName := ⟨"DeepChannel$Words", "addChecksOfWord", "([II)V"⟩
theorem d_Words_addChecksOfWord_0 : decode b_Words_addChecksOfWord 0 = .ok (.iconst 2, 1) := by decide +kernel
theorem d_Words_addChecksOfWord_1 : decode b_Words_addChecksOfWord 1 = .ok (.aload_n 0, 1) := by decide +kernel
theorem d_Words_addChecksOfWord_2 : decode b_Words_addChecksOfWord 2 = .ok (.getfield 24, 3) := by decide +kernel
theorem d_Words_addChecksOfWord_5 : decode b_Words_addChecksOfWord 5 = .ok (.getfield 44, 3) := by decide +kernel
theorem d_Words_addChecksOfWord_8 : decode b_Words_addChecksOfWord 8 = .ok (.imul, 1) := by decide +kernel
theorem d_Words_addChecksOfWord_9 : decode b_Words_addChecksOfWord 9 = .ok (.istore_n 3, 1) := by decide +kernel
theorem d_Words_addChecksOfWord_10 : decode b_Words_addChecksOfWord 10 = .ok (.aload_n 0, 1) := by decide +kernel
theorem d_Words_addChecksOfWord_11 : decode b_Words_addChecksOfWord 11 = .ok (.getfield 24, 3) := by decide +kernel
theorem d_Words_addChecksOfWord_14 : decode b_Words_addChecksOfWord 14 = .ok (.getfield 72, 3) := by decide +kernel
theorem d_Words_addChecksOfWord_17 : decode b_Words_addChecksOfWord 17 = .ok (.iload_n 3, 1) := by decide +kernel
theorem d_Words_addChecksOfWord_18 : decode b_Words_addChecksOfWord 18 = .ok (.isub, 1) := by decide +kernel
theorem d_Words_addChecksOfWord_19 : decode b_Words_addChecksOfWord 19 = .ok (.istore 4, 2) := by decide +kernel
theorem d_Words_addChecksOfWord_21 : decode b_Words_addChecksOfWord 21 = .ok (.aload_n 0, 1) := by decide +kernel
theorem d_Words_addChecksOfWord_22 : decode b_Words_addChecksOfWord 22 = .ok (.getfield 15, 3) := by decide +kernel
theorem d_Words_addChecksOfWord_25 : decode b_Words_addChecksOfWord 25 = .ok (.iconst 0, 1) := by decide +kernel
theorem d_Words_addChecksOfWord_26 : decode b_Words_addChecksOfWord 26 = .ok (.invokestatic 50, 3) := by decide +kernel
theorem d_Words_addChecksOfWord_29 : decode b_Words_addChecksOfWord 29 = .ok (.iconst 0, 1) := by decide +kernel
theorem d_Words_addChecksOfWord_30 : decode b_Words_addChecksOfWord 30 = .ok (.istore 5, 2) := by decide +kernel
theorem d_Words_addChecksOfWord_32 : decode b_Words_addChecksOfWord 32 = .ok (.iload 5, 2) := by decide +kernel
theorem d_Words_addChecksOfWord_34 : decode b_Words_addChecksOfWord 34 = .ok (.iload 4, 2) := by decide +kernel
theorem d_Words_addChecksOfWord_36 : decode b_Words_addChecksOfWord 36 = .ok (.if_icmp .ge 111, 3) := by decide +kernel
theorem d_Words_addChecksOfWord_39 : decode b_Words_addChecksOfWord 39 = .ok (.aload_n 0, 1) := by decide +kernel
theorem d_Words_addChecksOfWord_40 : decode b_Words_addChecksOfWord 40 = .ok (.getfield 15, 3) := by decide +kernel
theorem d_Words_addChecksOfWord_43 : decode b_Words_addChecksOfWord 43 = .ok (.iload_n 3, 1) := by decide +kernel
theorem d_Words_addChecksOfWord_44 : decode b_Words_addChecksOfWord 44 = .ok (.iconst 1, 1) := by decide +kernel
theorem d_Words_addChecksOfWord_45 : decode b_Words_addChecksOfWord 45 = .ok (.isub, 1) := by decide +kernel
theorem d_Words_addChecksOfWord_46 : decode b_Words_addChecksOfWord 46 = .ok (.iaload, 1) := by decide +kernel
theorem d_Words_addChecksOfWord_47 : decode b_Words_addChecksOfWord 47 = .ok (.aload_n 0, 1) := by decide +kernel
theorem d_Words_addChecksOfWord_48 : decode b_Words_addChecksOfWord 48 = .ok (.getfield 28, 3) := by decide +kernel
theorem d_Words_addChecksOfWord_51 : decode b_Words_addChecksOfWord 51 = .ok (.aload_n 1, 1) := by decide +kernel
theorem d_Words_addChecksOfWord_52 : decode b_Words_addChecksOfWord 52 = .ok (.iload 5, 2) := by decide +kernel
theorem d_Words_addChecksOfWord_54 : decode b_Words_addChecksOfWord 54 = .ok (.aload_n 0, 1) := by decide +kernel
theorem d_Words_addChecksOfWord_55 : decode b_Words_addChecksOfWord 55 = .ok (.getfield 24, 3) := by decide +kernel
theorem d_Words_addChecksOfWord_58 : decode b_Words_addChecksOfWord 58 = .ok (.getfield 66, 3) := by decide +kernel
theorem d_Words_addChecksOfWord_61 : decode b_Words_addChecksOfWord 61 = .ok (.imul, 1) := by decide +kernel
theorem d_Words_addChecksOfWord_62 : decode b_Words_addChecksOfWord 62 = .ok (.iload_n 2, 1) := by decide +kernel
theorem d_Words_addChecksOfWord_63 : decode b_Words_addChecksOfWord 63 = .ok (.iadd, 1) := by decide +kernel
theorem d_Words_addChecksOfWord_64 : decode b_Words_addChecksOfWord 64 = .ok (.iaload, 1) := by decide +kernel
theorem d_Words_addChecksOfWord_65 : decode b_Words_addChecksOfWord 65 = .ok (.invokevirtual 75, 3) := by decide +kernel
theorem d_Words_addChecksOfWord_68 : decode b_Words_addChecksOfWord 68 = .ok (.ixor, 1) := by decide +kernel
theorem d_Words_addChecksOfWord_69 : decode b_Words_addChecksOfWord 69 = .ok (.istore 6, 2) := by decide +kernel
theorem d_Words_addChecksOfWord_71 : decode b_Words_addChecksOfWord 71 = .ok (.iload_n 3, 1) := by decide +kernel
theorem d_Words_addChecksOfWord_72 : decode b_Words_addChecksOfWord 72 = .ok (.iconst 1, 1) := by decide +kernel
theorem d_Words_addChecksOfWord_73 : decode b_Words_addChecksOfWord 73 = .ok (.isub, 1) := by decide +kernel
theorem d_Words_addChecksOfWord_74 : decode b_Words_addChecksOfWord 74 = .ok (.istore 7, 2) := by decide +kernel
theorem d_Words_addChecksOfWord_76 : decode b_Words_addChecksOfWord 76 = .ok (.iload 7, 2) := by decide +kernel
theorem d_Words_addChecksOfWord_78 : decode b_Words_addChecksOfWord 78 = .ok (.ifCond .le 42, 3) := by decide +kernel
theorem d_Words_addChecksOfWord_81 : decode b_Words_addChecksOfWord 81 = .ok (.aload_n 0, 1) := by decide +kernel
theorem d_Words_addChecksOfWord_82 : decode b_Words_addChecksOfWord 82 = .ok (.getfield 15, 3) := by decide +kernel
theorem d_Words_addChecksOfWord_85 : decode b_Words_addChecksOfWord 85 = .ok (.iload 7, 2) := by decide +kernel
theorem d_Words_addChecksOfWord_87 : decode b_Words_addChecksOfWord 87 = .ok (.aload_n 0, 1) := by decide +kernel
theorem d_Words_addChecksOfWord_88 : decode b_Words_addChecksOfWord 88 = .ok (.getfield 15, 3) := by decide +kernel
theorem d_Words_addChecksOfWord_91 : decode b_Words_addChecksOfWord 91 = .ok (.iload 7, 2) := by decide +kernel
theorem d_Words_addChecksOfWord_93 : decode b_Words_addChecksOfWord 93 = .ok (.iconst 1, 1) := by decide +kernel
theorem d_Words_addChecksOfWord_94 : decode b_Words_addChecksOfWord 94 = .ok (.isub, 1) := by decide +kernel
theorem d_Words_addChecksOfWord_95 : decode b_Words_addChecksOfWord 95 = .ok (.iaload, 1) := by decide +kernel
theorem d_Words_addChecksOfWord_96 : decode b_Words_addChecksOfWord 96 = .ok (.aload_n 0, 1) := by decide +kernel
theorem d_Words_addChecksOfWord_97 : decode b_Words_addChecksOfWord 97 = .ok (.getfield 28, 3) := by decide +kernel
theorem d_Words_addChecksOfWord_100 : decode b_Words_addChecksOfWord 100 = .ok (.iload 6, 2) := by decide +kernel
theorem d_Words_addChecksOfWord_102 : decode b_Words_addChecksOfWord 102 = .ok (.aload_n 0, 1) := by decide +kernel
theorem d_Words_addChecksOfWord_103 : decode b_Words_addChecksOfWord 103 = .ok (.getfield 9, 3) := by decide +kernel
theorem d_Words_addChecksOfWord_106 : decode b_Words_addChecksOfWord 106 = .ok (.iload 7, 2) := by decide +kernel
theorem d_Words_addChecksOfWord_108 : decode b_Words_addChecksOfWord 108 = .ok (.iaload, 1) := by decide +kernel
theorem d_Words_addChecksOfWord_109 : decode b_Words_addChecksOfWord 109 = .ok (.invokevirtual 62, 3) := by decide +kernel
theorem d_Words_addChecksOfWord_112 : decode b_Words_addChecksOfWord 112 = .ok (.ixor, 1) := by decide +kernel
theorem d_Words_addChecksOfWord_113 : decode b_Words_addChecksOfWord 113 = .ok (.iastore, 1) := by decide +kernel
theorem d_Words_addChecksOfWord_114 : decode b_Words_addChecksOfWord 114 = .ok (.iinc 7 (-1), 3) := by decide +kernel
theorem d_Words_addChecksOfWord_117 : decode b_Words_addChecksOfWord 117 = .ok (.goto (-41), 3) := by decide +kernel
theorem d_Words_addChecksOfWord_120 : decode b_Words_addChecksOfWord 120 = .ok (.aload_n 0, 1) := by decide +kernel
theorem d_Words_addChecksOfWord_121 : decode b_Words_addChecksOfWord 121 = .ok (.getfield 15, 3) := by decide +kernel
theorem d_Words_addChecksOfWord_124 : decode b_Words_addChecksOfWord 124 = .ok (.iconst 0, 1) := by decide +kernel
theorem d_Words_addChecksOfWord_125 : decode b_Words_addChecksOfWord 125 = .ok (.aload_n 0, 1) := by decide +kernel
theorem d_Words_addChecksOfWord_126 : decode b_Words_addChecksOfWord 126 = .ok (.getfield 28, 3) := by decide +kernel
theorem d_Words_addChecksOfWord_129 : decode b_Words_addChecksOfWord 129 = .ok (.iload 6, 2) := by decide +kernel
theorem d_Words_addChecksOfWord_131 : decode b_Words_addChecksOfWord 131 = .ok (.aload_n 0, 1) := by decide +kernel
theorem d_Words_addChecksOfWord_132 : decode b_Words_addChecksOfWord 132 = .ok (.getfield 9, 3) := by decide +kernel
theorem d_Words_addChecksOfWord_135 : decode b_Words_addChecksOfWord 135 = .ok (.iconst 0, 1) := by decide +kernel
theorem d_Words_addChecksOfWord_136 : decode b_Words_addChecksOfWord 136 = .ok (.iaload, 1) := by decide +kernel
theorem d_Words_addChecksOfWord_137 : decode b_Words_addChecksOfWord 137 = .ok (.invokevirtual 62, 3) := by decide +kernel
theorem d_Words_addChecksOfWord_140 : decode b_Words_addChecksOfWord 140 = .ok (.iastore, 1) := by decide +kernel
theorem d_Words_addChecksOfWord_141 : decode b_Words_addChecksOfWord 141 = .ok (.iinc 5 1, 3) := by decide +kernel
theorem d_Words_addChecksOfWord_144 : decode b_Words_addChecksOfWord 144 = .ok (.goto (-112), 3) := by decide +kernel
theorem d_Words_addChecksOfWord_147 : decode b_Words_addChecksOfWord 147 = .ok (.iconst 0, 1) := by decide +kernel
theorem d_Words_addChecksOfWord_148 : decode b_Words_addChecksOfWord 148 = .ok (.istore 5, 2) := by decide +kernel
theorem d_Words_addChecksOfWord_150 : decode b_Words_addChecksOfWord 150 = .ok (.iload 5, 2) := by decide +kernel
theorem d_Words_addChecksOfWord_152 : decode b_Words_addChecksOfWord 152 = .ok (.iload_n 3, 1) := by decide +kernel
theorem d_Words_addChecksOfWord_153 : decode b_Words_addChecksOfWord 153 = .ok (.if_icmp .ge 48, 3) := by decide +kernel
theorem d_Words_addChecksOfWord_156 : decode b_Words_addChecksOfWord 156 = .ok (.iload 4, 2) := by decide +kernel
theorem d_Words_addChecksOfWord_158 : decode b_Words_addChecksOfWord 158 = .ok (.iload 5, 2) := by decide +kernel
theorem d_Words_addChecksOfWord_160 : decode b_Words_addChecksOfWord 160 = .ok (.iadd, 1) := by decide +kernel
theorem d_Words_addChecksOfWord_161 : decode b_Words_addChecksOfWord 161 = .ok (.aload_n 0, 1) := by decide +kernel
theorem d_Words_addChecksOfWord_162 : decode b_Words_addChecksOfWord 162 = .ok (.getfield 24, 3) := by decide +kernel
theorem d_Words_addChecksOfWord_165 : decode b_Words_addChecksOfWord 165 = .ok (.getfield 66, 3) := by decide +kernel
theorem d_Words_addChecksOfWord_168 : decode b_Words_addChecksOfWord 168 = .ok (.imul, 1) := by decide +kernel
theorem d_Words_addChecksOfWord_169 : decode b_Words_addChecksOfWord 169 = .ok (.iload_n 2, 1) := by decide +kernel
theorem d_Words_addChecksOfWord_170 : decode b_Words_addChecksOfWord 170 = .ok (.iadd, 1) := by decide +kernel
theorem d_Words_addChecksOfWord_171 : decode b_Words_addChecksOfWord 171 = .ok (.istore 6, 2) := by decide +kernel
theorem d_Words_addChecksOfWord_173 : decode b_Words_addChecksOfWord 173 = .ok (.aload_n 1, 1) := by decide +kernel
theorem d_Words_addChecksOfWord_174 : decode b_Words_addChecksOfWord 174 = .ok (.iload 6, 2) := by decide +kernel
theorem d_Words_addChecksOfWord_176 : decode b_Words_addChecksOfWord 176 = .ok (.aload_n 0, 1) := by decide +kernel
theorem d_Words_addChecksOfWord_177 : decode b_Words_addChecksOfWord 177 = .ok (.getfield 28, 3) := by decide +kernel
theorem d_Words_addChecksOfWord_180 : decode b_Words_addChecksOfWord 180 = .ok (.aload_n 0, 1) := by decide +kernel
theorem d_Words_addChecksOfWord_181 : decode b_Words_addChecksOfWord 181 = .ok (.getfield 15, 3) := by decide +kernel
theorem d_Words_addChecksOfWord_184 : decode b_Words_addChecksOfWord 184 = .ok (.iload_n 3, 1) := by decide +kernel
theorem d_Words_addChecksOfWord_185 : decode b_Words_addChecksOfWord 185 = .ok (.iconst 1, 1) := by decide +kernel
theorem d_Words_addChecksOfWord_186 : decode b_Words_addChecksOfWord 186 = .ok (.isub, 1) := by decide +kernel
theorem d_Words_addChecksOfWord_187 : decode b_Words_addChecksOfWord 187 = .ok (.iload 5, 2) := by decide +kernel
theorem d_Words_addChecksOfWord_189 : decode b_Words_addChecksOfWord 189 = .ok (.isub, 1) := by decide +kernel
theorem d_Words_addChecksOfWord_190 : decode b_Words_addChecksOfWord 190 = .ok (.iaload, 1) := by decide +kernel
theorem d_Words_addChecksOfWord_191 : decode b_Words_addChecksOfWord 191 = .ok (.invokevirtual 78, 3) := by decide +kernel
theorem d_Words_addChecksOfWord_194 : decode b_Words_addChecksOfWord 194 = .ok (.iastore, 1) := by decide +kernel
theorem d_Words_addChecksOfWord_195 : decode b_Words_addChecksOfWord 195 = .ok (.iinc 5 1, 3) := by decide +kernel
theorem d_Words_addChecksOfWord_198 : decode b_Words_addChecksOfWord 198 = .ok (.goto (-48), 3) := by decide +kernel
theorem d_Words_addChecksOfWord_201 : decode b_Words_addChecksOfWord 201 = .ok (.return_, 1) := by decide +kernel
theorem ok_Words_addChecksOfWord : OKv y_Words_addChecksOfWord b_Words_addChecksOfWord 8 none "DeepChannel$Words" 2 := ⟨k_627, k_626, k_3, k_44, by decide +kernel, by decide +kernel, by decide +kernel⟩
abbrev w_Words_addChecksOfWord (cI cJ : ClassId) (qWd qSh qWd_remainder qFd qFd_otherForms qP1 qFd_elements qWd_generator qFd_logs qFd_powers : Nat) (Wd_coefficients Wd_syndromes Wd_locator Sh_pattern : Value) (nP1 : Nat) (Sh_depth : Int32) (Sh_wordBytes : Int32) (Sh_e : Int32) (Wd_remainder : Nat → Int32) (Fd_otherForms : Nat → Int32) (p1 : Nat → Int32) (Fd_elements : Nat → Int32) (Wd_generator : Nat → Int32) (Fd_logs : Nat → Int32) (Fd_powers : Nat → Int32) : va_W := [(qWd, .inr (9, [.ref qSh, .ref qFd, .ref qWd_generator, .ref qWd_remainder, Wd_coefficients, Wd_syndromes, Wd_locator])), (qSh, .inr (8, [.int Sh_depth, .int Sh_wordBytes, .int Sh_e, Sh_pattern])), (qWd_remainder, .inl (cI, 32, .inl Wd_remainder)), (qFd, .inr (2, [.ref qFd_powers, .ref qFd_logs, .ref qFd_otherForms, .ref qFd_elements])), (qFd_otherForms, .inl (cI, 256, .inl Fd_otherForms)), (qP1, .inl (cI, nP1, .inl p1)), (qFd_elements, .inl (cI, 256, .inl Fd_elements)), (qWd_generator, .inl (cI, 33, .inl Wd_generator)), (qFd_logs, .inl (cI, 256, .inl Fd_logs)), (qFd_powers, .inl (cI, 255, .inl Fd_powers))]
def f_Words_addChecksOfWord_150_b (Sh_depth : Int32) (Fd_otherForms : Nat → Int32) (nP1 : Nat) (kh150 : Int32 → Int32 → Int32 → Int32 → (Nat → Int32) → (Nat → Int32) → Option ((Nat → Int32) × (Nat → Int32))) (x2 : Int32) (x3 : Int32) (x4 : Int32) (x5 : Int32) (Wd_remainder : Nat → Int32) (p1 : Nat → Int32) : Option ((Nat → Int32) × (Nat → Int32)) :=
  if x3 ≤ x5 then
    some (Wd_remainder, p1)
  else
  nm (((x4 + x5) * Sh_depth) + x2) fun v1 =>
  rdI Wd_remainder 32 ((x3 - (1 : Int32)) - x5) fun v2 =>
  bd (f_Field_otherForm Fd_otherForms v2) fun u4 =>
  nm u4 fun r3 =>
  wrI p1 nP1 v1 r3 fun g5 =>
  nm (x5 + (1 : Int32)) fun v6 =>
  kh150 x2 x3 x4 v6 Wd_remainder g5
def f_Words_addChecksOfWord_150 (Sh_depth : Int32) (Fd_otherForms : Nat → Int32) (nP1 : Nat) : Nat → Int32 → Int32 → Int32 → Int32 → (Nat → Int32) → (Nat → Int32) → Option ((Nat → Int32) × (Nat → Int32))
  | 0 => fun _ _ _ _ _ _ => none
  | n + 1 => fun x2 x3 x4 x5 Wd_remainder p1 => f_Words_addChecksOfWord_150_b Sh_depth Fd_otherForms nP1 (f_Words_addChecksOfWord_150 Sh_depth Fd_otherForms nP1 n) x2 x3 x4 x5 Wd_remainder p1
def f_Words_addChecksOfWord_147 (Sh_depth : Int32) (Fd_otherForms : Nat → Int32) (nP1 : Nat) (x2 : Int32) (x3 : Int32) (x4 : Int32) (Wd_remainder : Nat → Int32) (p1 : Nat → Int32) : Option ((Nat → Int32) × (Nat → Int32)) :=
  f_Words_addChecksOfWord_150 Sh_depth Fd_otherForms nP1 10000 x2 x3 x4 (0 : Int32) Wd_remainder p1
def f_Words_addChecksOfWord_120 (Wd_generator : Nat → Int32) (Fd_logs : Nat → Int32) (Fd_powers : Nat → Int32) (kh32 : Int32 → Int32 → Int32 → Int32 → (Nat → Int32) → (Nat → Int32) → Option ((Nat → Int32) × (Nat → Int32))) (x2 : Int32) (x3 : Int32) (x4 : Int32) (x5 : Int32) (x6 : Int32) (Wd_remainder : Nat → Int32) (p1 : Nat → Int32) : Option ((Nat → Int32) × (Nat → Int32)) :=
  rdI Wd_generator 33 (0 : Int32) fun v7 =>
  bd (f_Field_product Fd_logs Fd_powers x6 v7) fun u9 =>
  nm u9 fun r8 =>
  wrI Wd_remainder 32 (0 : Int32) r8 fun g10 =>
  nm (x5 + (1 : Int32)) fun v11 =>
  kh32 x2 x3 x4 v11 g10 p1
def f_Words_addChecksOfWord_76_b (Wd_generator : Nat → Int32) (Fd_logs : Nat → Int32) (Fd_powers : Nat → Int32) (kh32 : Int32 → Int32 → Int32 → Int32 → (Nat → Int32) → (Nat → Int32) → Option ((Nat → Int32) × (Nat → Int32))) (kh76 : Int32 → Int32 → Int32 → Int32 → Int32 → Int32 → (Nat → Int32) → (Nat → Int32) → Option ((Nat → Int32) × (Nat → Int32))) (x2 : Int32) (x3 : Int32) (x4 : Int32) (x5 : Int32) (x6 : Int32) (x7 : Int32) (Wd_remainder : Nat → Int32) (p1 : Nat → Int32) : Option ((Nat → Int32) × (Nat → Int32)) :=
  if x7 ≤ 0 then
    f_Words_addChecksOfWord_120 Wd_generator Fd_logs Fd_powers kh32 x2 x3 x4 x5 x6 Wd_remainder p1
  else
  rdI Wd_remainder 32 (x7 - (1 : Int32)) fun v12 =>
  rdI Wd_generator 33 x7 fun v13 =>
  bd (f_Field_product Fd_logs Fd_powers x6 v13) fun u15 =>
  nm u15 fun r14 =>
  wrI Wd_remainder 32 x7 (v12 ^^^ r14) fun g16 =>
  nm (x7 + (-1 : Int32)) fun v17 =>
  kh76 x2 x3 x4 x5 x6 v17 g16 p1
def f_Words_addChecksOfWord_76 (Wd_generator : Nat → Int32) (Fd_logs : Nat → Int32) (Fd_powers : Nat → Int32) (kh32 : Int32 → Int32 → Int32 → Int32 → (Nat → Int32) → (Nat → Int32) → Option ((Nat → Int32) × (Nat → Int32))) : Nat → Int32 → Int32 → Int32 → Int32 → Int32 → Int32 → (Nat → Int32) → (Nat → Int32) → Option ((Nat → Int32) × (Nat → Int32))
  | 0 => fun _ _ _ _ _ _ _ _ => none
  | n + 1 => fun x2 x3 x4 x5 x6 x7 Wd_remainder p1 => f_Words_addChecksOfWord_76_b Wd_generator Fd_logs Fd_powers kh32 (f_Words_addChecksOfWord_76 Wd_generator Fd_logs Fd_powers kh32 n) x2 x3 x4 x5 x6 x7 Wd_remainder p1
def f_Words_addChecksOfWord_32_b (Sh_depth : Int32) (Fd_otherForms : Nat → Int32) (Fd_elements : Nat → Int32) (Wd_generator : Nat → Int32) (Fd_logs : Nat → Int32) (Fd_powers : Nat → Int32) (nP1 : Nat) (kh32 : Int32 → Int32 → Int32 → Int32 → (Nat → Int32) → (Nat → Int32) → Option ((Nat → Int32) × (Nat → Int32))) (x2 : Int32) (x3 : Int32) (x4 : Int32) (x5 : Int32) (Wd_remainder : Nat → Int32) (p1 : Nat → Int32) : Option ((Nat → Int32) × (Nat → Int32)) :=
  if x4 ≤ x5 then
    f_Words_addChecksOfWord_147 Sh_depth Fd_otherForms nP1 x2 x3 x4 Wd_remainder p1
  else
  rdI Wd_remainder 32 (x3 - (1 : Int32)) fun v18 =>
  rdI p1 nP1 ((x5 * Sh_depth) + x2) fun v19 =>
  bd (f_Field_element Fd_elements v19) fun u21 =>
  nm u21 fun r20 =>
  nm (v18 ^^^ r20) fun v22 =>
  nm (x3 - (1 : Int32)) fun v23 =>
  f_Words_addChecksOfWord_76 Wd_generator Fd_logs Fd_powers kh32 10000 x2 x3 x4 x5 v22 v23 Wd_remainder p1
def f_Words_addChecksOfWord_32 (Sh_depth : Int32) (Fd_otherForms : Nat → Int32) (Fd_elements : Nat → Int32) (Wd_generator : Nat → Int32) (Fd_logs : Nat → Int32) (Fd_powers : Nat → Int32) (nP1 : Nat) : Nat → Int32 → Int32 → Int32 → Int32 → (Nat → Int32) → (Nat → Int32) → Option ((Nat → Int32) × (Nat → Int32))
  | 0 => fun _ _ _ _ _ _ => none
  | n + 1 => fun x2 x3 x4 x5 Wd_remainder p1 => f_Words_addChecksOfWord_32_b Sh_depth Fd_otherForms Fd_elements Wd_generator Fd_logs Fd_powers nP1 (f_Words_addChecksOfWord_32 Sh_depth Fd_otherForms Fd_elements Wd_generator Fd_logs Fd_powers nP1 n) x2 x3 x4 x5 Wd_remainder p1
def f_Words_addChecksOfWord (Sh_depth : Int32) (Sh_wordBytes : Int32) (Sh_e : Int32) (Wd_remainder : Nat → Int32) (Fd_otherForms : Nat → Int32) (p1 : Nat → Int32) (Fd_elements : Nat → Int32) (Wd_generator : Nat → Int32) (Fd_logs : Nat → Int32) (Fd_powers : Nat → Int32) (nP1 : Nat) (x2 : Int32) : Option ((Nat → Int32) × (Nat → Int32)) :=
  nm ((2 : Int32) * Sh_e) fun v24 =>
  nm (Sh_wordBytes - v24) fun v25 =>
  bd (f_Arrays_fillI Wd_remainder 32 (0 : Int32)) fun u27 =>
  nm u27 fun g26 =>
  f_Words_addChecksOfWord_32 Sh_depth Fd_otherForms Fd_elements Wd_generator Fd_logs Fd_powers nP1 10000 x2 v24 v25 (0 : Int32) g26 p1
set_option maxHeartbeats 4000000 in
set_option maxRecDepth 100000 in
theorem c_Words_addChecksOfWord (l : Launch) (D : va_G) (cI cJ : ClassId) (tt : Nat → Nat) (qWd qSh qWd_remainder qFd qFd_otherForms qP1 qFd_elements qWd_generator qFd_logs qFd_powers : Nat) (Wd_coefficients Wd_syndromes Wd_locator Sh_pattern : Value) (nP1 : Nat) (sz : Nat) (Sh_depth : Int32) (Sh_wordBytes : Int32) (Sh_e : Int32) (Wd_remainder : Nat → Int32) (Fd_otherForms : Nat → Int32) (p1 : Nat → Int32) (Fd_elements : Nat → Int32) (Wd_generator : Nat → Int32) (Fd_logs : Nat → Int32) (Fd_powers : Nat → Int32) (x2 : Int32) (Wd_remainder' : Nat → Int32) (p1' : Nat → Int32) (hm : f_Words_addChecksOfWord Sh_depth Sh_wordBytes Sh_e Wd_remainder Fd_otherForms p1 Fd_elements Wd_generator Fd_logs Fd_powers nP1 x2 = some (Wd_remainder', p1')) : CTv l y_Words_addChecksOfWord b_Words_addChecksOfWord 8 none (RM 1 23) D cI cJ tt [.ref qWd, .ref qP1, .int x2] (w_Words_addChecksOfWord cI cJ qWd qSh qWd_remainder qFd qFd_otherForms qP1 qFd_elements qWd_generator qFd_logs qFd_powers Wd_coefficients Wd_syndromes Wd_locator Sh_pattern nP1 Sh_depth Sh_wordBytes Sh_e Wd_remainder Fd_otherForms p1 Fd_elements Wd_generator Fd_logs Fd_powers) (w_Words_addChecksOfWord cI cJ qWd qSh qWd_remainder qFd qFd_otherForms qP1 qFd_elements qWd_generator qFd_logs qFd_powers Wd_coefficients Wd_syndromes Wd_locator Sh_pattern nP1 Sh_depth Sh_wordBytes Sh_e Wd_remainder' Fd_otherForms p1' Fd_elements Wd_generator Fd_logs Fd_powers) sz := by
  refine Met.ofW (cc := b_Words_addChecksOfWord) (maxL := 8) (ret := none) (by decide) rfl ?_
  intro p e s m args below meth c s₁ B hml hv
  obtain ⟨hargs, hsz, hP, hK, hD0, hE⟩ := hv
  have hx := B.exec
  have hb := B.bytes
  have hr := B.returns
  have hts : ∀ w ∈ TB, w.before args s = true := z_mV s (atoms_spec (ws := WD y_Words_addChecksOfWord b_Words_addChecksOfWord 8 none) B.pre)
  have hown : s.vm.findClass "DeepChannel$Words" = some m.cls := findClass_of_methodNamed B.named
  have hlocks := B.notSynchronized
  subst hsz
  have hD := hD0.self (sz := s.heap.size)
  generalize hAe : va_A (w_Words_addChecksOfWord cI cJ qWd qSh qWd_remainder qFd qFd_otherForms qP1 qFd_elements qWd_generator qFd_logs qFd_powers Wd_coefficients Wd_syndromes Wd_locator Sh_pattern nP1 Sh_depth Sh_wordBytes Sh_e Wd_remainder Fd_otherForms p1 Fd_elements Wd_generator Fd_logs Fd_powers) s.heap.size = A at hD hE ⊢
  have hA : ∀ q : Nat, s.heap.size ≤ q → A q := fun q h => by rw [← hAe]; exact Or.inr h
  have hS : va_S A s.heap s.heap [] := va_S.rf
  refine z_entry (vs := [.ref qWd, .ref qP1, .int x2]) hargs (Nat.le_of_ble_eq_true rfl) (fun ls hl => ?_)
  have hl : lv_has ls 8 [(0, .ref qWd), (1, .ref qP1), (2, .int x2)] := hl
  show W p l e (RM 1 23) s m args below meth c s.heap [] 0 0 _ _
  refine z_qi (fun Q0 hQ => ?_)
  have F : CallFix p m c b_Words_addChecksOfWord 8 s args TB "DeepChannel$Words" := ⟨hx, hb, hml, hown, hts⟩
  have T150 : ∀ (n150 : Nat) (x2 : Int32) (x3 : Int32) (x4 : Int32) (x5 : Int32) (Wd_remainder : Nat → Int32) (p1 : Nat → Int32), f_Words_addChecksOfWord_150 Sh_depth Fd_otherForms nP1 n150 x2 x3 x4 x5 Wd_remainder p1 = some (Wd_remainder', p1') → ∀ (H : Heap) (locs : List Loc), va_P D classes (w_Words_addChecksOfWord cI cJ qWd qSh qWd_remainder qFd qFd_otherForms qP1 qFd_elements qWd_generator qFd_logs qFd_powers Wd_coefficients Wd_syndromes Wd_locator Sh_pattern nP1 Sh_depth Sh_wordBytes Sh_e Wd_remainder Fd_otherForms p1 Fd_elements Wd_generator Fd_logs Fd_powers) H → va_D A (w_Words_addChecksOfWord cI cJ qWd qSh qWd_remainder qFd qFd_otherForms qP1 qFd_elements qWd_generator qFd_logs qFd_powers Wd_coefficients Wd_syndromes Wd_locator Sh_pattern nP1 Sh_depth Sh_wordBytes Sh_e Wd_remainder Fd_otherForms p1 Fd_elements Wd_generator Fd_logs Fd_powers) → va_S A s.heap H locs → ∀ (ls : Array Slot), lv_has ls 8 [(0, .ref qWd), (1, .ref qP1), (2, .int x2), (3, .int x3), (4, .int x4), (5, .int x5)] → W p l e (RM 1 23) s m args below meth c H locs 0 0 Q0 (F0 m 150 ls []) := by
    intro n150
    induction n150 with
    | zero => intro x2 x3 x4 x5 Wd_remainder p1 hm; cases hm
    | succ n150 ih150 =>
      intro x2 x3 x4 x5 Wd_remainder p1 hm H locs hP hD hS ls hl
      replace hm : f_Words_addChecksOfWord_150_b Sh_depth Fd_otherForms nP1 (f_Words_addChecksOfWord_150 Sh_depth Fd_otherForms nP1 n150) x2 x3 x4 x5 Wd_remainder p1 = some (Wd_remainder', p1') := hm
      unfold f_Words_addChecksOfWord_150_b at hm
      refine lv_iload hx hb d_Words_addChecksOfWord_150 (lv_at hl 5 rfl) ?_
      refine lv_iload_n hx hb d_Words_addChecksOfWord_152 rfl (lv_at hl 3 rfl) ?_
      refine z_if hm (lv_icmp_ge (tgt := 201) hx hb d_Words_addChecksOfWord_153 (by decide)) (fun hm => ?_) (fun hm => ?_)
      · cases hm
        exact z_qo hQ (z_vret hr hx hb hlocks hK hP hD hS d_Words_addChecksOfWord_201)
      · refine lv_iload hx hb d_Words_addChecksOfWord_156 (lv_at hl 4 rfl) ?_
        refine lv_iload hx hb d_Words_addChecksOfWord_158 (lv_at hl 5 rfl) ?_
        refine lv_iadd hx hb d_Words_addChecksOfWord_160 ?_
        refine lv_aload_n hx hb d_Words_addChecksOfWord_161 rfl (lv_at hl 0 rfl) ?_
        refine va_get (D := D) (ci := 9) (v := .ref qSh) (C := "DeepChannel$Words") (T := fT_Words) (N := 7) hx hb hts u_Words hown hK hP 0 rfl rfl 0 (by decide) (hts _ k_168) (fun _ h9 => h9) rfl d_Words_addChecksOfWord_162 ?_
        refine va_getN (D := D) (ci := 8) (v := .int Sh_depth) (C := "DeepChannel$Shape") (T := fT_Shape) (N := 4) hx hb hts u_Shape hown hK hP 1 rfl rfl 0 (by decide) (va_Nw.use rfl (hE.1 _ (List.mem_of_getElem? (i := 1) rfl))) (fun _ h9 => h9) rfl d_Words_addChecksOfWord_165 ?_
        refine lv_imul hx hb d_Words_addChecksOfWord_168 ?_
        refine lv_iload_n hx hb d_Words_addChecksOfWord_169 rfl (lv_at hl 2 rfl) ?_
        refine lv_iadd hx hb d_Words_addChecksOfWord_170 ?_
        refine z_nmi hm (fun v1 hm => ?_)
        refine lv_istore (lv' := [(6, .int v1), (0, .ref qWd), (1, .ref qP1), (2, .int x2), (3, .int x3), (4, .int x4), (5, .int x5)]) hx hb d_Words_addChecksOfWord_171 hl (by decide) rfl (fun ls hl => ?_)
        refine lv_aload_n hx hb d_Words_addChecksOfWord_173 rfl (lv_at hl 2 rfl) ?_
        refine lv_iload hx hb d_Words_addChecksOfWord_174 (lv_at hl 0 rfl) ?_
        refine lv_aload_n hx hb d_Words_addChecksOfWord_176 rfl (lv_at hl 1 rfl) ?_
        refine va_get (D := D) (ci := 9) (v := .ref qFd) (C := "DeepChannel$Words") (T := fT_Words) (N := 7) hx hb hts u_Words hown hK hP 0 rfl rfl 1 (by decide) (hts _ k_169) (fun _ h9 => h9) rfl d_Words_addChecksOfWord_177 ?_
        refine lv_aload_n hx hb d_Words_addChecksOfWord_180 rfl (lv_at hl 1 rfl) ?_
        refine va_get (D := D) (ci := 9) (v := .ref qWd_remainder) (C := "DeepChannel$Words") (T := fT_Words) (N := 7) hx hb hts u_Words hown hK hP 0 rfl rfl 3 (by decide) (hts _ k_171) (fun _ h9 => h9) rfl d_Words_addChecksOfWord_181 ?_
        refine lv_iload_n hx hb d_Words_addChecksOfWord_184 rfl (lv_at hl 4 rfl) ?_
        refine lv_iconst (v := (1 : Int32)) hx hb d_Words_addChecksOfWord_185 (by decide) ?_
        refine lv_isub hx hb d_Words_addChecksOfWord_186 ?_
        refine lv_iload hx hb d_Words_addChecksOfWord_187 (lv_at hl 6 rfl) ?_
        refine lv_isub hx hb d_Words_addChecksOfWord_189 ?_
        refine z_iald hm hx hb hK hP 2 rfl d_Words_addChecksOfWord_190 (fun v2 hm => ?_)
        obtain ⟨r3, hu, hm⟩ := bd_el hm
        replace hm := nm_1 hm
        refine z_cVi (wc := w_Field_otherForm cI cJ qFd qFd_otherForms (.ref qFd_powers) (.ref qFd_logs) (.ref qFd_elements) Fd_otherForms) (wc' := w_Field_otherForm cI cJ qFd qFd_otherForms (.ref qFd_powers) (.ref qFd_logs) (.ref qFd_elements) Fd_otherForms) (wr := [(qWd, .inr (9, [.ref qSh, .ref qFd, .ref qWd_generator, .ref qWd_remainder, Wd_coefficients, Wd_syndromes, Wd_locator])), (qSh, .inr (8, [.int Sh_depth, .int Sh_wordBytes, .int Sh_e, Sh_pattern])), (qWd_remainder, .inl (cI, 32, .inl Wd_remainder)), (qP1, .inl (cI, nP1, .inl p1)), (qFd_elements, .inl (cI, 256, .inl Fd_elements)), (qWd_generator, .inl (cI, 33, .inl Wd_generator)), (qFd_logs, .inl (cI, 256, .inl Fd_logs)), (qFd_powers, .inl (cI, 255, .inl Fd_powers))]) (As := [.int v2]) (rest := [.int v1, .ref qP1]) (c_Field_otherForm l D cI cJ tt qFd qFd_otherForms (.ref qFd_powers) (.ref qFd_logs) (.ref qFd_elements) _ Fd_otherForms v2 r3 hu) F ok_Field_otherForm rfl k_632 hK hE hP hD hS hA [3, 4] [0, 1, 2, 5, 6, 7, 8, 9] rfl rfl (by decide) (by decide) (by decide) 0 rfl rfl rfl ⟨rfl, rfl, Nat.le_of_ble_eq_true rfl, Nat.le_of_ble_eq_true rfl⟩ ⟨Nat.zero_le _, Nat.zero_le _⟩ rfl hl.1 rfl (Nat.le_of_ble_eq_true rfl) d_Words_addChecksOfWord_191 (fun H locs hP hD hS => ?_)
        have hP : va_P D classes (w_Words_addChecksOfWord cI cJ qWd qSh qWd_remainder qFd qFd_otherForms qP1 qFd_elements qWd_generator qFd_logs qFd_powers Wd_coefficients Wd_syndromes Wd_locator Sh_pattern nP1 Sh_depth Sh_wordBytes Sh_e Wd_remainder Fd_otherForms p1 Fd_elements Wd_generator Fd_logs Fd_powers) H := hP.sub [0, 1, 2, 8, 9, 3, 4, 5, 6, 7] rfl
        have hD : va_D A (w_Words_addChecksOfWord cI cJ qWd qSh qWd_remainder qFd qFd_otherForms qP1 qFd_elements qWd_generator qFd_logs qFd_powers Wd_coefficients Wd_syndromes Wd_locator Sh_pattern nP1 Sh_depth Sh_wordBytes Sh_e Wd_remainder Fd_otherForms p1 Fd_elements Wd_generator Fd_logs Fd_powers) := hD.sub [0, 1, 2, 8, 9, 3, 4, 5, 6, 7] (by decide) rfl
        refine z_iast hm hx hb hK hP hD hS 5 rfl d_Words_addChecksOfWord_194 (fun g5 hm H locs hP hD hS => ?_)
        have hP : va_P D classes (w_Words_addChecksOfWord cI cJ qWd qSh qWd_remainder qFd qFd_otherForms qP1 qFd_elements qWd_generator qFd_logs qFd_powers Wd_coefficients Wd_syndromes Wd_locator Sh_pattern nP1 Sh_depth Sh_wordBytes Sh_e Wd_remainder Fd_otherForms g5 Fd_elements Wd_generator Fd_logs Fd_powers) H := hP
        have hD : va_D A (w_Words_addChecksOfWord cI cJ qWd qSh qWd_remainder qFd qFd_otherForms qP1 qFd_elements qWd_generator qFd_logs qFd_powers Wd_coefficients Wd_syndromes Wd_locator Sh_pattern nP1 Sh_depth Sh_wordBytes Sh_e Wd_remainder Fd_otherForms g5 Fd_elements Wd_generator Fd_logs Fd_powers) := hD
        obtain ⟨v6, ev, hm⟩ := nm_el hm
        refine lv_iinc (v := v6) (lv' := [(5, .int v6), (6, .int v1), (0, .ref qWd), (1, .ref qP1), (2, .int x2), (3, .int x3), (4, .int x4)]) hx hb d_Words_addChecksOfWord_195 hl (k := 6) rfl (by rw [ev]; rfl) (by decide) rfl (fun ls hl => ?_)
        refine lv_goto (tgt := 150) hx hb d_Words_addChecksOfWord_198 (by decide) ?_
        exact ih150 x2 x3 x4 v6 Wd_remainder g5 hm _ _ hP hD hS _ (lv_sub hl [2, 3, 4, 5, 6, 0] rfl)
  have T147 : ∀ (x2 : Int32) (x3 : Int32) (x4 : Int32) (Wd_remainder : Nat → Int32) (p1 : Nat → Int32), f_Words_addChecksOfWord_147 Sh_depth Fd_otherForms nP1 x2 x3 x4 Wd_remainder p1 = some (Wd_remainder', p1') → ∀ (H : Heap) (locs : List Loc), va_P D classes (w_Words_addChecksOfWord cI cJ qWd qSh qWd_remainder qFd qFd_otherForms qP1 qFd_elements qWd_generator qFd_logs qFd_powers Wd_coefficients Wd_syndromes Wd_locator Sh_pattern nP1 Sh_depth Sh_wordBytes Sh_e Wd_remainder Fd_otherForms p1 Fd_elements Wd_generator Fd_logs Fd_powers) H → va_D A (w_Words_addChecksOfWord cI cJ qWd qSh qWd_remainder qFd qFd_otherForms qP1 qFd_elements qWd_generator qFd_logs qFd_powers Wd_coefficients Wd_syndromes Wd_locator Sh_pattern nP1 Sh_depth Sh_wordBytes Sh_e Wd_remainder Fd_otherForms p1 Fd_elements Wd_generator Fd_logs Fd_powers) → va_S A s.heap H locs → ∀ (ls : Array Slot), lv_has ls 8 [(0, .ref qWd), (1, .ref qP1), (2, .int x2), (3, .int x3), (4, .int x4)] → W p l e (RM 1 23) s m args below meth c H locs 0 0 Q0 (F0 m 147 ls []) := by
    intro x2 x3 x4 Wd_remainder p1 hm H locs hP hD hS ls hl
    unfold f_Words_addChecksOfWord_147 at hm
    refine lv_iconst (v := (0 : Int32)) hx hb d_Words_addChecksOfWord_147 (by decide) ?_
    refine lv_istore (lv' := [(5, .int (0 : Int32)), (0, .ref qWd), (1, .ref qP1), (2, .int x2), (3, .int x3), (4, .int x4)]) hx hb d_Words_addChecksOfWord_148 hl (by decide) rfl (fun ls hl => ?_)
    exact T150 10000 x2 x3 x4 (0 : Int32) Wd_remainder p1 hm _ _ hP hD hS _ (lv_sub hl [1, 2, 3, 4, 5, 0] rfl)
  have T32 : ∀ (n32 : Nat) (x2 : Int32) (x3 : Int32) (x4 : Int32) (x5 : Int32) (Wd_remainder : Nat → Int32) (p1 : Nat → Int32), f_Words_addChecksOfWord_32 Sh_depth Fd_otherForms Fd_elements Wd_generator Fd_logs Fd_powers nP1 n32 x2 x3 x4 x5 Wd_remainder p1 = some (Wd_remainder', p1') → ∀ (H : Heap) (locs : List Loc), va_P D classes (w_Words_addChecksOfWord cI cJ qWd qSh qWd_remainder qFd qFd_otherForms qP1 qFd_elements qWd_generator qFd_logs qFd_powers Wd_coefficients Wd_syndromes Wd_locator Sh_pattern nP1 Sh_depth Sh_wordBytes Sh_e Wd_remainder Fd_otherForms p1 Fd_elements Wd_generator Fd_logs Fd_powers) H → va_D A (w_Words_addChecksOfWord cI cJ qWd qSh qWd_remainder qFd qFd_otherForms qP1 qFd_elements qWd_generator qFd_logs qFd_powers Wd_coefficients Wd_syndromes Wd_locator Sh_pattern nP1 Sh_depth Sh_wordBytes Sh_e Wd_remainder Fd_otherForms p1 Fd_elements Wd_generator Fd_logs Fd_powers) → va_S A s.heap H locs → ∀ (ls : Array Slot), lv_has ls 8 [(0, .ref qWd), (1, .ref qP1), (2, .int x2), (3, .int x3), (4, .int x4), (5, .int x5)] → W p l e (RM 1 23) s m args below meth c H locs 0 0 Q0 (F0 m 32 ls []) := by
    intro n32
    induction n32 with
    | zero => intro x2 x3 x4 x5 Wd_remainder p1 hm; cases hm
    | succ n32 ih32 =>
      have T120 : ∀ (x2 : Int32) (x3 : Int32) (x4 : Int32) (x5 : Int32) (x6 : Int32) (Wd_remainder : Nat → Int32) (p1 : Nat → Int32), f_Words_addChecksOfWord_120 Wd_generator Fd_logs Fd_powers (f_Words_addChecksOfWord_32 Sh_depth Fd_otherForms Fd_elements Wd_generator Fd_logs Fd_powers nP1 n32) x2 x3 x4 x5 x6 Wd_remainder p1 = some (Wd_remainder', p1') → ∀ (H : Heap) (locs : List Loc), va_P D classes (w_Words_addChecksOfWord cI cJ qWd qSh qWd_remainder qFd qFd_otherForms qP1 qFd_elements qWd_generator qFd_logs qFd_powers Wd_coefficients Wd_syndromes Wd_locator Sh_pattern nP1 Sh_depth Sh_wordBytes Sh_e Wd_remainder Fd_otherForms p1 Fd_elements Wd_generator Fd_logs Fd_powers) H → va_D A (w_Words_addChecksOfWord cI cJ qWd qSh qWd_remainder qFd qFd_otherForms qP1 qFd_elements qWd_generator qFd_logs qFd_powers Wd_coefficients Wd_syndromes Wd_locator Sh_pattern nP1 Sh_depth Sh_wordBytes Sh_e Wd_remainder Fd_otherForms p1 Fd_elements Wd_generator Fd_logs Fd_powers) → va_S A s.heap H locs → ∀ (ls : Array Slot), lv_has ls 8 [(0, .ref qWd), (1, .ref qP1), (2, .int x2), (3, .int x3), (4, .int x4), (5, .int x5), (6, .int x6)] → W p l e (RM 1 23) s m args below meth c H locs 0 0 Q0 (F0 m 120 ls []) := by
        intro x2 x3 x4 x5 x6 Wd_remainder p1 hm H locs hP hD hS ls hl
        unfold f_Words_addChecksOfWord_120 at hm
        refine lv_aload_n hx hb d_Words_addChecksOfWord_120 rfl (lv_at hl 0 rfl) ?_
        refine va_get (D := D) (ci := 9) (v := .ref qWd_remainder) (C := "DeepChannel$Words") (T := fT_Words) (N := 7) hx hb hts u_Words hown hK hP 0 rfl rfl 3 (by decide) (hts _ k_171) (fun _ h9 => h9) rfl d_Words_addChecksOfWord_121 ?_
        refine lv_iconst (v := (0 : Int32)) hx hb d_Words_addChecksOfWord_124 (by decide) ?_
        refine lv_aload_n hx hb d_Words_addChecksOfWord_125 rfl (lv_at hl 0 rfl) ?_
        refine va_get (D := D) (ci := 9) (v := .ref qFd) (C := "DeepChannel$Words") (T := fT_Words) (N := 7) hx hb hts u_Words hown hK hP 0 rfl rfl 1 (by decide) (hts _ k_169) (fun _ h9 => h9) rfl d_Words_addChecksOfWord_126 ?_
        refine lv_iload hx hb d_Words_addChecksOfWord_129 (lv_at hl 6 rfl) ?_
        refine lv_aload_n hx hb d_Words_addChecksOfWord_131 rfl (lv_at hl 0 rfl) ?_
        refine va_get (D := D) (ci := 9) (v := .ref qWd_generator) (C := "DeepChannel$Words") (T := fT_Words) (N := 7) hx hb hts u_Words hown hK hP 0 rfl rfl 2 (by decide) (hts _ k_170) (fun _ h9 => h9) rfl d_Words_addChecksOfWord_132 ?_
        refine lv_iconst (v := (0 : Int32)) hx hb d_Words_addChecksOfWord_135 (by decide) ?_
        refine z_iald hm hx hb hK hP 7 rfl d_Words_addChecksOfWord_136 (fun v7 hm => ?_)
        obtain ⟨r8, hu, hm⟩ := bd_el hm
        replace hm := nm_1 hm
        refine z_cVi (wc := w_Field_product cI cJ qFd qFd_logs qFd_powers (.ref qFd_otherForms) (.ref qFd_elements) Fd_logs Fd_powers) (wc' := w_Field_product cI cJ qFd qFd_logs qFd_powers (.ref qFd_otherForms) (.ref qFd_elements) Fd_logs Fd_powers) (wr := [(qWd, .inr (9, [.ref qSh, .ref qFd, .ref qWd_generator, .ref qWd_remainder, Wd_coefficients, Wd_syndromes, Wd_locator])), (qSh, .inr (8, [.int Sh_depth, .int Sh_wordBytes, .int Sh_e, Sh_pattern])), (qWd_remainder, .inl (cI, 32, .inl Wd_remainder)), (qFd_otherForms, .inl (cI, 256, .inl Fd_otherForms)), (qP1, .inl (cI, nP1, .inl p1)), (qFd_elements, .inl (cI, 256, .inl Fd_elements)), (qWd_generator, .inl (cI, 33, .inl Wd_generator))]) (As := [.int x6, .int v7]) (rest := [.int (0 : Int32), .ref qWd_remainder]) (c_Field_product l D cI cJ tt qFd qFd_logs qFd_powers (.ref qFd_otherForms) (.ref qFd_elements) _ Fd_logs Fd_powers x6 v7 r8 hu) F ok_Field_product rfl k_164 hK hE hP hD hS hA [3, 8, 9] [0, 1, 2, 4, 5, 6, 7] rfl rfl (by decide) (by decide) (by decide) 0 rfl rfl rfl ⟨rfl, rfl, Nat.le_of_ble_eq_true rfl, Nat.le_of_ble_eq_true rfl⟩ ⟨Nat.zero_le _, Nat.zero_le _⟩ rfl hl.1 rfl (Nat.le_of_ble_eq_true rfl) d_Words_addChecksOfWord_137 (fun H locs hP hD hS => ?_)
        have hP : va_P D classes (w_Words_addChecksOfWord cI cJ qWd qSh qWd_remainder qFd qFd_otherForms qP1 qFd_elements qWd_generator qFd_logs qFd_powers Wd_coefficients Wd_syndromes Wd_locator Sh_pattern nP1 Sh_depth Sh_wordBytes Sh_e Wd_remainder Fd_otherForms p1 Fd_elements Wd_generator Fd_logs Fd_powers) H := hP.sub [0, 1, 2, 7, 3, 4, 5, 6, 8, 9] rfl
        have hD : va_D A (w_Words_addChecksOfWord cI cJ qWd qSh qWd_remainder qFd qFd_otherForms qP1 qFd_elements qWd_generator qFd_logs qFd_powers Wd_coefficients Wd_syndromes Wd_locator Sh_pattern nP1 Sh_depth Sh_wordBytes Sh_e Wd_remainder Fd_otherForms p1 Fd_elements Wd_generator Fd_logs Fd_powers) := hD.sub [0, 1, 2, 7, 3, 4, 5, 6, 8, 9] (by decide) rfl
        refine z_iast hm hx hb hK hP hD hS 2 rfl d_Words_addChecksOfWord_140 (fun g10 hm H locs hP hD hS => ?_)
        have hP : va_P D classes (w_Words_addChecksOfWord cI cJ qWd qSh qWd_remainder qFd qFd_otherForms qP1 qFd_elements qWd_generator qFd_logs qFd_powers Wd_coefficients Wd_syndromes Wd_locator Sh_pattern nP1 Sh_depth Sh_wordBytes Sh_e g10 Fd_otherForms p1 Fd_elements Wd_generator Fd_logs Fd_powers) H := hP
        have hD : va_D A (w_Words_addChecksOfWord cI cJ qWd qSh qWd_remainder qFd qFd_otherForms qP1 qFd_elements qWd_generator qFd_logs qFd_powers Wd_coefficients Wd_syndromes Wd_locator Sh_pattern nP1 Sh_depth Sh_wordBytes Sh_e g10 Fd_otherForms p1 Fd_elements Wd_generator Fd_logs Fd_powers) := hD
        obtain ⟨v11, ev, hm⟩ := nm_el hm
        refine lv_iinc (v := v11) (lv' := [(5, .int v11), (0, .ref qWd), (1, .ref qP1), (2, .int x2), (3, .int x3), (4, .int x4), (6, .int x6)]) hx hb d_Words_addChecksOfWord_141 hl (k := 5) rfl (by rw [ev]; rfl) (by decide) rfl (fun ls hl => ?_)
        refine lv_goto (tgt := 32) hx hb d_Words_addChecksOfWord_144 (by decide) ?_
        exact ih32 x2 x3 x4 v11 g10 p1 hm _ _ hP hD hS _ (lv_sub hl [1, 2, 3, 4, 5, 0] rfl)
      have T76 : ∀ (n76 : Nat) (x2 : Int32) (x3 : Int32) (x4 : Int32) (x5 : Int32) (x6 : Int32) (x7 : Int32) (Wd_remainder : Nat → Int32) (p1 : Nat → Int32), f_Words_addChecksOfWord_76 Wd_generator Fd_logs Fd_powers (f_Words_addChecksOfWord_32 Sh_depth Fd_otherForms Fd_elements Wd_generator Fd_logs Fd_powers nP1 n32) n76 x2 x3 x4 x5 x6 x7 Wd_remainder p1 = some (Wd_remainder', p1') → ∀ (H : Heap) (locs : List Loc), va_P D classes (w_Words_addChecksOfWord cI cJ qWd qSh qWd_remainder qFd qFd_otherForms qP1 qFd_elements qWd_generator qFd_logs qFd_powers Wd_coefficients Wd_syndromes Wd_locator Sh_pattern nP1 Sh_depth Sh_wordBytes Sh_e Wd_remainder Fd_otherForms p1 Fd_elements Wd_generator Fd_logs Fd_powers) H → va_D A (w_Words_addChecksOfWord cI cJ qWd qSh qWd_remainder qFd qFd_otherForms qP1 qFd_elements qWd_generator qFd_logs qFd_powers Wd_coefficients Wd_syndromes Wd_locator Sh_pattern nP1 Sh_depth Sh_wordBytes Sh_e Wd_remainder Fd_otherForms p1 Fd_elements Wd_generator Fd_logs Fd_powers) → va_S A s.heap H locs → ∀ (ls : Array Slot), lv_has ls 8 [(0, .ref qWd), (1, .ref qP1), (2, .int x2), (3, .int x3), (4, .int x4), (5, .int x5), (6, .int x6), (7, .int x7)] → W p l e (RM 1 23) s m args below meth c H locs 0 0 Q0 (F0 m 76 ls []) := by
        intro n76
        induction n76 with
        | zero => intro x2 x3 x4 x5 x6 x7 Wd_remainder p1 hm; cases hm
        | succ n76 ih76 =>
          intro x2 x3 x4 x5 x6 x7 Wd_remainder p1 hm H locs hP hD hS ls hl
          replace hm : f_Words_addChecksOfWord_76_b Wd_generator Fd_logs Fd_powers (f_Words_addChecksOfWord_32 Sh_depth Fd_otherForms Fd_elements Wd_generator Fd_logs Fd_powers nP1 n32) (f_Words_addChecksOfWord_76 Wd_generator Fd_logs Fd_powers (f_Words_addChecksOfWord_32 Sh_depth Fd_otherForms Fd_elements Wd_generator Fd_logs Fd_powers nP1 n32) n76) x2 x3 x4 x5 x6 x7 Wd_remainder p1 = some (Wd_remainder', p1') := hm
          unfold f_Words_addChecksOfWord_76_b at hm
          refine lv_iload hx hb d_Words_addChecksOfWord_76 (lv_at hl 7 rfl) ?_
          refine z_if hm (lv_if_le (tgt := 120) hx hb d_Words_addChecksOfWord_78 (by decide)) (fun hm => ?_) (fun hm => ?_)
          · exact T120 x2 x3 x4 x5 x6 Wd_remainder p1 hm _ _ hP hD hS _ (lv_sub hl [0, 1, 2, 3, 4, 5, 6] rfl)
          · refine lv_aload_n hx hb d_Words_addChecksOfWord_81 rfl (lv_at hl 0 rfl) ?_
            refine va_get (D := D) (ci := 9) (v := .ref qWd_remainder) (C := "DeepChannel$Words") (T := fT_Words) (N := 7) hx hb hts u_Words hown hK hP 0 rfl rfl 3 (by decide) (hts _ k_171) (fun _ h9 => h9) rfl d_Words_addChecksOfWord_82 ?_
            refine lv_iload hx hb d_Words_addChecksOfWord_85 (lv_at hl 7 rfl) ?_
            refine lv_aload_n hx hb d_Words_addChecksOfWord_87 rfl (lv_at hl 0 rfl) ?_
            refine va_get (D := D) (ci := 9) (v := .ref qWd_remainder) (C := "DeepChannel$Words") (T := fT_Words) (N := 7) hx hb hts u_Words hown hK hP 0 rfl rfl 3 (by decide) (hts _ k_171) (fun _ h9 => h9) rfl d_Words_addChecksOfWord_88 ?_
            refine lv_iload hx hb d_Words_addChecksOfWord_91 (lv_at hl 7 rfl) ?_
            refine lv_iconst (v := (1 : Int32)) hx hb d_Words_addChecksOfWord_93 (by decide) ?_
            refine lv_isub hx hb d_Words_addChecksOfWord_94 ?_
            refine z_iald hm hx hb hK hP 2 rfl d_Words_addChecksOfWord_95 (fun v12 hm => ?_)
            refine lv_aload_n hx hb d_Words_addChecksOfWord_96 rfl (lv_at hl 0 rfl) ?_
            refine va_get (D := D) (ci := 9) (v := .ref qFd) (C := "DeepChannel$Words") (T := fT_Words) (N := 7) hx hb hts u_Words hown hK hP 0 rfl rfl 1 (by decide) (hts _ k_169) (fun _ h9 => h9) rfl d_Words_addChecksOfWord_97 ?_
            refine lv_iload hx hb d_Words_addChecksOfWord_100 (lv_at hl 6 rfl) ?_
            refine lv_aload_n hx hb d_Words_addChecksOfWord_102 rfl (lv_at hl 0 rfl) ?_
            refine va_get (D := D) (ci := 9) (v := .ref qWd_generator) (C := "DeepChannel$Words") (T := fT_Words) (N := 7) hx hb hts u_Words hown hK hP 0 rfl rfl 2 (by decide) (hts _ k_170) (fun _ h9 => h9) rfl d_Words_addChecksOfWord_103 ?_
            refine lv_iload hx hb d_Words_addChecksOfWord_106 (lv_at hl 7 rfl) ?_
            refine z_iald hm hx hb hK hP 7 rfl d_Words_addChecksOfWord_108 (fun v13 hm => ?_)
            obtain ⟨r14, hu, hm⟩ := bd_el hm
            replace hm := nm_1 hm
            refine z_cVi (wc := w_Field_product cI cJ qFd qFd_logs qFd_powers (.ref qFd_otherForms) (.ref qFd_elements) Fd_logs Fd_powers) (wc' := w_Field_product cI cJ qFd qFd_logs qFd_powers (.ref qFd_otherForms) (.ref qFd_elements) Fd_logs Fd_powers) (wr := [(qWd, .inr (9, [.ref qSh, .ref qFd, .ref qWd_generator, .ref qWd_remainder, Wd_coefficients, Wd_syndromes, Wd_locator])), (qSh, .inr (8, [.int Sh_depth, .int Sh_wordBytes, .int Sh_e, Sh_pattern])), (qWd_remainder, .inl (cI, 32, .inl Wd_remainder)), (qFd_otherForms, .inl (cI, 256, .inl Fd_otherForms)), (qP1, .inl (cI, nP1, .inl p1)), (qFd_elements, .inl (cI, 256, .inl Fd_elements)), (qWd_generator, .inl (cI, 33, .inl Wd_generator))]) (As := [.int x6, .int v13]) (rest := [.int v12, .int x7, .ref qWd_remainder]) (c_Field_product l D cI cJ tt qFd qFd_logs qFd_powers (.ref qFd_otherForms) (.ref qFd_elements) _ Fd_logs Fd_powers x6 v13 r14 hu) F ok_Field_product rfl k_164 hK hE hP hD hS hA [3, 8, 9] [0, 1, 2, 4, 5, 6, 7] rfl rfl (by decide) (by decide) (by decide) 0 rfl rfl rfl ⟨rfl, rfl, Nat.le_of_ble_eq_true rfl, Nat.le_of_ble_eq_true rfl⟩ ⟨Nat.zero_le _, Nat.zero_le _⟩ rfl hl.1 rfl (Nat.le_of_ble_eq_true rfl) d_Words_addChecksOfWord_109 (fun H locs hP hD hS => ?_)
            have hP : va_P D classes (w_Words_addChecksOfWord cI cJ qWd qSh qWd_remainder qFd qFd_otherForms qP1 qFd_elements qWd_generator qFd_logs qFd_powers Wd_coefficients Wd_syndromes Wd_locator Sh_pattern nP1 Sh_depth Sh_wordBytes Sh_e Wd_remainder Fd_otherForms p1 Fd_elements Wd_generator Fd_logs Fd_powers) H := hP.sub [0, 1, 2, 7, 3, 4, 5, 6, 8, 9] rfl
            have hD : va_D A (w_Words_addChecksOfWord cI cJ qWd qSh qWd_remainder qFd qFd_otherForms qP1 qFd_elements qWd_generator qFd_logs qFd_powers Wd_coefficients Wd_syndromes Wd_locator Sh_pattern nP1 Sh_depth Sh_wordBytes Sh_e Wd_remainder Fd_otherForms p1 Fd_elements Wd_generator Fd_logs Fd_powers) := hD.sub [0, 1, 2, 7, 3, 4, 5, 6, 8, 9] (by decide) rfl
            refine lv_ixor hx hb d_Words_addChecksOfWord_112 ?_
            refine z_iast hm hx hb hK hP hD hS 2 rfl d_Words_addChecksOfWord_113 (fun g16 hm H locs hP hD hS => ?_)
            have hP : va_P D classes (w_Words_addChecksOfWord cI cJ qWd qSh qWd_remainder qFd qFd_otherForms qP1 qFd_elements qWd_generator qFd_logs qFd_powers Wd_coefficients Wd_syndromes Wd_locator Sh_pattern nP1 Sh_depth Sh_wordBytes Sh_e g16 Fd_otherForms p1 Fd_elements Wd_generator Fd_logs Fd_powers) H := hP
            have hD : va_D A (w_Words_addChecksOfWord cI cJ qWd qSh qWd_remainder qFd qFd_otherForms qP1 qFd_elements qWd_generator qFd_logs qFd_powers Wd_coefficients Wd_syndromes Wd_locator Sh_pattern nP1 Sh_depth Sh_wordBytes Sh_e g16 Fd_otherForms p1 Fd_elements Wd_generator Fd_logs Fd_powers) := hD
            obtain ⟨v17, ev, hm⟩ := nm_el hm
            refine lv_iinc (v := v17) (lv' := [(7, .int v17), (0, .ref qWd), (1, .ref qP1), (2, .int x2), (3, .int x3), (4, .int x4), (5, .int x5), (6, .int x6)]) hx hb d_Words_addChecksOfWord_114 hl (k := 7) rfl (by rw [ev]; rfl) (by decide) rfl (fun ls hl => ?_)
            refine lv_goto (tgt := 76) hx hb d_Words_addChecksOfWord_117 (by decide) ?_
            exact ih76 x2 x3 x4 x5 x6 v17 g16 p1 hm _ _ hP hD hS _ (lv_sub hl [1, 2, 3, 4, 5, 6, 7, 0] rfl)
      intro x2 x3 x4 x5 Wd_remainder p1 hm H locs hP hD hS ls hl
      replace hm : f_Words_addChecksOfWord_32_b Sh_depth Fd_otherForms Fd_elements Wd_generator Fd_logs Fd_powers nP1 (f_Words_addChecksOfWord_32 Sh_depth Fd_otherForms Fd_elements Wd_generator Fd_logs Fd_powers nP1 n32) x2 x3 x4 x5 Wd_remainder p1 = some (Wd_remainder', p1') := hm
      unfold f_Words_addChecksOfWord_32_b at hm
      refine lv_iload hx hb d_Words_addChecksOfWord_32 (lv_at hl 5 rfl) ?_
      refine lv_iload hx hb d_Words_addChecksOfWord_34 (lv_at hl 4 rfl) ?_
      refine z_if hm (lv_icmp_ge (tgt := 147) hx hb d_Words_addChecksOfWord_36 (by decide)) (fun hm => ?_) (fun hm => ?_)
      · exact T147 x2 x3 x4 Wd_remainder p1 hm _ _ hP hD hS _ (lv_sub hl [0, 1, 2, 3, 4] rfl)
      · refine lv_aload_n hx hb d_Words_addChecksOfWord_39 rfl (lv_at hl 0 rfl) ?_
        refine va_get (D := D) (ci := 9) (v := .ref qWd_remainder) (C := "DeepChannel$Words") (T := fT_Words) (N := 7) hx hb hts u_Words hown hK hP 0 rfl rfl 3 (by decide) (hts _ k_171) (fun _ h9 => h9) rfl d_Words_addChecksOfWord_40 ?_
        refine lv_iload_n hx hb d_Words_addChecksOfWord_43 rfl (lv_at hl 3 rfl) ?_
        refine lv_iconst (v := (1 : Int32)) hx hb d_Words_addChecksOfWord_44 (by decide) ?_
        refine lv_isub hx hb d_Words_addChecksOfWord_45 ?_
        refine z_iald hm hx hb hK hP 2 rfl d_Words_addChecksOfWord_46 (fun v18 hm => ?_)
        refine lv_aload_n hx hb d_Words_addChecksOfWord_47 rfl (lv_at hl 0 rfl) ?_
        refine va_get (D := D) (ci := 9) (v := .ref qFd) (C := "DeepChannel$Words") (T := fT_Words) (N := 7) hx hb hts u_Words hown hK hP 0 rfl rfl 1 (by decide) (hts _ k_169) (fun _ h9 => h9) rfl d_Words_addChecksOfWord_48 ?_
        refine lv_aload_n hx hb d_Words_addChecksOfWord_51 rfl (lv_at hl 1 rfl) ?_
        refine lv_iload hx hb d_Words_addChecksOfWord_52 (lv_at hl 5 rfl) ?_
        refine lv_aload_n hx hb d_Words_addChecksOfWord_54 rfl (lv_at hl 0 rfl) ?_
        refine va_get (D := D) (ci := 9) (v := .ref qSh) (C := "DeepChannel$Words") (T := fT_Words) (N := 7) hx hb hts u_Words hown hK hP 0 rfl rfl 0 (by decide) (hts _ k_168) (fun _ h9 => h9) rfl d_Words_addChecksOfWord_55 ?_
        refine va_getN (D := D) (ci := 8) (v := .int Sh_depth) (C := "DeepChannel$Shape") (T := fT_Shape) (N := 4) hx hb hts u_Shape hown hK hP 1 rfl rfl 0 (by decide) (va_Nw.use rfl (hE.1 _ (List.mem_of_getElem? (i := 1) rfl))) (fun _ h9 => h9) rfl d_Words_addChecksOfWord_58 ?_
        refine lv_imul hx hb d_Words_addChecksOfWord_61 ?_
        refine lv_iload_n hx hb d_Words_addChecksOfWord_62 rfl (lv_at hl 2 rfl) ?_
        refine lv_iadd hx hb d_Words_addChecksOfWord_63 ?_
        refine z_iald hm hx hb hK hP 5 rfl d_Words_addChecksOfWord_64 (fun v19 hm => ?_)
        obtain ⟨r20, hu, hm⟩ := bd_el hm
        replace hm := nm_1 hm
        refine z_cVi (wc := w_Field_element cI cJ qFd qFd_elements (.ref qFd_powers) (.ref qFd_logs) (.ref qFd_otherForms) Fd_elements) (wc' := w_Field_element cI cJ qFd qFd_elements (.ref qFd_powers) (.ref qFd_logs) (.ref qFd_otherForms) Fd_elements) (wr := [(qWd, .inr (9, [.ref qSh, .ref qFd, .ref qWd_generator, .ref qWd_remainder, Wd_coefficients, Wd_syndromes, Wd_locator])), (qSh, .inr (8, [.int Sh_depth, .int Sh_wordBytes, .int Sh_e, Sh_pattern])), (qWd_remainder, .inl (cI, 32, .inl Wd_remainder)), (qFd_otherForms, .inl (cI, 256, .inl Fd_otherForms)), (qP1, .inl (cI, nP1, .inl p1)), (qWd_generator, .inl (cI, 33, .inl Wd_generator)), (qFd_logs, .inl (cI, 256, .inl Fd_logs)), (qFd_powers, .inl (cI, 255, .inl Fd_powers))]) (As := [.int v19]) (rest := [.int v18]) (c_Field_element l D cI cJ tt qFd qFd_elements (.ref qFd_powers) (.ref qFd_logs) (.ref qFd_otherForms) _ Fd_elements v19 r20 hu) F ok_Field_element rfl k_628 hK hE hP hD hS hA [3, 6] [0, 1, 2, 4, 5, 7, 8, 9] rfl rfl (by decide) (by decide) (by decide) 0 rfl rfl rfl ⟨rfl, rfl, Nat.le_of_ble_eq_true rfl, Nat.le_of_ble_eq_true rfl⟩ ⟨Nat.zero_le _, Nat.zero_le _⟩ rfl hl.1 rfl (Nat.le_of_ble_eq_true rfl) d_Words_addChecksOfWord_65 (fun H locs hP hD hS => ?_)
        have hP : va_P D classes (w_Words_addChecksOfWord cI cJ qWd qSh qWd_remainder qFd qFd_otherForms qP1 qFd_elements qWd_generator qFd_logs qFd_powers Wd_coefficients Wd_syndromes Wd_locator Sh_pattern nP1 Sh_depth Sh_wordBytes Sh_e Wd_remainder Fd_otherForms p1 Fd_elements Wd_generator Fd_logs Fd_powers) H := hP.sub [0, 1, 2, 8, 3, 4, 9, 5, 6, 7] rfl
        have hD : va_D A (w_Words_addChecksOfWord cI cJ qWd qSh qWd_remainder qFd qFd_otherForms qP1 qFd_elements qWd_generator qFd_logs qFd_powers Wd_coefficients Wd_syndromes Wd_locator Sh_pattern nP1 Sh_depth Sh_wordBytes Sh_e Wd_remainder Fd_otherForms p1 Fd_elements Wd_generator Fd_logs Fd_powers) := hD.sub [0, 1, 2, 8, 3, 4, 9, 5, 6, 7] (by decide) rfl
        refine lv_ixor hx hb d_Words_addChecksOfWord_68 ?_
        refine z_nmi hm (fun v22 hm => ?_)
        refine lv_istore (lv' := [(6, .int v22), (0, .ref qWd), (1, .ref qP1), (2, .int x2), (3, .int x3), (4, .int x4), (5, .int x5)]) hx hb d_Words_addChecksOfWord_69 hl (by decide) rfl (fun ls hl => ?_)
        refine lv_iload_n hx hb d_Words_addChecksOfWord_71 rfl (lv_at hl 4 rfl) ?_
        refine lv_iconst (v := (1 : Int32)) hx hb d_Words_addChecksOfWord_72 (by decide) ?_
        refine lv_isub hx hb d_Words_addChecksOfWord_73 ?_
        refine z_nmi hm (fun v23 hm => ?_)
        refine lv_istore (lv' := [(7, .int v23), (6, .int v22), (0, .ref qWd), (1, .ref qP1), (2, .int x2), (3, .int x3), (4, .int x4), (5, .int x5)]) hx hb d_Words_addChecksOfWord_74 hl (by decide) rfl (fun ls hl => ?_)
        exact T76 10000 x2 x3 x4 x5 v22 v23 Wd_remainder p1 hm _ _ hP hD hS _ (lv_sub hl [2, 3, 4, 5, 6, 7, 1, 0] rfl)
  unfold f_Words_addChecksOfWord at hm
  refine lv_iconst (v := (2 : Int32)) hx hb d_Words_addChecksOfWord_0 (by decide) ?_
  refine lv_aload_n hx hb d_Words_addChecksOfWord_1 rfl (lv_at hl 0 rfl) ?_
  refine va_get (D := D) (ci := 9) (v := .ref qSh) (C := "DeepChannel$Words") (T := fT_Words) (N := 7) hx hb hts u_Words hown hK hP 0 rfl rfl 0 (by decide) (hts _ k_168) (fun _ h9 => h9) rfl d_Words_addChecksOfWord_2 ?_
  refine va_getN (D := D) (ci := 8) (v := .int Sh_e) (C := "DeepChannel$Shape") (T := fT_Shape) (N := 4) hx hb hts u_Shape hown hK hP 1 rfl rfl 2 (by decide) (va_Nw.use rfl (hE.1 _ (List.mem_of_getElem? (i := 4) rfl))) (fun _ h9 => h9) rfl d_Words_addChecksOfWord_5 ?_
  refine lv_imul hx hb d_Words_addChecksOfWord_8 ?_
  refine z_nmi hm (fun v24 hm => ?_)
  refine lv_istore_n (lv' := [(3, .int v24), (0, .ref qWd), (1, .ref qP1), (2, .int x2)]) hx hb d_Words_addChecksOfWord_9 rfl hl (by decide) rfl (fun ls hl => ?_)
  refine lv_aload_n hx hb d_Words_addChecksOfWord_10 rfl (lv_at hl 1 rfl) ?_
  refine va_get (D := D) (ci := 9) (v := .ref qSh) (C := "DeepChannel$Words") (T := fT_Words) (N := 7) hx hb hts u_Words hown hK hP 0 rfl rfl 0 (by decide) (hts _ k_168) (fun _ h9 => h9) rfl d_Words_addChecksOfWord_11 ?_
  refine va_getN (D := D) (ci := 8) (v := .int Sh_wordBytes) (C := "DeepChannel$Shape") (T := fT_Shape) (N := 4) hx hb hts u_Shape hown hK hP 1 rfl rfl 1 (by decide) (va_Nw.use rfl (hE.1 _ (List.mem_of_getElem? (i := 3) rfl))) (fun _ h9 => h9) rfl d_Words_addChecksOfWord_14 ?_
  refine lv_iload_n hx hb d_Words_addChecksOfWord_17 rfl (lv_at hl 0 rfl) ?_
  refine lv_isub hx hb d_Words_addChecksOfWord_18 ?_
  refine z_nmi hm (fun v25 hm => ?_)
  refine lv_istore (lv' := [(4, .int v25), (3, .int v24), (0, .ref qWd), (1, .ref qP1), (2, .int x2)]) hx hb d_Words_addChecksOfWord_19 hl (by decide) rfl (fun ls hl => ?_)
  refine lv_aload_n hx hb d_Words_addChecksOfWord_21 rfl (lv_at hl 2 rfl) ?_
  refine va_get (D := D) (ci := 9) (v := .ref qWd_remainder) (C := "DeepChannel$Words") (T := fT_Words) (N := 7) hx hb hts u_Words hown hK hP 0 rfl rfl 3 (by decide) (hts _ k_171) (fun _ h9 => h9) rfl d_Words_addChecksOfWord_22 ?_
  refine lv_iconst (v := (0 : Int32)) hx hb d_Words_addChecksOfWord_25 (by decide) ?_
  obtain ⟨g26, hu, hm⟩ := bd_el hm
  replace hm := nm_1 hm
  refine z_cSv (wc := w_Arrays_fillI cI cJ qWd_remainder 32 Wd_remainder) (wc' := w_Arrays_fillI cI cJ qWd_remainder 32 g26) (wr := [(qWd, .inr (9, [.ref qSh, .ref qFd, .ref qWd_generator, .ref qWd_remainder, Wd_coefficients, Wd_syndromes, Wd_locator])), (qSh, .inr (8, [.int Sh_depth, .int Sh_wordBytes, .int Sh_e, Sh_pattern])), (qFd, .inr (2, [.ref qFd_powers, .ref qFd_logs, .ref qFd_otherForms, .ref qFd_elements])), (qFd_otherForms, .inl (cI, 256, .inl Fd_otherForms)), (qP1, .inl (cI, nP1, .inl p1)), (qFd_elements, .inl (cI, 256, .inl Fd_elements)), (qWd_generator, .inl (cI, 33, .inl Wd_generator)), (qFd_logs, .inl (cI, 256, .inl Fd_logs)), (qFd_powers, .inl (cI, 255, .inl Fd_powers))]) (As := [.ref qWd_remainder, .int (0 : Int32)]) (rest := []) (c_Arrays_fillI l D cI cJ tt qWd_remainder 32 _ Wd_remainder (0 : Int32) g26 hu) F ok_Arrays_fillI k_157 hK hE hP hD hS hA [2] [0, 1, 3, 4, 5, 6, 7, 8, 9] rfl rfl (by decide) (by decide) (by decide) ⟨rfl, rfl, Nat.le_of_ble_eq_true rfl, Nat.le_of_ble_eq_true rfl⟩ ⟨Nat.zero_le _, Nat.zero_le _⟩ rfl hl.1 rfl (Nat.le_of_ble_eq_true rfl) d_Words_addChecksOfWord_26 (fun H locs hP hD hS => ?_)
  have hP : va_P D classes (w_Words_addChecksOfWord cI cJ qWd qSh qWd_remainder qFd qFd_otherForms qP1 qFd_elements qWd_generator qFd_logs qFd_powers Wd_coefficients Wd_syndromes Wd_locator Sh_pattern nP1 Sh_depth Sh_wordBytes Sh_e g26 Fd_otherForms p1 Fd_elements Wd_generator Fd_logs Fd_powers) H := hP.sub [0, 1, 9, 2, 3, 4, 5, 6, 7, 8] rfl
  have hD : va_D A (w_Words_addChecksOfWord cI cJ qWd qSh qWd_remainder qFd qFd_otherForms qP1 qFd_elements qWd_generator qFd_logs qFd_powers Wd_coefficients Wd_syndromes Wd_locator Sh_pattern nP1 Sh_depth Sh_wordBytes Sh_e g26 Fd_otherForms p1 Fd_elements Wd_generator Fd_logs Fd_powers) := hD.sub [0, 1, 9, 2, 3, 4, 5, 6, 7, 8] (by decide) rfl
  refine lv_iconst (v := (0 : Int32)) hx hb d_Words_addChecksOfWord_29 (by decide) ?_
  refine lv_istore (lv' := [(5, .int (0 : Int32)), (4, .int v25), (3, .int v24), (0, .ref qWd), (1, .ref qP1), (2, .int x2)]) hx hb d_Words_addChecksOfWord_30 hl (by decide) rfl (fun ls hl => ?_)
  exact T32 10000 x2 v24 v25 (0 : Int32) g26 p1 hm _ _ hP hD hS _ (lv_sub hl [3, 4, 5, 2, 1, 0] rfl)
-- DeepChannel$Words.addChecks([I)V
abbrev b_Words_addChecks : ByteArray := prog_11_method_3_code
abbrev y_Words_addChecks : MethodName := ⟨"DeepChannel$Words", "addChecks", "([I)V"⟩
theorem d_Words_addChecks_0 : decode b_Words_addChecks 0 = .ok (.iconst 0, 1) := by decide +kernel
theorem d_Words_addChecks_1 : decode b_Words_addChecks 1 = .ok (.istore_n 2, 1) := by decide +kernel
theorem d_Words_addChecks_2 : decode b_Words_addChecks 2 = .ok (.iload_n 2, 1) := by decide +kernel
theorem d_Words_addChecks_3 : decode b_Words_addChecks 3 = .ok (.aload_n 0, 1) := by decide +kernel
theorem d_Words_addChecks_4 : decode b_Words_addChecks 4 = .ok (.getfield 24, 3) := by decide +kernel
theorem d_Words_addChecks_7 : decode b_Words_addChecks 7 = .ok (.getfield 66, 3) := by decide +kernel
theorem d_Words_addChecks_10 : decode b_Words_addChecks 10 = .ok (.if_icmp .ge 15, 3) := by decide +kernel
theorem d_Words_addChecks_13 : decode b_Words_addChecks 13 = .ok (.aload_n 0, 1) := by decide +kernel
theorem d_Words_addChecks_14 : decode b_Words_addChecks 14 = .ok (.aload_n 1, 1) := by decide +kernel
theorem d_Words_addChecks_15 : decode b_Words_addChecks 15 = .ok (.iload_n 2, 1) := by decide +kernel
theorem d_Words_addChecks_16 : decode b_Words_addChecks 16 = .ok (.invokevirtual 69, 3) := by decide +kernel
theorem d_Words_addChecks_19 : decode b_Words_addChecks 19 = .ok (.iinc 2 1, 3) := by decide +kernel
theorem d_Words_addChecks_22 : decode b_Words_addChecks 22 = .ok (.goto (-20), 3) := by decide +kernel
theorem d_Words_addChecks_25 : decode b_Words_addChecks 25 = .ok (.return_, 1) := by decide +kernel
theorem ok_Words_addChecks : OKv y_Words_addChecks b_Words_addChecks 3 none "DeepChannel$Words" 1 := ⟨k_623, k_621, k_622, k_44, by decide +kernel, by decide +kernel, by decide +kernel⟩
abbrev w_Words_addChecks (cI cJ : ClassId) (qWd qSh qWd_remainder qFd qFd_otherForms qP1 qFd_elements qWd_generator qFd_logs qFd_powers : Nat) (Wd_coefficients Wd_syndromes Wd_locator Sh_pattern : Value) (nP1 : Nat) (Sh_depth : Int32) (Sh_wordBytes : Int32) (Sh_e : Int32) (Wd_remainder : Nat → Int32) (Fd_otherForms : Nat → Int32) (p1 : Nat → Int32) (Fd_elements : Nat → Int32) (Wd_generator : Nat → Int32) (Fd_logs : Nat → Int32) (Fd_powers : Nat → Int32) : va_W := [(qWd, .inr (9, [.ref qSh, .ref qFd, .ref qWd_generator, .ref qWd_remainder, Wd_coefficients, Wd_syndromes, Wd_locator])), (qSh, .inr (8, [.int Sh_depth, .int Sh_wordBytes, .int Sh_e, Sh_pattern])), (qWd_remainder, .inl (cI, 32, .inl Wd_remainder)), (qFd, .inr (2, [.ref qFd_powers, .ref qFd_logs, .ref qFd_otherForms, .ref qFd_elements])), (qFd_otherForms, .inl (cI, 256, .inl Fd_otherForms)), (qP1, .inl (cI, nP1, .inl p1)), (qFd_elements, .inl (cI, 256, .inl Fd_elements)), (qWd_generator, .inl (cI, 33, .inl Wd_generator)), (qFd_logs, .inl (cI, 256, .inl Fd_logs)), (qFd_powers, .inl (cI, 255, .inl Fd_powers))]
def f_Words_addChecks_2_b (Sh_depth : Int32) (Sh_wordBytes : Int32) (Sh_e : Int32) (Fd_otherForms : Nat → Int32) (Fd_elements : Nat → Int32) (Wd_generator : Nat → Int32) (Fd_logs : Nat → Int32) (Fd_powers : Nat → Int32) (nP1 : Nat) (kh2 : Int32 → (Nat → Int32) → (Nat → Int32) → Option ((Nat → Int32) × (Nat → Int32))) (x2 : Int32) (Wd_remainder : Nat → Int32) (p1 : Nat → Int32) : Option ((Nat → Int32) × (Nat → Int32)) :=
  if Sh_depth ≤ x2 then
    some (Wd_remainder, p1)
  else
  bd (f_Words_addChecksOfWord Sh_depth Sh_wordBytes Sh_e Wd_remainder Fd_otherForms p1 Fd_elements Wd_generator Fd_logs Fd_powers nP1 x2) fun u3 =>
  nm u3.1 fun g1 =>
  nm u3.2 fun g2 =>
  nm (x2 + (1 : Int32)) fun v4 =>
  kh2 v4 g1 g2
def f_Words_addChecks_2 (Sh_depth : Int32) (Sh_wordBytes : Int32) (Sh_e : Int32) (Fd_otherForms : Nat → Int32) (Fd_elements : Nat → Int32) (Wd_generator : Nat → Int32) (Fd_logs : Nat → Int32) (Fd_powers : Nat → Int32) (nP1 : Nat) : Nat → Int32 → (Nat → Int32) → (Nat → Int32) → Option ((Nat → Int32) × (Nat → Int32))
  | 0 => fun _ _ _ => none
  | n + 1 => fun x2 Wd_remainder p1 => f_Words_addChecks_2_b Sh_depth Sh_wordBytes Sh_e Fd_otherForms Fd_elements Wd_generator Fd_logs Fd_powers nP1 (f_Words_addChecks_2 Sh_depth Sh_wordBytes Sh_e Fd_otherForms Fd_elements Wd_generator Fd_logs Fd_powers nP1 n) x2 Wd_remainder p1
def f_Words_addChecks (Sh_depth : Int32) (Sh_wordBytes : Int32) (Sh_e : Int32) (Wd_remainder : Nat → Int32) (Fd_otherForms : Nat → Int32) (p1 : Nat → Int32) (Fd_elements : Nat → Int32) (Wd_generator : Nat → Int32) (Fd_logs : Nat → Int32) (Fd_powers : Nat → Int32) (nP1 : Nat) : Option ((Nat → Int32) × (Nat → Int32)) :=
  f_Words_addChecks_2 Sh_depth Sh_wordBytes Sh_e Fd_otherForms Fd_elements Wd_generator Fd_logs Fd_powers nP1 10000 (0 : Int32) Wd_remainder p1
set_option maxHeartbeats 4000000 in
set_option maxRecDepth 100000 in
theorem c_Words_addChecks (l : Launch) (D : va_G) (cI cJ : ClassId) (tt : Nat → Nat) (qWd qSh qWd_remainder qFd qFd_otherForms qP1 qFd_elements qWd_generator qFd_logs qFd_powers : Nat) (Wd_coefficients Wd_syndromes Wd_locator Sh_pattern : Value) (nP1 : Nat) (sz : Nat) (Sh_depth : Int32) (Sh_wordBytes : Int32) (Sh_e : Int32) (Wd_remainder : Nat → Int32) (Fd_otherForms : Nat → Int32) (p1 : Nat → Int32) (Fd_elements : Nat → Int32) (Wd_generator : Nat → Int32) (Fd_logs : Nat → Int32) (Fd_powers : Nat → Int32) (Wd_remainder' : Nat → Int32) (p1' : Nat → Int32) (hm : f_Words_addChecks Sh_depth Sh_wordBytes Sh_e Wd_remainder Fd_otherForms p1 Fd_elements Wd_generator Fd_logs Fd_powers nP1 = some (Wd_remainder', p1')) : CTv l y_Words_addChecks b_Words_addChecks 3 none (RM 2 50) D cI cJ tt [.ref qWd, .ref qP1] (w_Words_addChecks cI cJ qWd qSh qWd_remainder qFd qFd_otherForms qP1 qFd_elements qWd_generator qFd_logs qFd_powers Wd_coefficients Wd_syndromes Wd_locator Sh_pattern nP1 Sh_depth Sh_wordBytes Sh_e Wd_remainder Fd_otherForms p1 Fd_elements Wd_generator Fd_logs Fd_powers) (w_Words_addChecks cI cJ qWd qSh qWd_remainder qFd qFd_otherForms qP1 qFd_elements qWd_generator qFd_logs qFd_powers Wd_coefficients Wd_syndromes Wd_locator Sh_pattern nP1 Sh_depth Sh_wordBytes Sh_e Wd_remainder' Fd_otherForms p1' Fd_elements Wd_generator Fd_logs Fd_powers) sz := by
  refine Met.ofW (cc := b_Words_addChecks) (maxL := 3) (ret := none) (by decide) rfl ?_
  intro p e s m args below meth c s₁ B hml hv
  obtain ⟨hargs, hsz, hP, hK, hD0, hE⟩ := hv
  have hx := B.exec
  have hb := B.bytes
  have hr := B.returns
  have hts : ∀ w ∈ TB, w.before args s = true := z_mV s (atoms_spec (ws := WD y_Words_addChecks b_Words_addChecks 3 none) B.pre)
  have hown : s.vm.findClass "DeepChannel$Words" = some m.cls := findClass_of_methodNamed B.named
  have hlocks := B.notSynchronized
  subst hsz
  have hD := hD0.self (sz := s.heap.size)
  generalize hAe : va_A (w_Words_addChecks cI cJ qWd qSh qWd_remainder qFd qFd_otherForms qP1 qFd_elements qWd_generator qFd_logs qFd_powers Wd_coefficients Wd_syndromes Wd_locator Sh_pattern nP1 Sh_depth Sh_wordBytes Sh_e Wd_remainder Fd_otherForms p1 Fd_elements Wd_generator Fd_logs Fd_powers) s.heap.size = A at hD hE ⊢
  have hA : ∀ q : Nat, s.heap.size ≤ q → A q := fun q h => by rw [← hAe]; exact Or.inr h
  have hS : va_S A s.heap s.heap [] := va_S.rf
  refine z_entry (vs := [.ref qWd, .ref qP1]) hargs (Nat.le_of_ble_eq_true rfl) (fun ls hl => ?_)
  have hl : lv_has ls 3 [(0, .ref qWd), (1, .ref qP1)] := hl
  show W p l e (RM 2 50) s m args below meth c s.heap [] 0 0 _ _
  refine z_qi (fun Q0 hQ => ?_)
  have F : CallFix p m c b_Words_addChecks 3 s args TB "DeepChannel$Words" := ⟨hx, hb, hml, hown, hts⟩
  have T2 : ∀ (n2 : Nat) (x2 : Int32) (Wd_remainder : Nat → Int32) (p1 : Nat → Int32), f_Words_addChecks_2 Sh_depth Sh_wordBytes Sh_e Fd_otherForms Fd_elements Wd_generator Fd_logs Fd_powers nP1 n2 x2 Wd_remainder p1 = some (Wd_remainder', p1') → ∀ (H : Heap) (locs : List Loc), va_P D classes (w_Words_addChecks cI cJ qWd qSh qWd_remainder qFd qFd_otherForms qP1 qFd_elements qWd_generator qFd_logs qFd_powers Wd_coefficients Wd_syndromes Wd_locator Sh_pattern nP1 Sh_depth Sh_wordBytes Sh_e Wd_remainder Fd_otherForms p1 Fd_elements Wd_generator Fd_logs Fd_powers) H → va_D A (w_Words_addChecks cI cJ qWd qSh qWd_remainder qFd qFd_otherForms qP1 qFd_elements qWd_generator qFd_logs qFd_powers Wd_coefficients Wd_syndromes Wd_locator Sh_pattern nP1 Sh_depth Sh_wordBytes Sh_e Wd_remainder Fd_otherForms p1 Fd_elements Wd_generator Fd_logs Fd_powers) → va_S A s.heap H locs → ∀ (ls : Array Slot), lv_has ls 3 [(0, .ref qWd), (1, .ref qP1), (2, .int x2)] → W p l e (RM 2 50) s m args below meth c H locs 0 0 Q0 (F0 m 2 ls []) := by
    intro n2
    induction n2 with
    | zero => intro x2 Wd_remainder p1 hm; cases hm
    | succ n2 ih2 =>
      intro x2 Wd_remainder p1 hm H locs hP hD hS ls hl
      replace hm : f_Words_addChecks_2_b Sh_depth Sh_wordBytes Sh_e Fd_otherForms Fd_elements Wd_generator Fd_logs Fd_powers nP1 (f_Words_addChecks_2 Sh_depth Sh_wordBytes Sh_e Fd_otherForms Fd_elements Wd_generator Fd_logs Fd_powers nP1 n2) x2 Wd_remainder p1 = some (Wd_remainder', p1') := hm
      unfold f_Words_addChecks_2_b at hm
      refine lv_iload_n hx hb d_Words_addChecks_2 rfl (lv_at hl 2 rfl) ?_
      refine lv_aload_n hx hb d_Words_addChecks_3 rfl (lv_at hl 0 rfl) ?_
      refine va_get (D := D) (ci := 9) (v := .ref qSh) (C := "DeepChannel$Words") (T := fT_Words) (N := 7) hx hb hts u_Words hown hK hP 0 rfl rfl 0 (by decide) (hts _ k_168) (fun _ h9 => h9) rfl d_Words_addChecks_4 ?_
      refine va_getN (D := D) (ci := 8) (v := .int Sh_depth) (C := "DeepChannel$Shape") (T := fT_Shape) (N := 4) hx hb hts u_Shape hown hK hP 1 rfl rfl 0 (by decide) (va_Nw.use rfl (hE.1 _ (List.mem_of_getElem? (i := 1) rfl))) (fun _ h9 => h9) rfl d_Words_addChecks_7 ?_
      refine z_if hm (lv_icmp_ge (tgt := 25) hx hb d_Words_addChecks_10 (by decide)) (fun hm => ?_) (fun hm => ?_)
      · cases hm
        exact z_qo hQ (z_vret hr hx hb hlocks hK hP hD hS d_Words_addChecks_25)
      · refine lv_aload_n hx hb d_Words_addChecks_13 rfl (lv_at hl 0 rfl) ?_
        refine lv_aload_n hx hb d_Words_addChecks_14 rfl (lv_at hl 1 rfl) ?_
        refine lv_iload_n hx hb d_Words_addChecks_15 rfl (lv_at hl 2 rfl) ?_
        obtain ⟨⟨g1, g2⟩, hu, hm⟩ := bd_el hm
        replace hm := nm_2 hm
        refine z_cVv (wc := w_Words_addChecksOfWord cI cJ qWd qSh qWd_remainder qFd qFd_otherForms qP1 qFd_elements qWd_generator qFd_logs qFd_powers Wd_coefficients Wd_syndromes Wd_locator Sh_pattern nP1 Sh_depth Sh_wordBytes Sh_e Wd_remainder Fd_otherForms p1 Fd_elements Wd_generator Fd_logs Fd_powers) (wc' := w_Words_addChecksOfWord cI cJ qWd qSh qWd_remainder qFd qFd_otherForms qP1 qFd_elements qWd_generator qFd_logs qFd_powers Wd_coefficients Wd_syndromes Wd_locator Sh_pattern nP1 Sh_depth Sh_wordBytes Sh_e g1 Fd_otherForms g2 Fd_elements Wd_generator Fd_logs Fd_powers) (wr := []) (As := [.ref qP1, .int x2]) (rest := []) (c_Words_addChecksOfWord l D cI cJ tt qWd qSh qWd_remainder qFd qFd_otherForms qP1 qFd_elements qWd_generator qFd_logs qFd_powers Wd_coefficients Wd_syndromes Wd_locator Sh_pattern nP1 _ Sh_depth Sh_wordBytes Sh_e Wd_remainder Fd_otherForms p1 Fd_elements Wd_generator Fd_logs Fd_powers x2 g1 g2 hu) F ok_Words_addChecksOfWord rfl k_624 hK hE hP hD hS hA [0, 1, 2, 3, 4, 5, 6, 7, 8, 9] [] rfl rfl (by decide) (by decide) (by decide) 0 rfl rfl rfl ⟨rfl, rfl, Nat.le_of_ble_eq_true rfl, Nat.le_of_ble_eq_true rfl⟩ ⟨Nat.zero_le _, Nat.zero_le _⟩ rfl hl.1 rfl (Nat.le_of_ble_eq_true rfl) d_Words_addChecks_16 (fun H locs hP hD hS => ?_)
        have hP : va_P D classes (w_Words_addChecks cI cJ qWd qSh qWd_remainder qFd qFd_otherForms qP1 qFd_elements qWd_generator qFd_logs qFd_powers Wd_coefficients Wd_syndromes Wd_locator Sh_pattern nP1 Sh_depth Sh_wordBytes Sh_e g1 Fd_otherForms g2 Fd_elements Wd_generator Fd_logs Fd_powers) H := hP.sub [0, 1, 2, 3, 4, 5, 6, 7, 8, 9] rfl
        have hD : va_D A (w_Words_addChecks cI cJ qWd qSh qWd_remainder qFd qFd_otherForms qP1 qFd_elements qWd_generator qFd_logs qFd_powers Wd_coefficients Wd_syndromes Wd_locator Sh_pattern nP1 Sh_depth Sh_wordBytes Sh_e g1 Fd_otherForms g2 Fd_elements Wd_generator Fd_logs Fd_powers) := hD.sub [0, 1, 2, 3, 4, 5, 6, 7, 8, 9] (by decide) rfl
        obtain ⟨v4, ev, hm⟩ := nm_el hm
        refine lv_iinc (v := v4) (lv' := [(2, .int v4), (0, .ref qWd), (1, .ref qP1)]) hx hb d_Words_addChecks_19 hl (k := 2) rfl (by rw [ev]; rfl) (by decide) rfl (fun ls hl => ?_)
        refine lv_goto (tgt := 2) hx hb d_Words_addChecks_22 (by decide) ?_
        exact ih2 v4 g1 g2 hm _ _ hP hD hS _ (lv_sub hl [1, 2, 0] rfl)
  unfold f_Words_addChecks at hm
  refine lv_iconst (v := (0 : Int32)) hx hb d_Words_addChecks_0 (by decide) ?_
  refine lv_istore_n (lv' := [(2, .int (0 : Int32)), (0, .ref qWd), (1, .ref qP1)]) hx hb d_Words_addChecks_1 rfl hl (by decide) rfl (fun ls hl => ?_)
  exact T2 10000 (0 : Int32) Wd_remainder p1 hm _ _ hP hD hS _ (lv_sub hl [1, 2, 0] rfl)
-- DeepChannel$Words.putRight([III)I
abbrev b_Words_putRight : ByteArray := prog_11_method_5_code
abbrev y_Words_putRight : MethodName := ⟨"DeepChannel$Words", "putRight", "([III)I"⟩
theorem d_Words_putRight_0 : decode b_Words_putRight 0 = .ok (.iconst 0, 1) := by decide +kernel
theorem d_Words_putRight_1 : decode b_Words_putRight 1 = .ok (.istore 4, 2) := by decide +kernel
theorem d_Words_putRight_3 : decode b_Words_putRight 3 = .ok (.iload 4, 2) := by decide +kernel
theorem d_Words_putRight_5 : decode b_Words_putRight 5 = .ok (.aload_n 0, 1) := by decide +kernel
theorem d_Words_putRight_6 : decode b_Words_putRight 6 = .ok (.getfield 24, 3) := by decide +kernel
theorem d_Words_putRight_9 : decode b_Words_putRight 9 = .ok (.getfield 72, 3) := by decide +kernel
theorem d_Words_putRight_12 : decode b_Words_putRight 12 = .ok (.if_icmp .ge 39, 3) := by decide +kernel
theorem d_Words_putRight_15 : decode b_Words_putRight 15 = .ok (.aload_n 0, 1) := by decide +kernel
theorem d_Words_putRight_16 : decode b_Words_putRight 16 = .ok (.getfield 18, 3) := by decide +kernel
theorem d_Words_putRight_19 : decode b_Words_putRight 19 = .ok (.iload 4, 2) := by decide +kernel
theorem d_Words_putRight_21 : decode b_Words_putRight 21 = .ok (.aload_n 0, 1) := by decide +kernel
theorem d_Words_putRight_22 : decode b_Words_putRight 22 = .ok (.getfield 28, 3) := by decide +kernel
theorem d_Words_putRight_25 : decode b_Words_putRight 25 = .ok (.aload_n 1, 1) := by decide +kernel
theorem d_Words_putRight_26 : decode b_Words_putRight 26 = .ok (.iload_n 2, 1) := by decide +kernel
theorem d_Words_putRight_27 : decode b_Words_putRight 27 = .ok (.iload 4, 2) := by decide +kernel
theorem d_Words_putRight_29 : decode b_Words_putRight 29 = .ok (.aload_n 0, 1) := by decide +kernel
theorem d_Words_putRight_30 : decode b_Words_putRight 30 = .ok (.getfield 24, 3) := by decide +kernel
theorem d_Words_putRight_33 : decode b_Words_putRight 33 = .ok (.getfield 66, 3) := by decide +kernel
theorem d_Words_putRight_36 : decode b_Words_putRight 36 = .ok (.imul, 1) := by decide +kernel
theorem d_Words_putRight_37 : decode b_Words_putRight 37 = .ok (.iadd, 1) := by decide +kernel
theorem d_Words_putRight_38 : decode b_Words_putRight 38 = .ok (.iload_n 3, 1) := by decide +kernel
theorem d_Words_putRight_39 : decode b_Words_putRight 39 = .ok (.iadd, 1) := by decide +kernel
theorem d_Words_putRight_40 : decode b_Words_putRight 40 = .ok (.iaload, 1) := by decide +kernel
theorem d_Words_putRight_41 : decode b_Words_putRight 41 = .ok (.invokevirtual 75, 3) := by decide +kernel
theorem d_Words_putRight_44 : decode b_Words_putRight 44 = .ok (.iastore, 1) := by decide +kernel
theorem d_Words_putRight_45 : decode b_Words_putRight 45 = .ok (.iinc 4 1, 3) := by decide +kernel
theorem d_Words_putRight_48 : decode b_Words_putRight 48 = .ok (.goto (-45), 3) := by decide +kernel
theorem d_Words_putRight_51 : decode b_Words_putRight 51 = .ok (.aload_n 0, 1) := by decide +kernel
theorem d_Words_putRight_52 : decode b_Words_putRight 52 = .ok (.invokevirtual 81, 3) := by decide +kernel
theorem d_Words_putRight_55 : decode b_Words_putRight 55 = .ok (.ifCond .eq 5, 3) := by decide +kernel
theorem d_Words_putRight_58 : decode b_Words_putRight 58 = .ok (.iconst 0, 1) := by decide +kernel
theorem d_Words_putRight_59 : decode b_Words_putRight 59 = .ok (.ireturn, 1) := by decide +kernel
theorem d_Words_putRight_60 : decode b_Words_putRight 60 = .ok (.aload_n 0, 1) := by decide +kernel
theorem d_Words_putRight_61 : decode b_Words_putRight 61 = .ok (.getfield 37, 3) := by decide +kernel
theorem d_Words_putRight_64 : decode b_Words_putRight 64 = .ok (.aload_n 0, 1) := by decide +kernel
theorem d_Words_putRight_65 : decode b_Words_putRight 65 = .ok (.getfield 21, 3) := by decide +kernel
theorem d_Words_putRight_68 : decode b_Words_putRight 68 = .ok (.iconst 2, 1) := by decide +kernel
theorem d_Words_putRight_69 : decode b_Words_putRight 69 = .ok (.aload_n 0, 1) := by decide +kernel
theorem d_Words_putRight_70 : decode b_Words_putRight 70 = .ok (.getfield 24, 3) := by decide +kernel
theorem d_Words_putRight_73 : decode b_Words_putRight 73 = .ok (.getfield 44, 3) := by decide +kernel
theorem d_Words_putRight_76 : decode b_Words_putRight 76 = .ok (.imul, 1) := by decide +kernel
theorem d_Words_putRight_77 : decode b_Words_putRight 77 = .ok (.invokevirtual 85, 3) := by decide +kernel
theorem d_Words_putRight_80 : decode b_Words_putRight 80 = .ok (.istore 4, 2) := by decide +kernel
theorem d_Words_putRight_82 : decode b_Words_putRight 82 = .ok (.iload 4, 2) := by decide +kernel
theorem d_Words_putRight_84 : decode b_Words_putRight 84 = .ok (.aload_n 0, 1) := by decide +kernel
theorem d_Words_putRight_85 : decode b_Words_putRight 85 = .ok (.getfield 24, 3) := by decide +kernel
theorem d_Words_putRight_88 : decode b_Words_putRight 88 = .ok (.getfield 44, 3) := by decide +kernel
theorem d_Words_putRight_91 : decode b_Words_putRight 91 = .ok (.if_icmp .gt 22, 3) := by decide +kernel
theorem d_Words_putRight_94 : decode b_Words_putRight 94 = .ok (.aload_n 0, 1) := by decide +kernel
theorem d_Words_putRight_95 : decode b_Words_putRight 95 = .ok (.getfield 37, 3) := by decide +kernel
theorem d_Words_putRight_98 : decode b_Words_putRight 98 = .ok (.iload 4, 2) := by decide +kernel
theorem d_Words_putRight_100 : decode b_Words_putRight 100 = .ok (.aload_n 0, 1) := by decide +kernel
theorem d_Words_putRight_101 : decode b_Words_putRight 101 = .ok (.getfield 24, 3) := by decide +kernel
theorem d_Words_putRight_104 : decode b_Words_putRight 104 = .ok (.getfield 72, 3) := by decide +kernel
theorem d_Words_putRight_107 : decode b_Words_putRight 107 = .ok (.invokevirtual 89, 3) := by decide +kernel
theorem d_Words_putRight_110 : decode b_Words_putRight 110 = .ok (.ifCond .ne 5, 3) := by decide +kernel
theorem d_Words_putRight_113 : decode b_Words_putRight 113 = .ok (.iconst (-1), 1) := by decide +kernel
theorem d_Words_putRight_114 : decode b_Words_putRight 114 = .ok (.ireturn, 1) := by decide +kernel
theorem d_Words_putRight_115 : decode b_Words_putRight 115 = .ok (.aload_n 0, 1) := by decide +kernel
theorem d_Words_putRight_116 : decode b_Words_putRight 116 = .ok (.getfield 37, 3) := by decide +kernel
theorem d_Words_putRight_119 : decode b_Words_putRight 119 = .ok (.aload_n 0, 1) := by decide +kernel
theorem d_Words_putRight_120 : decode b_Words_putRight 120 = .ok (.getfield 21, 3) := by decide +kernel
theorem d_Words_putRight_123 : decode b_Words_putRight 123 = .ok (.iload 4, 2) := by decide +kernel
theorem d_Words_putRight_125 : decode b_Words_putRight 125 = .ok (.invokevirtual 93, 3) := by decide +kernel
theorem d_Words_putRight_128 : decode b_Words_putRight 128 = .ok (.iconst 0, 1) := by decide +kernel
theorem d_Words_putRight_129 : decode b_Words_putRight 129 = .ok (.istore 5, 2) := by decide +kernel
theorem d_Words_putRight_131 : decode b_Words_putRight 131 = .ok (.iload 5, 2) := by decide +kernel
theorem d_Words_putRight_133 : decode b_Words_putRight 133 = .ok (.iload 4, 2) := by decide +kernel
theorem d_Words_putRight_135 : decode b_Words_putRight 135 = .ok (.if_icmp .ge 87, 3) := by decide +kernel
theorem d_Words_putRight_138 : decode b_Words_putRight 138 = .ok (.aload_n 0, 1) := by decide +kernel
theorem d_Words_putRight_139 : decode b_Words_putRight 139 = .ok (.getfield 37, 3) := by decide +kernel
theorem d_Words_putRight_142 : decode b_Words_putRight 142 = .ok (.iload 5, 2) := by decide +kernel
theorem d_Words_putRight_144 : decode b_Words_putRight 144 = .ok (.invokevirtual 96, 3) := by decide +kernel
theorem d_Words_putRight_147 : decode b_Words_putRight 147 = .ok (.istore 6, 2) := by decide +kernel
theorem d_Words_putRight_149 : decode b_Words_putRight 149 = .ok (.aload_n 0, 1) := by decide +kernel
theorem d_Words_putRight_150 : decode b_Words_putRight 150 = .ok (.getfield 24, 3) := by decide +kernel
theorem d_Words_putRight_153 : decode b_Words_putRight 153 = .ok (.getfield 72, 3) := by decide +kernel
theorem d_Words_putRight_156 : decode b_Words_putRight 156 = .ok (.iconst 1, 1) := by decide +kernel
theorem d_Words_putRight_157 : decode b_Words_putRight 157 = .ok (.isub, 1) := by decide +kernel
theorem d_Words_putRight_158 : decode b_Words_putRight 158 = .ok (.iload 6, 2) := by decide +kernel
theorem d_Words_putRight_160 : decode b_Words_putRight 160 = .ok (.isub, 1) := by decide +kernel
theorem d_Words_putRight_161 : decode b_Words_putRight 161 = .ok (.istore 7, 2) := by decide +kernel
theorem d_Words_putRight_163 : decode b_Words_putRight 163 = .ok (.aload_n 0, 1) := by decide +kernel
theorem d_Words_putRight_164 : decode b_Words_putRight 164 = .ok (.getfield 18, 3) := by decide +kernel
theorem d_Words_putRight_167 : decode b_Words_putRight 167 = .ok (.iload 6, 2) := by decide +kernel
theorem d_Words_putRight_169 : decode b_Words_putRight 169 = .ok (.iaload, 1) := by decide +kernel
theorem d_Words_putRight_170 : decode b_Words_putRight 170 = .ok (.aload_n 0, 1) := by decide +kernel
theorem d_Words_putRight_171 : decode b_Words_putRight 171 = .ok (.getfield 37, 3) := by decide +kernel
theorem d_Words_putRight_174 : decode b_Words_putRight 174 = .ok (.iload 7, 2) := by decide +kernel
theorem d_Words_putRight_176 : decode b_Words_putRight 176 = .ok (.aload_n 0, 1) := by decide +kernel
theorem d_Words_putRight_177 : decode b_Words_putRight 177 = .ok (.getfield 24, 3) := by decide +kernel
theorem d_Words_putRight_180 : decode b_Words_putRight 180 = .ok (.getfield 44, 3) := by decide +kernel
theorem d_Words_putRight_183 : decode b_Words_putRight 183 = .ok (.iload 4, 2) := by decide +kernel
theorem d_Words_putRight_185 : decode b_Words_putRight 185 = .ok (.invokevirtual 99, 3) := by decide +kernel
theorem d_Words_putRight_188 : decode b_Words_putRight 188 = .ok (.ixor, 1) := by decide +kernel
theorem d_Words_putRight_189 : decode b_Words_putRight 189 = .ok (.istore 8, 2) := by decide +kernel
theorem d_Words_putRight_191 : decode b_Words_putRight 191 = .ok (.aload_n 1, 1) := by decide +kernel
theorem d_Words_putRight_192 : decode b_Words_putRight 192 = .ok (.iload_n 2, 1) := by decide +kernel
theorem d_Words_putRight_193 : decode b_Words_putRight 193 = .ok (.iload 6, 2) := by decide +kernel
theorem d_Words_putRight_195 : decode b_Words_putRight 195 = .ok (.aload_n 0, 1) := by decide +kernel
theorem d_Words_putRight_196 : decode b_Words_putRight 196 = .ok (.getfield 24, 3) := by decide +kernel
theorem d_Words_putRight_199 : decode b_Words_putRight 199 = .ok (.getfield 66, 3) := by decide +kernel
theorem d_Words_putRight_202 : decode b_Words_putRight 202 = .ok (.imul, 1) := by decide +kernel
theorem d_Words_putRight_203 : decode b_Words_putRight 203 = .ok (.iadd, 1) := by decide +kernel
theorem d_Words_putRight_204 : decode b_Words_putRight 204 = .ok (.iload_n 3, 1) := by decide +kernel
theorem d_Words_putRight_205 : decode b_Words_putRight 205 = .ok (.iadd, 1) := by decide +kernel
theorem d_Words_putRight_206 : decode b_Words_putRight 206 = .ok (.aload_n 0, 1) := by decide +kernel
theorem d_Words_putRight_207 : decode b_Words_putRight 207 = .ok (.getfield 28, 3) := by decide +kernel
theorem d_Words_putRight_210 : decode b_Words_putRight 210 = .ok (.iload 8, 2) := by decide +kernel
theorem d_Words_putRight_212 : decode b_Words_putRight 212 = .ok (.invokevirtual 78, 3) := by decide +kernel
theorem d_Words_putRight_215 : decode b_Words_putRight 215 = .ok (.iastore, 1) := by decide +kernel
theorem d_Words_putRight_216 : decode b_Words_putRight 216 = .ok (.iinc 5 1, 3) := by decide +kernel
theorem d_Words_putRight_219 : decode b_Words_putRight 219 = .ok (.goto (-88), 3) := by decide +kernel
theorem d_Words_putRight_222 : decode b_Words_putRight 222 = .ok (.iload 4, 2) := by decide +kernel
theorem d_Words_putRight_224 : decode b_Words_putRight 224 = .ok (.ireturn, 1) := by decide +kernel
theorem ok_Words_putRight : OKv y_Words_putRight b_Words_putRight 9 (some .int) "DeepChannel$Words" 3 := ⟨k_757, k_755, k_756, k_44, by decide +kernel, by decide +kernel, by decide +kernel⟩
abbrev w_Words_putRight (cI cJ : ClassId) (qWd qSh qFd qFd_powers qWd_syndromes qFd_logs qWd_coefficients qLc qLc_poly qLc_earlier qLc_spare qLc_places qLc_evaluator qFd_otherForms qP1 qFd_elements : Nat) (Wd_generator Wd_remainder Sh_pattern : Value) (nP1 : Nat) (Sh_depth : Int32) (Sh_wordBytes : Int32) (Sh_e : Int32) (Fd_powers : Nat → Int32) (Wd_syndromes : Nat → Int32) (Fd_logs : Nat → Int32) (Wd_coefficients : Nat → Int32) (Lc_poly : Nat → Int32) (Lc_earlier : Nat → Int32) (Lc_spare : Nat → Int32) (Lc_places : Nat → Int32) (Lc_evaluator : Nat → Int32) (Fd_otherForms : Nat → Int32) (p1 : Nat → Int32) (Fd_elements : Nat → Int32) : va_W := [(qWd, .inr (9, [.ref qSh, .ref qFd, Wd_generator, Wd_remainder, .ref qWd_coefficients, .ref qWd_syndromes, .ref qLc])), (qSh, .inr (8, [.int Sh_depth, .int Sh_wordBytes, .int Sh_e, Sh_pattern])), (qFd, .inr (2, [.ref qFd_powers, .ref qFd_logs, .ref qFd_otherForms, .ref qFd_elements])), (qFd_powers, .inl (cI, 255, .inl Fd_powers)), (qWd_syndromes, .inl (cI, 32, .inl Wd_syndromes)), (qFd_logs, .inl (cI, 256, .inl Fd_logs)), (qWd_coefficients, .inl (cI, 250, .inl Wd_coefficients)), (qLc, .inr (3, [.ref qFd, .ref qLc_poly, .ref qLc_earlier, .ref qLc_spare, .ref qLc_evaluator, .ref qLc_places])), (qLc_poly, .inl (cI, 33, .inl Lc_poly)), (qLc_earlier, .inl (cI, 33, .inl Lc_earlier)), (qLc_spare, .inl (cI, 33, .inl Lc_spare)), (qLc_places, .inl (cI, 32, .inl Lc_places)), (qLc_evaluator, .inl (cI, 33, .inl Lc_evaluator)), (qFd_otherForms, .inl (cI, 256, .inl Fd_otherForms)), (qP1, .inl (cI, nP1, .inl p1)), (qFd_elements, .inl (cI, 256, .inl Fd_elements))]
def f_Words_putRight_131_b (Sh_depth : Int32) (Sh_wordBytes : Int32) (Sh_e : Int32) (Fd_powers : Nat → Int32) (Fd_logs : Nat → Int32) (Fd_otherForms : Nat → Int32) (nP1 : Nat) (kh131 : Int32 → Int32 → Int32 → Int32 → (Nat → Int32) → (Nat → Int32) → (Nat → Int32) → (Nat → Int32) → (Nat → Int32) → (Nat → Int32) → (Nat → Int32) → (Nat → Int32) → Option (Int32 × (Nat → Int32) × (Nat → Int32) × (Nat → Int32) × (Nat → Int32) × (Nat → Int32) × (Nat → Int32) × (Nat → Int32) × (Nat → Int32))) (x2 : Int32) (x3 : Int32) (x4 : Int32) (x5 : Int32) (Wd_syndromes : Nat → Int32) (Wd_coefficients : Nat → Int32) (Lc_poly : Nat → Int32) (Lc_earlier : Nat → Int32) (Lc_spare : Nat → Int32) (Lc_places : Nat → Int32) (Lc_evaluator : Nat → Int32) (p1 : Nat → Int32) : Option (Int32 × (Nat → Int32) × (Nat → Int32) × (Nat → Int32) × (Nat → Int32) × (Nat → Int32) × (Nat → Int32) × (Nat → Int32) × (Nat → Int32)) :=
  if x4 ≤ x5 then
    some (x4, Wd_syndromes, Wd_coefficients, Lc_poly, Lc_earlier, Lc_spare, Lc_places, Lc_evaluator, p1)
  else
  bd (f_Locator_placeAt Lc_places x5) fun u2 =>
  nm u2 fun r1 =>
  nm ((Sh_wordBytes - (1 : Int32)) - r1) fun v3 =>
  rdI Wd_coefficients 250 r1 fun v4 =>
  bd (f_Locator_differenceAt Fd_powers Fd_logs Lc_evaluator Lc_poly v3 Sh_e x4) fun u6 =>
  nm u6 fun r5 =>
  nm (v4 ^^^ r5) fun v7 =>
  bd (f_Field_otherForm Fd_otherForms v7) fun u9 =>
  nm u9 fun r8 =>
  wrI p1 nP1 ((x2 + (r1 * Sh_depth)) + x3) r8 fun g10 =>
  nm (x5 + (1 : Int32)) fun v11 =>
  kh131 x2 x3 x4 v11 Wd_syndromes Wd_coefficients Lc_poly Lc_earlier Lc_spare Lc_places Lc_evaluator g10
def f_Words_putRight_131 (Sh_depth : Int32) (Sh_wordBytes : Int32) (Sh_e : Int32) (Fd_powers : Nat → Int32) (Fd_logs : Nat → Int32) (Fd_otherForms : Nat → Int32) (nP1 : Nat) : Nat → Int32 → Int32 → Int32 → Int32 → (Nat → Int32) → (Nat → Int32) → (Nat → Int32) → (Nat → Int32) → (Nat → Int32) → (Nat → Int32) → (Nat → Int32) → (Nat → Int32) → Option (Int32 × (Nat → Int32) × (Nat → Int32) × (Nat → Int32) × (Nat → Int32) × (Nat → Int32) × (Nat → Int32) × (Nat → Int32) × (Nat → Int32))
  | 0 => fun _ _ _ _ _ _ _ _ _ _ _ _ => none
  | n + 1 => fun x2 x3 x4 x5 Wd_syndromes Wd_coefficients Lc_poly Lc_earlier Lc_spare Lc_places Lc_evaluator p1 => f_Words_putRight_131_b Sh_depth Sh_wordBytes Sh_e Fd_powers Fd_logs Fd_otherForms nP1 (f_Words_putRight_131 Sh_depth Sh_wordBytes Sh_e Fd_powers Fd_logs Fd_otherForms nP1 n) x2 x3 x4 x5 Wd_syndromes Wd_coefficients Lc_poly Lc_earlier Lc_spare Lc_places Lc_evaluator p1
def f_Words_putRight_51 (Sh_depth : Int32) (Sh_wordBytes : Int32) (Sh_e : Int32) (Fd_powers : Nat → Int32) (Fd_logs : Nat → Int32) (Fd_otherForms : Nat → Int32) (nP1 : Nat) (x2 : Int32) (x3 : Int32) (Wd_syndromes : Nat → Int32) (Wd_coefficients : Nat → Int32) (Lc_poly : Nat → Int32) (Lc_earlier : Nat → Int32) (Lc_spare : Nat → Int32) (Lc_places : Nat → Int32) (Lc_evaluator : Nat → Int32) (p1 : Nat → Int32) : Option (Int32 × (Nat → Int32) × (Nat → Int32) × (Nat → Int32) × (Nat → Int32) × (Nat → Int32) × (Nat → Int32) × (Nat → Int32) × (Nat → Int32)) :=
  bd (f_Words_isCodeword Sh_wordBytes Sh_e Fd_powers Wd_syndromes Fd_logs Wd_coefficients) fun u14 =>
  nm u14.1 fun r12 =>
  nm u14.2 fun g13 =>
  if r12 = 0 then
    bd (f_Locator_findRecurrence Lc_poly Lc_earlier g13 Fd_logs Fd_powers Lc_spare 32 ((2 : Int32) * Sh_e)) fun u19 =>
    nm u19.1 fun r15 =>
    nm u19.2.1 fun g16 =>
    nm u19.2.2.1 fun g17 =>
    nm u19.2.2.2 fun g18 =>
    if Sh_e < r15 then
      some ((-1 : Int32), g13, Wd_coefficients, g16, g17, g18, Lc_places, Lc_evaluator, p1)
    else
    bd (f_Locator_findPlaces Fd_powers Fd_logs g16 Lc_places r15 Sh_wordBytes) fun u22 =>
    nm u22.1 fun r20 =>
    nm u22.2 fun g21 =>
    if r20 = 0 then
      some ((-1 : Int32), g13, Wd_coefficients, g16, g17, g18, g21, Lc_evaluator, p1)
    else
    bd (f_Locator_findEvaluator g16 g13 Fd_logs Fd_powers Lc_evaluator 32 r15) fun u24 =>
    nm u24 fun g23 =>
    f_Words_putRight_131 Sh_depth Sh_wordBytes Sh_e Fd_powers Fd_logs Fd_otherForms nP1 10000 x2 x3 r15 (0 : Int32) g13 Wd_coefficients g16 g17 g18 g21 g23 p1
  else
  some ((0 : Int32), g13, Wd_coefficients, Lc_poly, Lc_earlier, Lc_spare, Lc_places, Lc_evaluator, p1)
def f_Words_putRight_3_b (Sh_depth : Int32) (Sh_wordBytes : Int32) (Sh_e : Int32) (Fd_powers : Nat → Int32) (Fd_logs : Nat → Int32) (Fd_otherForms : Nat → Int32) (Fd_elements : Nat → Int32) (nP1 : Nat) (kh3 : Int32 → Int32 → Int32 → (Nat → Int32) → (Nat → Int32) → (Nat → Int32) → (Nat → Int32) → (Nat → Int32) → (Nat → Int32) → (Nat → Int32) → (Nat → Int32) → Option (Int32 × (Nat → Int32) × (Nat → Int32) × (Nat → Int32) × (Nat → Int32) × (Nat → Int32) × (Nat → Int32) × (Nat → Int32) × (Nat → Int32))) (x2 : Int32) (x3 : Int32) (x4 : Int32) (Wd_syndromes : Nat → Int32) (Wd_coefficients : Nat → Int32) (Lc_poly : Nat → Int32) (Lc_earlier : Nat → Int32) (Lc_spare : Nat → Int32) (Lc_places : Nat → Int32) (Lc_evaluator : Nat → Int32) (p1 : Nat → Int32) : Option (Int32 × (Nat → Int32) × (Nat → Int32) × (Nat → Int32) × (Nat → Int32) × (Nat → Int32) × (Nat → Int32) × (Nat → Int32) × (Nat → Int32)) :=
  if Sh_wordBytes ≤ x4 then
    f_Words_putRight_51 Sh_depth Sh_wordBytes Sh_e Fd_powers Fd_logs Fd_otherForms nP1 x2 x3 Wd_syndromes Wd_coefficients Lc_poly Lc_earlier Lc_spare Lc_places Lc_evaluator p1
  else
  rdI p1 nP1 ((x2 + (x4 * Sh_depth)) + x3) fun v25 =>
  bd (f_Field_element Fd_elements v25) fun u27 =>
  nm u27 fun r26 =>
  wrI Wd_coefficients 250 x4 r26 fun g28 =>
  nm (x4 + (1 : Int32)) fun v29 =>
  kh3 x2 x3 v29 Wd_syndromes g28 Lc_poly Lc_earlier Lc_spare Lc_places Lc_evaluator p1
def f_Words_putRight_3 (Sh_depth : Int32) (Sh_wordBytes : Int32) (Sh_e : Int32) (Fd_powers : Nat → Int32) (Fd_logs : Nat → Int32) (Fd_otherForms : Nat → Int32) (Fd_elements : Nat → Int32) (nP1 : Nat) : Nat → Int32 → Int32 → Int32 → (Nat → Int32) → (Nat → Int32) → (Nat → Int32) → (Nat → Int32) → (Nat → Int32) → (Nat → Int32) → (Nat → Int32) → (Nat → Int32) → Option (Int32 × (Nat → Int32) × (Nat → Int32) × (Nat → Int32) × (Nat → Int32) × (Nat → Int32) × (Nat → Int32) × (Nat → Int32) × (Nat → Int32))
  | 0 => fun _ _ _ _ _ _ _ _ _ _ _ => none
  | n + 1 => fun x2 x3 x4 Wd_syndromes Wd_coefficients Lc_poly Lc_earlier Lc_spare Lc_places Lc_evaluator p1 => f_Words_putRight_3_b Sh_depth Sh_wordBytes Sh_e Fd_powers Fd_logs Fd_otherForms Fd_elements nP1 (f_Words_putRight_3 Sh_depth Sh_wordBytes Sh_e Fd_powers Fd_logs Fd_otherForms Fd_elements nP1 n) x2 x3 x4 Wd_syndromes Wd_coefficients Lc_poly Lc_earlier Lc_spare Lc_places Lc_evaluator p1
def f_Words_putRight (Sh_depth : Int32) (Sh_wordBytes : Int32) (Sh_e : Int32) (Fd_powers : Nat → Int32) (Wd_syndromes : Nat → Int32) (Fd_logs : Nat → Int32) (Wd_coefficients : Nat → Int32) (Lc_poly : Nat → Int32) (Lc_earlier : Nat → Int32) (Lc_spare : Nat → Int32) (Lc_places : Nat → Int32) (Lc_evaluator : Nat → Int32) (Fd_otherForms : Nat → Int32) (p1 : Nat → Int32) (Fd_elements : Nat → Int32) (nP1 : Nat) (x2 : Int32) (x3 : Int32) : Option (Int32 × (Nat → Int32) × (Nat → Int32) × (Nat → Int32) × (Nat → Int32) × (Nat → Int32) × (Nat → Int32) × (Nat → Int32) × (Nat → Int32)) :=
  f_Words_putRight_3 Sh_depth Sh_wordBytes Sh_e Fd_powers Fd_logs Fd_otherForms Fd_elements nP1 10000 x2 x3 (0 : Int32) Wd_syndromes Wd_coefficients Lc_poly Lc_earlier Lc_spare Lc_places Lc_evaluator p1
set_option maxHeartbeats 4000000 in
set_option maxRecDepth 100000 in
theorem c_Words_putRight (l : Launch) (D : va_G) (cI cJ : ClassId) (tt : Nat → Nat) (qWd qSh qFd qFd_powers qWd_syndromes qFd_logs qWd_coefficients qLc qLc_poly qLc_earlier qLc_spare qLc_places qLc_evaluator qFd_otherForms qP1 qFd_elements : Nat) (Wd_generator Wd_remainder Sh_pattern : Value) (nP1 : Nat) (sz : Nat) (Sh_depth : Int32) (Sh_wordBytes : Int32) (Sh_e : Int32) (Fd_powers : Nat → Int32) (Wd_syndromes : Nat → Int32) (Fd_logs : Nat → Int32) (Wd_coefficients : Nat → Int32) (Lc_poly : Nat → Int32) (Lc_earlier : Nat → Int32) (Lc_spare : Nat → Int32) (Lc_places : Nat → Int32) (Lc_evaluator : Nat → Int32) (Fd_otherForms : Nat → Int32) (p1 : Nat → Int32) (Fd_elements : Nat → Int32) (x2 : Int32) (x3 : Int32) (rr : Int32) (Wd_syndromes' : Nat → Int32) (Wd_coefficients' : Nat → Int32) (Lc_poly' : Nat → Int32) (Lc_earlier' : Nat → Int32) (Lc_spare' : Nat → Int32) (Lc_places' : Nat → Int32) (Lc_evaluator' : Nat → Int32) (p1' : Nat → Int32) (hm : f_Words_putRight Sh_depth Sh_wordBytes Sh_e Fd_powers Wd_syndromes Fd_logs Wd_coefficients Lc_poly Lc_earlier Lc_spare Lc_places Lc_evaluator Fd_otherForms p1 Fd_elements nP1 x2 x3 = some (rr, Wd_syndromes', Wd_coefficients', Lc_poly', Lc_earlier', Lc_spare', Lc_places', Lc_evaluator', p1')) : CTi l y_Words_putRight b_Words_putRight 9 (some .int) (RM 3 88) D cI cJ tt [.ref qWd, .ref qP1, .int x2, .int x3] (w_Words_putRight cI cJ qWd qSh qFd qFd_powers qWd_syndromes qFd_logs qWd_coefficients qLc qLc_poly qLc_earlier qLc_spare qLc_places qLc_evaluator qFd_otherForms qP1 qFd_elements Wd_generator Wd_remainder Sh_pattern nP1 Sh_depth Sh_wordBytes Sh_e Fd_powers Wd_syndromes Fd_logs Wd_coefficients Lc_poly Lc_earlier Lc_spare Lc_places Lc_evaluator Fd_otherForms p1 Fd_elements) (w_Words_putRight cI cJ qWd qSh qFd qFd_powers qWd_syndromes qFd_logs qWd_coefficients qLc qLc_poly qLc_earlier qLc_spare qLc_places qLc_evaluator qFd_otherForms qP1 qFd_elements Wd_generator Wd_remainder Sh_pattern nP1 Sh_depth Sh_wordBytes Sh_e Fd_powers Wd_syndromes' Fd_logs Wd_coefficients' Lc_poly' Lc_earlier' Lc_spare' Lc_places' Lc_evaluator' Fd_otherForms p1' Fd_elements) sz rr := by
  refine Met.ofW (cc := b_Words_putRight) (maxL := 9) (ret := (some .int)) (by decide) rfl ?_
  intro p e s m args below meth c s₁ B hml hv
  obtain ⟨hargs, hsz, hP, hK, hD0, hE⟩ := hv
  have hx := B.exec
  have hb := B.bytes
  have hr := B.returns
  have hts : ∀ w ∈ TB, w.before args s = true := z_mV s (atoms_spec (ws := WD y_Words_putRight b_Words_putRight 9 (some .int)) B.pre)
  have hown : s.vm.findClass "DeepChannel$Words" = some m.cls := findClass_of_methodNamed B.named
  have hlocks := B.notSynchronized
  subst hsz
  have hD := hD0.self (sz := s.heap.size)
  generalize hAe : va_A (w_Words_putRight cI cJ qWd qSh qFd qFd_powers qWd_syndromes qFd_logs qWd_coefficients qLc qLc_poly qLc_earlier qLc_spare qLc_places qLc_evaluator qFd_otherForms qP1 qFd_elements Wd_generator Wd_remainder Sh_pattern nP1 Sh_depth Sh_wordBytes Sh_e Fd_powers Wd_syndromes Fd_logs Wd_coefficients Lc_poly Lc_earlier Lc_spare Lc_places Lc_evaluator Fd_otherForms p1 Fd_elements) s.heap.size = A at hD hE ⊢
  have hA : ∀ q : Nat, s.heap.size ≤ q → A q := fun q h => by rw [← hAe]; exact Or.inr h
  have hS : va_S A s.heap s.heap [] := va_S.rf
  refine z_entry (vs := [.ref qWd, .ref qP1, .int x2, .int x3]) hargs (Nat.le_of_ble_eq_true rfl) (fun ls hl => ?_)
  have hl : lv_has ls 9 [(0, .ref qWd), (1, .ref qP1), (2, .int x2), (3, .int x3)] := hl
  show W p l e (RM 3 88) s m args below meth c s.heap [] 0 0 _ _
  refine z_qi (fun Q0 hQ => ?_)
  have F : CallFix p m c b_Words_putRight 9 s args TB "DeepChannel$Words" := ⟨hx, hb, hml, hown, hts⟩
  have T131 : ∀ (n131 : Nat) (x2 : Int32) (x3 : Int32) (x4 : Int32) (x5 : Int32) (Wd_syndromes : Nat → Int32) (Wd_coefficients : Nat → Int32) (Lc_poly : Nat → Int32) (Lc_earlier : Nat → Int32) (Lc_spare : Nat → Int32) (Lc_places : Nat → Int32) (Lc_evaluator : Nat → Int32) (p1 : Nat → Int32), f_Words_putRight_131 Sh_depth Sh_wordBytes Sh_e Fd_powers Fd_logs Fd_otherForms nP1 n131 x2 x3 x4 x5 Wd_syndromes Wd_coefficients Lc_poly Lc_earlier Lc_spare Lc_places Lc_evaluator p1 = some (rr, Wd_syndromes', Wd_coefficients', Lc_poly', Lc_earlier', Lc_spare', Lc_places', Lc_evaluator', p1') → ∀ (H : Heap) (locs : List Loc), va_P D classes (w_Words_putRight cI cJ qWd qSh qFd qFd_powers qWd_syndromes qFd_logs qWd_coefficients qLc qLc_poly qLc_earlier qLc_spare qLc_places qLc_evaluator qFd_otherForms qP1 qFd_elements Wd_generator Wd_remainder Sh_pattern nP1 Sh_depth Sh_wordBytes Sh_e Fd_powers Wd_syndromes Fd_logs Wd_coefficients Lc_poly Lc_earlier Lc_spare Lc_places Lc_evaluator Fd_otherForms p1 Fd_elements) H → va_D A (w_Words_putRight cI cJ qWd qSh qFd qFd_powers qWd_syndromes qFd_logs qWd_coefficients qLc qLc_poly qLc_earlier qLc_spare qLc_places qLc_evaluator qFd_otherForms qP1 qFd_elements Wd_generator Wd_remainder Sh_pattern nP1 Sh_depth Sh_wordBytes Sh_e Fd_powers Wd_syndromes Fd_logs Wd_coefficients Lc_poly Lc_earlier Lc_spare Lc_places Lc_evaluator Fd_otherForms p1 Fd_elements) → va_S A s.heap H locs → ∀ (ls : Array Slot), lv_has ls 9 [(0, .ref qWd), (1, .ref qP1), (2, .int x2), (3, .int x3), (4, .int x4), (5, .int x5)] → W p l e (RM 3 88) s m args below meth c H locs 0 0 Q0 (F0 m 131 ls []) := by
    intro n131
    induction n131 with
    | zero => intro x2 x3 x4 x5 Wd_syndromes Wd_coefficients Lc_poly Lc_earlier Lc_spare Lc_places Lc_evaluator p1 hm; cases hm
    | succ n131 ih131 =>
      intro x2 x3 x4 x5 Wd_syndromes Wd_coefficients Lc_poly Lc_earlier Lc_spare Lc_places Lc_evaluator p1 hm H locs hP hD hS ls hl
      replace hm : f_Words_putRight_131_b Sh_depth Sh_wordBytes Sh_e Fd_powers Fd_logs Fd_otherForms nP1 (f_Words_putRight_131 Sh_depth Sh_wordBytes Sh_e Fd_powers Fd_logs Fd_otherForms nP1 n131) x2 x3 x4 x5 Wd_syndromes Wd_coefficients Lc_poly Lc_earlier Lc_spare Lc_places Lc_evaluator p1 = some (rr, Wd_syndromes', Wd_coefficients', Lc_poly', Lc_earlier', Lc_spare', Lc_places', Lc_evaluator', p1') := hm
      unfold f_Words_putRight_131_b at hm
      refine lv_iload hx hb d_Words_putRight_131 (lv_at hl 5 rfl) ?_
      refine lv_iload hx hb d_Words_putRight_133 (lv_at hl 4 rfl) ?_
      refine z_if hm (lv_icmp_ge (tgt := 222) hx hb d_Words_putRight_135 (by decide)) (fun hm => ?_) (fun hm => ?_)
      · refine lv_iload hx hb d_Words_putRight_222 (lv_at hl 4 rfl) ?_
        cases hm
        exact z_qo hQ (z_ireti hr hx hb hlocks hK hP hD hS d_Words_putRight_224)
      · refine lv_aload_n hx hb d_Words_putRight_138 rfl (lv_at hl 0 rfl) ?_
        refine va_get (D := D) (ci := 9) (v := .ref qLc) (C := "DeepChannel$Words") (T := fT_Words) (N := 7) hx hb hts u_Words hown hK hP 0 rfl rfl 6 (by decide) (hts _ k_174) (fun _ h9 => h9) rfl d_Words_putRight_139 ?_
        refine lv_iload hx hb d_Words_putRight_142 (lv_at hl 5 rfl) ?_
        obtain ⟨r1, hu, hm⟩ := bd_el hm
        replace hm := nm_1 hm
        refine z_cVi (wc := w_Locator_placeAt cI cJ qLc qLc_places (.ref qFd) (.ref qLc_poly) (.ref qLc_earlier) (.ref qLc_spare) (.ref qLc_evaluator) Lc_places) (wc' := w_Locator_placeAt cI cJ qLc qLc_places (.ref qFd) (.ref qLc_poly) (.ref qLc_earlier) (.ref qLc_spare) (.ref qLc_evaluator) Lc_places) (wr := [(qWd, .inr (9, [.ref qSh, .ref qFd, Wd_generator, Wd_remainder, .ref qWd_coefficients, .ref qWd_syndromes, .ref qLc])), (qSh, .inr (8, [.int Sh_depth, .int Sh_wordBytes, .int Sh_e, Sh_pattern])), (qFd, .inr (2, [.ref qFd_powers, .ref qFd_logs, .ref qFd_otherForms, .ref qFd_elements])), (qFd_powers, .inl (cI, 255, .inl Fd_powers)), (qWd_syndromes, .inl (cI, 32, .inl Wd_syndromes)), (qFd_logs, .inl (cI, 256, .inl Fd_logs)), (qWd_coefficients, .inl (cI, 250, .inl Wd_coefficients)), (qLc_poly, .inl (cI, 33, .inl Lc_poly)), (qLc_earlier, .inl (cI, 33, .inl Lc_earlier)), (qLc_spare, .inl (cI, 33, .inl Lc_spare)), (qLc_evaluator, .inl (cI, 33, .inl Lc_evaluator)), (qFd_otherForms, .inl (cI, 256, .inl Fd_otherForms)), (qP1, .inl (cI, nP1, .inl p1)), (qFd_elements, .inl (cI, 256, .inl Fd_elements))]) (As := [.int x5]) (rest := []) (c_Locator_placeAt l D cI cJ tt qLc qLc_places (.ref qFd) (.ref qLc_poly) (.ref qLc_earlier) (.ref qLc_spare) (.ref qLc_evaluator) _ Lc_places x5 r1 hu) F ok_Locator_placeAt rfl k_796 hK hE hP hD hS hA [7, 11] [0, 1, 2, 3, 4, 5, 6, 8, 9, 10, 12, 13, 14, 15] rfl rfl (by decide) (by decide) (by decide) 0 rfl rfl rfl ⟨rfl, rfl, Nat.le_of_ble_eq_true rfl, Nat.le_of_ble_eq_true rfl⟩ ⟨Nat.zero_le _, Nat.zero_le _⟩ rfl hl.1 rfl (Nat.le_of_ble_eq_true rfl) d_Words_putRight_144 (fun H locs hP hD hS => ?_)
        have hP : va_P D classes (w_Words_putRight cI cJ qWd qSh qFd qFd_powers qWd_syndromes qFd_logs qWd_coefficients qLc qLc_poly qLc_earlier qLc_spare qLc_places qLc_evaluator qFd_otherForms qP1 qFd_elements Wd_generator Wd_remainder Sh_pattern nP1 Sh_depth Sh_wordBytes Sh_e Fd_powers Wd_syndromes Fd_logs Wd_coefficients Lc_poly Lc_earlier Lc_spare Lc_places Lc_evaluator Fd_otherForms p1 Fd_elements) H := hP.sub [0, 1, 2, 3, 4, 5, 6, 14, 7, 8, 9, 15, 10, 11, 12, 13] rfl
        have hD : va_D A (w_Words_putRight cI cJ qWd qSh qFd qFd_powers qWd_syndromes qFd_logs qWd_coefficients qLc qLc_poly qLc_earlier qLc_spare qLc_places qLc_evaluator qFd_otherForms qP1 qFd_elements Wd_generator Wd_remainder Sh_pattern nP1 Sh_depth Sh_wordBytes Sh_e Fd_powers Wd_syndromes Fd_logs Wd_coefficients Lc_poly Lc_earlier Lc_spare Lc_places Lc_evaluator Fd_otherForms p1 Fd_elements) := hD.sub [0, 1, 2, 3, 4, 5, 6, 14, 7, 8, 9, 15, 10, 11, 12, 13] (by decide) rfl
        refine lv_istore (lv' := [(6, .int r1), (0, .ref qWd), (1, .ref qP1), (2, .int x2), (3, .int x3), (4, .int x4), (5, .int x5)]) hx hb d_Words_putRight_147 hl (by decide) rfl (fun ls hl => ?_)
        refine lv_aload_n hx hb d_Words_putRight_149 rfl (lv_at hl 1 rfl) ?_
        refine va_get (D := D) (ci := 9) (v := .ref qSh) (C := "DeepChannel$Words") (T := fT_Words) (N := 7) hx hb hts u_Words hown hK hP 0 rfl rfl 0 (by decide) (hts _ k_168) (fun _ h9 => h9) rfl d_Words_putRight_150 ?_
        refine va_getN (D := D) (ci := 8) (v := .int Sh_wordBytes) (C := "DeepChannel$Shape") (T := fT_Shape) (N := 4) hx hb hts u_Shape hown hK hP 1 rfl rfl 1 (by decide) (va_Nw.use rfl (hE.1 _ (List.mem_of_getElem? (i := 3) rfl))) (fun _ h9 => h9) rfl d_Words_putRight_153 ?_
        refine lv_iconst (v := (1 : Int32)) hx hb d_Words_putRight_156 (by decide) ?_
        refine lv_isub hx hb d_Words_putRight_157 ?_
        refine lv_iload hx hb d_Words_putRight_158 (lv_at hl 0 rfl) ?_
        refine lv_isub hx hb d_Words_putRight_160 ?_
        refine z_nmi hm (fun v3 hm => ?_)
        refine lv_istore (lv' := [(7, .int v3), (6, .int r1), (0, .ref qWd), (1, .ref qP1), (2, .int x2), (3, .int x3), (4, .int x4), (5, .int x5)]) hx hb d_Words_putRight_161 hl (by decide) rfl (fun ls hl => ?_)
        refine lv_aload_n hx hb d_Words_putRight_163 rfl (lv_at hl 2 rfl) ?_
        refine va_get (D := D) (ci := 9) (v := .ref qWd_coefficients) (C := "DeepChannel$Words") (T := fT_Words) (N := 7) hx hb hts u_Words hown hK hP 0 rfl rfl 4 (by decide) (hts _ k_172) (fun _ h9 => h9) rfl d_Words_putRight_164 ?_
        refine lv_iload hx hb d_Words_putRight_167 (lv_at hl 1 rfl) ?_
        refine z_iald hm hx hb hK hP 6 rfl d_Words_putRight_169 (fun v4 hm => ?_)
        refine lv_aload_n hx hb d_Words_putRight_170 rfl (lv_at hl 2 rfl) ?_
        refine va_get (D := D) (ci := 9) (v := .ref qLc) (C := "DeepChannel$Words") (T := fT_Words) (N := 7) hx hb hts u_Words hown hK hP 0 rfl rfl 6 (by decide) (hts _ k_174) (fun _ h9 => h9) rfl d_Words_putRight_171 ?_
        refine lv_iload hx hb d_Words_putRight_174 (lv_at hl 0 rfl) ?_
        refine lv_aload_n hx hb d_Words_putRight_176 rfl (lv_at hl 2 rfl) ?_
        refine va_get (D := D) (ci := 9) (v := .ref qSh) (C := "DeepChannel$Words") (T := fT_Words) (N := 7) hx hb hts u_Words hown hK hP 0 rfl rfl 0 (by decide) (hts _ k_168) (fun _ h9 => h9) rfl d_Words_putRight_177 ?_
        refine va_getN (D := D) (ci := 8) (v := .int Sh_e) (C := "DeepChannel$Shape") (T := fT_Shape) (N := 4) hx hb hts u_Shape hown hK hP 1 rfl rfl 2 (by decide) (va_Nw.use rfl (hE.1 _ (List.mem_of_getElem? (i := 4) rfl))) (fun _ h9 => h9) rfl d_Words_putRight_180 ?_
        refine lv_iload hx hb d_Words_putRight_183 (lv_at hl 6 rfl) ?_
        obtain ⟨r5, hu, hm⟩ := bd_el hm
        replace hm := nm_1 hm
        refine z_cVi (wc := w_Locator_differenceAt cI cJ qLc qFd qFd_powers qFd_logs qLc_evaluator qLc_poly (.ref qLc_earlier) (.ref qLc_spare) (.ref qLc_places) (.ref qFd_otherForms) (.ref qFd_elements) Fd_powers Fd_logs Lc_evaluator Lc_poly) (wc' := w_Locator_differenceAt cI cJ qLc qFd qFd_powers qFd_logs qLc_evaluator qLc_poly (.ref qLc_earlier) (.ref qLc_spare) (.ref qLc_places) (.ref qFd_otherForms) (.ref qFd_elements) Fd_powers Fd_logs Lc_evaluator Lc_poly) (wr := [(qWd, .inr (9, [.ref qSh, .ref qFd, Wd_generator, Wd_remainder, .ref qWd_coefficients, .ref qWd_syndromes, .ref qLc])), (qSh, .inr (8, [.int Sh_depth, .int Sh_wordBytes, .int Sh_e, Sh_pattern])), (qWd_syndromes, .inl (cI, 32, .inl Wd_syndromes)), (qWd_coefficients, .inl (cI, 250, .inl Wd_coefficients)), (qLc_earlier, .inl (cI, 33, .inl Lc_earlier)), (qLc_spare, .inl (cI, 33, .inl Lc_spare)), (qLc_places, .inl (cI, 32, .inl Lc_places)), (qFd_otherForms, .inl (cI, 256, .inl Fd_otherForms)), (qP1, .inl (cI, nP1, .inl p1)), (qFd_elements, .inl (cI, 256, .inl Fd_elements))]) (As := [.int v3, .int Sh_e, .int x4]) (rest := [.int v4]) (c_Locator_differenceAt l D cI cJ tt qLc qFd qFd_powers qFd_logs qLc_evaluator qLc_poly (.ref qLc_earlier) (.ref qLc_spare) (.ref qLc_places) (.ref qFd_otherForms) (.ref qFd_elements) _ Fd_powers Fd_logs Lc_evaluator Lc_poly v3 Sh_e x4 r5 hu) F ok_Locator_differenceAt rfl k_800 hK hE hP hD hS hA [7, 2, 3, 5, 12, 8] [0, 1, 4, 6, 9, 10, 11, 13, 14, 15] rfl rfl (by decide) (by decide) (by decide) 0 rfl rfl rfl ⟨rfl, rfl, Nat.le_of_ble_eq_true rfl, Nat.le_of_ble_eq_true rfl⟩ ⟨Nat.zero_le _, Nat.zero_le _⟩ rfl hl.1 rfl (Nat.le_of_ble_eq_true rfl) d_Words_putRight_185 (fun H locs hP hD hS => ?_)
        have hP : va_P D classes (w_Words_putRight cI cJ qWd qSh qFd qFd_powers qWd_syndromes qFd_logs qWd_coefficients qLc qLc_poly qLc_earlier qLc_spare qLc_places qLc_evaluator qFd_otherForms qP1 qFd_elements Wd_generator Wd_remainder Sh_pattern nP1 Sh_depth Sh_wordBytes Sh_e Fd_powers Wd_syndromes Fd_logs Wd_coefficients Lc_poly Lc_earlier Lc_spare Lc_places Lc_evaluator Fd_otherForms p1 Fd_elements) H := hP.sub [0, 1, 11, 12, 2, 13, 3, 10, 15, 4, 5, 6, 14, 7, 8, 9] rfl
        have hD : va_D A (w_Words_putRight cI cJ qWd qSh qFd qFd_powers qWd_syndromes qFd_logs qWd_coefficients qLc qLc_poly qLc_earlier qLc_spare qLc_places qLc_evaluator qFd_otherForms qP1 qFd_elements Wd_generator Wd_remainder Sh_pattern nP1 Sh_depth Sh_wordBytes Sh_e Fd_powers Wd_syndromes Fd_logs Wd_coefficients Lc_poly Lc_earlier Lc_spare Lc_places Lc_evaluator Fd_otherForms p1 Fd_elements) := hD.sub [0, 1, 11, 12, 2, 13, 3, 10, 15, 4, 5, 6, 14, 7, 8, 9] (by decide) rfl
        refine lv_ixor hx hb d_Words_putRight_188 ?_
        refine z_nmi hm (fun v7 hm => ?_)
        refine lv_istore (lv' := [(8, .int v7), (7, .int v3), (6, .int r1), (0, .ref qWd), (1, .ref qP1), (2, .int x2), (3, .int x3), (4, .int x4), (5, .int x5)]) hx hb d_Words_putRight_189 hl (by decide) rfl (fun ls hl => ?_)
        refine lv_aload_n hx hb d_Words_putRight_191 rfl (lv_at hl 4 rfl) ?_
        refine lv_iload_n hx hb d_Words_putRight_192 rfl (lv_at hl 5 rfl) ?_
        refine lv_iload hx hb d_Words_putRight_193 (lv_at hl 2 rfl) ?_
        refine lv_aload_n hx hb d_Words_putRight_195 rfl (lv_at hl 3 rfl) ?_
        refine va_get (D := D) (ci := 9) (v := .ref qSh) (C := "DeepChannel$Words") (T := fT_Words) (N := 7) hx hb hts u_Words hown hK hP 0 rfl rfl 0 (by decide) (hts _ k_168) (fun _ h9 => h9) rfl d_Words_putRight_196 ?_
        refine va_getN (D := D) (ci := 8) (v := .int Sh_depth) (C := "DeepChannel$Shape") (T := fT_Shape) (N := 4) hx hb hts u_Shape hown hK hP 1 rfl rfl 0 (by decide) (va_Nw.use rfl (hE.1 _ (List.mem_of_getElem? (i := 1) rfl))) (fun _ h9 => h9) rfl d_Words_putRight_199 ?_
        refine lv_imul hx hb d_Words_putRight_202 ?_
        refine lv_iadd hx hb d_Words_putRight_203 ?_
        refine lv_iload_n hx hb d_Words_putRight_204 rfl (lv_at hl 6 rfl) ?_
        refine lv_iadd hx hb d_Words_putRight_205 ?_
        refine lv_aload_n hx hb d_Words_putRight_206 rfl (lv_at hl 3 rfl) ?_
        refine va_get (D := D) (ci := 9) (v := .ref qFd) (C := "DeepChannel$Words") (T := fT_Words) (N := 7) hx hb hts u_Words hown hK hP 0 rfl rfl 1 (by decide) (hts _ k_169) (fun _ h9 => h9) rfl d_Words_putRight_207 ?_
        refine lv_iload hx hb d_Words_putRight_210 (lv_at hl 0 rfl) ?_
        obtain ⟨r8, hu, hm⟩ := bd_el hm
        replace hm := nm_1 hm
        refine z_cVi (wc := w_Field_otherForm cI cJ qFd qFd_otherForms (.ref qFd_powers) (.ref qFd_logs) (.ref qFd_elements) Fd_otherForms) (wc' := w_Field_otherForm cI cJ qFd qFd_otherForms (.ref qFd_powers) (.ref qFd_logs) (.ref qFd_elements) Fd_otherForms) (wr := [(qWd, .inr (9, [.ref qSh, .ref qFd, Wd_generator, Wd_remainder, .ref qWd_coefficients, .ref qWd_syndromes, .ref qLc])), (qSh, .inr (8, [.int Sh_depth, .int Sh_wordBytes, .int Sh_e, Sh_pattern])), (qFd_powers, .inl (cI, 255, .inl Fd_powers)), (qWd_syndromes, .inl (cI, 32, .inl Wd_syndromes)), (qFd_logs, .inl (cI, 256, .inl Fd_logs)), (qWd_coefficients, .inl (cI, 250, .inl Wd_coefficients)), (qLc, .inr (3, [.ref qFd, .ref qLc_poly, .ref qLc_earlier, .ref qLc_spare, .ref qLc_evaluator, .ref qLc_places])), (qLc_poly, .inl (cI, 33, .inl Lc_poly)), (qLc_earlier, .inl (cI, 33, .inl Lc_earlier)), (qLc_spare, .inl (cI, 33, .inl Lc_spare)), (qLc_places, .inl (cI, 32, .inl Lc_places)), (qLc_evaluator, .inl (cI, 33, .inl Lc_evaluator)), (qP1, .inl (cI, nP1, .inl p1)), (qFd_elements, .inl (cI, 256, .inl Fd_elements))]) (As := [.int v7]) (rest := [.int ((x2 + (r1 * Sh_depth)) + x3), .ref qP1]) (c_Field_otherForm l D cI cJ tt qFd qFd_otherForms (.ref qFd_powers) (.ref qFd_logs) (.ref qFd_elements) _ Fd_otherForms v7 r8 hu) F ok_Field_otherForm rfl k_632 hK hE hP hD hS hA [2, 13] [0, 1, 3, 4, 5, 6, 7, 8, 9, 10, 11, 12, 14, 15] rfl rfl (by decide) (by decide) (by decide) 0 rfl rfl rfl ⟨rfl, rfl, Nat.le_of_ble_eq_true rfl, Nat.le_of_ble_eq_true rfl⟩ ⟨Nat.zero_le _, Nat.zero_le _⟩ rfl hl.1 rfl (Nat.le_of_ble_eq_true rfl) d_Words_putRight_212 (fun H locs hP hD hS => ?_)
        have hP : va_P D classes (w_Words_putRight cI cJ qWd qSh qFd qFd_powers qWd_syndromes qFd_logs qWd_coefficients qLc qLc_poly qLc_earlier qLc_spare qLc_places qLc_evaluator qFd_otherForms qP1 qFd_elements Wd_generator Wd_remainder Sh_pattern nP1 Sh_depth Sh_wordBytes Sh_e Fd_powers Wd_syndromes Fd_logs Wd_coefficients Lc_poly Lc_earlier Lc_spare Lc_places Lc_evaluator Fd_otherForms p1 Fd_elements) H := hP.sub [0, 1, 14, 2, 3, 4, 5, 6, 7, 8, 9, 10, 11, 15, 12, 13] rfl
        have hD : va_D A (w_Words_putRight cI cJ qWd qSh qFd qFd_powers qWd_syndromes qFd_logs qWd_coefficients qLc qLc_poly qLc_earlier qLc_spare qLc_places qLc_evaluator qFd_otherForms qP1 qFd_elements Wd_generator Wd_remainder Sh_pattern nP1 Sh_depth Sh_wordBytes Sh_e Fd_powers Wd_syndromes Fd_logs Wd_coefficients Lc_poly Lc_earlier Lc_spare Lc_places Lc_evaluator Fd_otherForms p1 Fd_elements) := hD.sub [0, 1, 14, 2, 3, 4, 5, 6, 7, 8, 9, 10, 11, 15, 12, 13] (by decide) rfl
        refine z_iast hm hx hb hK hP hD hS 14 rfl d_Words_putRight_215 (fun g10 hm H locs hP hD hS => ?_)
        have hP : va_P D classes (w_Words_putRight cI cJ qWd qSh qFd qFd_powers qWd_syndromes qFd_logs qWd_coefficients qLc qLc_poly qLc_earlier qLc_spare qLc_places qLc_evaluator qFd_otherForms qP1 qFd_elements Wd_generator Wd_remainder Sh_pattern nP1 Sh_depth Sh_wordBytes Sh_e Fd_powers Wd_syndromes Fd_logs Wd_coefficients Lc_poly Lc_earlier Lc_spare Lc_places Lc_evaluator Fd_otherForms g10 Fd_elements) H := hP
        have hD : va_D A (w_Words_putRight cI cJ qWd qSh qFd qFd_powers qWd_syndromes qFd_logs qWd_coefficients qLc qLc_poly qLc_earlier qLc_spare qLc_places qLc_evaluator qFd_otherForms qP1 qFd_elements Wd_generator Wd_remainder Sh_pattern nP1 Sh_depth Sh_wordBytes Sh_e Fd_powers Wd_syndromes Fd_logs Wd_coefficients Lc_poly Lc_earlier Lc_spare Lc_places Lc_evaluator Fd_otherForms g10 Fd_elements) := hD
        obtain ⟨v11, ev, hm⟩ := nm_el hm
        refine lv_iinc (v := v11) (lv' := [(5, .int v11), (8, .int v7), (7, .int v3), (6, .int r1), (0, .ref qWd), (1, .ref qP1), (2, .int x2), (3, .int x3), (4, .int x4)]) hx hb d_Words_putRight_216 hl (k := 8) rfl (by rw [ev]; rfl) (by decide) rfl (fun ls hl => ?_)
        refine lv_goto (tgt := 131) hx hb d_Words_putRight_219 (by decide) ?_
        exact ih131 x2 x3 x4 v11 Wd_syndromes Wd_coefficients Lc_poly Lc_earlier Lc_spare Lc_places Lc_evaluator g10 hm _ _ hP hD hS _ (lv_sub hl [4, 5, 6, 7, 8, 0] rfl)
  have T51 : ∀ (x2 : Int32) (x3 : Int32) (Wd_syndromes : Nat → Int32) (Wd_coefficients : Nat → Int32) (Lc_poly : Nat → Int32) (Lc_earlier : Nat → Int32) (Lc_spare : Nat → Int32) (Lc_places : Nat → Int32) (Lc_evaluator : Nat → Int32) (p1 : Nat → Int32), f_Words_putRight_51 Sh_depth Sh_wordBytes Sh_e Fd_powers Fd_logs Fd_otherForms nP1 x2 x3 Wd_syndromes Wd_coefficients Lc_poly Lc_earlier Lc_spare Lc_places Lc_evaluator p1 = some (rr, Wd_syndromes', Wd_coefficients', Lc_poly', Lc_earlier', Lc_spare', Lc_places', Lc_evaluator', p1') → ∀ (H : Heap) (locs : List Loc), va_P D classes (w_Words_putRight cI cJ qWd qSh qFd qFd_powers qWd_syndromes qFd_logs qWd_coefficients qLc qLc_poly qLc_earlier qLc_spare qLc_places qLc_evaluator qFd_otherForms qP1 qFd_elements Wd_generator Wd_remainder Sh_pattern nP1 Sh_depth Sh_wordBytes Sh_e Fd_powers Wd_syndromes Fd_logs Wd_coefficients Lc_poly Lc_earlier Lc_spare Lc_places Lc_evaluator Fd_otherForms p1 Fd_elements) H → va_D A (w_Words_putRight cI cJ qWd qSh qFd qFd_powers qWd_syndromes qFd_logs qWd_coefficients qLc qLc_poly qLc_earlier qLc_spare qLc_places qLc_evaluator qFd_otherForms qP1 qFd_elements Wd_generator Wd_remainder Sh_pattern nP1 Sh_depth Sh_wordBytes Sh_e Fd_powers Wd_syndromes Fd_logs Wd_coefficients Lc_poly Lc_earlier Lc_spare Lc_places Lc_evaluator Fd_otherForms p1 Fd_elements) → va_S A s.heap H locs → ∀ (ls : Array Slot), lv_has ls 9 [(0, .ref qWd), (1, .ref qP1), (2, .int x2), (3, .int x3)] → W p l e (RM 3 88) s m args below meth c H locs 0 0 Q0 (F0 m 51 ls []) := by
    intro x2 x3 Wd_syndromes Wd_coefficients Lc_poly Lc_earlier Lc_spare Lc_places Lc_evaluator p1 hm H locs hP hD hS ls hl
    unfold f_Words_putRight_51 at hm
    refine lv_aload_n hx hb d_Words_putRight_51 rfl (lv_at hl 0 rfl) ?_
    obtain ⟨⟨r12, g13⟩, hu, hm⟩ := bd_el hm
    replace hm := nm_2 hm
    refine z_cVi (wc := w_Words_isCodeword cI cJ qWd qSh qFd qFd_powers qWd_syndromes qFd_logs qWd_coefficients Wd_generator Wd_remainder (.ref qLc) (.int Sh_depth) Sh_pattern (.ref qFd_otherForms) (.ref qFd_elements) Sh_wordBytes Sh_e Fd_powers Wd_syndromes Fd_logs Wd_coefficients) (wc' := w_Words_isCodeword cI cJ qWd qSh qFd qFd_powers qWd_syndromes qFd_logs qWd_coefficients Wd_generator Wd_remainder (.ref qLc) (.int Sh_depth) Sh_pattern (.ref qFd_otherForms) (.ref qFd_elements) Sh_wordBytes Sh_e Fd_powers g13 Fd_logs Wd_coefficients) (wr := [(qLc, .inr (3, [.ref qFd, .ref qLc_poly, .ref qLc_earlier, .ref qLc_spare, .ref qLc_evaluator, .ref qLc_places])), (qLc_poly, .inl (cI, 33, .inl Lc_poly)), (qLc_earlier, .inl (cI, 33, .inl Lc_earlier)), (qLc_spare, .inl (cI, 33, .inl Lc_spare)), (qLc_places, .inl (cI, 32, .inl Lc_places)), (qLc_evaluator, .inl (cI, 33, .inl Lc_evaluator)), (qFd_otherForms, .inl (cI, 256, .inl Fd_otherForms)), (qP1, .inl (cI, nP1, .inl p1)), (qFd_elements, .inl (cI, 256, .inl Fd_elements))]) (As := []) (rest := []) (c_Words_isCodeword l D cI cJ tt qWd qSh qFd qFd_powers qWd_syndromes qFd_logs qWd_coefficients Wd_generator Wd_remainder (.ref qLc) (.int Sh_depth) Sh_pattern (.ref qFd_otherForms) (.ref qFd_elements) _ Sh_wordBytes Sh_e Fd_powers Wd_syndromes Fd_logs Wd_coefficients r12 g13 hu) F ok_Words_isCodeword rfl k_758 hK hE hP hD hS hA [0, 1, 2, 3, 4, 5, 6] [7, 8, 9, 10, 11, 12, 13, 14, 15] rfl rfl (by decide) (by decide) (by decide) 0 rfl rfl rfl ⟨rfl, rfl, Nat.le_of_ble_eq_true rfl, Nat.le_of_ble_eq_true rfl⟩ ⟨Nat.zero_le _, Nat.zero_le _⟩ rfl hl.1 rfl (Nat.le_of_ble_eq_true rfl) d_Words_putRight_52 (fun H locs hP hD hS => ?_)
    have hP : va_P D classes (w_Words_putRight cI cJ qWd qSh qFd qFd_powers qWd_syndromes qFd_logs qWd_coefficients qLc qLc_poly qLc_earlier qLc_spare qLc_places qLc_evaluator qFd_otherForms qP1 qFd_elements Wd_generator Wd_remainder Sh_pattern nP1 Sh_depth Sh_wordBytes Sh_e Fd_powers g13 Fd_logs Wd_coefficients Lc_poly Lc_earlier Lc_spare Lc_places Lc_evaluator Fd_otherForms p1 Fd_elements) H := hP.sub [9, 10, 11, 12, 13, 14, 15, 0, 1, 2, 3, 4, 5, 6, 7, 8] rfl
    have hD : va_D A (w_Words_putRight cI cJ qWd qSh qFd qFd_powers qWd_syndromes qFd_logs qWd_coefficients qLc qLc_poly qLc_earlier qLc_spare qLc_places qLc_evaluator qFd_otherForms qP1 qFd_elements Wd_generator Wd_remainder Sh_pattern nP1 Sh_depth Sh_wordBytes Sh_e Fd_powers g13 Fd_logs Wd_coefficients Lc_poly Lc_earlier Lc_spare Lc_places Lc_evaluator Fd_otherForms p1 Fd_elements) := hD.sub [9, 10, 11, 12, 13, 14, 15, 0, 1, 2, 3, 4, 5, 6, 7, 8] (by decide) rfl
    refine z_if hm (lv_if_eq (tgt := 60) hx hb d_Words_putRight_55 (by decide)) (fun hm => ?_) (fun hm => ?_)
    · refine lv_aload_n hx hb d_Words_putRight_60 rfl (lv_at hl 0 rfl) ?_
      refine va_get (D := D) (ci := 9) (v := .ref qLc) (C := "DeepChannel$Words") (T := fT_Words) (N := 7) hx hb hts u_Words hown hK hP 0 rfl rfl 6 (by decide) (hts _ k_174) (fun _ h9 => h9) rfl d_Words_putRight_61 ?_
      refine lv_aload_n hx hb d_Words_putRight_64 rfl (lv_at hl 0 rfl) ?_
      refine va_get (D := D) (ci := 9) (v := .ref qWd_syndromes) (C := "DeepChannel$Words") (T := fT_Words) (N := 7) hx hb hts u_Words hown hK hP 0 rfl rfl 5 (by decide) (hts _ k_173) (fun _ h9 => h9) rfl d_Words_putRight_65 ?_
      refine lv_iconst (v := (2 : Int32)) hx hb d_Words_putRight_68 (by decide) ?_
      refine lv_aload_n hx hb d_Words_putRight_69 rfl (lv_at hl 0 rfl) ?_
      refine va_get (D := D) (ci := 9) (v := .ref qSh) (C := "DeepChannel$Words") (T := fT_Words) (N := 7) hx hb hts u_Words hown hK hP 0 rfl rfl 0 (by decide) (hts _ k_168) (fun _ h9 => h9) rfl d_Words_putRight_70 ?_
      refine va_getN (D := D) (ci := 8) (v := .int Sh_e) (C := "DeepChannel$Shape") (T := fT_Shape) (N := 4) hx hb hts u_Shape hown hK hP 1 rfl rfl 2 (by decide) (va_Nw.use rfl (hE.1 _ (List.mem_of_getElem? (i := 4) rfl))) (fun _ h9 => h9) rfl d_Words_putRight_73 ?_
      refine lv_imul hx hb d_Words_putRight_76 ?_
      obtain ⟨⟨r15, g16, g17, g18⟩, hu, hm⟩ := bd_el hm
      replace hm := nm_4 hm
      refine z_cVi (wc := w_Locator_findRecurrence cI cJ qLc qLc_poly qLc_earlier qWd_syndromes qFd qFd_logs qFd_powers qLc_spare (.ref qLc_evaluator) (.ref qLc_places) (.ref qFd_otherForms) (.ref qFd_elements) 32 Lc_poly Lc_earlier g13 Fd_logs Fd_powers Lc_spare) (wc' := w_Locator_findRecurrence cI cJ qLc qLc_poly qLc_earlier qWd_syndromes qFd qFd_logs qFd_powers qLc_spare (.ref qLc_evaluator) (.ref qLc_places) (.ref qFd_otherForms) (.ref qFd_elements) 32 g16 g17 g13 Fd_logs Fd_powers g18) (wr := [(qWd, .inr (9, [.ref qSh, .ref qFd, Wd_generator, Wd_remainder, .ref qWd_coefficients, .ref qWd_syndromes, .ref qLc])), (qSh, .inr (8, [.int Sh_depth, .int Sh_wordBytes, .int Sh_e, Sh_pattern])), (qWd_coefficients, .inl (cI, 250, .inl Wd_coefficients)), (qLc_places, .inl (cI, 32, .inl Lc_places)), (qLc_evaluator, .inl (cI, 33, .inl Lc_evaluator)), (qFd_otherForms, .inl (cI, 256, .inl Fd_otherForms)), (qP1, .inl (cI, nP1, .inl p1)), (qFd_elements, .inl (cI, 256, .inl Fd_elements))]) (As := [.ref qWd_syndromes, .int ((2 : Int32) * Sh_e)]) (rest := []) (c_Locator_findRecurrence l D cI cJ tt qLc qLc_poly qLc_earlier qWd_syndromes qFd qFd_logs qFd_powers qLc_spare (.ref qLc_evaluator) (.ref qLc_places) (.ref qFd_otherForms) (.ref qFd_elements) 32 _ Lc_poly Lc_earlier g13 Fd_logs Fd_powers Lc_spare ((2 : Int32) * Sh_e) r15 g16 g17 g18 hu) F ok_Locator_findRecurrence rfl k_762 hK hE hP hD hS hA [7, 8, 9, 4, 2, 5, 3, 10] [0, 1, 6, 11, 12, 13, 14, 15] rfl rfl (by decide) (by decide) (by decide) 0 rfl rfl rfl ⟨rfl, rfl, Nat.le_of_ble_eq_true rfl, Nat.le_of_ble_eq_true rfl⟩ ⟨Nat.zero_le _, Nat.zero_le _⟩ rfl hl.1 rfl (Nat.le_of_ble_eq_true rfl) d_Words_putRight_77 (fun H locs hP hD hS => ?_)
      have hP : va_P D classes (w_Words_putRight cI cJ qWd qSh qFd qFd_powers qWd_syndromes qFd_logs qWd_coefficients qLc qLc_poly qLc_earlier qLc_spare qLc_places qLc_evaluator qFd_otherForms qP1 qFd_elements Wd_generator Wd_remainder Sh_pattern nP1 Sh_depth Sh_wordBytes Sh_e Fd_powers g13 Fd_logs Wd_coefficients g16 g17 g18 Lc_places Lc_evaluator Fd_otherForms p1 Fd_elements) H := hP.sub [0, 1, 12, 14, 11, 13, 2, 8, 9, 10, 15, 3, 4, 5, 6, 7] rfl
      have hD : va_D A (w_Words_putRight cI cJ qWd qSh qFd qFd_powers qWd_syndromes qFd_logs qWd_coefficients qLc qLc_poly qLc_earlier qLc_spare qLc_places qLc_evaluator qFd_otherForms qP1 qFd_elements Wd_generator Wd_remainder Sh_pattern nP1 Sh_depth Sh_wordBytes Sh_e Fd_powers g13 Fd_logs Wd_coefficients g16 g17 g18 Lc_places Lc_evaluator Fd_otherForms p1 Fd_elements) := hD.sub [0, 1, 12, 14, 11, 13, 2, 8, 9, 10, 15, 3, 4, 5, 6, 7] (by decide) rfl
      refine lv_istore (lv' := [(4, .int r15), (0, .ref qWd), (1, .ref qP1), (2, .int x2), (3, .int x3)]) hx hb d_Words_putRight_80 hl (by decide) rfl (fun ls hl => ?_)
      refine lv_iload hx hb d_Words_putRight_82 (lv_at hl 0 rfl) ?_
      refine lv_aload_n hx hb d_Words_putRight_84 rfl (lv_at hl 1 rfl) ?_
      refine va_get (D := D) (ci := 9) (v := .ref qSh) (C := "DeepChannel$Words") (T := fT_Words) (N := 7) hx hb hts u_Words hown hK hP 0 rfl rfl 0 (by decide) (hts _ k_168) (fun _ h9 => h9) rfl d_Words_putRight_85 ?_
      refine va_getN (D := D) (ci := 8) (v := .int Sh_e) (C := "DeepChannel$Shape") (T := fT_Shape) (N := 4) hx hb hts u_Shape hown hK hP 1 rfl rfl 2 (by decide) (va_Nw.use rfl (hE.1 _ (List.mem_of_getElem? (i := 4) rfl))) (fun _ h9 => h9) rfl d_Words_putRight_88 ?_
      refine z_if hm (lv_icmp_gt (tgt := 113) hx hb d_Words_putRight_91 (by decide)) (fun hm => ?_) (fun hm => ?_)
      · refine lv_iconst (v := (-1 : Int32)) hx hb d_Words_putRight_113 (by decide) ?_
        cases hm
        exact z_qo hQ (z_ireti hr hx hb hlocks hK hP hD hS d_Words_putRight_114)
      · refine lv_aload_n hx hb d_Words_putRight_94 rfl (lv_at hl 1 rfl) ?_
        refine va_get (D := D) (ci := 9) (v := .ref qLc) (C := "DeepChannel$Words") (T := fT_Words) (N := 7) hx hb hts u_Words hown hK hP 0 rfl rfl 6 (by decide) (hts _ k_174) (fun _ h9 => h9) rfl d_Words_putRight_95 ?_
        refine lv_iload hx hb d_Words_putRight_98 (lv_at hl 0 rfl) ?_
        refine lv_aload_n hx hb d_Words_putRight_100 rfl (lv_at hl 1 rfl) ?_
        refine va_get (D := D) (ci := 9) (v := .ref qSh) (C := "DeepChannel$Words") (T := fT_Words) (N := 7) hx hb hts u_Words hown hK hP 0 rfl rfl 0 (by decide) (hts _ k_168) (fun _ h9 => h9) rfl d_Words_putRight_101 ?_
        refine va_getN (D := D) (ci := 8) (v := .int Sh_wordBytes) (C := "DeepChannel$Shape") (T := fT_Shape) (N := 4) hx hb hts u_Shape hown hK hP 1 rfl rfl 1 (by decide) (va_Nw.use rfl (hE.1 _ (List.mem_of_getElem? (i := 3) rfl))) (fun _ h9 => h9) rfl d_Words_putRight_104 ?_
        obtain ⟨⟨r20, g21⟩, hu, hm⟩ := bd_el hm
        replace hm := nm_2 hm
        refine z_cVi (wc := w_Locator_findPlaces cI cJ qLc qFd qFd_powers qFd_logs qLc_poly qLc_places (.ref qLc_earlier) (.ref qLc_spare) (.ref qLc_evaluator) (.ref qFd_otherForms) (.ref qFd_elements) Fd_powers Fd_logs g16 Lc_places) (wc' := w_Locator_findPlaces cI cJ qLc qFd qFd_powers qFd_logs qLc_poly qLc_places (.ref qLc_earlier) (.ref qLc_spare) (.ref qLc_evaluator) (.ref qFd_otherForms) (.ref qFd_elements) Fd_powers Fd_logs g16 g21) (wr := [(qWd, .inr (9, [.ref qSh, .ref qFd, Wd_generator, Wd_remainder, .ref qWd_coefficients, .ref qWd_syndromes, .ref qLc])), (qSh, .inr (8, [.int Sh_depth, .int Sh_wordBytes, .int Sh_e, Sh_pattern])), (qWd_syndromes, .inl (cI, 32, .inl g13)), (qWd_coefficients, .inl (cI, 250, .inl Wd_coefficients)), (qLc_earlier, .inl (cI, 33, .inl g17)), (qLc_spare, .inl (cI, 33, .inl g18)), (qLc_evaluator, .inl (cI, 33, .inl Lc_evaluator)), (qFd_otherForms, .inl (cI, 256, .inl Fd_otherForms)), (qP1, .inl (cI, nP1, .inl p1)), (qFd_elements, .inl (cI, 256, .inl Fd_elements))]) (As := [.int r15, .int Sh_wordBytes]) (rest := []) (c_Locator_findPlaces l D cI cJ tt qLc qFd qFd_powers qFd_logs qLc_poly qLc_places (.ref qLc_earlier) (.ref qLc_spare) (.ref qLc_evaluator) (.ref qFd_otherForms) (.ref qFd_elements) _ Fd_powers Fd_logs g16 Lc_places r15 Sh_wordBytes r20 g21 hu) F ok_Locator_findPlaces rfl k_783 hK hE hP hD hS hA [7, 2, 3, 5, 8, 11] [0, 1, 4, 6, 9, 10, 12, 13, 14, 15] rfl rfl (by decide) (by decide) (by decide) 0 rfl rfl rfl ⟨rfl, rfl, Nat.le_of_ble_eq_true rfl, Nat.le_of_ble_eq_true rfl⟩ ⟨Nat.zero_le _, Nat.zero_le _⟩ rfl hl.1 rfl (Nat.le_of_ble_eq_true rfl) d_Words_putRight_107 (fun H locs hP hD hS => ?_)
        have hP : va_P D classes (w_Words_putRight cI cJ qWd qSh qFd qFd_powers qWd_syndromes qFd_logs qWd_coefficients qLc qLc_poly qLc_earlier qLc_spare qLc_places qLc_evaluator qFd_otherForms qP1 qFd_elements Wd_generator Wd_remainder Sh_pattern nP1 Sh_depth Sh_wordBytes Sh_e Fd_powers g13 Fd_logs Wd_coefficients g16 g17 g18 g21 Lc_evaluator Fd_otherForms p1 Fd_elements) H := hP.sub [0, 1, 11, 12, 2, 13, 3, 10, 14, 4, 5, 15, 6, 7, 8, 9] rfl
        have hD : va_D A (w_Words_putRight cI cJ qWd qSh qFd qFd_powers qWd_syndromes qFd_logs qWd_coefficients qLc qLc_poly qLc_earlier qLc_spare qLc_places qLc_evaluator qFd_otherForms qP1 qFd_elements Wd_generator Wd_remainder Sh_pattern nP1 Sh_depth Sh_wordBytes Sh_e Fd_powers g13 Fd_logs Wd_coefficients g16 g17 g18 g21 Lc_evaluator Fd_otherForms p1 Fd_elements) := hD.sub [0, 1, 11, 12, 2, 13, 3, 10, 14, 4, 5, 15, 6, 7, 8, 9] (by decide) rfl
        refine z_ifn hm (lv_if_ne (tgt := 115) hx hb d_Words_putRight_110 (by decide)) (fun hm => ?_) (fun hm => ?_)
        · refine lv_iconst (v := (-1 : Int32)) hx hb d_Words_putRight_113 (by decide) ?_
          cases hm
          exact z_qo hQ (z_ireti hr hx hb hlocks hK hP hD hS d_Words_putRight_114)
        · refine lv_aload_n hx hb d_Words_putRight_115 rfl (lv_at hl 1 rfl) ?_
          refine va_get (D := D) (ci := 9) (v := .ref qLc) (C := "DeepChannel$Words") (T := fT_Words) (N := 7) hx hb hts u_Words hown hK hP 0 rfl rfl 6 (by decide) (hts _ k_174) (fun _ h9 => h9) rfl d_Words_putRight_116 ?_
          refine lv_aload_n hx hb d_Words_putRight_119 rfl (lv_at hl 1 rfl) ?_
          refine va_get (D := D) (ci := 9) (v := .ref qWd_syndromes) (C := "DeepChannel$Words") (T := fT_Words) (N := 7) hx hb hts u_Words hown hK hP 0 rfl rfl 5 (by decide) (hts _ k_173) (fun _ h9 => h9) rfl d_Words_putRight_120 ?_
          refine lv_iload hx hb d_Words_putRight_123 (lv_at hl 0 rfl) ?_
          obtain ⟨g23, hu, hm⟩ := bd_el hm
          replace hm := nm_1 hm
          refine z_cVv (wc := w_Locator_findEvaluator cI cJ qLc qLc_poly qWd_syndromes qFd qFd_logs qFd_powers qLc_evaluator (.ref qLc_earlier) (.ref qLc_spare) (.ref qLc_places) (.ref qFd_otherForms) (.ref qFd_elements) 32 g16 g13 Fd_logs Fd_powers Lc_evaluator) (wc' := w_Locator_findEvaluator cI cJ qLc qLc_poly qWd_syndromes qFd qFd_logs qFd_powers qLc_evaluator (.ref qLc_earlier) (.ref qLc_spare) (.ref qLc_places) (.ref qFd_otherForms) (.ref qFd_elements) 32 g16 g13 Fd_logs Fd_powers g23) (wr := [(qWd, .inr (9, [.ref qSh, .ref qFd, Wd_generator, Wd_remainder, .ref qWd_coefficients, .ref qWd_syndromes, .ref qLc])), (qSh, .inr (8, [.int Sh_depth, .int Sh_wordBytes, .int Sh_e, Sh_pattern])), (qWd_coefficients, .inl (cI, 250, .inl Wd_coefficients)), (qLc_earlier, .inl (cI, 33, .inl g17)), (qLc_spare, .inl (cI, 33, .inl g18)), (qLc_places, .inl (cI, 32, .inl g21)), (qFd_otherForms, .inl (cI, 256, .inl Fd_otherForms)), (qP1, .inl (cI, nP1, .inl p1)), (qFd_elements, .inl (cI, 256, .inl Fd_elements))]) (As := [.ref qWd_syndromes, .int r15]) (rest := []) (c_Locator_findEvaluator l D cI cJ tt qLc qLc_poly qWd_syndromes qFd qFd_logs qFd_powers qLc_evaluator (.ref qLc_earlier) (.ref qLc_spare) (.ref qLc_places) (.ref qFd_otherForms) (.ref qFd_elements) 32 _ g16 g13 Fd_logs Fd_powers Lc_evaluator r15 g23 hu) F ok_Locator_findEvaluator rfl k_792 hK hE hP hD hS hA [7, 8, 4, 2, 5, 3, 12] [0, 1, 6, 9, 10, 11, 13, 14, 15] rfl rfl (by decide) (by decide) (by decide) 0 rfl rfl rfl ⟨rfl, rfl, Nat.le_of_ble_eq_true rfl, Nat.le_of_ble_eq_true rfl⟩ ⟨Nat.zero_le _, Nat.zero_le _⟩ rfl hl.1 rfl (Nat.le_of_ble_eq_true rfl) d_Words_putRight_125 (fun H locs hP hD hS => ?_)
          have hP : va_P D classes (w_Words_putRight cI cJ qWd qSh qFd qFd_powers qWd_syndromes qFd_logs qWd_coefficients qLc qLc_poly qLc_earlier qLc_spare qLc_places qLc_evaluator qFd_otherForms qP1 qFd_elements Wd_generator Wd_remainder Sh_pattern nP1 Sh_depth Sh_wordBytes Sh_e Fd_powers g13 Fd_logs Wd_coefficients g16 g17 g18 g21 g23 Fd_otherForms p1 Fd_elements) H := hP.sub [0, 1, 12, 14, 11, 13, 2, 9, 10, 3, 4, 5, 15, 6, 7, 8] rfl
          have hD : va_D A (w_Words_putRight cI cJ qWd qSh qFd qFd_powers qWd_syndromes qFd_logs qWd_coefficients qLc qLc_poly qLc_earlier qLc_spare qLc_places qLc_evaluator qFd_otherForms qP1 qFd_elements Wd_generator Wd_remainder Sh_pattern nP1 Sh_depth Sh_wordBytes Sh_e Fd_powers g13 Fd_logs Wd_coefficients g16 g17 g18 g21 g23 Fd_otherForms p1 Fd_elements) := hD.sub [0, 1, 12, 14, 11, 13, 2, 9, 10, 3, 4, 5, 15, 6, 7, 8] (by decide) rfl
          refine lv_iconst (v := (0 : Int32)) hx hb d_Words_putRight_128 (by decide) ?_
          refine lv_istore (lv' := [(5, .int (0 : Int32)), (4, .int r15), (0, .ref qWd), (1, .ref qP1), (2, .int x2), (3, .int x3)]) hx hb d_Words_putRight_129 hl (by decide) rfl (fun ls hl => ?_)
          exact T131 10000 x2 x3 r15 (0 : Int32) g13 Wd_coefficients g16 g17 g18 g21 g23 p1 hm _ _ hP hD hS _ (lv_sub hl [2, 3, 4, 5, 1, 0] rfl)
    · refine lv_iconst (v := (0 : Int32)) hx hb d_Words_putRight_58 (by decide) ?_
      cases hm
      exact z_qo hQ (z_ireti hr hx hb hlocks hK hP hD hS d_Words_putRight_59)
  have T3 : ∀ (n3 : Nat) (x2 : Int32) (x3 : Int32) (x4 : Int32) (Wd_syndromes : Nat → Int32) (Wd_coefficients : Nat → Int32) (Lc_poly : Nat → Int32) (Lc_earlier : Nat → Int32) (Lc_spare : Nat → Int32) (Lc_places : Nat → Int32) (Lc_evaluator : Nat → Int32) (p1 : Nat → Int32), f_Words_putRight_3 Sh_depth Sh_wordBytes Sh_e Fd_powers Fd_logs Fd_otherForms Fd_elements nP1 n3 x2 x3 x4 Wd_syndromes Wd_coefficients Lc_poly Lc_earlier Lc_spare Lc_places Lc_evaluator p1 = some (rr, Wd_syndromes', Wd_coefficients', Lc_poly', Lc_earlier', Lc_spare', Lc_places', Lc_evaluator', p1') → ∀ (H : Heap) (locs : List Loc), va_P D classes (w_Words_putRight cI cJ qWd qSh qFd qFd_powers qWd_syndromes qFd_logs qWd_coefficients qLc qLc_poly qLc_earlier qLc_spare qLc_places qLc_evaluator qFd_otherForms qP1 qFd_elements Wd_generator Wd_remainder Sh_pattern nP1 Sh_depth Sh_wordBytes Sh_e Fd_powers Wd_syndromes Fd_logs Wd_coefficients Lc_poly Lc_earlier Lc_spare Lc_places Lc_evaluator Fd_otherForms p1 Fd_elements) H → va_D A (w_Words_putRight cI cJ qWd qSh qFd qFd_powers qWd_syndromes qFd_logs qWd_coefficients qLc qLc_poly qLc_earlier qLc_spare qLc_places qLc_evaluator qFd_otherForms qP1 qFd_elements Wd_generator Wd_remainder Sh_pattern nP1 Sh_depth Sh_wordBytes Sh_e Fd_powers Wd_syndromes Fd_logs Wd_coefficients Lc_poly Lc_earlier Lc_spare Lc_places Lc_evaluator Fd_otherForms p1 Fd_elements) → va_S A s.heap H locs → ∀ (ls : Array Slot), lv_has ls 9 [(0, .ref qWd), (1, .ref qP1), (2, .int x2), (3, .int x3), (4, .int x4)] → W p l e (RM 3 88) s m args below meth c H locs 0 0 Q0 (F0 m 3 ls []) := by
    intro n3
    induction n3 with
    | zero => intro x2 x3 x4 Wd_syndromes Wd_coefficients Lc_poly Lc_earlier Lc_spare Lc_places Lc_evaluator p1 hm; cases hm
    | succ n3 ih3 =>
      intro x2 x3 x4 Wd_syndromes Wd_coefficients Lc_poly Lc_earlier Lc_spare Lc_places Lc_evaluator p1 hm H locs hP hD hS ls hl
      replace hm : f_Words_putRight_3_b Sh_depth Sh_wordBytes Sh_e Fd_powers Fd_logs Fd_otherForms Fd_elements nP1 (f_Words_putRight_3 Sh_depth Sh_wordBytes Sh_e Fd_powers Fd_logs Fd_otherForms Fd_elements nP1 n3) x2 x3 x4 Wd_syndromes Wd_coefficients Lc_poly Lc_earlier Lc_spare Lc_places Lc_evaluator p1 = some (rr, Wd_syndromes', Wd_coefficients', Lc_poly', Lc_earlier', Lc_spare', Lc_places', Lc_evaluator', p1') := hm
      unfold f_Words_putRight_3_b at hm
      refine lv_iload hx hb d_Words_putRight_3 (lv_at hl 4 rfl) ?_
      refine lv_aload_n hx hb d_Words_putRight_5 rfl (lv_at hl 0 rfl) ?_
      refine va_get (D := D) (ci := 9) (v := .ref qSh) (C := "DeepChannel$Words") (T := fT_Words) (N := 7) hx hb hts u_Words hown hK hP 0 rfl rfl 0 (by decide) (hts _ k_168) (fun _ h9 => h9) rfl d_Words_putRight_6 ?_
      refine va_getN (D := D) (ci := 8) (v := .int Sh_wordBytes) (C := "DeepChannel$Shape") (T := fT_Shape) (N := 4) hx hb hts u_Shape hown hK hP 1 rfl rfl 1 (by decide) (va_Nw.use rfl (hE.1 _ (List.mem_of_getElem? (i := 3) rfl))) (fun _ h9 => h9) rfl d_Words_putRight_9 ?_
      refine z_if hm (lv_icmp_ge (tgt := 51) hx hb d_Words_putRight_12 (by decide)) (fun hm => ?_) (fun hm => ?_)
      · exact T51 x2 x3 Wd_syndromes Wd_coefficients Lc_poly Lc_earlier Lc_spare Lc_places Lc_evaluator p1 hm _ _ hP hD hS _ (lv_sub hl [0, 1, 2, 3] rfl)
      · refine lv_aload_n hx hb d_Words_putRight_15 rfl (lv_at hl 0 rfl) ?_
        refine va_get (D := D) (ci := 9) (v := .ref qWd_coefficients) (C := "DeepChannel$Words") (T := fT_Words) (N := 7) hx hb hts u_Words hown hK hP 0 rfl rfl 4 (by decide) (hts _ k_172) (fun _ h9 => h9) rfl d_Words_putRight_16 ?_
        refine lv_iload hx hb d_Words_putRight_19 (lv_at hl 4 rfl) ?_
        refine lv_aload_n hx hb d_Words_putRight_21 rfl (lv_at hl 0 rfl) ?_
        refine va_get (D := D) (ci := 9) (v := .ref qFd) (C := "DeepChannel$Words") (T := fT_Words) (N := 7) hx hb hts u_Words hown hK hP 0 rfl rfl 1 (by decide) (hts _ k_169) (fun _ h9 => h9) rfl d_Words_putRight_22 ?_
        refine lv_aload_n hx hb d_Words_putRight_25 rfl (lv_at hl 1 rfl) ?_
        refine lv_iload_n hx hb d_Words_putRight_26 rfl (lv_at hl 2 rfl) ?_
        refine lv_iload hx hb d_Words_putRight_27 (lv_at hl 4 rfl) ?_
        refine lv_aload_n hx hb d_Words_putRight_29 rfl (lv_at hl 0 rfl) ?_
        refine va_get (D := D) (ci := 9) (v := .ref qSh) (C := "DeepChannel$Words") (T := fT_Words) (N := 7) hx hb hts u_Words hown hK hP 0 rfl rfl 0 (by decide) (hts _ k_168) (fun _ h9 => h9) rfl d_Words_putRight_30 ?_
        refine va_getN (D := D) (ci := 8) (v := .int Sh_depth) (C := "DeepChannel$Shape") (T := fT_Shape) (N := 4) hx hb hts u_Shape hown hK hP 1 rfl rfl 0 (by decide) (va_Nw.use rfl (hE.1 _ (List.mem_of_getElem? (i := 1) rfl))) (fun _ h9 => h9) rfl d_Words_putRight_33 ?_
        refine lv_imul hx hb d_Words_putRight_36 ?_
        refine lv_iadd hx hb d_Words_putRight_37 ?_
        refine lv_iload_n hx hb d_Words_putRight_38 rfl (lv_at hl 3 rfl) ?_
        refine lv_iadd hx hb d_Words_putRight_39 ?_
        refine z_iald hm hx hb hK hP 14 rfl d_Words_putRight_40 (fun v25 hm => ?_)
        obtain ⟨r26, hu, hm⟩ := bd_el hm
        replace hm := nm_1 hm
        refine z_cVi (wc := w_Field_element cI cJ qFd qFd_elements (.ref qFd_powers) (.ref qFd_logs) (.ref qFd_otherForms) Fd_elements) (wc' := w_Field_element cI cJ qFd qFd_elements (.ref qFd_powers) (.ref qFd_logs) (.ref qFd_otherForms) Fd_elements) (wr := [(qWd, .inr (9, [.ref qSh, .ref qFd, Wd_generator, Wd_remainder, .ref qWd_coefficients, .ref qWd_syndromes, .ref qLc])), (qSh, .inr (8, [.int Sh_depth, .int Sh_wordBytes, .int Sh_e, Sh_pattern])), (qFd_powers, .inl (cI, 255, .inl Fd_powers)), (qWd_syndromes, .inl (cI, 32, .inl Wd_syndromes)), (qFd_logs, .inl (cI, 256, .inl Fd_logs)), (qWd_coefficients, .inl (cI, 250, .inl Wd_coefficients)), (qLc, .inr (3, [.ref qFd, .ref qLc_poly, .ref qLc_earlier, .ref qLc_spare, .ref qLc_evaluator, .ref qLc_places])), (qLc_poly, .inl (cI, 33, .inl Lc_poly)), (qLc_earlier, .inl (cI, 33, .inl Lc_earlier)), (qLc_spare, .inl (cI, 33, .inl Lc_spare)), (qLc_places, .inl (cI, 32, .inl Lc_places)), (qLc_evaluator, .inl (cI, 33, .inl Lc_evaluator)), (qFd_otherForms, .inl (cI, 256, .inl Fd_otherForms)), (qP1, .inl (cI, nP1, .inl p1))]) (As := [.int v25]) (rest := [.int x4, .ref qWd_coefficients]) (c_Field_element l D cI cJ tt qFd qFd_elements (.ref qFd_powers) (.ref qFd_logs) (.ref qFd_otherForms) _ Fd_elements v25 r26 hu) F ok_Field_element rfl k_628 hK hE hP hD hS hA [2, 15] [0, 1, 3, 4, 5, 6, 7, 8, 9, 10, 11, 12, 13, 14] rfl rfl (by decide) (by decide) (by decide) 0 rfl rfl rfl ⟨rfl, rfl, Nat.le_of_ble_eq_true rfl, Nat.le_of_ble_eq_true rfl⟩ ⟨Nat.zero_le _, Nat.zero_le _⟩ rfl hl.1 rfl (Nat.le_of_ble_eq_true rfl) d_Words_putRight_41 (fun H locs hP hD hS => ?_)
        have hP : va_P D classes (w_Words_putRight cI cJ qWd qSh qFd qFd_powers qWd_syndromes qFd_logs qWd_coefficients qLc qLc_poly qLc_earlier qLc_spare qLc_places qLc_evaluator qFd_otherForms qP1 qFd_elements Wd_generator Wd_remainder Sh_pattern nP1 Sh_depth Sh_wordBytes Sh_e Fd_powers Wd_syndromes Fd_logs Wd_coefficients Lc_poly Lc_earlier Lc_spare Lc_places Lc_evaluator Fd_otherForms p1 Fd_elements) H := hP.sub [0, 1, 14, 2, 3, 4, 5, 6, 7, 8, 9, 10, 11, 12, 13, 15] rfl
        have hD : va_D A (w_Words_putRight cI cJ qWd qSh qFd qFd_powers qWd_syndromes qFd_logs qWd_coefficients qLc qLc_poly qLc_earlier qLc_spare qLc_places qLc_evaluator qFd_otherForms qP1 qFd_elements Wd_generator Wd_remainder Sh_pattern nP1 Sh_depth Sh_wordBytes Sh_e Fd_powers Wd_syndromes Fd_logs Wd_coefficients Lc_poly Lc_earlier Lc_spare Lc_places Lc_evaluator Fd_otherForms p1 Fd_elements) := hD.sub [0, 1, 14, 2, 3, 4, 5, 6, 7, 8, 9, 10, 11, 12, 13, 15] (by decide) rfl
        refine z_iast hm hx hb hK hP hD hS 6 rfl d_Words_putRight_44 (fun g28 hm H locs hP hD hS => ?_)
        have hP : va_P D classes (w_Words_putRight cI cJ qWd qSh qFd qFd_powers qWd_syndromes qFd_logs qWd_coefficients qLc qLc_poly qLc_earlier qLc_spare qLc_places qLc_evaluator qFd_otherForms qP1 qFd_elements Wd_generator Wd_remainder Sh_pattern nP1 Sh_depth Sh_wordBytes Sh_e Fd_powers Wd_syndromes Fd_logs g28 Lc_poly Lc_earlier Lc_spare Lc_places Lc_evaluator Fd_otherForms p1 Fd_elements) H := hP
        have hD : va_D A (w_Words_putRight cI cJ qWd qSh qFd qFd_powers qWd_syndromes qFd_logs qWd_coefficients qLc qLc_poly qLc_earlier qLc_spare qLc_places qLc_evaluator qFd_otherForms qP1 qFd_elements Wd_generator Wd_remainder Sh_pattern nP1 Sh_depth Sh_wordBytes Sh_e Fd_powers Wd_syndromes Fd_logs g28 Lc_poly Lc_earlier Lc_spare Lc_places Lc_evaluator Fd_otherForms p1 Fd_elements) := hD
        obtain ⟨v29, ev, hm⟩ := nm_el hm
        refine lv_iinc (v := v29) (lv' := [(4, .int v29), (0, .ref qWd), (1, .ref qP1), (2, .int x2), (3, .int x3)]) hx hb d_Words_putRight_45 hl (k := 4) rfl (by rw [ev]; rfl) (by decide) rfl (fun ls hl => ?_)
        refine lv_goto (tgt := 3) hx hb d_Words_putRight_48 (by decide) ?_
        exact ih3 x2 x3 v29 Wd_syndromes g28 Lc_poly Lc_earlier Lc_spare Lc_places Lc_evaluator p1 hm _ _ hP hD hS _ (lv_sub hl [1, 2, 3, 4, 0] rfl)
  unfold f_Words_putRight at hm
  refine lv_iconst (v := (0 : Int32)) hx hb d_Words_putRight_0 (by decide) ?_
  refine lv_istore (lv' := [(4, .int (0 : Int32)), (0, .ref qWd), (1, .ref qP1), (2, .int x2), (3, .int x3)]) hx hb d_Words_putRight_1 hl (by decide) rfl (fun ls hl => ?_)
  exact T3 10000 x2 x3 (0 : Int32) Wd_syndromes Wd_coefficients Lc_poly Lc_earlier Lc_spare Lc_places Lc_evaluator p1 hm _ _ hP hD hS _ (lv_sub hl [1, 2, 3, 4, 0] rfl)
