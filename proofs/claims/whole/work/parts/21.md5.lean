-- DeepChannel$Nearest.<init>()V
abbrev b_Nearest_init : ByteArray := prog_7_method_1_code
abbrev y_Nearest_init : MethodName := ⟨"DeepChannel$Nearest", "<init>", "()V"⟩
theorem d_Nearest_init_0 : decode b_Nearest_init 0 = .ok (.aload_n 0, 1) := by decide +kernel
theorem d_Nearest_init_1 : decode b_Nearest_init 1 = .ok (.invokespecial 3, 3) := by decide +kernel
theorem d_Nearest_init_4 : decode b_Nearest_init 4 = .ok (.aload_n 0, 1) := by decide +kernel
theorem d_Nearest_init_5 : decode b_Nearest_init 5 = .ok (.bipush 64, 2) := by decide +kernel
theorem d_Nearest_init_7 : decode b_Nearest_init 7 = .ok (.newarray .int, 2) := by decide +kernel
theorem d_Nearest_init_9 : decode b_Nearest_init 9 = .ok (.putfield 11, 3) := by decide +kernel
theorem d_Nearest_init_12 : decode b_Nearest_init 12 = .ok (.aload_n 0, 1) := by decide +kernel
theorem d_Nearest_init_13 : decode b_Nearest_init 13 = .ok (.iconst 4, 1) := by decide +kernel
theorem d_Nearest_init_14 : decode b_Nearest_init 14 = .ok (.newarray .int, 2) := by decide +kernel
theorem d_Nearest_init_16 : decode b_Nearest_init 16 = .ok (.putfield 15, 3) := by decide +kernel
theorem d_Nearest_init_19 : decode b_Nearest_init 19 = .ok (.aload_n 0, 1) := by decide +kernel
theorem d_Nearest_init_20 : decode b_Nearest_init 20 = .ok (.bipush 64, 2) := by decide +kernel
theorem d_Nearest_init_22 : decode b_Nearest_init 22 = .ok (.newarray .int, 2) := by decide +kernel
theorem d_Nearest_init_24 : decode b_Nearest_init 24 = .ok (.putfield 18, 3) := by decide +kernel
theorem d_Nearest_init_27 : decode b_Nearest_init 27 = .ok (.aload_n 0, 1) := by decide +kernel
theorem d_Nearest_init_28 : decode b_Nearest_init 28 = .ok (.bipush 64, 2) := by decide +kernel
theorem d_Nearest_init_30 : decode b_Nearest_init 30 = .ok (.newarray .int, 2) := by decide +kernel
theorem d_Nearest_init_32 : decode b_Nearest_init 32 = .ok (.putfield 21, 3) := by decide +kernel
theorem d_Nearest_init_35 : decode b_Nearest_init 35 = .ok (.aload_n 0, 1) := by decide +kernel
theorem d_Nearest_init_36 : decode b_Nearest_init 36 = .ok (.sipush 4096, 3) := by decide +kernel
theorem d_Nearest_init_39 : decode b_Nearest_init 39 = .ok (.newarray .long, 2) := by decide +kernel
theorem d_Nearest_init_41 : decode b_Nearest_init 41 = .ok (.putfield 24, 3) := by decide +kernel
theorem d_Nearest_init_44 : decode b_Nearest_init 44 = .ok (.iconst 0, 1) := by decide +kernel
theorem d_Nearest_init_45 : decode b_Nearest_init 45 = .ok (.istore_n 1, 1) := by decide +kernel
theorem d_Nearest_init_46 : decode b_Nearest_init 46 = .ok (.iload_n 1, 1) := by decide +kernel
theorem d_Nearest_init_47 : decode b_Nearest_init 47 = .ok (.bipush 64, 2) := by decide +kernel
theorem d_Nearest_init_49 : decode b_Nearest_init 49 = .ok (.if_icmp .ge 19, 3) := by decide +kernel
theorem d_Nearest_init_52 : decode b_Nearest_init 52 = .ok (.aload_n 0, 1) := by decide +kernel
theorem d_Nearest_init_53 : decode b_Nearest_init 53 = .ok (.getfield 11, 3) := by decide +kernel
theorem d_Nearest_init_56 : decode b_Nearest_init 56 = .ok (.iload_n 1, 1) := by decide +kernel
theorem d_Nearest_init_57 : decode b_Nearest_init 57 = .ok (.iload_n 1, 1) := by decide +kernel
theorem d_Nearest_init_58 : decode b_Nearest_init 58 = .ok (.invokestatic 28, 3) := by decide +kernel
theorem d_Nearest_init_61 : decode b_Nearest_init 61 = .ok (.iastore, 1) := by decide +kernel
theorem d_Nearest_init_62 : decode b_Nearest_init 62 = .ok (.iinc 1 1, 3) := by decide +kernel
theorem d_Nearest_init_65 : decode b_Nearest_init 65 = .ok (.goto (-19), 3) := by decide +kernel
theorem d_Nearest_init_68 : decode b_Nearest_init 68 = .ok (.return_, 1) := by decide +kernel
theorem ok_Nearest_init : OKc y_Nearest_init b_Nearest_init 2 0 := ⟨k_280, k_279, k_54, rfl, by decide +kernel, by decide +kernel, by decide +kernel⟩
abbrev w1_Nearest_init (cI cJ : ClassId) (qNr : Nat)   : va_W := [(qNr, .inr (5, [.null, .null, .null, .null, .null]))]
abbrev w2_Nearest_init (cI cJ : ClassId) (qNr : Nat) (qNr_pairs qNr_distances qNr_evenRow qNr_oddRow qNr_oneIsBetter : Nat)   (Nr_pairs' : Nat → Int32) : va_W := [(qNr, .inr (5, [.ref qNr_pairs, .ref qNr_distances, .ref qNr_evenRow, .ref qNr_oddRow, .ref qNr_oneIsBetter])), (qNr_pairs, .inl (cI, 64, .inl Nr_pairs')), (qNr_distances, .inl (cI, 4, .inl (fun _ => (0 : Int32)))), (qNr_evenRow, .inl (cI, 64, .inl (fun _ => (0 : Int32)))), (qNr_oddRow, .inl (cI, 64, .inl (fun _ => (0 : Int32)))), (qNr_oneIsBetter, .inl (cJ, 4096, .inr (.inl (fun _ => (0 : Int64)))))]
def f_Nearest_init_46_b  (kh46 : Int32 → (Nat → Int32) → Option ((Nat → Int32))) (x1 : Int32) (Nr_pairs : Nat → Int32) : Option ((Nat → Int32)) :=
  if (64 : Int32) ≤ x1 then
    some Nr_pairs
  else
  bd (f_Coder_pairOf x1) fun u2 =>
  nm u2 fun r1 =>
  wrI Nr_pairs 64 x1 r1 fun g3 =>
  nm (x1 + (1 : Int32)) fun v4 =>
  kh46 v4 g3
def f_Nearest_init_46  : Nat → Int32 → (Nat → Int32) → Option ((Nat → Int32))
  | 0 => fun _ _ => none
  | n + 1 => fun x1 Nr_pairs => f_Nearest_init_46_b (f_Nearest_init_46 n) x1 Nr_pairs
def f_Nearest_init  : Option ((Nat → Int32)) :=
  f_Nearest_init_46 10000 (0 : Int32) (fun _ => (0 : Int32))
set_option maxHeartbeats 4000000 in
set_option maxRecDepth 100000 in
theorem c_Nearest_init (l : Launch) (D : va_G) (cI cJ : ClassId) (tt : Nat → Nat) (qNr : Nat)  (sz : Nat)  (Nr_pairs' : Nat → Int32) (hm : f_Nearest_init = some Nr_pairs') : CTc l y_Nearest_init b_Nearest_init 2 (RC 2 5 4292 42) D cI cJ tt [.ref qNr] (w1_Nearest_init cI cJ qNr) (Nat → Nat) (fun (u : Nat → Nat) => w2_Nearest_init cI cJ qNr (u 0) (u 1) (u 2) (u 3) (u 4) Nr_pairs') sz 5 4292 := by
  refine Met.ofW (cc := b_Nearest_init) (maxL := 2) (ret := none) (by decide) rfl ?_
  intro p e s m args below meth c s₁ B hml hv
  obtain ⟨hargs, hsz, hP, hK, hD0, hE⟩ := hv
  have hx := B.exec
  have hb := B.bytes
  have hr := B.returns
  have hts : ∀ w ∈ TB, w.before args s = true := z_mV s (atoms_spec (ws := WD y_Nearest_init b_Nearest_init 2 none) B.pre)
  have hown : s.vm.findClass "DeepChannel$Nearest" = some m.cls := findClass_of_methodNamed B.named
  have hlocks := B.notSynchronized
  have hin : meth.name = "<init>" := (name_of_methodNamed B.named B.method).1
  subst hsz
  have hD := hD0.self (sz := s.heap.size)
  generalize hAe : va_A (w1_Nearest_init cI cJ qNr) s.heap.size = A at hD hE ⊢
  have hA : ∀ q : Nat, s.heap.size ≤ q → A q := fun q h => by rw [← hAe]; exact Or.inr h
  have hS : va_S A s.heap s.heap [] := va_S.rf
  refine z_entry (vs := [.ref qNr]) hargs (Nat.le_of_ble_eq_true rfl) (fun ls hl => ?_)
  have hl : lv_has ls 2 [(0, .ref qNr)] := hl
  show W p l e (RC 2 5 4292 42) s m args below meth c s.heap [] 0 0 _ _
  refine z_qi (fun Q0 hQ => ?_)
  have F : CallFix p m c b_Nearest_init 2 s args TB "DeepChannel$Nearest" := ⟨hx, hb, hml, hown, hts⟩
  unfold f_Nearest_init at hm
  refine lv_aload_n hx hb d_Nearest_init_0 rfl (lv_at hl 0 rfl) ?_
  refine W.objInit hx hb hown (hts _ k_281) (hts _ k_70) (hts _ k_71) rfl (by rw [hml]; exact hl.1) rfl d_Nearest_init_1 (Nat.le_of_ble_eq_true rfl) (Nat.le_of_ble_eq_true rfl) ?_
  refine W.eq (g2 := F0 m 4 ls []) rfl ?_
  refine lv_aload_n hx hb d_Nearest_init_4 rfl (lv_at hl 0 rfl) ?_
  refine lv_bipush (v := (64 : Int32)) hx hb d_Nearest_init_5 (by decide) ?_
  refine z_newI (N := 64) hx hb hts k_123 hK hP hD hS hA (by decide) (by decide) (Nat.le_of_ble_eq_true rfl) (Nat.le_of_ble_eq_true rfl) (Nat.le_of_ble_eq_true rfl) d_Nearest_init_7 (fun qNr_pairs H hP hD hS => ?_)
  have hP : va_P D classes ([(qNr, .inr (5, [.null, .null, .null, .null, .null])), (qNr_pairs, .inl (cI, 64, .inl (fun _ => (0 : Int32))))]) H := hP
  have hD : va_D A ([(qNr, .inr (5, [.null, .null, .null, .null, .null])), (qNr_pairs, .inl (cI, 64, .inl (fun _ => (0 : Int32))))]) := hD
  refine va_putF (D := D) (ci := 5) (v := .ref qNr_pairs) (ty := .array .int) (C := "DeepChannel$Nearest") (T := fT_Nearest) (N := 5) hx hb hts u_Nearest fY_Nearest fK_Nearest fN_Nearest hown hK hP hD hS 0 rfl rfl 0 (by decide) (hts _ k_286) (fun _ h9 => h9) rfl hin rfl (by decide +kernel) rfl rfl (Nat.le_of_ble_eq_true rfl) d_Nearest_init_9 (fun H locs hP hD hS => ?_)
  have hP : va_P D classes ([(qNr, .inr (5, [.ref qNr_pairs, .null, .null, .null, .null])), (qNr_pairs, .inl (cI, 64, .inl (fun _ => (0 : Int32))))]) H := hP
  have hD : va_D A ([(qNr, .inr (5, [.ref qNr_pairs, .null, .null, .null, .null])), (qNr_pairs, .inl (cI, 64, .inl (fun _ => (0 : Int32))))]) := hD
  refine lv_aload_n hx hb d_Nearest_init_12 rfl (lv_at hl 0 rfl) ?_
  refine lv_iconst (v := (4 : Int32)) hx hb d_Nearest_init_13 (by decide) ?_
  refine z_newI (N := 4) hx hb hts k_123 hK hP hD hS hA (by decide) (by decide) (Nat.le_of_ble_eq_true rfl) (Nat.le_of_ble_eq_true rfl) (Nat.le_of_ble_eq_true rfl) d_Nearest_init_14 (fun qNr_distances H hP hD hS => ?_)
  have hP : va_P D classes ([(qNr, .inr (5, [.ref qNr_pairs, .null, .null, .null, .null])), (qNr_pairs, .inl (cI, 64, .inl (fun _ => (0 : Int32)))), (qNr_distances, .inl (cI, 4, .inl (fun _ => (0 : Int32))))]) H := hP
  have hD : va_D A ([(qNr, .inr (5, [.ref qNr_pairs, .null, .null, .null, .null])), (qNr_pairs, .inl (cI, 64, .inl (fun _ => (0 : Int32)))), (qNr_distances, .inl (cI, 4, .inl (fun _ => (0 : Int32))))]) := hD
  refine va_putF (D := D) (ci := 5) (v := .ref qNr_distances) (ty := .array .int) (C := "DeepChannel$Nearest") (T := fT_Nearest) (N := 5) hx hb hts u_Nearest fY_Nearest fK_Nearest fN_Nearest hown hK hP hD hS 0 rfl rfl 1 (by decide) (hts _ k_287) (fun _ h9 => h9) rfl hin rfl (by decide +kernel) rfl rfl (Nat.le_of_ble_eq_true rfl) d_Nearest_init_16 (fun H locs hP hD hS => ?_)
  have hP : va_P D classes ([(qNr, .inr (5, [.ref qNr_pairs, .ref qNr_distances, .null, .null, .null])), (qNr_pairs, .inl (cI, 64, .inl (fun _ => (0 : Int32)))), (qNr_distances, .inl (cI, 4, .inl (fun _ => (0 : Int32))))]) H := hP
  have hD : va_D A ([(qNr, .inr (5, [.ref qNr_pairs, .ref qNr_distances, .null, .null, .null])), (qNr_pairs, .inl (cI, 64, .inl (fun _ => (0 : Int32)))), (qNr_distances, .inl (cI, 4, .inl (fun _ => (0 : Int32))))]) := hD
  refine lv_aload_n hx hb d_Nearest_init_19 rfl (lv_at hl 0 rfl) ?_
  refine lv_bipush (v := (64 : Int32)) hx hb d_Nearest_init_20 (by decide) ?_
  refine z_newI (N := 64) hx hb hts k_123 hK hP hD hS hA (by decide) (by decide) (Nat.le_of_ble_eq_true rfl) (Nat.le_of_ble_eq_true rfl) (Nat.le_of_ble_eq_true rfl) d_Nearest_init_22 (fun qNr_evenRow H hP hD hS => ?_)
  have hP : va_P D classes ([(qNr, .inr (5, [.ref qNr_pairs, .ref qNr_distances, .null, .null, .null])), (qNr_pairs, .inl (cI, 64, .inl (fun _ => (0 : Int32)))), (qNr_distances, .inl (cI, 4, .inl (fun _ => (0 : Int32)))), (qNr_evenRow, .inl (cI, 64, .inl (fun _ => (0 : Int32))))]) H := hP
  have hD : va_D A ([(qNr, .inr (5, [.ref qNr_pairs, .ref qNr_distances, .null, .null, .null])), (qNr_pairs, .inl (cI, 64, .inl (fun _ => (0 : Int32)))), (qNr_distances, .inl (cI, 4, .inl (fun _ => (0 : Int32)))), (qNr_evenRow, .inl (cI, 64, .inl (fun _ => (0 : Int32))))]) := hD
  refine va_putF (D := D) (ci := 5) (v := .ref qNr_evenRow) (ty := .array .int) (C := "DeepChannel$Nearest") (T := fT_Nearest) (N := 5) hx hb hts u_Nearest fY_Nearest fK_Nearest fN_Nearest hown hK hP hD hS 0 rfl rfl 2 (by decide) (hts _ k_288) (fun _ h9 => h9) rfl hin rfl (by decide +kernel) rfl rfl (Nat.le_of_ble_eq_true rfl) d_Nearest_init_24 (fun H locs hP hD hS => ?_)
  have hP : va_P D classes ([(qNr, .inr (5, [.ref qNr_pairs, .ref qNr_distances, .ref qNr_evenRow, .null, .null])), (qNr_pairs, .inl (cI, 64, .inl (fun _ => (0 : Int32)))), (qNr_distances, .inl (cI, 4, .inl (fun _ => (0 : Int32)))), (qNr_evenRow, .inl (cI, 64, .inl (fun _ => (0 : Int32))))]) H := hP
  have hD : va_D A ([(qNr, .inr (5, [.ref qNr_pairs, .ref qNr_distances, .ref qNr_evenRow, .null, .null])), (qNr_pairs, .inl (cI, 64, .inl (fun _ => (0 : Int32)))), (qNr_distances, .inl (cI, 4, .inl (fun _ => (0 : Int32)))), (qNr_evenRow, .inl (cI, 64, .inl (fun _ => (0 : Int32))))]) := hD
  refine lv_aload_n hx hb d_Nearest_init_27 rfl (lv_at hl 0 rfl) ?_
  refine lv_bipush (v := (64 : Int32)) hx hb d_Nearest_init_28 (by decide) ?_
  refine z_newI (N := 64) hx hb hts k_123 hK hP hD hS hA (by decide) (by decide) (Nat.le_of_ble_eq_true rfl) (Nat.le_of_ble_eq_true rfl) (Nat.le_of_ble_eq_true rfl) d_Nearest_init_30 (fun qNr_oddRow H hP hD hS => ?_)
  have hP : va_P D classes ([(qNr, .inr (5, [.ref qNr_pairs, .ref qNr_distances, .ref qNr_evenRow, .null, .null])), (qNr_pairs, .inl (cI, 64, .inl (fun _ => (0 : Int32)))), (qNr_distances, .inl (cI, 4, .inl (fun _ => (0 : Int32)))), (qNr_evenRow, .inl (cI, 64, .inl (fun _ => (0 : Int32)))), (qNr_oddRow, .inl (cI, 64, .inl (fun _ => (0 : Int32))))]) H := hP
  have hD : va_D A ([(qNr, .inr (5, [.ref qNr_pairs, .ref qNr_distances, .ref qNr_evenRow, .null, .null])), (qNr_pairs, .inl (cI, 64, .inl (fun _ => (0 : Int32)))), (qNr_distances, .inl (cI, 4, .inl (fun _ => (0 : Int32)))), (qNr_evenRow, .inl (cI, 64, .inl (fun _ => (0 : Int32)))), (qNr_oddRow, .inl (cI, 64, .inl (fun _ => (0 : Int32))))]) := hD
  refine va_putF (D := D) (ci := 5) (v := .ref qNr_oddRow) (ty := .array .int) (C := "DeepChannel$Nearest") (T := fT_Nearest) (N := 5) hx hb hts u_Nearest fY_Nearest fK_Nearest fN_Nearest hown hK hP hD hS 0 rfl rfl 3 (by decide) (hts _ k_289) (fun _ h9 => h9) rfl hin rfl (by decide +kernel) rfl rfl (Nat.le_of_ble_eq_true rfl) d_Nearest_init_32 (fun H locs hP hD hS => ?_)
  have hP : va_P D classes ([(qNr, .inr (5, [.ref qNr_pairs, .ref qNr_distances, .ref qNr_evenRow, .ref qNr_oddRow, .null])), (qNr_pairs, .inl (cI, 64, .inl (fun _ => (0 : Int32)))), (qNr_distances, .inl (cI, 4, .inl (fun _ => (0 : Int32)))), (qNr_evenRow, .inl (cI, 64, .inl (fun _ => (0 : Int32)))), (qNr_oddRow, .inl (cI, 64, .inl (fun _ => (0 : Int32))))]) H := hP
  have hD : va_D A ([(qNr, .inr (5, [.ref qNr_pairs, .ref qNr_distances, .ref qNr_evenRow, .ref qNr_oddRow, .null])), (qNr_pairs, .inl (cI, 64, .inl (fun _ => (0 : Int32)))), (qNr_distances, .inl (cI, 4, .inl (fun _ => (0 : Int32)))), (qNr_evenRow, .inl (cI, 64, .inl (fun _ => (0 : Int32)))), (qNr_oddRow, .inl (cI, 64, .inl (fun _ => (0 : Int32))))]) := hD
  refine lv_aload_n hx hb d_Nearest_init_35 rfl (lv_at hl 0 rfl) ?_
  refine lv_sipush (v := (4096 : Int32)) hx hb d_Nearest_init_36 (by decide) ?_
  refine z_newL (N := 4096) hx hb hts k_219 hK hP hD hS hA (by decide) (by decide) (Nat.le_of_ble_eq_true rfl) (Nat.le_of_ble_eq_true rfl) (Nat.le_of_ble_eq_true rfl) d_Nearest_init_39 (fun qNr_oneIsBetter H hP hD hS => ?_)
  have hP : va_P D classes ([(qNr, .inr (5, [.ref qNr_pairs, .ref qNr_distances, .ref qNr_evenRow, .ref qNr_oddRow, .null])), (qNr_pairs, .inl (cI, 64, .inl (fun _ => (0 : Int32)))), (qNr_distances, .inl (cI, 4, .inl (fun _ => (0 : Int32)))), (qNr_evenRow, .inl (cI, 64, .inl (fun _ => (0 : Int32)))), (qNr_oddRow, .inl (cI, 64, .inl (fun _ => (0 : Int32)))), (qNr_oneIsBetter, .inl (cJ, 4096, .inr (.inl (fun _ => (0 : Int64)))))]) H := hP
  have hD : va_D A ([(qNr, .inr (5, [.ref qNr_pairs, .ref qNr_distances, .ref qNr_evenRow, .ref qNr_oddRow, .null])), (qNr_pairs, .inl (cI, 64, .inl (fun _ => (0 : Int32)))), (qNr_distances, .inl (cI, 4, .inl (fun _ => (0 : Int32)))), (qNr_evenRow, .inl (cI, 64, .inl (fun _ => (0 : Int32)))), (qNr_oddRow, .inl (cI, 64, .inl (fun _ => (0 : Int32)))), (qNr_oneIsBetter, .inl (cJ, 4096, .inr (.inl (fun _ => (0 : Int64)))))]) := hD
  refine va_putF (D := D) (ci := 5) (v := .ref qNr_oneIsBetter) (ty := .array .long) (C := "DeepChannel$Nearest") (T := fT_Nearest) (N := 5) hx hb hts u_Nearest fY_Nearest fK_Nearest fN_Nearest hown hK hP hD hS 0 rfl rfl 4 (by decide) (hts _ k_290) (fun _ h9 => h9) rfl hin rfl (by decide +kernel) rfl rfl (Nat.le_of_ble_eq_true rfl) d_Nearest_init_41 (fun H locs hP hD hS => ?_)
  have hP : va_P D classes ([(qNr, .inr (5, [.ref qNr_pairs, .ref qNr_distances, .ref qNr_evenRow, .ref qNr_oddRow, .ref qNr_oneIsBetter])), (qNr_pairs, .inl (cI, 64, .inl (fun _ => (0 : Int32)))), (qNr_distances, .inl (cI, 4, .inl (fun _ => (0 : Int32)))), (qNr_evenRow, .inl (cI, 64, .inl (fun _ => (0 : Int32)))), (qNr_oddRow, .inl (cI, 64, .inl (fun _ => (0 : Int32)))), (qNr_oneIsBetter, .inl (cJ, 4096, .inr (.inl (fun _ => (0 : Int64)))))]) H := hP
  have hD : va_D A ([(qNr, .inr (5, [.ref qNr_pairs, .ref qNr_distances, .ref qNr_evenRow, .ref qNr_oddRow, .ref qNr_oneIsBetter])), (qNr_pairs, .inl (cI, 64, .inl (fun _ => (0 : Int32)))), (qNr_distances, .inl (cI, 4, .inl (fun _ => (0 : Int32)))), (qNr_evenRow, .inl (cI, 64, .inl (fun _ => (0 : Int32)))), (qNr_oddRow, .inl (cI, 64, .inl (fun _ => (0 : Int32)))), (qNr_oneIsBetter, .inl (cJ, 4096, .inr (.inl (fun _ => (0 : Int64)))))]) := hD
  refine lv_iconst (v := (0 : Int32)) hx hb d_Nearest_init_44 (by decide) ?_
  refine lv_istore_n (lv' := [(1, .int (0 : Int32)), (0, .ref qNr)]) hx hb d_Nearest_init_45 rfl hl (by decide) rfl (fun ls hl => ?_)
  have T46 : ∀ (n46 : Nat) (x1 : Int32) (Nr_pairs : Nat → Int32), f_Nearest_init_46 n46 x1 Nr_pairs = some Nr_pairs' → ∀ (H : Heap) (locs : List Loc), va_P D classes ([(qNr, .inr (5, [.ref qNr_pairs, .ref qNr_distances, .ref qNr_evenRow, .ref qNr_oddRow, .ref qNr_oneIsBetter])), (qNr_pairs, .inl (cI, 64, .inl Nr_pairs)), (qNr_distances, .inl (cI, 4, .inl (fun _ => (0 : Int32)))), (qNr_evenRow, .inl (cI, 64, .inl (fun _ => (0 : Int32)))), (qNr_oddRow, .inl (cI, 64, .inl (fun _ => (0 : Int32)))), (qNr_oneIsBetter, .inl (cJ, 4096, .inr (.inl (fun _ => (0 : Int64)))))]) H → va_D A ([(qNr, .inr (5, [.ref qNr_pairs, .ref qNr_distances, .ref qNr_evenRow, .ref qNr_oddRow, .ref qNr_oneIsBetter])), (qNr_pairs, .inl (cI, 64, .inl Nr_pairs)), (qNr_distances, .inl (cI, 4, .inl (fun _ => (0 : Int32)))), (qNr_evenRow, .inl (cI, 64, .inl (fun _ => (0 : Int32)))), (qNr_oddRow, .inl (cI, 64, .inl (fun _ => (0 : Int32)))), (qNr_oneIsBetter, .inl (cJ, 4096, .inr (.inl (fun _ => (0 : Int64)))))]) → va_S A s.heap H locs → ∀ (ls : Array Slot), lv_has ls 2 [(0, .ref qNr), (1, .int x1)] → W p l e (RC 2 5 4292 42) s m args below meth c H locs 5 4292 Q0 (F0 m 46 ls []) := by
    intro n46
    induction n46 with
    | zero => intro x1 Nr_pairs hm; cases hm
    | succ n46 ih46 =>
      intro x1 Nr_pairs hm H locs hP hD hS ls hl
      replace hm : f_Nearest_init_46_b (f_Nearest_init_46 n46) x1 Nr_pairs = some Nr_pairs' := hm
      unfold f_Nearest_init_46_b at hm
      refine lv_iload_n hx hb d_Nearest_init_46 rfl (lv_at hl 1 rfl) ?_
      refine lv_bipush (v := (64 : Int32)) hx hb d_Nearest_init_47 (by decide) ?_
      refine z_if hm (lv_icmp_ge (tgt := 68) hx hb d_Nearest_init_49 (by decide)) (fun hm => ?_) (fun hm => ?_)
      · cases hm
        exact z_qo hQ (z_vretC (fun k => [qNr_pairs, qNr_distances, qNr_evenRow, qNr_oddRow, qNr_oneIsBetter].getD k 0) hr hx hb hlocks hK hP hD hS d_Nearest_init_68)
      · refine lv_aload_n hx hb d_Nearest_init_52 rfl (lv_at hl 0 rfl) ?_
        refine va_get (D := D) (ci := 5) (v := .ref qNr_pairs) (C := "DeepChannel$Nearest") (T := fT_Nearest) (N := 5) hx hb hts u_Nearest hown hK hP 0 rfl rfl 0 (by decide) (hts _ k_286) (fun _ h9 => h9) rfl d_Nearest_init_53 ?_
        refine lv_iload_n hx hb d_Nearest_init_56 rfl (lv_at hl 1 rfl) ?_
        refine lv_iload_n hx hb d_Nearest_init_57 rfl (lv_at hl 1 rfl) ?_
        obtain ⟨r1, hu, hm⟩ := bd_el hm
        replace hm := nm_1 hm
        refine z_cSi (wc := w_Coder_pairOf) (wc' := w_Coder_pairOf) (wr := [(qNr, .inr (5, [.ref qNr_pairs, .ref qNr_distances, .ref qNr_evenRow, .ref qNr_oddRow, .ref qNr_oneIsBetter])), (qNr_pairs, .inl (cI, 64, .inl Nr_pairs)), (qNr_distances, .inl (cI, 4, .inl (fun _ => (0 : Int32)))), (qNr_evenRow, .inl (cI, 64, .inl (fun _ => (0 : Int32)))), (qNr_oddRow, .inl (cI, 64, .inl (fun _ => (0 : Int32)))), (qNr_oneIsBetter, .inl (cJ, 4096, .inr (.inl (fun _ => (0 : Int64)))))]) (As := [.int x1]) (rest := [.int x1, .ref qNr_pairs]) (c_Coder_pairOf l D cI cJ tt _ x1 r1 hu) F ok_Coder_pairOf k_282 hK hE hP hD hS hA [] [0, 1, 2, 3, 4, 5] rfl rfl (by decide) (by decide) (by decide) ⟨rfl, rfl, Nat.le_of_ble_eq_true rfl, Nat.le_of_ble_eq_true rfl⟩ ⟨Nat.le_of_ble_eq_true rfl, Nat.le_of_ble_eq_true rfl⟩ rfl hl.1 rfl (Nat.le_of_ble_eq_true rfl) d_Nearest_init_58 (fun H locs hP hD hS => ?_)
        have hP : va_P D classes ([(qNr, .inr (5, [.ref qNr_pairs, .ref qNr_distances, .ref qNr_evenRow, .ref qNr_oddRow, .ref qNr_oneIsBetter])), (qNr_pairs, .inl (cI, 64, .inl Nr_pairs)), (qNr_distances, .inl (cI, 4, .inl (fun _ => (0 : Int32)))), (qNr_evenRow, .inl (cI, 64, .inl (fun _ => (0 : Int32)))), (qNr_oddRow, .inl (cI, 64, .inl (fun _ => (0 : Int32)))), (qNr_oneIsBetter, .inl (cJ, 4096, .inr (.inl (fun _ => (0 : Int64)))))]) H := hP.sub [0, 1, 2, 3, 4, 5] rfl
        have hD : va_D A ([(qNr, .inr (5, [.ref qNr_pairs, .ref qNr_distances, .ref qNr_evenRow, .ref qNr_oddRow, .ref qNr_oneIsBetter])), (qNr_pairs, .inl (cI, 64, .inl Nr_pairs)), (qNr_distances, .inl (cI, 4, .inl (fun _ => (0 : Int32)))), (qNr_evenRow, .inl (cI, 64, .inl (fun _ => (0 : Int32)))), (qNr_oddRow, .inl (cI, 64, .inl (fun _ => (0 : Int32)))), (qNr_oneIsBetter, .inl (cJ, 4096, .inr (.inl (fun _ => (0 : Int64)))))]) := hD.sub [0, 1, 2, 3, 4, 5] (by decide) rfl
        refine z_iast hm hx hb hK hP hD hS 1 rfl d_Nearest_init_61 (fun g3 hm H locs hP hD hS => ?_)
        have hP : va_P D classes ([(qNr, .inr (5, [.ref qNr_pairs, .ref qNr_distances, .ref qNr_evenRow, .ref qNr_oddRow, .ref qNr_oneIsBetter])), (qNr_pairs, .inl (cI, 64, .inl g3)), (qNr_distances, .inl (cI, 4, .inl (fun _ => (0 : Int32)))), (qNr_evenRow, .inl (cI, 64, .inl (fun _ => (0 : Int32)))), (qNr_oddRow, .inl (cI, 64, .inl (fun _ => (0 : Int32)))), (qNr_oneIsBetter, .inl (cJ, 4096, .inr (.inl (fun _ => (0 : Int64)))))]) H := hP
        have hD : va_D A ([(qNr, .inr (5, [.ref qNr_pairs, .ref qNr_distances, .ref qNr_evenRow, .ref qNr_oddRow, .ref qNr_oneIsBetter])), (qNr_pairs, .inl (cI, 64, .inl g3)), (qNr_distances, .inl (cI, 4, .inl (fun _ => (0 : Int32)))), (qNr_evenRow, .inl (cI, 64, .inl (fun _ => (0 : Int32)))), (qNr_oddRow, .inl (cI, 64, .inl (fun _ => (0 : Int32)))), (qNr_oneIsBetter, .inl (cJ, 4096, .inr (.inl (fun _ => (0 : Int64)))))]) := hD
        obtain ⟨v4, ev, hm⟩ := nm_el hm
        refine lv_iinc (v := v4) (lv' := [(1, .int v4), (0, .ref qNr)]) hx hb d_Nearest_init_62 hl (k := 1) rfl (by rw [ev]; rfl) (by decide) rfl (fun ls hl => ?_)
        refine lv_goto (tgt := 46) hx hb d_Nearest_init_65 (by decide) ?_
        exact ih46 v4 g3 hm _ _ hP hD hS _ (lv_sub hl [1, 0] rfl)
  exact T46 10000 (0 : Int32) (fun _ => (0 : Int32)) hm _ _ hP hD hS _ (lv_sub hl [1, 0] rfl)
