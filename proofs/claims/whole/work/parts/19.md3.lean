-- DeepChannel$Mixer.<init>()V
abbrev b_Mixer_init : ByteArray := prog_6_method_1_code
abbrev y_Mixer_init : MethodName := ⟨"DeepChannel$Mixer", "<init>", "()V"⟩
theorem d_Mixer_init_0 : decode b_Mixer_init 0 = .ok (.aload_n 0, 1) := by decide +kernel
theorem d_Mixer_init_1 : decode b_Mixer_init 1 = .ok (.invokespecial 3, 3) := by decide +kernel
theorem d_Mixer_init_4 : decode b_Mixer_init 4 = .ok (.aload_n 0, 1) := by decide +kernel
theorem d_Mixer_init_5 : decode b_Mixer_init 5 = .ok (.sipush 250, 3) := by decide +kernel
theorem d_Mixer_init_8 : decode b_Mixer_init 8 = .ok (.newarray .int, 2) := by decide +kernel
theorem d_Mixer_init_10 : decode b_Mixer_init 10 = .ok (.putfield 9, 3) := by decide +kernel
theorem d_Mixer_init_13 : decode b_Mixer_init 13 = .ok (.sipush 255, 3) := by decide +kernel
theorem d_Mixer_init_16 : decode b_Mixer_init 16 = .ok (.istore_n 1, 1) := by decide +kernel
theorem d_Mixer_init_17 : decode b_Mixer_init 17 = .ok (.iconst 0, 1) := by decide +kernel
theorem d_Mixer_init_18 : decode b_Mixer_init 18 = .ok (.istore_n 2, 1) := by decide +kernel
theorem d_Mixer_init_19 : decode b_Mixer_init 19 = .ok (.iload_n 2, 1) := by decide +kernel
theorem d_Mixer_init_20 : decode b_Mixer_init 20 = .ok (.sipush 250, 3) := by decide +kernel
theorem d_Mixer_init_23 : decode b_Mixer_init 23 = .ok (.if_icmp .ge 49, 3) := by decide +kernel
theorem d_Mixer_init_26 : decode b_Mixer_init 26 = .ok (.aload_n 0, 1) := by decide +kernel
theorem d_Mixer_init_27 : decode b_Mixer_init 27 = .ok (.getfield 9, 3) := by decide +kernel
theorem d_Mixer_init_30 : decode b_Mixer_init 30 = .ok (.iload_n 2, 1) := by decide +kernel
theorem d_Mixer_init_31 : decode b_Mixer_init 31 = .ok (.iload_n 1, 1) := by decide +kernel
theorem d_Mixer_init_32 : decode b_Mixer_init 32 = .ok (.iastore, 1) := by decide +kernel
theorem d_Mixer_init_33 : decode b_Mixer_init 33 = .ok (.iconst 0, 1) := by decide +kernel
theorem d_Mixer_init_34 : decode b_Mixer_init 34 = .ok (.istore_n 3, 1) := by decide +kernel
theorem d_Mixer_init_35 : decode b_Mixer_init 35 = .ok (.iload_n 3, 1) := by decide +kernel
theorem d_Mixer_init_36 : decode b_Mixer_init 36 = .ok (.bipush 8, 2) := by decide +kernel
theorem d_Mixer_init_38 : decode b_Mixer_init 38 = .ok (.if_icmp .ge 28, 3) := by decide +kernel
theorem d_Mixer_init_41 : decode b_Mixer_init 41 = .ok (.iload_n 1, 1) := by decide +kernel
theorem d_Mixer_init_42 : decode b_Mixer_init 42 = .ok (.iconst 1, 1) := by decide +kernel
theorem d_Mixer_init_43 : decode b_Mixer_init 43 = .ok (.ishl, 1) := by decide +kernel
theorem d_Mixer_init_44 : decode b_Mixer_init 44 = .ok (.sipush 255, 3) := by decide +kernel
theorem d_Mixer_init_47 : decode b_Mixer_init 47 = .ok (.iand, 1) := by decide +kernel
theorem d_Mixer_init_48 : decode b_Mixer_init 48 = .ok (.iload_n 1, 1) := by decide +kernel
theorem d_Mixer_init_49 : decode b_Mixer_init 49 = .ok (.sipush 149, 3) := by decide +kernel
theorem d_Mixer_init_52 : decode b_Mixer_init 52 = .ok (.iand, 1) := by decide +kernel
theorem d_Mixer_init_53 : decode b_Mixer_init 53 = .ok (.invokestatic 15, 3) := by decide +kernel
theorem d_Mixer_init_56 : decode b_Mixer_init 56 = .ok (.iconst 1, 1) := by decide +kernel
theorem d_Mixer_init_57 : decode b_Mixer_init 57 = .ok (.iand, 1) := by decide +kernel
theorem d_Mixer_init_58 : decode b_Mixer_init 58 = .ok (.ior, 1) := by decide +kernel
theorem d_Mixer_init_59 : decode b_Mixer_init 59 = .ok (.istore_n 1, 1) := by decide +kernel
theorem d_Mixer_init_60 : decode b_Mixer_init 60 = .ok (.iinc 3 1, 3) := by decide +kernel
theorem d_Mixer_init_63 : decode b_Mixer_init 63 = .ok (.goto (-28), 3) := by decide +kernel
theorem d_Mixer_init_66 : decode b_Mixer_init 66 = .ok (.iinc 2 1, 3) := by decide +kernel
theorem d_Mixer_init_69 : decode b_Mixer_init 69 = .ok (.goto (-50), 3) := by decide +kernel
theorem d_Mixer_init_72 : decode b_Mixer_init 72 = .ok (.return_, 1) := by decide +kernel
theorem ok_Mixer_init : OKc y_Mixer_init b_Mixer_init 4 0 := ⟨k_194, k_193, k_48, rfl, by decide +kernel, by decide +kernel, by decide +kernel⟩
abbrev w1_Mixer_init (cI cJ : ClassId) (qMx : Nat)   : va_W := [(qMx, .inr (4, [.null]))]
abbrev w2_Mixer_init (cI cJ : ClassId) (qMx : Nat) (qMx_bytes : Nat)   (Mx_bytes' : Nat → Int32) : va_W := [(qMx, .inr (4, [.ref qMx_bytes])), (qMx_bytes, .inl (cI, 250, .inl Mx_bytes'))]
def f_Mixer_init_66 (kh19 : Int32 → Int32 → (Nat → Int32) → Option ((Nat → Int32))) (x1 : Int32) (x2 : Int32) (Mx_bytes : Nat → Int32) : Option ((Nat → Int32)) :=
  nm (x2 + (1 : Int32)) fun v1 =>
  kh19 x1 v1 Mx_bytes
def f_Mixer_init_35_b (kh19 : Int32 → Int32 → (Nat → Int32) → Option ((Nat → Int32))) (kh35 : Int32 → Int32 → Int32 → (Nat → Int32) → Option ((Nat → Int32))) (x1 : Int32) (x2 : Int32) (x3 : Int32) (Mx_bytes : Nat → Int32) : Option ((Nat → Int32)) :=
  if (8 : Int32) ≤ x3 then
    f_Mixer_init_66 kh19 x1 x2 Mx_bytes
  else
  bd (f_Integer_bitCount (x1 &&& (149 : Int32))) fun u3 =>
  nm u3 fun r2 =>
  nm (((x1 <<< ((1 : Int32) &&& 31)) &&& (255 : Int32)) ||| (r2 &&& (1 : Int32))) fun v4 =>
  nm (x3 + (1 : Int32)) fun v5 =>
  kh35 v4 x2 v5 Mx_bytes
def f_Mixer_init_35 (kh19 : Int32 → Int32 → (Nat → Int32) → Option ((Nat → Int32))) : Nat → Int32 → Int32 → Int32 → (Nat → Int32) → Option ((Nat → Int32))
  | 0 => fun _ _ _ _ => none
  | n + 1 => fun x1 x2 x3 Mx_bytes => f_Mixer_init_35_b kh19 (f_Mixer_init_35 kh19 n) x1 x2 x3 Mx_bytes
def f_Mixer_init_19_b  (kh19 : Int32 → Int32 → (Nat → Int32) → Option ((Nat → Int32))) (x1 : Int32) (x2 : Int32) (Mx_bytes : Nat → Int32) : Option ((Nat → Int32)) :=
  if (250 : Int32) ≤ x2 then
    some Mx_bytes
  else
  wrI Mx_bytes 250 x2 x1 fun g6 =>
  f_Mixer_init_35 kh19 10000 x1 x2 (0 : Int32) g6
def f_Mixer_init_19  : Nat → Int32 → Int32 → (Nat → Int32) → Option ((Nat → Int32))
  | 0 => fun _ _ _ => none
  | n + 1 => fun x1 x2 Mx_bytes => f_Mixer_init_19_b (f_Mixer_init_19 n) x1 x2 Mx_bytes
def f_Mixer_init  : Option ((Nat → Int32)) :=
  f_Mixer_init_19 10000 (255 : Int32) (0 : Int32) (fun _ => (0 : Int32))
set_option maxHeartbeats 4000000 in
set_option maxRecDepth 100000 in
theorem c_Mixer_init (l : Launch) (D : va_G) (cI cJ : ClassId) (tt : Nat → Nat) (qMx : Nat)  (sz : Nat)  (Mx_bytes' : Nat → Int32) (hm : f_Mixer_init = some Mx_bytes') : CTc l y_Mixer_init b_Mixer_init 4 (RC 1 1 250 20) D cI cJ tt [.ref qMx] (w1_Mixer_init cI cJ qMx) (Nat → Nat) (fun (u : Nat → Nat) => w2_Mixer_init cI cJ qMx (u 0) Mx_bytes') sz 1 250 := by
  refine Met.ofW (cc := b_Mixer_init) (maxL := 4) (ret := none) (by decide) rfl ?_
  intro p e s m args below meth c s₁ B hml hv
  obtain ⟨hargs, hsz, hP, hK, hD0, hE⟩ := hv
  have hx := B.exec
  have hb := B.bytes
  have hr := B.returns
  have hts : ∀ w ∈ TB, w.before args s = true := z_mV s (atoms_spec (ws := WD y_Mixer_init b_Mixer_init 4 none) B.pre)
  have hown : s.vm.findClass "DeepChannel$Mixer" = some m.cls := findClass_of_methodNamed B.named
  have hlocks := B.notSynchronized
  have hin : meth.name = "<init>" := (name_of_methodNamed B.named B.method).1
  subst hsz
  have hD := hD0.self (sz := s.heap.size)
  generalize hAe : va_A (w1_Mixer_init cI cJ qMx) s.heap.size = A at hD hE ⊢
  have hA : ∀ q : Nat, s.heap.size ≤ q → A q := fun q h => by rw [← hAe]; exact Or.inr h
  have hS : va_S A s.heap s.heap [] := va_S.rf
  refine z_entry (vs := [.ref qMx]) hargs (Nat.le_of_ble_eq_true rfl) (fun ls hl => ?_)
  have hl : lv_has ls 4 [(0, .ref qMx)] := hl
  show W p l e (RC 1 1 250 20) s m args below meth c s.heap [] 0 0 _ _
  refine z_qi (fun Q0 hQ => ?_)
  have F : CallFix p m c b_Mixer_init 4 s args TB "DeepChannel$Mixer" := ⟨hx, hb, hml, hown, hts⟩
  unfold f_Mixer_init at hm
  refine lv_aload_n hx hb d_Mixer_init_0 rfl (lv_at hl 0 rfl) ?_
  refine W.objInit hx hb hown (hts _ k_195) (hts _ k_70) (hts _ k_71) rfl (by rw [hml]; exact hl.1) rfl d_Mixer_init_1 (Nat.le_of_ble_eq_true rfl) (Nat.le_of_ble_eq_true rfl) ?_
  refine W.eq (g2 := F0 m 4 ls []) rfl ?_
  refine lv_aload_n hx hb d_Mixer_init_4 rfl (lv_at hl 0 rfl) ?_
  refine lv_sipush (v := (250 : Int32)) hx hb d_Mixer_init_5 (by decide) ?_
  refine z_newI (N := 250) hx hb hts k_123 hK hP hD hS hA (by decide) (by decide) (Nat.le_of_ble_eq_true rfl) (Nat.le_of_ble_eq_true rfl) (Nat.le_of_ble_eq_true rfl) d_Mixer_init_8 (fun qMx_bytes H hP hD hS => ?_)
  have hP : va_P D classes ([(qMx, .inr (4, [.null])), (qMx_bytes, .inl (cI, 250, .inl (fun _ => (0 : Int32))))]) H := hP
  have hD : va_D A ([(qMx, .inr (4, [.null])), (qMx_bytes, .inl (cI, 250, .inl (fun _ => (0 : Int32))))]) := hD
  refine va_putF (D := D) (ci := 4) (v := .ref qMx_bytes) (ty := .array .int) (C := "DeepChannel$Mixer") (T := fT_Mixer) (N := 1) hx hb hts u_Mixer fY_Mixer fK_Mixer fN_Mixer hown hK hP hD hS 0 rfl rfl 0 (by decide) (hts _ k_202) (fun _ h9 => h9) rfl hin rfl (by decide +kernel) rfl rfl (Nat.le_of_ble_eq_true rfl) d_Mixer_init_10 (fun H locs hP hD hS => ?_)
  have hP : va_P D classes ([(qMx, .inr (4, [.ref qMx_bytes])), (qMx_bytes, .inl (cI, 250, .inl (fun _ => (0 : Int32))))]) H := hP
  have hD : va_D A ([(qMx, .inr (4, [.ref qMx_bytes])), (qMx_bytes, .inl (cI, 250, .inl (fun _ => (0 : Int32))))]) := hD
  refine lv_sipush (v := (255 : Int32)) hx hb d_Mixer_init_13 (by decide) ?_
  refine lv_istore_n (lv' := [(1, .int (255 : Int32)), (0, .ref qMx)]) hx hb d_Mixer_init_16 rfl hl (by decide) rfl (fun ls hl => ?_)
  refine lv_iconst (v := (0 : Int32)) hx hb d_Mixer_init_17 (by decide) ?_
  refine lv_istore_n (lv' := [(2, .int (0 : Int32)), (1, .int (255 : Int32)), (0, .ref qMx)]) hx hb d_Mixer_init_18 rfl hl (by decide) rfl (fun ls hl => ?_)
  have T19 : ∀ (n19 : Nat) (x1 : Int32) (x2 : Int32) (Mx_bytes : Nat → Int32), f_Mixer_init_19 n19 x1 x2 Mx_bytes = some Mx_bytes' → ∀ (H : Heap) (locs : List Loc), va_P D classes ([(qMx, .inr (4, [.ref qMx_bytes])), (qMx_bytes, .inl (cI, 250, .inl Mx_bytes))]) H → va_D A ([(qMx, .inr (4, [.ref qMx_bytes])), (qMx_bytes, .inl (cI, 250, .inl Mx_bytes))]) → va_S A s.heap H locs → ∀ (ls : Array Slot), lv_has ls 4 [(0, .ref qMx), (1, .int x1), (2, .int x2)] → W p l e (RC 1 1 250 20) s m args below meth c H locs 1 250 Q0 (F0 m 19 ls []) := by
    intro n19
    induction n19 with
    | zero => intro x1 x2 Mx_bytes hm; cases hm
    | succ n19 ih19 =>
      have T66 : ∀ (x1 : Int32) (x2 : Int32) (Mx_bytes : Nat → Int32), f_Mixer_init_66 (f_Mixer_init_19 n19) x1 x2 Mx_bytes = some Mx_bytes' → ∀ (H : Heap) (locs : List Loc), va_P D classes ([(qMx, .inr (4, [.ref qMx_bytes])), (qMx_bytes, .inl (cI, 250, .inl Mx_bytes))]) H → va_D A ([(qMx, .inr (4, [.ref qMx_bytes])), (qMx_bytes, .inl (cI, 250, .inl Mx_bytes))]) → va_S A s.heap H locs → ∀ (ls : Array Slot), lv_has ls 4 [(0, .ref qMx), (1, .int x1), (2, .int x2)] → W p l e (RC 1 1 250 20) s m args below meth c H locs 1 250 Q0 (F0 m 66 ls []) := by
        intro x1 x2 Mx_bytes hm H locs hP hD hS ls hl
        unfold f_Mixer_init_66 at hm
        obtain ⟨v1, ev, hm⟩ := nm_el hm
        refine lv_iinc (v := v1) (lv' := [(2, .int v1), (0, .ref qMx), (1, .int x1)]) hx hb d_Mixer_init_66 hl (k := 2) rfl (by rw [ev]; rfl) (by decide) rfl (fun ls hl => ?_)
        refine lv_goto (tgt := 19) hx hb d_Mixer_init_69 (by decide) ?_
        exact ih19 x1 v1 Mx_bytes hm _ _ hP hD hS _ (lv_sub hl [1, 2, 0] rfl)
      have T35 : ∀ (n35 : Nat) (x1 : Int32) (x2 : Int32) (x3 : Int32) (Mx_bytes : Nat → Int32), f_Mixer_init_35 (f_Mixer_init_19 n19) n35 x1 x2 x3 Mx_bytes = some Mx_bytes' → ∀ (H : Heap) (locs : List Loc), va_P D classes ([(qMx, .inr (4, [.ref qMx_bytes])), (qMx_bytes, .inl (cI, 250, .inl Mx_bytes))]) H → va_D A ([(qMx, .inr (4, [.ref qMx_bytes])), (qMx_bytes, .inl (cI, 250, .inl Mx_bytes))]) → va_S A s.heap H locs → ∀ (ls : Array Slot), lv_has ls 4 [(0, .ref qMx), (1, .int x1), (2, .int x2), (3, .int x3)] → W p l e (RC 1 1 250 20) s m args below meth c H locs 1 250 Q0 (F0 m 35 ls []) := by
        intro n35
        induction n35 with
        | zero => intro x1 x2 x3 Mx_bytes hm; cases hm
        | succ n35 ih35 =>
          intro x1 x2 x3 Mx_bytes hm H locs hP hD hS ls hl
          replace hm : f_Mixer_init_35_b (f_Mixer_init_19 n19) (f_Mixer_init_35 (f_Mixer_init_19 n19) n35) x1 x2 x3 Mx_bytes = some Mx_bytes' := hm
          unfold f_Mixer_init_35_b at hm
          refine lv_iload_n hx hb d_Mixer_init_35 rfl (lv_at hl 3 rfl) ?_
          refine lv_bipush (v := (8 : Int32)) hx hb d_Mixer_init_36 (by decide) ?_
          refine z_if hm (lv_icmp_ge (tgt := 66) hx hb d_Mixer_init_38 (by decide)) (fun hm => ?_) (fun hm => ?_)
          · exact T66 x1 x2 Mx_bytes hm _ _ hP hD hS _ (lv_sub hl [0, 1, 2] rfl)
          · refine lv_iload_n hx hb d_Mixer_init_41 rfl (lv_at hl 1 rfl) ?_
            refine lv_iconst (v := (1 : Int32)) hx hb d_Mixer_init_42 (by decide) ?_
            refine lv_ishl hx hb d_Mixer_init_43 ?_
            refine lv_sipush (v := (255 : Int32)) hx hb d_Mixer_init_44 (by decide) ?_
            refine lv_iand hx hb d_Mixer_init_47 ?_
            refine lv_iload_n hx hb d_Mixer_init_48 rfl (lv_at hl 1 rfl) ?_
            refine lv_sipush (v := (149 : Int32)) hx hb d_Mixer_init_49 (by decide) ?_
            refine lv_iand hx hb d_Mixer_init_52 ?_
            obtain ⟨r2, hu, hm⟩ := bd_el hm
            replace hm := nm_1 hm
            refine z_cSi (wc := w_Integer_bitCount) (wc' := w_Integer_bitCount) (wr := [(qMx, .inr (4, [.ref qMx_bytes])), (qMx_bytes, .inl (cI, 250, .inl Mx_bytes))]) (As := [.int (x1 &&& (149 : Int32))]) (rest := [.int ((x1 <<< ((1 : Int32) &&& 31)) &&& (255 : Int32))]) (c_Integer_bitCount l D cI cJ tt _ (x1 &&& (149 : Int32)) r2 hu) F ok_Integer_bitCount k_196 hK hE hP hD hS hA [] [0, 1] rfl rfl (by decide) (by decide) (by decide) ⟨rfl, rfl, Nat.le_of_ble_eq_true rfl, Nat.le_of_ble_eq_true rfl⟩ ⟨Nat.le_of_ble_eq_true rfl, Nat.le_of_ble_eq_true rfl⟩ rfl hl.1 rfl (Nat.le_of_ble_eq_true rfl) d_Mixer_init_53 (fun H locs hP hD hS => ?_)
            have hP : va_P D classes ([(qMx, .inr (4, [.ref qMx_bytes])), (qMx_bytes, .inl (cI, 250, .inl Mx_bytes))]) H := hP.sub [0, 1] rfl
            have hD : va_D A ([(qMx, .inr (4, [.ref qMx_bytes])), (qMx_bytes, .inl (cI, 250, .inl Mx_bytes))]) := hD.sub [0, 1] (by decide) rfl
            refine lv_iconst (v := (1 : Int32)) hx hb d_Mixer_init_56 (by decide) ?_
            refine lv_iand hx hb d_Mixer_init_57 ?_
            refine lv_ior hx hb d_Mixer_init_58 ?_
            refine z_nmi hm (fun v4 hm => ?_)
            refine lv_istore_n (lv' := [(1, .int v4), (0, .ref qMx), (2, .int x2), (3, .int x3)]) hx hb d_Mixer_init_59 rfl hl (by decide) rfl (fun ls hl => ?_)
            obtain ⟨v5, ev, hm⟩ := nm_el hm
            refine lv_iinc (v := v5) (lv' := [(3, .int v5), (1, .int v4), (0, .ref qMx), (2, .int x2)]) hx hb d_Mixer_init_60 hl (k := 3) rfl (by rw [ev]; rfl) (by decide) rfl (fun ls hl => ?_)
            refine lv_goto (tgt := 35) hx hb d_Mixer_init_63 (by decide) ?_
            exact ih35 v4 x2 v5 Mx_bytes hm _ _ hP hD hS _ (lv_sub hl [2, 1, 3, 0] rfl)
      intro x1 x2 Mx_bytes hm H locs hP hD hS ls hl
      replace hm : f_Mixer_init_19_b (f_Mixer_init_19 n19) x1 x2 Mx_bytes = some Mx_bytes' := hm
      unfold f_Mixer_init_19_b at hm
      refine lv_iload_n hx hb d_Mixer_init_19 rfl (lv_at hl 2 rfl) ?_
      refine lv_sipush (v := (250 : Int32)) hx hb d_Mixer_init_20 (by decide) ?_
      refine z_if hm (lv_icmp_ge (tgt := 72) hx hb d_Mixer_init_23 (by decide)) (fun hm => ?_) (fun hm => ?_)
      · cases hm
        exact z_qo hQ (z_vretC (fun k => [qMx_bytes].getD k 0) hr hx hb hlocks hK hP hD hS d_Mixer_init_72)
      · refine lv_aload_n hx hb d_Mixer_init_26 rfl (lv_at hl 0 rfl) ?_
        refine va_get (D := D) (ci := 4) (v := .ref qMx_bytes) (C := "DeepChannel$Mixer") (T := fT_Mixer) (N := 1) hx hb hts u_Mixer hown hK hP 0 rfl rfl 0 (by decide) (hts _ k_202) (fun _ h9 => h9) rfl d_Mixer_init_27 ?_
        refine lv_iload_n hx hb d_Mixer_init_30 rfl (lv_at hl 2 rfl) ?_
        refine lv_iload_n hx hb d_Mixer_init_31 rfl (lv_at hl 1 rfl) ?_
        refine z_iast hm hx hb hK hP hD hS 1 rfl d_Mixer_init_32 (fun g6 hm H locs hP hD hS => ?_)
        have hP : va_P D classes ([(qMx, .inr (4, [.ref qMx_bytes])), (qMx_bytes, .inl (cI, 250, .inl g6))]) H := hP
        have hD : va_D A ([(qMx, .inr (4, [.ref qMx_bytes])), (qMx_bytes, .inl (cI, 250, .inl g6))]) := hD
        refine lv_iconst (v := (0 : Int32)) hx hb d_Mixer_init_33 (by decide) ?_
        refine lv_istore_n (lv' := [(3, .int (0 : Int32)), (0, .ref qMx), (1, .int x1), (2, .int x2)]) hx hb d_Mixer_init_34 rfl hl (by decide) rfl (fun ls hl => ?_)
        exact T35 10000 x1 x2 (0 : Int32) g6 hm _ _ hP hD hS _ (lv_sub hl [1, 2, 3, 0] rfl)
  exact T19 10000 (255 : Int32) (0 : Int32) (fun _ => (0 : Int32)) hm _ _ hP hD hS _ (lv_sub hl [2, 1, 0] rfl)
