-- DeepChannel$Shape.exists(IIII)Z
abbrev b_Shape_exists : ByteArray := prog_10_method_2_code
abbrev y_Shape_exists : MethodName := ⟨"DeepChannel$Shape", "exists", "(IIII)Z"⟩
theorem d_Shape_exists_0 : decode b_Shape_exists 0 = .ok (.iload_n 0, 1) := by decide +kernel
theorem d_Shape_exists_1 : decode b_Shape_exists 1 = .ok (.iconst 1, 1) := by decide +kernel
theorem d_Shape_exists_2 : decode b_Shape_exists 2 = .ok (.if_icmp .lt 8, 3) := by decide +kernel
theorem d_Shape_exists_5 : decode b_Shape_exists 5 = .ok (.iload_n 0, 1) := by decide +kernel
theorem d_Shape_exists_6 : decode b_Shape_exists 6 = .ok (.iconst 5, 1) := by decide +kernel
theorem d_Shape_exists_7 : decode b_Shape_exists 7 = .ok (.if_icmp .le 9, 3) := by decide +kernel
theorem d_Shape_exists_10 : decode b_Shape_exists 10 = .ok (.iload_n 0, 1) := by decide +kernel
theorem d_Shape_exists_11 : decode b_Shape_exists 11 = .ok (.bipush 8, 2) := by decide +kernel
theorem d_Shape_exists_13 : decode b_Shape_exists 13 = .ok (.if_icmp .ne 7, 3) := by decide +kernel
theorem d_Shape_exists_16 : decode b_Shape_exists 16 = .ok (.iconst 1, 1) := by decide +kernel
theorem d_Shape_exists_17 : decode b_Shape_exists 17 = .ok (.goto 4, 3) := by decide +kernel
theorem d_Shape_exists_20 : decode b_Shape_exists 20 = .ok (.iconst 0, 1) := by decide +kernel
theorem d_Shape_exists_21 : decode b_Shape_exists 21 = .ok (.istore 4, 2) := by decide +kernel
theorem d_Shape_exists_23 : decode b_Shape_exists 23 = .ok (.iload_n 1, 1) := by decide +kernel
theorem d_Shape_exists_24 : decode b_Shape_exists 24 = .ok (.ifCond .lt 14, 3) := by decide +kernel
theorem d_Shape_exists_27 : decode b_Shape_exists 27 = .ok (.iload_n 1, 1) := by decide +kernel
theorem d_Shape_exists_28 : decode b_Shape_exists 28 = .ok (.sipush 250, 3) := by decide +kernel
theorem d_Shape_exists_31 : decode b_Shape_exists 31 = .ok (.if_icmp .gt 7, 3) := by decide +kernel
theorem d_Shape_exists_34 : decode b_Shape_exists 34 = .ok (.iconst 1, 1) := by decide +kernel
theorem d_Shape_exists_35 : decode b_Shape_exists 35 = .ok (.goto 4, 3) := by decide +kernel
theorem d_Shape_exists_38 : decode b_Shape_exists 38 = .ok (.iconst 0, 1) := by decide +kernel
theorem d_Shape_exists_39 : decode b_Shape_exists 39 = .ok (.istore 5, 2) := by decide +kernel
theorem d_Shape_exists_41 : decode b_Shape_exists 41 = .ok (.iload_n 2, 1) := by decide +kernel
theorem d_Shape_exists_42 : decode b_Shape_exists 42 = .ok (.bipush 8, 2) := by decide +kernel
theorem d_Shape_exists_44 : decode b_Shape_exists 44 = .ok (.if_icmp .eq 9, 3) := by decide +kernel
theorem d_Shape_exists_47 : decode b_Shape_exists 47 = .ok (.iload_n 2, 1) := by decide +kernel
theorem d_Shape_exists_48 : decode b_Shape_exists 48 = .ok (.bipush 16, 2) := by decide +kernel
theorem d_Shape_exists_50 : decode b_Shape_exists 50 = .ok (.if_icmp .ne 7, 3) := by decide +kernel
theorem d_Shape_exists_53 : decode b_Shape_exists 53 = .ok (.iconst 1, 1) := by decide +kernel
theorem d_Shape_exists_54 : decode b_Shape_exists 54 = .ok (.goto 4, 3) := by decide +kernel
theorem d_Shape_exists_57 : decode b_Shape_exists 57 = .ok (.iconst 0, 1) := by decide +kernel
theorem d_Shape_exists_58 : decode b_Shape_exists 58 = .ok (.istore 6, 2) := by decide +kernel
theorem d_Shape_exists_60 : decode b_Shape_exists 60 = .ok (.iload 4, 2) := by decide +kernel
theorem d_Shape_exists_62 : decode b_Shape_exists 62 = .ok (.ifCond .eq 22, 3) := by decide +kernel
theorem d_Shape_exists_65 : decode b_Shape_exists 65 = .ok (.iload 5, 2) := by decide +kernel
theorem d_Shape_exists_67 : decode b_Shape_exists 67 = .ok (.ifCond .eq 17, 3) := by decide +kernel
theorem d_Shape_exists_70 : decode b_Shape_exists 70 = .ok (.iload 6, 2) := by decide +kernel
theorem d_Shape_exists_72 : decode b_Shape_exists 72 = .ok (.ifCond .eq 12, 3) := by decide +kernel
theorem d_Shape_exists_75 : decode b_Shape_exists 75 = .ok (.iload_n 3, 1) := by decide +kernel
theorem d_Shape_exists_76 : decode b_Shape_exists 76 = .ok (.ifCond .lt 8, 3) := by decide +kernel
theorem d_Shape_exists_79 : decode b_Shape_exists 79 = .ok (.iload_n 3, 1) := by decide +kernel
theorem d_Shape_exists_80 : decode b_Shape_exists 80 = .ok (.iconst 4, 1) := by decide +kernel
theorem d_Shape_exists_81 : decode b_Shape_exists 81 = .ok (.if_icmp .le 5, 3) := by decide +kernel
theorem d_Shape_exists_84 : decode b_Shape_exists 84 = .ok (.iconst 0, 1) := by decide +kernel
theorem d_Shape_exists_85 : decode b_Shape_exists 85 = .ok (.ireturn, 1) := by decide +kernel
theorem d_Shape_exists_86 : decode b_Shape_exists 86 = .ok (.sipush 255, 3) := by decide +kernel
theorem d_Shape_exists_89 : decode b_Shape_exists 89 = .ok (.iload_n 1, 1) := by decide +kernel
theorem d_Shape_exists_90 : decode b_Shape_exists 90 = .ok (.isub, 1) := by decide +kernel
theorem d_Shape_exists_91 : decode b_Shape_exists 91 = .ok (.istore 7, 2) := by decide +kernel
theorem d_Shape_exists_93 : decode b_Shape_exists 93 = .ok (.iload 7, 2) := by decide +kernel
theorem d_Shape_exists_95 : decode b_Shape_exists 95 = .ok (.iconst 2, 1) := by decide +kernel
theorem d_Shape_exists_96 : decode b_Shape_exists 96 = .ok (.iload_n 2, 1) := by decide +kernel
theorem d_Shape_exists_97 : decode b_Shape_exists 97 = .ok (.imul, 1) := by decide +kernel
theorem d_Shape_exists_98 : decode b_Shape_exists 98 = .ok (.if_icmp .le 30, 3) := by decide +kernel
theorem d_Shape_exists_101 : decode b_Shape_exists 101 = .ok (.iload_n 0, 1) := by decide +kernel
theorem d_Shape_exists_102 : decode b_Shape_exists 102 = .ok (.iload 7, 2) := by decide +kernel
theorem d_Shape_exists_104 : decode b_Shape_exists 104 = .ok (.iconst 2, 1) := by decide +kernel
theorem d_Shape_exists_105 : decode b_Shape_exists 105 = .ok (.iload_n 2, 1) := by decide +kernel
theorem d_Shape_exists_106 : decode b_Shape_exists 106 = .ok (.imul, 1) := by decide +kernel
theorem d_Shape_exists_107 : decode b_Shape_exists 107 = .ok (.isub, 1) := by decide +kernel
theorem d_Shape_exists_108 : decode b_Shape_exists 108 = .ok (.imul, 1) := by decide +kernel
theorem d_Shape_exists_109 : decode b_Shape_exists 109 = .ok (.bipush 8, 2) := by decide +kernel
theorem d_Shape_exists_111 : decode b_Shape_exists 111 = .ok (.if_icmp .le 17, 3) := by decide +kernel
theorem d_Shape_exists_114 : decode b_Shape_exists 114 = .ok (.iload_n 0, 1) := by decide +kernel
theorem d_Shape_exists_115 : decode b_Shape_exists 115 = .ok (.iload 7, 2) := by decide +kernel
theorem d_Shape_exists_117 : decode b_Shape_exists 117 = .ok (.imul, 1) := by decide +kernel
theorem d_Shape_exists_118 : decode b_Shape_exists 118 = .ok (.sipush 250, 3) := by decide +kernel
theorem d_Shape_exists_121 : decode b_Shape_exists 121 = .ok (.if_icmp .gt 7, 3) := by decide +kernel
theorem d_Shape_exists_124 : decode b_Shape_exists 124 = .ok (.iconst 1, 1) := by decide +kernel
theorem d_Shape_exists_125 : decode b_Shape_exists 125 = .ok (.goto 4, 3) := by decide +kernel
theorem d_Shape_exists_128 : decode b_Shape_exists 128 = .ok (.iconst 0, 1) := by decide +kernel
theorem d_Shape_exists_129 : decode b_Shape_exists 129 = .ok (.ireturn, 1) := by decide +kernel
theorem ok_Shape_exists : OKs y_Shape_exists b_Shape_exists 8 (some .boolean) 4 := ⟨k_403, k_402, k_43, by decide +kernel, by decide +kernel, by decide +kernel⟩
abbrev w_Shape_exists  : va_W := []
def f_Shape_exists_58  (x0 : Int32) (x1 : Int32) (x2 : Int32) (x3 : Int32) (x4 : Int32) (x5 : Int32) (t0 : Int32) : Option (Int32) :=
  if x4 = 0 then
    zb (0 : Int32) <|
    some (0 : Int32)
  else
  if x5 = 0 then
    zb (0 : Int32) <|
    some (0 : Int32)
  else
  if t0 = 0 then
    zb (0 : Int32) <|
    some (0 : Int32)
  else
  if x3 < 0 then
    zb (0 : Int32) <|
    some (0 : Int32)
  else
  if x3 ≤ (4 : Int32) then
    nm ((255 : Int32) - x1) fun v1 =>
    if v1 ≤ ((2 : Int32) * x2) then
      zb (0 : Int32) <|
      some (0 : Int32)
    else
    if (x0 * (v1 - ((2 : Int32) * x2))) ≤ (8 : Int32) then
      zb (0 : Int32) <|
      some (0 : Int32)
    else
    if (250 : Int32) < (x0 * v1) then
      zb (0 : Int32) <|
      some (0 : Int32)
    else
    zb (1 : Int32) <|
    some (1 : Int32)
  else
  zb (0 : Int32) <|
  some (0 : Int32)
def f_Shape_exists_53  (x0 : Int32) (x1 : Int32) (x2 : Int32) (x3 : Int32) (x4 : Int32) (x5 : Int32) : Option (Int32) :=
  f_Shape_exists_58 x0 x1 x2 x3 x4 x5 (1 : Int32)
def f_Shape_exists_39  (x0 : Int32) (x1 : Int32) (x2 : Int32) (x3 : Int32) (x4 : Int32) (t0 : Int32) : Option (Int32) :=
  if x2 = (8 : Int32) then
    f_Shape_exists_53 x0 x1 x2 x3 x4 t0
  else
  if x2 = (16 : Int32) then
    f_Shape_exists_53 x0 x1 x2 x3 x4 t0
  else
  f_Shape_exists_58 x0 x1 x2 x3 x4 t0 (0 : Int32)
def f_Shape_exists_38  (x0 : Int32) (x1 : Int32) (x2 : Int32) (x3 : Int32) (x4 : Int32) : Option (Int32) :=
  f_Shape_exists_39 x0 x1 x2 x3 x4 (0 : Int32)
def f_Shape_exists_21  (x0 : Int32) (x1 : Int32) (x2 : Int32) (x3 : Int32) (t0 : Int32) : Option (Int32) :=
  if x1 < 0 then
    f_Shape_exists_38 x0 x1 x2 x3 t0
  else
  if (250 : Int32) < x1 then
    f_Shape_exists_38 x0 x1 x2 x3 t0
  else
  f_Shape_exists_39 x0 x1 x2 x3 t0 (1 : Int32)
def f_Shape_exists_16  (x0 : Int32) (x1 : Int32) (x2 : Int32) (x3 : Int32) : Option (Int32) :=
  f_Shape_exists_21 x0 x1 x2 x3 (1 : Int32)
def f_Shape_exists_10  (x0 : Int32) (x1 : Int32) (x2 : Int32) (x3 : Int32) : Option (Int32) :=
  if x0 = (8 : Int32) then
    f_Shape_exists_16 x0 x1 x2 x3
  else
  f_Shape_exists_21 x0 x1 x2 x3 (0 : Int32)
def f_Shape_exists (x0 : Int32) (x1 : Int32) (x2 : Int32) (x3 : Int32) : Option (Int32) :=
  if x0 < (1 : Int32) then
    f_Shape_exists_10 x0 x1 x2 x3
  else
  if x0 ≤ (5 : Int32) then
    f_Shape_exists_16 x0 x1 x2 x3
  else
  f_Shape_exists_10 x0 x1 x2 x3
set_option maxHeartbeats 4000000 in
set_option maxRecDepth 100000 in
theorem c_Shape_exists (l : Launch) (D : va_G) (cI cJ : ClassId) (tt : Nat → Nat) (sz : Nat) (x0 : Int32) (x1 : Int32) (x2 : Int32) (x3 : Int32) (rr : Int32) (hm : f_Shape_exists x0 x1 x2 x3 = some rr) : CTi l y_Shape_exists b_Shape_exists 8 (some .boolean) (RM 0 0) D cI cJ tt [.int x0, .int x1, .int x2, .int x3] (w_Shape_exists) (w_Shape_exists) sz rr := by
  refine Met.ofW (cc := b_Shape_exists) (maxL := 8) (ret := (some .boolean)) (by decide) rfl ?_
  intro p e s m args below meth c s₁ B hml hv
  obtain ⟨hargs, hsz, hP, hK, hD0, hE⟩ := hv
  have hx := B.exec
  have hb := B.bytes
  have hr := B.returns
  have hts : ∀ w ∈ TB, w.before args s = true := z_mV s (atoms_spec (ws := WD y_Shape_exists b_Shape_exists 8 (some .boolean)) B.pre)
  have hown : s.vm.findClass "DeepChannel$Shape" = some m.cls := findClass_of_methodNamed B.named
  have hlocks := B.notSynchronized
  subst hsz
  have hD := hD0.self (sz := s.heap.size)
  generalize hAe : va_A (w_Shape_exists) s.heap.size = A at hD hE ⊢
  have hA : ∀ q : Nat, s.heap.size ≤ q → A q := fun q h => by rw [← hAe]; exact Or.inr h
  have hS : va_S A s.heap s.heap [] := va_S.rf
  refine z_entry (vs := [.int x0, .int x1, .int x2, .int x3]) hargs (Nat.le_of_ble_eq_true rfl) (fun ls hl => ?_)
  have hl : lv_has ls 8 [(0, .int x0), (1, .int x1), (2, .int x2), (3, .int x3)] := hl
  show W p l e (RM 0 0) s m args below meth c s.heap [] 0 0 _ _
  refine z_qi (fun Q0 hQ => ?_)
  have F : CallFix p m c b_Shape_exists 8 s args TB "DeepChannel$Shape" := ⟨hx, hb, hml, hown, hts⟩
  have T58 : ∀ (x0 : Int32) (x1 : Int32) (x2 : Int32) (x3 : Int32) (x4 : Int32) (x5 : Int32) (t0 : Int32), f_Shape_exists_58 x0 x1 x2 x3 x4 x5 t0 = some rr → ∀ (H : Heap) (locs : List Loc), va_P D classes (w_Shape_exists) H → va_D A (w_Shape_exists) → va_S A s.heap H locs → ∀ (ls : Array Slot), lv_has ls 8 [(0, .int x0), (1, .int x1), (2, .int x2), (3, .int x3), (4, .int x4), (5, .int x5)] → W p l e (RM 0 0) s m args below meth c H locs 0 0 Q0 (F0 m 58 ls [.int t0]) := by
    intro x0 x1 x2 x3 x4 x5 t0 hm H locs hP hD hS ls hl
    unfold f_Shape_exists_58 at hm
    refine lv_istore (lv' := [(6, .int t0), (0, .int x0), (1, .int x1), (2, .int x2), (3, .int x3), (4, .int x4), (5, .int x5)]) hx hb d_Shape_exists_58 hl (by decide) rfl (fun ls hl => ?_)
    refine lv_iload hx hb d_Shape_exists_60 (lv_at hl 5 rfl) ?_
    refine z_if hm (lv_if_eq (tgt := 84) hx hb d_Shape_exists_62 (by decide)) (fun hm => ?_) (fun hm => ?_)
    · refine lv_iconst (v := (0 : Int32)) hx hb d_Shape_exists_84 (by decide) ?_
      obtain ⟨hz, hm⟩ := zb_el hm
      cases hm
      exact z_qo hQ (z_iretz hz hr hx hb hlocks hK hP hD hS d_Shape_exists_85)
    · refine lv_iload hx hb d_Shape_exists_65 (lv_at hl 6 rfl) ?_
      refine z_if hm (lv_if_eq (tgt := 84) hx hb d_Shape_exists_67 (by decide)) (fun hm => ?_) (fun hm => ?_)
      · refine lv_iconst (v := (0 : Int32)) hx hb d_Shape_exists_84 (by decide) ?_
        obtain ⟨hz, hm⟩ := zb_el hm
        cases hm
        exact z_qo hQ (z_iretz hz hr hx hb hlocks hK hP hD hS d_Shape_exists_85)
      · refine lv_iload hx hb d_Shape_exists_70 (lv_at hl 0 rfl) ?_
        refine z_if hm (lv_if_eq (tgt := 84) hx hb d_Shape_exists_72 (by decide)) (fun hm => ?_) (fun hm => ?_)
        · refine lv_iconst (v := (0 : Int32)) hx hb d_Shape_exists_84 (by decide) ?_
          obtain ⟨hz, hm⟩ := zb_el hm
          cases hm
          exact z_qo hQ (z_iretz hz hr hx hb hlocks hK hP hD hS d_Shape_exists_85)
        · refine lv_iload_n hx hb d_Shape_exists_75 rfl (lv_at hl 4 rfl) ?_
          refine z_if hm (lv_if_lt (tgt := 84) hx hb d_Shape_exists_76 (by decide)) (fun hm => ?_) (fun hm => ?_)
          · refine lv_iconst (v := (0 : Int32)) hx hb d_Shape_exists_84 (by decide) ?_
            obtain ⟨hz, hm⟩ := zb_el hm
            cases hm
            exact z_qo hQ (z_iretz hz hr hx hb hlocks hK hP hD hS d_Shape_exists_85)
          · refine lv_iload_n hx hb d_Shape_exists_79 rfl (lv_at hl 4 rfl) ?_
            refine lv_iconst (v := (4 : Int32)) hx hb d_Shape_exists_80 (by decide) ?_
            refine z_if hm (lv_icmp_le (tgt := 86) hx hb d_Shape_exists_81 (by decide)) (fun hm => ?_) (fun hm => ?_)
            · refine lv_sipush (v := (255 : Int32)) hx hb d_Shape_exists_86 (by decide) ?_
              refine lv_iload_n hx hb d_Shape_exists_89 rfl (lv_at hl 2 rfl) ?_
              refine lv_isub hx hb d_Shape_exists_90 ?_
              refine z_nmi hm (fun v1 hm => ?_)
              refine lv_istore (lv' := [(7, .int v1), (6, .int t0), (0, .int x0), (1, .int x1), (2, .int x2), (3, .int x3), (4, .int x4), (5, .int x5)]) hx hb d_Shape_exists_91 hl (by decide) rfl (fun ls hl => ?_)
              refine lv_iload hx hb d_Shape_exists_93 (lv_at hl 0 rfl) ?_
              refine lv_iconst (v := (2 : Int32)) hx hb d_Shape_exists_95 (by decide) ?_
              refine lv_iload_n hx hb d_Shape_exists_96 rfl (lv_at hl 4 rfl) ?_
              refine lv_imul hx hb d_Shape_exists_97 ?_
              refine z_if hm (lv_icmp_le (tgt := 128) hx hb d_Shape_exists_98 (by decide)) (fun hm => ?_) (fun hm => ?_)
              · refine lv_iconst (v := (0 : Int32)) hx hb d_Shape_exists_128 (by decide) ?_
                obtain ⟨hz, hm⟩ := zb_el hm
                cases hm
                exact z_qo hQ (z_iretz hz hr hx hb hlocks hK hP hD hS d_Shape_exists_129)
              · refine lv_iload_n hx hb d_Shape_exists_101 rfl (lv_at hl 2 rfl) ?_
                refine lv_iload hx hb d_Shape_exists_102 (lv_at hl 0 rfl) ?_
                refine lv_iconst (v := (2 : Int32)) hx hb d_Shape_exists_104 (by decide) ?_
                refine lv_iload_n hx hb d_Shape_exists_105 rfl (lv_at hl 4 rfl) ?_
                refine lv_imul hx hb d_Shape_exists_106 ?_
                refine lv_isub hx hb d_Shape_exists_107 ?_
                refine lv_imul hx hb d_Shape_exists_108 ?_
                refine lv_bipush (v := (8 : Int32)) hx hb d_Shape_exists_109 (by decide) ?_
                refine z_if hm (lv_icmp_le (tgt := 128) hx hb d_Shape_exists_111 (by decide)) (fun hm => ?_) (fun hm => ?_)
                · refine lv_iconst (v := (0 : Int32)) hx hb d_Shape_exists_128 (by decide) ?_
                  obtain ⟨hz, hm⟩ := zb_el hm
                  cases hm
                  exact z_qo hQ (z_iretz hz hr hx hb hlocks hK hP hD hS d_Shape_exists_129)
                · refine lv_iload_n hx hb d_Shape_exists_114 rfl (lv_at hl 2 rfl) ?_
                  refine lv_iload hx hb d_Shape_exists_115 (lv_at hl 0 rfl) ?_
                  refine lv_imul hx hb d_Shape_exists_117 ?_
                  refine lv_sipush (v := (250 : Int32)) hx hb d_Shape_exists_118 (by decide) ?_
                  refine z_if hm (lv_icmp_gt (tgt := 128) hx hb d_Shape_exists_121 (by decide)) (fun hm => ?_) (fun hm => ?_)
                  · refine lv_iconst (v := (0 : Int32)) hx hb d_Shape_exists_128 (by decide) ?_
                    obtain ⟨hz, hm⟩ := zb_el hm
                    cases hm
                    exact z_qo hQ (z_iretz hz hr hx hb hlocks hK hP hD hS d_Shape_exists_129)
                  · refine lv_iconst (v := (1 : Int32)) hx hb d_Shape_exists_124 (by decide) ?_
                    refine lv_goto (tgt := 129) hx hb d_Shape_exists_125 (by decide) ?_
                    obtain ⟨hz, hm⟩ := zb_el hm
                    cases hm
                    exact z_qo hQ (z_iretz hz hr hx hb hlocks hK hP hD hS d_Shape_exists_129)
            · refine lv_iconst (v := (0 : Int32)) hx hb d_Shape_exists_84 (by decide) ?_
              obtain ⟨hz, hm⟩ := zb_el hm
              cases hm
              exact z_qo hQ (z_iretz hz hr hx hb hlocks hK hP hD hS d_Shape_exists_85)
  have T53 : ∀ (x0 : Int32) (x1 : Int32) (x2 : Int32) (x3 : Int32) (x4 : Int32) (x5 : Int32), f_Shape_exists_53 x0 x1 x2 x3 x4 x5 = some rr → ∀ (H : Heap) (locs : List Loc), va_P D classes (w_Shape_exists) H → va_D A (w_Shape_exists) → va_S A s.heap H locs → ∀ (ls : Array Slot), lv_has ls 8 [(0, .int x0), (1, .int x1), (2, .int x2), (3, .int x3), (4, .int x4), (5, .int x5)] → W p l e (RM 0 0) s m args below meth c H locs 0 0 Q0 (F0 m 53 ls []) := by
    intro x0 x1 x2 x3 x4 x5 hm H locs hP hD hS ls hl
    unfold f_Shape_exists_53 at hm
    refine lv_iconst (v := (1 : Int32)) hx hb d_Shape_exists_53 (by decide) ?_
    refine lv_goto (tgt := 58) hx hb d_Shape_exists_54 (by decide) ?_
    exact T58 x0 x1 x2 x3 x4 x5 (1 : Int32) hm _ _ hP hD hS _ (lv_sub hl [0, 1, 2, 3, 4, 5] rfl)
  have T39 : ∀ (x0 : Int32) (x1 : Int32) (x2 : Int32) (x3 : Int32) (x4 : Int32) (t0 : Int32), f_Shape_exists_39 x0 x1 x2 x3 x4 t0 = some rr → ∀ (H : Heap) (locs : List Loc), va_P D classes (w_Shape_exists) H → va_D A (w_Shape_exists) → va_S A s.heap H locs → ∀ (ls : Array Slot), lv_has ls 8 [(0, .int x0), (1, .int x1), (2, .int x2), (3, .int x3), (4, .int x4)] → W p l e (RM 0 0) s m args below meth c H locs 0 0 Q0 (F0 m 39 ls [.int t0]) := by
    intro x0 x1 x2 x3 x4 t0 hm H locs hP hD hS ls hl
    unfold f_Shape_exists_39 at hm
    refine lv_istore (lv' := [(5, .int t0), (0, .int x0), (1, .int x1), (2, .int x2), (3, .int x3), (4, .int x4)]) hx hb d_Shape_exists_39 hl (by decide) rfl (fun ls hl => ?_)
    refine lv_iload_n hx hb d_Shape_exists_41 rfl (lv_at hl 3 rfl) ?_
    refine lv_bipush (v := (8 : Int32)) hx hb d_Shape_exists_42 (by decide) ?_
    refine z_if hm (lv_icmp_eq (tgt := 53) hx hb d_Shape_exists_44 (by decide)) (fun hm => ?_) (fun hm => ?_)
    · exact T53 x0 x1 x2 x3 x4 t0 hm _ _ hP hD hS _ (lv_sub hl [1, 2, 3, 4, 5, 0] rfl)
    · refine lv_iload_n hx hb d_Shape_exists_47 rfl (lv_at hl 3 rfl) ?_
      refine lv_bipush (v := (16 : Int32)) hx hb d_Shape_exists_48 (by decide) ?_
      refine z_ifn hm (lv_icmp_ne (tgt := 57) hx hb d_Shape_exists_50 (by decide)) (fun hm => ?_) (fun hm => ?_)
      · exact T53 x0 x1 x2 x3 x4 t0 hm _ _ hP hD hS _ (lv_sub hl [1, 2, 3, 4, 5, 0] rfl)
      · refine lv_iconst (v := (0 : Int32)) hx hb d_Shape_exists_57 (by decide) ?_
        exact T58 x0 x1 x2 x3 x4 t0 (0 : Int32) hm _ _ hP hD hS _ (lv_sub hl [1, 2, 3, 4, 5, 0] rfl)
  have T38 : ∀ (x0 : Int32) (x1 : Int32) (x2 : Int32) (x3 : Int32) (x4 : Int32), f_Shape_exists_38 x0 x1 x2 x3 x4 = some rr → ∀ (H : Heap) (locs : List Loc), va_P D classes (w_Shape_exists) H → va_D A (w_Shape_exists) → va_S A s.heap H locs → ∀ (ls : Array Slot), lv_has ls 8 [(0, .int x0), (1, .int x1), (2, .int x2), (3, .int x3), (4, .int x4)] → W p l e (RM 0 0) s m args below meth c H locs 0 0 Q0 (F0 m 38 ls []) := by
    intro x0 x1 x2 x3 x4 hm H locs hP hD hS ls hl
    unfold f_Shape_exists_38 at hm
    refine lv_iconst (v := (0 : Int32)) hx hb d_Shape_exists_38 (by decide) ?_
    exact T39 x0 x1 x2 x3 x4 (0 : Int32) hm _ _ hP hD hS _ (lv_sub hl [0, 1, 2, 3, 4] rfl)
  have T21 : ∀ (x0 : Int32) (x1 : Int32) (x2 : Int32) (x3 : Int32) (t0 : Int32), f_Shape_exists_21 x0 x1 x2 x3 t0 = some rr → ∀ (H : Heap) (locs : List Loc), va_P D classes (w_Shape_exists) H → va_D A (w_Shape_exists) → va_S A s.heap H locs → ∀ (ls : Array Slot), lv_has ls 8 [(0, .int x0), (1, .int x1), (2, .int x2), (3, .int x3)] → W p l e (RM 0 0) s m args below meth c H locs 0 0 Q0 (F0 m 21 ls [.int t0]) := by
    intro x0 x1 x2 x3 t0 hm H locs hP hD hS ls hl
    unfold f_Shape_exists_21 at hm
    refine lv_istore (lv' := [(4, .int t0), (0, .int x0), (1, .int x1), (2, .int x2), (3, .int x3)]) hx hb d_Shape_exists_21 hl (by decide) rfl (fun ls hl => ?_)
    refine lv_iload_n hx hb d_Shape_exists_23 rfl (lv_at hl 2 rfl) ?_
    refine z_if hm (lv_if_lt (tgt := 38) hx hb d_Shape_exists_24 (by decide)) (fun hm => ?_) (fun hm => ?_)
    · exact T38 x0 x1 x2 x3 t0 hm _ _ hP hD hS _ (lv_sub hl [1, 2, 3, 4, 0] rfl)
    · refine lv_iload_n hx hb d_Shape_exists_27 rfl (lv_at hl 2 rfl) ?_
      refine lv_sipush (v := (250 : Int32)) hx hb d_Shape_exists_28 (by decide) ?_
      refine z_if hm (lv_icmp_gt (tgt := 38) hx hb d_Shape_exists_31 (by decide)) (fun hm => ?_) (fun hm => ?_)
      · exact T38 x0 x1 x2 x3 t0 hm _ _ hP hD hS _ (lv_sub hl [1, 2, 3, 4, 0] rfl)
      · refine lv_iconst (v := (1 : Int32)) hx hb d_Shape_exists_34 (by decide) ?_
        refine lv_goto (tgt := 39) hx hb d_Shape_exists_35 (by decide) ?_
        exact T39 x0 x1 x2 x3 t0 (1 : Int32) hm _ _ hP hD hS _ (lv_sub hl [1, 2, 3, 4, 0] rfl)
  have T16 : ∀ (x0 : Int32) (x1 : Int32) (x2 : Int32) (x3 : Int32), f_Shape_exists_16 x0 x1 x2 x3 = some rr → ∀ (H : Heap) (locs : List Loc), va_P D classes (w_Shape_exists) H → va_D A (w_Shape_exists) → va_S A s.heap H locs → ∀ (ls : Array Slot), lv_has ls 8 [(0, .int x0), (1, .int x1), (2, .int x2), (3, .int x3)] → W p l e (RM 0 0) s m args below meth c H locs 0 0 Q0 (F0 m 16 ls []) := by
    intro x0 x1 x2 x3 hm H locs hP hD hS ls hl
    unfold f_Shape_exists_16 at hm
    refine lv_iconst (v := (1 : Int32)) hx hb d_Shape_exists_16 (by decide) ?_
    refine lv_goto (tgt := 21) hx hb d_Shape_exists_17 (by decide) ?_
    exact T21 x0 x1 x2 x3 (1 : Int32) hm _ _ hP hD hS _ (lv_sub hl [0, 1, 2, 3] rfl)
  have T10 : ∀ (x0 : Int32) (x1 : Int32) (x2 : Int32) (x3 : Int32), f_Shape_exists_10 x0 x1 x2 x3 = some rr → ∀ (H : Heap) (locs : List Loc), va_P D classes (w_Shape_exists) H → va_D A (w_Shape_exists) → va_S A s.heap H locs → ∀ (ls : Array Slot), lv_has ls 8 [(0, .int x0), (1, .int x1), (2, .int x2), (3, .int x3)] → W p l e (RM 0 0) s m args below meth c H locs 0 0 Q0 (F0 m 10 ls []) := by
    intro x0 x1 x2 x3 hm H locs hP hD hS ls hl
    unfold f_Shape_exists_10 at hm
    refine lv_iload_n hx hb d_Shape_exists_10 rfl (lv_at hl 0 rfl) ?_
    refine lv_bipush (v := (8 : Int32)) hx hb d_Shape_exists_11 (by decide) ?_
    refine z_ifn hm (lv_icmp_ne (tgt := 20) hx hb d_Shape_exists_13 (by decide)) (fun hm => ?_) (fun hm => ?_)
    · exact T16 x0 x1 x2 x3 hm _ _ hP hD hS _ (lv_sub hl [0, 1, 2, 3] rfl)
    · refine lv_iconst (v := (0 : Int32)) hx hb d_Shape_exists_20 (by decide) ?_
      exact T21 x0 x1 x2 x3 (0 : Int32) hm _ _ hP hD hS _ (lv_sub hl [0, 1, 2, 3] rfl)
  unfold f_Shape_exists at hm
  refine lv_iload_n hx hb d_Shape_exists_0 rfl (lv_at hl 0 rfl) ?_
  refine lv_iconst (v := (1 : Int32)) hx hb d_Shape_exists_1 (by decide) ?_
  refine z_if hm (lv_icmp_lt (tgt := 10) hx hb d_Shape_exists_2 (by decide)) (fun hm => ?_) (fun hm => ?_)
  · exact T10 x0 x1 x2 x3 hm _ _ hP hD hS _ (lv_sub hl [0, 1, 2, 3] rfl)
  · refine lv_iload_n hx hb d_Shape_exists_5 rfl (lv_at hl 0 rfl) ?_
    refine lv_iconst (v := (5 : Int32)) hx hb d_Shape_exists_6 (by decide) ?_
    refine z_if hm (lv_icmp_le (tgt := 16) hx hb d_Shape_exists_7 (by decide)) (fun hm => ?_) (fun hm => ?_)
    · exact T16 x0 x1 x2 x3 hm _ _ hP hD hS _ (lv_sub hl [0, 1, 2, 3] rfl)
    · exact T10 x0 x1 x2 x3 hm _ _ hP hD hS _ (lv_sub hl [0, 1, 2, 3] rfl)
-- DeepChannel$Shape.become(IIII)V
abbrev b_Shape_become : ByteArray := prog_10_method_3_code
abbrev y_Shape_become : MethodName := ⟨"DeepChannel$Shape", "become", "(IIII)V"⟩
theorem d_Shape_become_0 : decode b_Shape_become 0 = .ok (.aload_n 0, 1) := by decide +kernel
theorem d_Shape_become_1 : decode b_Shape_become 1 = .ok (.iload_n 1, 1) := by decide +kernel
theorem d_Shape_become_2 : decode b_Shape_become 2 = .ok (.putfield 9, 3) := by decide +kernel
theorem d_Shape_become_5 : decode b_Shape_become 5 = .ok (.aload_n 0, 1) := by decide +kernel
theorem d_Shape_become_6 : decode b_Shape_become 6 = .ok (.sipush 255, 3) := by decide +kernel
theorem d_Shape_become_9 : decode b_Shape_become 9 = .ok (.iload_n 2, 1) := by decide +kernel
theorem d_Shape_become_10 : decode b_Shape_become 10 = .ok (.isub, 1) := by decide +kernel
theorem d_Shape_become_11 : decode b_Shape_become 11 = .ok (.putfield 15, 3) := by decide +kernel
theorem d_Shape_become_14 : decode b_Shape_become 14 = .ok (.aload_n 0, 1) := by decide +kernel
theorem d_Shape_become_15 : decode b_Shape_become 15 = .ok (.iload_n 3, 1) := by decide +kernel
theorem d_Shape_become_16 : decode b_Shape_become 16 = .ok (.putfield 18, 3) := by decide +kernel
theorem d_Shape_become_19 : decode b_Shape_become 19 = .ok (.aload_n 0, 1) := by decide +kernel
theorem d_Shape_become_20 : decode b_Shape_become 20 = .ok (.iload 4, 2) := by decide +kernel
theorem d_Shape_become_22 : decode b_Shape_become 22 = .ok (.putfield 21, 3) := by decide +kernel
theorem d_Shape_become_25 : decode b_Shape_become 25 = .ok (.return_, 1) := by decide +kernel
theorem ok_Shape_become : OKv y_Shape_become b_Shape_become 5 none "DeepChannel$Shape" 4 := ⟨k_475, k_473, k_474, k_43, by decide +kernel, by decide +kernel, by decide +kernel⟩
abbrev w_Shape_become (cI cJ : ClassId) (qSh : Nat) (Sh_depth : Int32) (Sh_wordBytes : Int32) (Sh_e : Int32) (Sh_pattern : Int32) : va_W := [(qSh, .inr (8, [.int Sh_depth, .int Sh_wordBytes, .int Sh_e, .int Sh_pattern]))]
def f_Shape_become (Sh_depth : Int32) (Sh_wordBytes : Int32) (Sh_e : Int32) (Sh_pattern : Int32) (x1 : Int32) (x2 : Int32) (x3 : Int32) (x4 : Int32) : Option (Int32 × Int32 × Int32 × Int32) :=
  nm ((255 : Int32) - x2) fun v1 =>
  some (x1, v1, x3, x4)
set_option maxHeartbeats 4000000 in
set_option maxRecDepth 100000 in
theorem c_Shape_become (l : Launch) (D : va_G) (cI cJ : ClassId) (tt : Nat → Nat) (qSh : Nat) (sz : Nat) (Sh_depth : Int32) (Sh_wordBytes : Int32) (Sh_e : Int32) (Sh_pattern : Int32) (x1 : Int32) (x2 : Int32) (x3 : Int32) (x4 : Int32) (Sh_depth' : Int32) (Sh_wordBytes' : Int32) (Sh_e' : Int32) (Sh_pattern' : Int32) (hm : f_Shape_become Sh_depth Sh_wordBytes Sh_e Sh_pattern x1 x2 x3 x4 = some (Sh_depth', Sh_wordBytes', Sh_e', Sh_pattern')) : CTv l y_Shape_become b_Shape_become 5 none (RM 0 0) D cI cJ tt [.ref qSh, .int x1, .int x2, .int x3, .int x4] (w_Shape_become cI cJ qSh Sh_depth Sh_wordBytes Sh_e Sh_pattern) (w_Shape_become cI cJ qSh Sh_depth' Sh_wordBytes' Sh_e' Sh_pattern') sz := by
  refine Met.ofW (cc := b_Shape_become) (maxL := 5) (ret := none) (by decide) rfl ?_
  intro p e s m args below meth c s₁ B hml hv
  obtain ⟨hargs, hsz, hP, hK, hD0, hE⟩ := hv
  have hx := B.exec
  have hb := B.bytes
  have hr := B.returns
  have hts : ∀ w ∈ TB, w.before args s = true := z_mV s (atoms_spec (ws := WD y_Shape_become b_Shape_become 5 none) B.pre)
  have hown : s.vm.findClass "DeepChannel$Shape" = some m.cls := findClass_of_methodNamed B.named
  have hlocks := B.notSynchronized
  subst hsz
  have hD := hD0.self (sz := s.heap.size)
  generalize hAe : va_A (w_Shape_become cI cJ qSh Sh_depth Sh_wordBytes Sh_e Sh_pattern) s.heap.size = A at hD hE ⊢
  have hA : ∀ q : Nat, s.heap.size ≤ q → A q := fun q h => by rw [← hAe]; exact Or.inr h
  have hS : va_S A s.heap s.heap [] := va_S.rf
  refine z_entry (vs := [.ref qSh, .int x1, .int x2, .int x3, .int x4]) hargs (Nat.le_of_ble_eq_true rfl) (fun ls hl => ?_)
  have hl : lv_has ls 5 [(0, .ref qSh), (1, .int x1), (2, .int x2), (3, .int x3), (4, .int x4)] := hl
  show W p l e (RM 0 0) s m args below meth c s.heap [] 0 0 _ _
  refine z_qi (fun Q0 hQ => ?_)
  have F : CallFix p m c b_Shape_become 5 s args TB "DeepChannel$Shape" := ⟨hx, hb, hml, hown, hts⟩
  unfold f_Shape_become at hm
  refine lv_aload_n hx hb d_Shape_become_0 rfl (lv_at hl 0 rfl) ?_
  refine lv_iload_n hx hb d_Shape_become_1 rfl (lv_at hl 1 rfl) ?_
  refine va_put (D := D) (ci := 8) (v := .int x1) (ty := .int) (C := "DeepChannel$Shape") (T := fT_Shape) (N := 4) hx hb hts u_Shape fY_Shape fK_Shape fN_Shape hown hK hP hD hS 0 rfl rfl 0 (by decide) (hts _ k_78) (fun _ h9 => h9) rfl (by decide +kernel) rfl rfl (Nat.le_of_ble_eq_true rfl) d_Shape_become_2 (fun H locs hP hD hS => ?_)
  have hP : va_P D classes (w_Shape_become cI cJ qSh x1 Sh_wordBytes Sh_e Sh_pattern) H := hP
  have hD : va_D A (w_Shape_become cI cJ qSh x1 Sh_wordBytes Sh_e Sh_pattern) := hD
  refine lv_aload_n hx hb d_Shape_become_5 rfl (lv_at hl 0 rfl) ?_
  refine lv_sipush (v := (255 : Int32)) hx hb d_Shape_become_6 (by decide) ?_
  refine lv_iload_n hx hb d_Shape_become_9 rfl (lv_at hl 2 rfl) ?_
  refine lv_isub hx hb d_Shape_become_10 ?_
  refine z_nmi hm (fun v1 hm => ?_)
  refine va_put (D := D) (ci := 8) (v := .int v1) (ty := .int) (C := "DeepChannel$Shape") (T := fT_Shape) (N := 4) hx hb hts u_Shape fY_Shape fK_Shape fN_Shape hown hK hP hD hS 0 rfl rfl 1 (by decide) (hts _ k_81) (fun _ h9 => h9) rfl (by decide +kernel) rfl rfl (Nat.le_of_ble_eq_true rfl) d_Shape_become_11 (fun H locs hP hD hS => ?_)
  have hP : va_P D classes (w_Shape_become cI cJ qSh x1 v1 Sh_e Sh_pattern) H := hP
  have hD : va_D A (w_Shape_become cI cJ qSh x1 v1 Sh_e Sh_pattern) := hD
  refine lv_aload_n hx hb d_Shape_become_14 rfl (lv_at hl 0 rfl) ?_
  refine lv_iload_n hx hb d_Shape_become_15 rfl (lv_at hl 3 rfl) ?_
  refine va_put (D := D) (ci := 8) (v := .int x3) (ty := .int) (C := "DeepChannel$Shape") (T := fT_Shape) (N := 4) hx hb hts u_Shape fY_Shape fK_Shape fN_Shape hown hK hP hD hS 0 rfl rfl 2 (by decide) (hts _ k_83) (fun _ h9 => h9) rfl (by decide +kernel) rfl rfl (Nat.le_of_ble_eq_true rfl) d_Shape_become_16 (fun H locs hP hD hS => ?_)
  have hP : va_P D classes (w_Shape_become cI cJ qSh x1 v1 x3 Sh_pattern) H := hP
  have hD : va_D A (w_Shape_become cI cJ qSh x1 v1 x3 Sh_pattern) := hD
  refine lv_aload_n hx hb d_Shape_become_19 rfl (lv_at hl 0 rfl) ?_
  refine lv_iload hx hb d_Shape_become_20 (lv_at hl 4 rfl) ?_
  refine va_put (D := D) (ci := 8) (v := .int x4) (ty := .int) (C := "DeepChannel$Shape") (T := fT_Shape) (N := 4) hx hb hts u_Shape fY_Shape fK_Shape fN_Shape hown hK hP hD hS 0 rfl rfl 3 (by decide) (hts _ k_85) (fun _ h9 => h9) rfl (by decide +kernel) rfl rfl (Nat.le_of_ble_eq_true rfl) d_Shape_become_22 (fun H locs hP hD hS => ?_)
  have hP : va_P D classes (w_Shape_become cI cJ qSh x1 v1 x3 x4) H := hP
  have hD : va_D A (w_Shape_become cI cJ qSh x1 v1 x3 x4) := hD
  cases hm
  exact z_qo hQ (z_vret hr hx hb hlocks hK hP hD hS d_Shape_become_25)
-- DeepChannel$Shape.blockBytes()I
abbrev b_Shape_blockBytes : ByteArray := prog_10_method_4_code
abbrev y_Shape_blockBytes : MethodName := ⟨"DeepChannel$Shape", "blockBytes", "()I"⟩
theorem d_Shape_blockBytes_0 : decode b_Shape_blockBytes 0 = .ok (.aload_n 0, 1) := by decide +kernel
theorem d_Shape_blockBytes_1 : decode b_Shape_blockBytes 1 = .ok (.getfield 9, 3) := by decide +kernel
theorem d_Shape_blockBytes_4 : decode b_Shape_blockBytes 4 = .ok (.aload_n 0, 1) := by decide +kernel
theorem d_Shape_blockBytes_5 : decode b_Shape_blockBytes 5 = .ok (.getfield 15, 3) := by decide +kernel
theorem d_Shape_blockBytes_8 : decode b_Shape_blockBytes 8 = .ok (.imul, 1) := by decide +kernel
theorem d_Shape_blockBytes_9 : decode b_Shape_blockBytes 9 = .ok (.ireturn, 1) := by decide +kernel
theorem ok_Shape_blockBytes : OKv y_Shape_blockBytes b_Shape_blockBytes 1 (some .int) "DeepChannel$Shape" 0 := ⟨k_529, k_527, k_528, k_43, by decide +kernel, by decide +kernel, by decide +kernel⟩
abbrev w_Shape_blockBytes (cI cJ : ClassId) (qSh : Nat) (Sh_e Sh_pattern : Value) (Sh_depth : Int32) (Sh_wordBytes : Int32) : va_W := [(qSh, .inr (8, [.int Sh_depth, .int Sh_wordBytes, Sh_e, Sh_pattern]))]
def f_Shape_blockBytes (Sh_depth : Int32) (Sh_wordBytes : Int32) : Option (Int32) :=
  some (Sh_depth * Sh_wordBytes)
set_option maxHeartbeats 4000000 in
set_option maxRecDepth 100000 in
theorem c_Shape_blockBytes (l : Launch) (D : va_G) (cI cJ : ClassId) (tt : Nat → Nat) (qSh : Nat) (Sh_e Sh_pattern : Value) (sz : Nat) (Sh_depth : Int32) (Sh_wordBytes : Int32) (rr : Int32) (hm : f_Shape_blockBytes Sh_depth Sh_wordBytes = some rr) : CTi l y_Shape_blockBytes b_Shape_blockBytes 1 (some .int) (RM 0 0) D cI cJ tt [.ref qSh] (w_Shape_blockBytes cI cJ qSh Sh_e Sh_pattern Sh_depth Sh_wordBytes) (w_Shape_blockBytes cI cJ qSh Sh_e Sh_pattern Sh_depth Sh_wordBytes) sz rr := by
  refine Met.ofW (cc := b_Shape_blockBytes) (maxL := 1) (ret := (some .int)) (by decide) rfl ?_
  intro p e s m args below meth c s₁ B hml hv
  obtain ⟨hargs, hsz, hP, hK, hD0, hE⟩ := hv
  have hx := B.exec
  have hb := B.bytes
  have hr := B.returns
  have hts : ∀ w ∈ TB, w.before args s = true := z_mV s (atoms_spec (ws := WD y_Shape_blockBytes b_Shape_blockBytes 1 (some .int)) B.pre)
  have hown : s.vm.findClass "DeepChannel$Shape" = some m.cls := findClass_of_methodNamed B.named
  have hlocks := B.notSynchronized
  subst hsz
  have hD := hD0.self (sz := s.heap.size)
  generalize hAe : va_A (w_Shape_blockBytes cI cJ qSh Sh_e Sh_pattern Sh_depth Sh_wordBytes) s.heap.size = A at hD hE ⊢
  have hA : ∀ q : Nat, s.heap.size ≤ q → A q := fun q h => by rw [← hAe]; exact Or.inr h
  have hS : va_S A s.heap s.heap [] := va_S.rf
  refine z_entry (vs := [.ref qSh]) hargs (Nat.le_of_ble_eq_true rfl) (fun ls hl => ?_)
  have hl : lv_has ls 1 [(0, .ref qSh)] := hl
  show W p l e (RM 0 0) s m args below meth c s.heap [] 0 0 _ _
  refine z_qi (fun Q0 hQ => ?_)
  have F : CallFix p m c b_Shape_blockBytes 1 s args TB "DeepChannel$Shape" := ⟨hx, hb, hml, hown, hts⟩
  unfold f_Shape_blockBytes at hm
  refine lv_aload_n hx hb d_Shape_blockBytes_0 rfl (lv_at hl 0 rfl) ?_
  refine va_get (D := D) (ci := 8) (v := .int Sh_depth) (C := "DeepChannel$Shape") (T := fT_Shape) (N := 4) hx hb hts u_Shape hown hK hP 0 rfl rfl 0 (by decide) (hts _ k_78) (fun _ h9 => h9) rfl d_Shape_blockBytes_1 ?_
  refine lv_aload_n hx hb d_Shape_blockBytes_4 rfl (lv_at hl 0 rfl) ?_
  refine va_get (D := D) (ci := 8) (v := .int Sh_wordBytes) (C := "DeepChannel$Shape") (T := fT_Shape) (N := 4) hx hb hts u_Shape hown hK hP 0 rfl rfl 1 (by decide) (hts _ k_81) (fun _ h9 => h9) rfl d_Shape_blockBytes_5 ?_
  refine lv_imul hx hb d_Shape_blockBytes_8 ?_
  cases hm
  exact z_qo hQ (z_ireti hr hx hb hlocks hK hP hD hS d_Shape_blockBytes_9)
-- DeepChannel$Shape.frameBytes()I
abbrev b_Shape_frameBytes : ByteArray := prog_10_method_5_code
abbrev y_Shape_frameBytes : MethodName := ⟨"DeepChannel$Shape", "frameBytes", "()I"⟩
theorem d_Shape_frameBytes_0 : decode b_Shape_frameBytes 0 = .ok (.aload_n 0, 1) := by decide +kernel
theorem d_Shape_frameBytes_1 : decode b_Shape_frameBytes 1 = .ok (.getfield 9, 3) := by decide +kernel
theorem d_Shape_frameBytes_4 : decode b_Shape_frameBytes 4 = .ok (.aload_n 0, 1) := by decide +kernel
theorem d_Shape_frameBytes_5 : decode b_Shape_frameBytes 5 = .ok (.getfield 15, 3) := by decide +kernel
theorem d_Shape_frameBytes_8 : decode b_Shape_frameBytes 8 = .ok (.iconst 2, 1) := by decide +kernel
theorem d_Shape_frameBytes_9 : decode b_Shape_frameBytes 9 = .ok (.aload_n 0, 1) := by decide +kernel
theorem d_Shape_frameBytes_10 : decode b_Shape_frameBytes 10 = .ok (.getfield 18, 3) := by decide +kernel
theorem d_Shape_frameBytes_13 : decode b_Shape_frameBytes 13 = .ok (.imul, 1) := by decide +kernel
theorem d_Shape_frameBytes_14 : decode b_Shape_frameBytes 14 = .ok (.isub, 1) := by decide +kernel
theorem d_Shape_frameBytes_15 : decode b_Shape_frameBytes 15 = .ok (.imul, 1) := by decide +kernel
theorem d_Shape_frameBytes_16 : decode b_Shape_frameBytes 16 = .ok (.ireturn, 1) := by decide +kernel
theorem ok_Shape_frameBytes : OKv y_Shape_frameBytes b_Shape_frameBytes 1 (some .int) "DeepChannel$Shape" 0 := ⟨k_520, k_518, k_519, k_43, by decide +kernel, by decide +kernel, by decide +kernel⟩
abbrev w_Shape_frameBytes (cI cJ : ClassId) (qSh : Nat) (Sh_pattern : Value) (Sh_depth : Int32) (Sh_wordBytes : Int32) (Sh_e : Int32) : va_W := [(qSh, .inr (8, [.int Sh_depth, .int Sh_wordBytes, .int Sh_e, Sh_pattern]))]
def f_Shape_frameBytes (Sh_depth : Int32) (Sh_wordBytes : Int32) (Sh_e : Int32) : Option (Int32) :=
  some (Sh_depth * (Sh_wordBytes - ((2 : Int32) * Sh_e)))
set_option maxHeartbeats 4000000 in
set_option maxRecDepth 100000 in
theorem c_Shape_frameBytes (l : Launch) (D : va_G) (cI cJ : ClassId) (tt : Nat → Nat) (qSh : Nat) (Sh_pattern : Value) (sz : Nat) (Sh_depth : Int32) (Sh_wordBytes : Int32) (Sh_e : Int32) (rr : Int32) (hm : f_Shape_frameBytes Sh_depth Sh_wordBytes Sh_e = some rr) : CTi l y_Shape_frameBytes b_Shape_frameBytes 1 (some .int) (RM 0 0) D cI cJ tt [.ref qSh] (w_Shape_frameBytes cI cJ qSh Sh_pattern Sh_depth Sh_wordBytes Sh_e) (w_Shape_frameBytes cI cJ qSh Sh_pattern Sh_depth Sh_wordBytes Sh_e) sz rr := by
  refine Met.ofW (cc := b_Shape_frameBytes) (maxL := 1) (ret := (some .int)) (by decide) rfl ?_
  intro p e s m args below meth c s₁ B hml hv
  obtain ⟨hargs, hsz, hP, hK, hD0, hE⟩ := hv
  have hx := B.exec
  have hb := B.bytes
  have hr := B.returns
  have hts : ∀ w ∈ TB, w.before args s = true := z_mV s (atoms_spec (ws := WD y_Shape_frameBytes b_Shape_frameBytes 1 (some .int)) B.pre)
  have hown : s.vm.findClass "DeepChannel$Shape" = some m.cls := findClass_of_methodNamed B.named
  have hlocks := B.notSynchronized
  subst hsz
  have hD := hD0.self (sz := s.heap.size)
  generalize hAe : va_A (w_Shape_frameBytes cI cJ qSh Sh_pattern Sh_depth Sh_wordBytes Sh_e) s.heap.size = A at hD hE ⊢
  have hA : ∀ q : Nat, s.heap.size ≤ q → A q := fun q h => by rw [← hAe]; exact Or.inr h
  have hS : va_S A s.heap s.heap [] := va_S.rf
  refine z_entry (vs := [.ref qSh]) hargs (Nat.le_of_ble_eq_true rfl) (fun ls hl => ?_)
  have hl : lv_has ls 1 [(0, .ref qSh)] := hl
  show W p l e (RM 0 0) s m args below meth c s.heap [] 0 0 _ _
  refine z_qi (fun Q0 hQ => ?_)
  have F : CallFix p m c b_Shape_frameBytes 1 s args TB "DeepChannel$Shape" := ⟨hx, hb, hml, hown, hts⟩
  unfold f_Shape_frameBytes at hm
  refine lv_aload_n hx hb d_Shape_frameBytes_0 rfl (lv_at hl 0 rfl) ?_
  refine va_get (D := D) (ci := 8) (v := .int Sh_depth) (C := "DeepChannel$Shape") (T := fT_Shape) (N := 4) hx hb hts u_Shape hown hK hP 0 rfl rfl 0 (by decide) (hts _ k_78) (fun _ h9 => h9) rfl d_Shape_frameBytes_1 ?_
  refine lv_aload_n hx hb d_Shape_frameBytes_4 rfl (lv_at hl 0 rfl) ?_
  refine va_get (D := D) (ci := 8) (v := .int Sh_wordBytes) (C := "DeepChannel$Shape") (T := fT_Shape) (N := 4) hx hb hts u_Shape hown hK hP 0 rfl rfl 1 (by decide) (hts _ k_81) (fun _ h9 => h9) rfl d_Shape_frameBytes_5 ?_
  refine lv_iconst (v := (2 : Int32)) hx hb d_Shape_frameBytes_8 (by decide) ?_
  refine lv_aload_n hx hb d_Shape_frameBytes_9 rfl (lv_at hl 0 rfl) ?_
  refine va_get (D := D) (ci := 8) (v := .int Sh_e) (C := "DeepChannel$Shape") (T := fT_Shape) (N := 4) hx hb hts u_Shape hown hK hP 0 rfl rfl 2 (by decide) (hts _ k_83) (fun _ h9 => h9) rfl d_Shape_frameBytes_10 ?_
  refine lv_imul hx hb d_Shape_frameBytes_13 ?_
  refine lv_isub hx hb d_Shape_frameBytes_14 ?_
  refine lv_imul hx hb d_Shape_frameBytes_15 ?_
  cases hm
  exact z_qo hQ (z_ireti hr hx hb hlocks hK hP hD hS d_Shape_frameBytes_16)
-- DeepChannel$Shape.dataBytes()I
abbrev b_Shape_dataBytes : ByteArray := prog_10_method_6_code
abbrev y_Shape_dataBytes : MethodName := ⟨"DeepChannel$Shape", "dataBytes", "()I"⟩
theorem d_Shape_dataBytes_0 : decode b_Shape_dataBytes 0 = .ok (.aload_n 0, 1) := by decide +kernel
theorem d_Shape_dataBytes_1 : decode b_Shape_dataBytes 1 = .ok (.invokevirtual 24, 3) := by decide +kernel
theorem d_Shape_dataBytes_4 : decode b_Shape_dataBytes 4 = .ok (.bipush 6, 2) := by decide +kernel
theorem d_Shape_dataBytes_6 : decode b_Shape_dataBytes 6 = .ok (.isub, 1) := by decide +kernel
theorem d_Shape_dataBytes_7 : decode b_Shape_dataBytes 7 = .ok (.iconst 2, 1) := by decide +kernel
theorem d_Shape_dataBytes_8 : decode b_Shape_dataBytes 8 = .ok (.isub, 1) := by decide +kernel
theorem d_Shape_dataBytes_9 : decode b_Shape_dataBytes 9 = .ok (.ireturn, 1) := by decide +kernel
theorem ok_Shape_dataBytes : OKv y_Shape_dataBytes b_Shape_dataBytes 1 (some .int) "DeepChannel$Shape" 0 := ⟨k_524, k_522, k_523, k_43, by decide +kernel, by decide +kernel, by decide +kernel⟩
abbrev w_Shape_dataBytes (cI cJ : ClassId) (qSh : Nat) (Sh_pattern : Value) (Sh_depth : Int32) (Sh_wordBytes : Int32) (Sh_e : Int32) : va_W := [(qSh, .inr (8, [.int Sh_depth, .int Sh_wordBytes, .int Sh_e, Sh_pattern]))]
def f_Shape_dataBytes (Sh_depth : Int32) (Sh_wordBytes : Int32) (Sh_e : Int32) : Option (Int32) :=
  bd (f_Shape_frameBytes Sh_depth Sh_wordBytes Sh_e) fun u2 =>
  nm u2 fun r1 =>
  some ((r1 - (6 : Int32)) - (2 : Int32))
set_option maxHeartbeats 4000000 in
set_option maxRecDepth 100000 in
theorem c_Shape_dataBytes (l : Launch) (D : va_G) (cI cJ : ClassId) (tt : Nat → Nat) (qSh : Nat) (Sh_pattern : Value) (sz : Nat) (Sh_depth : Int32) (Sh_wordBytes : Int32) (Sh_e : Int32) (rr : Int32) (hm : f_Shape_dataBytes Sh_depth Sh_wordBytes Sh_e = some rr) : CTi l y_Shape_dataBytes b_Shape_dataBytes 1 (some .int) (RM 1 20) D cI cJ tt [.ref qSh] (w_Shape_dataBytes cI cJ qSh Sh_pattern Sh_depth Sh_wordBytes Sh_e) (w_Shape_dataBytes cI cJ qSh Sh_pattern Sh_depth Sh_wordBytes Sh_e) sz rr := by
  refine Met.ofW (cc := b_Shape_dataBytes) (maxL := 1) (ret := (some .int)) (by decide) rfl ?_
  intro p e s m args below meth c s₁ B hml hv
  obtain ⟨hargs, hsz, hP, hK, hD0, hE⟩ := hv
  have hx := B.exec
  have hb := B.bytes
  have hr := B.returns
  have hts : ∀ w ∈ TB, w.before args s = true := z_mV s (atoms_spec (ws := WD y_Shape_dataBytes b_Shape_dataBytes 1 (some .int)) B.pre)
  have hown : s.vm.findClass "DeepChannel$Shape" = some m.cls := findClass_of_methodNamed B.named
  have hlocks := B.notSynchronized
  subst hsz
  have hD := hD0.self (sz := s.heap.size)
  generalize hAe : va_A (w_Shape_dataBytes cI cJ qSh Sh_pattern Sh_depth Sh_wordBytes Sh_e) s.heap.size = A at hD hE ⊢
  have hA : ∀ q : Nat, s.heap.size ≤ q → A q := fun q h => by rw [← hAe]; exact Or.inr h
  have hS : va_S A s.heap s.heap [] := va_S.rf
  refine z_entry (vs := [.ref qSh]) hargs (Nat.le_of_ble_eq_true rfl) (fun ls hl => ?_)
  have hl : lv_has ls 1 [(0, .ref qSh)] := hl
  show W p l e (RM 1 20) s m args below meth c s.heap [] 0 0 _ _
  refine z_qi (fun Q0 hQ => ?_)
  have F : CallFix p m c b_Shape_dataBytes 1 s args TB "DeepChannel$Shape" := ⟨hx, hb, hml, hown, hts⟩
  unfold f_Shape_dataBytes at hm
  refine lv_aload_n hx hb d_Shape_dataBytes_0 rfl (lv_at hl 0 rfl) ?_
  obtain ⟨r1, hu, hm⟩ := bd_el hm
  replace hm := nm_1 hm
  refine z_cVi (wc := w_Shape_frameBytes cI cJ qSh Sh_pattern Sh_depth Sh_wordBytes Sh_e) (wc' := w_Shape_frameBytes cI cJ qSh Sh_pattern Sh_depth Sh_wordBytes Sh_e) (wr := []) (As := []) (rest := []) (c_Shape_frameBytes l D cI cJ tt qSh Sh_pattern _ Sh_depth Sh_wordBytes Sh_e r1 hu) F ok_Shape_frameBytes rfl k_525 hK hE hP hD hS hA [0] [] rfl rfl (by decide) (by decide) (by decide) 0 rfl rfl rfl ⟨rfl, rfl, Nat.le_of_ble_eq_true rfl, Nat.le_of_ble_eq_true rfl⟩ ⟨Nat.zero_le _, Nat.zero_le _⟩ rfl hl.1 rfl (Nat.le_of_ble_eq_true rfl) d_Shape_dataBytes_1 (fun H locs hP hD hS => ?_)
  have hP : va_P D classes (w_Shape_dataBytes cI cJ qSh Sh_pattern Sh_depth Sh_wordBytes Sh_e) H := hP.sub [0] rfl
  have hD : va_D A (w_Shape_dataBytes cI cJ qSh Sh_pattern Sh_depth Sh_wordBytes Sh_e) := hD.sub [0] (by decide) rfl
  refine lv_bipush (v := (6 : Int32)) hx hb d_Shape_dataBytes_4 (by decide) ?_
  refine lv_isub hx hb d_Shape_dataBytes_6 ?_
  refine lv_iconst (v := (2 : Int32)) hx hb d_Shape_dataBytes_7 (by decide) ?_
  refine lv_isub hx hb d_Shape_dataBytes_8 ?_
  cases hm
  exact z_qo hQ (z_ireti hr hx hb hlocks hK hP hD hS d_Shape_dataBytes_9)
-- DeepChannel$Field.timesG(I)I
abbrev b_Field_timesG : ByteArray := prog_4_method_2_code
abbrev y_Field_timesG : MethodName := ⟨"DeepChannel$Field", "timesG", "(I)I"⟩
theorem d_Field_timesG_0 : decode b_Field_timesG 0 = .ok (.iconst 0, 1) := by decide +kernel
theorem d_Field_timesG_1 : decode b_Field_timesG 1 = .ok (.istore_n 1, 1) := by decide +kernel
theorem d_Field_timesG_2 : decode b_Field_timesG 2 = .ok (.bipush 7, 2) := by decide +kernel
theorem d_Field_timesG_4 : decode b_Field_timesG 4 = .ok (.istore_n 2, 1) := by decide +kernel
theorem d_Field_timesG_5 : decode b_Field_timesG 5 = .ok (.iload_n 2, 1) := by decide +kernel
theorem d_Field_timesG_6 : decode b_Field_timesG 6 = .ok (.ifCond .lt 36, 3) := by decide +kernel
theorem d_Field_timesG_9 : decode b_Field_timesG 9 = .ok (.iload_n 1, 1) := by decide +kernel
theorem d_Field_timesG_10 : decode b_Field_timesG 10 = .ok (.iconst 1, 1) := by decide +kernel
theorem d_Field_timesG_11 : decode b_Field_timesG 11 = .ok (.ishl, 1) := by decide +kernel
theorem d_Field_timesG_12 : decode b_Field_timesG 12 = .ok (.istore_n 1, 1) := by decide +kernel
theorem d_Field_timesG_13 : decode b_Field_timesG 13 = .ok (.iload_n 1, 1) := by decide +kernel
theorem d_Field_timesG_14 : decode b_Field_timesG 14 = .ok (.iload_n 1, 1) := by decide +kernel
theorem d_Field_timesG_15 : decode b_Field_timesG 15 = .ok (.bipush 8, 2) := by decide +kernel
theorem d_Field_timesG_17 : decode b_Field_timesG 17 = .ok (.ishr, 1) := by decide +kernel
theorem d_Field_timesG_18 : decode b_Field_timesG 18 = .ok (.sipush 391, 3) := by decide +kernel
theorem d_Field_timesG_21 : decode b_Field_timesG 21 = .ok (.imul, 1) := by decide +kernel
theorem d_Field_timesG_22 : decode b_Field_timesG 22 = .ok (.ixor, 1) := by decide +kernel
theorem d_Field_timesG_23 : decode b_Field_timesG 23 = .ok (.istore_n 1, 1) := by decide +kernel
theorem d_Field_timesG_24 : decode b_Field_timesG 24 = .ok (.iload_n 1, 1) := by decide +kernel
theorem d_Field_timesG_25 : decode b_Field_timesG 25 = .ok (.sipush 173, 3) := by decide +kernel
theorem d_Field_timesG_28 : decode b_Field_timesG 28 = .ok (.iload_n 2, 1) := by decide +kernel
theorem d_Field_timesG_29 : decode b_Field_timesG 29 = .ok (.ishr, 1) := by decide +kernel
theorem d_Field_timesG_30 : decode b_Field_timesG 30 = .ok (.iconst 1, 1) := by decide +kernel
theorem d_Field_timesG_31 : decode b_Field_timesG 31 = .ok (.iand, 1) := by decide +kernel
theorem d_Field_timesG_32 : decode b_Field_timesG 32 = .ok (.iload_n 0, 1) := by decide +kernel
theorem d_Field_timesG_33 : decode b_Field_timesG 33 = .ok (.imul, 1) := by decide +kernel
theorem d_Field_timesG_34 : decode b_Field_timesG 34 = .ok (.ixor, 1) := by decide +kernel
theorem d_Field_timesG_35 : decode b_Field_timesG 35 = .ok (.istore_n 1, 1) := by decide +kernel
theorem d_Field_timesG_36 : decode b_Field_timesG 36 = .ok (.iinc 2 (-1), 3) := by decide +kernel
theorem d_Field_timesG_39 : decode b_Field_timesG 39 = .ok (.goto (-34), 3) := by decide +kernel
theorem d_Field_timesG_42 : decode b_Field_timesG 42 = .ok (.iload_n 1, 1) := by decide +kernel
theorem d_Field_timesG_43 : decode b_Field_timesG 43 = .ok (.ireturn, 1) := by decide +kernel
theorem ok_Field_timesG : OKs y_Field_timesG b_Field_timesG 3 (some .int) 1 := ⟨k_107, k_106, k_45, by decide +kernel, by decide +kernel, by decide +kernel⟩
abbrev w_Field_timesG  : va_W := []
def f_Field_timesG_5_b  (kh5 : Int32 → Int32 → Int32 → Option (Int32)) (x0 : Int32) (x1 : Int32) (x2 : Int32) : Option (Int32) :=
  if x2 < 0 then
    some x1
  else
  nm (x1 <<< ((1 : Int32) &&& 31)) fun v1 =>
  nm (v1 ^^^ ((v1 >>> ((8 : Int32) &&& 31)) * (391 : Int32))) fun v2 =>
  nm (v2 ^^^ ((((173 : Int32) >>> (x2 &&& 31)) &&& (1 : Int32)) * x0)) fun v3 =>
  nm (x2 + (-1 : Int32)) fun v4 =>
  kh5 x0 v3 v4
def f_Field_timesG_5  : Nat → Int32 → Int32 → Int32 → Option (Int32)
  | 0 => fun _ _ _ => none
  | n + 1 => fun x0 x1 x2 => f_Field_timesG_5_b (f_Field_timesG_5 n) x0 x1 x2
def f_Field_timesG (x0 : Int32) : Option (Int32) :=
  f_Field_timesG_5 10000 x0 (0 : Int32) (7 : Int32)
set_option maxHeartbeats 4000000 in
set_option maxRecDepth 100000 in
theorem c_Field_timesG (l : Launch) (D : va_G) (cI cJ : ClassId) (tt : Nat → Nat) (sz : Nat) (x0 : Int32) (rr : Int32) (hm : f_Field_timesG x0 = some rr) : CTi l y_Field_timesG b_Field_timesG 3 (some .int) (RM 0 0) D cI cJ tt [.int x0] (w_Field_timesG) (w_Field_timesG) sz rr := by
  refine Met.ofW (cc := b_Field_timesG) (maxL := 3) (ret := (some .int)) (by decide) rfl ?_
  intro p e s m args below meth c s₁ B hml hv
  obtain ⟨hargs, hsz, hP, hK, hD0, hE⟩ := hv
  have hx := B.exec
  have hb := B.bytes
  have hr := B.returns
  have hts : ∀ w ∈ TB, w.before args s = true := z_mV s (atoms_spec (ws := WD y_Field_timesG b_Field_timesG 3 (some .int)) B.pre)
  have hown : s.vm.findClass "DeepChannel$Field" = some m.cls := findClass_of_methodNamed B.named
  have hlocks := B.notSynchronized
  subst hsz
  have hD := hD0.self (sz := s.heap.size)
  generalize hAe : va_A (w_Field_timesG) s.heap.size = A at hD hE ⊢
  have hA : ∀ q : Nat, s.heap.size ≤ q → A q := fun q h => by rw [← hAe]; exact Or.inr h
  have hS : va_S A s.heap s.heap [] := va_S.rf
  refine z_entry (vs := [.int x0]) hargs (Nat.le_of_ble_eq_true rfl) (fun ls hl => ?_)
  have hl : lv_has ls 3 [(0, .int x0)] := hl
  show W p l e (RM 0 0) s m args below meth c s.heap [] 0 0 _ _
  refine z_qi (fun Q0 hQ => ?_)
  have F : CallFix p m c b_Field_timesG 3 s args TB "DeepChannel$Field" := ⟨hx, hb, hml, hown, hts⟩
  have T5 : ∀ (n5 : Nat) (x0 : Int32) (x1 : Int32) (x2 : Int32), f_Field_timesG_5 n5 x0 x1 x2 = some rr → ∀ (H : Heap) (locs : List Loc), va_P D classes (w_Field_timesG) H → va_D A (w_Field_timesG) → va_S A s.heap H locs → ∀ (ls : Array Slot), lv_has ls 3 [(0, .int x0), (1, .int x1), (2, .int x2)] → W p l e (RM 0 0) s m args below meth c H locs 0 0 Q0 (F0 m 5 ls []) := by
    intro n5
    induction n5 with
    | zero => intro x0 x1 x2 hm; cases hm
    | succ n5 ih5 =>
      intro x0 x1 x2 hm H locs hP hD hS ls hl
      replace hm : f_Field_timesG_5_b (f_Field_timesG_5 n5) x0 x1 x2 = some rr := hm
      unfold f_Field_timesG_5_b at hm
      refine lv_iload_n hx hb d_Field_timesG_5 rfl (lv_at hl 2 rfl) ?_
      refine z_if hm (lv_if_lt (tgt := 42) hx hb d_Field_timesG_6 (by decide)) (fun hm => ?_) (fun hm => ?_)
      · refine lv_iload_n hx hb d_Field_timesG_42 rfl (lv_at hl 1 rfl) ?_
        cases hm
        exact z_qo hQ (z_ireti hr hx hb hlocks hK hP hD hS d_Field_timesG_43)
      · refine lv_iload_n hx hb d_Field_timesG_9 rfl (lv_at hl 1 rfl) ?_
        refine lv_iconst (v := (1 : Int32)) hx hb d_Field_timesG_10 (by decide) ?_
        refine lv_ishl hx hb d_Field_timesG_11 ?_
        refine z_nmi hm (fun v1 hm => ?_)
        refine lv_istore_n (lv' := [(1, .int v1), (0, .int x0), (2, .int x2)]) hx hb d_Field_timesG_12 rfl hl (by decide) rfl (fun ls hl => ?_)
        refine lv_iload_n hx hb d_Field_timesG_13 rfl (lv_at hl 0 rfl) ?_
        refine lv_iload_n hx hb d_Field_timesG_14 rfl (lv_at hl 0 rfl) ?_
        refine lv_bipush (v := (8 : Int32)) hx hb d_Field_timesG_15 (by decide) ?_
        refine lv_ishr hx hb d_Field_timesG_17 ?_
        refine lv_sipush (v := (391 : Int32)) hx hb d_Field_timesG_18 (by decide) ?_
        refine lv_imul hx hb d_Field_timesG_21 ?_
        refine lv_ixor hx hb d_Field_timesG_22 ?_
        refine z_nmi hm (fun v2 hm => ?_)
        refine lv_istore_n (lv' := [(1, .int v2), (0, .int x0), (2, .int x2)]) hx hb d_Field_timesG_23 rfl hl (by decide) rfl (fun ls hl => ?_)
        refine lv_iload_n hx hb d_Field_timesG_24 rfl (lv_at hl 0 rfl) ?_
        refine lv_sipush (v := (173 : Int32)) hx hb d_Field_timesG_25 (by decide) ?_
        refine lv_iload_n hx hb d_Field_timesG_28 rfl (lv_at hl 2 rfl) ?_
        refine lv_ishr hx hb d_Field_timesG_29 ?_
        refine lv_iconst (v := (1 : Int32)) hx hb d_Field_timesG_30 (by decide) ?_
        refine lv_iand hx hb d_Field_timesG_31 ?_
        refine lv_iload_n hx hb d_Field_timesG_32 rfl (lv_at hl 1 rfl) ?_
        refine lv_imul hx hb d_Field_timesG_33 ?_
        refine lv_ixor hx hb d_Field_timesG_34 ?_
        refine z_nmi hm (fun v3 hm => ?_)
        refine lv_istore_n (lv' := [(1, .int v3), (0, .int x0), (2, .int x2)]) hx hb d_Field_timesG_35 rfl hl (by decide) rfl (fun ls hl => ?_)
        obtain ⟨v4, ev, hm⟩ := nm_el hm
        refine lv_iinc (v := v4) (lv' := [(2, .int v4), (1, .int v3), (0, .int x0)]) hx hb d_Field_timesG_36 hl (k := 2) rfl (by rw [ev]; rfl) (by decide) rfl (fun ls hl => ?_)
        refine lv_goto (tgt := 5) hx hb d_Field_timesG_39 (by decide) ?_
        exact ih5 x0 v3 v4 hm _ _ hP hD hS _ (lv_sub hl [2, 1, 0] rfl)
  unfold f_Field_timesG at hm
  refine lv_iconst (v := (0 : Int32)) hx hb d_Field_timesG_0 (by decide) ?_
  refine lv_istore_n (lv' := [(1, .int (0 : Int32)), (0, .int x0)]) hx hb d_Field_timesG_1 rfl hl (by decide) rfl (fun ls hl => ?_)
  refine lv_bipush (v := (7 : Int32)) hx hb d_Field_timesG_2 (by decide) ?_
  refine lv_istore_n (lv' := [(2, .int (7 : Int32)), (1, .int (0 : Int32)), (0, .int x0)]) hx hb d_Field_timesG_4 rfl hl (by decide) rfl (fun ls hl => ?_)
  exact T5 10000 x0 (0 : Int32) (7 : Int32) hm _ _ hP hD hS _ (lv_sub hl [2, 1, 0] rfl)
-- DeepChannel$Field.powerOfG(I)I
abbrev b_Field_powerOfG : ByteArray := prog_4_method_3_code
abbrev y_Field_powerOfG : MethodName := ⟨"DeepChannel$Field", "powerOfG", "(I)I"⟩
theorem d_Field_powerOfG_0 : decode b_Field_powerOfG 0 = .ok (.iload_n 1, 1) := by decide +kernel
theorem d_Field_powerOfG_1 : decode b_Field_powerOfG 1 = .ok (.sipush 255, 3) := by decide +kernel
theorem d_Field_powerOfG_4 : decode b_Field_powerOfG 4 = .ok (.irem, 1) := by decide +kernel
theorem d_Field_powerOfG_5 : decode b_Field_powerOfG 5 = .ok (.istore_n 2, 1) := by decide +kernel
theorem d_Field_powerOfG_6 : decode b_Field_powerOfG 6 = .ok (.aload_n 0, 1) := by decide +kernel
theorem d_Field_powerOfG_7 : decode b_Field_powerOfG 7 = .ok (.getfield 9, 3) := by decide +kernel
theorem d_Field_powerOfG_10 : decode b_Field_powerOfG 10 = .ok (.iload_n 2, 1) := by decide +kernel
theorem d_Field_powerOfG_11 : decode b_Field_powerOfG 11 = .ok (.ifCond .ge 11, 3) := by decide +kernel
theorem d_Field_powerOfG_14 : decode b_Field_powerOfG 14 = .ok (.iload_n 2, 1) := by decide +kernel
theorem d_Field_powerOfG_15 : decode b_Field_powerOfG 15 = .ok (.sipush 255, 3) := by decide +kernel
theorem d_Field_powerOfG_18 : decode b_Field_powerOfG 18 = .ok (.iadd, 1) := by decide +kernel
theorem d_Field_powerOfG_19 : decode b_Field_powerOfG 19 = .ok (.goto 4, 3) := by decide +kernel
theorem d_Field_powerOfG_22 : decode b_Field_powerOfG 22 = .ok (.iload_n 2, 1) := by decide +kernel
theorem d_Field_powerOfG_23 : decode b_Field_powerOfG 23 = .ok (.iaload, 1) := by decide +kernel
theorem d_Field_powerOfG_24 : decode b_Field_powerOfG 24 = .ok (.ireturn, 1) := by decide +kernel
theorem ok_Field_powerOfG : OKv y_Field_powerOfG b_Field_powerOfG 3 (some .int) "DeepChannel$Field" 1 := ⟨k_163, k_161, k_162, k_45, by decide +kernel, by decide +kernel, by decide +kernel⟩
abbrev w_Field_powerOfG (cI cJ : ClassId) (qFd qFd_powers : Nat) (Fd_logs Fd_otherForms Fd_elements : Value) (Fd_powers : Nat → Int32) : va_W := [(qFd, .inr (2, [.ref qFd_powers, Fd_logs, Fd_otherForms, Fd_elements])), (qFd_powers, .inl (cI, 255, .inl Fd_powers))]
def f_Field_powerOfG (Fd_powers : Nat → Int32) (x1 : Int32) : Option (Int32) :=
  dv (255 : Int32) <|
  nm (x1 - x1 / (255 : Int32) * (255 : Int32)) fun v1 =>
  if 0 ≤ v1 then
    rdI Fd_powers 255 v1 fun v2 =>
    some v2
  else
  rdI Fd_powers 255 (v1 + (255 : Int32)) fun v3 =>
  some v3
set_option maxHeartbeats 4000000 in
set_option maxRecDepth 100000 in
theorem c_Field_powerOfG (l : Launch) (D : va_G) (cI cJ : ClassId) (tt : Nat → Nat) (qFd qFd_powers : Nat) (Fd_logs Fd_otherForms Fd_elements : Value) (sz : Nat) (Fd_powers : Nat → Int32) (x1 : Int32) (rr : Int32) (hm : f_Field_powerOfG Fd_powers x1 = some rr) : CTi l y_Field_powerOfG b_Field_powerOfG 3 (some .int) (RM 0 0) D cI cJ tt [.ref qFd, .int x1] (w_Field_powerOfG cI cJ qFd qFd_powers Fd_logs Fd_otherForms Fd_elements Fd_powers) (w_Field_powerOfG cI cJ qFd qFd_powers Fd_logs Fd_otherForms Fd_elements Fd_powers) sz rr := by
  refine Met.ofW (cc := b_Field_powerOfG) (maxL := 3) (ret := (some .int)) (by decide) rfl ?_
  intro p e s m args below meth c s₁ B hml hv
  obtain ⟨hargs, hsz, hP, hK, hD0, hE⟩ := hv
  have hx := B.exec
  have hb := B.bytes
  have hr := B.returns
  have hts : ∀ w ∈ TB, w.before args s = true := z_mV s (atoms_spec (ws := WD y_Field_powerOfG b_Field_powerOfG 3 (some .int)) B.pre)
  have hown : s.vm.findClass "DeepChannel$Field" = some m.cls := findClass_of_methodNamed B.named
  have hlocks := B.notSynchronized
  subst hsz
  have hD := hD0.self (sz := s.heap.size)
  generalize hAe : va_A (w_Field_powerOfG cI cJ qFd qFd_powers Fd_logs Fd_otherForms Fd_elements Fd_powers) s.heap.size = A at hD hE ⊢
  have hA : ∀ q : Nat, s.heap.size ≤ q → A q := fun q h => by rw [← hAe]; exact Or.inr h
  have hS : va_S A s.heap s.heap [] := va_S.rf
  refine z_entry (vs := [.ref qFd, .int x1]) hargs (Nat.le_of_ble_eq_true rfl) (fun ls hl => ?_)
  have hl : lv_has ls 3 [(0, .ref qFd), (1, .int x1)] := hl
  show W p l e (RM 0 0) s m args below meth c s.heap [] 0 0 _ _
  refine z_qi (fun Q0 hQ => ?_)
  have F : CallFix p m c b_Field_powerOfG 3 s args TB "DeepChannel$Field" := ⟨hx, hb, hml, hown, hts⟩
  unfold f_Field_powerOfG at hm
  refine lv_iload_n hx hb d_Field_powerOfG_0 rfl (lv_at hl 1 rfl) ?_
  refine lv_sipush (v := (255 : Int32)) hx hb d_Field_powerOfG_1 (by decide) ?_
  refine z_irem hm hx hb d_Field_powerOfG_4 (fun hm => ?_)
  refine z_nmi hm (fun v1 hm => ?_)
  refine lv_istore_n (lv' := [(2, .int v1), (0, .ref qFd), (1, .int x1)]) hx hb d_Field_powerOfG_5 rfl hl (by decide) rfl (fun ls hl => ?_)
  refine lv_aload_n hx hb d_Field_powerOfG_6 rfl (lv_at hl 1 rfl) ?_
  refine va_get (D := D) (ci := 2) (v := .ref qFd_powers) (C := "DeepChannel$Field") (T := fT_Field) (N := 4) hx hb hts u_Field hown hK hP 0 rfl rfl 0 (by decide) (hts _ k_110) (fun _ h9 => h9) rfl d_Field_powerOfG_7 ?_
  refine lv_iload_n hx hb d_Field_powerOfG_10 rfl (lv_at hl 0 rfl) ?_
  refine z_if hm (lv_if_ge (tgt := 22) hx hb d_Field_powerOfG_11 (by decide)) (fun hm => ?_) (fun hm => ?_)
  · refine lv_iload_n hx hb d_Field_powerOfG_22 rfl (lv_at hl 0 rfl) ?_
    refine z_iald hm hx hb hK hP 1 rfl d_Field_powerOfG_23 (fun v2 hm => ?_)
    cases hm
    exact z_qo hQ (z_ireti hr hx hb hlocks hK hP hD hS d_Field_powerOfG_24)
  · refine lv_iload_n hx hb d_Field_powerOfG_14 rfl (lv_at hl 0 rfl) ?_
    refine lv_sipush (v := (255 : Int32)) hx hb d_Field_powerOfG_15 (by decide) ?_
    refine lv_iadd hx hb d_Field_powerOfG_18 ?_
    refine lv_goto (tgt := 23) hx hb d_Field_powerOfG_19 (by decide) ?_
    refine z_iald hm hx hb hK hP 1 rfl d_Field_powerOfG_23 (fun v3 hm => ?_)
    cases hm
    exact z_qo hQ (z_ireti hr hx hb hlocks hK hP hD hS d_Field_powerOfG_24)
-- DeepChannel$Field.product(II)I
abbrev b_Field_product : ByteArray := prog_4_method_4_code
abbrev y_Field_product : MethodName := ⟨"DeepChannel$Field", "product", "(II)I"⟩
theorem d_Field_product_0 : decode b_Field_product 0 = .ok (.iload_n 1, 1) := by decide +kernel
theorem d_Field_product_1 : decode b_Field_product 1 = .ok (.ifCond .eq 7, 3) := by decide +kernel
theorem d_Field_product_4 : decode b_Field_product 4 = .ok (.iload_n 2, 1) := by decide +kernel
theorem d_Field_product_5 : decode b_Field_product 5 = .ok (.ifCond .ne 5, 3) := by decide +kernel
theorem d_Field_product_8 : decode b_Field_product 8 = .ok (.iconst 0, 1) := by decide +kernel
theorem d_Field_product_9 : decode b_Field_product 9 = .ok (.ireturn, 1) := by decide +kernel
theorem d_Field_product_10 : decode b_Field_product 10 = .ok (.aload_n 0, 1) := by decide +kernel
theorem d_Field_product_11 : decode b_Field_product 11 = .ok (.getfield 9, 3) := by decide +kernel
theorem d_Field_product_14 : decode b_Field_product 14 = .ok (.aload_n 0, 1) := by decide +kernel
theorem d_Field_product_15 : decode b_Field_product 15 = .ok (.getfield 13, 3) := by decide +kernel
theorem d_Field_product_18 : decode b_Field_product 18 = .ok (.iload_n 1, 1) := by decide +kernel
theorem d_Field_product_19 : decode b_Field_product 19 = .ok (.sipush 255, 3) := by decide +kernel
theorem d_Field_product_22 : decode b_Field_product 22 = .ok (.iand, 1) := by decide +kernel
theorem d_Field_product_23 : decode b_Field_product 23 = .ok (.iaload, 1) := by decide +kernel
theorem d_Field_product_24 : decode b_Field_product 24 = .ok (.aload_n 0, 1) := by decide +kernel
theorem d_Field_product_25 : decode b_Field_product 25 = .ok (.getfield 13, 3) := by decide +kernel
theorem d_Field_product_28 : decode b_Field_product 28 = .ok (.iload_n 2, 1) := by decide +kernel
theorem d_Field_product_29 : decode b_Field_product 29 = .ok (.sipush 255, 3) := by decide +kernel
theorem d_Field_product_32 : decode b_Field_product 32 = .ok (.iand, 1) := by decide +kernel
theorem d_Field_product_33 : decode b_Field_product 33 = .ok (.iaload, 1) := by decide +kernel
theorem d_Field_product_34 : decode b_Field_product 34 = .ok (.iadd, 1) := by decide +kernel
theorem d_Field_product_35 : decode b_Field_product 35 = .ok (.sipush 255, 3) := by decide +kernel
theorem d_Field_product_38 : decode b_Field_product 38 = .ok (.irem, 1) := by decide +kernel
theorem d_Field_product_39 : decode b_Field_product 39 = .ok (.iaload, 1) := by decide +kernel
theorem d_Field_product_40 : decode b_Field_product 40 = .ok (.ireturn, 1) := by decide +kernel
theorem ok_Field_product : OKv y_Field_product b_Field_product 3 (some .int) "DeepChannel$Field" 2 := ⟨k_167, k_165, k_166, k_45, by decide +kernel, by decide +kernel, by decide +kernel⟩
abbrev w_Field_product (cI cJ : ClassId) (qFd qFd_logs qFd_powers : Nat) (Fd_otherForms Fd_elements : Value) (Fd_logs : Nat → Int32) (Fd_powers : Nat → Int32) : va_W := [(qFd, .inr (2, [.ref qFd_powers, .ref qFd_logs, Fd_otherForms, Fd_elements])), (qFd_logs, .inl (cI, 256, .inl Fd_logs)), (qFd_powers, .inl (cI, 255, .inl Fd_powers))]
def f_Field_product (Fd_logs : Nat → Int32) (Fd_powers : Nat → Int32) (x1 : Int32) (x2 : Int32) : Option (Int32) :=
  if x1 = 0 then
    some (0 : Int32)
  else
  if x2 = 0 then
    some (0 : Int32)
  else
  rdI Fd_logs 256 (x1 &&& (255 : Int32)) fun v1 =>
  rdI Fd_logs 256 (x2 &&& (255 : Int32)) fun v2 =>
  dv (255 : Int32) <|
  rdI Fd_powers 255 ((v1 + v2) - (v1 + v2) / (255 : Int32) * (255 : Int32)) fun v3 =>
  some v3
set_option maxHeartbeats 4000000 in
set_option maxRecDepth 100000 in
theorem c_Field_product (l : Launch) (D : va_G) (cI cJ : ClassId) (tt : Nat → Nat) (qFd qFd_logs qFd_powers : Nat) (Fd_otherForms Fd_elements : Value) (sz : Nat) (Fd_logs : Nat → Int32) (Fd_powers : Nat → Int32) (x1 : Int32) (x2 : Int32) (rr : Int32) (hm : f_Field_product Fd_logs Fd_powers x1 x2 = some rr) : CTi l y_Field_product b_Field_product 3 (some .int) (RM 0 0) D cI cJ tt [.ref qFd, .int x1, .int x2] (w_Field_product cI cJ qFd qFd_logs qFd_powers Fd_otherForms Fd_elements Fd_logs Fd_powers) (w_Field_product cI cJ qFd qFd_logs qFd_powers Fd_otherForms Fd_elements Fd_logs Fd_powers) sz rr := by
  refine Met.ofW (cc := b_Field_product) (maxL := 3) (ret := (some .int)) (by decide) rfl ?_
  intro p e s m args below meth c s₁ B hml hv
  obtain ⟨hargs, hsz, hP, hK, hD0, hE⟩ := hv
  have hx := B.exec
  have hb := B.bytes
  have hr := B.returns
  have hts : ∀ w ∈ TB, w.before args s = true := z_mV s (atoms_spec (ws := WD y_Field_product b_Field_product 3 (some .int)) B.pre)
  have hown : s.vm.findClass "DeepChannel$Field" = some m.cls := findClass_of_methodNamed B.named
  have hlocks := B.notSynchronized
  subst hsz
  have hD := hD0.self (sz := s.heap.size)
  generalize hAe : va_A (w_Field_product cI cJ qFd qFd_logs qFd_powers Fd_otherForms Fd_elements Fd_logs Fd_powers) s.heap.size = A at hD hE ⊢
  have hA : ∀ q : Nat, s.heap.size ≤ q → A q := fun q h => by rw [← hAe]; exact Or.inr h
  have hS : va_S A s.heap s.heap [] := va_S.rf
  refine z_entry (vs := [.ref qFd, .int x1, .int x2]) hargs (Nat.le_of_ble_eq_true rfl) (fun ls hl => ?_)
  have hl : lv_has ls 3 [(0, .ref qFd), (1, .int x1), (2, .int x2)] := hl
  show W p l e (RM 0 0) s m args below meth c s.heap [] 0 0 _ _
  refine z_qi (fun Q0 hQ => ?_)
  have F : CallFix p m c b_Field_product 3 s args TB "DeepChannel$Field" := ⟨hx, hb, hml, hown, hts⟩
  unfold f_Field_product at hm
  refine lv_iload_n hx hb d_Field_product_0 rfl (lv_at hl 1 rfl) ?_
  refine z_if hm (lv_if_eq (tgt := 8) hx hb d_Field_product_1 (by decide)) (fun hm => ?_) (fun hm => ?_)
  · refine lv_iconst (v := (0 : Int32)) hx hb d_Field_product_8 (by decide) ?_
    cases hm
    exact z_qo hQ (z_ireti hr hx hb hlocks hK hP hD hS d_Field_product_9)
  · refine lv_iload_n hx hb d_Field_product_4 rfl (lv_at hl 2 rfl) ?_
    refine z_ifn hm (lv_if_ne (tgt := 10) hx hb d_Field_product_5 (by decide)) (fun hm => ?_) (fun hm => ?_)
    · refine lv_iconst (v := (0 : Int32)) hx hb d_Field_product_8 (by decide) ?_
      cases hm
      exact z_qo hQ (z_ireti hr hx hb hlocks hK hP hD hS d_Field_product_9)
    · refine lv_aload_n hx hb d_Field_product_10 rfl (lv_at hl 0 rfl) ?_
      refine va_get (D := D) (ci := 2) (v := .ref qFd_powers) (C := "DeepChannel$Field") (T := fT_Field) (N := 4) hx hb hts u_Field hown hK hP 0 rfl rfl 0 (by decide) (hts _ k_110) (fun _ h9 => h9) rfl d_Field_product_11 ?_
      refine lv_aload_n hx hb d_Field_product_14 rfl (lv_at hl 0 rfl) ?_
      refine va_get (D := D) (ci := 2) (v := .ref qFd_logs) (C := "DeepChannel$Field") (T := fT_Field) (N := 4) hx hb hts u_Field hown hK hP 0 rfl rfl 1 (by decide) (hts _ k_111) (fun _ h9 => h9) rfl d_Field_product_15 ?_
      refine lv_iload_n hx hb d_Field_product_18 rfl (lv_at hl 1 rfl) ?_
      refine lv_sipush (v := (255 : Int32)) hx hb d_Field_product_19 (by decide) ?_
      refine lv_iand hx hb d_Field_product_22 ?_
      refine z_iald hm hx hb hK hP 1 rfl d_Field_product_23 (fun v1 hm => ?_)
      refine lv_aload_n hx hb d_Field_product_24 rfl (lv_at hl 0 rfl) ?_
      refine va_get (D := D) (ci := 2) (v := .ref qFd_logs) (C := "DeepChannel$Field") (T := fT_Field) (N := 4) hx hb hts u_Field hown hK hP 0 rfl rfl 1 (by decide) (hts _ k_111) (fun _ h9 => h9) rfl d_Field_product_25 ?_
      refine lv_iload_n hx hb d_Field_product_28 rfl (lv_at hl 2 rfl) ?_
      refine lv_sipush (v := (255 : Int32)) hx hb d_Field_product_29 (by decide) ?_
      refine lv_iand hx hb d_Field_product_32 ?_
      refine z_iald hm hx hb hK hP 1 rfl d_Field_product_33 (fun v2 hm => ?_)
      refine lv_iadd hx hb d_Field_product_34 ?_
      refine lv_sipush (v := (255 : Int32)) hx hb d_Field_product_35 (by decide) ?_
      refine z_irem hm hx hb d_Field_product_38 (fun hm => ?_)
      refine z_iald hm hx hb hK hP 2 rfl d_Field_product_39 (fun v3 hm => ?_)
      cases hm
      exact z_qo hQ (z_ireti hr hx hb hlocks hK hP hD hS d_Field_product_40)
-- DeepChannel$Field.quotient(II)I
abbrev b_Field_quotient : ByteArray := prog_4_method_5_code
abbrev y_Field_quotient : MethodName := ⟨"DeepChannel$Field", "quotient", "(II)I"⟩
theorem d_Field_quotient_0 : decode b_Field_quotient 0 = .ok (.iload_n 1, 1) := by decide +kernel
theorem d_Field_quotient_1 : decode b_Field_quotient 1 = .ok (.ifCond .eq 7, 3) := by decide +kernel
theorem d_Field_quotient_4 : decode b_Field_quotient 4 = .ok (.iload_n 2, 1) := by decide +kernel
theorem d_Field_quotient_5 : decode b_Field_quotient 5 = .ok (.ifCond .ne 5, 3) := by decide +kernel
theorem d_Field_quotient_8 : decode b_Field_quotient 8 = .ok (.iconst 0, 1) := by decide +kernel
theorem d_Field_quotient_9 : decode b_Field_quotient 9 = .ok (.ireturn, 1) := by decide +kernel
theorem d_Field_quotient_10 : decode b_Field_quotient 10 = .ok (.aload_n 0, 1) := by decide +kernel
theorem d_Field_quotient_11 : decode b_Field_quotient 11 = .ok (.getfield 9, 3) := by decide +kernel
theorem d_Field_quotient_14 : decode b_Field_quotient 14 = .ok (.aload_n 0, 1) := by decide +kernel
theorem d_Field_quotient_15 : decode b_Field_quotient 15 = .ok (.getfield 13, 3) := by decide +kernel
theorem d_Field_quotient_18 : decode b_Field_quotient 18 = .ok (.iload_n 1, 1) := by decide +kernel
theorem d_Field_quotient_19 : decode b_Field_quotient 19 = .ok (.sipush 255, 3) := by decide +kernel
theorem d_Field_quotient_22 : decode b_Field_quotient 22 = .ok (.iand, 1) := by decide +kernel
theorem d_Field_quotient_23 : decode b_Field_quotient 23 = .ok (.iaload, 1) := by decide +kernel
theorem d_Field_quotient_24 : decode b_Field_quotient 24 = .ok (.sipush 255, 3) := by decide +kernel
theorem d_Field_quotient_27 : decode b_Field_quotient 27 = .ok (.iadd, 1) := by decide +kernel
theorem d_Field_quotient_28 : decode b_Field_quotient 28 = .ok (.aload_n 0, 1) := by decide +kernel
theorem d_Field_quotient_29 : decode b_Field_quotient 29 = .ok (.getfield 13, 3) := by decide +kernel
theorem d_Field_quotient_32 : decode b_Field_quotient 32 = .ok (.iload_n 2, 1) := by decide +kernel
theorem d_Field_quotient_33 : decode b_Field_quotient 33 = .ok (.sipush 255, 3) := by decide +kernel
theorem d_Field_quotient_36 : decode b_Field_quotient 36 = .ok (.iand, 1) := by decide +kernel
theorem d_Field_quotient_37 : decode b_Field_quotient 37 = .ok (.iaload, 1) := by decide +kernel
theorem d_Field_quotient_38 : decode b_Field_quotient 38 = .ok (.isub, 1) := by decide +kernel
theorem d_Field_quotient_39 : decode b_Field_quotient 39 = .ok (.sipush 255, 3) := by decide +kernel
theorem d_Field_quotient_42 : decode b_Field_quotient 42 = .ok (.irem, 1) := by decide +kernel
theorem d_Field_quotient_43 : decode b_Field_quotient 43 = .ok (.iaload, 1) := by decide +kernel
theorem d_Field_quotient_44 : decode b_Field_quotient 44 = .ok (.ireturn, 1) := by decide +kernel
theorem ok_Field_quotient : OKv y_Field_quotient b_Field_quotient 3 (some .int) "DeepChannel$Field" 2 := ⟨k_778, k_776, k_777, k_45, by decide +kernel, by decide +kernel, by decide +kernel⟩
abbrev w_Field_quotient (cI cJ : ClassId) (qFd qFd_logs qFd_powers : Nat) (Fd_otherForms Fd_elements : Value) (Fd_logs : Nat → Int32) (Fd_powers : Nat → Int32) : va_W := [(qFd, .inr (2, [.ref qFd_powers, .ref qFd_logs, Fd_otherForms, Fd_elements])), (qFd_logs, .inl (cI, 256, .inl Fd_logs)), (qFd_powers, .inl (cI, 255, .inl Fd_powers))]
def f_Field_quotient (Fd_logs : Nat → Int32) (Fd_powers : Nat → Int32) (x1 : Int32) (x2 : Int32) : Option (Int32) :=
  if x1 = 0 then
    some (0 : Int32)
  else
  if x2 = 0 then
    some (0 : Int32)
  else
  rdI Fd_logs 256 (x1 &&& (255 : Int32)) fun v1 =>
  rdI Fd_logs 256 (x2 &&& (255 : Int32)) fun v2 =>
  dv (255 : Int32) <|
  rdI Fd_powers 255 (((v1 + (255 : Int32)) - v2) - ((v1 + (255 : Int32)) - v2) / (255 : Int32) * (255 : Int32)) fun v3 =>
  some v3
set_option maxHeartbeats 4000000 in
set_option maxRecDepth 100000 in
theorem c_Field_quotient (l : Launch) (D : va_G) (cI cJ : ClassId) (tt : Nat → Nat) (qFd qFd_logs qFd_powers : Nat) (Fd_otherForms Fd_elements : Value) (sz : Nat) (Fd_logs : Nat → Int32) (Fd_powers : Nat → Int32) (x1 : Int32) (x2 : Int32) (rr : Int32) (hm : f_Field_quotient Fd_logs Fd_powers x1 x2 = some rr) : CTi l y_Field_quotient b_Field_quotient 3 (some .int) (RM 0 0) D cI cJ tt [.ref qFd, .int x1, .int x2] (w_Field_quotient cI cJ qFd qFd_logs qFd_powers Fd_otherForms Fd_elements Fd_logs Fd_powers) (w_Field_quotient cI cJ qFd qFd_logs qFd_powers Fd_otherForms Fd_elements Fd_logs Fd_powers) sz rr := by
  refine Met.ofW (cc := b_Field_quotient) (maxL := 3) (ret := (some .int)) (by decide) rfl ?_
  intro p e s m args below meth c s₁ B hml hv
  obtain ⟨hargs, hsz, hP, hK, hD0, hE⟩ := hv
  have hx := B.exec
  have hb := B.bytes
  have hr := B.returns
  have hts : ∀ w ∈ TB, w.before args s = true := z_mV s (atoms_spec (ws := WD y_Field_quotient b_Field_quotient 3 (some .int)) B.pre)
  have hown : s.vm.findClass "DeepChannel$Field" = some m.cls := findClass_of_methodNamed B.named
  have hlocks := B.notSynchronized
  subst hsz
  have hD := hD0.self (sz := s.heap.size)
  generalize hAe : va_A (w_Field_quotient cI cJ qFd qFd_logs qFd_powers Fd_otherForms Fd_elements Fd_logs Fd_powers) s.heap.size = A at hD hE ⊢
  have hA : ∀ q : Nat, s.heap.size ≤ q → A q := fun q h => by rw [← hAe]; exact Or.inr h
  have hS : va_S A s.heap s.heap [] := va_S.rf
  refine z_entry (vs := [.ref qFd, .int x1, .int x2]) hargs (Nat.le_of_ble_eq_true rfl) (fun ls hl => ?_)
  have hl : lv_has ls 3 [(0, .ref qFd), (1, .int x1), (2, .int x2)] := hl
  show W p l e (RM 0 0) s m args below meth c s.heap [] 0 0 _ _
  refine z_qi (fun Q0 hQ => ?_)
  have F : CallFix p m c b_Field_quotient 3 s args TB "DeepChannel$Field" := ⟨hx, hb, hml, hown, hts⟩
  unfold f_Field_quotient at hm
  refine lv_iload_n hx hb d_Field_quotient_0 rfl (lv_at hl 1 rfl) ?_
  refine z_if hm (lv_if_eq (tgt := 8) hx hb d_Field_quotient_1 (by decide)) (fun hm => ?_) (fun hm => ?_)
  · refine lv_iconst (v := (0 : Int32)) hx hb d_Field_quotient_8 (by decide) ?_
    cases hm
    exact z_qo hQ (z_ireti hr hx hb hlocks hK hP hD hS d_Field_quotient_9)
  · refine lv_iload_n hx hb d_Field_quotient_4 rfl (lv_at hl 2 rfl) ?_
    refine z_ifn hm (lv_if_ne (tgt := 10) hx hb d_Field_quotient_5 (by decide)) (fun hm => ?_) (fun hm => ?_)
    · refine lv_iconst (v := (0 : Int32)) hx hb d_Field_quotient_8 (by decide) ?_
      cases hm
      exact z_qo hQ (z_ireti hr hx hb hlocks hK hP hD hS d_Field_quotient_9)
    · refine lv_aload_n hx hb d_Field_quotient_10 rfl (lv_at hl 0 rfl) ?_
      refine va_get (D := D) (ci := 2) (v := .ref qFd_powers) (C := "DeepChannel$Field") (T := fT_Field) (N := 4) hx hb hts u_Field hown hK hP 0 rfl rfl 0 (by decide) (hts _ k_110) (fun _ h9 => h9) rfl d_Field_quotient_11 ?_
      refine lv_aload_n hx hb d_Field_quotient_14 rfl (lv_at hl 0 rfl) ?_
      refine va_get (D := D) (ci := 2) (v := .ref qFd_logs) (C := "DeepChannel$Field") (T := fT_Field) (N := 4) hx hb hts u_Field hown hK hP 0 rfl rfl 1 (by decide) (hts _ k_111) (fun _ h9 => h9) rfl d_Field_quotient_15 ?_
      refine lv_iload_n hx hb d_Field_quotient_18 rfl (lv_at hl 1 rfl) ?_
      refine lv_sipush (v := (255 : Int32)) hx hb d_Field_quotient_19 (by decide) ?_
      refine lv_iand hx hb d_Field_quotient_22 ?_
      refine z_iald hm hx hb hK hP 1 rfl d_Field_quotient_23 (fun v1 hm => ?_)
      refine lv_sipush (v := (255 : Int32)) hx hb d_Field_quotient_24 (by decide) ?_
      refine lv_iadd hx hb d_Field_quotient_27 ?_
      refine lv_aload_n hx hb d_Field_quotient_28 rfl (lv_at hl 0 rfl) ?_
      refine va_get (D := D) (ci := 2) (v := .ref qFd_logs) (C := "DeepChannel$Field") (T := fT_Field) (N := 4) hx hb hts u_Field hown hK hP 0 rfl rfl 1 (by decide) (hts _ k_111) (fun _ h9 => h9) rfl d_Field_quotient_29 ?_
      refine lv_iload_n hx hb d_Field_quotient_32 rfl (lv_at hl 2 rfl) ?_
      refine lv_sipush (v := (255 : Int32)) hx hb d_Field_quotient_33 (by decide) ?_
      refine lv_iand hx hb d_Field_quotient_36 ?_
      refine z_iald hm hx hb hK hP 1 rfl d_Field_quotient_37 (fun v2 hm => ?_)
      refine lv_isub hx hb d_Field_quotient_38 ?_
      refine lv_sipush (v := (255 : Int32)) hx hb d_Field_quotient_39 (by decide) ?_
      refine z_irem hm hx hb d_Field_quotient_42 (fun hm => ?_)
      refine z_iald hm hx hb hK hP 2 rfl d_Field_quotient_43 (fun v3 hm => ?_)
      cases hm
      exact z_qo hQ (z_ireti hr hx hb hlocks hK hP hD hS d_Field_quotient_44)
-- DeepChannel$Field.otherForm(I)I
abbrev b_Field_otherForm : ByteArray := prog_4_method_6_code
abbrev y_Field_otherForm : MethodName := ⟨"DeepChannel$Field", "otherForm", "(I)I"⟩
theorem d_Field_otherForm_0 : decode b_Field_otherForm 0 = .ok (.aload_n 0, 1) := by decide +kernel
theorem d_Field_otherForm_1 : decode b_Field_otherForm 1 = .ok (.getfield 16, 3) := by decide +kernel
theorem d_Field_otherForm_4 : decode b_Field_otherForm 4 = .ok (.iload_n 1, 1) := by decide +kernel
theorem d_Field_otherForm_5 : decode b_Field_otherForm 5 = .ok (.sipush 255, 3) := by decide +kernel
theorem d_Field_otherForm_8 : decode b_Field_otherForm 8 = .ok (.iand, 1) := by decide +kernel
theorem d_Field_otherForm_9 : decode b_Field_otherForm 9 = .ok (.iaload, 1) := by decide +kernel
theorem d_Field_otherForm_10 : decode b_Field_otherForm 10 = .ok (.ireturn, 1) := by decide +kernel
theorem ok_Field_otherForm : OKv y_Field_otherForm b_Field_otherForm 2 (some .int) "DeepChannel$Field" 1 := ⟨k_635, k_633, k_634, k_45, by decide +kernel, by decide +kernel, by decide +kernel⟩
abbrev w_Field_otherForm (cI cJ : ClassId) (qFd qFd_otherForms : Nat) (Fd_powers Fd_logs Fd_elements : Value) (Fd_otherForms : Nat → Int32) : va_W := [(qFd, .inr (2, [Fd_powers, Fd_logs, .ref qFd_otherForms, Fd_elements])), (qFd_otherForms, .inl (cI, 256, .inl Fd_otherForms))]
def f_Field_otherForm (Fd_otherForms : Nat → Int32) (x1 : Int32) : Option (Int32) :=
  rdI Fd_otherForms 256 (x1 &&& (255 : Int32)) fun v1 =>
  some v1
set_option maxHeartbeats 4000000 in
set_option maxRecDepth 100000 in
theorem c_Field_otherForm (l : Launch) (D : va_G) (cI cJ : ClassId) (tt : Nat → Nat) (qFd qFd_otherForms : Nat) (Fd_powers Fd_logs Fd_elements : Value) (sz : Nat) (Fd_otherForms : Nat → Int32) (x1 : Int32) (rr : Int32) (hm : f_Field_otherForm Fd_otherForms x1 = some rr) : CTi l y_Field_otherForm b_Field_otherForm 2 (some .int) (RM 0 0) D cI cJ tt [.ref qFd, .int x1] (w_Field_otherForm cI cJ qFd qFd_otherForms Fd_powers Fd_logs Fd_elements Fd_otherForms) (w_Field_otherForm cI cJ qFd qFd_otherForms Fd_powers Fd_logs Fd_elements Fd_otherForms) sz rr := by
  refine Met.ofW (cc := b_Field_otherForm) (maxL := 2) (ret := (some .int)) (by decide) rfl ?_
  intro p e s m args below meth c s₁ B hml hv
  obtain ⟨hargs, hsz, hP, hK, hD0, hE⟩ := hv
  have hx := B.exec
  have hb := B.bytes
  have hr := B.returns
  have hts : ∀ w ∈ TB, w.before args s = true := z_mV s (atoms_spec (ws := WD y_Field_otherForm b_Field_otherForm 2 (some .int)) B.pre)
  have hown : s.vm.findClass "DeepChannel$Field" = some m.cls := findClass_of_methodNamed B.named
  have hlocks := B.notSynchronized
  subst hsz
  have hD := hD0.self (sz := s.heap.size)
  generalize hAe : va_A (w_Field_otherForm cI cJ qFd qFd_otherForms Fd_powers Fd_logs Fd_elements Fd_otherForms) s.heap.size = A at hD hE ⊢
  have hA : ∀ q : Nat, s.heap.size ≤ q → A q := fun q h => by rw [← hAe]; exact Or.inr h
  have hS : va_S A s.heap s.heap [] := va_S.rf
  refine z_entry (vs := [.ref qFd, .int x1]) hargs (Nat.le_of_ble_eq_true rfl) (fun ls hl => ?_)
  have hl : lv_has ls 2 [(0, .ref qFd), (1, .int x1)] := hl
  show W p l e (RM 0 0) s m args below meth c s.heap [] 0 0 _ _
  refine z_qi (fun Q0 hQ => ?_)
  have F : CallFix p m c b_Field_otherForm 2 s args TB "DeepChannel$Field" := ⟨hx, hb, hml, hown, hts⟩
  unfold f_Field_otherForm at hm
  refine lv_aload_n hx hb d_Field_otherForm_0 rfl (lv_at hl 0 rfl) ?_
  refine va_get (D := D) (ci := 2) (v := .ref qFd_otherForms) (C := "DeepChannel$Field") (T := fT_Field) (N := 4) hx hb hts u_Field hown hK hP 0 rfl rfl 2 (by decide) (hts _ k_112) (fun _ h9 => h9) rfl d_Field_otherForm_1 ?_
  refine lv_iload_n hx hb d_Field_otherForm_4 rfl (lv_at hl 1 rfl) ?_
  refine lv_sipush (v := (255 : Int32)) hx hb d_Field_otherForm_5 (by decide) ?_
  refine lv_iand hx hb d_Field_otherForm_8 ?_
  refine z_iald hm hx hb hK hP 1 rfl d_Field_otherForm_9 (fun v1 hm => ?_)
  cases hm
  exact z_qo hQ (z_ireti hr hx hb hlocks hK hP hD hS d_Field_otherForm_10)
-- DeepChannel$Field.element(I)I
abbrev b_Field_element : ByteArray := prog_4_method_7_code
abbrev y_Field_element : MethodName := ⟨"DeepChannel$Field", "element", "(I)I"⟩
theorem d_Field_element_0 : decode b_Field_element 0 = .ok (.aload_n 0, 1) := by decide +kernel
theorem d_Field_element_1 : decode b_Field_element 1 = .ok (.getfield 19, 3) := by decide +kernel
theorem d_Field_element_4 : decode b_Field_element 4 = .ok (.iload_n 1, 1) := by decide +kernel
theorem d_Field_element_5 : decode b_Field_element 5 = .ok (.sipush 255, 3) := by decide +kernel
theorem d_Field_element_8 : decode b_Field_element 8 = .ok (.iand, 1) := by decide +kernel
theorem d_Field_element_9 : decode b_Field_element 9 = .ok (.iaload, 1) := by decide +kernel
theorem d_Field_element_10 : decode b_Field_element 10 = .ok (.ireturn, 1) := by decide +kernel
theorem ok_Field_element : OKv y_Field_element b_Field_element 2 (some .int) "DeepChannel$Field" 1 := ⟨k_631, k_629, k_630, k_45, by decide +kernel, by decide +kernel, by decide +kernel⟩
abbrev w_Field_element (cI cJ : ClassId) (qFd qFd_elements : Nat) (Fd_powers Fd_logs Fd_otherForms : Value) (Fd_elements : Nat → Int32) : va_W := [(qFd, .inr (2, [Fd_powers, Fd_logs, Fd_otherForms, .ref qFd_elements])), (qFd_elements, .inl (cI, 256, .inl Fd_elements))]
def f_Field_element (Fd_elements : Nat → Int32) (x1 : Int32) : Option (Int32) :=
  rdI Fd_elements 256 (x1 &&& (255 : Int32)) fun v1 =>
  some v1
set_option maxHeartbeats 4000000 in
set_option maxRecDepth 100000 in
theorem c_Field_element (l : Launch) (D : va_G) (cI cJ : ClassId) (tt : Nat → Nat) (qFd qFd_elements : Nat) (Fd_powers Fd_logs Fd_otherForms : Value) (sz : Nat) (Fd_elements : Nat → Int32) (x1 : Int32) (rr : Int32) (hm : f_Field_element Fd_elements x1 = some rr) : CTi l y_Field_element b_Field_element 2 (some .int) (RM 0 0) D cI cJ tt [.ref qFd, .int x1] (w_Field_element cI cJ qFd qFd_elements Fd_powers Fd_logs Fd_otherForms Fd_elements) (w_Field_element cI cJ qFd qFd_elements Fd_powers Fd_logs Fd_otherForms Fd_elements) sz rr := by
  refine Met.ofW (cc := b_Field_element) (maxL := 2) (ret := (some .int)) (by decide) rfl ?_
  intro p e s m args below meth c s₁ B hml hv
  obtain ⟨hargs, hsz, hP, hK, hD0, hE⟩ := hv
  have hx := B.exec
  have hb := B.bytes
  have hr := B.returns
  have hts : ∀ w ∈ TB, w.before args s = true := z_mV s (atoms_spec (ws := WD y_Field_element b_Field_element 2 (some .int)) B.pre)
  have hown : s.vm.findClass "DeepChannel$Field" = some m.cls := findClass_of_methodNamed B.named
  have hlocks := B.notSynchronized
  subst hsz
  have hD := hD0.self (sz := s.heap.size)
  generalize hAe : va_A (w_Field_element cI cJ qFd qFd_elements Fd_powers Fd_logs Fd_otherForms Fd_elements) s.heap.size = A at hD hE ⊢
  have hA : ∀ q : Nat, s.heap.size ≤ q → A q := fun q h => by rw [← hAe]; exact Or.inr h
  have hS : va_S A s.heap s.heap [] := va_S.rf
  refine z_entry (vs := [.ref qFd, .int x1]) hargs (Nat.le_of_ble_eq_true rfl) (fun ls hl => ?_)
  have hl : lv_has ls 2 [(0, .ref qFd), (1, .int x1)] := hl
  show W p l e (RM 0 0) s m args below meth c s.heap [] 0 0 _ _
  refine z_qi (fun Q0 hQ => ?_)
  have F : CallFix p m c b_Field_element 2 s args TB "DeepChannel$Field" := ⟨hx, hb, hml, hown, hts⟩
  unfold f_Field_element at hm
  refine lv_aload_n hx hb d_Field_element_0 rfl (lv_at hl 0 rfl) ?_
  refine va_get (D := D) (ci := 2) (v := .ref qFd_elements) (C := "DeepChannel$Field") (T := fT_Field) (N := 4) hx hb hts u_Field hown hK hP 0 rfl rfl 3 (by decide) (hts _ k_113) (fun _ h9 => h9) rfl d_Field_element_1 ?_
  refine lv_iload_n hx hb d_Field_element_4 rfl (lv_at hl 1 rfl) ?_
  refine lv_sipush (v := (255 : Int32)) hx hb d_Field_element_5 (by decide) ?_
  refine lv_iand hx hb d_Field_element_8 ?_
  refine z_iald hm hx hb hK hP 1 rfl d_Field_element_9 (fun v1 hm => ?_)
  cases hm
  exact z_qo hQ (z_ireti hr hx hb hlocks hK hP hD hS d_Field_element_10)
-- java/util/Arrays.fill([II)V
abbrev b_Arrays_fillI : ByteArray := prog_24_method_103_code
abbrev y_Arrays_fillI : MethodName := ⟨"java/util/Arrays", "fill", "([II)V"⟩
theorem d_Arrays_fillI_0 : decode b_Arrays_fillI 0 = .ok (.iconst 0, 1) := by decide +kernel
theorem d_Arrays_fillI_1 : decode b_Arrays_fillI 1 = .ok (.istore_n 2, 1) := by decide +kernel
theorem d_Arrays_fillI_2 : decode b_Arrays_fillI 2 = .ok (.aload_n 0, 1) := by decide +kernel
theorem d_Arrays_fillI_3 : decode b_Arrays_fillI 3 = .ok (.arraylength, 1) := by decide +kernel
theorem d_Arrays_fillI_4 : decode b_Arrays_fillI 4 = .ok (.istore_n 3, 1) := by decide +kernel
theorem d_Arrays_fillI_5 : decode b_Arrays_fillI 5 = .ok (.iload_n 2, 1) := by decide +kernel
theorem d_Arrays_fillI_6 : decode b_Arrays_fillI 6 = .ok (.iload_n 3, 1) := by decide +kernel
theorem d_Arrays_fillI_7 : decode b_Arrays_fillI 7 = .ok (.if_icmp .ge 13, 3) := by decide +kernel
theorem d_Arrays_fillI_10 : decode b_Arrays_fillI 10 = .ok (.aload_n 0, 1) := by decide +kernel
theorem d_Arrays_fillI_11 : decode b_Arrays_fillI 11 = .ok (.iload_n 2, 1) := by decide +kernel
theorem d_Arrays_fillI_12 : decode b_Arrays_fillI 12 = .ok (.iload_n 1, 1) := by decide +kernel
theorem d_Arrays_fillI_13 : decode b_Arrays_fillI 13 = .ok (.iastore, 1) := by decide +kernel
theorem d_Arrays_fillI_14 : decode b_Arrays_fillI 14 = .ok (.iinc 2 1, 3) := by decide +kernel
theorem d_Arrays_fillI_17 : decode b_Arrays_fillI 17 = .ok (.goto (-12), 3) := by decide +kernel
theorem d_Arrays_fillI_20 : decode b_Arrays_fillI 20 = .ok (.return_, 1) := by decide +kernel
theorem ok_Arrays_fillI : OKs y_Arrays_fillI b_Arrays_fillI 4 none 2 := ⟨k_159, k_158, k_47, by decide +kernel, by decide +kernel, by decide +kernel⟩
abbrev w_Arrays_fillI (cI cJ : ClassId) (qP0 : Nat) (nP0 : Nat) (p0 : Nat → Int32) : va_W := [(qP0, .inl (cI, nP0, .inl p0))]
def f_Arrays_fillI_5_b (nP0 : Nat) (kh5 : Int32 → Int32 → Int32 → (Nat → Int32) → Option ((Nat → Int32))) (x1 : Int32) (x2 : Int32) (x3 : Int32) (p0 : Nat → Int32) : Option ((Nat → Int32)) :=
  if x3 ≤ x2 then
    some p0
  else
  wrI p0 nP0 x2 x1 fun g1 =>
  nm (x2 + (1 : Int32)) fun v2 =>
  kh5 x1 v2 x3 g1
def f_Arrays_fillI_5 (nP0 : Nat) : Nat → Int32 → Int32 → Int32 → (Nat → Int32) → Option ((Nat → Int32))
  | 0 => fun _ _ _ _ => none
  | n + 1 => fun x1 x2 x3 p0 => f_Arrays_fillI_5_b nP0 (f_Arrays_fillI_5 nP0 n) x1 x2 x3 p0
def f_Arrays_fillI (p0 : Nat → Int32) (nP0 : Nat) (x1 : Int32) : Option ((Nat → Int32)) :=
  nm (nI nP0) fun v3 =>
  f_Arrays_fillI_5 nP0 10000 x1 (0 : Int32) v3 p0
set_option maxHeartbeats 4000000 in
set_option maxRecDepth 100000 in
theorem c_Arrays_fillI (l : Launch) (D : va_G) (cI cJ : ClassId) (tt : Nat → Nat) (qP0 : Nat) (nP0 : Nat) (sz : Nat) (p0 : Nat → Int32) (x1 : Int32) (p0' : Nat → Int32) (hm : f_Arrays_fillI p0 nP0 x1 = some p0') : CTv l y_Arrays_fillI b_Arrays_fillI 4 none (RM 0 0) D cI cJ tt [.ref qP0, .int x1] (w_Arrays_fillI cI cJ qP0 nP0 p0) (w_Arrays_fillI cI cJ qP0 nP0 p0') sz := by
  refine Met.ofW (cc := b_Arrays_fillI) (maxL := 4) (ret := none) (by decide) rfl ?_
  intro p e s m args below meth c s₁ B hml hv
  obtain ⟨hargs, hsz, hP, hK, hD0, hE⟩ := hv
  have hx := B.exec
  have hb := B.bytes
  have hr := B.returns
  have hts : ∀ w ∈ TB, w.before args s = true := z_mV s (atoms_spec (ws := WD y_Arrays_fillI b_Arrays_fillI 4 none) B.pre)
  have hown : s.vm.findClass "java/util/Arrays" = some m.cls := findClass_of_methodNamed B.named
  have hlocks := B.notSynchronized
  subst hsz
  have hD := hD0.self (sz := s.heap.size)
  generalize hAe : va_A (w_Arrays_fillI cI cJ qP0 nP0 p0) s.heap.size = A at hD hE ⊢
  have hA : ∀ q : Nat, s.heap.size ≤ q → A q := fun q h => by rw [← hAe]; exact Or.inr h
  have hS : va_S A s.heap s.heap [] := va_S.rf
  refine z_entry (vs := [.ref qP0, .int x1]) hargs (Nat.le_of_ble_eq_true rfl) (fun ls hl => ?_)
  have hl : lv_has ls 4 [(0, .ref qP0), (1, .int x1)] := hl
  show W p l e (RM 0 0) s m args below meth c s.heap [] 0 0 _ _
  refine z_qi (fun Q0 hQ => ?_)
  have F : CallFix p m c b_Arrays_fillI 4 s args TB "java/util/Arrays" := ⟨hx, hb, hml, hown, hts⟩
  have T5 : ∀ (n5 : Nat) (x1 : Int32) (x2 : Int32) (x3 : Int32) (p0 : Nat → Int32), f_Arrays_fillI_5 nP0 n5 x1 x2 x3 p0 = some p0' → ∀ (H : Heap) (locs : List Loc), va_P D classes (w_Arrays_fillI cI cJ qP0 nP0 p0) H → va_D A (w_Arrays_fillI cI cJ qP0 nP0 p0) → va_S A s.heap H locs → ∀ (ls : Array Slot), lv_has ls 4 [(0, .ref qP0), (1, .int x1), (2, .int x2), (3, .int x3)] → W p l e (RM 0 0) s m args below meth c H locs 0 0 Q0 (F0 m 5 ls []) := by
    intro n5
    induction n5 with
    | zero => intro x1 x2 x3 p0 hm; cases hm
    | succ n5 ih5 =>
      intro x1 x2 x3 p0 hm H locs hP hD hS ls hl
      replace hm : f_Arrays_fillI_5_b nP0 (f_Arrays_fillI_5 nP0 n5) x1 x2 x3 p0 = some p0' := hm
      unfold f_Arrays_fillI_5_b at hm
      refine lv_iload_n hx hb d_Arrays_fillI_5 rfl (lv_at hl 2 rfl) ?_
      refine lv_iload_n hx hb d_Arrays_fillI_6 rfl (lv_at hl 3 rfl) ?_
      refine z_if hm (lv_icmp_ge (tgt := 20) hx hb d_Arrays_fillI_7 (by decide)) (fun hm => ?_) (fun hm => ?_)
      · cases hm
        exact z_qo hQ (z_vret hr hx hb hlocks hK hP hD hS d_Arrays_fillI_20)
      · refine lv_aload_n hx hb d_Arrays_fillI_10 rfl (lv_at hl 0 rfl) ?_
        refine lv_iload_n hx hb d_Arrays_fillI_11 rfl (lv_at hl 2 rfl) ?_
        refine lv_iload_n hx hb d_Arrays_fillI_12 rfl (lv_at hl 1 rfl) ?_
        refine z_iast hm hx hb hK hP hD hS 0 rfl d_Arrays_fillI_13 (fun g1 hm H locs hP hD hS => ?_)
        have hP : va_P D classes (w_Arrays_fillI cI cJ qP0 nP0 g1) H := hP
        have hD : va_D A (w_Arrays_fillI cI cJ qP0 nP0 g1) := hD
        obtain ⟨v2, ev, hm⟩ := nm_el hm
        refine lv_iinc (v := v2) (lv' := [(2, .int v2), (0, .ref qP0), (1, .int x1), (3, .int x3)]) hx hb d_Arrays_fillI_14 hl (k := 2) rfl (by rw [ev]; rfl) (by decide) rfl (fun ls hl => ?_)
        refine lv_goto (tgt := 5) hx hb d_Arrays_fillI_17 (by decide) ?_
        exact ih5 x1 v2 x3 g1 hm _ _ hP hD hS _ (lv_sub hl [1, 2, 0, 3] rfl)
  unfold f_Arrays_fillI at hm
  refine lv_iconst (v := (0 : Int32)) hx hb d_Arrays_fillI_0 (by decide) ?_
  refine lv_istore_n (lv' := [(2, .int (0 : Int32)), (0, .ref qP0), (1, .int x1)]) hx hb d_Arrays_fillI_1 rfl hl (by decide) rfl (fun ls hl => ?_)
  refine lv_aload_n hx hb d_Arrays_fillI_2 rfl (lv_at hl 1 rfl) ?_
  refine va_alen (v := (nI nP0)) hx hb hK hP 0 0 rfl rfl rfl d_Arrays_fillI_3 ?_
  refine z_nmi hm (fun v3 hm => ?_)
  refine lv_istore_n (lv' := [(3, .int v3), (2, .int (0 : Int32)), (0, .ref qP0), (1, .int x1)]) hx hb d_Arrays_fillI_4 rfl hl (by decide) rfl (fun ls hl => ?_)
  exact T5 10000 x1 (0 : Int32) v3 p0 hm _ _ hP hD hS _ (lv_sub hl [2, 3, 1, 0] rfl)
-- DeepChannel.mirrored(JI)I
abbrev b_DC_mirrored : ByteArray := prog_1_method_17_code
abbrev y_DC_mirrored : MethodName := ⟨"DeepChannel", "mirrored", "(JI)I"⟩
theorem d_DC_mirrored_0 : decode b_DC_mirrored 0 = .ok (.iconst 0, 1) := by decide +kernel
theorem d_DC_mirrored_1 : decode b_DC_mirrored 1 = .ok (.istore_n 3, 1) := by decide +kernel
theorem d_DC_mirrored_2 : decode b_DC_mirrored 2 = .ok (.iconst 0, 1) := by decide +kernel
theorem d_DC_mirrored_3 : decode b_DC_mirrored 3 = .ok (.istore 4, 2) := by decide +kernel
theorem d_DC_mirrored_5 : decode b_DC_mirrored 5 = .ok (.iload 4, 2) := by decide +kernel
theorem d_DC_mirrored_7 : decode b_DC_mirrored 7 = .ok (.iload_n 2, 1) := by decide +kernel
theorem d_DC_mirrored_8 : decode b_DC_mirrored 8 = .ok (.if_icmp .ge 21, 3) := by decide +kernel
theorem d_DC_mirrored_11 : decode b_DC_mirrored 11 = .ok (.iload_n 3, 1) := by decide +kernel
theorem d_DC_mirrored_12 : decode b_DC_mirrored 12 = .ok (.iconst 1, 1) := by decide +kernel
theorem d_DC_mirrored_13 : decode b_DC_mirrored 13 = .ok (.ishl, 1) := by decide +kernel
theorem d_DC_mirrored_14 : decode b_DC_mirrored 14 = .ok (.lload_n 0, 1) := by decide +kernel
theorem d_DC_mirrored_15 : decode b_DC_mirrored 15 = .ok (.iload 4, 2) := by decide +kernel
theorem d_DC_mirrored_17 : decode b_DC_mirrored 17 = .ok (.lushr, 1) := by decide +kernel
theorem d_DC_mirrored_18 : decode b_DC_mirrored 18 = .ok (.l2i, 1) := by decide +kernel
theorem d_DC_mirrored_19 : decode b_DC_mirrored 19 = .ok (.iconst 1, 1) := by decide +kernel
theorem d_DC_mirrored_20 : decode b_DC_mirrored 20 = .ok (.iand, 1) := by decide +kernel
theorem d_DC_mirrored_21 : decode b_DC_mirrored 21 = .ok (.ior, 1) := by decide +kernel
theorem d_DC_mirrored_22 : decode b_DC_mirrored 22 = .ok (.istore_n 3, 1) := by decide +kernel
theorem d_DC_mirrored_23 : decode b_DC_mirrored 23 = .ok (.iinc 4 1, 3) := by decide +kernel
theorem d_DC_mirrored_26 : decode b_DC_mirrored 26 = .ok (.goto (-21), 3) := by decide +kernel
theorem d_DC_mirrored_29 : decode b_DC_mirrored 29 = .ok (.iload_n 3, 1) := by decide +kernel
theorem d_DC_mirrored_30 : decode b_DC_mirrored 30 = .ok (.ireturn, 1) := by decide +kernel
theorem ok_DC_mirrored : OKs y_DC_mirrored b_DC_mirrored 5 (some .int) 2 := ⟨k_730, k_729, k_42, by decide +kernel, by decide +kernel, by decide +kernel⟩
abbrev w_DC_mirrored  : va_W := []
def f_DC_mirrored_5_b  (kh5 : Int64 → Int32 → Int32 → Int32 → Option (Int32)) (x0 : Int64) (x2 : Int32) (x3 : Int32) (x4 : Int32) : Option (Int32) :=
  if x2 ≤ x4 then
    some x3
  else
  nm ((x3 <<< ((1 : Int32) &&& 31)) ||| (((x0.toUInt64 >>> (x4.toInt64.toUInt64 &&& Int64.toUInt64 63)).toInt64).toInt32 &&& (1 : Int32))) fun v1 =>
  nm (x4 + (1 : Int32)) fun v2 =>
  kh5 x0 x2 v1 v2
def f_DC_mirrored_5  : Nat → Int64 → Int32 → Int32 → Int32 → Option (Int32)
  | 0 => fun _ _ _ _ => none
  | n + 1 => fun x0 x2 x3 x4 => f_DC_mirrored_5_b (f_DC_mirrored_5 n) x0 x2 x3 x4
def f_DC_mirrored (x0 : Int64) (x2 : Int32) : Option (Int32) :=
  f_DC_mirrored_5 10000 x0 x2 (0 : Int32) (0 : Int32)
set_option maxHeartbeats 4000000 in
set_option maxRecDepth 100000 in
theorem c_DC_mirrored (l : Launch) (D : va_G) (cI cJ : ClassId) (tt : Nat → Nat) (sz : Nat) (x0 : Int64) (x2 : Int32) (rr : Int32) (hm : f_DC_mirrored x0 x2 = some rr) : CTi l y_DC_mirrored b_DC_mirrored 5 (some .int) (RM 0 0) D cI cJ tt [.long x0, .int x2] (w_DC_mirrored) (w_DC_mirrored) sz rr := by
  refine Met.ofW (cc := b_DC_mirrored) (maxL := 5) (ret := (some .int)) (by decide) rfl ?_
  intro p e s m args below meth c s₁ B hml hv
  obtain ⟨hargs, hsz, hP, hK, hD0, hE⟩ := hv
  have hx := B.exec
  have hb := B.bytes
  have hr := B.returns
  have hts : ∀ w ∈ TB, w.before args s = true := z_mV s (atoms_spec (ws := WD y_DC_mirrored b_DC_mirrored 5 (some .int)) B.pre)
  have hown : s.vm.findClass "DeepChannel" = some m.cls := findClass_of_methodNamed B.named
  have hlocks := B.notSynchronized
  subst hsz
  have hD := hD0.self (sz := s.heap.size)
  generalize hAe : va_A (w_DC_mirrored) s.heap.size = A at hD hE ⊢
  have hA : ∀ q : Nat, s.heap.size ≤ q → A q := fun q h => by rw [← hAe]; exact Or.inr h
  have hS : va_S A s.heap s.heap [] := va_S.rf
  refine z_entry (vs := [.long x0, .int x2]) hargs (Nat.le_of_ble_eq_true rfl) (fun ls hl => ?_)
  have hl : lv_has ls 5 [(0, .long x0), (2, .int x2)] := hl
  show W p l e (RM 0 0) s m args below meth c s.heap [] 0 0 _ _
  refine z_qi (fun Q0 hQ => ?_)
  have F : CallFix p m c b_DC_mirrored 5 s args TB "DeepChannel" := ⟨hx, hb, hml, hown, hts⟩
  have T5 : ∀ (n5 : Nat) (x0 : Int64) (x2 : Int32) (x3 : Int32) (x4 : Int32), f_DC_mirrored_5 n5 x0 x2 x3 x4 = some rr → ∀ (H : Heap) (locs : List Loc), va_P D classes (w_DC_mirrored) H → va_D A (w_DC_mirrored) → va_S A s.heap H locs → ∀ (ls : Array Slot), lv_has ls 5 [(0, .long x0), (2, .int x2), (3, .int x3), (4, .int x4)] → W p l e (RM 0 0) s m args below meth c H locs 0 0 Q0 (F0 m 5 ls []) := by
    intro n5
    induction n5 with
    | zero => intro x0 x2 x3 x4 hm; cases hm
    | succ n5 ih5 =>
      intro x0 x2 x3 x4 hm H locs hP hD hS ls hl
      replace hm : f_DC_mirrored_5_b (f_DC_mirrored_5 n5) x0 x2 x3 x4 = some rr := hm
      unfold f_DC_mirrored_5_b at hm
      refine lv_iload hx hb d_DC_mirrored_5 (lv_at hl 3 rfl) ?_
      refine lv_iload_n hx hb d_DC_mirrored_7 rfl (lv_at hl 1 rfl) ?_
      refine z_if hm (lv_icmp_ge (tgt := 29) hx hb d_DC_mirrored_8 (by decide)) (fun hm => ?_) (fun hm => ?_)
      · refine lv_iload_n hx hb d_DC_mirrored_29 rfl (lv_at hl 2 rfl) ?_
        cases hm
        exact z_qo hQ (z_ireti hr hx hb hlocks hK hP hD hS d_DC_mirrored_30)
      · refine lv_iload_n hx hb d_DC_mirrored_11 rfl (lv_at hl 2 rfl) ?_
        refine lv_iconst (v := (1 : Int32)) hx hb d_DC_mirrored_12 (by decide) ?_
        refine lv_ishl hx hb d_DC_mirrored_13 ?_
        refine lv_lload_n hx hb d_DC_mirrored_14 rfl (lv_at hl 0 rfl) ?_
        refine lv_iload hx hb d_DC_mirrored_15 (lv_at hl 3 rfl) ?_
        refine lv_lushr (v := ((x0.toUInt64 >>> (x4.toInt64.toUInt64 &&& Int64.toUInt64 63)).toInt64)) hx hb d_DC_mirrored_17 rfl ?_
        refine lv_l2i (v := ((x0.toUInt64 >>> (x4.toInt64.toUInt64 &&& Int64.toUInt64 63)).toInt64).toInt32) hx hb d_DC_mirrored_18 rfl ?_
        refine lv_iconst (v := (1 : Int32)) hx hb d_DC_mirrored_19 (by decide) ?_
        refine lv_iand hx hb d_DC_mirrored_20 ?_
        refine lv_ior hx hb d_DC_mirrored_21 ?_
        refine z_nmi hm (fun v1 hm => ?_)
        refine lv_istore_n (lv' := [(3, .int v1), (0, .long x0), (2, .int x2), (4, .int x4)]) hx hb d_DC_mirrored_22 rfl hl (by decide) rfl (fun ls hl => ?_)
        obtain ⟨v2, ev, hm⟩ := nm_el hm
        refine lv_iinc (v := v2) (lv' := [(4, .int v2), (3, .int v1), (0, .long x0), (2, .int x2)]) hx hb d_DC_mirrored_23 hl (k := 3) rfl (by rw [ev]; rfl) (by decide) rfl (fun ls hl => ?_)
        refine lv_goto (tgt := 5) hx hb d_DC_mirrored_26 (by decide) ?_
        exact ih5 x0 x2 v1 v2 hm _ _ hP hD hS _ (lv_sub hl [2, 3, 1, 0] rfl)
  unfold f_DC_mirrored at hm
  refine lv_iconst (v := (0 : Int32)) hx hb d_DC_mirrored_0 (by decide) ?_
  refine lv_istore_n (lv' := [(3, .int (0 : Int32)), (0, .long x0), (2, .int x2)]) hx hb d_DC_mirrored_1 rfl hl (by decide) rfl (fun ls hl => ?_)
  refine lv_iconst (v := (0 : Int32)) hx hb d_DC_mirrored_2 (by decide) ?_
  refine lv_istore (lv' := [(4, .int (0 : Int32)), (3, .int (0 : Int32)), (0, .long x0), (2, .int x2)]) hx hb d_DC_mirrored_3 hl (by decide) rfl (fun ls hl => ?_)
  exact T5 10000 x0 x2 (0 : Int32) (0 : Int32) hm _ _ hP hD hS _ (lv_sub hl [2, 3, 1, 0] rfl)
-- DeepChannel.checkOf([III)I
abbrev b_DC_checkOf : ByteArray := prog_1_method_18_code
abbrev y_DC_checkOf : MethodName := ⟨"DeepChannel", "checkOf", "([III)I"⟩
theorem d_DC_checkOf_0 : decode b_DC_checkOf 0 = .ok (.ldc 208, 2) := by decide +kernel
theorem d_DC_checkOf_2 : decode b_DC_checkOf 2 = .ok (.istore_n 3, 1) := by decide +kernel
theorem d_DC_checkOf_3 : decode b_DC_checkOf 3 = .ok (.iload_n 1, 1) := by decide +kernel
theorem d_DC_checkOf_4 : decode b_DC_checkOf 4 = .ok (.istore 4, 2) := by decide +kernel
theorem d_DC_checkOf_6 : decode b_DC_checkOf 6 = .ok (.iload 4, 2) := by decide +kernel
theorem d_DC_checkOf_8 : decode b_DC_checkOf 8 = .ok (.iload_n 1, 1) := by decide +kernel
theorem d_DC_checkOf_9 : decode b_DC_checkOf 9 = .ok (.iload_n 2, 1) := by decide +kernel
theorem d_DC_checkOf_10 : decode b_DC_checkOf 10 = .ok (.iadd, 1) := by decide +kernel
theorem d_DC_checkOf_11 : decode b_DC_checkOf 11 = .ok (.if_icmp .ge 61, 3) := by decide +kernel
theorem d_DC_checkOf_14 : decode b_DC_checkOf 14 = .ok (.iload 4, 2) := by decide +kernel
theorem d_DC_checkOf_16 : decode b_DC_checkOf 16 = .ok (.aload_n 0, 1) := by decide +kernel
theorem d_DC_checkOf_17 : decode b_DC_checkOf 17 = .ok (.arraylength, 1) := by decide +kernel
theorem d_DC_checkOf_18 : decode b_DC_checkOf 18 = .ok (.if_icmp .ge 54, 3) := by decide +kernel
theorem d_DC_checkOf_21 : decode b_DC_checkOf 21 = .ok (.bipush 7, 2) := by decide +kernel
theorem d_DC_checkOf_23 : decode b_DC_checkOf 23 = .ok (.istore 5, 2) := by decide +kernel
theorem d_DC_checkOf_25 : decode b_DC_checkOf 25 = .ok (.iload 5, 2) := by decide +kernel
theorem d_DC_checkOf_27 : decode b_DC_checkOf 27 = .ok (.ifCond .lt 39, 3) := by decide +kernel
theorem d_DC_checkOf_30 : decode b_DC_checkOf 30 = .ok (.iload_n 3, 1) := by decide +kernel
theorem d_DC_checkOf_31 : decode b_DC_checkOf 31 = .ok (.bipush 15, 2) := by decide +kernel
theorem d_DC_checkOf_33 : decode b_DC_checkOf 33 = .ok (.ishr, 1) := by decide +kernel
theorem d_DC_checkOf_34 : decode b_DC_checkOf 34 = .ok (.aload_n 0, 1) := by decide +kernel
theorem d_DC_checkOf_35 : decode b_DC_checkOf 35 = .ok (.iload 4, 2) := by decide +kernel
theorem d_DC_checkOf_37 : decode b_DC_checkOf 37 = .ok (.iaload, 1) := by decide +kernel
theorem d_DC_checkOf_38 : decode b_DC_checkOf 38 = .ok (.iload 5, 2) := by decide +kernel
theorem d_DC_checkOf_40 : decode b_DC_checkOf 40 = .ok (.ishr, 1) := by decide +kernel
theorem d_DC_checkOf_41 : decode b_DC_checkOf 41 = .ok (.iconst 1, 1) := by decide +kernel
theorem d_DC_checkOf_42 : decode b_DC_checkOf 42 = .ok (.iand, 1) := by decide +kernel
theorem d_DC_checkOf_43 : decode b_DC_checkOf 43 = .ok (.ixor, 1) := by decide +kernel
theorem d_DC_checkOf_44 : decode b_DC_checkOf 44 = .ok (.istore 6, 2) := by decide +kernel
theorem d_DC_checkOf_46 : decode b_DC_checkOf 46 = .ok (.iload_n 3, 1) := by decide +kernel
theorem d_DC_checkOf_47 : decode b_DC_checkOf 47 = .ok (.iconst 1, 1) := by decide +kernel
theorem d_DC_checkOf_48 : decode b_DC_checkOf 48 = .ok (.ishl, 1) := by decide +kernel
theorem d_DC_checkOf_49 : decode b_DC_checkOf 49 = .ok (.ldc 208, 2) := by decide +kernel
theorem d_DC_checkOf_51 : decode b_DC_checkOf 51 = .ok (.iand, 1) := by decide +kernel
theorem d_DC_checkOf_52 : decode b_DC_checkOf 52 = .ok (.iload 6, 2) := by decide +kernel
theorem d_DC_checkOf_54 : decode b_DC_checkOf 54 = .ok (.sipush 4129, 3) := by decide +kernel
theorem d_DC_checkOf_57 : decode b_DC_checkOf 57 = .ok (.imul, 1) := by decide +kernel
theorem d_DC_checkOf_58 : decode b_DC_checkOf 58 = .ok (.ixor, 1) := by decide +kernel
theorem d_DC_checkOf_59 : decode b_DC_checkOf 59 = .ok (.istore_n 3, 1) := by decide +kernel
theorem d_DC_checkOf_60 : decode b_DC_checkOf 60 = .ok (.iinc 5 (-1), 3) := by decide +kernel
theorem d_DC_checkOf_63 : decode b_DC_checkOf 63 = .ok (.goto (-38), 3) := by decide +kernel
theorem d_DC_checkOf_66 : decode b_DC_checkOf 66 = .ok (.iinc 4 1, 3) := by decide +kernel
theorem d_DC_checkOf_69 : decode b_DC_checkOf 69 = .ok (.goto (-63), 3) := by decide +kernel
theorem d_DC_checkOf_72 : decode b_DC_checkOf 72 = .ok (.iload_n 3, 1) := by decide +kernel
theorem d_DC_checkOf_73 : decode b_DC_checkOf 73 = .ok (.ireturn, 1) := by decide +kernel
theorem ok_DC_checkOf : OKs y_DC_checkOf b_DC_checkOf 7 (some .int) 3 := ⟨k_618, k_617, k_42, by decide +kernel, by decide +kernel, by decide +kernel⟩
abbrev w_DC_checkOf (cI cJ : ClassId) (qP0 : Nat) (nP0 : Nat) (p0 : Nat → Int32) : va_W := [(qP0, .inl (cI, nP0, .inl p0))]
def f_DC_checkOf_66 (kh6 : Int32 → Int32 → Int32 → Int32 → Option (Int32)) (x1 : Int32) (x2 : Int32) (x3 : Int32) (x4 : Int32) : Option (Int32) :=
  nm (x4 + (1 : Int32)) fun v1 =>
  kh6 x1 x2 x3 v1
def f_DC_checkOf_25_b (p0 : Nat → Int32) (nP0 : Nat) (kh6 : Int32 → Int32 → Int32 → Int32 → Option (Int32)) (kh25 : Int32 → Int32 → Int32 → Int32 → Int32 → Option (Int32)) (x1 : Int32) (x2 : Int32) (x3 : Int32) (x4 : Int32) (x5 : Int32) : Option (Int32) :=
  if x5 < 0 then
    f_DC_checkOf_66 kh6 x1 x2 x3 x4
  else
  rdI p0 nP0 x4 fun v2 =>
  nm ((x3 >>> ((15 : Int32) &&& 31)) ^^^ ((v2 >>> (x5 &&& 31)) &&& (1 : Int32))) fun v3 =>
  nm (((x3 <<< ((1 : Int32) &&& 31)) &&& (65535 : Int32)) ^^^ (v3 * (4129 : Int32))) fun v4 =>
  nm (x5 + (-1 : Int32)) fun v5 =>
  kh25 x1 x2 v4 x4 v5
def f_DC_checkOf_25 (p0 : Nat → Int32) (nP0 : Nat) (kh6 : Int32 → Int32 → Int32 → Int32 → Option (Int32)) : Nat → Int32 → Int32 → Int32 → Int32 → Int32 → Option (Int32)
  | 0 => fun _ _ _ _ _ => none
  | n + 1 => fun x1 x2 x3 x4 x5 => f_DC_checkOf_25_b p0 nP0 kh6 (f_DC_checkOf_25 p0 nP0 kh6 n) x1 x2 x3 x4 x5
def f_DC_checkOf_6_b (p0 : Nat → Int32) (nP0 : Nat) (kh6 : Int32 → Int32 → Int32 → Int32 → Option (Int32)) (x1 : Int32) (x2 : Int32) (x3 : Int32) (x4 : Int32) : Option (Int32) :=
  if (x1 + x2) ≤ x4 then
    some x3
  else
  if (nI nP0) ≤ x4 then
    some x3
  else
  f_DC_checkOf_25 p0 nP0 kh6 10000 x1 x2 x3 x4 (7 : Int32)
def f_DC_checkOf_6 (p0 : Nat → Int32) (nP0 : Nat) : Nat → Int32 → Int32 → Int32 → Int32 → Option (Int32)
  | 0 => fun _ _ _ _ => none
  | n + 1 => fun x1 x2 x3 x4 => f_DC_checkOf_6_b p0 nP0 (f_DC_checkOf_6 p0 nP0 n) x1 x2 x3 x4
def f_DC_checkOf (p0 : Nat → Int32) (nP0 : Nat) (x1 : Int32) (x2 : Int32) : Option (Int32) :=
  f_DC_checkOf_6 p0 nP0 10000 x1 x2 (65535 : Int32) x1
set_option maxHeartbeats 4000000 in
set_option maxRecDepth 100000 in
theorem c_DC_checkOf (l : Launch) (D : va_G) (cI cJ : ClassId) (tt : Nat → Nat) (qP0 : Nat) (nP0 : Nat) (sz : Nat) (p0 : Nat → Int32) (x1 : Int32) (x2 : Int32) (rr : Int32) (hm : f_DC_checkOf p0 nP0 x1 x2 = some rr) : CTi l y_DC_checkOf b_DC_checkOf 7 (some .int) (RM 0 0) D cI cJ tt [.ref qP0, .int x1, .int x2] (w_DC_checkOf cI cJ qP0 nP0 p0) (w_DC_checkOf cI cJ qP0 nP0 p0) sz rr := by
  refine Met.ofW (cc := b_DC_checkOf) (maxL := 7) (ret := (some .int)) (by decide) rfl ?_
  intro p e s m args below meth c s₁ B hml hv
  obtain ⟨hargs, hsz, hP, hK, hD0, hE⟩ := hv
  have hx := B.exec
  have hb := B.bytes
  have hr := B.returns
  have hts : ∀ w ∈ TB, w.before args s = true := z_mV s (atoms_spec (ws := WD y_DC_checkOf b_DC_checkOf 7 (some .int)) B.pre)
  have hown : s.vm.findClass "DeepChannel" = some m.cls := findClass_of_methodNamed B.named
  have hlocks := B.notSynchronized
  subst hsz
  have hD := hD0.self (sz := s.heap.size)
  generalize hAe : va_A (w_DC_checkOf cI cJ qP0 nP0 p0) s.heap.size = A at hD hE ⊢
  have hA : ∀ q : Nat, s.heap.size ≤ q → A q := fun q h => by rw [← hAe]; exact Or.inr h
  have hS : va_S A s.heap s.heap [] := va_S.rf
  refine z_entry (vs := [.ref qP0, .int x1, .int x2]) hargs (Nat.le_of_ble_eq_true rfl) (fun ls hl => ?_)
  have hl : lv_has ls 7 [(0, .ref qP0), (1, .int x1), (2, .int x2)] := hl
  show W p l e (RM 0 0) s m args below meth c s.heap [] 0 0 _ _
  refine z_qi (fun Q0 hQ => ?_)
  have F : CallFix p m c b_DC_checkOf 7 s args TB "DeepChannel" := ⟨hx, hb, hml, hown, hts⟩
  have T6 : ∀ (n6 : Nat) (x1 : Int32) (x2 : Int32) (x3 : Int32) (x4 : Int32), f_DC_checkOf_6 p0 nP0 n6 x1 x2 x3 x4 = some rr → ∀ (H : Heap) (locs : List Loc), va_P D classes (w_DC_checkOf cI cJ qP0 nP0 p0) H → va_D A (w_DC_checkOf cI cJ qP0 nP0 p0) → va_S A s.heap H locs → ∀ (ls : Array Slot), lv_has ls 7 [(0, .ref qP0), (1, .int x1), (2, .int x2), (3, .int x3), (4, .int x4)] → W p l e (RM 0 0) s m args below meth c H locs 0 0 Q0 (F0 m 6 ls []) := by
    intro n6
    induction n6 with
    | zero => intro x1 x2 x3 x4 hm; cases hm
    | succ n6 ih6 =>
      have T66 : ∀ (x1 : Int32) (x2 : Int32) (x3 : Int32) (x4 : Int32), f_DC_checkOf_66 (f_DC_checkOf_6 p0 nP0 n6) x1 x2 x3 x4 = some rr → ∀ (H : Heap) (locs : List Loc), va_P D classes (w_DC_checkOf cI cJ qP0 nP0 p0) H → va_D A (w_DC_checkOf cI cJ qP0 nP0 p0) → va_S A s.heap H locs → ∀ (ls : Array Slot), lv_has ls 7 [(0, .ref qP0), (1, .int x1), (2, .int x2), (3, .int x3), (4, .int x4)] → W p l e (RM 0 0) s m args below meth c H locs 0 0 Q0 (F0 m 66 ls []) := by
        intro x1 x2 x3 x4 hm H locs hP hD hS ls hl
        unfold f_DC_checkOf_66 at hm
        obtain ⟨v1, ev, hm⟩ := nm_el hm
        refine lv_iinc (v := v1) (lv' := [(4, .int v1), (0, .ref qP0), (1, .int x1), (2, .int x2), (3, .int x3)]) hx hb d_DC_checkOf_66 hl (k := 4) rfl (by rw [ev]; rfl) (by decide) rfl (fun ls hl => ?_)
        refine lv_goto (tgt := 6) hx hb d_DC_checkOf_69 (by decide) ?_
        exact ih6 x1 x2 x3 v1 hm _ _ hP hD hS _ (lv_sub hl [1, 2, 3, 4, 0] rfl)
      have T25 : ∀ (n25 : Nat) (x1 : Int32) (x2 : Int32) (x3 : Int32) (x4 : Int32) (x5 : Int32), f_DC_checkOf_25 p0 nP0 (f_DC_checkOf_6 p0 nP0 n6) n25 x1 x2 x3 x4 x5 = some rr → ∀ (H : Heap) (locs : List Loc), va_P D classes (w_DC_checkOf cI cJ qP0 nP0 p0) H → va_D A (w_DC_checkOf cI cJ qP0 nP0 p0) → va_S A s.heap H locs → ∀ (ls : Array Slot), lv_has ls 7 [(0, .ref qP0), (1, .int x1), (2, .int x2), (3, .int x3), (4, .int x4), (5, .int x5)] → W p l e (RM 0 0) s m args below meth c H locs 0 0 Q0 (F0 m 25 ls []) := by
        intro n25
        induction n25 with
        | zero => intro x1 x2 x3 x4 x5 hm; cases hm
        | succ n25 ih25 =>
          intro x1 x2 x3 x4 x5 hm H locs hP hD hS ls hl
          replace hm : f_DC_checkOf_25_b p0 nP0 (f_DC_checkOf_6 p0 nP0 n6) (f_DC_checkOf_25 p0 nP0 (f_DC_checkOf_6 p0 nP0 n6) n25) x1 x2 x3 x4 x5 = some rr := hm
          unfold f_DC_checkOf_25_b at hm
          refine lv_iload hx hb d_DC_checkOf_25 (lv_at hl 5 rfl) ?_
          refine z_if hm (lv_if_lt (tgt := 66) hx hb d_DC_checkOf_27 (by decide)) (fun hm => ?_) (fun hm => ?_)
          · exact T66 x1 x2 x3 x4 hm _ _ hP hD hS _ (lv_sub hl [0, 1, 2, 3, 4] rfl)
          · refine lv_iload_n hx hb d_DC_checkOf_30 rfl (lv_at hl 3 rfl) ?_
            refine lv_bipush (v := (15 : Int32)) hx hb d_DC_checkOf_31 (by decide) ?_
            refine lv_ishr hx hb d_DC_checkOf_33 ?_
            refine lv_aload_n hx hb d_DC_checkOf_34 rfl (lv_at hl 0 rfl) ?_
            refine lv_iload hx hb d_DC_checkOf_35 (lv_at hl 4 rfl) ?_
            refine z_iald hm hx hb hK hP 0 rfl d_DC_checkOf_37 (fun v2 hm => ?_)
            refine lv_iload hx hb d_DC_checkOf_38 (lv_at hl 5 rfl) ?_
            refine lv_ishr hx hb d_DC_checkOf_40 ?_
            refine lv_iconst (v := (1 : Int32)) hx hb d_DC_checkOf_41 (by decide) ?_
            refine lv_iand hx hb d_DC_checkOf_42 ?_
            refine lv_ixor hx hb d_DC_checkOf_43 ?_
            refine z_nmi hm (fun v3 hm => ?_)
            refine lv_istore (lv' := [(6, .int v3), (0, .ref qP0), (1, .int x1), (2, .int x2), (3, .int x3), (4, .int x4), (5, .int x5)]) hx hb d_DC_checkOf_44 hl (by decide) rfl (fun ls hl => ?_)
            refine lv_iload_n hx hb d_DC_checkOf_46 rfl (lv_at hl 4 rfl) ?_
            refine lv_iconst (v := (1 : Int32)) hx hb d_DC_checkOf_47 (by decide) ?_
            refine lv_ishl hx hb d_DC_checkOf_48 ?_
            refine lv_ldc (v := (65535 : Int32)) hx hb hown (hts _ k_619) d_DC_checkOf_49 ?_
            refine lv_iand hx hb d_DC_checkOf_51 ?_
            refine lv_iload hx hb d_DC_checkOf_52 (lv_at hl 0 rfl) ?_
            refine lv_sipush (v := (4129 : Int32)) hx hb d_DC_checkOf_54 (by decide) ?_
            refine lv_imul hx hb d_DC_checkOf_57 ?_
            refine lv_ixor hx hb d_DC_checkOf_58 ?_
            refine z_nmi hm (fun v4 hm => ?_)
            refine lv_istore_n (lv' := [(3, .int v4), (6, .int v3), (0, .ref qP0), (1, .int x1), (2, .int x2), (4, .int x4), (5, .int x5)]) hx hb d_DC_checkOf_59 rfl hl (by decide) rfl (fun ls hl => ?_)
            obtain ⟨v5, ev, hm⟩ := nm_el hm
            refine lv_iinc (v := v5) (lv' := [(5, .int v5), (3, .int v4), (6, .int v3), (0, .ref qP0), (1, .int x1), (2, .int x2), (4, .int x4)]) hx hb d_DC_checkOf_60 hl (k := 6) rfl (by rw [ev]; rfl) (by decide) rfl (fun ls hl => ?_)
            refine lv_goto (tgt := 25) hx hb d_DC_checkOf_63 (by decide) ?_
            exact ih25 x1 x2 v4 x4 v5 hm _ _ hP hD hS _ (lv_sub hl [3, 4, 5, 1, 6, 0] rfl)
      intro x1 x2 x3 x4 hm H locs hP hD hS ls hl
      replace hm : f_DC_checkOf_6_b p0 nP0 (f_DC_checkOf_6 p0 nP0 n6) x1 x2 x3 x4 = some rr := hm
      unfold f_DC_checkOf_6_b at hm
      refine lv_iload hx hb d_DC_checkOf_6 (lv_at hl 4 rfl) ?_
      refine lv_iload_n hx hb d_DC_checkOf_8 rfl (lv_at hl 1 rfl) ?_
      refine lv_iload_n hx hb d_DC_checkOf_9 rfl (lv_at hl 2 rfl) ?_
      refine lv_iadd hx hb d_DC_checkOf_10 ?_
      refine z_if hm (lv_icmp_ge (tgt := 72) hx hb d_DC_checkOf_11 (by decide)) (fun hm => ?_) (fun hm => ?_)
      · refine lv_iload_n hx hb d_DC_checkOf_72 rfl (lv_at hl 3 rfl) ?_
        cases hm
        exact z_qo hQ (z_ireti hr hx hb hlocks hK hP hD hS d_DC_checkOf_73)
      · refine lv_iload hx hb d_DC_checkOf_14 (lv_at hl 4 rfl) ?_
        refine lv_aload_n hx hb d_DC_checkOf_16 rfl (lv_at hl 0 rfl) ?_
        refine va_alen (v := (nI nP0)) hx hb hK hP 0 0 rfl rfl rfl d_DC_checkOf_17 ?_
        refine z_if hm (lv_icmp_ge (tgt := 72) hx hb d_DC_checkOf_18 (by decide)) (fun hm => ?_) (fun hm => ?_)
        · refine lv_iload_n hx hb d_DC_checkOf_72 rfl (lv_at hl 3 rfl) ?_
          cases hm
          exact z_qo hQ (z_ireti hr hx hb hlocks hK hP hD hS d_DC_checkOf_73)
        · refine lv_bipush (v := (7 : Int32)) hx hb d_DC_checkOf_21 (by decide) ?_
          refine lv_istore (lv' := [(5, .int (7 : Int32)), (0, .ref qP0), (1, .int x1), (2, .int x2), (3, .int x3), (4, .int x4)]) hx hb d_DC_checkOf_23 hl (by decide) rfl (fun ls hl => ?_)
          exact T25 10000 x1 x2 x3 x4 (7 : Int32) hm _ _ hP hD hS _ (lv_sub hl [1, 2, 3, 4, 5, 0] rfl)
  unfold f_DC_checkOf at hm
  refine lv_ldc (v := (65535 : Int32)) hx hb hown (hts _ k_619) d_DC_checkOf_0 ?_
  refine lv_istore_n (lv' := [(3, .int (65535 : Int32)), (0, .ref qP0), (1, .int x1), (2, .int x2)]) hx hb d_DC_checkOf_2 rfl hl (by decide) rfl (fun ls hl => ?_)
  refine lv_iload_n hx hb d_DC_checkOf_3 rfl (lv_at hl 2 rfl) ?_
  refine lv_istore (lv' := [(4, .int x1), (3, .int (65535 : Int32)), (0, .ref qP0), (1, .int x1), (2, .int x2)]) hx hb d_DC_checkOf_4 hl (by decide) rfl (fun ls hl => ?_)
  exact T6 10000 x1 x2 (65535 : Int32) x1 hm _ _ hP hD hS _ (lv_sub hl [2, 3, 4, 1, 0] rfl)
-- DeepChannel.isChannel(I)Z
abbrev b_DC_isChannel : ByteArray := prog_1_method_16_code
abbrev y_DC_isChannel : MethodName := ⟨"DeepChannel", "isChannel", "(I)Z"⟩
theorem d_DC_isChannel_0 : decode b_DC_isChannel 0 = .ok (.iload_n 0, 1) := by decide +kernel
theorem d_DC_isChannel_1 : decode b_DC_isChannel 1 = .ok (.ifCond .lt 13, 3) := by decide +kernel
theorem d_DC_isChannel_4 : decode b_DC_isChannel 4 = .ok (.iload_n 0, 1) := by decide +kernel
theorem d_DC_isChannel_5 : decode b_DC_isChannel 5 = .ok (.bipush 8, 2) := by decide +kernel
theorem d_DC_isChannel_7 : decode b_DC_isChannel 7 = .ok (.if_icmp .ge 7, 3) := by decide +kernel
theorem d_DC_isChannel_10 : decode b_DC_isChannel 10 = .ok (.iconst 1, 1) := by decide +kernel
theorem d_DC_isChannel_11 : decode b_DC_isChannel 11 = .ok (.goto 4, 3) := by decide +kernel
theorem d_DC_isChannel_14 : decode b_DC_isChannel 14 = .ok (.iconst 0, 1) := by decide +kernel
theorem d_DC_isChannel_15 : decode b_DC_isChannel 15 = .ok (.ireturn, 1) := by decide +kernel
theorem ok_DC_isChannel : OKs y_DC_isChannel b_DC_isChannel 1 (some .boolean) 1 := ⟨k_575, k_574, k_42, by decide +kernel, by decide +kernel, by decide +kernel⟩
abbrev w_DC_isChannel  : va_W := []
def f_DC_isChannel (x0 : Int32) : Option (Int32) :=
  if x0 < 0 then
    zb (0 : Int32) <|
    some (0 : Int32)
  else
  if (8 : Int32) ≤ x0 then
    zb (0 : Int32) <|
    some (0 : Int32)
  else
  zb (1 : Int32) <|
  some (1 : Int32)
set_option maxHeartbeats 4000000 in
set_option maxRecDepth 100000 in
theorem c_DC_isChannel (l : Launch) (D : va_G) (cI cJ : ClassId) (tt : Nat → Nat) (sz : Nat) (x0 : Int32) (rr : Int32) (hm : f_DC_isChannel x0 = some rr) : CTi l y_DC_isChannel b_DC_isChannel 1 (some .boolean) (RM 0 0) D cI cJ tt [.int x0] (w_DC_isChannel) (w_DC_isChannel) sz rr := by
  refine Met.ofW (cc := b_DC_isChannel) (maxL := 1) (ret := (some .boolean)) (by decide) rfl ?_
  intro p e s m args below meth c s₁ B hml hv
  obtain ⟨hargs, hsz, hP, hK, hD0, hE⟩ := hv
  have hx := B.exec
  have hb := B.bytes
  have hr := B.returns
  have hts : ∀ w ∈ TB, w.before args s = true := z_mV s (atoms_spec (ws := WD y_DC_isChannel b_DC_isChannel 1 (some .boolean)) B.pre)
  have hown : s.vm.findClass "DeepChannel" = some m.cls := findClass_of_methodNamed B.named
  have hlocks := B.notSynchronized
  subst hsz
  have hD := hD0.self (sz := s.heap.size)
  generalize hAe : va_A (w_DC_isChannel) s.heap.size = A at hD hE ⊢
  have hA : ∀ q : Nat, s.heap.size ≤ q → A q := fun q h => by rw [← hAe]; exact Or.inr h
  have hS : va_S A s.heap s.heap [] := va_S.rf
  refine z_entry (vs := [.int x0]) hargs (Nat.le_of_ble_eq_true rfl) (fun ls hl => ?_)
  have hl : lv_has ls 1 [(0, .int x0)] := hl
  show W p l e (RM 0 0) s m args below meth c s.heap [] 0 0 _ _
  refine z_qi (fun Q0 hQ => ?_)
  have F : CallFix p m c b_DC_isChannel 1 s args TB "DeepChannel" := ⟨hx, hb, hml, hown, hts⟩
  unfold f_DC_isChannel at hm
  refine lv_iload_n hx hb d_DC_isChannel_0 rfl (lv_at hl 0 rfl) ?_
  refine z_if hm (lv_if_lt (tgt := 14) hx hb d_DC_isChannel_1 (by decide)) (fun hm => ?_) (fun hm => ?_)
  · refine lv_iconst (v := (0 : Int32)) hx hb d_DC_isChannel_14 (by decide) ?_
    obtain ⟨hz, hm⟩ := zb_el hm
    cases hm
    exact z_qo hQ (z_iretz hz hr hx hb hlocks hK hP hD hS d_DC_isChannel_15)
  · refine lv_iload_n hx hb d_DC_isChannel_4 rfl (lv_at hl 0 rfl) ?_
    refine lv_bipush (v := (8 : Int32)) hx hb d_DC_isChannel_5 (by decide) ?_
    refine z_if hm (lv_icmp_ge (tgt := 14) hx hb d_DC_isChannel_7 (by decide)) (fun hm => ?_) (fun hm => ?_)
    · refine lv_iconst (v := (0 : Int32)) hx hb d_DC_isChannel_14 (by decide) ?_
      obtain ⟨hz, hm⟩ := zb_el hm
      cases hm
      exact z_qo hQ (z_iretz hz hr hx hb hlocks hK hP hD hS d_DC_isChannel_15)
    · refine lv_iconst (v := (1 : Int32)) hx hb d_DC_isChannel_10 (by decide) ?_
      refine lv_goto (tgt := 15) hx hb d_DC_isChannel_11 (by decide) ?_
      obtain ⟨hz, hm⟩ := zb_el hm
      cases hm
      exact z_qo hQ (z_iretz hz hr hx hb hlocks hK hP hD hS d_DC_isChannel_15)
