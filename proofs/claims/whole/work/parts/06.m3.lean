-- DeepChannel$Locator.placeAt(I)I
abbrev b_Locator_placeAt : ByteArray := prog_5_method_2_code
abbrev y_Locator_placeAt : MethodName := ⟨"DeepChannel$Locator", "placeAt", "(I)I"⟩
theorem d_Locator_placeAt_0 : decode b_Locator_placeAt 0 = .ok (.aload_n 0, 1) := by decide +kernel
theorem d_Locator_placeAt_1 : decode b_Locator_placeAt 1 = .ok (.getfield 24, 3) := by decide +kernel
theorem d_Locator_placeAt_4 : decode b_Locator_placeAt 4 = .ok (.iload_n 1, 1) := by decide +kernel
theorem d_Locator_placeAt_5 : decode b_Locator_placeAt 5 = .ok (.iaload, 1) := by decide +kernel
theorem d_Locator_placeAt_6 : decode b_Locator_placeAt 6 = .ok (.ireturn, 1) := by decide +kernel
theorem ok_Locator_placeAt : OKv y_Locator_placeAt b_Locator_placeAt 2 (some .int) "DeepChannel$Locator" 1 := ⟨k_799, k_797, k_798, k_46, by decide +kernel, by decide +kernel, by decide +kernel⟩
abbrev w_Locator_placeAt (cI cJ : ClassId) (qLc qLc_places : Nat) (Lc_field Lc_poly Lc_earlier Lc_spare Lc_evaluator : Value) (Lc_places : Nat → Int32) : va_W := [(qLc, .inr (3, [Lc_field, Lc_poly, Lc_earlier, Lc_spare, Lc_evaluator, .ref qLc_places])), (qLc_places, .inl (cI, 32, .inl Lc_places))]
def f_Locator_placeAt (Lc_places : Nat → Int32) (x1 : Int32) : Option (Int32) :=
  rdI Lc_places 32 x1 fun v1 =>
  some v1
set_option maxHeartbeats 4000000 in
set_option maxRecDepth 100000 in
theorem c_Locator_placeAt (l : Launch) (D : va_G) (cI cJ : ClassId) (tt : Nat → Nat) (qLc qLc_places : Nat) (Lc_field Lc_poly Lc_earlier Lc_spare Lc_evaluator : Value) (sz : Nat) (Lc_places : Nat → Int32) (x1 : Int32) (rr : Int32) (hm : f_Locator_placeAt Lc_places x1 = some rr) : CTi l y_Locator_placeAt b_Locator_placeAt 2 (some .int) (RM 0 0) D cI cJ tt [.ref qLc, .int x1] (w_Locator_placeAt cI cJ qLc qLc_places Lc_field Lc_poly Lc_earlier Lc_spare Lc_evaluator Lc_places) (w_Locator_placeAt cI cJ qLc qLc_places Lc_field Lc_poly Lc_earlier Lc_spare Lc_evaluator Lc_places) sz rr := by
  refine Met.ofW (cc := b_Locator_placeAt) (maxL := 2) (ret := (some .int)) (by decide) rfl ?_
  intro p e s m args below meth c s₁ B hml hv
  obtain ⟨hargs, hsz, hP, hK, hD0, hE⟩ := hv
  have hx := B.exec
  have hb := B.bytes
  have hr := B.returns
  have hts : ∀ w ∈ TB, w.before args s = true := z_mV s (atoms_spec (ws := WD y_Locator_placeAt b_Locator_placeAt 2 (some .int)) B.pre)
  have hown : s.vm.findClass "DeepChannel$Locator" = some m.cls := findClass_of_methodNamed B.named
  have hlocks := B.notSynchronized
  subst hsz
  have hD := hD0.self (sz := s.heap.size)
  generalize hAe : va_A (w_Locator_placeAt cI cJ qLc qLc_places Lc_field Lc_poly Lc_earlier Lc_spare Lc_evaluator Lc_places) s.heap.size = A at hD hE ⊢
  have hA : ∀ q : Nat, s.heap.size ≤ q → A q := fun q h => by rw [← hAe]; exact Or.inr h
  have hS : va_S A s.heap s.heap [] := va_S.rf
  refine z_entry (vs := [.ref qLc, .int x1]) hargs (Nat.le_of_ble_eq_true rfl) (fun ls hl => ?_)
  have hl : lv_has ls 2 [(0, .ref qLc), (1, .int x1)] := hl
  show W p l e (RM 0 0) s m args below meth c s.heap [] 0 0 _ _
  refine z_qi (fun Q0 hQ => ?_)
  have F : CallFix p m c b_Locator_placeAt 2 s args TB "DeepChannel$Locator" := ⟨hx, hb, hml, hown, hts⟩
  unfold f_Locator_placeAt at hm
  refine lv_aload_n hx hb d_Locator_placeAt_0 rfl (lv_at hl 0 rfl) ?_
  refine va_get (D := D) (ci := 3) (v := .ref qLc_places) (C := "DeepChannel$Locator") (T := fT_Locator) (N := 6) hx hb hts u_Locator hown hK hP 0 rfl rfl 5 (by decide) (hts _ k_139) (fun _ h9 => h9) rfl d_Locator_placeAt_1 ?_
  refine lv_iload_n hx hb d_Locator_placeAt_4 rfl (lv_at hl 1 rfl) ?_
  refine z_iald hm hx hb hK hP 1 rfl d_Locator_placeAt_5 (fun v1 hm => ?_)
  cases hm
  exact z_qo hQ (z_ireti hr hx hb hlocks hK hP hD hS d_Locator_placeAt_6)
-- DeepChannel$Locator.missAt([III)I
abbrev b_Locator_missAt : ByteArray := prog_5_method_4_code
abbrev y_Locator_missAt : MethodName := ⟨"DeepChannel$Locator", "missAt", "([III)I"⟩
theorem d_Locator_missAt_0 : decode b_Locator_missAt 0 = .ok (.iconst 0, 1) := by decide +kernel
theorem d_Locator_missAt_1 : decode b_Locator_missAt 1 = .ok (.istore 4, 2) := by decide +kernel
theorem d_Locator_missAt_3 : decode b_Locator_missAt 3 = .ok (.iconst 0, 1) := by decide +kernel
theorem d_Locator_missAt_4 : decode b_Locator_missAt 4 = .ok (.istore 5, 2) := by decide +kernel
theorem d_Locator_missAt_6 : decode b_Locator_missAt 6 = .ok (.iload 5, 2) := by decide +kernel
theorem d_Locator_missAt_8 : decode b_Locator_missAt 8 = .ok (.iload_n 3, 1) := by decide +kernel
theorem d_Locator_missAt_9 : decode b_Locator_missAt 9 = .ok (.if_icmp .gt 40, 3) := by decide +kernel
theorem d_Locator_missAt_12 : decode b_Locator_missAt 12 = .ok (.iload 5, 2) := by decide +kernel
theorem d_Locator_missAt_14 : decode b_Locator_missAt 14 = .ok (.iload_n 2, 1) := by decide +kernel
theorem d_Locator_missAt_15 : decode b_Locator_missAt 15 = .ok (.if_icmp .gt 34, 3) := by decide +kernel
theorem d_Locator_missAt_18 : decode b_Locator_missAt 18 = .ok (.iload 4, 2) := by decide +kernel
theorem d_Locator_missAt_20 : decode b_Locator_missAt 20 = .ok (.aload_n 0, 1) := by decide +kernel
theorem d_Locator_missAt_21 : decode b_Locator_missAt 21 = .ok (.getfield 27, 3) := by decide +kernel
theorem d_Locator_missAt_24 : decode b_Locator_missAt 24 = .ok (.aload_n 0, 1) := by decide +kernel
theorem d_Locator_missAt_25 : decode b_Locator_missAt 25 = .ok (.getfield 9, 3) := by decide +kernel
theorem d_Locator_missAt_28 : decode b_Locator_missAt 28 = .ok (.iload 5, 2) := by decide +kernel
theorem d_Locator_missAt_30 : decode b_Locator_missAt 30 = .ok (.iaload, 1) := by decide +kernel
theorem d_Locator_missAt_31 : decode b_Locator_missAt 31 = .ok (.aload_n 1, 1) := by decide +kernel
theorem d_Locator_missAt_32 : decode b_Locator_missAt 32 = .ok (.iload_n 2, 1) := by decide +kernel
theorem d_Locator_missAt_33 : decode b_Locator_missAt 33 = .ok (.iload 5, 2) := by decide +kernel
theorem d_Locator_missAt_35 : decode b_Locator_missAt 35 = .ok (.isub, 1) := by decide +kernel
theorem d_Locator_missAt_36 : decode b_Locator_missAt 36 = .ok (.iaload, 1) := by decide +kernel
theorem d_Locator_missAt_37 : decode b_Locator_missAt 37 = .ok (.invokevirtual 57, 3) := by decide +kernel
theorem d_Locator_missAt_40 : decode b_Locator_missAt 40 = .ok (.ixor, 1) := by decide +kernel
theorem d_Locator_missAt_41 : decode b_Locator_missAt 41 = .ok (.istore 4, 2) := by decide +kernel
theorem d_Locator_missAt_43 : decode b_Locator_missAt 43 = .ok (.iinc 5 1, 3) := by decide +kernel
theorem d_Locator_missAt_46 : decode b_Locator_missAt 46 = .ok (.goto (-40), 3) := by decide +kernel
theorem d_Locator_missAt_49 : decode b_Locator_missAt 49 = .ok (.iload 4, 2) := by decide +kernel
theorem d_Locator_missAt_51 : decode b_Locator_missAt 51 = .ok (.ireturn, 1) := by decide +kernel
theorem ok_Locator_missAt : OKv y_Locator_missAt b_Locator_missAt 6 (some .int) "DeepChannel$Locator" 3 := ⟨k_770, k_769, k_11, k_46, by decide +kernel, by decide +kernel, by decide +kernel⟩
abbrev w_Locator_missAt (cI cJ : ClassId) (qLc qLc_poly qP1 qFd qFd_logs qFd_powers : Nat) (Lc_earlier Lc_spare Lc_evaluator Lc_places Fd_otherForms Fd_elements : Value) (nP1 : Nat) (Lc_poly : Nat → Int32) (p1 : Nat → Int32) (Fd_logs : Nat → Int32) (Fd_powers : Nat → Int32) : va_W := [(qLc, .inr (3, [.ref qFd, .ref qLc_poly, Lc_earlier, Lc_spare, Lc_evaluator, Lc_places])), (qLc_poly, .inl (cI, 33, .inl Lc_poly)), (qP1, .inl (cI, nP1, .inl p1)), (qFd, .inr (2, [.ref qFd_powers, .ref qFd_logs, Fd_otherForms, Fd_elements])), (qFd_logs, .inl (cI, 256, .inl Fd_logs)), (qFd_powers, .inl (cI, 255, .inl Fd_powers))]
def f_Locator_missAt_6_b (Lc_poly : Nat → Int32) (p1 : Nat → Int32) (Fd_logs : Nat → Int32) (Fd_powers : Nat → Int32) (nP1 : Nat) (kh6 : Int32 → Int32 → Int32 → Int32 → Option (Int32)) (x2 : Int32) (x3 : Int32) (x4 : Int32) (x5 : Int32) : Option (Int32) :=
  if x3 < x5 then
    some x4
  else
  if x2 < x5 then
    some x4
  else
  rdI Lc_poly 33 x5 fun v1 =>
  rdI p1 nP1 (x2 - x5) fun v2 =>
  bd (f_Field_product Fd_logs Fd_powers v1 v2) fun u4 =>
  nm u4 fun r3 =>
  nm (x4 ^^^ r3) fun v5 =>
  nm (x5 + (1 : Int32)) fun v6 =>
  kh6 x2 x3 v5 v6
def f_Locator_missAt_6 (Lc_poly : Nat → Int32) (p1 : Nat → Int32) (Fd_logs : Nat → Int32) (Fd_powers : Nat → Int32) (nP1 : Nat) : Nat → Int32 → Int32 → Int32 → Int32 → Option (Int32)
  | 0 => fun _ _ _ _ => none
  | n + 1 => fun x2 x3 x4 x5 => f_Locator_missAt_6_b Lc_poly p1 Fd_logs Fd_powers nP1 (f_Locator_missAt_6 Lc_poly p1 Fd_logs Fd_powers nP1 n) x2 x3 x4 x5
def f_Locator_missAt (Lc_poly : Nat → Int32) (p1 : Nat → Int32) (Fd_logs : Nat → Int32) (Fd_powers : Nat → Int32) (nP1 : Nat) (x2 : Int32) (x3 : Int32) : Option (Int32) :=
  f_Locator_missAt_6 Lc_poly p1 Fd_logs Fd_powers nP1 10000 x2 x3 (0 : Int32) (0 : Int32)
set_option maxHeartbeats 4000000 in
set_option maxRecDepth 100000 in
theorem c_Locator_missAt (l : Launch) (D : va_G) (cI cJ : ClassId) (tt : Nat → Nat) (qLc qLc_poly qP1 qFd qFd_logs qFd_powers : Nat) (Lc_earlier Lc_spare Lc_evaluator Lc_places Fd_otherForms Fd_elements : Value) (nP1 : Nat) (sz : Nat) (Lc_poly : Nat → Int32) (p1 : Nat → Int32) (Fd_logs : Nat → Int32) (Fd_powers : Nat → Int32) (x2 : Int32) (x3 : Int32) (rr : Int32) (hm : f_Locator_missAt Lc_poly p1 Fd_logs Fd_powers nP1 x2 x3 = some rr) : CTi l y_Locator_missAt b_Locator_missAt 6 (some .int) (RM 1 22) D cI cJ tt [.ref qLc, .ref qP1, .int x2, .int x3] (w_Locator_missAt cI cJ qLc qLc_poly qP1 qFd qFd_logs qFd_powers Lc_earlier Lc_spare Lc_evaluator Lc_places Fd_otherForms Fd_elements nP1 Lc_poly p1 Fd_logs Fd_powers) (w_Locator_missAt cI cJ qLc qLc_poly qP1 qFd qFd_logs qFd_powers Lc_earlier Lc_spare Lc_evaluator Lc_places Fd_otherForms Fd_elements nP1 Lc_poly p1 Fd_logs Fd_powers) sz rr := by
  refine Met.ofW (cc := b_Locator_missAt) (maxL := 6) (ret := (some .int)) (by decide) rfl ?_
  intro p e s m args below meth c s₁ B hml hv
  obtain ⟨hargs, hsz, hP, hK, hD0, hE⟩ := hv
  have hx := B.exec
  have hb := B.bytes
  have hr := B.returns
  have hts : ∀ w ∈ TB, w.before args s = true := z_mV s (atoms_spec (ws := WD y_Locator_missAt b_Locator_missAt 6 (some .int)) B.pre)
  have hown : s.vm.findClass "DeepChannel$Locator" = some m.cls := findClass_of_methodNamed B.named
  have hlocks := B.notSynchronized
  subst hsz
  have hD := hD0.self (sz := s.heap.size)
  generalize hAe : va_A (w_Locator_missAt cI cJ qLc qLc_poly qP1 qFd qFd_logs qFd_powers Lc_earlier Lc_spare Lc_evaluator Lc_places Fd_otherForms Fd_elements nP1 Lc_poly p1 Fd_logs Fd_powers) s.heap.size = A at hD hE ⊢
  have hA : ∀ q : Nat, s.heap.size ≤ q → A q := fun q h => by rw [← hAe]; exact Or.inr h
  have hS : va_S A s.heap s.heap [] := va_S.rf
  refine z_entry (vs := [.ref qLc, .ref qP1, .int x2, .int x3]) hargs (Nat.le_of_ble_eq_true rfl) (fun ls hl => ?_)
  have hl : lv_has ls 6 [(0, .ref qLc), (1, .ref qP1), (2, .int x2), (3, .int x3)] := hl
  show W p l e (RM 1 22) s m args below meth c s.heap [] 0 0 _ _
  refine z_qi (fun Q0 hQ => ?_)
  have F : CallFix p m c b_Locator_missAt 6 s args TB "DeepChannel$Locator" := ⟨hx, hb, hml, hown, hts⟩
  have T6 : ∀ (n6 : Nat) (x2 : Int32) (x3 : Int32) (x4 : Int32) (x5 : Int32), f_Locator_missAt_6 Lc_poly p1 Fd_logs Fd_powers nP1 n6 x2 x3 x4 x5 = some rr → ∀ (H : Heap) (locs : List Loc), va_P D classes (w_Locator_missAt cI cJ qLc qLc_poly qP1 qFd qFd_logs qFd_powers Lc_earlier Lc_spare Lc_evaluator Lc_places Fd_otherForms Fd_elements nP1 Lc_poly p1 Fd_logs Fd_powers) H → va_D A (w_Locator_missAt cI cJ qLc qLc_poly qP1 qFd qFd_logs qFd_powers Lc_earlier Lc_spare Lc_evaluator Lc_places Fd_otherForms Fd_elements nP1 Lc_poly p1 Fd_logs Fd_powers) → va_S A s.heap H locs → ∀ (ls : Array Slot), lv_has ls 6 [(0, .ref qLc), (1, .ref qP1), (2, .int x2), (3, .int x3), (4, .int x4), (5, .int x5)] → W p l e (RM 1 22) s m args below meth c H locs 0 0 Q0 (F0 m 6 ls []) := by
    intro n6
    induction n6 with
    | zero => intro x2 x3 x4 x5 hm; cases hm
    | succ n6 ih6 =>
      intro x2 x3 x4 x5 hm H locs hP hD hS ls hl
      replace hm : f_Locator_missAt_6_b Lc_poly p1 Fd_logs Fd_powers nP1 (f_Locator_missAt_6 Lc_poly p1 Fd_logs Fd_powers nP1 n6) x2 x3 x4 x5 = some rr := hm
      unfold f_Locator_missAt_6_b at hm
      refine lv_iload hx hb d_Locator_missAt_6 (lv_at hl 5 rfl) ?_
      refine lv_iload_n hx hb d_Locator_missAt_8 rfl (lv_at hl 3 rfl) ?_
      refine z_if hm (lv_icmp_gt (tgt := 49) hx hb d_Locator_missAt_9 (by decide)) (fun hm => ?_) (fun hm => ?_)
      · refine lv_iload hx hb d_Locator_missAt_49 (lv_at hl 4 rfl) ?_
        cases hm
        exact z_qo hQ (z_ireti hr hx hb hlocks hK hP hD hS d_Locator_missAt_51)
      · refine lv_iload hx hb d_Locator_missAt_12 (lv_at hl 5 rfl) ?_
        refine lv_iload_n hx hb d_Locator_missAt_14 rfl (lv_at hl 2 rfl) ?_
        refine z_if hm (lv_icmp_gt (tgt := 49) hx hb d_Locator_missAt_15 (by decide)) (fun hm => ?_) (fun hm => ?_)
        · refine lv_iload hx hb d_Locator_missAt_49 (lv_at hl 4 rfl) ?_
          cases hm
          exact z_qo hQ (z_ireti hr hx hb hlocks hK hP hD hS d_Locator_missAt_51)
        · refine lv_iload hx hb d_Locator_missAt_18 (lv_at hl 4 rfl) ?_
          refine lv_aload_n hx hb d_Locator_missAt_20 rfl (lv_at hl 0 rfl) ?_
          refine va_get (D := D) (ci := 3) (v := .ref qFd) (C := "DeepChannel$Locator") (T := fT_Locator) (N := 6) hx hb hts u_Locator hown hK hP 0 rfl rfl 0 (by decide) (hts _ k_134) (fun _ h9 => h9) rfl d_Locator_missAt_21 ?_
          refine lv_aload_n hx hb d_Locator_missAt_24 rfl (lv_at hl 0 rfl) ?_
          refine va_get (D := D) (ci := 3) (v := .ref qLc_poly) (C := "DeepChannel$Locator") (T := fT_Locator) (N := 6) hx hb hts u_Locator hown hK hP 0 rfl rfl 1 (by decide) (hts _ k_135) (fun _ h9 => h9) rfl d_Locator_missAt_25 ?_
          refine lv_iload hx hb d_Locator_missAt_28 (lv_at hl 5 rfl) ?_
          refine z_iald hm hx hb hK hP 1 rfl d_Locator_missAt_30 (fun v1 hm => ?_)
          refine lv_aload_n hx hb d_Locator_missAt_31 rfl (lv_at hl 1 rfl) ?_
          refine lv_iload_n hx hb d_Locator_missAt_32 rfl (lv_at hl 2 rfl) ?_
          refine lv_iload hx hb d_Locator_missAt_33 (lv_at hl 5 rfl) ?_
          refine lv_isub hx hb d_Locator_missAt_35 ?_
          refine z_iald hm hx hb hK hP 2 rfl d_Locator_missAt_36 (fun v2 hm => ?_)
          obtain ⟨r3, hu, hm⟩ := bd_el hm
          replace hm := nm_1 hm
          refine z_cVi (wc := w_Field_product cI cJ qFd qFd_logs qFd_powers Fd_otherForms Fd_elements Fd_logs Fd_powers) (wc' := w_Field_product cI cJ qFd qFd_logs qFd_powers Fd_otherForms Fd_elements Fd_logs Fd_powers) (wr := [(qLc, .inr (3, [.ref qFd, .ref qLc_poly, Lc_earlier, Lc_spare, Lc_evaluator, Lc_places])), (qLc_poly, .inl (cI, 33, .inl Lc_poly)), (qP1, .inl (cI, nP1, .inl p1))]) (As := [.int v1, .int v2]) (rest := [.int x4]) (c_Field_product l D cI cJ tt qFd qFd_logs qFd_powers Fd_otherForms Fd_elements _ Fd_logs Fd_powers v1 v2 r3 hu) F ok_Field_product rfl k_771 hK hE hP hD hS hA [3, 4, 5] [0, 1, 2] rfl rfl (by decide) (by decide) (by decide) 0 rfl rfl rfl ⟨rfl, rfl, Nat.le_of_ble_eq_true rfl, Nat.le_of_ble_eq_true rfl⟩ ⟨Nat.zero_le _, Nat.zero_le _⟩ rfl hl.1 rfl (Nat.le_of_ble_eq_true rfl) d_Locator_missAt_37 (fun H locs hP hD hS => ?_)
          have hP : va_P D classes (w_Locator_missAt cI cJ qLc qLc_poly qP1 qFd qFd_logs qFd_powers Lc_earlier Lc_spare Lc_evaluator Lc_places Fd_otherForms Fd_elements nP1 Lc_poly p1 Fd_logs Fd_powers) H := hP.sub [0, 1, 2, 3, 4, 5] rfl
          have hD : va_D A (w_Locator_missAt cI cJ qLc qLc_poly qP1 qFd qFd_logs qFd_powers Lc_earlier Lc_spare Lc_evaluator Lc_places Fd_otherForms Fd_elements nP1 Lc_poly p1 Fd_logs Fd_powers) := hD.sub [0, 1, 2, 3, 4, 5] (by decide) rfl
          refine lv_ixor hx hb d_Locator_missAt_40 ?_
          refine z_nmi hm (fun v5 hm => ?_)
          refine lv_istore (lv' := [(4, .int v5), (0, .ref qLc), (1, .ref qP1), (2, .int x2), (3, .int x3), (5, .int x5)]) hx hb d_Locator_missAt_41 hl (by decide) rfl (fun ls hl => ?_)
          obtain ⟨v6, ev, hm⟩ := nm_el hm
          refine lv_iinc (v := v6) (lv' := [(5, .int v6), (4, .int v5), (0, .ref qLc), (1, .ref qP1), (2, .int x2), (3, .int x3)]) hx hb d_Locator_missAt_43 hl (k := 5) rfl (by rw [ev]; rfl) (by decide) rfl (fun ls hl => ?_)
          refine lv_goto (tgt := 6) hx hb d_Locator_missAt_46 (by decide) ?_
          exact ih6 x2 x3 v5 v6 hm _ _ hP hD hS _ (lv_sub hl [2, 3, 4, 5, 1, 0] rfl)
  unfold f_Locator_missAt at hm
  refine lv_iconst (v := (0 : Int32)) hx hb d_Locator_missAt_0 (by decide) ?_
  refine lv_istore (lv' := [(4, .int (0 : Int32)), (0, .ref qLc), (1, .ref qP1), (2, .int x2), (3, .int x3)]) hx hb d_Locator_missAt_1 hl (by decide) rfl (fun ls hl => ?_)
  refine lv_iconst (v := (0 : Int32)) hx hb d_Locator_missAt_3 (by decide) ?_
  refine lv_istore (lv' := [(5, .int (0 : Int32)), (4, .int (0 : Int32)), (0, .ref qLc), (1, .ref qP1), (2, .int x2), (3, .int x3)]) hx hb d_Locator_missAt_4 hl (by decide) rfl (fun ls hl => ?_)
  exact T6 10000 x2 x3 (0 : Int32) (0 : Int32) hm _ _ hP hD hS _ (lv_sub hl [2, 3, 4, 5, 1, 0] rfl)
-- DeepChannel$Locator.addEarlier(II)V
abbrev b_Locator_addEarlier : ByteArray := prog_5_method_5_code
abbrev y_Locator_addEarlier : MethodName := ⟨"DeepChannel$Locator", "addEarlier", "(II)V"⟩
theorem d_Locator_addEarlier_0 : decode b_Locator_addEarlier 0 = .ok (.iconst 0, 1) := by decide +kernel
theorem d_Locator_addEarlier_1 : decode b_Locator_addEarlier 1 = .ok (.istore_n 3, 1) := by decide +kernel
theorem d_Locator_addEarlier_2 : decode b_Locator_addEarlier 2 = .ok (.iload_n 3, 1) := by decide +kernel
theorem d_Locator_addEarlier_3 : decode b_Locator_addEarlier 3 = .ok (.iload_n 2, 1) := by decide +kernel
theorem d_Locator_addEarlier_4 : decode b_Locator_addEarlier 4 = .ok (.iadd, 1) := by decide +kernel
theorem d_Locator_addEarlier_5 : decode b_Locator_addEarlier 5 = .ok (.aload_n 0, 1) := by decide +kernel
theorem d_Locator_addEarlier_6 : decode b_Locator_addEarlier 6 = .ok (.getfield 9, 3) := by decide +kernel
theorem d_Locator_addEarlier_9 : decode b_Locator_addEarlier 9 = .ok (.arraylength, 1) := by decide +kernel
theorem d_Locator_addEarlier_10 : decode b_Locator_addEarlier 10 = .ok (.if_icmp .ge 34, 3) := by decide +kernel
theorem d_Locator_addEarlier_13 : decode b_Locator_addEarlier 13 = .ok (.aload_n 0, 1) := by decide +kernel
theorem d_Locator_addEarlier_14 : decode b_Locator_addEarlier 14 = .ok (.getfield 9, 3) := by decide +kernel
theorem d_Locator_addEarlier_17 : decode b_Locator_addEarlier 17 = .ok (.iload_n 3, 1) := by decide +kernel
theorem d_Locator_addEarlier_18 : decode b_Locator_addEarlier 18 = .ok (.iload_n 2, 1) := by decide +kernel
theorem d_Locator_addEarlier_19 : decode b_Locator_addEarlier 19 = .ok (.iadd, 1) := by decide +kernel
theorem d_Locator_addEarlier_20 : decode b_Locator_addEarlier 20 = .ok (.dup2, 1) := by decide +kernel
theorem d_Locator_addEarlier_21 : decode b_Locator_addEarlier 21 = .ok (.iaload, 1) := by decide +kernel
theorem d_Locator_addEarlier_22 : decode b_Locator_addEarlier 22 = .ok (.aload_n 0, 1) := by decide +kernel
theorem d_Locator_addEarlier_23 : decode b_Locator_addEarlier 23 = .ok (.getfield 27, 3) := by decide +kernel
theorem d_Locator_addEarlier_26 : decode b_Locator_addEarlier 26 = .ok (.iload_n 1, 1) := by decide +kernel
theorem d_Locator_addEarlier_27 : decode b_Locator_addEarlier 27 = .ok (.aload_n 0, 1) := by decide +kernel
theorem d_Locator_addEarlier_28 : decode b_Locator_addEarlier 28 = .ok (.getfield 15, 3) := by decide +kernel
theorem d_Locator_addEarlier_31 : decode b_Locator_addEarlier 31 = .ok (.iload_n 3, 1) := by decide +kernel
theorem d_Locator_addEarlier_32 : decode b_Locator_addEarlier 32 = .ok (.iaload, 1) := by decide +kernel
theorem d_Locator_addEarlier_33 : decode b_Locator_addEarlier 33 = .ok (.invokevirtual 57, 3) := by decide +kernel
theorem d_Locator_addEarlier_36 : decode b_Locator_addEarlier 36 = .ok (.ixor, 1) := by decide +kernel
theorem d_Locator_addEarlier_37 : decode b_Locator_addEarlier 37 = .ok (.iastore, 1) := by decide +kernel
theorem d_Locator_addEarlier_38 : decode b_Locator_addEarlier 38 = .ok (.iinc 3 1, 3) := by decide +kernel
theorem d_Locator_addEarlier_41 : decode b_Locator_addEarlier 41 = .ok (.goto (-39), 3) := by decide +kernel
theorem d_Locator_addEarlier_44 : decode b_Locator_addEarlier 44 = .ok (.return_, 1) := by decide +kernel
theorem ok_Locator_addEarlier : OKv y_Locator_addEarlier b_Locator_addEarlier 4 none "DeepChannel$Locator" 2 := ⟨k_782, k_781, k_12, k_46, by decide +kernel, by decide +kernel, by decide +kernel⟩
abbrev w_Locator_addEarlier (cI cJ : ClassId) (qLc qLc_poly qLc_earlier qFd qFd_logs qFd_powers : Nat) (Lc_spare Lc_evaluator Lc_places Fd_otherForms Fd_elements : Value) (Lc_poly : Nat → Int32) (Lc_earlier : Nat → Int32) (Fd_logs : Nat → Int32) (Fd_powers : Nat → Int32) : va_W := [(qLc, .inr (3, [.ref qFd, .ref qLc_poly, .ref qLc_earlier, Lc_spare, Lc_evaluator, Lc_places])), (qLc_poly, .inl (cI, 33, .inl Lc_poly)), (qLc_earlier, .inl (cI, 33, .inl Lc_earlier)), (qFd, .inr (2, [.ref qFd_powers, .ref qFd_logs, Fd_otherForms, Fd_elements])), (qFd_logs, .inl (cI, 256, .inl Fd_logs)), (qFd_powers, .inl (cI, 255, .inl Fd_powers))]
def f_Locator_addEarlier_2_b (Lc_earlier : Nat → Int32) (Fd_logs : Nat → Int32) (Fd_powers : Nat → Int32) (kh2 : Int32 → Int32 → Int32 → (Nat → Int32) → Option ((Nat → Int32))) (x1 : Int32) (x2 : Int32) (x3 : Int32) (Lc_poly : Nat → Int32) : Option ((Nat → Int32)) :=
  if (33 : Int32) ≤ (x3 + x2) then
    some Lc_poly
  else
  nm (x3 + x2) fun v1 =>
  rdI Lc_poly 33 v1 fun v2 =>
  rdI Lc_earlier 33 x3 fun v3 =>
  bd (f_Field_product Fd_logs Fd_powers x1 v3) fun u5 =>
  nm u5 fun r4 =>
  wrI Lc_poly 33 v1 (v2 ^^^ r4) fun g6 =>
  nm (x3 + (1 : Int32)) fun v7 =>
  kh2 x1 x2 v7 g6
def f_Locator_addEarlier_2 (Lc_earlier : Nat → Int32) (Fd_logs : Nat → Int32) (Fd_powers : Nat → Int32) : Nat → Int32 → Int32 → Int32 → (Nat → Int32) → Option ((Nat → Int32))
  | 0 => fun _ _ _ _ => none
  | n + 1 => fun x1 x2 x3 Lc_poly => f_Locator_addEarlier_2_b Lc_earlier Fd_logs Fd_powers (f_Locator_addEarlier_2 Lc_earlier Fd_logs Fd_powers n) x1 x2 x3 Lc_poly
def f_Locator_addEarlier (Lc_poly : Nat → Int32) (Lc_earlier : Nat → Int32) (Fd_logs : Nat → Int32) (Fd_powers : Nat → Int32) (x1 : Int32) (x2 : Int32) : Option ((Nat → Int32)) :=
  f_Locator_addEarlier_2 Lc_earlier Fd_logs Fd_powers 10000 x1 x2 (0 : Int32) Lc_poly
set_option maxHeartbeats 4000000 in
set_option maxRecDepth 100000 in
theorem c_Locator_addEarlier (l : Launch) (D : va_G) (cI cJ : ClassId) (tt : Nat → Nat) (qLc qLc_poly qLc_earlier qFd qFd_logs qFd_powers : Nat) (Lc_spare Lc_evaluator Lc_places Fd_otherForms Fd_elements : Value) (sz : Nat) (Lc_poly : Nat → Int32) (Lc_earlier : Nat → Int32) (Fd_logs : Nat → Int32) (Fd_powers : Nat → Int32) (x1 : Int32) (x2 : Int32) (Lc_poly' : Nat → Int32) (hm : f_Locator_addEarlier Lc_poly Lc_earlier Fd_logs Fd_powers x1 x2 = some Lc_poly') : CTv l y_Locator_addEarlier b_Locator_addEarlier 4 none (RM 1 22) D cI cJ tt [.ref qLc, .int x1, .int x2] (w_Locator_addEarlier cI cJ qLc qLc_poly qLc_earlier qFd qFd_logs qFd_powers Lc_spare Lc_evaluator Lc_places Fd_otherForms Fd_elements Lc_poly Lc_earlier Fd_logs Fd_powers) (w_Locator_addEarlier cI cJ qLc qLc_poly qLc_earlier qFd qFd_logs qFd_powers Lc_spare Lc_evaluator Lc_places Fd_otherForms Fd_elements Lc_poly' Lc_earlier Fd_logs Fd_powers) sz := by
  refine Met.ofW (cc := b_Locator_addEarlier) (maxL := 4) (ret := none) (by decide) rfl ?_
  intro p e s m args below meth c s₁ B hml hv
  obtain ⟨hargs, hsz, hP, hK, hD0, hE⟩ := hv
  have hx := B.exec
  have hb := B.bytes
  have hr := B.returns
  have hts : ∀ w ∈ TB, w.before args s = true := z_mV s (atoms_spec (ws := WD y_Locator_addEarlier b_Locator_addEarlier 4 none) B.pre)
  have hown : s.vm.findClass "DeepChannel$Locator" = some m.cls := findClass_of_methodNamed B.named
  have hlocks := B.notSynchronized
  subst hsz
  have hD := hD0.self (sz := s.heap.size)
  generalize hAe : va_A (w_Locator_addEarlier cI cJ qLc qLc_poly qLc_earlier qFd qFd_logs qFd_powers Lc_spare Lc_evaluator Lc_places Fd_otherForms Fd_elements Lc_poly Lc_earlier Fd_logs Fd_powers) s.heap.size = A at hD hE ⊢
  have hA : ∀ q : Nat, s.heap.size ≤ q → A q := fun q h => by rw [← hAe]; exact Or.inr h
  have hS : va_S A s.heap s.heap [] := va_S.rf
  refine z_entry (vs := [.ref qLc, .int x1, .int x2]) hargs (Nat.le_of_ble_eq_true rfl) (fun ls hl => ?_)
  have hl : lv_has ls 4 [(0, .ref qLc), (1, .int x1), (2, .int x2)] := hl
  show W p l e (RM 1 22) s m args below meth c s.heap [] 0 0 _ _
  refine z_qi (fun Q0 hQ => ?_)
  have F : CallFix p m c b_Locator_addEarlier 4 s args TB "DeepChannel$Locator" := ⟨hx, hb, hml, hown, hts⟩
  have T2 : ∀ (n2 : Nat) (x1 : Int32) (x2 : Int32) (x3 : Int32) (Lc_poly : Nat → Int32), f_Locator_addEarlier_2 Lc_earlier Fd_logs Fd_powers n2 x1 x2 x3 Lc_poly = some Lc_poly' → ∀ (H : Heap) (locs : List Loc), va_P D classes (w_Locator_addEarlier cI cJ qLc qLc_poly qLc_earlier qFd qFd_logs qFd_powers Lc_spare Lc_evaluator Lc_places Fd_otherForms Fd_elements Lc_poly Lc_earlier Fd_logs Fd_powers) H → va_D A (w_Locator_addEarlier cI cJ qLc qLc_poly qLc_earlier qFd qFd_logs qFd_powers Lc_spare Lc_evaluator Lc_places Fd_otherForms Fd_elements Lc_poly Lc_earlier Fd_logs Fd_powers) → va_S A s.heap H locs → ∀ (ls : Array Slot), lv_has ls 4 [(0, .ref qLc), (1, .int x1), (2, .int x2), (3, .int x3)] → W p l e (RM 1 22) s m args below meth c H locs 0 0 Q0 (F0 m 2 ls []) := by
    intro n2
    induction n2 with
    | zero => intro x1 x2 x3 Lc_poly hm; cases hm
    | succ n2 ih2 =>
      intro x1 x2 x3 Lc_poly hm H locs hP hD hS ls hl
      replace hm : f_Locator_addEarlier_2_b Lc_earlier Fd_logs Fd_powers (f_Locator_addEarlier_2 Lc_earlier Fd_logs Fd_powers n2) x1 x2 x3 Lc_poly = some Lc_poly' := hm
      unfold f_Locator_addEarlier_2_b at hm
      refine lv_iload_n hx hb d_Locator_addEarlier_2 rfl (lv_at hl 3 rfl) ?_
      refine lv_iload_n hx hb d_Locator_addEarlier_3 rfl (lv_at hl 2 rfl) ?_
      refine lv_iadd hx hb d_Locator_addEarlier_4 ?_
      refine lv_aload_n hx hb d_Locator_addEarlier_5 rfl (lv_at hl 0 rfl) ?_
      refine va_get (D := D) (ci := 3) (v := .ref qLc_poly) (C := "DeepChannel$Locator") (T := fT_Locator) (N := 6) hx hb hts u_Locator hown hK hP 0 rfl rfl 1 (by decide) (hts _ k_135) (fun _ h9 => h9) rfl d_Locator_addEarlier_6 ?_
      refine va_alen (v := (33 : Int32)) hx hb hK hP 1 0 rfl rfl rfl d_Locator_addEarlier_9 ?_
      refine z_if hm (lv_icmp_ge (tgt := 44) hx hb d_Locator_addEarlier_10 (by decide)) (fun hm => ?_) (fun hm => ?_)
      · cases hm
        exact z_qo hQ (z_vret hr hx hb hlocks hK hP hD hS d_Locator_addEarlier_44)
      · refine lv_aload_n hx hb d_Locator_addEarlier_13 rfl (lv_at hl 0 rfl) ?_
        refine va_get (D := D) (ci := 3) (v := .ref qLc_poly) (C := "DeepChannel$Locator") (T := fT_Locator) (N := 6) hx hb hts u_Locator hown hK hP 0 rfl rfl 1 (by decide) (hts _ k_135) (fun _ h9 => h9) rfl d_Locator_addEarlier_14 ?_
        refine lv_iload_n hx hb d_Locator_addEarlier_17 rfl (lv_at hl 3 rfl) ?_
        refine lv_iload_n hx hb d_Locator_addEarlier_18 rfl (lv_at hl 2 rfl) ?_
        refine lv_iadd hx hb d_Locator_addEarlier_19 ?_
        refine z_nmi hm (fun v1 hm => ?_)
        refine lv_dup2_11 hx hb d_Locator_addEarlier_20 rfl rfl ?_
        refine z_iald hm hx hb hK hP 1 rfl d_Locator_addEarlier_21 (fun v2 hm => ?_)
        refine lv_aload_n hx hb d_Locator_addEarlier_22 rfl (lv_at hl 0 rfl) ?_
        refine va_get (D := D) (ci := 3) (v := .ref qFd) (C := "DeepChannel$Locator") (T := fT_Locator) (N := 6) hx hb hts u_Locator hown hK hP 0 rfl rfl 0 (by decide) (hts _ k_134) (fun _ h9 => h9) rfl d_Locator_addEarlier_23 ?_
        refine lv_iload_n hx hb d_Locator_addEarlier_26 rfl (lv_at hl 1 rfl) ?_
        refine lv_aload_n hx hb d_Locator_addEarlier_27 rfl (lv_at hl 0 rfl) ?_
        refine va_get (D := D) (ci := 3) (v := .ref qLc_earlier) (C := "DeepChannel$Locator") (T := fT_Locator) (N := 6) hx hb hts u_Locator hown hK hP 0 rfl rfl 2 (by decide) (hts _ k_136) (fun _ h9 => h9) rfl d_Locator_addEarlier_28 ?_
        refine lv_iload_n hx hb d_Locator_addEarlier_31 rfl (lv_at hl 3 rfl) ?_
        refine z_iald hm hx hb hK hP 2 rfl d_Locator_addEarlier_32 (fun v3 hm => ?_)
        obtain ⟨r4, hu, hm⟩ := bd_el hm
        replace hm := nm_1 hm
        refine z_cVi (wc := w_Field_product cI cJ qFd qFd_logs qFd_powers Fd_otherForms Fd_elements Fd_logs Fd_powers) (wc' := w_Field_product cI cJ qFd qFd_logs qFd_powers Fd_otherForms Fd_elements Fd_logs Fd_powers) (wr := [(qLc, .inr (3, [.ref qFd, .ref qLc_poly, .ref qLc_earlier, Lc_spare, Lc_evaluator, Lc_places])), (qLc_poly, .inl (cI, 33, .inl Lc_poly)), (qLc_earlier, .inl (cI, 33, .inl Lc_earlier))]) (As := [.int x1, .int v3]) (rest := [.int v2, .int v1, .ref qLc_poly]) (c_Field_product l D cI cJ tt qFd qFd_logs qFd_powers Fd_otherForms Fd_elements _ Fd_logs Fd_powers x1 v3 r4 hu) F ok_Field_product rfl k_771 hK hE hP hD hS hA [3, 4, 5] [0, 1, 2] rfl rfl (by decide) (by decide) (by decide) 0 rfl rfl rfl ⟨rfl, rfl, Nat.le_of_ble_eq_true rfl, Nat.le_of_ble_eq_true rfl⟩ ⟨Nat.zero_le _, Nat.zero_le _⟩ rfl hl.1 rfl (Nat.le_of_ble_eq_true rfl) d_Locator_addEarlier_33 (fun H locs hP hD hS => ?_)
        have hP : va_P D classes (w_Locator_addEarlier cI cJ qLc qLc_poly qLc_earlier qFd qFd_logs qFd_powers Lc_spare Lc_evaluator Lc_places Fd_otherForms Fd_elements Lc_poly Lc_earlier Fd_logs Fd_powers) H := hP.sub [0, 1, 2, 3, 4, 5] rfl
        have hD : va_D A (w_Locator_addEarlier cI cJ qLc qLc_poly qLc_earlier qFd qFd_logs qFd_powers Lc_spare Lc_evaluator Lc_places Fd_otherForms Fd_elements Lc_poly Lc_earlier Fd_logs Fd_powers) := hD.sub [0, 1, 2, 3, 4, 5] (by decide) rfl
        refine lv_ixor hx hb d_Locator_addEarlier_36 ?_
        refine z_iast hm hx hb hK hP hD hS 1 rfl d_Locator_addEarlier_37 (fun g6 hm H locs hP hD hS => ?_)
        have hP : va_P D classes (w_Locator_addEarlier cI cJ qLc qLc_poly qLc_earlier qFd qFd_logs qFd_powers Lc_spare Lc_evaluator Lc_places Fd_otherForms Fd_elements g6 Lc_earlier Fd_logs Fd_powers) H := hP
        have hD : va_D A (w_Locator_addEarlier cI cJ qLc qLc_poly qLc_earlier qFd qFd_logs qFd_powers Lc_spare Lc_evaluator Lc_places Fd_otherForms Fd_elements g6 Lc_earlier Fd_logs Fd_powers) := hD
        obtain ⟨v7, ev, hm⟩ := nm_el hm
        refine lv_iinc (v := v7) (lv' := [(3, .int v7), (0, .ref qLc), (1, .int x1), (2, .int x2)]) hx hb d_Locator_addEarlier_38 hl (k := 3) rfl (by rw [ev]; rfl) (by decide) rfl (fun ls hl => ?_)
        refine lv_goto (tgt := 2) hx hb d_Locator_addEarlier_41 (by decide) ?_
        exact ih2 x1 x2 v7 g6 hm _ _ hP hD hS _ (lv_sub hl [1, 2, 3, 0] rfl)
  unfold f_Locator_addEarlier at hm
  refine lv_iconst (v := (0 : Int32)) hx hb d_Locator_addEarlier_0 (by decide) ?_
  refine lv_istore_n (lv' := [(3, .int (0 : Int32)), (0, .ref qLc), (1, .int x1), (2, .int x2)]) hx hb d_Locator_addEarlier_1 rfl hl (by decide) rfl (fun ls hl => ?_)
  exact T2 10000 x1 x2 (0 : Int32) Lc_poly hm _ _ hP hD hS _ (lv_sub hl [1, 2, 3, 0] rfl)
-- DeepChannel$Locator.valueAt([III)I
abbrev b_Locator_valueAt : ByteArray := prog_5_method_7_code
abbrev y_Locator_valueAt : MethodName := ⟨"DeepChannel$Locator", "valueAt", "([III)I"⟩
theorem d_Locator_valueAt_0 : decode b_Locator_valueAt 0 = .ok (.aload_n 0, 1) := by decide +kernel
theorem d_Locator_valueAt_1 : decode b_Locator_valueAt 1 = .ok (.getfield 27, 3) := by decide +kernel
theorem d_Locator_valueAt_4 : decode b_Locator_valueAt 4 = .ok (.iload_n 3, 1) := by decide +kernel
theorem d_Locator_valueAt_5 : decode b_Locator_valueAt 5 = .ok (.invokevirtual 63, 3) := by decide +kernel
theorem d_Locator_valueAt_8 : decode b_Locator_valueAt 8 = .ok (.istore 4, 2) := by decide +kernel
theorem d_Locator_valueAt_10 : decode b_Locator_valueAt 10 = .ok (.iconst 0, 1) := by decide +kernel
theorem d_Locator_valueAt_11 : decode b_Locator_valueAt 11 = .ok (.istore 5, 2) := by decide +kernel
theorem d_Locator_valueAt_13 : decode b_Locator_valueAt 13 = .ok (.iload_n 2, 1) := by decide +kernel
theorem d_Locator_valueAt_14 : decode b_Locator_valueAt 14 = .ok (.istore 6, 2) := by decide +kernel
theorem d_Locator_valueAt_16 : decode b_Locator_valueAt 16 = .ok (.iload 6, 2) := by decide +kernel
theorem d_Locator_valueAt_18 : decode b_Locator_valueAt 18 = .ok (.ifCond .lt 27, 3) := by decide +kernel
theorem d_Locator_valueAt_21 : decode b_Locator_valueAt 21 = .ok (.aload_n 0, 1) := by decide +kernel
theorem d_Locator_valueAt_22 : decode b_Locator_valueAt 22 = .ok (.getfield 27, 3) := by decide +kernel
theorem d_Locator_valueAt_25 : decode b_Locator_valueAt 25 = .ok (.iload 5, 2) := by decide +kernel
theorem d_Locator_valueAt_27 : decode b_Locator_valueAt 27 = .ok (.iload 4, 2) := by decide +kernel
theorem d_Locator_valueAt_29 : decode b_Locator_valueAt 29 = .ok (.invokevirtual 57, 3) := by decide +kernel
theorem d_Locator_valueAt_32 : decode b_Locator_valueAt 32 = .ok (.aload_n 1, 1) := by decide +kernel
theorem d_Locator_valueAt_33 : decode b_Locator_valueAt 33 = .ok (.iload 6, 2) := by decide +kernel
theorem d_Locator_valueAt_35 : decode b_Locator_valueAt 35 = .ok (.iaload, 1) := by decide +kernel
theorem d_Locator_valueAt_36 : decode b_Locator_valueAt 36 = .ok (.ixor, 1) := by decide +kernel
theorem d_Locator_valueAt_37 : decode b_Locator_valueAt 37 = .ok (.istore 5, 2) := by decide +kernel
theorem d_Locator_valueAt_39 : decode b_Locator_valueAt 39 = .ok (.iinc 6 (-1), 3) := by decide +kernel
theorem d_Locator_valueAt_42 : decode b_Locator_valueAt 42 = .ok (.goto (-26), 3) := by decide +kernel
theorem d_Locator_valueAt_45 : decode b_Locator_valueAt 45 = .ok (.iload 5, 2) := by decide +kernel
theorem d_Locator_valueAt_47 : decode b_Locator_valueAt 47 = .ok (.ireturn, 1) := by decide +kernel
theorem ok_Locator_valueAt : OKv y_Locator_valueAt b_Locator_valueAt 7 (some .int) "DeepChannel$Locator" 3 := ⟨k_790, k_789, k_13, k_46, by decide +kernel, by decide +kernel, by decide +kernel⟩
abbrev w_Locator_valueAt (cI cJ : ClassId) (qLc qFd qFd_powers qFd_logs qP1 : Nat) (Lc_poly Lc_earlier Lc_spare Lc_evaluator Lc_places Fd_otherForms Fd_elements : Value) (nP1 : Nat) (Fd_powers : Nat → Int32) (Fd_logs : Nat → Int32) (p1 : Nat → Int32) : va_W := [(qLc, .inr (3, [.ref qFd, Lc_poly, Lc_earlier, Lc_spare, Lc_evaluator, Lc_places])), (qFd, .inr (2, [.ref qFd_powers, .ref qFd_logs, Fd_otherForms, Fd_elements])), (qFd_powers, .inl (cI, 255, .inl Fd_powers)), (qFd_logs, .inl (cI, 256, .inl Fd_logs)), (qP1, .inl (cI, nP1, .inl p1))]
def f_Locator_valueAt_16_b (Fd_powers : Nat → Int32) (Fd_logs : Nat → Int32) (p1 : Nat → Int32) (nP1 : Nat) (kh16 : Int32 → Int32 → Int32 → Option (Int32)) (x4 : Int32) (x5 : Int32) (x6 : Int32) : Option (Int32) :=
  if x6 < 0 then
    some x5
  else
  bd (f_Field_product Fd_logs Fd_powers x5 x4) fun u2 =>
  nm u2 fun r1 =>
  rdI p1 nP1 x6 fun v3 =>
  nm (r1 ^^^ v3) fun v4 =>
  nm (x6 + (-1 : Int32)) fun v5 =>
  kh16 x4 v4 v5
def f_Locator_valueAt_16 (Fd_powers : Nat → Int32) (Fd_logs : Nat → Int32) (p1 : Nat → Int32) (nP1 : Nat) : Nat → Int32 → Int32 → Int32 → Option (Int32)
  | 0 => fun _ _ _ => none
  | n + 1 => fun x4 x5 x6 => f_Locator_valueAt_16_b Fd_powers Fd_logs p1 nP1 (f_Locator_valueAt_16 Fd_powers Fd_logs p1 nP1 n) x4 x5 x6
def f_Locator_valueAt (Fd_powers : Nat → Int32) (Fd_logs : Nat → Int32) (p1 : Nat → Int32) (nP1 : Nat) (x2 : Int32) (x3 : Int32) : Option (Int32) :=
  bd (f_Field_powerOfG Fd_powers x3) fun u7 =>
  nm u7 fun r6 =>
  f_Locator_valueAt_16 Fd_powers Fd_logs p1 nP1 10000 r6 (0 : Int32) x2
set_option maxHeartbeats 4000000 in
set_option maxRecDepth 100000 in
theorem c_Locator_valueAt (l : Launch) (D : va_G) (cI cJ : ClassId) (tt : Nat → Nat) (qLc qFd qFd_powers qFd_logs qP1 : Nat) (Lc_poly Lc_earlier Lc_spare Lc_evaluator Lc_places Fd_otherForms Fd_elements : Value) (nP1 : Nat) (sz : Nat) (Fd_powers : Nat → Int32) (Fd_logs : Nat → Int32) (p1 : Nat → Int32) (x2 : Int32) (x3 : Int32) (rr : Int32) (hm : f_Locator_valueAt Fd_powers Fd_logs p1 nP1 x2 x3 = some rr) : CTi l y_Locator_valueAt b_Locator_valueAt 7 (some .int) (RM 1 22) D cI cJ tt [.ref qLc, .ref qP1, .int x2, .int x3] (w_Locator_valueAt cI cJ qLc qFd qFd_powers qFd_logs qP1 Lc_poly Lc_earlier Lc_spare Lc_evaluator Lc_places Fd_otherForms Fd_elements nP1 Fd_powers Fd_logs p1) (w_Locator_valueAt cI cJ qLc qFd qFd_powers qFd_logs qP1 Lc_poly Lc_earlier Lc_spare Lc_evaluator Lc_places Fd_otherForms Fd_elements nP1 Fd_powers Fd_logs p1) sz rr := by
  refine Met.ofW (cc := b_Locator_valueAt) (maxL := 7) (ret := (some .int)) (by decide) rfl ?_
  intro p e s m args below meth c s₁ B hml hv
  obtain ⟨hargs, hsz, hP, hK, hD0, hE⟩ := hv
  have hx := B.exec
  have hb := B.bytes
  have hr := B.returns
  have hts : ∀ w ∈ TB, w.before args s = true := z_mV s (atoms_spec (ws := WD y_Locator_valueAt b_Locator_valueAt 7 (some .int)) B.pre)
  have hown : s.vm.findClass "DeepChannel$Locator" = some m.cls := findClass_of_methodNamed B.named
  have hlocks := B.notSynchronized
  subst hsz
  have hD := hD0.self (sz := s.heap.size)
  generalize hAe : va_A (w_Locator_valueAt cI cJ qLc qFd qFd_powers qFd_logs qP1 Lc_poly Lc_earlier Lc_spare Lc_evaluator Lc_places Fd_otherForms Fd_elements nP1 Fd_powers Fd_logs p1) s.heap.size = A at hD hE ⊢
  have hA : ∀ q : Nat, s.heap.size ≤ q → A q := fun q h => by rw [← hAe]; exact Or.inr h
  have hS : va_S A s.heap s.heap [] := va_S.rf
  refine z_entry (vs := [.ref qLc, .ref qP1, .int x2, .int x3]) hargs (Nat.le_of_ble_eq_true rfl) (fun ls hl => ?_)
  have hl : lv_has ls 7 [(0, .ref qLc), (1, .ref qP1), (2, .int x2), (3, .int x3)] := hl
  show W p l e (RM 1 22) s m args below meth c s.heap [] 0 0 _ _
  refine z_qi (fun Q0 hQ => ?_)
  have F : CallFix p m c b_Locator_valueAt 7 s args TB "DeepChannel$Locator" := ⟨hx, hb, hml, hown, hts⟩
  have T16 : ∀ (n16 : Nat) (x4 : Int32) (x5 : Int32) (x6 : Int32), f_Locator_valueAt_16 Fd_powers Fd_logs p1 nP1 n16 x4 x5 x6 = some rr → ∀ (H : Heap) (locs : List Loc), va_P D classes (w_Locator_valueAt cI cJ qLc qFd qFd_powers qFd_logs qP1 Lc_poly Lc_earlier Lc_spare Lc_evaluator Lc_places Fd_otherForms Fd_elements nP1 Fd_powers Fd_logs p1) H → va_D A (w_Locator_valueAt cI cJ qLc qFd qFd_powers qFd_logs qP1 Lc_poly Lc_earlier Lc_spare Lc_evaluator Lc_places Fd_otherForms Fd_elements nP1 Fd_powers Fd_logs p1) → va_S A s.heap H locs → ∀ (ls : Array Slot), lv_has ls 7 [(0, .ref qLc), (1, .ref qP1), (4, .int x4), (5, .int x5), (6, .int x6)] → W p l e (RM 1 22) s m args below meth c H locs 0 0 Q0 (F0 m 16 ls []) := by
    intro n16
    induction n16 with
    | zero => intro x4 x5 x6 hm; cases hm
    | succ n16 ih16 =>
      intro x4 x5 x6 hm H locs hP hD hS ls hl
      replace hm : f_Locator_valueAt_16_b Fd_powers Fd_logs p1 nP1 (f_Locator_valueAt_16 Fd_powers Fd_logs p1 nP1 n16) x4 x5 x6 = some rr := hm
      unfold f_Locator_valueAt_16_b at hm
      refine lv_iload hx hb d_Locator_valueAt_16 (lv_at hl 4 rfl) ?_
      refine z_if hm (lv_if_lt (tgt := 45) hx hb d_Locator_valueAt_18 (by decide)) (fun hm => ?_) (fun hm => ?_)
      · refine lv_iload hx hb d_Locator_valueAt_45 (lv_at hl 3 rfl) ?_
        cases hm
        exact z_qo hQ (z_ireti hr hx hb hlocks hK hP hD hS d_Locator_valueAt_47)
      · refine lv_aload_n hx hb d_Locator_valueAt_21 rfl (lv_at hl 0 rfl) ?_
        refine va_get (D := D) (ci := 3) (v := .ref qFd) (C := "DeepChannel$Locator") (T := fT_Locator) (N := 6) hx hb hts u_Locator hown hK hP 0 rfl rfl 0 (by decide) (hts _ k_134) (fun _ h9 => h9) rfl d_Locator_valueAt_22 ?_
        refine lv_iload hx hb d_Locator_valueAt_25 (lv_at hl 3 rfl) ?_
        refine lv_iload hx hb d_Locator_valueAt_27 (lv_at hl 2 rfl) ?_
        obtain ⟨r1, hu, hm⟩ := bd_el hm
        replace hm := nm_1 hm
        refine z_cVi (wc := w_Field_product cI cJ qFd qFd_logs qFd_powers Fd_otherForms Fd_elements Fd_logs Fd_powers) (wc' := w_Field_product cI cJ qFd qFd_logs qFd_powers Fd_otherForms Fd_elements Fd_logs Fd_powers) (wr := [(qLc, .inr (3, [.ref qFd, Lc_poly, Lc_earlier, Lc_spare, Lc_evaluator, Lc_places])), (qP1, .inl (cI, nP1, .inl p1))]) (As := [.int x5, .int x4]) (rest := []) (c_Field_product l D cI cJ tt qFd qFd_logs qFd_powers Fd_otherForms Fd_elements _ Fd_logs Fd_powers x5 x4 r1 hu) F ok_Field_product rfl k_771 hK hE hP hD hS hA [1, 3, 2] [0, 4] rfl rfl (by decide) (by decide) (by decide) 0 rfl rfl rfl ⟨rfl, rfl, Nat.le_of_ble_eq_true rfl, Nat.le_of_ble_eq_true rfl⟩ ⟨Nat.zero_le _, Nat.zero_le _⟩ rfl hl.1 rfl (Nat.le_of_ble_eq_true rfl) d_Locator_valueAt_29 (fun H locs hP hD hS => ?_)
        have hP : va_P D classes (w_Locator_valueAt cI cJ qLc qFd qFd_powers qFd_logs qP1 Lc_poly Lc_earlier Lc_spare Lc_evaluator Lc_places Fd_otherForms Fd_elements nP1 Fd_powers Fd_logs p1) H := hP.sub [0, 2, 4, 3, 1] rfl
        have hD : va_D A (w_Locator_valueAt cI cJ qLc qFd qFd_powers qFd_logs qP1 Lc_poly Lc_earlier Lc_spare Lc_evaluator Lc_places Fd_otherForms Fd_elements nP1 Fd_powers Fd_logs p1) := hD.sub [0, 2, 4, 3, 1] (by decide) rfl
        refine lv_aload_n hx hb d_Locator_valueAt_32 rfl (lv_at hl 1 rfl) ?_
        refine lv_iload hx hb d_Locator_valueAt_33 (lv_at hl 4 rfl) ?_
        refine z_iald hm hx hb hK hP 4 rfl d_Locator_valueAt_35 (fun v3 hm => ?_)
        refine lv_ixor hx hb d_Locator_valueAt_36 ?_
        refine z_nmi hm (fun v4 hm => ?_)
        refine lv_istore (lv' := [(5, .int v4), (0, .ref qLc), (1, .ref qP1), (4, .int x4), (6, .int x6)]) hx hb d_Locator_valueAt_37 hl (by decide) rfl (fun ls hl => ?_)
        obtain ⟨v5, ev, hm⟩ := nm_el hm
        refine lv_iinc (v := v5) (lv' := [(6, .int v5), (5, .int v4), (0, .ref qLc), (1, .ref qP1), (4, .int x4)]) hx hb d_Locator_valueAt_39 hl (k := 4) rfl (by rw [ev]; rfl) (by decide) rfl (fun ls hl => ?_)
        refine lv_goto (tgt := 16) hx hb d_Locator_valueAt_42 (by decide) ?_
        exact ih16 x4 v4 v5 hm _ _ hP hD hS _ (lv_sub hl [2, 3, 4, 1, 0] rfl)
  unfold f_Locator_valueAt at hm
  refine lv_aload_n hx hb d_Locator_valueAt_0 rfl (lv_at hl 0 rfl) ?_
  refine va_get (D := D) (ci := 3) (v := .ref qFd) (C := "DeepChannel$Locator") (T := fT_Locator) (N := 6) hx hb hts u_Locator hown hK hP 0 rfl rfl 0 (by decide) (hts _ k_134) (fun _ h9 => h9) rfl d_Locator_valueAt_1 ?_
  refine lv_iload_n hx hb d_Locator_valueAt_4 rfl (lv_at hl 3 rfl) ?_
  obtain ⟨r6, hu, hm⟩ := bd_el hm
  replace hm := nm_1 hm
  refine z_cVi (wc := w_Field_powerOfG cI cJ qFd qFd_powers (.ref qFd_logs) Fd_otherForms Fd_elements Fd_powers) (wc' := w_Field_powerOfG cI cJ qFd qFd_powers (.ref qFd_logs) Fd_otherForms Fd_elements Fd_powers) (wr := [(qLc, .inr (3, [.ref qFd, Lc_poly, Lc_earlier, Lc_spare, Lc_evaluator, Lc_places])), (qFd_logs, .inl (cI, 256, .inl Fd_logs)), (qP1, .inl (cI, nP1, .inl p1))]) (As := [.int x3]) (rest := []) (c_Field_powerOfG l D cI cJ tt qFd qFd_powers (.ref qFd_logs) Fd_otherForms Fd_elements _ Fd_powers x3 r6 hu) F ok_Field_powerOfG rfl k_791 hK hE hP hD hS hA [1, 2] [0, 3, 4] rfl rfl (by decide) (by decide) (by decide) 0 rfl rfl rfl ⟨rfl, rfl, Nat.le_of_ble_eq_true rfl, Nat.le_of_ble_eq_true rfl⟩ ⟨Nat.zero_le _, Nat.zero_le _⟩ rfl hl.1 rfl (Nat.le_of_ble_eq_true rfl) d_Locator_valueAt_5 (fun H locs hP hD hS => ?_)
  have hP : va_P D classes (w_Locator_valueAt cI cJ qLc qFd qFd_powers qFd_logs qP1 Lc_poly Lc_earlier Lc_spare Lc_evaluator Lc_places Fd_otherForms Fd_elements nP1 Fd_powers Fd_logs p1) H := hP.sub [0, 3, 4, 1, 2] rfl
  have hD : va_D A (w_Locator_valueAt cI cJ qLc qFd qFd_powers qFd_logs qP1 Lc_poly Lc_earlier Lc_spare Lc_evaluator Lc_places Fd_otherForms Fd_elements nP1 Fd_powers Fd_logs p1) := hD.sub [0, 3, 4, 1, 2] (by decide) rfl
  refine lv_istore (lv' := [(4, .int r6), (0, .ref qLc), (1, .ref qP1), (2, .int x2), (3, .int x3)]) hx hb d_Locator_valueAt_8 hl (by decide) rfl (fun ls hl => ?_)
  refine lv_iconst (v := (0 : Int32)) hx hb d_Locator_valueAt_10 (by decide) ?_
  refine lv_istore (lv' := [(5, .int (0 : Int32)), (4, .int r6), (0, .ref qLc), (1, .ref qP1), (2, .int x2), (3, .int x3)]) hx hb d_Locator_valueAt_11 hl (by decide) rfl (fun ls hl => ?_)
  refine lv_iload_n hx hb d_Locator_valueAt_13 rfl (lv_at hl 4 rfl) ?_
  refine lv_istore (lv' := [(6, .int x2), (5, .int (0 : Int32)), (4, .int r6), (0, .ref qLc), (1, .ref qP1), (2, .int x2), (3, .int x3)]) hx hb d_Locator_valueAt_14 hl (by decide) rfl (fun ls hl => ?_)
  exact T16 10000 r6 (0 : Int32) x2 hm _ _ hP hD hS _ (lv_sub hl [3, 4, 2, 1, 0] rfl)
-- DeepChannel$Locator.findRecurrence([II)I
abbrev b_Locator_findRecurrence : ByteArray := prog_5_method_3_code
abbrev y_Locator_findRecurrence : MethodName := ⟨"DeepChannel$Locator", "findRecurrence", "([II)I"⟩
theorem d_Locator_findRecurrence_0 : decode b_Locator_findRecurrence 0 = .ok (.aload_n 0, 1) := by decide +kernel
theorem d_Locator_findRecurrence_1 : decode b_Locator_findRecurrence 1 = .ok (.getfield 9, 3) := by decide +kernel
theorem d_Locator_findRecurrence_4 : decode b_Locator_findRecurrence 4 = .ok (.iconst 0, 1) := by decide +kernel
theorem d_Locator_findRecurrence_5 : decode b_Locator_findRecurrence 5 = .ok (.invokestatic 31, 3) := by decide +kernel
theorem d_Locator_findRecurrence_8 : decode b_Locator_findRecurrence 8 = .ok (.aload_n 0, 1) := by decide +kernel
theorem d_Locator_findRecurrence_9 : decode b_Locator_findRecurrence 9 = .ok (.getfield 15, 3) := by decide +kernel
theorem d_Locator_findRecurrence_12 : decode b_Locator_findRecurrence 12 = .ok (.iconst 0, 1) := by decide +kernel
theorem d_Locator_findRecurrence_13 : decode b_Locator_findRecurrence 13 = .ok (.invokestatic 31, 3) := by decide +kernel
theorem d_Locator_findRecurrence_16 : decode b_Locator_findRecurrence 16 = .ok (.aload_n 0, 1) := by decide +kernel
theorem d_Locator_findRecurrence_17 : decode b_Locator_findRecurrence 17 = .ok (.getfield 9, 3) := by decide +kernel
theorem d_Locator_findRecurrence_20 : decode b_Locator_findRecurrence 20 = .ok (.iconst 0, 1) := by decide +kernel
theorem d_Locator_findRecurrence_21 : decode b_Locator_findRecurrence 21 = .ok (.iconst 1, 1) := by decide +kernel
theorem d_Locator_findRecurrence_22 : decode b_Locator_findRecurrence 22 = .ok (.iastore, 1) := by decide +kernel
theorem d_Locator_findRecurrence_23 : decode b_Locator_findRecurrence 23 = .ok (.aload_n 0, 1) := by decide +kernel
theorem d_Locator_findRecurrence_24 : decode b_Locator_findRecurrence 24 = .ok (.getfield 15, 3) := by decide +kernel
theorem d_Locator_findRecurrence_27 : decode b_Locator_findRecurrence 27 = .ok (.iconst 0, 1) := by decide +kernel
theorem d_Locator_findRecurrence_28 : decode b_Locator_findRecurrence 28 = .ok (.iconst 1, 1) := by decide +kernel
theorem d_Locator_findRecurrence_29 : decode b_Locator_findRecurrence 29 = .ok (.iastore, 1) := by decide +kernel
theorem d_Locator_findRecurrence_30 : decode b_Locator_findRecurrence 30 = .ok (.iconst 0, 1) := by decide +kernel
theorem d_Locator_findRecurrence_31 : decode b_Locator_findRecurrence 31 = .ok (.istore_n 3, 1) := by decide +kernel
theorem d_Locator_findRecurrence_32 : decode b_Locator_findRecurrence 32 = .ok (.iconst 1, 1) := by decide +kernel
theorem d_Locator_findRecurrence_33 : decode b_Locator_findRecurrence 33 = .ok (.istore 4, 2) := by decide +kernel
theorem d_Locator_findRecurrence_35 : decode b_Locator_findRecurrence 35 = .ok (.iconst 1, 1) := by decide +kernel
theorem d_Locator_findRecurrence_36 : decode b_Locator_findRecurrence 36 = .ok (.istore 5, 2) := by decide +kernel
theorem d_Locator_findRecurrence_38 : decode b_Locator_findRecurrence 38 = .ok (.iconst 0, 1) := by decide +kernel
theorem d_Locator_findRecurrence_39 : decode b_Locator_findRecurrence 39 = .ok (.istore 6, 2) := by decide +kernel
theorem d_Locator_findRecurrence_41 : decode b_Locator_findRecurrence 41 = .ok (.iload 6, 2) := by decide +kernel
theorem d_Locator_findRecurrence_43 : decode b_Locator_findRecurrence 43 = .ok (.iload_n 2, 1) := by decide +kernel
theorem d_Locator_findRecurrence_44 : decode b_Locator_findRecurrence 44 = .ok (.if_icmp .ge 119, 3) := by decide +kernel
theorem d_Locator_findRecurrence_47 : decode b_Locator_findRecurrence 47 = .ok (.aload_n 0, 1) := by decide +kernel
theorem d_Locator_findRecurrence_48 : decode b_Locator_findRecurrence 48 = .ok (.aload_n 1, 1) := by decide +kernel
theorem d_Locator_findRecurrence_49 : decode b_Locator_findRecurrence 49 = .ok (.iload 6, 2) := by decide +kernel
theorem d_Locator_findRecurrence_51 : decode b_Locator_findRecurrence 51 = .ok (.iload_n 3, 1) := by decide +kernel
theorem d_Locator_findRecurrence_52 : decode b_Locator_findRecurrence 52 = .ok (.invokevirtual 37, 3) := by decide +kernel
theorem d_Locator_findRecurrence_55 : decode b_Locator_findRecurrence 55 = .ok (.istore 7, 2) := by decide +kernel
theorem d_Locator_findRecurrence_57 : decode b_Locator_findRecurrence 57 = .ok (.iload 7, 2) := by decide +kernel
theorem d_Locator_findRecurrence_59 : decode b_Locator_findRecurrence 59 = .ok (.ifCond .eq 15, 3) := by decide +kernel
theorem d_Locator_findRecurrence_62 : decode b_Locator_findRecurrence 62 = .ok (.iconst 2, 1) := by decide +kernel
theorem d_Locator_findRecurrence_63 : decode b_Locator_findRecurrence 63 = .ok (.iload_n 3, 1) := by decide +kernel
theorem d_Locator_findRecurrence_64 : decode b_Locator_findRecurrence 64 = .ok (.imul, 1) := by decide +kernel
theorem d_Locator_findRecurrence_65 : decode b_Locator_findRecurrence 65 = .ok (.iload 6, 2) := by decide +kernel
theorem d_Locator_findRecurrence_67 : decode b_Locator_findRecurrence 67 = .ok (.if_icmp .gt 7, 3) := by decide +kernel
theorem d_Locator_findRecurrence_70 : decode b_Locator_findRecurrence 70 = .ok (.iconst 1, 1) := by decide +kernel
theorem d_Locator_findRecurrence_71 : decode b_Locator_findRecurrence 71 = .ok (.goto 4, 3) := by decide +kernel
theorem d_Locator_findRecurrence_74 : decode b_Locator_findRecurrence 74 = .ok (.iconst 0, 1) := by decide +kernel
theorem d_Locator_findRecurrence_75 : decode b_Locator_findRecurrence 75 = .ok (.istore 8, 2) := by decide +kernel
theorem d_Locator_findRecurrence_77 : decode b_Locator_findRecurrence 77 = .ok (.iload 8, 2) := by decide +kernel
theorem d_Locator_findRecurrence_79 : decode b_Locator_findRecurrence 79 = .ok (.ifCond .eq 21, 3) := by decide +kernel
theorem d_Locator_findRecurrence_82 : decode b_Locator_findRecurrence 82 = .ok (.aload_n 0, 1) := by decide +kernel
theorem d_Locator_findRecurrence_83 : decode b_Locator_findRecurrence 83 = .ok (.getfield 9, 3) := by decide +kernel
theorem d_Locator_findRecurrence_86 : decode b_Locator_findRecurrence 86 = .ok (.iconst 0, 1) := by decide +kernel
theorem d_Locator_findRecurrence_87 : decode b_Locator_findRecurrence 87 = .ok (.aload_n 0, 1) := by decide +kernel
theorem d_Locator_findRecurrence_88 : decode b_Locator_findRecurrence 88 = .ok (.getfield 18, 3) := by decide +kernel
theorem d_Locator_findRecurrence_91 : decode b_Locator_findRecurrence 91 = .ok (.iconst 0, 1) := by decide +kernel
theorem d_Locator_findRecurrence_92 : decode b_Locator_findRecurrence 92 = .ok (.aload_n 0, 1) := by decide +kernel
theorem d_Locator_findRecurrence_93 : decode b_Locator_findRecurrence 93 = .ok (.getfield 9, 3) := by decide +kernel
theorem d_Locator_findRecurrence_96 : decode b_Locator_findRecurrence 96 = .ok (.arraylength, 1) := by decide +kernel
theorem d_Locator_findRecurrence_97 : decode b_Locator_findRecurrence 97 = .ok (.invokestatic 41, 3) := by decide +kernel
theorem d_Locator_findRecurrence_100 : decode b_Locator_findRecurrence 100 = .ok (.aload_n 0, 1) := by decide +kernel
theorem d_Locator_findRecurrence_101 : decode b_Locator_findRecurrence 101 = .ok (.aload_n 0, 1) := by decide +kernel
theorem d_Locator_findRecurrence_102 : decode b_Locator_findRecurrence 102 = .ok (.getfield 27, 3) := by decide +kernel
theorem d_Locator_findRecurrence_105 : decode b_Locator_findRecurrence 105 = .ok (.iload 7, 2) := by decide +kernel
theorem d_Locator_findRecurrence_107 : decode b_Locator_findRecurrence 107 = .ok (.iload 5, 2) := by decide +kernel
theorem d_Locator_findRecurrence_109 : decode b_Locator_findRecurrence 109 = .ok (.invokevirtual 47, 3) := by decide +kernel
theorem d_Locator_findRecurrence_112 : decode b_Locator_findRecurrence 112 = .ok (.iload 4, 2) := by decide +kernel
theorem d_Locator_findRecurrence_114 : decode b_Locator_findRecurrence 114 = .ok (.invokevirtual 53, 3) := by decide +kernel
theorem d_Locator_findRecurrence_117 : decode b_Locator_findRecurrence 117 = .ok (.iinc 4 1, 3) := by decide +kernel
theorem d_Locator_findRecurrence_120 : decode b_Locator_findRecurrence 120 = .ok (.iload 8, 2) := by decide +kernel
theorem d_Locator_findRecurrence_122 : decode b_Locator_findRecurrence 122 = .ok (.ifCond .eq 35, 3) := by decide +kernel
theorem d_Locator_findRecurrence_125 : decode b_Locator_findRecurrence 125 = .ok (.aload_n 0, 1) := by decide +kernel
theorem d_Locator_findRecurrence_126 : decode b_Locator_findRecurrence 126 = .ok (.getfield 18, 3) := by decide +kernel
theorem d_Locator_findRecurrence_129 : decode b_Locator_findRecurrence 129 = .ok (.iconst 0, 1) := by decide +kernel
theorem d_Locator_findRecurrence_130 : decode b_Locator_findRecurrence 130 = .ok (.aload_n 0, 1) := by decide +kernel
theorem d_Locator_findRecurrence_131 : decode b_Locator_findRecurrence 131 = .ok (.getfield 15, 3) := by decide +kernel
theorem d_Locator_findRecurrence_134 : decode b_Locator_findRecurrence 134 = .ok (.iconst 0, 1) := by decide +kernel
theorem d_Locator_findRecurrence_135 : decode b_Locator_findRecurrence 135 = .ok (.aload_n 0, 1) := by decide +kernel
theorem d_Locator_findRecurrence_136 : decode b_Locator_findRecurrence 136 = .ok (.getfield 18, 3) := by decide +kernel
theorem d_Locator_findRecurrence_139 : decode b_Locator_findRecurrence 139 = .ok (.arraylength, 1) := by decide +kernel
theorem d_Locator_findRecurrence_140 : decode b_Locator_findRecurrence 140 = .ok (.invokestatic 41, 3) := by decide +kernel
theorem d_Locator_findRecurrence_143 : decode b_Locator_findRecurrence 143 = .ok (.iload 6, 2) := by decide +kernel
theorem d_Locator_findRecurrence_145 : decode b_Locator_findRecurrence 145 = .ok (.iconst 1, 1) := by decide +kernel
theorem d_Locator_findRecurrence_146 : decode b_Locator_findRecurrence 146 = .ok (.iadd, 1) := by decide +kernel
theorem d_Locator_findRecurrence_147 : decode b_Locator_findRecurrence 147 = .ok (.iload_n 3, 1) := by decide +kernel
theorem d_Locator_findRecurrence_148 : decode b_Locator_findRecurrence 148 = .ok (.isub, 1) := by decide +kernel
theorem d_Locator_findRecurrence_149 : decode b_Locator_findRecurrence 149 = .ok (.istore_n 3, 1) := by decide +kernel
theorem d_Locator_findRecurrence_150 : decode b_Locator_findRecurrence 150 = .ok (.iload 7, 2) := by decide +kernel
theorem d_Locator_findRecurrence_152 : decode b_Locator_findRecurrence 152 = .ok (.istore 5, 2) := by decide +kernel
theorem d_Locator_findRecurrence_154 : decode b_Locator_findRecurrence 154 = .ok (.iconst 1, 1) := by decide +kernel
theorem d_Locator_findRecurrence_155 : decode b_Locator_findRecurrence 155 = .ok (.istore 4, 2) := by decide +kernel
theorem d_Locator_findRecurrence_157 : decode b_Locator_findRecurrence 157 = .ok (.iinc 6 1, 3) := by decide +kernel
theorem d_Locator_findRecurrence_160 : decode b_Locator_findRecurrence 160 = .ok (.goto (-119), 3) := by decide +kernel
theorem d_Locator_findRecurrence_163 : decode b_Locator_findRecurrence 163 = .ok (.iload_n 3, 1) := by decide +kernel
theorem d_Locator_findRecurrence_164 : decode b_Locator_findRecurrence 164 = .ok (.ireturn, 1) := by decide +kernel
theorem ok_Locator_findRecurrence : OKv y_Locator_findRecurrence b_Locator_findRecurrence 9 (some .int) "DeepChannel$Locator" 2 := ⟨k_765, k_763, k_764, k_46, by decide +kernel, by decide +kernel, by decide +kernel⟩
abbrev w_Locator_findRecurrence (cI cJ : ClassId) (qLc qLc_poly qLc_earlier qP1 qFd qFd_logs qFd_powers qLc_spare : Nat) (Lc_evaluator Lc_places Fd_otherForms Fd_elements : Value) (nP1 : Nat) (Lc_poly : Nat → Int32) (Lc_earlier : Nat → Int32) (p1 : Nat → Int32) (Fd_logs : Nat → Int32) (Fd_powers : Nat → Int32) (Lc_spare : Nat → Int32) : va_W := [(qLc, .inr (3, [.ref qFd, .ref qLc_poly, .ref qLc_earlier, .ref qLc_spare, Lc_evaluator, Lc_places])), (qLc_poly, .inl (cI, 33, .inl Lc_poly)), (qLc_earlier, .inl (cI, 33, .inl Lc_earlier)), (qP1, .inl (cI, nP1, .inl p1)), (qFd, .inr (2, [.ref qFd_powers, .ref qFd_logs, Fd_otherForms, Fd_elements])), (qFd_logs, .inl (cI, 256, .inl Fd_logs)), (qFd_powers, .inl (cI, 255, .inl Fd_powers)), (qLc_spare, .inl (cI, 33, .inl Lc_spare))]
def f_Locator_findRecurrence_157 (kh41 : Int32 → Int32 → Int32 → Int32 → Int32 → (Nat → Int32) → (Nat → Int32) → (Nat → Int32) → Option (Int32 × (Nat → Int32) × (Nat → Int32) × (Nat → Int32))) (x2 : Int32) (x3 : Int32) (x4 : Int32) (x5 : Int32) (x6 : Int32) (Lc_poly : Nat → Int32) (Lc_earlier : Nat → Int32) (Lc_spare : Nat → Int32) : Option (Int32 × (Nat → Int32) × (Nat → Int32) × (Nat → Int32)) :=
  nm (x6 + (1 : Int32)) fun v1 =>
  kh41 x2 x3 x4 x5 v1 Lc_poly Lc_earlier Lc_spare
def f_Locator_findRecurrence_100 (Fd_logs : Nat → Int32) (Fd_powers : Nat → Int32) (kh41 : Int32 → Int32 → Int32 → Int32 → Int32 → (Nat → Int32) → (Nat → Int32) → (Nat → Int32) → Option (Int32 × (Nat → Int32) × (Nat → Int32) × (Nat → Int32))) (x2 : Int32) (x3 : Int32) (x4 : Int32) (x5 : Int32) (x6 : Int32) (x7 : Int32) (x8 : Int32) (Lc_poly : Nat → Int32) (Lc_earlier : Nat → Int32) (Lc_spare : Nat → Int32) : Option (Int32 × (Nat → Int32) × (Nat → Int32) × (Nat → Int32)) :=
  bd (f_Field_quotient Fd_logs Fd_powers x7 x5) fun u3 =>
  nm u3 fun r2 =>
  bd (f_Locator_addEarlier Lc_poly Lc_earlier Fd_logs Fd_powers r2 x4) fun u5 =>
  nm u5 fun g4 =>
  nm (x4 + (1 : Int32)) fun v6 =>
  if x8 = 0 then
    f_Locator_findRecurrence_157 kh41 x2 x3 v6 x5 x6 g4 Lc_earlier Lc_spare
  else
  cpI Lc_spare 33 Lc_earlier 33 (0 : Int32) (0 : Int32) (33 : Int32) fun g7 =>
  nm ((x6 + (1 : Int32)) - x3) fun v8 =>
  f_Locator_findRecurrence_157 kh41 x2 v8 (1 : Int32) x7 x6 g4 g7 Lc_spare
def f_Locator_findRecurrence_75 (Fd_logs : Nat → Int32) (Fd_powers : Nat → Int32) (kh41 : Int32 → Int32 → Int32 → Int32 → Int32 → (Nat → Int32) → (Nat → Int32) → (Nat → Int32) → Option (Int32 × (Nat → Int32) × (Nat → Int32) × (Nat → Int32))) (x2 : Int32) (x3 : Int32) (x4 : Int32) (x5 : Int32) (x6 : Int32) (x7 : Int32) (t0 : Int32) (Lc_poly : Nat → Int32) (Lc_earlier : Nat → Int32) (Lc_spare : Nat → Int32) : Option (Int32 × (Nat → Int32) × (Nat → Int32) × (Nat → Int32)) :=
  if t0 = 0 then
    f_Locator_findRecurrence_100 Fd_logs Fd_powers kh41 x2 x3 x4 x5 x6 x7 t0 Lc_poly Lc_earlier Lc_spare
  else
  cpI Lc_poly 33 Lc_spare 33 (0 : Int32) (0 : Int32) (33 : Int32) fun g9 =>
  f_Locator_findRecurrence_100 Fd_logs Fd_powers kh41 x2 x3 x4 x5 x6 x7 t0 Lc_poly Lc_earlier g9
def f_Locator_findRecurrence_74 (Fd_logs : Nat → Int32) (Fd_powers : Nat → Int32) (kh41 : Int32 → Int32 → Int32 → Int32 → Int32 → (Nat → Int32) → (Nat → Int32) → (Nat → Int32) → Option (Int32 × (Nat → Int32) × (Nat → Int32) × (Nat → Int32))) (x2 : Int32) (x3 : Int32) (x4 : Int32) (x5 : Int32) (x6 : Int32) (x7 : Int32) (Lc_poly : Nat → Int32) (Lc_earlier : Nat → Int32) (Lc_spare : Nat → Int32) : Option (Int32 × (Nat → Int32) × (Nat → Int32) × (Nat → Int32)) :=
  f_Locator_findRecurrence_75 Fd_logs Fd_powers kh41 x2 x3 x4 x5 x6 x7 (0 : Int32) Lc_poly Lc_earlier Lc_spare
def f_Locator_findRecurrence_41_b (p1 : Nat → Int32) (Fd_logs : Nat → Int32) (Fd_powers : Nat → Int32) (nP1 : Nat) (kh41 : Int32 → Int32 → Int32 → Int32 → Int32 → (Nat → Int32) → (Nat → Int32) → (Nat → Int32) → Option (Int32 × (Nat → Int32) × (Nat → Int32) × (Nat → Int32))) (x2 : Int32) (x3 : Int32) (x4 : Int32) (x5 : Int32) (x6 : Int32) (Lc_poly : Nat → Int32) (Lc_earlier : Nat → Int32) (Lc_spare : Nat → Int32) : Option (Int32 × (Nat → Int32) × (Nat → Int32) × (Nat → Int32)) :=
  if x2 ≤ x6 then
    some (x3, Lc_poly, Lc_earlier, Lc_spare)
  else
  bd (f_Locator_missAt Lc_poly p1 Fd_logs Fd_powers nP1 x6 x3) fun u11 =>
  nm u11 fun r10 =>
  if r10 = 0 then
    f_Locator_findRecurrence_74 Fd_logs Fd_powers kh41 x2 x3 x4 x5 x6 r10 Lc_poly Lc_earlier Lc_spare
  else
  if x6 < ((2 : Int32) * x3) then
    f_Locator_findRecurrence_74 Fd_logs Fd_powers kh41 x2 x3 x4 x5 x6 r10 Lc_poly Lc_earlier Lc_spare
  else
  f_Locator_findRecurrence_75 Fd_logs Fd_powers kh41 x2 x3 x4 x5 x6 r10 (1 : Int32) Lc_poly Lc_earlier Lc_spare
def f_Locator_findRecurrence_41 (p1 : Nat → Int32) (Fd_logs : Nat → Int32) (Fd_powers : Nat → Int32) (nP1 : Nat) : Nat → Int32 → Int32 → Int32 → Int32 → Int32 → (Nat → Int32) → (Nat → Int32) → (Nat → Int32) → Option (Int32 × (Nat → Int32) × (Nat → Int32) × (Nat → Int32))
  | 0 => fun _ _ _ _ _ _ _ _ => none
  | n + 1 => fun x2 x3 x4 x5 x6 Lc_poly Lc_earlier Lc_spare => f_Locator_findRecurrence_41_b p1 Fd_logs Fd_powers nP1 (f_Locator_findRecurrence_41 p1 Fd_logs Fd_powers nP1 n) x2 x3 x4 x5 x6 Lc_poly Lc_earlier Lc_spare
def f_Locator_findRecurrence (Lc_poly : Nat → Int32) (Lc_earlier : Nat → Int32) (p1 : Nat → Int32) (Fd_logs : Nat → Int32) (Fd_powers : Nat → Int32) (Lc_spare : Nat → Int32) (nP1 : Nat) (x2 : Int32) : Option (Int32 × (Nat → Int32) × (Nat → Int32) × (Nat → Int32)) :=
  bd (f_Arrays_fillI Lc_poly 33 (0 : Int32)) fun u13 =>
  nm u13 fun g12 =>
  bd (f_Arrays_fillI Lc_earlier 33 (0 : Int32)) fun u15 =>
  nm u15 fun g14 =>
  wrI g12 33 (0 : Int32) (1 : Int32) fun g16 =>
  wrI g14 33 (0 : Int32) (1 : Int32) fun g17 =>
  f_Locator_findRecurrence_41 p1 Fd_logs Fd_powers nP1 10000 x2 (0 : Int32) (1 : Int32) (1 : Int32) (0 : Int32) g16 g17 Lc_spare
set_option maxHeartbeats 4000000 in
set_option maxRecDepth 100000 in
theorem c_Locator_findRecurrence (l : Launch) (D : va_G) (cI cJ : ClassId) (tt : Nat → Nat) (qLc qLc_poly qLc_earlier qP1 qFd qFd_logs qFd_powers qLc_spare : Nat) (Lc_evaluator Lc_places Fd_otherForms Fd_elements : Value) (nP1 : Nat) (sz : Nat) (Lc_poly : Nat → Int32) (Lc_earlier : Nat → Int32) (p1 : Nat → Int32) (Fd_logs : Nat → Int32) (Fd_powers : Nat → Int32) (Lc_spare : Nat → Int32) (x2 : Int32) (rr : Int32) (Lc_poly' : Nat → Int32) (Lc_earlier' : Nat → Int32) (Lc_spare' : Nat → Int32) (hm : f_Locator_findRecurrence Lc_poly Lc_earlier p1 Fd_logs Fd_powers Lc_spare nP1 x2 = some (rr, Lc_poly', Lc_earlier', Lc_spare')) : CTi l y_Locator_findRecurrence b_Locator_findRecurrence 9 (some .int) (RM 2 60) D cI cJ tt [.ref qLc, .ref qP1, .int x2] (w_Locator_findRecurrence cI cJ qLc qLc_poly qLc_earlier qP1 qFd qFd_logs qFd_powers qLc_spare Lc_evaluator Lc_places Fd_otherForms Fd_elements nP1 Lc_poly Lc_earlier p1 Fd_logs Fd_powers Lc_spare) (w_Locator_findRecurrence cI cJ qLc qLc_poly qLc_earlier qP1 qFd qFd_logs qFd_powers qLc_spare Lc_evaluator Lc_places Fd_otherForms Fd_elements nP1 Lc_poly' Lc_earlier' p1 Fd_logs Fd_powers Lc_spare') sz rr := by
  refine Met.ofW (cc := b_Locator_findRecurrence) (maxL := 9) (ret := (some .int)) (by decide) rfl ?_
  intro p e s m args below meth c s₁ B hml hv
  obtain ⟨hargs, hsz, hP, hK, hD0, hE⟩ := hv
  have hx := B.exec
  have hb := B.bytes
  have hr := B.returns
  have hts : ∀ w ∈ TB, w.before args s = true := z_mV s (atoms_spec (ws := WD y_Locator_findRecurrence b_Locator_findRecurrence 9 (some .int)) B.pre)
  have hown : s.vm.findClass "DeepChannel$Locator" = some m.cls := findClass_of_methodNamed B.named
  have hlocks := B.notSynchronized
  subst hsz
  have hD := hD0.self (sz := s.heap.size)
  generalize hAe : va_A (w_Locator_findRecurrence cI cJ qLc qLc_poly qLc_earlier qP1 qFd qFd_logs qFd_powers qLc_spare Lc_evaluator Lc_places Fd_otherForms Fd_elements nP1 Lc_poly Lc_earlier p1 Fd_logs Fd_powers Lc_spare) s.heap.size = A at hD hE ⊢
  have hA : ∀ q : Nat, s.heap.size ≤ q → A q := fun q h => by rw [← hAe]; exact Or.inr h
  have hS : va_S A s.heap s.heap [] := va_S.rf
  refine z_entry (vs := [.ref qLc, .ref qP1, .int x2]) hargs (Nat.le_of_ble_eq_true rfl) (fun ls hl => ?_)
  have hl : lv_has ls 9 [(0, .ref qLc), (1, .ref qP1), (2, .int x2)] := hl
  show W p l e (RM 2 60) s m args below meth c s.heap [] 0 0 _ _
  refine z_qi (fun Q0 hQ => ?_)
  have F : CallFix p m c b_Locator_findRecurrence 9 s args TB "DeepChannel$Locator" := ⟨hx, hb, hml, hown, hts⟩
  have T41 : ∀ (n41 : Nat) (x2 : Int32) (x3 : Int32) (x4 : Int32) (x5 : Int32) (x6 : Int32) (Lc_poly : Nat → Int32) (Lc_earlier : Nat → Int32) (Lc_spare : Nat → Int32), f_Locator_findRecurrence_41 p1 Fd_logs Fd_powers nP1 n41 x2 x3 x4 x5 x6 Lc_poly Lc_earlier Lc_spare = some (rr, Lc_poly', Lc_earlier', Lc_spare') → ∀ (H : Heap) (locs : List Loc), va_P D classes (w_Locator_findRecurrence cI cJ qLc qLc_poly qLc_earlier qP1 qFd qFd_logs qFd_powers qLc_spare Lc_evaluator Lc_places Fd_otherForms Fd_elements nP1 Lc_poly Lc_earlier p1 Fd_logs Fd_powers Lc_spare) H → va_D A (w_Locator_findRecurrence cI cJ qLc qLc_poly qLc_earlier qP1 qFd qFd_logs qFd_powers qLc_spare Lc_evaluator Lc_places Fd_otherForms Fd_elements nP1 Lc_poly Lc_earlier p1 Fd_logs Fd_powers Lc_spare) → va_S A s.heap H locs → ∀ (ls : Array Slot), lv_has ls 9 [(0, .ref qLc), (1, .ref qP1), (2, .int x2), (3, .int x3), (4, .int x4), (5, .int x5), (6, .int x6)] → W p l e (RM 2 60) s m args below meth c H locs 0 0 Q0 (F0 m 41 ls []) := by
    intro n41
    induction n41 with
    | zero => intro x2 x3 x4 x5 x6 Lc_poly Lc_earlier Lc_spare hm; cases hm
    | succ n41 ih41 =>
      have T157 : ∀ (x2 : Int32) (x3 : Int32) (x4 : Int32) (x5 : Int32) (x6 : Int32) (Lc_poly : Nat → Int32) (Lc_earlier : Nat → Int32) (Lc_spare : Nat → Int32), f_Locator_findRecurrence_157 (f_Locator_findRecurrence_41 p1 Fd_logs Fd_powers nP1 n41) x2 x3 x4 x5 x6 Lc_poly Lc_earlier Lc_spare = some (rr, Lc_poly', Lc_earlier', Lc_spare') → ∀ (H : Heap) (locs : List Loc), va_P D classes (w_Locator_findRecurrence cI cJ qLc qLc_poly qLc_earlier qP1 qFd qFd_logs qFd_powers qLc_spare Lc_evaluator Lc_places Fd_otherForms Fd_elements nP1 Lc_poly Lc_earlier p1 Fd_logs Fd_powers Lc_spare) H → va_D A (w_Locator_findRecurrence cI cJ qLc qLc_poly qLc_earlier qP1 qFd qFd_logs qFd_powers qLc_spare Lc_evaluator Lc_places Fd_otherForms Fd_elements nP1 Lc_poly Lc_earlier p1 Fd_logs Fd_powers Lc_spare) → va_S A s.heap H locs → ∀ (ls : Array Slot), lv_has ls 9 [(0, .ref qLc), (1, .ref qP1), (2, .int x2), (3, .int x3), (4, .int x4), (5, .int x5), (6, .int x6)] → W p l e (RM 2 60) s m args below meth c H locs 0 0 Q0 (F0 m 157 ls []) := by
        intro x2 x3 x4 x5 x6 Lc_poly Lc_earlier Lc_spare hm H locs hP hD hS ls hl
        unfold f_Locator_findRecurrence_157 at hm
        obtain ⟨v1, ev, hm⟩ := nm_el hm
        refine lv_iinc (v := v1) (lv' := [(6, .int v1), (0, .ref qLc), (1, .ref qP1), (2, .int x2), (3, .int x3), (4, .int x4), (5, .int x5)]) hx hb d_Locator_findRecurrence_157 hl (k := 6) rfl (by rw [ev]; rfl) (by decide) rfl (fun ls hl => ?_)
        refine lv_goto (tgt := 41) hx hb d_Locator_findRecurrence_160 (by decide) ?_
        exact ih41 x2 x3 x4 x5 v1 Lc_poly Lc_earlier Lc_spare hm _ _ hP hD hS _ (lv_sub hl [1, 2, 3, 4, 5, 6, 0] rfl)
      have T100 : ∀ (x2 : Int32) (x3 : Int32) (x4 : Int32) (x5 : Int32) (x6 : Int32) (x7 : Int32) (x8 : Int32) (Lc_poly : Nat → Int32) (Lc_earlier : Nat → Int32) (Lc_spare : Nat → Int32), f_Locator_findRecurrence_100 Fd_logs Fd_powers (f_Locator_findRecurrence_41 p1 Fd_logs Fd_powers nP1 n41) x2 x3 x4 x5 x6 x7 x8 Lc_poly Lc_earlier Lc_spare = some (rr, Lc_poly', Lc_earlier', Lc_spare') → ∀ (H : Heap) (locs : List Loc), va_P D classes (w_Locator_findRecurrence cI cJ qLc qLc_poly qLc_earlier qP1 qFd qFd_logs qFd_powers qLc_spare Lc_evaluator Lc_places Fd_otherForms Fd_elements nP1 Lc_poly Lc_earlier p1 Fd_logs Fd_powers Lc_spare) H → va_D A (w_Locator_findRecurrence cI cJ qLc qLc_poly qLc_earlier qP1 qFd qFd_logs qFd_powers qLc_spare Lc_evaluator Lc_places Fd_otherForms Fd_elements nP1 Lc_poly Lc_earlier p1 Fd_logs Fd_powers Lc_spare) → va_S A s.heap H locs → ∀ (ls : Array Slot), lv_has ls 9 [(0, .ref qLc), (1, .ref qP1), (2, .int x2), (3, .int x3), (4, .int x4), (5, .int x5), (6, .int x6), (7, .int x7), (8, .int x8)] → W p l e (RM 2 60) s m args below meth c H locs 0 0 Q0 (F0 m 100 ls []) := by
        intro x2 x3 x4 x5 x6 x7 x8 Lc_poly Lc_earlier Lc_spare hm H locs hP hD hS ls hl
        unfold f_Locator_findRecurrence_100 at hm
        refine lv_aload_n hx hb d_Locator_findRecurrence_100 rfl (lv_at hl 0 rfl) ?_
        refine lv_aload_n hx hb d_Locator_findRecurrence_101 rfl (lv_at hl 0 rfl) ?_
        refine va_get (D := D) (ci := 3) (v := .ref qFd) (C := "DeepChannel$Locator") (T := fT_Locator) (N := 6) hx hb hts u_Locator hown hK hP 0 rfl rfl 0 (by decide) (hts _ k_134) (fun _ h9 => h9) rfl d_Locator_findRecurrence_102 ?_
        refine lv_iload hx hb d_Locator_findRecurrence_105 (lv_at hl 7 rfl) ?_
        refine lv_iload hx hb d_Locator_findRecurrence_107 (lv_at hl 5 rfl) ?_
        obtain ⟨r2, hu, hm⟩ := bd_el hm
        replace hm := nm_1 hm
        refine z_cVi (wc := w_Field_quotient cI cJ qFd qFd_logs qFd_powers Fd_otherForms Fd_elements Fd_logs Fd_powers) (wc' := w_Field_quotient cI cJ qFd qFd_logs qFd_powers Fd_otherForms Fd_elements Fd_logs Fd_powers) (wr := [(qLc, .inr (3, [.ref qFd, .ref qLc_poly, .ref qLc_earlier, .ref qLc_spare, Lc_evaluator, Lc_places])), (qLc_poly, .inl (cI, 33, .inl Lc_poly)), (qLc_earlier, .inl (cI, 33, .inl Lc_earlier)), (qP1, .inl (cI, nP1, .inl p1)), (qLc_spare, .inl (cI, 33, .inl Lc_spare))]) (As := [.int x7, .int x5]) (rest := [.ref qLc]) (c_Field_quotient l D cI cJ tt qFd qFd_logs qFd_powers Fd_otherForms Fd_elements _ Fd_logs Fd_powers x7 x5 r2 hu) F ok_Field_quotient rfl k_775 hK hE hP hD hS hA [4, 5, 6] [0, 1, 2, 3, 7] rfl rfl (by decide) (by decide) (by decide) 0 rfl rfl rfl ⟨rfl, rfl, Nat.le_of_ble_eq_true rfl, Nat.le_of_ble_eq_true rfl⟩ ⟨Nat.zero_le _, Nat.zero_le _⟩ rfl hl.1 rfl (Nat.le_of_ble_eq_true rfl) d_Locator_findRecurrence_109 (fun H locs hP hD hS => ?_)
        have hP : va_P D classes (w_Locator_findRecurrence cI cJ qLc qLc_poly qLc_earlier qP1 qFd qFd_logs qFd_powers qLc_spare Lc_evaluator Lc_places Fd_otherForms Fd_elements nP1 Lc_poly Lc_earlier p1 Fd_logs Fd_powers Lc_spare) H := hP.sub [0, 1, 2, 3, 5, 6, 7, 4] rfl
        have hD : va_D A (w_Locator_findRecurrence cI cJ qLc qLc_poly qLc_earlier qP1 qFd qFd_logs qFd_powers qLc_spare Lc_evaluator Lc_places Fd_otherForms Fd_elements nP1 Lc_poly Lc_earlier p1 Fd_logs Fd_powers Lc_spare) := hD.sub [0, 1, 2, 3, 5, 6, 7, 4] (by decide) rfl
        refine lv_iload hx hb d_Locator_findRecurrence_112 (lv_at hl 4 rfl) ?_
        obtain ⟨g4, hu, hm⟩ := bd_el hm
        replace hm := nm_1 hm
        refine z_cVv (wc := w_Locator_addEarlier cI cJ qLc qLc_poly qLc_earlier qFd qFd_logs qFd_powers (.ref qLc_spare) Lc_evaluator Lc_places Fd_otherForms Fd_elements Lc_poly Lc_earlier Fd_logs Fd_powers) (wc' := w_Locator_addEarlier cI cJ qLc qLc_poly qLc_earlier qFd qFd_logs qFd_powers (.ref qLc_spare) Lc_evaluator Lc_places Fd_otherForms Fd_elements g4 Lc_earlier Fd_logs Fd_powers) (wr := [(qP1, .inl (cI, nP1, .inl p1)), (qLc_spare, .inl (cI, 33, .inl Lc_spare))]) (As := [.int r2, .int x4]) (rest := []) (c_Locator_addEarlier l D cI cJ tt qLc qLc_poly qLc_earlier qFd qFd_logs qFd_powers (.ref qLc_spare) Lc_evaluator Lc_places Fd_otherForms Fd_elements _ Lc_poly Lc_earlier Fd_logs Fd_powers r2 x4 g4 hu) F ok_Locator_addEarlier rfl k_779 hK hE hP hD hS hA [0, 1, 2, 4, 5, 6] [3, 7] rfl rfl (by decide) (by decide) (by decide) 0 rfl rfl rfl ⟨rfl, rfl, Nat.le_of_ble_eq_true rfl, Nat.le_of_ble_eq_true rfl⟩ ⟨Nat.zero_le _, Nat.zero_le _⟩ rfl hl.1 rfl (Nat.le_of_ble_eq_true rfl) d_Locator_findRecurrence_114 (fun H locs hP hD hS => ?_)
        have hP : va_P D classes (w_Locator_findRecurrence cI cJ qLc qLc_poly qLc_earlier qP1 qFd qFd_logs qFd_powers qLc_spare Lc_evaluator Lc_places Fd_otherForms Fd_elements nP1 g4 Lc_earlier p1 Fd_logs Fd_powers Lc_spare) H := hP.sub [2, 3, 4, 0, 5, 6, 7, 1] rfl
        have hD : va_D A (w_Locator_findRecurrence cI cJ qLc qLc_poly qLc_earlier qP1 qFd qFd_logs qFd_powers qLc_spare Lc_evaluator Lc_places Fd_otherForms Fd_elements nP1 g4 Lc_earlier p1 Fd_logs Fd_powers Lc_spare) := hD.sub [2, 3, 4, 0, 5, 6, 7, 1] (by decide) rfl
        obtain ⟨v6, ev, hm⟩ := nm_el hm
        refine lv_iinc (v := v6) (lv' := [(4, .int v6), (0, .ref qLc), (1, .ref qP1), (2, .int x2), (3, .int x3), (5, .int x5), (6, .int x6), (7, .int x7), (8, .int x8)]) hx hb d_Locator_findRecurrence_117 hl (k := 4) rfl (by rw [ev]; rfl) (by decide) rfl (fun ls hl => ?_)
        refine lv_iload hx hb d_Locator_findRecurrence_120 (lv_at hl 8 rfl) ?_
        refine z_if hm (lv_if_eq (tgt := 157) hx hb d_Locator_findRecurrence_122 (by decide)) (fun hm => ?_) (fun hm => ?_)
        · exact T157 x2 x3 v6 x5 x6 g4 Lc_earlier Lc_spare hm _ _ hP hD hS _ (lv_sub hl [1, 2, 3, 4, 0, 5, 6] rfl)
        · refine lv_aload_n hx hb d_Locator_findRecurrence_125 rfl (lv_at hl 1 rfl) ?_
          refine va_get (D := D) (ci := 3) (v := .ref qLc_spare) (C := "DeepChannel$Locator") (T := fT_Locator) (N := 6) hx hb hts u_Locator hown hK hP 0 rfl rfl 3 (by decide) (hts _ k_137) (fun _ h9 => h9) rfl d_Locator_findRecurrence_126 ?_
          refine lv_iconst (v := (0 : Int32)) hx hb d_Locator_findRecurrence_129 (by decide) ?_
          refine lv_aload_n hx hb d_Locator_findRecurrence_130 rfl (lv_at hl 1 rfl) ?_
          refine va_get (D := D) (ci := 3) (v := .ref qLc_earlier) (C := "DeepChannel$Locator") (T := fT_Locator) (N := 6) hx hb hts u_Locator hown hK hP 0 rfl rfl 2 (by decide) (hts _ k_136) (fun _ h9 => h9) rfl d_Locator_findRecurrence_131 ?_
          refine lv_iconst (v := (0 : Int32)) hx hb d_Locator_findRecurrence_134 (by decide) ?_
          refine lv_aload_n hx hb d_Locator_findRecurrence_135 rfl (lv_at hl 1 rfl) ?_
          refine va_get (D := D) (ci := 3) (v := .ref qLc_spare) (C := "DeepChannel$Locator") (T := fT_Locator) (N := 6) hx hb hts u_Locator hown hK hP 0 rfl rfl 3 (by decide) (hts _ k_137) (fun _ h9 => h9) rfl d_Locator_findRecurrence_136 ?_
          refine va_alen (v := (33 : Int32)) hx hb hK hP 7 0 rfl rfl rfl d_Locator_findRecurrence_139 ?_
          refine z_cpI hm hx hb hml hl.1 hown hts k_772 k_774 k_773 k_62 hK hP hD hS 7 2 rfl rfl (Nat.le_of_ble_eq_true rfl) (Nat.le_of_ble_eq_true rfl) d_Locator_findRecurrence_140 (fun g7 hm H locs hP hD hS => ?_)
          have hP : va_P D classes (w_Locator_findRecurrence cI cJ qLc qLc_poly qLc_earlier qP1 qFd qFd_logs qFd_powers qLc_spare Lc_evaluator Lc_places Fd_otherForms Fd_elements nP1 g4 g7 p1 Fd_logs Fd_powers Lc_spare) H := hP
          have hD : va_D A (w_Locator_findRecurrence cI cJ qLc qLc_poly qLc_earlier qP1 qFd qFd_logs qFd_powers qLc_spare Lc_evaluator Lc_places Fd_otherForms Fd_elements nP1 g4 g7 p1 Fd_logs Fd_powers Lc_spare) := hD
          refine lv_iload hx hb d_Locator_findRecurrence_143 (lv_at hl 6 rfl) ?_
          refine lv_iconst (v := (1 : Int32)) hx hb d_Locator_findRecurrence_145 (by decide) ?_
          refine lv_iadd hx hb d_Locator_findRecurrence_146 ?_
          refine lv_iload_n hx hb d_Locator_findRecurrence_147 rfl (lv_at hl 4 rfl) ?_
          refine lv_isub hx hb d_Locator_findRecurrence_148 ?_
          refine z_nmi hm (fun v8 hm => ?_)
          refine lv_istore_n (lv' := [(3, .int v8), (4, .int v6), (0, .ref qLc), (1, .ref qP1), (2, .int x2), (5, .int x5), (6, .int x6), (7, .int x7), (8, .int x8)]) hx hb d_Locator_findRecurrence_149 rfl hl (by decide) rfl (fun ls hl => ?_)
          refine lv_iload hx hb d_Locator_findRecurrence_150 (lv_at hl 7 rfl) ?_
          refine lv_istore (lv' := [(5, .int x7), (3, .int v8), (4, .int v6), (0, .ref qLc), (1, .ref qP1), (2, .int x2), (6, .int x6), (7, .int x7), (8, .int x8)]) hx hb d_Locator_findRecurrence_152 hl (by decide) rfl (fun ls hl => ?_)
          refine lv_iconst (v := (1 : Int32)) hx hb d_Locator_findRecurrence_154 (by decide) ?_
          refine lv_istore (lv' := [(4, .int (1 : Int32)), (5, .int x7), (3, .int v8), (0, .ref qLc), (1, .ref qP1), (2, .int x2), (6, .int x6), (7, .int x7), (8, .int x8)]) hx hb d_Locator_findRecurrence_155 hl (by decide) rfl (fun ls hl => ?_)
          exact T157 x2 v8 (1 : Int32) x7 x6 g4 g7 Lc_spare hm _ _ hP hD hS _ (lv_sub hl [3, 4, 5, 2, 0, 1, 6] rfl)
      have T75 : ∀ (x2 : Int32) (x3 : Int32) (x4 : Int32) (x5 : Int32) (x6 : Int32) (x7 : Int32) (t0 : Int32) (Lc_poly : Nat → Int32) (Lc_earlier : Nat → Int32) (Lc_spare : Nat → Int32), f_Locator_findRecurrence_75 Fd_logs Fd_powers (f_Locator_findRecurrence_41 p1 Fd_logs Fd_powers nP1 n41) x2 x3 x4 x5 x6 x7 t0 Lc_poly Lc_earlier Lc_spare = some (rr, Lc_poly', Lc_earlier', Lc_spare') → ∀ (H : Heap) (locs : List Loc), va_P D classes (w_Locator_findRecurrence cI cJ qLc qLc_poly qLc_earlier qP1 qFd qFd_logs qFd_powers qLc_spare Lc_evaluator Lc_places Fd_otherForms Fd_elements nP1 Lc_poly Lc_earlier p1 Fd_logs Fd_powers Lc_spare) H → va_D A (w_Locator_findRecurrence cI cJ qLc qLc_poly qLc_earlier qP1 qFd qFd_logs qFd_powers qLc_spare Lc_evaluator Lc_places Fd_otherForms Fd_elements nP1 Lc_poly Lc_earlier p1 Fd_logs Fd_powers Lc_spare) → va_S A s.heap H locs → ∀ (ls : Array Slot), lv_has ls 9 [(0, .ref qLc), (1, .ref qP1), (2, .int x2), (3, .int x3), (4, .int x4), (5, .int x5), (6, .int x6), (7, .int x7)] → W p l e (RM 2 60) s m args below meth c H locs 0 0 Q0 (F0 m 75 ls [.int t0]) := by
        intro x2 x3 x4 x5 x6 x7 t0 Lc_poly Lc_earlier Lc_spare hm H locs hP hD hS ls hl
        unfold f_Locator_findRecurrence_75 at hm
        refine lv_istore (lv' := [(8, .int t0), (0, .ref qLc), (1, .ref qP1), (2, .int x2), (3, .int x3), (4, .int x4), (5, .int x5), (6, .int x6), (7, .int x7)]) hx hb d_Locator_findRecurrence_75 hl (by decide) rfl (fun ls hl => ?_)
        refine lv_iload hx hb d_Locator_findRecurrence_77 (lv_at hl 0 rfl) ?_
        refine z_if hm (lv_if_eq (tgt := 100) hx hb d_Locator_findRecurrence_79 (by decide)) (fun hm => ?_) (fun hm => ?_)
        · exact T100 x2 x3 x4 x5 x6 x7 t0 Lc_poly Lc_earlier Lc_spare hm _ _ hP hD hS _ (lv_sub hl [1, 2, 3, 4, 5, 6, 7, 8, 0] rfl)
        · refine lv_aload_n hx hb d_Locator_findRecurrence_82 rfl (lv_at hl 1 rfl) ?_
          refine va_get (D := D) (ci := 3) (v := .ref qLc_poly) (C := "DeepChannel$Locator") (T := fT_Locator) (N := 6) hx hb hts u_Locator hown hK hP 0 rfl rfl 1 (by decide) (hts _ k_135) (fun _ h9 => h9) rfl d_Locator_findRecurrence_83 ?_
          refine lv_iconst (v := (0 : Int32)) hx hb d_Locator_findRecurrence_86 (by decide) ?_
          refine lv_aload_n hx hb d_Locator_findRecurrence_87 rfl (lv_at hl 1 rfl) ?_
          refine va_get (D := D) (ci := 3) (v := .ref qLc_spare) (C := "DeepChannel$Locator") (T := fT_Locator) (N := 6) hx hb hts u_Locator hown hK hP 0 rfl rfl 3 (by decide) (hts _ k_137) (fun _ h9 => h9) rfl d_Locator_findRecurrence_88 ?_
          refine lv_iconst (v := (0 : Int32)) hx hb d_Locator_findRecurrence_91 (by decide) ?_
          refine lv_aload_n hx hb d_Locator_findRecurrence_92 rfl (lv_at hl 1 rfl) ?_
          refine va_get (D := D) (ci := 3) (v := .ref qLc_poly) (C := "DeepChannel$Locator") (T := fT_Locator) (N := 6) hx hb hts u_Locator hown hK hP 0 rfl rfl 1 (by decide) (hts _ k_135) (fun _ h9 => h9) rfl d_Locator_findRecurrence_93 ?_
          refine va_alen (v := (33 : Int32)) hx hb hK hP 1 0 rfl rfl rfl d_Locator_findRecurrence_96 ?_
          refine z_cpI hm hx hb hml hl.1 hown hts k_772 k_774 k_773 k_62 hK hP hD hS 1 7 rfl rfl (Nat.le_of_ble_eq_true rfl) (Nat.le_of_ble_eq_true rfl) d_Locator_findRecurrence_97 (fun g9 hm H locs hP hD hS => ?_)
          have hP : va_P D classes (w_Locator_findRecurrence cI cJ qLc qLc_poly qLc_earlier qP1 qFd qFd_logs qFd_powers qLc_spare Lc_evaluator Lc_places Fd_otherForms Fd_elements nP1 Lc_poly Lc_earlier p1 Fd_logs Fd_powers g9) H := hP
          have hD : va_D A (w_Locator_findRecurrence cI cJ qLc qLc_poly qLc_earlier qP1 qFd qFd_logs qFd_powers qLc_spare Lc_evaluator Lc_places Fd_otherForms Fd_elements nP1 Lc_poly Lc_earlier p1 Fd_logs Fd_powers g9) := hD
          exact T100 x2 x3 x4 x5 x6 x7 t0 Lc_poly Lc_earlier g9 hm _ _ hP hD hS _ (lv_sub hl [1, 2, 3, 4, 5, 6, 7, 8, 0] rfl)
      have T74 : ∀ (x2 : Int32) (x3 : Int32) (x4 : Int32) (x5 : Int32) (x6 : Int32) (x7 : Int32) (Lc_poly : Nat → Int32) (Lc_earlier : Nat → Int32) (Lc_spare : Nat → Int32), f_Locator_findRecurrence_74 Fd_logs Fd_powers (f_Locator_findRecurrence_41 p1 Fd_logs Fd_powers nP1 n41) x2 x3 x4 x5 x6 x7 Lc_poly Lc_earlier Lc_spare = some (rr, Lc_poly', Lc_earlier', Lc_spare') → ∀ (H : Heap) (locs : List Loc), va_P D classes (w_Locator_findRecurrence cI cJ qLc qLc_poly qLc_earlier qP1 qFd qFd_logs qFd_powers qLc_spare Lc_evaluator Lc_places Fd_otherForms Fd_elements nP1 Lc_poly Lc_earlier p1 Fd_logs Fd_powers Lc_spare) H → va_D A (w_Locator_findRecurrence cI cJ qLc qLc_poly qLc_earlier qP1 qFd qFd_logs qFd_powers qLc_spare Lc_evaluator Lc_places Fd_otherForms Fd_elements nP1 Lc_poly Lc_earlier p1 Fd_logs Fd_powers Lc_spare) → va_S A s.heap H locs → ∀ (ls : Array Slot), lv_has ls 9 [(0, .ref qLc), (1, .ref qP1), (2, .int x2), (3, .int x3), (4, .int x4), (5, .int x5), (6, .int x6), (7, .int x7)] → W p l e (RM 2 60) s m args below meth c H locs 0 0 Q0 (F0 m 74 ls []) := by
        intro x2 x3 x4 x5 x6 x7 Lc_poly Lc_earlier Lc_spare hm H locs hP hD hS ls hl
        unfold f_Locator_findRecurrence_74 at hm
        refine lv_iconst (v := (0 : Int32)) hx hb d_Locator_findRecurrence_74 (by decide) ?_
        exact T75 x2 x3 x4 x5 x6 x7 (0 : Int32) Lc_poly Lc_earlier Lc_spare hm _ _ hP hD hS _ (lv_sub hl [0, 1, 2, 3, 4, 5, 6, 7] rfl)
      intro x2 x3 x4 x5 x6 Lc_poly Lc_earlier Lc_spare hm H locs hP hD hS ls hl
      replace hm : f_Locator_findRecurrence_41_b p1 Fd_logs Fd_powers nP1 (f_Locator_findRecurrence_41 p1 Fd_logs Fd_powers nP1 n41) x2 x3 x4 x5 x6 Lc_poly Lc_earlier Lc_spare = some (rr, Lc_poly', Lc_earlier', Lc_spare') := hm
      unfold f_Locator_findRecurrence_41_b at hm
      refine lv_iload hx hb d_Locator_findRecurrence_41 (lv_at hl 6 rfl) ?_
      refine lv_iload_n hx hb d_Locator_findRecurrence_43 rfl (lv_at hl 2 rfl) ?_
      refine z_if hm (lv_icmp_ge (tgt := 163) hx hb d_Locator_findRecurrence_44 (by decide)) (fun hm => ?_) (fun hm => ?_)
      · refine lv_iload_n hx hb d_Locator_findRecurrence_163 rfl (lv_at hl 3 rfl) ?_
        cases hm
        exact z_qo hQ (z_ireti hr hx hb hlocks hK hP hD hS d_Locator_findRecurrence_164)
      · refine lv_aload_n hx hb d_Locator_findRecurrence_47 rfl (lv_at hl 0 rfl) ?_
        refine lv_aload_n hx hb d_Locator_findRecurrence_48 rfl (lv_at hl 1 rfl) ?_
        refine lv_iload hx hb d_Locator_findRecurrence_49 (lv_at hl 6 rfl) ?_
        refine lv_iload_n hx hb d_Locator_findRecurrence_51 rfl (lv_at hl 3 rfl) ?_
        obtain ⟨r10, hu, hm⟩ := bd_el hm
        replace hm := nm_1 hm
        refine z_cVi (wc := w_Locator_missAt cI cJ qLc qLc_poly qP1 qFd qFd_logs qFd_powers (.ref qLc_earlier) (.ref qLc_spare) Lc_evaluator Lc_places Fd_otherForms Fd_elements nP1 Lc_poly p1 Fd_logs Fd_powers) (wc' := w_Locator_missAt cI cJ qLc qLc_poly qP1 qFd qFd_logs qFd_powers (.ref qLc_earlier) (.ref qLc_spare) Lc_evaluator Lc_places Fd_otherForms Fd_elements nP1 Lc_poly p1 Fd_logs Fd_powers) (wr := [(qLc_earlier, .inl (cI, 33, .inl Lc_earlier)), (qLc_spare, .inl (cI, 33, .inl Lc_spare))]) (As := [.ref qP1, .int x6, .int x3]) (rest := []) (c_Locator_missAt l D cI cJ tt qLc qLc_poly qP1 qFd qFd_logs qFd_powers (.ref qLc_earlier) (.ref qLc_spare) Lc_evaluator Lc_places Fd_otherForms Fd_elements nP1 _ Lc_poly p1 Fd_logs Fd_powers x6 x3 r10 hu) F ok_Locator_missAt rfl k_767 hK hE hP hD hS hA [0, 1, 3, 4, 5, 6] [2, 7] rfl rfl (by decide) (by decide) (by decide) 0 rfl rfl rfl ⟨rfl, rfl, Nat.le_of_ble_eq_true rfl, Nat.le_of_ble_eq_true rfl⟩ ⟨Nat.zero_le _, Nat.zero_le _⟩ rfl hl.1 rfl (Nat.le_of_ble_eq_true rfl) d_Locator_findRecurrence_52 (fun H locs hP hD hS => ?_)
        have hP : va_P D classes (w_Locator_findRecurrence cI cJ qLc qLc_poly qLc_earlier qP1 qFd qFd_logs qFd_powers qLc_spare Lc_evaluator Lc_places Fd_otherForms Fd_elements nP1 Lc_poly Lc_earlier p1 Fd_logs Fd_powers Lc_spare) H := hP.sub [2, 3, 0, 4, 5, 6, 7, 1] rfl
        have hD : va_D A (w_Locator_findRecurrence cI cJ qLc qLc_poly qLc_earlier qP1 qFd qFd_logs qFd_powers qLc_spare Lc_evaluator Lc_places Fd_otherForms Fd_elements nP1 Lc_poly Lc_earlier p1 Fd_logs Fd_powers Lc_spare) := hD.sub [2, 3, 0, 4, 5, 6, 7, 1] (by decide) rfl
        refine lv_istore (lv' := [(7, .int r10), (0, .ref qLc), (1, .ref qP1), (2, .int x2), (3, .int x3), (4, .int x4), (5, .int x5), (6, .int x6)]) hx hb d_Locator_findRecurrence_55 hl (by decide) rfl (fun ls hl => ?_)
        refine lv_iload hx hb d_Locator_findRecurrence_57 (lv_at hl 0 rfl) ?_
        refine z_if hm (lv_if_eq (tgt := 74) hx hb d_Locator_findRecurrence_59 (by decide)) (fun hm => ?_) (fun hm => ?_)
        · exact T74 x2 x3 x4 x5 x6 r10 Lc_poly Lc_earlier Lc_spare hm _ _ hP hD hS _ (lv_sub hl [1, 2, 3, 4, 5, 6, 7, 0] rfl)
        · refine lv_iconst (v := (2 : Int32)) hx hb d_Locator_findRecurrence_62 (by decide) ?_
          refine lv_iload_n hx hb d_Locator_findRecurrence_63 rfl (lv_at hl 4 rfl) ?_
          refine lv_imul hx hb d_Locator_findRecurrence_64 ?_
          refine lv_iload hx hb d_Locator_findRecurrence_65 (lv_at hl 7 rfl) ?_
          refine z_if hm (lv_icmp_gt (tgt := 74) hx hb d_Locator_findRecurrence_67 (by decide)) (fun hm => ?_) (fun hm => ?_)
          · exact T74 x2 x3 x4 x5 x6 r10 Lc_poly Lc_earlier Lc_spare hm _ _ hP hD hS _ (lv_sub hl [1, 2, 3, 4, 5, 6, 7, 0] rfl)
          · refine lv_iconst (v := (1 : Int32)) hx hb d_Locator_findRecurrence_70 (by decide) ?_
            refine lv_goto (tgt := 75) hx hb d_Locator_findRecurrence_71 (by decide) ?_
            exact T75 x2 x3 x4 x5 x6 r10 (1 : Int32) Lc_poly Lc_earlier Lc_spare hm _ _ hP hD hS _ (lv_sub hl [1, 2, 3, 4, 5, 6, 7, 0] rfl)
  unfold f_Locator_findRecurrence at hm
  refine lv_aload_n hx hb d_Locator_findRecurrence_0 rfl (lv_at hl 0 rfl) ?_
  refine va_get (D := D) (ci := 3) (v := .ref qLc_poly) (C := "DeepChannel$Locator") (T := fT_Locator) (N := 6) hx hb hts u_Locator hown hK hP 0 rfl rfl 1 (by decide) (hts _ k_135) (fun _ h9 => h9) rfl d_Locator_findRecurrence_1 ?_
  refine lv_iconst (v := (0 : Int32)) hx hb d_Locator_findRecurrence_4 (by decide) ?_
  obtain ⟨g12, hu, hm⟩ := bd_el hm
  replace hm := nm_1 hm
  refine z_cSv (wc := w_Arrays_fillI cI cJ qLc_poly 33 Lc_poly) (wc' := w_Arrays_fillI cI cJ qLc_poly 33 g12) (wr := [(qLc, .inr (3, [.ref qFd, .ref qLc_poly, .ref qLc_earlier, .ref qLc_spare, Lc_evaluator, Lc_places])), (qLc_earlier, .inl (cI, 33, .inl Lc_earlier)), (qP1, .inl (cI, nP1, .inl p1)), (qFd, .inr (2, [.ref qFd_powers, .ref qFd_logs, Fd_otherForms, Fd_elements])), (qFd_logs, .inl (cI, 256, .inl Fd_logs)), (qFd_powers, .inl (cI, 255, .inl Fd_powers)), (qLc_spare, .inl (cI, 33, .inl Lc_spare))]) (As := [.ref qLc_poly, .int (0 : Int32)]) (rest := []) (c_Arrays_fillI l D cI cJ tt qLc_poly 33 _ Lc_poly (0 : Int32) g12 hu) F ok_Arrays_fillI k_766 hK hE hP hD hS hA [1] [0, 2, 3, 4, 5, 6, 7] rfl rfl (by decide) (by decide) (by decide) ⟨rfl, rfl, Nat.le_of_ble_eq_true rfl, Nat.le_of_ble_eq_true rfl⟩ ⟨Nat.zero_le _, Nat.zero_le _⟩ rfl hl.1 rfl (Nat.le_of_ble_eq_true rfl) d_Locator_findRecurrence_5 (fun H locs hP hD hS => ?_)
  have hP : va_P D classes (w_Locator_findRecurrence cI cJ qLc qLc_poly qLc_earlier qP1 qFd qFd_logs qFd_powers qLc_spare Lc_evaluator Lc_places Fd_otherForms Fd_elements nP1 g12 Lc_earlier p1 Fd_logs Fd_powers Lc_spare) H := hP.sub [0, 7, 1, 2, 3, 4, 5, 6] rfl
  have hD : va_D A (w_Locator_findRecurrence cI cJ qLc qLc_poly qLc_earlier qP1 qFd qFd_logs qFd_powers qLc_spare Lc_evaluator Lc_places Fd_otherForms Fd_elements nP1 g12 Lc_earlier p1 Fd_logs Fd_powers Lc_spare) := hD.sub [0, 7, 1, 2, 3, 4, 5, 6] (by decide) rfl
  refine lv_aload_n hx hb d_Locator_findRecurrence_8 rfl (lv_at hl 0 rfl) ?_
  refine va_get (D := D) (ci := 3) (v := .ref qLc_earlier) (C := "DeepChannel$Locator") (T := fT_Locator) (N := 6) hx hb hts u_Locator hown hK hP 0 rfl rfl 2 (by decide) (hts _ k_136) (fun _ h9 => h9) rfl d_Locator_findRecurrence_9 ?_
  refine lv_iconst (v := (0 : Int32)) hx hb d_Locator_findRecurrence_12 (by decide) ?_
  obtain ⟨g14, hu, hm⟩ := bd_el hm
  replace hm := nm_1 hm
  refine z_cSv (wc := w_Arrays_fillI cI cJ qLc_earlier 33 Lc_earlier) (wc' := w_Arrays_fillI cI cJ qLc_earlier 33 g14) (wr := [(qLc, .inr (3, [.ref qFd, .ref qLc_poly, .ref qLc_earlier, .ref qLc_spare, Lc_evaluator, Lc_places])), (qLc_poly, .inl (cI, 33, .inl g12)), (qP1, .inl (cI, nP1, .inl p1)), (qFd, .inr (2, [.ref qFd_powers, .ref qFd_logs, Fd_otherForms, Fd_elements])), (qFd_logs, .inl (cI, 256, .inl Fd_logs)), (qFd_powers, .inl (cI, 255, .inl Fd_powers)), (qLc_spare, .inl (cI, 33, .inl Lc_spare))]) (As := [.ref qLc_earlier, .int (0 : Int32)]) (rest := []) (c_Arrays_fillI l D cI cJ tt qLc_earlier 33 _ Lc_earlier (0 : Int32) g14 hu) F ok_Arrays_fillI k_766 hK hE hP hD hS hA [2] [0, 1, 3, 4, 5, 6, 7] rfl rfl (by decide) (by decide) (by decide) ⟨rfl, rfl, Nat.le_of_ble_eq_true rfl, Nat.le_of_ble_eq_true rfl⟩ ⟨Nat.zero_le _, Nat.zero_le _⟩ rfl hl.1 rfl (Nat.le_of_ble_eq_true rfl) d_Locator_findRecurrence_13 (fun H locs hP hD hS => ?_)
  have hP : va_P D classes (w_Locator_findRecurrence cI cJ qLc qLc_poly qLc_earlier qP1 qFd qFd_logs qFd_powers qLc_spare Lc_evaluator Lc_places Fd_otherForms Fd_elements nP1 g12 g14 p1 Fd_logs Fd_powers Lc_spare) H := hP.sub [0, 1, 7, 2, 3, 4, 5, 6] rfl
  have hD : va_D A (w_Locator_findRecurrence cI cJ qLc qLc_poly qLc_earlier qP1 qFd qFd_logs qFd_powers qLc_spare Lc_evaluator Lc_places Fd_otherForms Fd_elements nP1 g12 g14 p1 Fd_logs Fd_powers Lc_spare) := hD.sub [0, 1, 7, 2, 3, 4, 5, 6] (by decide) rfl
  refine lv_aload_n hx hb d_Locator_findRecurrence_16 rfl (lv_at hl 0 rfl) ?_
  refine va_get (D := D) (ci := 3) (v := .ref qLc_poly) (C := "DeepChannel$Locator") (T := fT_Locator) (N := 6) hx hb hts u_Locator hown hK hP 0 rfl rfl 1 (by decide) (hts _ k_135) (fun _ h9 => h9) rfl d_Locator_findRecurrence_17 ?_
  refine lv_iconst (v := (0 : Int32)) hx hb d_Locator_findRecurrence_20 (by decide) ?_
  refine lv_iconst (v := (1 : Int32)) hx hb d_Locator_findRecurrence_21 (by decide) ?_
  refine z_iast hm hx hb hK hP hD hS 1 rfl d_Locator_findRecurrence_22 (fun g16 hm H locs hP hD hS => ?_)
  have hP : va_P D classes (w_Locator_findRecurrence cI cJ qLc qLc_poly qLc_earlier qP1 qFd qFd_logs qFd_powers qLc_spare Lc_evaluator Lc_places Fd_otherForms Fd_elements nP1 g16 g14 p1 Fd_logs Fd_powers Lc_spare) H := hP
  have hD : va_D A (w_Locator_findRecurrence cI cJ qLc qLc_poly qLc_earlier qP1 qFd qFd_logs qFd_powers qLc_spare Lc_evaluator Lc_places Fd_otherForms Fd_elements nP1 g16 g14 p1 Fd_logs Fd_powers Lc_spare) := hD
  refine lv_aload_n hx hb d_Locator_findRecurrence_23 rfl (lv_at hl 0 rfl) ?_
  refine va_get (D := D) (ci := 3) (v := .ref qLc_earlier) (C := "DeepChannel$Locator") (T := fT_Locator) (N := 6) hx hb hts u_Locator hown hK hP 0 rfl rfl 2 (by decide) (hts _ k_136) (fun _ h9 => h9) rfl d_Locator_findRecurrence_24 ?_
  refine lv_iconst (v := (0 : Int32)) hx hb d_Locator_findRecurrence_27 (by decide) ?_
  refine lv_iconst (v := (1 : Int32)) hx hb d_Locator_findRecurrence_28 (by decide) ?_
  refine z_iast hm hx hb hK hP hD hS 2 rfl d_Locator_findRecurrence_29 (fun g17 hm H locs hP hD hS => ?_)
  have hP : va_P D classes (w_Locator_findRecurrence cI cJ qLc qLc_poly qLc_earlier qP1 qFd qFd_logs qFd_powers qLc_spare Lc_evaluator Lc_places Fd_otherForms Fd_elements nP1 g16 g17 p1 Fd_logs Fd_powers Lc_spare) H := hP
  have hD : va_D A (w_Locator_findRecurrence cI cJ qLc qLc_poly qLc_earlier qP1 qFd qFd_logs qFd_powers qLc_spare Lc_evaluator Lc_places Fd_otherForms Fd_elements nP1 g16 g17 p1 Fd_logs Fd_powers Lc_spare) := hD
  refine lv_iconst (v := (0 : Int32)) hx hb d_Locator_findRecurrence_30 (by decide) ?_
  refine lv_istore_n (lv' := [(3, .int (0 : Int32)), (0, .ref qLc), (1, .ref qP1), (2, .int x2)]) hx hb d_Locator_findRecurrence_31 rfl hl (by decide) rfl (fun ls hl => ?_)
  refine lv_iconst (v := (1 : Int32)) hx hb d_Locator_findRecurrence_32 (by decide) ?_
  refine lv_istore (lv' := [(4, .int (1 : Int32)), (3, .int (0 : Int32)), (0, .ref qLc), (1, .ref qP1), (2, .int x2)]) hx hb d_Locator_findRecurrence_33 hl (by decide) rfl (fun ls hl => ?_)
  refine lv_iconst (v := (1 : Int32)) hx hb d_Locator_findRecurrence_35 (by decide) ?_
  refine lv_istore (lv' := [(5, .int (1 : Int32)), (4, .int (1 : Int32)), (3, .int (0 : Int32)), (0, .ref qLc), (1, .ref qP1), (2, .int x2)]) hx hb d_Locator_findRecurrence_36 hl (by decide) rfl (fun ls hl => ?_)
  refine lv_iconst (v := (0 : Int32)) hx hb d_Locator_findRecurrence_38 (by decide) ?_
  refine lv_istore (lv' := [(6, .int (0 : Int32)), (5, .int (1 : Int32)), (4, .int (1 : Int32)), (3, .int (0 : Int32)), (0, .ref qLc), (1, .ref qP1), (2, .int x2)]) hx hb d_Locator_findRecurrence_39 hl (by decide) rfl (fun ls hl => ?_)
  exact T41 10000 x2 (0 : Int32) (1 : Int32) (1 : Int32) (0 : Int32) g16 g17 Lc_spare hm _ _ hP hD hS _ (lv_sub hl [4, 5, 6, 3, 2, 1, 0] rfl)
-- DeepChannel$Locator.findPlaces(II)Z
abbrev b_Locator_findPlaces : ByteArray := prog_5_method_6_code
abbrev y_Locator_findPlaces : MethodName := ⟨"DeepChannel$Locator", "findPlaces", "(II)Z"⟩
theorem d_Locator_findPlaces_0 : decode b_Locator_findPlaces 0 = .ok (.iconst 0, 1) := by decide +kernel
theorem d_Locator_findPlaces_1 : decode b_Locator_findPlaces 1 = .ok (.istore_n 3, 1) := by decide +kernel
theorem d_Locator_findPlaces_2 : decode b_Locator_findPlaces 2 = .ok (.iconst 0, 1) := by decide +kernel
theorem d_Locator_findPlaces_3 : decode b_Locator_findPlaces 3 = .ok (.istore 4, 2) := by decide +kernel
theorem d_Locator_findPlaces_5 : decode b_Locator_findPlaces 5 = .ok (.iload 4, 2) := by decide +kernel
theorem d_Locator_findPlaces_7 : decode b_Locator_findPlaces 7 = .ok (.iload_n 2, 1) := by decide +kernel
theorem d_Locator_findPlaces_8 : decode b_Locator_findPlaces 8 = .ok (.if_icmp .ge 46, 3) := by decide +kernel
theorem d_Locator_findPlaces_11 : decode b_Locator_findPlaces 11 = .ok (.aload_n 0, 1) := by decide +kernel
theorem d_Locator_findPlaces_12 : decode b_Locator_findPlaces 12 = .ok (.aload_n 0, 1) := by decide +kernel
theorem d_Locator_findPlaces_13 : decode b_Locator_findPlaces 13 = .ok (.getfield 9, 3) := by decide +kernel
theorem d_Locator_findPlaces_16 : decode b_Locator_findPlaces 16 = .ok (.iload_n 1, 1) := by decide +kernel
theorem d_Locator_findPlaces_17 : decode b_Locator_findPlaces 17 = .ok (.iload_n 2, 1) := by decide +kernel
theorem d_Locator_findPlaces_18 : decode b_Locator_findPlaces 18 = .ok (.iconst 1, 1) := by decide +kernel
theorem d_Locator_findPlaces_19 : decode b_Locator_findPlaces 19 = .ok (.isub, 1) := by decide +kernel
theorem d_Locator_findPlaces_20 : decode b_Locator_findPlaces 20 = .ok (.iload 4, 2) := by decide +kernel
theorem d_Locator_findPlaces_22 : decode b_Locator_findPlaces 22 = .ok (.isub, 1) := by decide +kernel
theorem d_Locator_findPlaces_23 : decode b_Locator_findPlaces 23 = .ok (.ineg, 1) := by decide +kernel
theorem d_Locator_findPlaces_24 : decode b_Locator_findPlaces 24 = .ok (.invokevirtual 60, 3) := by decide +kernel
theorem d_Locator_findPlaces_27 : decode b_Locator_findPlaces 27 = .ok (.ifCond .ne 21, 3) := by decide +kernel
theorem d_Locator_findPlaces_30 : decode b_Locator_findPlaces 30 = .ok (.iload_n 3, 1) := by decide +kernel
theorem d_Locator_findPlaces_31 : decode b_Locator_findPlaces 31 = .ok (.iload_n 1, 1) := by decide +kernel
theorem d_Locator_findPlaces_32 : decode b_Locator_findPlaces 32 = .ok (.if_icmp .ne 5, 3) := by decide +kernel
theorem d_Locator_findPlaces_35 : decode b_Locator_findPlaces 35 = .ok (.iconst 0, 1) := by decide +kernel
theorem d_Locator_findPlaces_36 : decode b_Locator_findPlaces 36 = .ok (.ireturn, 1) := by decide +kernel
theorem d_Locator_findPlaces_37 : decode b_Locator_findPlaces 37 = .ok (.aload_n 0, 1) := by decide +kernel
theorem d_Locator_findPlaces_38 : decode b_Locator_findPlaces 38 = .ok (.getfield 24, 3) := by decide +kernel
theorem d_Locator_findPlaces_41 : decode b_Locator_findPlaces 41 = .ok (.iload_n 3, 1) := by decide +kernel
theorem d_Locator_findPlaces_42 : decode b_Locator_findPlaces 42 = .ok (.iload 4, 2) := by decide +kernel
theorem d_Locator_findPlaces_44 : decode b_Locator_findPlaces 44 = .ok (.iastore, 1) := by decide +kernel
theorem d_Locator_findPlaces_45 : decode b_Locator_findPlaces 45 = .ok (.iinc 3 1, 3) := by decide +kernel
theorem d_Locator_findPlaces_48 : decode b_Locator_findPlaces 48 = .ok (.iinc 4 1, 3) := by decide +kernel
theorem d_Locator_findPlaces_51 : decode b_Locator_findPlaces 51 = .ok (.goto (-46), 3) := by decide +kernel
theorem d_Locator_findPlaces_54 : decode b_Locator_findPlaces 54 = .ok (.iload_n 3, 1) := by decide +kernel
theorem d_Locator_findPlaces_55 : decode b_Locator_findPlaces 55 = .ok (.iload_n 1, 1) := by decide +kernel
theorem d_Locator_findPlaces_56 : decode b_Locator_findPlaces 56 = .ok (.if_icmp .ne 7, 3) := by decide +kernel
theorem d_Locator_findPlaces_59 : decode b_Locator_findPlaces 59 = .ok (.iconst 1, 1) := by decide +kernel
theorem d_Locator_findPlaces_60 : decode b_Locator_findPlaces 60 = .ok (.goto 4, 3) := by decide +kernel
theorem d_Locator_findPlaces_63 : decode b_Locator_findPlaces 63 = .ok (.iconst 0, 1) := by decide +kernel
theorem d_Locator_findPlaces_64 : decode b_Locator_findPlaces 64 = .ok (.ireturn, 1) := by decide +kernel
theorem ok_Locator_findPlaces : OKv y_Locator_findPlaces b_Locator_findPlaces 5 (some .boolean) "DeepChannel$Locator" 2 := ⟨k_786, k_784, k_785, k_46, by decide +kernel, by decide +kernel, by decide +kernel⟩
abbrev w_Locator_findPlaces (cI cJ : ClassId) (qLc qFd qFd_powers qFd_logs qLc_poly qLc_places : Nat) (Lc_earlier Lc_spare Lc_evaluator Fd_otherForms Fd_elements : Value) (Fd_powers : Nat → Int32) (Fd_logs : Nat → Int32) (Lc_poly : Nat → Int32) (Lc_places : Nat → Int32) : va_W := [(qLc, .inr (3, [.ref qFd, .ref qLc_poly, Lc_earlier, Lc_spare, Lc_evaluator, .ref qLc_places])), (qFd, .inr (2, [.ref qFd_powers, .ref qFd_logs, Fd_otherForms, Fd_elements])), (qFd_powers, .inl (cI, 255, .inl Fd_powers)), (qFd_logs, .inl (cI, 256, .inl Fd_logs)), (qLc_poly, .inl (cI, 33, .inl Lc_poly)), (qLc_places, .inl (cI, 32, .inl Lc_places))]
def f_Locator_findPlaces_54  (x1 : Int32) (x3 : Int32) (Lc_places : Nat → Int32) : Option (Int32 × (Nat → Int32)) :=
  if x3 = x1 then
    zb (1 : Int32) <|
    some ((1 : Int32), Lc_places)
  else
  zb (0 : Int32) <|
  some ((0 : Int32), Lc_places)
def f_Locator_findPlaces_48 (kh5 : Int32 → Int32 → Int32 → Int32 → (Nat → Int32) → Option (Int32 × (Nat → Int32))) (x1 : Int32) (x2 : Int32) (x3 : Int32) (x4 : Int32) (Lc_places : Nat → Int32) : Option (Int32 × (Nat → Int32)) :=
  nm (x4 + (1 : Int32)) fun v1 =>
  kh5 x1 x2 x3 v1 Lc_places
def f_Locator_findPlaces_5_b (Fd_powers : Nat → Int32) (Fd_logs : Nat → Int32) (Lc_poly : Nat → Int32) (kh5 : Int32 → Int32 → Int32 → Int32 → (Nat → Int32) → Option (Int32 × (Nat → Int32))) (x1 : Int32) (x2 : Int32) (x3 : Int32) (x4 : Int32) (Lc_places : Nat → Int32) : Option (Int32 × (Nat → Int32)) :=
  if x2 ≤ x4 then
    f_Locator_findPlaces_54 x1 x3 Lc_places
  else
  bd (f_Locator_valueAt Fd_powers Fd_logs Lc_poly 33 x1 (-((x2 - (1 : Int32)) - x4))) fun u3 =>
  nm u3 fun r2 =>
  if r2 = 0 then
    if x3 = x1 then
      zb (0 : Int32) <|
      some ((0 : Int32), Lc_places)
    else
    wrI Lc_places 32 x3 x4 fun g4 =>
    nm (x3 + (1 : Int32)) fun v5 =>
    f_Locator_findPlaces_48 kh5 x1 x2 v5 x4 g4
  else
  f_Locator_findPlaces_48 kh5 x1 x2 x3 x4 Lc_places
def f_Locator_findPlaces_5 (Fd_powers : Nat → Int32) (Fd_logs : Nat → Int32) (Lc_poly : Nat → Int32) : Nat → Int32 → Int32 → Int32 → Int32 → (Nat → Int32) → Option (Int32 × (Nat → Int32))
  | 0 => fun _ _ _ _ _ => none
  | n + 1 => fun x1 x2 x3 x4 Lc_places => f_Locator_findPlaces_5_b Fd_powers Fd_logs Lc_poly (f_Locator_findPlaces_5 Fd_powers Fd_logs Lc_poly n) x1 x2 x3 x4 Lc_places
def f_Locator_findPlaces (Fd_powers : Nat → Int32) (Fd_logs : Nat → Int32) (Lc_poly : Nat → Int32) (Lc_places : Nat → Int32) (x1 : Int32) (x2 : Int32) : Option (Int32 × (Nat → Int32)) :=
  f_Locator_findPlaces_5 Fd_powers Fd_logs Lc_poly 10000 x1 x2 (0 : Int32) (0 : Int32) Lc_places
set_option maxHeartbeats 4000000 in
set_option maxRecDepth 100000 in
theorem c_Locator_findPlaces (l : Launch) (D : va_G) (cI cJ : ClassId) (tt : Nat → Nat) (qLc qFd qFd_powers qFd_logs qLc_poly qLc_places : Nat) (Lc_earlier Lc_spare Lc_evaluator Fd_otherForms Fd_elements : Value) (sz : Nat) (Fd_powers : Nat → Int32) (Fd_logs : Nat → Int32) (Lc_poly : Nat → Int32) (Lc_places : Nat → Int32) (x1 : Int32) (x2 : Int32) (rr : Int32) (Lc_places' : Nat → Int32) (hm : f_Locator_findPlaces Fd_powers Fd_logs Lc_poly Lc_places x1 x2 = some (rr, Lc_places')) : CTi l y_Locator_findPlaces b_Locator_findPlaces 5 (some .boolean) (RM 2 48) D cI cJ tt [.ref qLc, .int x1, .int x2] (w_Locator_findPlaces cI cJ qLc qFd qFd_powers qFd_logs qLc_poly qLc_places Lc_earlier Lc_spare Lc_evaluator Fd_otherForms Fd_elements Fd_powers Fd_logs Lc_poly Lc_places) (w_Locator_findPlaces cI cJ qLc qFd qFd_powers qFd_logs qLc_poly qLc_places Lc_earlier Lc_spare Lc_evaluator Fd_otherForms Fd_elements Fd_powers Fd_logs Lc_poly Lc_places') sz rr := by
  refine Met.ofW (cc := b_Locator_findPlaces) (maxL := 5) (ret := (some .boolean)) (by decide) rfl ?_
  intro p e s m args below meth c s₁ B hml hv
  obtain ⟨hargs, hsz, hP, hK, hD0, hE⟩ := hv
  have hx := B.exec
  have hb := B.bytes
  have hr := B.returns
  have hts : ∀ w ∈ TB, w.before args s = true := z_mV s (atoms_spec (ws := WD y_Locator_findPlaces b_Locator_findPlaces 5 (some .boolean)) B.pre)
  have hown : s.vm.findClass "DeepChannel$Locator" = some m.cls := findClass_of_methodNamed B.named
  have hlocks := B.notSynchronized
  subst hsz
  have hD := hD0.self (sz := s.heap.size)
  generalize hAe : va_A (w_Locator_findPlaces cI cJ qLc qFd qFd_powers qFd_logs qLc_poly qLc_places Lc_earlier Lc_spare Lc_evaluator Fd_otherForms Fd_elements Fd_powers Fd_logs Lc_poly Lc_places) s.heap.size = A at hD hE ⊢
  have hA : ∀ q : Nat, s.heap.size ≤ q → A q := fun q h => by rw [← hAe]; exact Or.inr h
  have hS : va_S A s.heap s.heap [] := va_S.rf
  refine z_entry (vs := [.ref qLc, .int x1, .int x2]) hargs (Nat.le_of_ble_eq_true rfl) (fun ls hl => ?_)
  have hl : lv_has ls 5 [(0, .ref qLc), (1, .int x1), (2, .int x2)] := hl
  show W p l e (RM 2 48) s m args below meth c s.heap [] 0 0 _ _
  refine z_qi (fun Q0 hQ => ?_)
  have F : CallFix p m c b_Locator_findPlaces 5 s args TB "DeepChannel$Locator" := ⟨hx, hb, hml, hown, hts⟩
  have T54 : ∀ (x1 : Int32) (x3 : Int32) (Lc_places : Nat → Int32), f_Locator_findPlaces_54 x1 x3 Lc_places = some (rr, Lc_places') → ∀ (H : Heap) (locs : List Loc), va_P D classes (w_Locator_findPlaces cI cJ qLc qFd qFd_powers qFd_logs qLc_poly qLc_places Lc_earlier Lc_spare Lc_evaluator Fd_otherForms Fd_elements Fd_powers Fd_logs Lc_poly Lc_places) H → va_D A (w_Locator_findPlaces cI cJ qLc qFd qFd_powers qFd_logs qLc_poly qLc_places Lc_earlier Lc_spare Lc_evaluator Fd_otherForms Fd_elements Fd_powers Fd_logs Lc_poly Lc_places) → va_S A s.heap H locs → ∀ (ls : Array Slot), lv_has ls 5 [(1, .int x1), (3, .int x3)] → W p l e (RM 2 48) s m args below meth c H locs 0 0 Q0 (F0 m 54 ls []) := by
    intro x1 x3 Lc_places hm H locs hP hD hS ls hl
    unfold f_Locator_findPlaces_54 at hm
    refine lv_iload_n hx hb d_Locator_findPlaces_54 rfl (lv_at hl 1 rfl) ?_
    refine lv_iload_n hx hb d_Locator_findPlaces_55 rfl (lv_at hl 0 rfl) ?_
    refine z_ifn hm (lv_icmp_ne (tgt := 63) hx hb d_Locator_findPlaces_56 (by decide)) (fun hm => ?_) (fun hm => ?_)
    · refine lv_iconst (v := (1 : Int32)) hx hb d_Locator_findPlaces_59 (by decide) ?_
      refine lv_goto (tgt := 64) hx hb d_Locator_findPlaces_60 (by decide) ?_
      obtain ⟨hz, hm⟩ := zb_el hm
      cases hm
      exact z_qo hQ (z_iretz hz hr hx hb hlocks hK hP hD hS d_Locator_findPlaces_64)
    · refine lv_iconst (v := (0 : Int32)) hx hb d_Locator_findPlaces_63 (by decide) ?_
      obtain ⟨hz, hm⟩ := zb_el hm
      cases hm
      exact z_qo hQ (z_iretz hz hr hx hb hlocks hK hP hD hS d_Locator_findPlaces_64)
  have T5 : ∀ (n5 : Nat) (x1 : Int32) (x2 : Int32) (x3 : Int32) (x4 : Int32) (Lc_places : Nat → Int32), f_Locator_findPlaces_5 Fd_powers Fd_logs Lc_poly n5 x1 x2 x3 x4 Lc_places = some (rr, Lc_places') → ∀ (H : Heap) (locs : List Loc), va_P D classes (w_Locator_findPlaces cI cJ qLc qFd qFd_powers qFd_logs qLc_poly qLc_places Lc_earlier Lc_spare Lc_evaluator Fd_otherForms Fd_elements Fd_powers Fd_logs Lc_poly Lc_places) H → va_D A (w_Locator_findPlaces cI cJ qLc qFd qFd_powers qFd_logs qLc_poly qLc_places Lc_earlier Lc_spare Lc_evaluator Fd_otherForms Fd_elements Fd_powers Fd_logs Lc_poly Lc_places) → va_S A s.heap H locs → ∀ (ls : Array Slot), lv_has ls 5 [(0, .ref qLc), (1, .int x1), (2, .int x2), (3, .int x3), (4, .int x4)] → W p l e (RM 2 48) s m args below meth c H locs 0 0 Q0 (F0 m 5 ls []) := by
    intro n5
    induction n5 with
    | zero => intro x1 x2 x3 x4 Lc_places hm; cases hm
    | succ n5 ih5 =>
      have T48 : ∀ (x1 : Int32) (x2 : Int32) (x3 : Int32) (x4 : Int32) (Lc_places : Nat → Int32), f_Locator_findPlaces_48 (f_Locator_findPlaces_5 Fd_powers Fd_logs Lc_poly n5) x1 x2 x3 x4 Lc_places = some (rr, Lc_places') → ∀ (H : Heap) (locs : List Loc), va_P D classes (w_Locator_findPlaces cI cJ qLc qFd qFd_powers qFd_logs qLc_poly qLc_places Lc_earlier Lc_spare Lc_evaluator Fd_otherForms Fd_elements Fd_powers Fd_logs Lc_poly Lc_places) H → va_D A (w_Locator_findPlaces cI cJ qLc qFd qFd_powers qFd_logs qLc_poly qLc_places Lc_earlier Lc_spare Lc_evaluator Fd_otherForms Fd_elements Fd_powers Fd_logs Lc_poly Lc_places) → va_S A s.heap H locs → ∀ (ls : Array Slot), lv_has ls 5 [(0, .ref qLc), (1, .int x1), (2, .int x2), (3, .int x3), (4, .int x4)] → W p l e (RM 2 48) s m args below meth c H locs 0 0 Q0 (F0 m 48 ls []) := by
        intro x1 x2 x3 x4 Lc_places hm H locs hP hD hS ls hl
        unfold f_Locator_findPlaces_48 at hm
        obtain ⟨v1, ev, hm⟩ := nm_el hm
        refine lv_iinc (v := v1) (lv' := [(4, .int v1), (0, .ref qLc), (1, .int x1), (2, .int x2), (3, .int x3)]) hx hb d_Locator_findPlaces_48 hl (k := 4) rfl (by rw [ev]; rfl) (by decide) rfl (fun ls hl => ?_)
        refine lv_goto (tgt := 5) hx hb d_Locator_findPlaces_51 (by decide) ?_
        exact ih5 x1 x2 x3 v1 Lc_places hm _ _ hP hD hS _ (lv_sub hl [1, 2, 3, 4, 0] rfl)
      intro x1 x2 x3 x4 Lc_places hm H locs hP hD hS ls hl
      replace hm : f_Locator_findPlaces_5_b Fd_powers Fd_logs Lc_poly (f_Locator_findPlaces_5 Fd_powers Fd_logs Lc_poly n5) x1 x2 x3 x4 Lc_places = some (rr, Lc_places') := hm
      unfold f_Locator_findPlaces_5_b at hm
      refine lv_iload hx hb d_Locator_findPlaces_5 (lv_at hl 4 rfl) ?_
      refine lv_iload_n hx hb d_Locator_findPlaces_7 rfl (lv_at hl 2 rfl) ?_
      refine z_if hm (lv_icmp_ge (tgt := 54) hx hb d_Locator_findPlaces_8 (by decide)) (fun hm => ?_) (fun hm => ?_)
      · exact T54 x1 x3 Lc_places hm _ _ hP hD hS _ (lv_sub hl [1, 3] rfl)
      · refine lv_aload_n hx hb d_Locator_findPlaces_11 rfl (lv_at hl 0 rfl) ?_
        refine lv_aload_n hx hb d_Locator_findPlaces_12 rfl (lv_at hl 0 rfl) ?_
        refine va_get (D := D) (ci := 3) (v := .ref qLc_poly) (C := "DeepChannel$Locator") (T := fT_Locator) (N := 6) hx hb hts u_Locator hown hK hP 0 rfl rfl 1 (by decide) (hts _ k_135) (fun _ h9 => h9) rfl d_Locator_findPlaces_13 ?_
        refine lv_iload_n hx hb d_Locator_findPlaces_16 rfl (lv_at hl 1 rfl) ?_
        refine lv_iload_n hx hb d_Locator_findPlaces_17 rfl (lv_at hl 2 rfl) ?_
        refine lv_iconst (v := (1 : Int32)) hx hb d_Locator_findPlaces_18 (by decide) ?_
        refine lv_isub hx hb d_Locator_findPlaces_19 ?_
        refine lv_iload hx hb d_Locator_findPlaces_20 (lv_at hl 4 rfl) ?_
        refine lv_isub hx hb d_Locator_findPlaces_22 ?_
        refine lv_ineg hx hb d_Locator_findPlaces_23 ?_
        obtain ⟨r2, hu, hm⟩ := bd_el hm
        replace hm := nm_1 hm
        refine z_cVi (wc := w_Locator_valueAt cI cJ qLc qFd qFd_powers qFd_logs qLc_poly (.ref qLc_poly) Lc_earlier Lc_spare Lc_evaluator (.ref qLc_places) Fd_otherForms Fd_elements 33 Fd_powers Fd_logs Lc_poly) (wc' := w_Locator_valueAt cI cJ qLc qFd qFd_powers qFd_logs qLc_poly (.ref qLc_poly) Lc_earlier Lc_spare Lc_evaluator (.ref qLc_places) Fd_otherForms Fd_elements 33 Fd_powers Fd_logs Lc_poly) (wr := [(qLc_places, .inl (cI, 32, .inl Lc_places))]) (As := [.ref qLc_poly, .int x1, .int (-((x2 - (1 : Int32)) - x4))]) (rest := []) (c_Locator_valueAt l D cI cJ tt qLc qFd qFd_powers qFd_logs qLc_poly (.ref qLc_poly) Lc_earlier Lc_spare Lc_evaluator (.ref qLc_places) Fd_otherForms Fd_elements 33 _ Fd_powers Fd_logs Lc_poly x1 (-((x2 - (1 : Int32)) - x4)) r2 hu) F ok_Locator_valueAt rfl k_787 hK hE hP hD hS hA [0, 1, 2, 3, 4] [5] rfl rfl (by decide) (by decide) (by decide) 0 rfl rfl rfl ⟨rfl, rfl, Nat.le_of_ble_eq_true rfl, Nat.le_of_ble_eq_true rfl⟩ ⟨Nat.zero_le _, Nat.zero_le _⟩ rfl hl.1 rfl (Nat.le_of_ble_eq_true rfl) d_Locator_findPlaces_24 (fun H locs hP hD hS => ?_)
        have hP : va_P D classes (w_Locator_findPlaces cI cJ qLc qFd qFd_powers qFd_logs qLc_poly qLc_places Lc_earlier Lc_spare Lc_evaluator Fd_otherForms Fd_elements Fd_powers Fd_logs Lc_poly Lc_places) H := hP.sub [1, 2, 3, 4, 5, 0] rfl
        have hD : va_D A (w_Locator_findPlaces cI cJ qLc qFd qFd_powers qFd_logs qLc_poly qLc_places Lc_earlier Lc_spare Lc_evaluator Fd_otherForms Fd_elements Fd_powers Fd_logs Lc_poly Lc_places) := hD.sub [1, 2, 3, 4, 5, 0] (by decide) rfl
        refine z_ifn hm (lv_if_ne (tgt := 48) hx hb d_Locator_findPlaces_27 (by decide)) (fun hm => ?_) (fun hm => ?_)
        · refine lv_iload_n hx hb d_Locator_findPlaces_30 rfl (lv_at hl 3 rfl) ?_
          refine lv_iload_n hx hb d_Locator_findPlaces_31 rfl (lv_at hl 1 rfl) ?_
          refine z_ifn hm (lv_icmp_ne (tgt := 37) hx hb d_Locator_findPlaces_32 (by decide)) (fun hm => ?_) (fun hm => ?_)
          · refine lv_iconst (v := (0 : Int32)) hx hb d_Locator_findPlaces_35 (by decide) ?_
            obtain ⟨hz, hm⟩ := zb_el hm
            cases hm
            exact z_qo hQ (z_iretz hz hr hx hb hlocks hK hP hD hS d_Locator_findPlaces_36)
          · refine lv_aload_n hx hb d_Locator_findPlaces_37 rfl (lv_at hl 0 rfl) ?_
            refine va_get (D := D) (ci := 3) (v := .ref qLc_places) (C := "DeepChannel$Locator") (T := fT_Locator) (N := 6) hx hb hts u_Locator hown hK hP 0 rfl rfl 5 (by decide) (hts _ k_139) (fun _ h9 => h9) rfl d_Locator_findPlaces_38 ?_
            refine lv_iload_n hx hb d_Locator_findPlaces_41 rfl (lv_at hl 3 rfl) ?_
            refine lv_iload hx hb d_Locator_findPlaces_42 (lv_at hl 4 rfl) ?_
            refine z_iast hm hx hb hK hP hD hS 5 rfl d_Locator_findPlaces_44 (fun g4 hm H locs hP hD hS => ?_)
            have hP : va_P D classes (w_Locator_findPlaces cI cJ qLc qFd qFd_powers qFd_logs qLc_poly qLc_places Lc_earlier Lc_spare Lc_evaluator Fd_otherForms Fd_elements Fd_powers Fd_logs Lc_poly g4) H := hP
            have hD : va_D A (w_Locator_findPlaces cI cJ qLc qFd qFd_powers qFd_logs qLc_poly qLc_places Lc_earlier Lc_spare Lc_evaluator Fd_otherForms Fd_elements Fd_powers Fd_logs Lc_poly g4) := hD
            obtain ⟨v5, ev, hm⟩ := nm_el hm
            refine lv_iinc (v := v5) (lv' := [(3, .int v5), (0, .ref qLc), (1, .int x1), (2, .int x2), (4, .int x4)]) hx hb d_Locator_findPlaces_45 hl (k := 3) rfl (by rw [ev]; rfl) (by decide) rfl (fun ls hl => ?_)
            exact T48 x1 x2 v5 x4 g4 hm _ _ hP hD hS _ (lv_sub hl [1, 2, 3, 0, 4] rfl)
        · exact T48 x1 x2 x3 x4 Lc_places hm _ _ hP hD hS _ (lv_sub hl [0, 1, 2, 3, 4] rfl)
  unfold f_Locator_findPlaces at hm
  refine lv_iconst (v := (0 : Int32)) hx hb d_Locator_findPlaces_0 (by decide) ?_
  refine lv_istore_n (lv' := [(3, .int (0 : Int32)), (0, .ref qLc), (1, .int x1), (2, .int x2)]) hx hb d_Locator_findPlaces_1 rfl hl (by decide) rfl (fun ls hl => ?_)
  refine lv_iconst (v := (0 : Int32)) hx hb d_Locator_findPlaces_2 (by decide) ?_
  refine lv_istore (lv' := [(4, .int (0 : Int32)), (3, .int (0 : Int32)), (0, .ref qLc), (1, .int x1), (2, .int x2)]) hx hb d_Locator_findPlaces_3 hl (by decide) rfl (fun ls hl => ?_)
  exact T5 10000 x1 x2 (0 : Int32) (0 : Int32) Lc_places hm _ _ hP hD hS _ (lv_sub hl [2, 3, 4, 1, 0] rfl)
-- DeepChannel$Locator.findEvaluator([II)V
abbrev b_Locator_findEvaluator : ByteArray := prog_5_method_8_code
abbrev y_Locator_findEvaluator : MethodName := ⟨"DeepChannel$Locator", "findEvaluator", "([II)V"⟩
theorem d_Locator_findEvaluator_0 : decode b_Locator_findEvaluator 0 = .ok (.iconst 0, 1) := by decide +kernel
theorem d_Locator_findEvaluator_1 : decode b_Locator_findEvaluator 1 = .ok (.istore_n 3, 1) := by decide +kernel
theorem d_Locator_findEvaluator_2 : decode b_Locator_findEvaluator 2 = .ok (.iload_n 3, 1) := by decide +kernel
theorem d_Locator_findEvaluator_3 : decode b_Locator_findEvaluator 3 = .ok (.iload_n 2, 1) := by decide +kernel
theorem d_Locator_findEvaluator_4 : decode b_Locator_findEvaluator 4 = .ok (.if_icmp .ge 22, 3) := by decide +kernel
theorem d_Locator_findEvaluator_7 : decode b_Locator_findEvaluator 7 = .ok (.aload_n 0, 1) := by decide +kernel
theorem d_Locator_findEvaluator_8 : decode b_Locator_findEvaluator 8 = .ok (.getfield 21, 3) := by decide +kernel
theorem d_Locator_findEvaluator_11 : decode b_Locator_findEvaluator 11 = .ok (.iload_n 3, 1) := by decide +kernel
theorem d_Locator_findEvaluator_12 : decode b_Locator_findEvaluator 12 = .ok (.aload_n 0, 1) := by decide +kernel
theorem d_Locator_findEvaluator_13 : decode b_Locator_findEvaluator 13 = .ok (.aload_n 1, 1) := by decide +kernel
theorem d_Locator_findEvaluator_14 : decode b_Locator_findEvaluator 14 = .ok (.iload_n 3, 1) := by decide +kernel
theorem d_Locator_findEvaluator_15 : decode b_Locator_findEvaluator 15 = .ok (.iload_n 2, 1) := by decide +kernel
theorem d_Locator_findEvaluator_16 : decode b_Locator_findEvaluator 16 = .ok (.invokevirtual 37, 3) := by decide +kernel
theorem d_Locator_findEvaluator_19 : decode b_Locator_findEvaluator 19 = .ok (.iastore, 1) := by decide +kernel
theorem d_Locator_findEvaluator_20 : decode b_Locator_findEvaluator 20 = .ok (.iinc 3 1, 3) := by decide +kernel
theorem d_Locator_findEvaluator_23 : decode b_Locator_findEvaluator 23 = .ok (.goto (-21), 3) := by decide +kernel
theorem d_Locator_findEvaluator_26 : decode b_Locator_findEvaluator 26 = .ok (.return_, 1) := by decide +kernel
theorem ok_Locator_findEvaluator : OKv y_Locator_findEvaluator b_Locator_findEvaluator 4 none "DeepChannel$Locator" 2 := ⟨k_795, k_793, k_794, k_46, by decide +kernel, by decide +kernel, by decide +kernel⟩
abbrev w_Locator_findEvaluator (cI cJ : ClassId) (qLc qLc_poly qP1 qFd qFd_logs qFd_powers qLc_evaluator : Nat) (Lc_earlier Lc_spare Lc_places Fd_otherForms Fd_elements : Value) (nP1 : Nat) (Lc_poly : Nat → Int32) (p1 : Nat → Int32) (Fd_logs : Nat → Int32) (Fd_powers : Nat → Int32) (Lc_evaluator : Nat → Int32) : va_W := [(qLc, .inr (3, [.ref qFd, .ref qLc_poly, Lc_earlier, Lc_spare, .ref qLc_evaluator, Lc_places])), (qLc_poly, .inl (cI, 33, .inl Lc_poly)), (qP1, .inl (cI, nP1, .inl p1)), (qFd, .inr (2, [.ref qFd_powers, .ref qFd_logs, Fd_otherForms, Fd_elements])), (qFd_logs, .inl (cI, 256, .inl Fd_logs)), (qFd_powers, .inl (cI, 255, .inl Fd_powers)), (qLc_evaluator, .inl (cI, 33, .inl Lc_evaluator))]
def f_Locator_findEvaluator_2_b (Lc_poly : Nat → Int32) (p1 : Nat → Int32) (Fd_logs : Nat → Int32) (Fd_powers : Nat → Int32) (nP1 : Nat) (kh2 : Int32 → Int32 → (Nat → Int32) → Option ((Nat → Int32))) (x2 : Int32) (x3 : Int32) (Lc_evaluator : Nat → Int32) : Option ((Nat → Int32)) :=
  if x2 ≤ x3 then
    some Lc_evaluator
  else
  bd (f_Locator_missAt Lc_poly p1 Fd_logs Fd_powers nP1 x3 x2) fun u2 =>
  nm u2 fun r1 =>
  wrI Lc_evaluator 33 x3 r1 fun g3 =>
  nm (x3 + (1 : Int32)) fun v4 =>
  kh2 x2 v4 g3
def f_Locator_findEvaluator_2 (Lc_poly : Nat → Int32) (p1 : Nat → Int32) (Fd_logs : Nat → Int32) (Fd_powers : Nat → Int32) (nP1 : Nat) : Nat → Int32 → Int32 → (Nat → Int32) → Option ((Nat → Int32))
  | 0 => fun _ _ _ => none
  | n + 1 => fun x2 x3 Lc_evaluator => f_Locator_findEvaluator_2_b Lc_poly p1 Fd_logs Fd_powers nP1 (f_Locator_findEvaluator_2 Lc_poly p1 Fd_logs Fd_powers nP1 n) x2 x3 Lc_evaluator
def f_Locator_findEvaluator (Lc_poly : Nat → Int32) (p1 : Nat → Int32) (Fd_logs : Nat → Int32) (Fd_powers : Nat → Int32) (Lc_evaluator : Nat → Int32) (nP1 : Nat) (x2 : Int32) : Option ((Nat → Int32)) :=
  f_Locator_findEvaluator_2 Lc_poly p1 Fd_logs Fd_powers nP1 10000 x2 (0 : Int32) Lc_evaluator
set_option maxHeartbeats 4000000 in
set_option maxRecDepth 100000 in
theorem c_Locator_findEvaluator (l : Launch) (D : va_G) (cI cJ : ClassId) (tt : Nat → Nat) (qLc qLc_poly qP1 qFd qFd_logs qFd_powers qLc_evaluator : Nat) (Lc_earlier Lc_spare Lc_places Fd_otherForms Fd_elements : Value) (nP1 : Nat) (sz : Nat) (Lc_poly : Nat → Int32) (p1 : Nat → Int32) (Fd_logs : Nat → Int32) (Fd_powers : Nat → Int32) (Lc_evaluator : Nat → Int32) (x2 : Int32) (Lc_evaluator' : Nat → Int32) (hm : f_Locator_findEvaluator Lc_poly p1 Fd_logs Fd_powers Lc_evaluator nP1 x2 = some Lc_evaluator') : CTv l y_Locator_findEvaluator b_Locator_findEvaluator 4 none (RM 2 47) D cI cJ tt [.ref qLc, .ref qP1, .int x2] (w_Locator_findEvaluator cI cJ qLc qLc_poly qP1 qFd qFd_logs qFd_powers qLc_evaluator Lc_earlier Lc_spare Lc_places Fd_otherForms Fd_elements nP1 Lc_poly p1 Fd_logs Fd_powers Lc_evaluator) (w_Locator_findEvaluator cI cJ qLc qLc_poly qP1 qFd qFd_logs qFd_powers qLc_evaluator Lc_earlier Lc_spare Lc_places Fd_otherForms Fd_elements nP1 Lc_poly p1 Fd_logs Fd_powers Lc_evaluator') sz := by
  refine Met.ofW (cc := b_Locator_findEvaluator) (maxL := 4) (ret := none) (by decide) rfl ?_
  intro p e s m args below meth c s₁ B hml hv
  obtain ⟨hargs, hsz, hP, hK, hD0, hE⟩ := hv
  have hx := B.exec
  have hb := B.bytes
  have hr := B.returns
  have hts : ∀ w ∈ TB, w.before args s = true := z_mV s (atoms_spec (ws := WD y_Locator_findEvaluator b_Locator_findEvaluator 4 none) B.pre)
  have hown : s.vm.findClass "DeepChannel$Locator" = some m.cls := findClass_of_methodNamed B.named
  have hlocks := B.notSynchronized
  subst hsz
  have hD := hD0.self (sz := s.heap.size)
  generalize hAe : va_A (w_Locator_findEvaluator cI cJ qLc qLc_poly qP1 qFd qFd_logs qFd_powers qLc_evaluator Lc_earlier Lc_spare Lc_places Fd_otherForms Fd_elements nP1 Lc_poly p1 Fd_logs Fd_powers Lc_evaluator) s.heap.size = A at hD hE ⊢
  have hA : ∀ q : Nat, s.heap.size ≤ q → A q := fun q h => by rw [← hAe]; exact Or.inr h
  have hS : va_S A s.heap s.heap [] := va_S.rf
  refine z_entry (vs := [.ref qLc, .ref qP1, .int x2]) hargs (Nat.le_of_ble_eq_true rfl) (fun ls hl => ?_)
  have hl : lv_has ls 4 [(0, .ref qLc), (1, .ref qP1), (2, .int x2)] := hl
  show W p l e (RM 2 47) s m args below meth c s.heap [] 0 0 _ _
  refine z_qi (fun Q0 hQ => ?_)
  have F : CallFix p m c b_Locator_findEvaluator 4 s args TB "DeepChannel$Locator" := ⟨hx, hb, hml, hown, hts⟩
  have T2 : ∀ (n2 : Nat) (x2 : Int32) (x3 : Int32) (Lc_evaluator : Nat → Int32), f_Locator_findEvaluator_2 Lc_poly p1 Fd_logs Fd_powers nP1 n2 x2 x3 Lc_evaluator = some Lc_evaluator' → ∀ (H : Heap) (locs : List Loc), va_P D classes (w_Locator_findEvaluator cI cJ qLc qLc_poly qP1 qFd qFd_logs qFd_powers qLc_evaluator Lc_earlier Lc_spare Lc_places Fd_otherForms Fd_elements nP1 Lc_poly p1 Fd_logs Fd_powers Lc_evaluator) H → va_D A (w_Locator_findEvaluator cI cJ qLc qLc_poly qP1 qFd qFd_logs qFd_powers qLc_evaluator Lc_earlier Lc_spare Lc_places Fd_otherForms Fd_elements nP1 Lc_poly p1 Fd_logs Fd_powers Lc_evaluator) → va_S A s.heap H locs → ∀ (ls : Array Slot), lv_has ls 4 [(0, .ref qLc), (1, .ref qP1), (2, .int x2), (3, .int x3)] → W p l e (RM 2 47) s m args below meth c H locs 0 0 Q0 (F0 m 2 ls []) := by
    intro n2
    induction n2 with
    | zero => intro x2 x3 Lc_evaluator hm; cases hm
    | succ n2 ih2 =>
      intro x2 x3 Lc_evaluator hm H locs hP hD hS ls hl
      replace hm : f_Locator_findEvaluator_2_b Lc_poly p1 Fd_logs Fd_powers nP1 (f_Locator_findEvaluator_2 Lc_poly p1 Fd_logs Fd_powers nP1 n2) x2 x3 Lc_evaluator = some Lc_evaluator' := hm
      unfold f_Locator_findEvaluator_2_b at hm
      refine lv_iload_n hx hb d_Locator_findEvaluator_2 rfl (lv_at hl 3 rfl) ?_
      refine lv_iload_n hx hb d_Locator_findEvaluator_3 rfl (lv_at hl 2 rfl) ?_
      refine z_if hm (lv_icmp_ge (tgt := 26) hx hb d_Locator_findEvaluator_4 (by decide)) (fun hm => ?_) (fun hm => ?_)
      · cases hm
        exact z_qo hQ (z_vret hr hx hb hlocks hK hP hD hS d_Locator_findEvaluator_26)
      · refine lv_aload_n hx hb d_Locator_findEvaluator_7 rfl (lv_at hl 0 rfl) ?_
        refine va_get (D := D) (ci := 3) (v := .ref qLc_evaluator) (C := "DeepChannel$Locator") (T := fT_Locator) (N := 6) hx hb hts u_Locator hown hK hP 0 rfl rfl 4 (by decide) (hts _ k_138) (fun _ h9 => h9) rfl d_Locator_findEvaluator_8 ?_
        refine lv_iload_n hx hb d_Locator_findEvaluator_11 rfl (lv_at hl 3 rfl) ?_
        refine lv_aload_n hx hb d_Locator_findEvaluator_12 rfl (lv_at hl 0 rfl) ?_
        refine lv_aload_n hx hb d_Locator_findEvaluator_13 rfl (lv_at hl 1 rfl) ?_
        refine lv_iload_n hx hb d_Locator_findEvaluator_14 rfl (lv_at hl 3 rfl) ?_
        refine lv_iload_n hx hb d_Locator_findEvaluator_15 rfl (lv_at hl 2 rfl) ?_
        obtain ⟨r1, hu, hm⟩ := bd_el hm
        replace hm := nm_1 hm
        refine z_cVi (wc := w_Locator_missAt cI cJ qLc qLc_poly qP1 qFd qFd_logs qFd_powers Lc_earlier Lc_spare (.ref qLc_evaluator) Lc_places Fd_otherForms Fd_elements nP1 Lc_poly p1 Fd_logs Fd_powers) (wc' := w_Locator_missAt cI cJ qLc qLc_poly qP1 qFd qFd_logs qFd_powers Lc_earlier Lc_spare (.ref qLc_evaluator) Lc_places Fd_otherForms Fd_elements nP1 Lc_poly p1 Fd_logs Fd_powers) (wr := [(qLc_evaluator, .inl (cI, 33, .inl Lc_evaluator))]) (As := [.ref qP1, .int x3, .int x2]) (rest := [.int x3, .ref qLc_evaluator]) (c_Locator_missAt l D cI cJ tt qLc qLc_poly qP1 qFd qFd_logs qFd_powers Lc_earlier Lc_spare (.ref qLc_evaluator) Lc_places Fd_otherForms Fd_elements nP1 _ Lc_poly p1 Fd_logs Fd_powers x3 x2 r1 hu) F ok_Locator_missAt rfl k_767 hK hE hP hD hS hA [0, 1, 2, 3, 4, 5] [6] rfl rfl (by decide) (by decide) (by decide) 0 rfl rfl rfl ⟨rfl, rfl, Nat.le_of_ble_eq_true rfl, Nat.le_of_ble_eq_true rfl⟩ ⟨Nat.zero_le _, Nat.zero_le _⟩ rfl hl.1 rfl (Nat.le_of_ble_eq_true rfl) d_Locator_findEvaluator_16 (fun H locs hP hD hS => ?_)
        have hP : va_P D classes (w_Locator_findEvaluator cI cJ qLc qLc_poly qP1 qFd qFd_logs qFd_powers qLc_evaluator Lc_earlier Lc_spare Lc_places Fd_otherForms Fd_elements nP1 Lc_poly p1 Fd_logs Fd_powers Lc_evaluator) H := hP.sub [1, 2, 3, 4, 5, 6, 0] rfl
        have hD : va_D A (w_Locator_findEvaluator cI cJ qLc qLc_poly qP1 qFd qFd_logs qFd_powers qLc_evaluator Lc_earlier Lc_spare Lc_places Fd_otherForms Fd_elements nP1 Lc_poly p1 Fd_logs Fd_powers Lc_evaluator) := hD.sub [1, 2, 3, 4, 5, 6, 0] (by decide) rfl
        refine z_iast hm hx hb hK hP hD hS 6 rfl d_Locator_findEvaluator_19 (fun g3 hm H locs hP hD hS => ?_)
        have hP : va_P D classes (w_Locator_findEvaluator cI cJ qLc qLc_poly qP1 qFd qFd_logs qFd_powers qLc_evaluator Lc_earlier Lc_spare Lc_places Fd_otherForms Fd_elements nP1 Lc_poly p1 Fd_logs Fd_powers g3) H := hP
        have hD : va_D A (w_Locator_findEvaluator cI cJ qLc qLc_poly qP1 qFd qFd_logs qFd_powers qLc_evaluator Lc_earlier Lc_spare Lc_places Fd_otherForms Fd_elements nP1 Lc_poly p1 Fd_logs Fd_powers g3) := hD
        obtain ⟨v4, ev, hm⟩ := nm_el hm
        refine lv_iinc (v := v4) (lv' := [(3, .int v4), (0, .ref qLc), (1, .ref qP1), (2, .int x2)]) hx hb d_Locator_findEvaluator_20 hl (k := 3) rfl (by rw [ev]; rfl) (by decide) rfl (fun ls hl => ?_)
        refine lv_goto (tgt := 2) hx hb d_Locator_findEvaluator_23 (by decide) ?_
        exact ih2 x2 v4 g3 hm _ _ hP hD hS _ (lv_sub hl [1, 2, 3, 0] rfl)
  unfold f_Locator_findEvaluator at hm
  refine lv_iconst (v := (0 : Int32)) hx hb d_Locator_findEvaluator_0 (by decide) ?_
  refine lv_istore_n (lv' := [(3, .int (0 : Int32)), (0, .ref qLc), (1, .ref qP1), (2, .int x2)]) hx hb d_Locator_findEvaluator_1 rfl hl (by decide) rfl (fun ls hl => ?_)
  exact T2 10000 x2 (0 : Int32) Lc_evaluator hm _ _ hP hD hS _ (lv_sub hl [1, 2, 3, 0] rfl)
-- DeepChannel$Locator.differenceAt(III)I
abbrev b_Locator_differenceAt : ByteArray := prog_5_method_9_code
abbrev y_Locator_differenceAt : MethodName := ⟨"DeepChannel$Locator", "differenceAt", "(III)I"⟩
theorem d_Locator_differenceAt_0 : decode b_Locator_differenceAt 0 = .ok (.iconst 0, 1) := by decide +kernel
theorem d_Locator_differenceAt_1 : decode b_Locator_differenceAt 1 = .ok (.istore 4, 2) := by decide +kernel
theorem d_Locator_differenceAt_3 : decode b_Locator_differenceAt 3 = .ok (.iconst 1, 1) := by decide +kernel
theorem d_Locator_differenceAt_4 : decode b_Locator_differenceAt 4 = .ok (.istore 5, 2) := by decide +kernel
theorem d_Locator_differenceAt_6 : decode b_Locator_differenceAt 6 = .ok (.iload 5, 2) := by decide +kernel
theorem d_Locator_differenceAt_8 : decode b_Locator_differenceAt 8 = .ok (.iload_n 3, 1) := by decide +kernel
theorem d_Locator_differenceAt_9 : decode b_Locator_differenceAt 9 = .ok (.if_icmp .gt 42, 3) := by decide +kernel
theorem d_Locator_differenceAt_12 : decode b_Locator_differenceAt 12 = .ok (.iload 4, 2) := by decide +kernel
theorem d_Locator_differenceAt_14 : decode b_Locator_differenceAt 14 = .ok (.aload_n 0, 1) := by decide +kernel
theorem d_Locator_differenceAt_15 : decode b_Locator_differenceAt 15 = .ok (.getfield 27, 3) := by decide +kernel
theorem d_Locator_differenceAt_18 : decode b_Locator_differenceAt 18 = .ok (.aload_n 0, 1) := by decide +kernel
theorem d_Locator_differenceAt_19 : decode b_Locator_differenceAt 19 = .ok (.getfield 9, 3) := by decide +kernel
theorem d_Locator_differenceAt_22 : decode b_Locator_differenceAt 22 = .ok (.iload 5, 2) := by decide +kernel
theorem d_Locator_differenceAt_24 : decode b_Locator_differenceAt 24 = .ok (.iaload, 1) := by decide +kernel
theorem d_Locator_differenceAt_25 : decode b_Locator_differenceAt 25 = .ok (.aload_n 0, 1) := by decide +kernel
theorem d_Locator_differenceAt_26 : decode b_Locator_differenceAt 26 = .ok (.getfield 27, 3) := by decide +kernel
theorem d_Locator_differenceAt_29 : decode b_Locator_differenceAt 29 = .ok (.iload_n 1, 1) := by decide +kernel
theorem d_Locator_differenceAt_30 : decode b_Locator_differenceAt 30 = .ok (.ineg, 1) := by decide +kernel
theorem d_Locator_differenceAt_31 : decode b_Locator_differenceAt 31 = .ok (.iload 5, 2) := by decide +kernel
theorem d_Locator_differenceAt_33 : decode b_Locator_differenceAt 33 = .ok (.iconst 1, 1) := by decide +kernel
theorem d_Locator_differenceAt_34 : decode b_Locator_differenceAt 34 = .ok (.isub, 1) := by decide +kernel
theorem d_Locator_differenceAt_35 : decode b_Locator_differenceAt 35 = .ok (.imul, 1) := by decide +kernel
theorem d_Locator_differenceAt_36 : decode b_Locator_differenceAt 36 = .ok (.invokevirtual 63, 3) := by decide +kernel
theorem d_Locator_differenceAt_39 : decode b_Locator_differenceAt 39 = .ok (.invokevirtual 57, 3) := by decide +kernel
theorem d_Locator_differenceAt_42 : decode b_Locator_differenceAt 42 = .ok (.ixor, 1) := by decide +kernel
theorem d_Locator_differenceAt_43 : decode b_Locator_differenceAt 43 = .ok (.istore 4, 2) := by decide +kernel
theorem d_Locator_differenceAt_45 : decode b_Locator_differenceAt 45 = .ok (.iinc 5 2, 3) := by decide +kernel
theorem d_Locator_differenceAt_48 : decode b_Locator_differenceAt 48 = .ok (.goto (-42), 3) := by decide +kernel
theorem d_Locator_differenceAt_51 : decode b_Locator_differenceAt 51 = .ok (.aload_n 0, 1) := by decide +kernel
theorem d_Locator_differenceAt_52 : decode b_Locator_differenceAt 52 = .ok (.getfield 27, 3) := by decide +kernel
theorem d_Locator_differenceAt_55 : decode b_Locator_differenceAt 55 = .ok (.aload_n 0, 1) := by decide +kernel
theorem d_Locator_differenceAt_56 : decode b_Locator_differenceAt 56 = .ok (.aload_n 0, 1) := by decide +kernel
theorem d_Locator_differenceAt_57 : decode b_Locator_differenceAt 57 = .ok (.getfield 21, 3) := by decide +kernel
theorem d_Locator_differenceAt_60 : decode b_Locator_differenceAt 60 = .ok (.iload_n 3, 1) := by decide +kernel
theorem d_Locator_differenceAt_61 : decode b_Locator_differenceAt 61 = .ok (.iconst 1, 1) := by decide +kernel
theorem d_Locator_differenceAt_62 : decode b_Locator_differenceAt 62 = .ok (.isub, 1) := by decide +kernel
theorem d_Locator_differenceAt_63 : decode b_Locator_differenceAt 63 = .ok (.iload_n 1, 1) := by decide +kernel
theorem d_Locator_differenceAt_64 : decode b_Locator_differenceAt 64 = .ok (.ineg, 1) := by decide +kernel
theorem d_Locator_differenceAt_65 : decode b_Locator_differenceAt 65 = .ok (.invokevirtual 60, 3) := by decide +kernel
theorem d_Locator_differenceAt_68 : decode b_Locator_differenceAt 68 = .ok (.iload 4, 2) := by decide +kernel
theorem d_Locator_differenceAt_70 : decode b_Locator_differenceAt 70 = .ok (.invokevirtual 47, 3) := by decide +kernel
theorem d_Locator_differenceAt_73 : decode b_Locator_differenceAt 73 = .ok (.istore 5, 2) := by decide +kernel
theorem d_Locator_differenceAt_75 : decode b_Locator_differenceAt 75 = .ok (.aload_n 0, 1) := by decide +kernel
theorem d_Locator_differenceAt_76 : decode b_Locator_differenceAt 76 = .ok (.getfield 27, 3) := by decide +kernel
theorem d_Locator_differenceAt_79 : decode b_Locator_differenceAt 79 = .ok (.iload 5, 2) := by decide +kernel
theorem d_Locator_differenceAt_81 : decode b_Locator_differenceAt 81 = .ok (.aload_n 0, 1) := by decide +kernel
theorem d_Locator_differenceAt_82 : decode b_Locator_differenceAt 82 = .ok (.getfield 27, 3) := by decide +kernel
theorem d_Locator_differenceAt_85 : decode b_Locator_differenceAt 85 = .ok (.iload_n 1, 1) := by decide +kernel
theorem d_Locator_differenceAt_86 : decode b_Locator_differenceAt 86 = .ok (.iconst 1, 1) := by decide +kernel
theorem d_Locator_differenceAt_87 : decode b_Locator_differenceAt 87 = .ok (.sipush 128, 3) := by decide +kernel
theorem d_Locator_differenceAt_90 : decode b_Locator_differenceAt 90 = .ok (.iload_n 2, 1) := by decide +kernel
theorem d_Locator_differenceAt_91 : decode b_Locator_differenceAt 91 = .ok (.isub, 1) := by decide +kernel
theorem d_Locator_differenceAt_92 : decode b_Locator_differenceAt 92 = .ok (.isub, 1) := by decide +kernel
theorem d_Locator_differenceAt_93 : decode b_Locator_differenceAt 93 = .ok (.imul, 1) := by decide +kernel
theorem d_Locator_differenceAt_94 : decode b_Locator_differenceAt 94 = .ok (.invokevirtual 63, 3) := by decide +kernel
theorem d_Locator_differenceAt_97 : decode b_Locator_differenceAt 97 = .ok (.invokevirtual 57, 3) := by decide +kernel
theorem d_Locator_differenceAt_100 : decode b_Locator_differenceAt 100 = .ok (.ireturn, 1) := by decide +kernel
theorem ok_Locator_differenceAt : OKv y_Locator_differenceAt b_Locator_differenceAt 6 (some .int) "DeepChannel$Locator" 3 := ⟨k_803, k_801, k_802, k_46, by decide +kernel, by decide +kernel, by decide +kernel⟩
abbrev w_Locator_differenceAt (cI cJ : ClassId) (qLc qFd qFd_powers qFd_logs qLc_evaluator qLc_poly : Nat) (Lc_earlier Lc_spare Lc_places Fd_otherForms Fd_elements : Value) (Fd_powers : Nat → Int32) (Fd_logs : Nat → Int32) (Lc_evaluator : Nat → Int32) (Lc_poly : Nat → Int32) : va_W := [(qLc, .inr (3, [.ref qFd, .ref qLc_poly, Lc_earlier, Lc_spare, .ref qLc_evaluator, Lc_places])), (qFd, .inr (2, [.ref qFd_powers, .ref qFd_logs, Fd_otherForms, Fd_elements])), (qFd_powers, .inl (cI, 255, .inl Fd_powers)), (qFd_logs, .inl (cI, 256, .inl Fd_logs)), (qLc_evaluator, .inl (cI, 33, .inl Lc_evaluator)), (qLc_poly, .inl (cI, 33, .inl Lc_poly))]
def f_Locator_differenceAt_51 (Fd_powers : Nat → Int32) (Fd_logs : Nat → Int32) (Lc_evaluator : Nat → Int32) (x1 : Int32) (x2 : Int32) (x3 : Int32) (x4 : Int32) : Option (Int32) :=
  bd (f_Locator_valueAt Fd_powers Fd_logs Lc_evaluator 33 (x3 - (1 : Int32)) (-x1)) fun u2 =>
  nm u2 fun r1 =>
  bd (f_Field_quotient Fd_logs Fd_powers r1 x4) fun u4 =>
  nm u4 fun r3 =>
  bd (f_Field_powerOfG Fd_powers (x1 * ((1 : Int32) - ((128 : Int32) - x2)))) fun u6 =>
  nm u6 fun r5 =>
  bd (f_Field_product Fd_logs Fd_powers r3 r5) fun u8 =>
  nm u8 fun r7 =>
  some r7
def f_Locator_differenceAt_6_b (Fd_powers : Nat → Int32) (Fd_logs : Nat → Int32) (Lc_evaluator : Nat → Int32) (Lc_poly : Nat → Int32) (kh6 : Int32 → Int32 → Int32 → Int32 → Int32 → Option (Int32)) (x1 : Int32) (x2 : Int32) (x3 : Int32) (x4 : Int32) (x5 : Int32) : Option (Int32) :=
  if x3 < x5 then
    f_Locator_differenceAt_51 Fd_powers Fd_logs Lc_evaluator x1 x2 x3 x4
  else
  rdI Lc_poly 33 x5 fun v9 =>
  bd (f_Field_powerOfG Fd_powers ((-x1) * (x5 - (1 : Int32)))) fun u11 =>
  nm u11 fun r10 =>
  bd (f_Field_product Fd_logs Fd_powers v9 r10) fun u13 =>
  nm u13 fun r12 =>
  nm (x4 ^^^ r12) fun v14 =>
  nm (x5 + (2 : Int32)) fun v15 =>
  kh6 x1 x2 x3 v14 v15
def f_Locator_differenceAt_6 (Fd_powers : Nat → Int32) (Fd_logs : Nat → Int32) (Lc_evaluator : Nat → Int32) (Lc_poly : Nat → Int32) : Nat → Int32 → Int32 → Int32 → Int32 → Int32 → Option (Int32)
  | 0 => fun _ _ _ _ _ => none
  | n + 1 => fun x1 x2 x3 x4 x5 => f_Locator_differenceAt_6_b Fd_powers Fd_logs Lc_evaluator Lc_poly (f_Locator_differenceAt_6 Fd_powers Fd_logs Lc_evaluator Lc_poly n) x1 x2 x3 x4 x5
def f_Locator_differenceAt (Fd_powers : Nat → Int32) (Fd_logs : Nat → Int32) (Lc_evaluator : Nat → Int32) (Lc_poly : Nat → Int32) (x1 : Int32) (x2 : Int32) (x3 : Int32) : Option (Int32) :=
  f_Locator_differenceAt_6 Fd_powers Fd_logs Lc_evaluator Lc_poly 10000 x1 x2 x3 (0 : Int32) (1 : Int32)
set_option maxHeartbeats 4000000 in
set_option maxRecDepth 100000 in
theorem c_Locator_differenceAt (l : Launch) (D : va_G) (cI cJ : ClassId) (tt : Nat → Nat) (qLc qFd qFd_powers qFd_logs qLc_evaluator qLc_poly : Nat) (Lc_earlier Lc_spare Lc_places Fd_otherForms Fd_elements : Value) (sz : Nat) (Fd_powers : Nat → Int32) (Fd_logs : Nat → Int32) (Lc_evaluator : Nat → Int32) (Lc_poly : Nat → Int32) (x1 : Int32) (x2 : Int32) (x3 : Int32) (rr : Int32) (hm : f_Locator_differenceAt Fd_powers Fd_logs Lc_evaluator Lc_poly x1 x2 x3 = some rr) : CTi l y_Locator_differenceAt b_Locator_differenceAt 6 (some .int) (RM 2 48) D cI cJ tt [.ref qLc, .int x1, .int x2, .int x3] (w_Locator_differenceAt cI cJ qLc qFd qFd_powers qFd_logs qLc_evaluator qLc_poly Lc_earlier Lc_spare Lc_places Fd_otherForms Fd_elements Fd_powers Fd_logs Lc_evaluator Lc_poly) (w_Locator_differenceAt cI cJ qLc qFd qFd_powers qFd_logs qLc_evaluator qLc_poly Lc_earlier Lc_spare Lc_places Fd_otherForms Fd_elements Fd_powers Fd_logs Lc_evaluator Lc_poly) sz rr := by
  refine Met.ofW (cc := b_Locator_differenceAt) (maxL := 6) (ret := (some .int)) (by decide) rfl ?_
  intro p e s m args below meth c s₁ B hml hv
  obtain ⟨hargs, hsz, hP, hK, hD0, hE⟩ := hv
  have hx := B.exec
  have hb := B.bytes
  have hr := B.returns
  have hts : ∀ w ∈ TB, w.before args s = true := z_mV s (atoms_spec (ws := WD y_Locator_differenceAt b_Locator_differenceAt 6 (some .int)) B.pre)
  have hown : s.vm.findClass "DeepChannel$Locator" = some m.cls := findClass_of_methodNamed B.named
  have hlocks := B.notSynchronized
  subst hsz
  have hD := hD0.self (sz := s.heap.size)
  generalize hAe : va_A (w_Locator_differenceAt cI cJ qLc qFd qFd_powers qFd_logs qLc_evaluator qLc_poly Lc_earlier Lc_spare Lc_places Fd_otherForms Fd_elements Fd_powers Fd_logs Lc_evaluator Lc_poly) s.heap.size = A at hD hE ⊢
  have hA : ∀ q : Nat, s.heap.size ≤ q → A q := fun q h => by rw [← hAe]; exact Or.inr h
  have hS : va_S A s.heap s.heap [] := va_S.rf
  refine z_entry (vs := [.ref qLc, .int x1, .int x2, .int x3]) hargs (Nat.le_of_ble_eq_true rfl) (fun ls hl => ?_)
  have hl : lv_has ls 6 [(0, .ref qLc), (1, .int x1), (2, .int x2), (3, .int x3)] := hl
  show W p l e (RM 2 48) s m args below meth c s.heap [] 0 0 _ _
  refine z_qi (fun Q0 hQ => ?_)
  have F : CallFix p m c b_Locator_differenceAt 6 s args TB "DeepChannel$Locator" := ⟨hx, hb, hml, hown, hts⟩
  have T51 : ∀ (x1 : Int32) (x2 : Int32) (x3 : Int32) (x4 : Int32), f_Locator_differenceAt_51 Fd_powers Fd_logs Lc_evaluator x1 x2 x3 x4 = some rr → ∀ (H : Heap) (locs : List Loc), va_P D classes (w_Locator_differenceAt cI cJ qLc qFd qFd_powers qFd_logs qLc_evaluator qLc_poly Lc_earlier Lc_spare Lc_places Fd_otherForms Fd_elements Fd_powers Fd_logs Lc_evaluator Lc_poly) H → va_D A (w_Locator_differenceAt cI cJ qLc qFd qFd_powers qFd_logs qLc_evaluator qLc_poly Lc_earlier Lc_spare Lc_places Fd_otherForms Fd_elements Fd_powers Fd_logs Lc_evaluator Lc_poly) → va_S A s.heap H locs → ∀ (ls : Array Slot), lv_has ls 6 [(0, .ref qLc), (1, .int x1), (2, .int x2), (3, .int x3), (4, .int x4)] → W p l e (RM 2 48) s m args below meth c H locs 0 0 Q0 (F0 m 51 ls []) := by
    intro x1 x2 x3 x4 hm H locs hP hD hS ls hl
    unfold f_Locator_differenceAt_51 at hm
    refine lv_aload_n hx hb d_Locator_differenceAt_51 rfl (lv_at hl 0 rfl) ?_
    refine va_get (D := D) (ci := 3) (v := .ref qFd) (C := "DeepChannel$Locator") (T := fT_Locator) (N := 6) hx hb hts u_Locator hown hK hP 0 rfl rfl 0 (by decide) (hts _ k_134) (fun _ h9 => h9) rfl d_Locator_differenceAt_52 ?_
    refine lv_aload_n hx hb d_Locator_differenceAt_55 rfl (lv_at hl 0 rfl) ?_
    refine lv_aload_n hx hb d_Locator_differenceAt_56 rfl (lv_at hl 0 rfl) ?_
    refine va_get (D := D) (ci := 3) (v := .ref qLc_evaluator) (C := "DeepChannel$Locator") (T := fT_Locator) (N := 6) hx hb hts u_Locator hown hK hP 0 rfl rfl 4 (by decide) (hts _ k_138) (fun _ h9 => h9) rfl d_Locator_differenceAt_57 ?_
    refine lv_iload_n hx hb d_Locator_differenceAt_60 rfl (lv_at hl 3 rfl) ?_
    refine lv_iconst (v := (1 : Int32)) hx hb d_Locator_differenceAt_61 (by decide) ?_
    refine lv_isub hx hb d_Locator_differenceAt_62 ?_
    refine lv_iload_n hx hb d_Locator_differenceAt_63 rfl (lv_at hl 1 rfl) ?_
    refine lv_ineg hx hb d_Locator_differenceAt_64 ?_
    obtain ⟨r1, hu, hm⟩ := bd_el hm
    replace hm := nm_1 hm
    refine z_cVi (wc := w_Locator_valueAt cI cJ qLc qFd qFd_powers qFd_logs qLc_evaluator (.ref qLc_poly) Lc_earlier Lc_spare (.ref qLc_evaluator) Lc_places Fd_otherForms Fd_elements 33 Fd_powers Fd_logs Lc_evaluator) (wc' := w_Locator_valueAt cI cJ qLc qFd qFd_powers qFd_logs qLc_evaluator (.ref qLc_poly) Lc_earlier Lc_spare (.ref qLc_evaluator) Lc_places Fd_otherForms Fd_elements 33 Fd_powers Fd_logs Lc_evaluator) (wr := [(qLc_poly, .inl (cI, 33, .inl Lc_poly))]) (As := [.ref qLc_evaluator, .int (x3 - (1 : Int32)), .int (-x1)]) (rest := [.ref qFd]) (c_Locator_valueAt l D cI cJ tt qLc qFd qFd_powers qFd_logs qLc_evaluator (.ref qLc_poly) Lc_earlier Lc_spare (.ref qLc_evaluator) Lc_places Fd_otherForms Fd_elements 33 _ Fd_powers Fd_logs Lc_evaluator (x3 - (1 : Int32)) (-x1) r1 hu) F ok_Locator_valueAt rfl k_787 hK hE hP hD hS hA [0, 1, 2, 3, 4] [5] rfl rfl (by decide) (by decide) (by decide) 0 rfl rfl rfl ⟨rfl, rfl, Nat.le_of_ble_eq_true rfl, Nat.le_of_ble_eq_true rfl⟩ ⟨Nat.zero_le _, Nat.zero_le _⟩ rfl hl.1 rfl (Nat.le_of_ble_eq_true rfl) d_Locator_differenceAt_65 (fun H locs hP hD hS => ?_)
    have hP : va_P D classes (w_Locator_differenceAt cI cJ qLc qFd qFd_powers qFd_logs qLc_evaluator qLc_poly Lc_earlier Lc_spare Lc_places Fd_otherForms Fd_elements Fd_powers Fd_logs Lc_evaluator Lc_poly) H := hP.sub [1, 2, 3, 4, 5, 0] rfl
    have hD : va_D A (w_Locator_differenceAt cI cJ qLc qFd qFd_powers qFd_logs qLc_evaluator qLc_poly Lc_earlier Lc_spare Lc_places Fd_otherForms Fd_elements Fd_powers Fd_logs Lc_evaluator Lc_poly) := hD.sub [1, 2, 3, 4, 5, 0] (by decide) rfl
    refine lv_iload hx hb d_Locator_differenceAt_68 (lv_at hl 4 rfl) ?_
    obtain ⟨r3, hu, hm⟩ := bd_el hm
    replace hm := nm_1 hm
    refine z_cVi (wc := w_Field_quotient cI cJ qFd qFd_logs qFd_powers Fd_otherForms Fd_elements Fd_logs Fd_powers) (wc' := w_Field_quotient cI cJ qFd qFd_logs qFd_powers Fd_otherForms Fd_elements Fd_logs Fd_powers) (wr := [(qLc, .inr (3, [.ref qFd, .ref qLc_poly, Lc_earlier, Lc_spare, .ref qLc_evaluator, Lc_places])), (qLc_evaluator, .inl (cI, 33, .inl Lc_evaluator)), (qLc_poly, .inl (cI, 33, .inl Lc_poly))]) (As := [.int r1, .int x4]) (rest := []) (c_Field_quotient l D cI cJ tt qFd qFd_logs qFd_powers Fd_otherForms Fd_elements _ Fd_logs Fd_powers r1 x4 r3 hu) F ok_Field_quotient rfl k_775 hK hE hP hD hS hA [1, 3, 2] [0, 4, 5] rfl rfl (by decide) (by decide) (by decide) 0 rfl rfl rfl ⟨rfl, rfl, Nat.le_of_ble_eq_true rfl, Nat.le_of_ble_eq_true rfl⟩ ⟨Nat.zero_le _, Nat.zero_le _⟩ rfl hl.1 rfl (Nat.le_of_ble_eq_true rfl) d_Locator_differenceAt_70 (fun H locs hP hD hS => ?_)
    have hP : va_P D classes (w_Locator_differenceAt cI cJ qLc qFd qFd_powers qFd_logs qLc_evaluator qLc_poly Lc_earlier Lc_spare Lc_places Fd_otherForms Fd_elements Fd_powers Fd_logs Lc_evaluator Lc_poly) H := hP.sub [0, 3, 5, 4, 1, 2] rfl
    have hD : va_D A (w_Locator_differenceAt cI cJ qLc qFd qFd_powers qFd_logs qLc_evaluator qLc_poly Lc_earlier Lc_spare Lc_places Fd_otherForms Fd_elements Fd_powers Fd_logs Lc_evaluator Lc_poly) := hD.sub [0, 3, 5, 4, 1, 2] (by decide) rfl
    refine lv_istore (lv' := [(5, .int r3), (0, .ref qLc), (1, .int x1), (2, .int x2), (3, .int x3), (4, .int x4)]) hx hb d_Locator_differenceAt_73 hl (by decide) rfl (fun ls hl => ?_)
    refine lv_aload_n hx hb d_Locator_differenceAt_75 rfl (lv_at hl 1 rfl) ?_
    refine va_get (D := D) (ci := 3) (v := .ref qFd) (C := "DeepChannel$Locator") (T := fT_Locator) (N := 6) hx hb hts u_Locator hown hK hP 0 rfl rfl 0 (by decide) (hts _ k_134) (fun _ h9 => h9) rfl d_Locator_differenceAt_76 ?_
    refine lv_iload hx hb d_Locator_differenceAt_79 (lv_at hl 0 rfl) ?_
    refine lv_aload_n hx hb d_Locator_differenceAt_81 rfl (lv_at hl 1 rfl) ?_
    refine va_get (D := D) (ci := 3) (v := .ref qFd) (C := "DeepChannel$Locator") (T := fT_Locator) (N := 6) hx hb hts u_Locator hown hK hP 0 rfl rfl 0 (by decide) (hts _ k_134) (fun _ h9 => h9) rfl d_Locator_differenceAt_82 ?_
    refine lv_iload_n hx hb d_Locator_differenceAt_85 rfl (lv_at hl 2 rfl) ?_
    refine lv_iconst (v := (1 : Int32)) hx hb d_Locator_differenceAt_86 (by decide) ?_
    refine lv_sipush (v := (128 : Int32)) hx hb d_Locator_differenceAt_87 (by decide) ?_
    refine lv_iload_n hx hb d_Locator_differenceAt_90 rfl (lv_at hl 3 rfl) ?_
    refine lv_isub hx hb d_Locator_differenceAt_91 ?_
    refine lv_isub hx hb d_Locator_differenceAt_92 ?_
    refine lv_imul hx hb d_Locator_differenceAt_93 ?_
    obtain ⟨r5, hu, hm⟩ := bd_el hm
    replace hm := nm_1 hm
    refine z_cVi (wc := w_Field_powerOfG cI cJ qFd qFd_powers (.ref qFd_logs) Fd_otherForms Fd_elements Fd_powers) (wc' := w_Field_powerOfG cI cJ qFd qFd_powers (.ref qFd_logs) Fd_otherForms Fd_elements Fd_powers) (wr := [(qLc, .inr (3, [.ref qFd, .ref qLc_poly, Lc_earlier, Lc_spare, .ref qLc_evaluator, Lc_places])), (qFd_logs, .inl (cI, 256, .inl Fd_logs)), (qLc_evaluator, .inl (cI, 33, .inl Lc_evaluator)), (qLc_poly, .inl (cI, 33, .inl Lc_poly))]) (As := [.int (x1 * ((1 : Int32) - ((128 : Int32) - x2)))]) (rest := [.int r3, .ref qFd]) (c_Field_powerOfG l D cI cJ tt qFd qFd_powers (.ref qFd_logs) Fd_otherForms Fd_elements _ Fd_powers (x1 * ((1 : Int32) - ((128 : Int32) - x2))) r5 hu) F ok_Field_powerOfG rfl k_791 hK hE hP hD hS hA [1, 2] [0, 3, 4, 5] rfl rfl (by decide) (by decide) (by decide) 0 rfl rfl rfl ⟨rfl, rfl, Nat.le_of_ble_eq_true rfl, Nat.le_of_ble_eq_true rfl⟩ ⟨Nat.zero_le _, Nat.zero_le _⟩ rfl hl.1 rfl (Nat.le_of_ble_eq_true rfl) d_Locator_differenceAt_94 (fun H locs hP hD hS => ?_)
    have hP : va_P D classes (w_Locator_differenceAt cI cJ qLc qFd qFd_powers qFd_logs qLc_evaluator qLc_poly Lc_earlier Lc_spare Lc_places Fd_otherForms Fd_elements Fd_powers Fd_logs Lc_evaluator Lc_poly) H := hP.sub [0, 4, 5, 1, 2, 3] rfl
    have hD : va_D A (w_Locator_differenceAt cI cJ qLc qFd qFd_powers qFd_logs qLc_evaluator qLc_poly Lc_earlier Lc_spare Lc_places Fd_otherForms Fd_elements Fd_powers Fd_logs Lc_evaluator Lc_poly) := hD.sub [0, 4, 5, 1, 2, 3] (by decide) rfl
    obtain ⟨r7, hu, hm⟩ := bd_el hm
    replace hm := nm_1 hm
    refine z_cVi (wc := w_Field_product cI cJ qFd qFd_logs qFd_powers Fd_otherForms Fd_elements Fd_logs Fd_powers) (wc' := w_Field_product cI cJ qFd qFd_logs qFd_powers Fd_otherForms Fd_elements Fd_logs Fd_powers) (wr := [(qLc, .inr (3, [.ref qFd, .ref qLc_poly, Lc_earlier, Lc_spare, .ref qLc_evaluator, Lc_places])), (qLc_evaluator, .inl (cI, 33, .inl Lc_evaluator)), (qLc_poly, .inl (cI, 33, .inl Lc_poly))]) (As := [.int r3, .int r5]) (rest := []) (c_Field_product l D cI cJ tt qFd qFd_logs qFd_powers Fd_otherForms Fd_elements _ Fd_logs Fd_powers r3 r5 r7 hu) F ok_Field_product rfl k_771 hK hE hP hD hS hA [1, 3, 2] [0, 4, 5] rfl rfl (by decide) (by decide) (by decide) 0 rfl rfl rfl ⟨rfl, rfl, Nat.le_of_ble_eq_true rfl, Nat.le_of_ble_eq_true rfl⟩ ⟨Nat.zero_le _, Nat.zero_le _⟩ rfl hl.1 rfl (Nat.le_of_ble_eq_true rfl) d_Locator_differenceAt_97 (fun H locs hP hD hS => ?_)
    have hP : va_P D classes (w_Locator_differenceAt cI cJ qLc qFd qFd_powers qFd_logs qLc_evaluator qLc_poly Lc_earlier Lc_spare Lc_places Fd_otherForms Fd_elements Fd_powers Fd_logs Lc_evaluator Lc_poly) H := hP.sub [0, 3, 5, 4, 1, 2] rfl
    have hD : va_D A (w_Locator_differenceAt cI cJ qLc qFd qFd_powers qFd_logs qLc_evaluator qLc_poly Lc_earlier Lc_spare Lc_places Fd_otherForms Fd_elements Fd_powers Fd_logs Lc_evaluator Lc_poly) := hD.sub [0, 3, 5, 4, 1, 2] (by decide) rfl
    cases hm
    exact z_qo hQ (z_ireti hr hx hb hlocks hK hP hD hS d_Locator_differenceAt_100)
  have T6 : ∀ (n6 : Nat) (x1 : Int32) (x2 : Int32) (x3 : Int32) (x4 : Int32) (x5 : Int32), f_Locator_differenceAt_6 Fd_powers Fd_logs Lc_evaluator Lc_poly n6 x1 x2 x3 x4 x5 = some rr → ∀ (H : Heap) (locs : List Loc), va_P D classes (w_Locator_differenceAt cI cJ qLc qFd qFd_powers qFd_logs qLc_evaluator qLc_poly Lc_earlier Lc_spare Lc_places Fd_otherForms Fd_elements Fd_powers Fd_logs Lc_evaluator Lc_poly) H → va_D A (w_Locator_differenceAt cI cJ qLc qFd qFd_powers qFd_logs qLc_evaluator qLc_poly Lc_earlier Lc_spare Lc_places Fd_otherForms Fd_elements Fd_powers Fd_logs Lc_evaluator Lc_poly) → va_S A s.heap H locs → ∀ (ls : Array Slot), lv_has ls 6 [(0, .ref qLc), (1, .int x1), (2, .int x2), (3, .int x3), (4, .int x4), (5, .int x5)] → W p l e (RM 2 48) s m args below meth c H locs 0 0 Q0 (F0 m 6 ls []) := by
    intro n6
    induction n6 with
    | zero => intro x1 x2 x3 x4 x5 hm; cases hm
    | succ n6 ih6 =>
      intro x1 x2 x3 x4 x5 hm H locs hP hD hS ls hl
      replace hm : f_Locator_differenceAt_6_b Fd_powers Fd_logs Lc_evaluator Lc_poly (f_Locator_differenceAt_6 Fd_powers Fd_logs Lc_evaluator Lc_poly n6) x1 x2 x3 x4 x5 = some rr := hm
      unfold f_Locator_differenceAt_6_b at hm
      refine lv_iload hx hb d_Locator_differenceAt_6 (lv_at hl 5 rfl) ?_
      refine lv_iload_n hx hb d_Locator_differenceAt_8 rfl (lv_at hl 3 rfl) ?_
      refine z_if hm (lv_icmp_gt (tgt := 51) hx hb d_Locator_differenceAt_9 (by decide)) (fun hm => ?_) (fun hm => ?_)
      · exact T51 x1 x2 x3 x4 hm _ _ hP hD hS _ (lv_sub hl [0, 1, 2, 3, 4] rfl)
      · refine lv_iload hx hb d_Locator_differenceAt_12 (lv_at hl 4 rfl) ?_
        refine lv_aload_n hx hb d_Locator_differenceAt_14 rfl (lv_at hl 0 rfl) ?_
        refine va_get (D := D) (ci := 3) (v := .ref qFd) (C := "DeepChannel$Locator") (T := fT_Locator) (N := 6) hx hb hts u_Locator hown hK hP 0 rfl rfl 0 (by decide) (hts _ k_134) (fun _ h9 => h9) rfl d_Locator_differenceAt_15 ?_
        refine lv_aload_n hx hb d_Locator_differenceAt_18 rfl (lv_at hl 0 rfl) ?_
        refine va_get (D := D) (ci := 3) (v := .ref qLc_poly) (C := "DeepChannel$Locator") (T := fT_Locator) (N := 6) hx hb hts u_Locator hown hK hP 0 rfl rfl 1 (by decide) (hts _ k_135) (fun _ h9 => h9) rfl d_Locator_differenceAt_19 ?_
        refine lv_iload hx hb d_Locator_differenceAt_22 (lv_at hl 5 rfl) ?_
        refine z_iald hm hx hb hK hP 5 rfl d_Locator_differenceAt_24 (fun v9 hm => ?_)
        refine lv_aload_n hx hb d_Locator_differenceAt_25 rfl (lv_at hl 0 rfl) ?_
        refine va_get (D := D) (ci := 3) (v := .ref qFd) (C := "DeepChannel$Locator") (T := fT_Locator) (N := 6) hx hb hts u_Locator hown hK hP 0 rfl rfl 0 (by decide) (hts _ k_134) (fun _ h9 => h9) rfl d_Locator_differenceAt_26 ?_
        refine lv_iload_n hx hb d_Locator_differenceAt_29 rfl (lv_at hl 1 rfl) ?_
        refine lv_ineg hx hb d_Locator_differenceAt_30 ?_
        refine lv_iload hx hb d_Locator_differenceAt_31 (lv_at hl 5 rfl) ?_
        refine lv_iconst (v := (1 : Int32)) hx hb d_Locator_differenceAt_33 (by decide) ?_
        refine lv_isub hx hb d_Locator_differenceAt_34 ?_
        refine lv_imul hx hb d_Locator_differenceAt_35 ?_
        obtain ⟨r10, hu, hm⟩ := bd_el hm
        replace hm := nm_1 hm
        refine z_cVi (wc := w_Field_powerOfG cI cJ qFd qFd_powers (.ref qFd_logs) Fd_otherForms Fd_elements Fd_powers) (wc' := w_Field_powerOfG cI cJ qFd qFd_powers (.ref qFd_logs) Fd_otherForms Fd_elements Fd_powers) (wr := [(qLc, .inr (3, [.ref qFd, .ref qLc_poly, Lc_earlier, Lc_spare, .ref qLc_evaluator, Lc_places])), (qFd_logs, .inl (cI, 256, .inl Fd_logs)), (qLc_evaluator, .inl (cI, 33, .inl Lc_evaluator)), (qLc_poly, .inl (cI, 33, .inl Lc_poly))]) (As := [.int ((-x1) * (x5 - (1 : Int32)))]) (rest := [.int v9, .ref qFd, .int x4]) (c_Field_powerOfG l D cI cJ tt qFd qFd_powers (.ref qFd_logs) Fd_otherForms Fd_elements _ Fd_powers ((-x1) * (x5 - (1 : Int32))) r10 hu) F ok_Field_powerOfG rfl k_791 hK hE hP hD hS hA [1, 2] [0, 3, 4, 5] rfl rfl (by decide) (by decide) (by decide) 0 rfl rfl rfl ⟨rfl, rfl, Nat.le_of_ble_eq_true rfl, Nat.le_of_ble_eq_true rfl⟩ ⟨Nat.zero_le _, Nat.zero_le _⟩ rfl hl.1 rfl (Nat.le_of_ble_eq_true rfl) d_Locator_differenceAt_36 (fun H locs hP hD hS => ?_)
        have hP : va_P D classes (w_Locator_differenceAt cI cJ qLc qFd qFd_powers qFd_logs qLc_evaluator qLc_poly Lc_earlier Lc_spare Lc_places Fd_otherForms Fd_elements Fd_powers Fd_logs Lc_evaluator Lc_poly) H := hP.sub [0, 4, 5, 1, 2, 3] rfl
        have hD : va_D A (w_Locator_differenceAt cI cJ qLc qFd qFd_powers qFd_logs qLc_evaluator qLc_poly Lc_earlier Lc_spare Lc_places Fd_otherForms Fd_elements Fd_powers Fd_logs Lc_evaluator Lc_poly) := hD.sub [0, 4, 5, 1, 2, 3] (by decide) rfl
        obtain ⟨r12, hu, hm⟩ := bd_el hm
        replace hm := nm_1 hm
        refine z_cVi (wc := w_Field_product cI cJ qFd qFd_logs qFd_powers Fd_otherForms Fd_elements Fd_logs Fd_powers) (wc' := w_Field_product cI cJ qFd qFd_logs qFd_powers Fd_otherForms Fd_elements Fd_logs Fd_powers) (wr := [(qLc, .inr (3, [.ref qFd, .ref qLc_poly, Lc_earlier, Lc_spare, .ref qLc_evaluator, Lc_places])), (qLc_evaluator, .inl (cI, 33, .inl Lc_evaluator)), (qLc_poly, .inl (cI, 33, .inl Lc_poly))]) (As := [.int v9, .int r10]) (rest := [.int x4]) (c_Field_product l D cI cJ tt qFd qFd_logs qFd_powers Fd_otherForms Fd_elements _ Fd_logs Fd_powers v9 r10 r12 hu) F ok_Field_product rfl k_771 hK hE hP hD hS hA [1, 3, 2] [0, 4, 5] rfl rfl (by decide) (by decide) (by decide) 0 rfl rfl rfl ⟨rfl, rfl, Nat.le_of_ble_eq_true rfl, Nat.le_of_ble_eq_true rfl⟩ ⟨Nat.zero_le _, Nat.zero_le _⟩ rfl hl.1 rfl (Nat.le_of_ble_eq_true rfl) d_Locator_differenceAt_39 (fun H locs hP hD hS => ?_)
        have hP : va_P D classes (w_Locator_differenceAt cI cJ qLc qFd qFd_powers qFd_logs qLc_evaluator qLc_poly Lc_earlier Lc_spare Lc_places Fd_otherForms Fd_elements Fd_powers Fd_logs Lc_evaluator Lc_poly) H := hP.sub [0, 3, 5, 4, 1, 2] rfl
        have hD : va_D A (w_Locator_differenceAt cI cJ qLc qFd qFd_powers qFd_logs qLc_evaluator qLc_poly Lc_earlier Lc_spare Lc_places Fd_otherForms Fd_elements Fd_powers Fd_logs Lc_evaluator Lc_poly) := hD.sub [0, 3, 5, 4, 1, 2] (by decide) rfl
        refine lv_ixor hx hb d_Locator_differenceAt_42 ?_
        refine z_nmi hm (fun v14 hm => ?_)
        refine lv_istore (lv' := [(4, .int v14), (0, .ref qLc), (1, .int x1), (2, .int x2), (3, .int x3), (5, .int x5)]) hx hb d_Locator_differenceAt_43 hl (by decide) rfl (fun ls hl => ?_)
        obtain ⟨v15, ev, hm⟩ := nm_el hm
        refine lv_iinc (v := v15) (lv' := [(5, .int v15), (4, .int v14), (0, .ref qLc), (1, .int x1), (2, .int x2), (3, .int x3)]) hx hb d_Locator_differenceAt_45 hl (k := 5) rfl (by rw [ev]; rfl) (by decide) rfl (fun ls hl => ?_)
        refine lv_goto (tgt := 6) hx hb d_Locator_differenceAt_48 (by decide) ?_
        exact ih6 x1 x2 x3 v14 v15 hm _ _ hP hD hS _ (lv_sub hl [2, 3, 4, 5, 1, 0] rfl)
  unfold f_Locator_differenceAt at hm
  refine lv_iconst (v := (0 : Int32)) hx hb d_Locator_differenceAt_0 (by decide) ?_
  refine lv_istore (lv' := [(4, .int (0 : Int32)), (0, .ref qLc), (1, .int x1), (2, .int x2), (3, .int x3)]) hx hb d_Locator_differenceAt_1 hl (by decide) rfl (fun ls hl => ?_)
  refine lv_iconst (v := (1 : Int32)) hx hb d_Locator_differenceAt_3 (by decide) ?_
  refine lv_istore (lv' := [(5, .int (1 : Int32)), (4, .int (0 : Int32)), (0, .ref qLc), (1, .int x1), (2, .int x2), (3, .int x3)]) hx hb d_Locator_differenceAt_4 hl (by decide) rfl (fun ls hl => ?_)
  exact T6 10000 x1 x2 x3 (0 : Int32) (1 : Int32) hm _ _ hP hD hS _ (lv_sub hl [2, 3, 4, 5, 1, 0] rfl)
