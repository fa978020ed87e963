-- DeepChannel$Nearest.measure(LDeepChannel$BitRow;II)V
abbrev b_Nearest_measure : ByteArray := prog_7_method_3_code
abbrev y_Nearest_measure : MethodName := ⟨"DeepChannel$Nearest", "measure", "(LDeepChannel$BitRow;II)V"⟩
theorem d_Nearest_measure_0 : decode b_Nearest_measure 0 = .ok (.aload_n 1, 1) := by decide +kernel
theorem d_Nearest_measure_1 : decode b_Nearest_measure 1 = .ok (.iload_n 2, 1) := by decide +kernel
theorem d_Nearest_measure_2 : decode b_Nearest_measure 2 = .ok (.invokevirtual 67, 3) := by decide +kernel
theorem d_Nearest_measure_5 : decode b_Nearest_measure 5 = .ok (.istore 4, 2) := by decide +kernel
theorem d_Nearest_measure_7 : decode b_Nearest_measure 7 = .ok (.aload_n 1, 1) := by decide +kernel
theorem d_Nearest_measure_8 : decode b_Nearest_measure 8 = .ok (.iload_n 2, 1) := by decide +kernel
theorem d_Nearest_measure_9 : decode b_Nearest_measure 9 = .ok (.iload_n 3, 1) := by decide +kernel
theorem d_Nearest_measure_10 : decode b_Nearest_measure 10 = .ok (.iconst 1, 1) := by decide +kernel
theorem d_Nearest_measure_11 : decode b_Nearest_measure 11 = .ok (.iand, 1) := by decide +kernel
theorem d_Nearest_measure_12 : decode b_Nearest_measure 12 = .ok (.iadd, 1) := by decide +kernel
theorem d_Nearest_measure_13 : decode b_Nearest_measure 13 = .ok (.invokevirtual 67, 3) := by decide +kernel
theorem d_Nearest_measure_16 : decode b_Nearest_measure 16 = .ok (.istore 5, 2) := by decide +kernel
theorem d_Nearest_measure_18 : decode b_Nearest_measure 18 = .ok (.iconst 0, 1) := by decide +kernel
theorem d_Nearest_measure_19 : decode b_Nearest_measure 19 = .ok (.istore 6, 2) := by decide +kernel
theorem d_Nearest_measure_21 : decode b_Nearest_measure 21 = .ok (.iload 6, 2) := by decide +kernel
theorem d_Nearest_measure_23 : decode b_Nearest_measure 23 = .ok (.iconst 4, 1) := by decide +kernel
theorem d_Nearest_measure_24 : decode b_Nearest_measure 24 = .ok (.if_icmp .ge 31, 3) := by decide +kernel
theorem d_Nearest_measure_27 : decode b_Nearest_measure 27 = .ok (.aload_n 0, 1) := by decide +kernel
theorem d_Nearest_measure_28 : decode b_Nearest_measure 28 = .ok (.getfield 15, 3) := by decide +kernel
theorem d_Nearest_measure_31 : decode b_Nearest_measure 31 = .ok (.iload 6, 2) := by decide +kernel
theorem d_Nearest_measure_33 : decode b_Nearest_measure 33 = .ok (.iload 6, 2) := by decide +kernel
theorem d_Nearest_measure_35 : decode b_Nearest_measure 35 = .ok (.iload 4, 2) := by decide +kernel
theorem d_Nearest_measure_37 : decode b_Nearest_measure 37 = .ok (.iload 5, 2) := by decide +kernel
theorem d_Nearest_measure_39 : decode b_Nearest_measure 39 = .ok (.iconst 1, 1) := by decide +kernel
theorem d_Nearest_measure_40 : decode b_Nearest_measure 40 = .ok (.ishl, 1) := by decide +kernel
theorem d_Nearest_measure_41 : decode b_Nearest_measure 41 = .ok (.ior, 1) := by decide +kernel
theorem d_Nearest_measure_42 : decode b_Nearest_measure 42 = .ok (.ixor, 1) := by decide +kernel
theorem d_Nearest_measure_43 : decode b_Nearest_measure 43 = .ok (.iload_n 3, 1) := by decide +kernel
theorem d_Nearest_measure_44 : decode b_Nearest_measure 44 = .ok (.iand, 1) := by decide +kernel
theorem d_Nearest_measure_45 : decode b_Nearest_measure 45 = .ok (.invokestatic 50, 3) := by decide +kernel
theorem d_Nearest_measure_48 : decode b_Nearest_measure 48 = .ok (.iastore, 1) := by decide +kernel
theorem d_Nearest_measure_49 : decode b_Nearest_measure 49 = .ok (.iinc 6 1, 3) := by decide +kernel
theorem d_Nearest_measure_52 : decode b_Nearest_measure 52 = .ok (.goto (-31), 3) := by decide +kernel
theorem d_Nearest_measure_55 : decode b_Nearest_measure 55 = .ok (.return_, 1) := by decide +kernel
theorem ok_Nearest_measure : OKv y_Nearest_measure b_Nearest_measure 7 none "DeepChannel$Nearest" 3 := ⟨k_703, k_702, k_4, k_54, by decide +kernel, by decide +kernel, by decide +kernel⟩
abbrev w_Nearest_measure (cI cJ : ClassId) (qRw qRw_cells qNr qNr_distances : Nat) (Rw_length Nr_pairs Nr_evenRow Nr_oddRow Nr_oneIsBetter : Value) (Rw_cells : Nat → Int64) (Nr_distances : Nat → Int32) : va_W := [(qRw, .inr (0, [.ref qRw_cells, Rw_length])), (qRw_cells, .inl (cJ, 64, .inr (.inl Rw_cells))), (qNr, .inr (5, [Nr_pairs, .ref qNr_distances, Nr_evenRow, Nr_oddRow, Nr_oneIsBetter])), (qNr_distances, .inl (cI, 4, .inl Nr_distances))]
def f_Nearest_measure_21_b  (kh21 : Int32 → Int32 → Int32 → Int32 → (Nat → Int32) → Option ((Nat → Int32))) (x3 : Int32) (x4 : Int32) (x5 : Int32) (x6 : Int32) (Nr_distances : Nat → Int32) : Option ((Nat → Int32)) :=
  if (4 : Int32) ≤ x6 then
    some Nr_distances
  else
  bd (f_Integer_bitCount ((x6 ^^^ (x4 ||| (x5 <<< ((1 : Int32) &&& 31)))) &&& x3)) fun u2 =>
  nm u2 fun r1 =>
  wrI Nr_distances 4 x6 r1 fun g3 =>
  nm (x6 + (1 : Int32)) fun v4 =>
  kh21 x3 x4 x5 v4 g3
def f_Nearest_measure_21  : Nat → Int32 → Int32 → Int32 → Int32 → (Nat → Int32) → Option ((Nat → Int32))
  | 0 => fun _ _ _ _ _ => none
  | n + 1 => fun x3 x4 x5 x6 Nr_distances => f_Nearest_measure_21_b (f_Nearest_measure_21 n) x3 x4 x5 x6 Nr_distances
def f_Nearest_measure (Rw_cells : Nat → Int64) (Nr_distances : Nat → Int32) (x2 : Int32) (x3 : Int32) : Option ((Nat → Int32)) :=
  bd (f_BitRow_bitAt Rw_cells x2) fun u6 =>
  nm u6 fun r5 =>
  bd (f_BitRow_bitAt Rw_cells (x2 + (x3 &&& (1 : Int32)))) fun u8 =>
  nm u8 fun r7 =>
  f_Nearest_measure_21 10000 x3 r5 r7 (0 : Int32) Nr_distances
set_option maxHeartbeats 4000000 in
set_option maxRecDepth 100000 in
theorem c_Nearest_measure (l : Launch) (D : va_G) (cI cJ : ClassId) (tt : Nat → Nat) (qRw qRw_cells qNr qNr_distances : Nat) (Rw_length Nr_pairs Nr_evenRow Nr_oddRow Nr_oneIsBetter : Value) (sz : Nat) (Rw_cells : Nat → Int64) (Nr_distances : Nat → Int32) (x2 : Int32) (x3 : Int32) (Nr_distances' : Nat → Int32) (hm : f_Nearest_measure Rw_cells Nr_distances x2 x3 = some Nr_distances') : CTv l y_Nearest_measure b_Nearest_measure 7 none (RM 2 42) D cI cJ tt [.ref qNr, .ref qRw, .int x2, .int x3] (w_Nearest_measure cI cJ qRw qRw_cells qNr qNr_distances Rw_length Nr_pairs Nr_evenRow Nr_oddRow Nr_oneIsBetter Rw_cells Nr_distances) (w_Nearest_measure cI cJ qRw qRw_cells qNr qNr_distances Rw_length Nr_pairs Nr_evenRow Nr_oddRow Nr_oneIsBetter Rw_cells Nr_distances') sz := by
  refine Met.ofW (cc := b_Nearest_measure) (maxL := 7) (ret := none) (by decide) rfl ?_
  intro p e s m args below meth c s₁ B hml hv
  obtain ⟨hargs, hsz, hP, hK, hD0, hE⟩ := hv
  have hx := B.exec
  have hb := B.bytes
  have hr := B.returns
  have hts : ∀ w ∈ TB, w.before args s = true := z_mV s (atoms_spec (ws := WD y_Nearest_measure b_Nearest_measure 7 none) B.pre)
  have hown : s.vm.findClass "DeepChannel$Nearest" = some m.cls := findClass_of_methodNamed B.named
  have hlocks := B.notSynchronized
  subst hsz
  have hD := hD0.self (sz := s.heap.size)
  generalize hAe : va_A (w_Nearest_measure cI cJ qRw qRw_cells qNr qNr_distances Rw_length Nr_pairs Nr_evenRow Nr_oddRow Nr_oneIsBetter Rw_cells Nr_distances) s.heap.size = A at hD hE ⊢
  have hA : ∀ q : Nat, s.heap.size ≤ q → A q := fun q h => by rw [← hAe]; exact Or.inr h
  have hS : va_S A s.heap s.heap [] := va_S.rf
  refine z_entry (vs := [.ref qNr, .ref qRw, .int x2, .int x3]) hargs (Nat.le_of_ble_eq_true rfl) (fun ls hl => ?_)
  have hl : lv_has ls 7 [(0, .ref qNr), (1, .ref qRw), (2, .int x2), (3, .int x3)] := hl
  show W p l e (RM 2 42) s m args below meth c s.heap [] 0 0 _ _
  refine z_qi (fun Q0 hQ => ?_)
  have F : CallFix p m c b_Nearest_measure 7 s args TB "DeepChannel$Nearest" := ⟨hx, hb, hml, hown, hts⟩
  have T21 : ∀ (n21 : Nat) (x3 : Int32) (x4 : Int32) (x5 : Int32) (x6 : Int32) (Nr_distances : Nat → Int32), f_Nearest_measure_21 n21 x3 x4 x5 x6 Nr_distances = some Nr_distances' → ∀ (H : Heap) (locs : List Loc), va_P D classes (w_Nearest_measure cI cJ qRw qRw_cells qNr qNr_distances Rw_length Nr_pairs Nr_evenRow Nr_oddRow Nr_oneIsBetter Rw_cells Nr_distances) H → va_D A (w_Nearest_measure cI cJ qRw qRw_cells qNr qNr_distances Rw_length Nr_pairs Nr_evenRow Nr_oddRow Nr_oneIsBetter Rw_cells Nr_distances) → va_S A s.heap H locs → ∀ (ls : Array Slot), lv_has ls 7 [(0, .ref qNr), (3, .int x3), (4, .int x4), (5, .int x5), (6, .int x6)] → W p l e (RM 2 42) s m args below meth c H locs 0 0 Q0 (F0 m 21 ls []) := by
    intro n21
    induction n21 with
    | zero => intro x3 x4 x5 x6 Nr_distances hm; cases hm
    | succ n21 ih21 =>
      intro x3 x4 x5 x6 Nr_distances hm H locs hP hD hS ls hl
      replace hm : f_Nearest_measure_21_b (f_Nearest_measure_21 n21) x3 x4 x5 x6 Nr_distances = some Nr_distances' := hm
      unfold f_Nearest_measure_21_b at hm
      refine lv_iload hx hb d_Nearest_measure_21 (lv_at hl 4 rfl) ?_
      refine lv_iconst (v := (4 : Int32)) hx hb d_Nearest_measure_23 (by decide) ?_
      refine z_if hm (lv_icmp_ge (tgt := 55) hx hb d_Nearest_measure_24 (by decide)) (fun hm => ?_) (fun hm => ?_)
      · cases hm
        exact z_qo hQ (z_vret hr hx hb hlocks hK hP hD hS d_Nearest_measure_55)
      · refine lv_aload_n hx hb d_Nearest_measure_27 rfl (lv_at hl 0 rfl) ?_
        refine va_get (D := D) (ci := 5) (v := .ref qNr_distances) (C := "DeepChannel$Nearest") (T := fT_Nearest) (N := 5) hx hb hts u_Nearest hown hK hP 2 rfl rfl 1 (by decide) (hts _ k_287) (fun _ h9 => h9) rfl d_Nearest_measure_28 ?_
        refine lv_iload hx hb d_Nearest_measure_31 (lv_at hl 4 rfl) ?_
        refine lv_iload hx hb d_Nearest_measure_33 (lv_at hl 4 rfl) ?_
        refine lv_iload hx hb d_Nearest_measure_35 (lv_at hl 2 rfl) ?_
        refine lv_iload hx hb d_Nearest_measure_37 (lv_at hl 3 rfl) ?_
        refine lv_iconst (v := (1 : Int32)) hx hb d_Nearest_measure_39 (by decide) ?_
        refine lv_ishl hx hb d_Nearest_measure_40 ?_
        refine lv_ior hx hb d_Nearest_measure_41 ?_
        refine lv_ixor hx hb d_Nearest_measure_42 ?_
        refine lv_iload_n hx hb d_Nearest_measure_43 rfl (lv_at hl 1 rfl) ?_
        refine lv_iand hx hb d_Nearest_measure_44 ?_
        obtain ⟨r1, hu, hm⟩ := bd_el hm
        replace hm := nm_1 hm
        refine z_cSi (wc := w_Integer_bitCount) (wc' := w_Integer_bitCount) (wr := [(qRw, .inr (0, [.ref qRw_cells, Rw_length])), (qRw_cells, .inl (cJ, 64, .inr (.inl Rw_cells))), (qNr, .inr (5, [Nr_pairs, .ref qNr_distances, Nr_evenRow, Nr_oddRow, Nr_oneIsBetter])), (qNr_distances, .inl (cI, 4, .inl Nr_distances))]) (As := [.int ((x6 ^^^ (x4 ||| (x5 <<< ((1 : Int32) &&& 31)))) &&& x3)]) (rest := [.int x6, .ref qNr_distances]) (c_Integer_bitCount l D cI cJ tt _ ((x6 ^^^ (x4 ||| (x5 <<< ((1 : Int32) &&& 31)))) &&& x3) r1 hu) F ok_Integer_bitCount k_699 hK hE hP hD hS hA [] [0, 1, 2, 3] rfl rfl (by decide) (by decide) (by decide) ⟨rfl, rfl, Nat.le_of_ble_eq_true rfl, Nat.le_of_ble_eq_true rfl⟩ ⟨Nat.zero_le _, Nat.zero_le _⟩ rfl hl.1 rfl (Nat.le_of_ble_eq_true rfl) d_Nearest_measure_45 (fun H locs hP hD hS => ?_)
        have hP : va_P D classes (w_Nearest_measure cI cJ qRw qRw_cells qNr qNr_distances Rw_length Nr_pairs Nr_evenRow Nr_oddRow Nr_oneIsBetter Rw_cells Nr_distances) H := hP.sub [0, 1, 2, 3] rfl
        have hD : va_D A (w_Nearest_measure cI cJ qRw qRw_cells qNr qNr_distances Rw_length Nr_pairs Nr_evenRow Nr_oddRow Nr_oneIsBetter Rw_cells Nr_distances) := hD.sub [0, 1, 2, 3] (by decide) rfl
        refine z_iast hm hx hb hK hP hD hS 3 rfl d_Nearest_measure_48 (fun g3 hm H locs hP hD hS => ?_)
        have hP : va_P D classes (w_Nearest_measure cI cJ qRw qRw_cells qNr qNr_distances Rw_length Nr_pairs Nr_evenRow Nr_oddRow Nr_oneIsBetter Rw_cells g3) H := hP
        have hD : va_D A (w_Nearest_measure cI cJ qRw qRw_cells qNr qNr_distances Rw_length Nr_pairs Nr_evenRow Nr_oddRow Nr_oneIsBetter Rw_cells g3) := hD
        obtain ⟨v4, ev, hm⟩ := nm_el hm
        refine lv_iinc (v := v4) (lv' := [(6, .int v4), (0, .ref qNr), (3, .int x3), (4, .int x4), (5, .int x5)]) hx hb d_Nearest_measure_49 hl (k := 4) rfl (by rw [ev]; rfl) (by decide) rfl (fun ls hl => ?_)
        refine lv_goto (tgt := 21) hx hb d_Nearest_measure_52 (by decide) ?_
        exact ih21 x3 x4 x5 v4 g3 hm _ _ hP hD hS _ (lv_sub hl [1, 2, 3, 4, 0] rfl)
  unfold f_Nearest_measure at hm
  refine lv_aload_n hx hb d_Nearest_measure_0 rfl (lv_at hl 1 rfl) ?_
  refine lv_iload_n hx hb d_Nearest_measure_1 rfl (lv_at hl 2 rfl) ?_
  obtain ⟨r5, hu, hm⟩ := bd_el hm
  replace hm := nm_1 hm
  refine z_cVi (wc := w_BitRow_bitAt cI cJ qRw qRw_cells Rw_length Rw_cells) (wc' := w_BitRow_bitAt cI cJ qRw qRw_cells Rw_length Rw_cells) (wr := [(qNr, .inr (5, [Nr_pairs, .ref qNr_distances, Nr_evenRow, Nr_oddRow, Nr_oneIsBetter])), (qNr_distances, .inl (cI, 4, .inl Nr_distances))]) (As := [.int x2]) (rest := []) (c_BitRow_bitAt l D cI cJ tt qRw qRw_cells Rw_length _ Rw_cells x2 r5 hu) F ok_BitRow_bitAt rfl k_704 hK hE hP hD hS hA [0, 1] [2, 3] rfl rfl (by decide) (by decide) (by decide) 0 rfl rfl rfl ⟨rfl, rfl, Nat.le_of_ble_eq_true rfl, Nat.le_of_ble_eq_true rfl⟩ ⟨Nat.zero_le _, Nat.zero_le _⟩ rfl hl.1 rfl (Nat.le_of_ble_eq_true rfl) d_Nearest_measure_2 (fun H locs hP hD hS => ?_)
  have hP : va_P D classes (w_Nearest_measure cI cJ qRw qRw_cells qNr qNr_distances Rw_length Nr_pairs Nr_evenRow Nr_oddRow Nr_oneIsBetter Rw_cells Nr_distances) H := hP.sub [2, 3, 0, 1] rfl
  have hD : va_D A (w_Nearest_measure cI cJ qRw qRw_cells qNr qNr_distances Rw_length Nr_pairs Nr_evenRow Nr_oddRow Nr_oneIsBetter Rw_cells Nr_distances) := hD.sub [2, 3, 0, 1] (by decide) rfl
  refine lv_istore (lv' := [(4, .int r5), (0, .ref qNr), (1, .ref qRw), (2, .int x2), (3, .int x3)]) hx hb d_Nearest_measure_5 hl (by decide) rfl (fun ls hl => ?_)
  refine lv_aload_n hx hb d_Nearest_measure_7 rfl (lv_at hl 2 rfl) ?_
  refine lv_iload_n hx hb d_Nearest_measure_8 rfl (lv_at hl 3 rfl) ?_
  refine lv_iload_n hx hb d_Nearest_measure_9 rfl (lv_at hl 4 rfl) ?_
  refine lv_iconst (v := (1 : Int32)) hx hb d_Nearest_measure_10 (by decide) ?_
  refine lv_iand hx hb d_Nearest_measure_11 ?_
  refine lv_iadd hx hb d_Nearest_measure_12 ?_
  obtain ⟨r7, hu, hm⟩ := bd_el hm
  replace hm := nm_1 hm
  refine z_cVi (wc := w_BitRow_bitAt cI cJ qRw qRw_cells Rw_length Rw_cells) (wc' := w_BitRow_bitAt cI cJ qRw qRw_cells Rw_length Rw_cells) (wr := [(qNr, .inr (5, [Nr_pairs, .ref qNr_distances, Nr_evenRow, Nr_oddRow, Nr_oneIsBetter])), (qNr_distances, .inl (cI, 4, .inl Nr_distances))]) (As := [.int (x2 + (x3 &&& (1 : Int32)))]) (rest := []) (c_BitRow_bitAt l D cI cJ tt qRw qRw_cells Rw_length _ Rw_cells (x2 + (x3 &&& (1 : Int32))) r7 hu) F ok_BitRow_bitAt rfl k_704 hK hE hP hD hS hA [0, 1] [2, 3] rfl rfl (by decide) (by decide) (by decide) 0 rfl rfl rfl ⟨rfl, rfl, Nat.le_of_ble_eq_true rfl, Nat.le_of_ble_eq_true rfl⟩ ⟨Nat.zero_le _, Nat.zero_le _⟩ rfl hl.1 rfl (Nat.le_of_ble_eq_true rfl) d_Nearest_measure_13 (fun H locs hP hD hS => ?_)
  have hP : va_P D classes (w_Nearest_measure cI cJ qRw qRw_cells qNr qNr_distances Rw_length Nr_pairs Nr_evenRow Nr_oddRow Nr_oneIsBetter Rw_cells Nr_distances) H := hP.sub [2, 3, 0, 1] rfl
  have hD : va_D A (w_Nearest_measure cI cJ qRw qRw_cells qNr qNr_distances Rw_length Nr_pairs Nr_evenRow Nr_oddRow Nr_oneIsBetter Rw_cells Nr_distances) := hD.sub [2, 3, 0, 1] (by decide) rfl
  refine lv_istore (lv' := [(5, .int r7), (4, .int r5), (0, .ref qNr), (1, .ref qRw), (2, .int x2), (3, .int x3)]) hx hb d_Nearest_measure_16 hl (by decide) rfl (fun ls hl => ?_)
  refine lv_iconst (v := (0 : Int32)) hx hb d_Nearest_measure_18 (by decide) ?_
  refine lv_istore (lv' := [(6, .int (0 : Int32)), (5, .int r7), (4, .int r5), (0, .ref qNr), (1, .ref qRw), (2, .int x2), (3, .int x3)]) hx hb d_Nearest_measure_19 hl (by decide) rfl (fun ls hl => ?_)
  exact T21 10000 x3 r5 r7 (0 : Int32) Nr_distances hm _ _ hP hD hS _ (lv_sub hl [3, 6, 2, 1, 0] rfl)
-- DeepChannel$Nearest.stepBack([I[I)J
abbrev b_Nearest_stepBack : ByteArray := prog_7_method_4_code
abbrev y_Nearest_stepBack : MethodName := ⟨"DeepChannel$Nearest", "stepBack", "([I[I)J"⟩
theorem d_Nearest_stepBack_0 : decode b_Nearest_stepBack 0 = .ok (.lconst 0, 1) := by decide +kernel
theorem d_Nearest_stepBack_1 : decode b_Nearest_stepBack 1 = .ok (.lstore_n 3, 1) := by decide +kernel
theorem d_Nearest_stepBack_2 : decode b_Nearest_stepBack 2 = .ok (.iconst 0, 1) := by decide +kernel
theorem d_Nearest_stepBack_3 : decode b_Nearest_stepBack 3 = .ok (.istore 5, 2) := by decide +kernel
theorem d_Nearest_stepBack_5 : decode b_Nearest_stepBack 5 = .ok (.iload 5, 2) := by decide +kernel
theorem d_Nearest_stepBack_7 : decode b_Nearest_stepBack 7 = .ok (.bipush 32, 2) := by decide +kernel
theorem d_Nearest_stepBack_9 : decode b_Nearest_stepBack 9 = .ok (.if_icmp .ge 144, 3) := by decide +kernel
theorem d_Nearest_stepBack_12 : decode b_Nearest_stepBack 12 = .ok (.aload_n 0, 1) := by decide +kernel
theorem d_Nearest_stepBack_13 : decode b_Nearest_stepBack 13 = .ok (.getfield 15, 3) := by decide +kernel
theorem d_Nearest_stepBack_16 : decode b_Nearest_stepBack 16 = .ok (.aload_n 0, 1) := by decide +kernel
theorem d_Nearest_stepBack_17 : decode b_Nearest_stepBack 17 = .ok (.getfield 11, 3) := by decide +kernel
theorem d_Nearest_stepBack_20 : decode b_Nearest_stepBack 20 = .ok (.iconst 2, 1) := by decide +kernel
theorem d_Nearest_stepBack_21 : decode b_Nearest_stepBack 21 = .ok (.iload 5, 2) := by decide +kernel
theorem d_Nearest_stepBack_23 : decode b_Nearest_stepBack 23 = .ok (.imul, 1) := by decide +kernel
theorem d_Nearest_stepBack_24 : decode b_Nearest_stepBack 24 = .ok (.iaload, 1) := by decide +kernel
theorem d_Nearest_stepBack_25 : decode b_Nearest_stepBack 25 = .ok (.iaload, 1) := by decide +kernel
theorem d_Nearest_stepBack_26 : decode b_Nearest_stepBack 26 = .ok (.istore 6, 2) := by decide +kernel
theorem d_Nearest_stepBack_28 : decode b_Nearest_stepBack 28 = .ok (.aload_n 0, 1) := by decide +kernel
theorem d_Nearest_stepBack_29 : decode b_Nearest_stepBack 29 = .ok (.getfield 15, 3) := by decide +kernel
theorem d_Nearest_stepBack_32 : decode b_Nearest_stepBack 32 = .ok (.aload_n 0, 1) := by decide +kernel
theorem d_Nearest_stepBack_33 : decode b_Nearest_stepBack 33 = .ok (.getfield 11, 3) := by decide +kernel
theorem d_Nearest_stepBack_36 : decode b_Nearest_stepBack 36 = .ok (.iconst 2, 1) := by decide +kernel
theorem d_Nearest_stepBack_37 : decode b_Nearest_stepBack 37 = .ok (.iload 5, 2) := by decide +kernel
theorem d_Nearest_stepBack_39 : decode b_Nearest_stepBack 39 = .ok (.imul, 1) := by decide +kernel
theorem d_Nearest_stepBack_40 : decode b_Nearest_stepBack 40 = .ok (.iaload, 1) := by decide +kernel
theorem d_Nearest_stepBack_41 : decode b_Nearest_stepBack 41 = .ok (.iconst 3, 1) := by decide +kernel
theorem d_Nearest_stepBack_42 : decode b_Nearest_stepBack 42 = .ok (.ixor, 1) := by decide +kernel
theorem d_Nearest_stepBack_43 : decode b_Nearest_stepBack 43 = .ok (.iaload, 1) := by decide +kernel
theorem d_Nearest_stepBack_44 : decode b_Nearest_stepBack 44 = .ok (.istore 7, 2) := by decide +kernel
theorem d_Nearest_stepBack_46 : decode b_Nearest_stepBack 46 = .ok (.aload_n 1, 1) := by decide +kernel
theorem d_Nearest_stepBack_47 : decode b_Nearest_stepBack 47 = .ok (.iload 5, 2) := by decide +kernel
theorem d_Nearest_stepBack_49 : decode b_Nearest_stepBack 49 = .ok (.iaload, 1) := by decide +kernel
theorem d_Nearest_stepBack_50 : decode b_Nearest_stepBack 50 = .ok (.istore 8, 2) := by decide +kernel
theorem d_Nearest_stepBack_52 : decode b_Nearest_stepBack 52 = .ok (.aload_n 1, 1) := by decide +kernel
theorem d_Nearest_stepBack_53 : decode b_Nearest_stepBack 53 = .ok (.iload 5, 2) := by decide +kernel
theorem d_Nearest_stepBack_55 : decode b_Nearest_stepBack 55 = .ok (.bipush 32, 2) := by decide +kernel
theorem d_Nearest_stepBack_57 : decode b_Nearest_stepBack 57 = .ok (.iadd, 1) := by decide +kernel
theorem d_Nearest_stepBack_58 : decode b_Nearest_stepBack 58 = .ok (.iaload, 1) := by decide +kernel
theorem d_Nearest_stepBack_59 : decode b_Nearest_stepBack 59 = .ok (.istore 9, 2) := by decide +kernel
theorem d_Nearest_stepBack_61 : decode b_Nearest_stepBack 61 = .ok (.aload_n 2, 1) := by decide +kernel
theorem d_Nearest_stepBack_62 : decode b_Nearest_stepBack 62 = .ok (.iconst 2, 1) := by decide +kernel
theorem d_Nearest_stepBack_63 : decode b_Nearest_stepBack 63 = .ok (.iload 5, 2) := by decide +kernel
theorem d_Nearest_stepBack_65 : decode b_Nearest_stepBack 65 = .ok (.imul, 1) := by decide +kernel
theorem d_Nearest_stepBack_66 : decode b_Nearest_stepBack 66 = .ok (.iload 8, 2) := by decide +kernel
theorem d_Nearest_stepBack_68 : decode b_Nearest_stepBack 68 = .ok (.iload 6, 2) := by decide +kernel
theorem d_Nearest_stepBack_70 : decode b_Nearest_stepBack 70 = .ok (.iadd, 1) := by decide +kernel
theorem d_Nearest_stepBack_71 : decode b_Nearest_stepBack 71 = .ok (.iload 9, 2) := by decide +kernel
theorem d_Nearest_stepBack_73 : decode b_Nearest_stepBack 73 = .ok (.iload 7, 2) := by decide +kernel
theorem d_Nearest_stepBack_75 : decode b_Nearest_stepBack 75 = .ok (.iadd, 1) := by decide +kernel
theorem d_Nearest_stepBack_76 : decode b_Nearest_stepBack 76 = .ok (.invokestatic 70, 3) := by decide +kernel
theorem d_Nearest_stepBack_79 : decode b_Nearest_stepBack 79 = .ok (.iastore, 1) := by decide +kernel
theorem d_Nearest_stepBack_80 : decode b_Nearest_stepBack 80 = .ok (.aload_n 2, 1) := by decide +kernel
theorem d_Nearest_stepBack_81 : decode b_Nearest_stepBack 81 = .ok (.iconst 2, 1) := by decide +kernel
theorem d_Nearest_stepBack_82 : decode b_Nearest_stepBack 82 = .ok (.iload 5, 2) := by decide +kernel
theorem d_Nearest_stepBack_84 : decode b_Nearest_stepBack 84 = .ok (.imul, 1) := by decide +kernel
theorem d_Nearest_stepBack_85 : decode b_Nearest_stepBack 85 = .ok (.iconst 1, 1) := by decide +kernel
theorem d_Nearest_stepBack_86 : decode b_Nearest_stepBack 86 = .ok (.iadd, 1) := by decide +kernel
theorem d_Nearest_stepBack_87 : decode b_Nearest_stepBack 87 = .ok (.iload 8, 2) := by decide +kernel
theorem d_Nearest_stepBack_89 : decode b_Nearest_stepBack 89 = .ok (.iload 7, 2) := by decide +kernel
theorem d_Nearest_stepBack_91 : decode b_Nearest_stepBack 91 = .ok (.iadd, 1) := by decide +kernel
theorem d_Nearest_stepBack_92 : decode b_Nearest_stepBack 92 = .ok (.iload 9, 2) := by decide +kernel
theorem d_Nearest_stepBack_94 : decode b_Nearest_stepBack 94 = .ok (.iload 6, 2) := by decide +kernel
theorem d_Nearest_stepBack_96 : decode b_Nearest_stepBack 96 = .ok (.iadd, 1) := by decide +kernel
theorem d_Nearest_stepBack_97 : decode b_Nearest_stepBack 97 = .ok (.invokestatic 70, 3) := by decide +kernel
theorem d_Nearest_stepBack_100 : decode b_Nearest_stepBack 100 = .ok (.iastore, 1) := by decide +kernel
theorem d_Nearest_stepBack_101 : decode b_Nearest_stepBack 101 = .ok (.iload 9, 2) := by decide +kernel
theorem d_Nearest_stepBack_103 : decode b_Nearest_stepBack 103 = .ok (.iload 7, 2) := by decide +kernel
theorem d_Nearest_stepBack_105 : decode b_Nearest_stepBack 105 = .ok (.iadd, 1) := by decide +kernel
theorem d_Nearest_stepBack_106 : decode b_Nearest_stepBack 106 = .ok (.iload 8, 2) := by decide +kernel
theorem d_Nearest_stepBack_108 : decode b_Nearest_stepBack 108 = .ok (.iload 6, 2) := by decide +kernel
theorem d_Nearest_stepBack_110 : decode b_Nearest_stepBack 110 = .ok (.iadd, 1) := by decide +kernel
theorem d_Nearest_stepBack_111 : decode b_Nearest_stepBack 111 = .ok (.if_icmp .ge 12, 3) := by decide +kernel
theorem d_Nearest_stepBack_114 : decode b_Nearest_stepBack 114 = .ok (.lload_n 3, 1) := by decide +kernel
theorem d_Nearest_stepBack_115 : decode b_Nearest_stepBack 115 = .ok (.lconst 1, 1) := by decide +kernel
theorem d_Nearest_stepBack_116 : decode b_Nearest_stepBack 116 = .ok (.iconst 2, 1) := by decide +kernel
theorem d_Nearest_stepBack_117 : decode b_Nearest_stepBack 117 = .ok (.iload 5, 2) := by decide +kernel
theorem d_Nearest_stepBack_119 : decode b_Nearest_stepBack 119 = .ok (.imul, 1) := by decide +kernel
theorem d_Nearest_stepBack_120 : decode b_Nearest_stepBack 120 = .ok (.lshl, 1) := by decide +kernel
theorem d_Nearest_stepBack_121 : decode b_Nearest_stepBack 121 = .ok (.lor, 1) := by decide +kernel
theorem d_Nearest_stepBack_122 : decode b_Nearest_stepBack 122 = .ok (.lstore_n 3, 1) := by decide +kernel
theorem d_Nearest_stepBack_123 : decode b_Nearest_stepBack 123 = .ok (.iload 9, 2) := by decide +kernel
theorem d_Nearest_stepBack_125 : decode b_Nearest_stepBack 125 = .ok (.iload 6, 2) := by decide +kernel
theorem d_Nearest_stepBack_127 : decode b_Nearest_stepBack 127 = .ok (.iadd, 1) := by decide +kernel
theorem d_Nearest_stepBack_128 : decode b_Nearest_stepBack 128 = .ok (.iload 8, 2) := by decide +kernel
theorem d_Nearest_stepBack_130 : decode b_Nearest_stepBack 130 = .ok (.iload 7, 2) := by decide +kernel
theorem d_Nearest_stepBack_132 : decode b_Nearest_stepBack 132 = .ok (.iadd, 1) := by decide +kernel
theorem d_Nearest_stepBack_133 : decode b_Nearest_stepBack 133 = .ok (.if_icmp .ge 14, 3) := by decide +kernel
theorem d_Nearest_stepBack_136 : decode b_Nearest_stepBack 136 = .ok (.lload_n 3, 1) := by decide +kernel
theorem d_Nearest_stepBack_137 : decode b_Nearest_stepBack 137 = .ok (.ldc2_w 75, 3) := by decide +kernel
theorem d_Nearest_stepBack_140 : decode b_Nearest_stepBack 140 = .ok (.iconst 2, 1) := by decide +kernel
theorem d_Nearest_stepBack_141 : decode b_Nearest_stepBack 141 = .ok (.iload 5, 2) := by decide +kernel
theorem d_Nearest_stepBack_143 : decode b_Nearest_stepBack 143 = .ok (.imul, 1) := by decide +kernel
theorem d_Nearest_stepBack_144 : decode b_Nearest_stepBack 144 = .ok (.lshl, 1) := by decide +kernel
theorem d_Nearest_stepBack_145 : decode b_Nearest_stepBack 145 = .ok (.lor, 1) := by decide +kernel
theorem d_Nearest_stepBack_146 : decode b_Nearest_stepBack 146 = .ok (.lstore_n 3, 1) := by decide +kernel
theorem d_Nearest_stepBack_147 : decode b_Nearest_stepBack 147 = .ok (.iinc 5 1, 3) := by decide +kernel
theorem d_Nearest_stepBack_150 : decode b_Nearest_stepBack 150 = .ok (.goto (-145), 3) := by decide +kernel
theorem d_Nearest_stepBack_153 : decode b_Nearest_stepBack 153 = .ok (.lload_n 3, 1) := by decide +kernel
theorem d_Nearest_stepBack_154 : decode b_Nearest_stepBack 154 = .ok (.lreturn, 1) := by decide +kernel
theorem ok_Nearest_stepBack : OKv y_Nearest_stepBack b_Nearest_stepBack 10 (some .long) "DeepChannel$Nearest" 2 := ⟨k_711, k_710, k_5, k_54, by decide +kernel, by decide +kernel, by decide +kernel⟩
abbrev w_Nearest_stepBack (cI cJ : ClassId) (qNr qNr_pairs qNr_distances qP1 qP2 : Nat) (Nr_evenRow Nr_oddRow Nr_oneIsBetter : Value) (nP1 nP2 : Nat) (Nr_pairs : Nat → Int32) (Nr_distances : Nat → Int32) (p1 : Nat → Int32) (p2 : Nat → Int32) : va_W := [(qNr, .inr (5, [.ref qNr_pairs, .ref qNr_distances, Nr_evenRow, Nr_oddRow, Nr_oneIsBetter])), (qNr_pairs, .inl (cI, 64, .inl Nr_pairs)), (qNr_distances, .inl (cI, 4, .inl Nr_distances)), (qP1, .inl (cI, nP1, .inl p1)), (qP2, .inl (cI, nP2, .inl p2))]
def f_Nearest_stepBack_147 (kh5 : Int64 → Int32 → (Nat → Int32) → Option (Int64 × (Nat → Int32))) (x3 : Int64) (x5 : Int32) (p2 : Nat → Int32) : Option (Int64 × (Nat → Int32)) :=
  nm (x5 + (1 : Int32)) fun v1 =>
  kh5 x3 v1 p2
def f_Nearest_stepBack_123 (kh5 : Int64 → Int32 → (Nat → Int32) → Option (Int64 × (Nat → Int32))) (x3 : Int64) (x5 : Int32) (x6 : Int32) (x7 : Int32) (x8 : Int32) (x9 : Int32) (p2 : Nat → Int32) : Option (Int64 × (Nat → Int32)) :=
  if (x8 + x7) ≤ (x9 + x6) then
    f_Nearest_stepBack_147 kh5 x3 x5 p2
  else
  nm (x3 ||| ((2 : Int64) <<< (((2 : Int32) * x5).toInt64 &&& 63))) fun v2 =>
  f_Nearest_stepBack_147 kh5 v2 x5 p2
def f_Nearest_stepBack_5_b (Nr_pairs : Nat → Int32) (Nr_distances : Nat → Int32) (p1 : Nat → Int32) (nP1 : Nat) (nP2 : Nat) (kh5 : Int64 → Int32 → (Nat → Int32) → Option (Int64 × (Nat → Int32))) (x3 : Int64) (x5 : Int32) (p2 : Nat → Int32) : Option (Int64 × (Nat → Int32)) :=
  if (32 : Int32) ≤ x5 then
    some (x3, p2)
  else
  rdI Nr_pairs 64 ((2 : Int32) * x5) fun v3 =>
  rdI Nr_distances 4 v3 fun v4 =>
  rdI Nr_pairs 64 ((2 : Int32) * x5) fun v5 =>
  rdI Nr_distances 4 (v5 ^^^ (3 : Int32)) fun v6 =>
  rdI p1 nP1 x5 fun v7 =>
  rdI p1 nP1 (x5 + (32 : Int32)) fun v8 =>
  wrI p2 nP2 ((2 : Int32) * x5) (if (v8 + v6) < (v7 + v4) then (v8 + v6) else (v7 + v4)) fun g9 =>
  wrI g9 nP2 (((2 : Int32) * x5) + (1 : Int32)) (if (v8 + v4) < (v7 + v6) then (v8 + v4) else (v7 + v6)) fun g10 =>
  if (v7 + v4) ≤ (v8 + v6) then
    f_Nearest_stepBack_123 kh5 x3 x5 v4 v6 v7 v8 g10
  else
  nm (x3 ||| ((1 : Int64) <<< (((2 : Int32) * x5).toInt64 &&& 63))) fun v11 =>
  f_Nearest_stepBack_123 kh5 v11 x5 v4 v6 v7 v8 g10
def f_Nearest_stepBack_5 (Nr_pairs : Nat → Int32) (Nr_distances : Nat → Int32) (p1 : Nat → Int32) (nP1 : Nat) (nP2 : Nat) : Nat → Int64 → Int32 → (Nat → Int32) → Option (Int64 × (Nat → Int32))
  | 0 => fun _ _ _ => none
  | n + 1 => fun x3 x5 p2 => f_Nearest_stepBack_5_b Nr_pairs Nr_distances p1 nP1 nP2 (f_Nearest_stepBack_5 Nr_pairs Nr_distances p1 nP1 nP2 n) x3 x5 p2
def f_Nearest_stepBack (Nr_pairs : Nat → Int32) (Nr_distances : Nat → Int32) (p1 : Nat → Int32) (p2 : Nat → Int32) (nP1 : Nat) (nP2 : Nat) : Option (Int64 × (Nat → Int32)) :=
  f_Nearest_stepBack_5 Nr_pairs Nr_distances p1 nP1 nP2 10000 (0 : Int64) (0 : Int32) p2
set_option maxHeartbeats 4000000 in
set_option maxRecDepth 100000 in
theorem c_Nearest_stepBack (l : Launch) (D : va_G) (cI cJ : ClassId) (tt : Nat → Nat) (qNr qNr_pairs qNr_distances qP1 qP2 : Nat) (Nr_evenRow Nr_oddRow Nr_oneIsBetter : Value) (nP1 nP2 : Nat) (sz : Nat) (Nr_pairs : Nat → Int32) (Nr_distances : Nat → Int32) (p1 : Nat → Int32) (p2 : Nat → Int32) (rr : Int64) (p2' : Nat → Int32) (hm : f_Nearest_stepBack Nr_pairs Nr_distances p1 p2 nP1 nP2 = some (rr, p2')) : CTl l y_Nearest_stepBack b_Nearest_stepBack 10 (some .long) (RM 1 21) D cI cJ tt [.ref qNr, .ref qP1, .ref qP2] (w_Nearest_stepBack cI cJ qNr qNr_pairs qNr_distances qP1 qP2 Nr_evenRow Nr_oddRow Nr_oneIsBetter nP1 nP2 Nr_pairs Nr_distances p1 p2) (w_Nearest_stepBack cI cJ qNr qNr_pairs qNr_distances qP1 qP2 Nr_evenRow Nr_oddRow Nr_oneIsBetter nP1 nP2 Nr_pairs Nr_distances p1 p2') sz rr := by
  refine Met.ofW (cc := b_Nearest_stepBack) (maxL := 10) (ret := (some .long)) (by decide) rfl ?_
  intro p e s m args below meth c s₁ B hml hv
  obtain ⟨hargs, hsz, hP, hK, hD0, hE⟩ := hv
  have hx := B.exec
  have hb := B.bytes
  have hr := B.returns
  have hts : ∀ w ∈ TB, w.before args s = true := z_mV s (atoms_spec (ws := WD y_Nearest_stepBack b_Nearest_stepBack 10 (some .long)) B.pre)
  have hown : s.vm.findClass "DeepChannel$Nearest" = some m.cls := findClass_of_methodNamed B.named
  have hlocks := B.notSynchronized
  subst hsz
  have hD := hD0.self (sz := s.heap.size)
  generalize hAe : va_A (w_Nearest_stepBack cI cJ qNr qNr_pairs qNr_distances qP1 qP2 Nr_evenRow Nr_oddRow Nr_oneIsBetter nP1 nP2 Nr_pairs Nr_distances p1 p2) s.heap.size = A at hD hE ⊢
  have hA : ∀ q : Nat, s.heap.size ≤ q → A q := fun q h => by rw [← hAe]; exact Or.inr h
  have hS : va_S A s.heap s.heap [] := va_S.rf
  refine z_entry (vs := [.ref qNr, .ref qP1, .ref qP2]) hargs (Nat.le_of_ble_eq_true rfl) (fun ls hl => ?_)
  have hl : lv_has ls 10 [(0, .ref qNr), (1, .ref qP1), (2, .ref qP2)] := hl
  show W p l e (RM 1 21) s m args below meth c s.heap [] 0 0 _ _
  refine z_qi (fun Q0 hQ => ?_)
  have F : CallFix p m c b_Nearest_stepBack 10 s args TB "DeepChannel$Nearest" := ⟨hx, hb, hml, hown, hts⟩
  have T5 : ∀ (n5 : Nat) (x3 : Int64) (x5 : Int32) (p2 : Nat → Int32), f_Nearest_stepBack_5 Nr_pairs Nr_distances p1 nP1 nP2 n5 x3 x5 p2 = some (rr, p2') → ∀ (H : Heap) (locs : List Loc), va_P D classes (w_Nearest_stepBack cI cJ qNr qNr_pairs qNr_distances qP1 qP2 Nr_evenRow Nr_oddRow Nr_oneIsBetter nP1 nP2 Nr_pairs Nr_distances p1 p2) H → va_D A (w_Nearest_stepBack cI cJ qNr qNr_pairs qNr_distances qP1 qP2 Nr_evenRow Nr_oddRow Nr_oneIsBetter nP1 nP2 Nr_pairs Nr_distances p1 p2) → va_S A s.heap H locs → ∀ (ls : Array Slot), lv_has ls 10 [(0, .ref qNr), (1, .ref qP1), (2, .ref qP2), (3, .long x3), (5, .int x5)] → W p l e (RM 1 21) s m args below meth c H locs 0 0 Q0 (F0 m 5 ls []) := by
    intro n5
    induction n5 with
    | zero => intro x3 x5 p2 hm; cases hm
    | succ n5 ih5 =>
      have T147 : ∀ (x3 : Int64) (x5 : Int32) (p2 : Nat → Int32), f_Nearest_stepBack_147 (f_Nearest_stepBack_5 Nr_pairs Nr_distances p1 nP1 nP2 n5) x3 x5 p2 = some (rr, p2') → ∀ (H : Heap) (locs : List Loc), va_P D classes (w_Nearest_stepBack cI cJ qNr qNr_pairs qNr_distances qP1 qP2 Nr_evenRow Nr_oddRow Nr_oneIsBetter nP1 nP2 Nr_pairs Nr_distances p1 p2) H → va_D A (w_Nearest_stepBack cI cJ qNr qNr_pairs qNr_distances qP1 qP2 Nr_evenRow Nr_oddRow Nr_oneIsBetter nP1 nP2 Nr_pairs Nr_distances p1 p2) → va_S A s.heap H locs → ∀ (ls : Array Slot), lv_has ls 10 [(0, .ref qNr), (1, .ref qP1), (2, .ref qP2), (3, .long x3), (5, .int x5)] → W p l e (RM 1 21) s m args below meth c H locs 0 0 Q0 (F0 m 147 ls []) := by
        intro x3 x5 p2 hm H locs hP hD hS ls hl
        unfold f_Nearest_stepBack_147 at hm
        obtain ⟨v1, ev, hm⟩ := nm_el hm
        refine lv_iinc (v := v1) (lv' := [(5, .int v1), (0, .ref qNr), (1, .ref qP1), (2, .ref qP2), (3, .long x3)]) hx hb d_Nearest_stepBack_147 hl (k := 4) rfl (by rw [ev]; rfl) (by decide) rfl (fun ls hl => ?_)
        refine lv_goto (tgt := 5) hx hb d_Nearest_stepBack_150 (by decide) ?_
        exact ih5 x3 v1 p2 hm _ _ hP hD hS _ (lv_sub hl [1, 2, 3, 4, 0] rfl)
      have T123 : ∀ (x3 : Int64) (x5 : Int32) (x6 : Int32) (x7 : Int32) (x8 : Int32) (x9 : Int32) (p2 : Nat → Int32), f_Nearest_stepBack_123 (f_Nearest_stepBack_5 Nr_pairs Nr_distances p1 nP1 nP2 n5) x3 x5 x6 x7 x8 x9 p2 = some (rr, p2') → ∀ (H : Heap) (locs : List Loc), va_P D classes (w_Nearest_stepBack cI cJ qNr qNr_pairs qNr_distances qP1 qP2 Nr_evenRow Nr_oddRow Nr_oneIsBetter nP1 nP2 Nr_pairs Nr_distances p1 p2) H → va_D A (w_Nearest_stepBack cI cJ qNr qNr_pairs qNr_distances qP1 qP2 Nr_evenRow Nr_oddRow Nr_oneIsBetter nP1 nP2 Nr_pairs Nr_distances p1 p2) → va_S A s.heap H locs → ∀ (ls : Array Slot), lv_has ls 10 [(0, .ref qNr), (1, .ref qP1), (2, .ref qP2), (3, .long x3), (5, .int x5), (6, .int x6), (7, .int x7), (8, .int x8), (9, .int x9)] → W p l e (RM 1 21) s m args below meth c H locs 0 0 Q0 (F0 m 123 ls []) := by
        intro x3 x5 x6 x7 x8 x9 p2 hm H locs hP hD hS ls hl
        unfold f_Nearest_stepBack_123 at hm
        refine lv_iload hx hb d_Nearest_stepBack_123 (lv_at hl 8 rfl) ?_
        refine lv_iload hx hb d_Nearest_stepBack_125 (lv_at hl 5 rfl) ?_
        refine lv_iadd hx hb d_Nearest_stepBack_127 ?_
        refine lv_iload hx hb d_Nearest_stepBack_128 (lv_at hl 7 rfl) ?_
        refine lv_iload hx hb d_Nearest_stepBack_130 (lv_at hl 6 rfl) ?_
        refine lv_iadd hx hb d_Nearest_stepBack_132 ?_
        refine z_if hm (lv_icmp_ge (tgt := 147) hx hb d_Nearest_stepBack_133 (by decide)) (fun hm => ?_) (fun hm => ?_)
        · exact T147 x3 x5 p2 hm _ _ hP hD hS _ (lv_sub hl [0, 1, 2, 3, 4] rfl)
        · refine lv_lload_n hx hb d_Nearest_stepBack_136 rfl (lv_at hl 3 rfl) ?_
          refine lv_ldc2 (v := (2 : Int64)) hx hb hown (hts _ k_715) d_Nearest_stepBack_137 ?_
          refine lv_iconst (v := (2 : Int32)) hx hb d_Nearest_stepBack_140 (by decide) ?_
          refine lv_iload hx hb d_Nearest_stepBack_141 (lv_at hl 4 rfl) ?_
          refine lv_imul hx hb d_Nearest_stepBack_143 ?_
          refine lv_lshl (v := ((2 : Int64) <<< (((2 : Int32) * x5).toInt64 &&& 63))) hx hb d_Nearest_stepBack_144 rfl ?_
          refine lv_lor hx hb d_Nearest_stepBack_145 ?_
          refine z_nml hm (fun v2 hm => ?_)
          refine lv_lstore_n (lv' := [(3, .long v2), (0, .ref qNr), (1, .ref qP1), (2, .ref qP2), (5, .int x5), (6, .int x6), (7, .int x7), (8, .int x8), (9, .int x9)]) hx hb d_Nearest_stepBack_146 rfl hl (by decide) rfl (fun ls hl => ?_)
          exact T147 v2 x5 p2 hm _ _ hP hD hS _ (lv_sub hl [1, 2, 3, 0, 4] rfl)
      intro x3 x5 p2 hm H locs hP hD hS ls hl
      replace hm : f_Nearest_stepBack_5_b Nr_pairs Nr_distances p1 nP1 nP2 (f_Nearest_stepBack_5 Nr_pairs Nr_distances p1 nP1 nP2 n5) x3 x5 p2 = some (rr, p2') := hm
      unfold f_Nearest_stepBack_5_b at hm
      refine lv_iload hx hb d_Nearest_stepBack_5 (lv_at hl 4 rfl) ?_
      refine lv_bipush (v := (32 : Int32)) hx hb d_Nearest_stepBack_7 (by decide) ?_
      refine z_if hm (lv_icmp_ge (tgt := 153) hx hb d_Nearest_stepBack_9 (by decide)) (fun hm => ?_) (fun hm => ?_)
      · refine lv_lload_n hx hb d_Nearest_stepBack_153 rfl (lv_at hl 3 rfl) ?_
        cases hm
        exact z_qo hQ (z_lret hr hx hb hlocks hK hP hD hS d_Nearest_stepBack_154)
      · refine lv_aload_n hx hb d_Nearest_stepBack_12 rfl (lv_at hl 0 rfl) ?_
        refine va_get (D := D) (ci := 5) (v := .ref qNr_distances) (C := "DeepChannel$Nearest") (T := fT_Nearest) (N := 5) hx hb hts u_Nearest hown hK hP 0 rfl rfl 1 (by decide) (hts _ k_287) (fun _ h9 => h9) rfl d_Nearest_stepBack_13 ?_
        refine lv_aload_n hx hb d_Nearest_stepBack_16 rfl (lv_at hl 0 rfl) ?_
        refine va_get (D := D) (ci := 5) (v := .ref qNr_pairs) (C := "DeepChannel$Nearest") (T := fT_Nearest) (N := 5) hx hb hts u_Nearest hown hK hP 0 rfl rfl 0 (by decide) (hts _ k_286) (fun _ h9 => h9) rfl d_Nearest_stepBack_17 ?_
        refine lv_iconst (v := (2 : Int32)) hx hb d_Nearest_stepBack_20 (by decide) ?_
        refine lv_iload hx hb d_Nearest_stepBack_21 (lv_at hl 4 rfl) ?_
        refine lv_imul hx hb d_Nearest_stepBack_23 ?_
        refine z_iald hm hx hb hK hP 1 rfl d_Nearest_stepBack_24 (fun v3 hm => ?_)
        refine z_iald hm hx hb hK hP 2 rfl d_Nearest_stepBack_25 (fun v4 hm => ?_)
        refine lv_istore (lv' := [(6, .int v4), (0, .ref qNr), (1, .ref qP1), (2, .ref qP2), (3, .long x3), (5, .int x5)]) hx hb d_Nearest_stepBack_26 hl (by decide) rfl (fun ls hl => ?_)
        refine lv_aload_n hx hb d_Nearest_stepBack_28 rfl (lv_at hl 1 rfl) ?_
        refine va_get (D := D) (ci := 5) (v := .ref qNr_distances) (C := "DeepChannel$Nearest") (T := fT_Nearest) (N := 5) hx hb hts u_Nearest hown hK hP 0 rfl rfl 1 (by decide) (hts _ k_287) (fun _ h9 => h9) rfl d_Nearest_stepBack_29 ?_
        refine lv_aload_n hx hb d_Nearest_stepBack_32 rfl (lv_at hl 1 rfl) ?_
        refine va_get (D := D) (ci := 5) (v := .ref qNr_pairs) (C := "DeepChannel$Nearest") (T := fT_Nearest) (N := 5) hx hb hts u_Nearest hown hK hP 0 rfl rfl 0 (by decide) (hts _ k_286) (fun _ h9 => h9) rfl d_Nearest_stepBack_33 ?_
        refine lv_iconst (v := (2 : Int32)) hx hb d_Nearest_stepBack_36 (by decide) ?_
        refine lv_iload hx hb d_Nearest_stepBack_37 (lv_at hl 5 rfl) ?_
        refine lv_imul hx hb d_Nearest_stepBack_39 ?_
        refine z_iald hm hx hb hK hP 1 rfl d_Nearest_stepBack_40 (fun v5 hm => ?_)
        refine lv_iconst (v := (3 : Int32)) hx hb d_Nearest_stepBack_41 (by decide) ?_
        refine lv_ixor hx hb d_Nearest_stepBack_42 ?_
        refine z_iald hm hx hb hK hP 2 rfl d_Nearest_stepBack_43 (fun v6 hm => ?_)
        refine lv_istore (lv' := [(7, .int v6), (6, .int v4), (0, .ref qNr), (1, .ref qP1), (2, .ref qP2), (3, .long x3), (5, .int x5)]) hx hb d_Nearest_stepBack_44 hl (by decide) rfl (fun ls hl => ?_)
        refine lv_aload_n hx hb d_Nearest_stepBack_46 rfl (lv_at hl 3 rfl) ?_
        refine lv_iload hx hb d_Nearest_stepBack_47 (lv_at hl 6 rfl) ?_
        refine z_iald hm hx hb hK hP 3 rfl d_Nearest_stepBack_49 (fun v7 hm => ?_)
        refine lv_istore (lv' := [(8, .int v7), (7, .int v6), (6, .int v4), (0, .ref qNr), (1, .ref qP1), (2, .ref qP2), (3, .long x3), (5, .int x5)]) hx hb d_Nearest_stepBack_50 hl (by decide) rfl (fun ls hl => ?_)
        refine lv_aload_n hx hb d_Nearest_stepBack_52 rfl (lv_at hl 4 rfl) ?_
        refine lv_iload hx hb d_Nearest_stepBack_53 (lv_at hl 7 rfl) ?_
        refine lv_bipush (v := (32 : Int32)) hx hb d_Nearest_stepBack_55 (by decide) ?_
        refine lv_iadd hx hb d_Nearest_stepBack_57 ?_
        refine z_iald hm hx hb hK hP 3 rfl d_Nearest_stepBack_58 (fun v8 hm => ?_)
        refine lv_istore (lv' := [(9, .int v8), (8, .int v7), (7, .int v6), (6, .int v4), (0, .ref qNr), (1, .ref qP1), (2, .ref qP2), (3, .long x3), (5, .int x5)]) hx hb d_Nearest_stepBack_59 hl (by decide) rfl (fun ls hl => ?_)
        refine lv_aload_n hx hb d_Nearest_stepBack_61 rfl (lv_at hl 6 rfl) ?_
        refine lv_iconst (v := (2 : Int32)) hx hb d_Nearest_stepBack_62 (by decide) ?_
        refine lv_iload hx hb d_Nearest_stepBack_63 (lv_at hl 8 rfl) ?_
        refine lv_imul hx hb d_Nearest_stepBack_65 ?_
        refine lv_iload hx hb d_Nearest_stepBack_66 (lv_at hl 1 rfl) ?_
        refine lv_iload hx hb d_Nearest_stepBack_68 (lv_at hl 3 rfl) ?_
        refine lv_iadd hx hb d_Nearest_stepBack_70 ?_
        refine lv_iload hx hb d_Nearest_stepBack_71 (lv_at hl 0 rfl) ?_
        refine lv_iload hx hb d_Nearest_stepBack_73 (lv_at hl 2 rfl) ?_
        refine lv_iadd hx hb d_Nearest_stepBack_75 ?_
        refine va_mmin hx hb (hml.trans hl.1.symm) hown (hts _ k_712) (hts _ k_713) (hts _ k_61) (hts _ k_714) (Nat.le_of_ble_eq_true rfl) (Nat.le_of_ble_eq_true rfl) (Nat.zero_le _) (Nat.zero_le _) d_Nearest_stepBack_76 ?_
        refine z_iast hm hx hb hK hP hD hS 4 rfl d_Nearest_stepBack_79 (fun g9 hm H locs hP hD hS => ?_)
        have hP : va_P D classes (w_Nearest_stepBack cI cJ qNr qNr_pairs qNr_distances qP1 qP2 Nr_evenRow Nr_oddRow Nr_oneIsBetter nP1 nP2 Nr_pairs Nr_distances p1 g9) H := hP
        have hD : va_D A (w_Nearest_stepBack cI cJ qNr qNr_pairs qNr_distances qP1 qP2 Nr_evenRow Nr_oddRow Nr_oneIsBetter nP1 nP2 Nr_pairs Nr_distances p1 g9) := hD
        refine lv_aload_n hx hb d_Nearest_stepBack_80 rfl (lv_at hl 6 rfl) ?_
        refine lv_iconst (v := (2 : Int32)) hx hb d_Nearest_stepBack_81 (by decide) ?_
        refine lv_iload hx hb d_Nearest_stepBack_82 (lv_at hl 8 rfl) ?_
        refine lv_imul hx hb d_Nearest_stepBack_84 ?_
        refine lv_iconst (v := (1 : Int32)) hx hb d_Nearest_stepBack_85 (by decide) ?_
        refine lv_iadd hx hb d_Nearest_stepBack_86 ?_
        refine lv_iload hx hb d_Nearest_stepBack_87 (lv_at hl 1 rfl) ?_
        refine lv_iload hx hb d_Nearest_stepBack_89 (lv_at hl 2 rfl) ?_
        refine lv_iadd hx hb d_Nearest_stepBack_91 ?_
        refine lv_iload hx hb d_Nearest_stepBack_92 (lv_at hl 0 rfl) ?_
        refine lv_iload hx hb d_Nearest_stepBack_94 (lv_at hl 3 rfl) ?_
        refine lv_iadd hx hb d_Nearest_stepBack_96 ?_
        refine va_mmin hx hb (hml.trans hl.1.symm) hown (hts _ k_712) (hts _ k_713) (hts _ k_61) (hts _ k_714) (Nat.le_of_ble_eq_true rfl) (Nat.le_of_ble_eq_true rfl) (Nat.zero_le _) (Nat.zero_le _) d_Nearest_stepBack_97 ?_
        refine z_iast hm hx hb hK hP hD hS 4 rfl d_Nearest_stepBack_100 (fun g10 hm H locs hP hD hS => ?_)
        have hP : va_P D classes (w_Nearest_stepBack cI cJ qNr qNr_pairs qNr_distances qP1 qP2 Nr_evenRow Nr_oddRow Nr_oneIsBetter nP1 nP2 Nr_pairs Nr_distances p1 g10) H := hP
        have hD : va_D A (w_Nearest_stepBack cI cJ qNr qNr_pairs qNr_distances qP1 qP2 Nr_evenRow Nr_oddRow Nr_oneIsBetter nP1 nP2 Nr_pairs Nr_distances p1 g10) := hD
        refine lv_iload hx hb d_Nearest_stepBack_101 (lv_at hl 0 rfl) ?_
        refine lv_iload hx hb d_Nearest_stepBack_103 (lv_at hl 2 rfl) ?_
        refine lv_iadd hx hb d_Nearest_stepBack_105 ?_
        refine lv_iload hx hb d_Nearest_stepBack_106 (lv_at hl 1 rfl) ?_
        refine lv_iload hx hb d_Nearest_stepBack_108 (lv_at hl 3 rfl) ?_
        refine lv_iadd hx hb d_Nearest_stepBack_110 ?_
        refine z_if hm (lv_icmp_ge (tgt := 123) hx hb d_Nearest_stepBack_111 (by decide)) (fun hm => ?_) (fun hm => ?_)
        · exact T123 x3 x5 v4 v6 v7 v8 g10 hm _ _ hP hD hS _ (lv_sub hl [4, 5, 6, 7, 8, 3, 2, 1, 0] rfl)
        · refine lv_lload_n hx hb d_Nearest_stepBack_114 rfl (lv_at hl 7 rfl) ?_
          refine lv_lconst (v := (1 : Int64)) hx hb d_Nearest_stepBack_115 (by decide) ?_
          refine lv_iconst (v := (2 : Int32)) hx hb d_Nearest_stepBack_116 (by decide) ?_
          refine lv_iload hx hb d_Nearest_stepBack_117 (lv_at hl 8 rfl) ?_
          refine lv_imul hx hb d_Nearest_stepBack_119 ?_
          refine lv_lshl (v := ((1 : Int64) <<< (((2 : Int32) * x5).toInt64 &&& 63))) hx hb d_Nearest_stepBack_120 rfl ?_
          refine lv_lor hx hb d_Nearest_stepBack_121 ?_
          refine z_nml hm (fun v11 hm => ?_)
          refine lv_lstore_n (lv' := [(3, .long v11), (9, .int v8), (8, .int v7), (7, .int v6), (6, .int v4), (0, .ref qNr), (1, .ref qP1), (2, .ref qP2), (5, .int x5)]) hx hb d_Nearest_stepBack_122 rfl hl (by decide) rfl (fun ls hl => ?_)
          exact T123 v11 x5 v4 v6 v7 v8 g10 hm _ _ hP hD hS _ (lv_sub hl [5, 6, 7, 0, 8, 4, 3, 2, 1] rfl)
  unfold f_Nearest_stepBack at hm
  refine lv_lconst (v := (0 : Int64)) hx hb d_Nearest_stepBack_0 (by decide) ?_
  refine lv_lstore_n (lv' := [(3, .long (0 : Int64)), (0, .ref qNr), (1, .ref qP1), (2, .ref qP2)]) hx hb d_Nearest_stepBack_1 rfl hl (by decide) rfl (fun ls hl => ?_)
  refine lv_iconst (v := (0 : Int32)) hx hb d_Nearest_stepBack_2 (by decide) ?_
  refine lv_istore (lv' := [(5, .int (0 : Int32)), (3, .long (0 : Int64)), (0, .ref qNr), (1, .ref qP1), (2, .ref qP2)]) hx hb d_Nearest_stepBack_3 hl (by decide) rfl (fun ls hl => ?_)
  exact T5 10000 (0 : Int64) (0 : Int32) p2 hm _ _ hP hD hS _ (lv_sub hl [2, 3, 4, 1, 0] rfl)
-- DeepChannel$Nearest.trace(ILDeepChannel$BitRow;)V
abbrev b_Nearest_trace : ByteArray := prog_7_method_5_code
abbrev y_Nearest_trace : MethodName := ⟨"DeepChannel$Nearest", "trace", "(ILDeepChannel$BitRow;)V"⟩
theorem d_Nearest_trace_0 : decode b_Nearest_trace 0 = .ok (.aload_n 2, 1) := by decide +kernel
theorem d_Nearest_trace_1 : decode b_Nearest_trace 1 = .ok (.invokevirtual 77, 3) := by decide +kernel
theorem d_Nearest_trace_4 : decode b_Nearest_trace 4 = .ok (.iconst 0, 1) := by decide +kernel
theorem d_Nearest_trace_5 : decode b_Nearest_trace 5 = .ok (.istore_n 3, 1) := by decide +kernel
theorem d_Nearest_trace_6 : decode b_Nearest_trace 6 = .ok (.iconst 0, 1) := by decide +kernel
theorem d_Nearest_trace_7 : decode b_Nearest_trace 7 = .ok (.istore 4, 2) := by decide +kernel
theorem d_Nearest_trace_9 : decode b_Nearest_trace 9 = .ok (.iload 4, 2) := by decide +kernel
theorem d_Nearest_trace_11 : decode b_Nearest_trace 11 = .ok (.iload_n 1, 1) := by decide +kernel
theorem d_Nearest_trace_12 : decode b_Nearest_trace 12 = .ok (.if_icmp .ge 38, 3) := by decide +kernel
theorem d_Nearest_trace_15 : decode b_Nearest_trace 15 = .ok (.aload_n 0, 1) := by decide +kernel
theorem d_Nearest_trace_16 : decode b_Nearest_trace 16 = .ok (.getfield 24, 3) := by decide +kernel
theorem d_Nearest_trace_19 : decode b_Nearest_trace 19 = .ok (.iload 4, 2) := by decide +kernel
theorem d_Nearest_trace_21 : decode b_Nearest_trace 21 = .ok (.laload, 1) := by decide +kernel
theorem d_Nearest_trace_22 : decode b_Nearest_trace 22 = .ok (.iload_n 3, 1) := by decide +kernel
theorem d_Nearest_trace_23 : decode b_Nearest_trace 23 = .ok (.lushr, 1) := by decide +kernel
theorem d_Nearest_trace_24 : decode b_Nearest_trace 24 = .ok (.l2i, 1) := by decide +kernel
theorem d_Nearest_trace_25 : decode b_Nearest_trace 25 = .ok (.iconst 1, 1) := by decide +kernel
theorem d_Nearest_trace_26 : decode b_Nearest_trace 26 = .ok (.iand, 1) := by decide +kernel
theorem d_Nearest_trace_27 : decode b_Nearest_trace 27 = .ok (.istore 5, 2) := by decide +kernel
theorem d_Nearest_trace_29 : decode b_Nearest_trace 29 = .ok (.aload_n 2, 1) := by decide +kernel
theorem d_Nearest_trace_30 : decode b_Nearest_trace 30 = .ok (.iload 5, 2) := by decide +kernel
theorem d_Nearest_trace_32 : decode b_Nearest_trace 32 = .ok (.invokevirtual 80, 3) := by decide +kernel
theorem d_Nearest_trace_35 : decode b_Nearest_trace 35 = .ok (.iload_n 3, 1) := by decide +kernel
theorem d_Nearest_trace_36 : decode b_Nearest_trace 36 = .ok (.iconst 1, 1) := by decide +kernel
theorem d_Nearest_trace_37 : decode b_Nearest_trace 37 = .ok (.ishr, 1) := by decide +kernel
theorem d_Nearest_trace_38 : decode b_Nearest_trace 38 = .ok (.iload 5, 2) := by decide +kernel
theorem d_Nearest_trace_40 : decode b_Nearest_trace 40 = .ok (.iconst 5, 1) := by decide +kernel
theorem d_Nearest_trace_41 : decode b_Nearest_trace 41 = .ok (.ishl, 1) := by decide +kernel
theorem d_Nearest_trace_42 : decode b_Nearest_trace 42 = .ok (.ior, 1) := by decide +kernel
theorem d_Nearest_trace_43 : decode b_Nearest_trace 43 = .ok (.istore_n 3, 1) := by decide +kernel
theorem d_Nearest_trace_44 : decode b_Nearest_trace 44 = .ok (.iinc 4 1, 3) := by decide +kernel
theorem d_Nearest_trace_47 : decode b_Nearest_trace 47 = .ok (.goto (-38), 3) := by decide +kernel
theorem d_Nearest_trace_50 : decode b_Nearest_trace 50 = .ok (.return_, 1) := by decide +kernel
theorem ok_Nearest_trace : OKv y_Nearest_trace b_Nearest_trace 6 none "DeepChannel$Nearest" 2 := ⟨k_719, k_718, k_6, k_54, by decide +kernel, by decide +kernel, by decide +kernel⟩
abbrev w_Nearest_trace (cI cJ : ClassId) (qFo qFo_cells qNr qNr_oneIsBetter : Nat) (Nr_pairs Nr_distances Nr_evenRow Nr_oddRow : Value) (Fo_length : Int32) (Fo_cells : Nat → Int64) (Nr_oneIsBetter : Nat → Int64) : va_W := [(qFo, .inr (0, [.ref qFo_cells, .int Fo_length])), (qFo_cells, .inl (cJ, 64, .inr (.inl Fo_cells))), (qNr, .inr (5, [Nr_pairs, Nr_distances, Nr_evenRow, Nr_oddRow, .ref qNr_oneIsBetter])), (qNr_oneIsBetter, .inl (cJ, 4096, .inr (.inl Nr_oneIsBetter)))]
def f_Nearest_trace_9_b (Nr_oneIsBetter : Nat → Int64) (kh9 : Int32 → Int32 → Int32 → Int32 → (Nat → Int64) → Option (Int32 × (Nat → Int64))) (x1 : Int32) (x3 : Int32) (x4 : Int32) (Fo_length : Int32) (Fo_cells : Nat → Int64) : Option (Int32 × (Nat → Int64)) :=
  if x1 ≤ x4 then
    some (Fo_length, Fo_cells)
  else
  rdL Nr_oneIsBetter 4096 x4 fun v1 =>
  nm (((v1.toUInt64 >>> (x3.toInt64.toUInt64 &&& Int64.toUInt64 63)).toInt64).toInt32 &&& (1 : Int32)) fun v2 =>
  bd (f_BitRow_append Fo_length Fo_cells v2) fun u5 =>
  nm u5.1 fun v3 =>
  nm u5.2 fun g4 =>
  nm ((x3 >>> ((1 : Int32) &&& 31)) ||| (v2 <<< ((5 : Int32) &&& 31))) fun v6 =>
  nm (x4 + (1 : Int32)) fun v7 =>
  kh9 x1 v6 v7 v3 g4
def f_Nearest_trace_9 (Nr_oneIsBetter : Nat → Int64) : Nat → Int32 → Int32 → Int32 → Int32 → (Nat → Int64) → Option (Int32 × (Nat → Int64))
  | 0 => fun _ _ _ _ _ => none
  | n + 1 => fun x1 x3 x4 Fo_length Fo_cells => f_Nearest_trace_9_b Nr_oneIsBetter (f_Nearest_trace_9 Nr_oneIsBetter n) x1 x3 x4 Fo_length Fo_cells
def f_Nearest_trace (Fo_length : Int32) (Fo_cells : Nat → Int64) (Nr_oneIsBetter : Nat → Int64) (x1 : Int32) : Option (Int32 × (Nat → Int64)) :=
  bd (f_BitRow_empty Fo_length Fo_cells) fun u10 =>
  nm u10.1 fun v8 =>
  nm u10.2 fun g9 =>
  f_Nearest_trace_9 Nr_oneIsBetter 10000 x1 (0 : Int32) (0 : Int32) v8 g9
set_option maxHeartbeats 4000000 in
set_option maxRecDepth 100000 in
theorem c_Nearest_trace (l : Launch) (D : va_G) (cI cJ : ClassId) (tt : Nat → Nat) (qFo qFo_cells qNr qNr_oneIsBetter : Nat) (Nr_pairs Nr_distances Nr_evenRow Nr_oddRow : Value) (sz : Nat) (Fo_length : Int32) (Fo_cells : Nat → Int64) (Nr_oneIsBetter : Nat → Int64) (x1 : Int32) (Fo_length' : Int32) (Fo_cells' : Nat → Int64) (hm : f_Nearest_trace Fo_length Fo_cells Nr_oneIsBetter x1 = some (Fo_length', Fo_cells')) : CTv l y_Nearest_trace b_Nearest_trace 6 none (RM 2 44) D cI cJ tt [.ref qNr, .int x1, .ref qFo] (w_Nearest_trace cI cJ qFo qFo_cells qNr qNr_oneIsBetter Nr_pairs Nr_distances Nr_evenRow Nr_oddRow Fo_length Fo_cells Nr_oneIsBetter) (w_Nearest_trace cI cJ qFo qFo_cells qNr qNr_oneIsBetter Nr_pairs Nr_distances Nr_evenRow Nr_oddRow Fo_length' Fo_cells' Nr_oneIsBetter) sz := by
  refine Met.ofW (cc := b_Nearest_trace) (maxL := 6) (ret := none) (by decide) rfl ?_
  intro p e s m args below meth c s₁ B hml hv
  obtain ⟨hargs, hsz, hP, hK, hD0, hE⟩ := hv
  have hx := B.exec
  have hb := B.bytes
  have hr := B.returns
  have hts : ∀ w ∈ TB, w.before args s = true := z_mV s (atoms_spec (ws := WD y_Nearest_trace b_Nearest_trace 6 none) B.pre)
  have hown : s.vm.findClass "DeepChannel$Nearest" = some m.cls := findClass_of_methodNamed B.named
  have hlocks := B.notSynchronized
  subst hsz
  have hD := hD0.self (sz := s.heap.size)
  generalize hAe : va_A (w_Nearest_trace cI cJ qFo qFo_cells qNr qNr_oneIsBetter Nr_pairs Nr_distances Nr_evenRow Nr_oddRow Fo_length Fo_cells Nr_oneIsBetter) s.heap.size = A at hD hE ⊢
  have hA : ∀ q : Nat, s.heap.size ≤ q → A q := fun q h => by rw [← hAe]; exact Or.inr h
  have hS : va_S A s.heap s.heap [] := va_S.rf
  refine z_entry (vs := [.ref qNr, .int x1, .ref qFo]) hargs (Nat.le_of_ble_eq_true rfl) (fun ls hl => ?_)
  have hl : lv_has ls 6 [(0, .ref qNr), (1, .int x1), (2, .ref qFo)] := hl
  show W p l e (RM 2 44) s m args below meth c s.heap [] 0 0 _ _
  refine z_qi (fun Q0 hQ => ?_)
  have F : CallFix p m c b_Nearest_trace 6 s args TB "DeepChannel$Nearest" := ⟨hx, hb, hml, hown, hts⟩
  have T9 : ∀ (n9 : Nat) (x1 : Int32) (x3 : Int32) (x4 : Int32) (Fo_length : Int32) (Fo_cells : Nat → Int64), f_Nearest_trace_9 Nr_oneIsBetter n9 x1 x3 x4 Fo_length Fo_cells = some (Fo_length', Fo_cells') → ∀ (H : Heap) (locs : List Loc), va_P D classes (w_Nearest_trace cI cJ qFo qFo_cells qNr qNr_oneIsBetter Nr_pairs Nr_distances Nr_evenRow Nr_oddRow Fo_length Fo_cells Nr_oneIsBetter) H → va_D A (w_Nearest_trace cI cJ qFo qFo_cells qNr qNr_oneIsBetter Nr_pairs Nr_distances Nr_evenRow Nr_oddRow Fo_length Fo_cells Nr_oneIsBetter) → va_S A s.heap H locs → ∀ (ls : Array Slot), lv_has ls 6 [(0, .ref qNr), (1, .int x1), (2, .ref qFo), (3, .int x3), (4, .int x4)] → W p l e (RM 2 44) s m args below meth c H locs 0 0 Q0 (F0 m 9 ls []) := by
    intro n9
    induction n9 with
    | zero => intro x1 x3 x4 Fo_length Fo_cells hm; cases hm
    | succ n9 ih9 =>
      intro x1 x3 x4 Fo_length Fo_cells hm H locs hP hD hS ls hl
      replace hm : f_Nearest_trace_9_b Nr_oneIsBetter (f_Nearest_trace_9 Nr_oneIsBetter n9) x1 x3 x4 Fo_length Fo_cells = some (Fo_length', Fo_cells') := hm
      unfold f_Nearest_trace_9_b at hm
      refine lv_iload hx hb d_Nearest_trace_9 (lv_at hl 4 rfl) ?_
      refine lv_iload_n hx hb d_Nearest_trace_11 rfl (lv_at hl 1 rfl) ?_
      refine z_if hm (lv_icmp_ge (tgt := 50) hx hb d_Nearest_trace_12 (by decide)) (fun hm => ?_) (fun hm => ?_)
      · cases hm
        exact z_qo hQ (z_vret hr hx hb hlocks hK hP hD hS d_Nearest_trace_50)
      · refine lv_aload_n hx hb d_Nearest_trace_15 rfl (lv_at hl 0 rfl) ?_
        refine va_get (D := D) (ci := 5) (v := .ref qNr_oneIsBetter) (C := "DeepChannel$Nearest") (T := fT_Nearest) (N := 5) hx hb hts u_Nearest hown hK hP 2 rfl rfl 4 (by decide) (hts _ k_290) (fun _ h9 => h9) rfl d_Nearest_trace_16 ?_
        refine lv_iload hx hb d_Nearest_trace_19 (lv_at hl 4 rfl) ?_
        refine z_lald hm hx hb hK hP 3 rfl d_Nearest_trace_21 (fun v1 hm => ?_)
        refine lv_iload_n hx hb d_Nearest_trace_22 rfl (lv_at hl 3 rfl) ?_
        refine lv_lushr (v := ((v1.toUInt64 >>> (x3.toInt64.toUInt64 &&& Int64.toUInt64 63)).toInt64)) hx hb d_Nearest_trace_23 rfl ?_
        refine lv_l2i (v := ((v1.toUInt64 >>> (x3.toInt64.toUInt64 &&& Int64.toUInt64 63)).toInt64).toInt32) hx hb d_Nearest_trace_24 rfl ?_
        refine lv_iconst (v := (1 : Int32)) hx hb d_Nearest_trace_25 (by decide) ?_
        refine lv_iand hx hb d_Nearest_trace_26 ?_
        refine z_nmi hm (fun v2 hm => ?_)
        refine lv_istore (lv' := [(5, .int v2), (0, .ref qNr), (1, .int x1), (2, .ref qFo), (3, .int x3), (4, .int x4)]) hx hb d_Nearest_trace_27 hl (by decide) rfl (fun ls hl => ?_)
        refine lv_aload_n hx hb d_Nearest_trace_29 rfl (lv_at hl 3 rfl) ?_
        refine lv_iload hx hb d_Nearest_trace_30 (lv_at hl 0 rfl) ?_
        obtain ⟨⟨v3, g4⟩, hu, hm⟩ := bd_el hm
        replace hm := nm_2 hm
        refine z_cVv (wc := w_BitRow_append cI cJ qFo qFo_cells Fo_length Fo_cells) (wc' := w_BitRow_append cI cJ qFo qFo_cells v3 g4) (wr := [(qNr, .inr (5, [Nr_pairs, Nr_distances, Nr_evenRow, Nr_oddRow, .ref qNr_oneIsBetter])), (qNr_oneIsBetter, .inl (cJ, 4096, .inr (.inl Nr_oneIsBetter)))]) (As := [.int v2]) (rest := []) (c_BitRow_append l D cI cJ tt qFo qFo_cells _ Fo_length Fo_cells v2 v3 g4 hu) F ok_BitRow_append rfl k_721 hK hE hP hD hS hA [0, 1] [2, 3] rfl rfl (by decide) (by decide) (by decide) 0 rfl rfl rfl ⟨rfl, rfl, Nat.le_of_ble_eq_true rfl, Nat.le_of_ble_eq_true rfl⟩ ⟨Nat.zero_le _, Nat.zero_le _⟩ rfl hl.1 rfl (Nat.le_of_ble_eq_true rfl) d_Nearest_trace_32 (fun H locs hP hD hS => ?_)
        have hP : va_P D classes (w_Nearest_trace cI cJ qFo qFo_cells qNr qNr_oneIsBetter Nr_pairs Nr_distances Nr_evenRow Nr_oddRow v3 g4 Nr_oneIsBetter) H := hP.sub [2, 3, 0, 1] rfl
        have hD : va_D A (w_Nearest_trace cI cJ qFo qFo_cells qNr qNr_oneIsBetter Nr_pairs Nr_distances Nr_evenRow Nr_oddRow v3 g4 Nr_oneIsBetter) := hD.sub [2, 3, 0, 1] (by decide) rfl
        refine lv_iload_n hx hb d_Nearest_trace_35 rfl (lv_at hl 4 rfl) ?_
        refine lv_iconst (v := (1 : Int32)) hx hb d_Nearest_trace_36 (by decide) ?_
        refine lv_ishr hx hb d_Nearest_trace_37 ?_
        refine lv_iload hx hb d_Nearest_trace_38 (lv_at hl 0 rfl) ?_
        refine lv_iconst (v := (5 : Int32)) hx hb d_Nearest_trace_40 (by decide) ?_
        refine lv_ishl hx hb d_Nearest_trace_41 ?_
        refine lv_ior hx hb d_Nearest_trace_42 ?_
        refine z_nmi hm (fun v6 hm => ?_)
        refine lv_istore_n (lv' := [(3, .int v6), (5, .int v2), (0, .ref qNr), (1, .int x1), (2, .ref qFo), (4, .int x4)]) hx hb d_Nearest_trace_43 rfl hl (by decide) rfl (fun ls hl => ?_)
        obtain ⟨v7, ev, hm⟩ := nm_el hm
        refine lv_iinc (v := v7) (lv' := [(4, .int v7), (3, .int v6), (5, .int v2), (0, .ref qNr), (1, .int x1), (2, .ref qFo)]) hx hb d_Nearest_trace_44 hl (k := 5) rfl (by rw [ev]; rfl) (by decide) rfl (fun ls hl => ?_)
        refine lv_goto (tgt := 9) hx hb d_Nearest_trace_47 (by decide) ?_
        exact ih9 x1 v6 v7 v3 g4 hm _ _ hP hD hS _ (lv_sub hl [3, 4, 5, 1, 0] rfl)
  unfold f_Nearest_trace at hm
  refine lv_aload_n hx hb d_Nearest_trace_0 rfl (lv_at hl 2 rfl) ?_
  obtain ⟨⟨v8, g9⟩, hu, hm⟩ := bd_el hm
  replace hm := nm_2 hm
  refine z_cVv (wc := w_BitRow_empty cI cJ qFo qFo_cells Fo_length Fo_cells) (wc' := w_BitRow_empty cI cJ qFo qFo_cells v8 g9) (wr := [(qNr, .inr (5, [Nr_pairs, Nr_distances, Nr_evenRow, Nr_oddRow, .ref qNr_oneIsBetter])), (qNr_oneIsBetter, .inl (cJ, 4096, .inr (.inl Nr_oneIsBetter)))]) (As := []) (rest := []) (c_BitRow_empty l D cI cJ tt qFo qFo_cells _ Fo_length Fo_cells v8 g9 hu) F ok_BitRow_empty rfl k_720 hK hE hP hD hS hA [0, 1] [2, 3] rfl rfl (by decide) (by decide) (by decide) 0 rfl rfl rfl ⟨rfl, rfl, Nat.le_of_ble_eq_true rfl, Nat.le_of_ble_eq_true rfl⟩ ⟨Nat.zero_le _, Nat.zero_le _⟩ rfl hl.1 rfl (Nat.le_of_ble_eq_true rfl) d_Nearest_trace_1 (fun H locs hP hD hS => ?_)
  have hP : va_P D classes (w_Nearest_trace cI cJ qFo qFo_cells qNr qNr_oneIsBetter Nr_pairs Nr_distances Nr_evenRow Nr_oddRow v8 g9 Nr_oneIsBetter) H := hP.sub [2, 3, 0, 1] rfl
  have hD : va_D A (w_Nearest_trace cI cJ qFo qFo_cells qNr qNr_oneIsBetter Nr_pairs Nr_distances Nr_evenRow Nr_oddRow v8 g9 Nr_oneIsBetter) := hD.sub [2, 3, 0, 1] (by decide) rfl
  refine lv_iconst (v := (0 : Int32)) hx hb d_Nearest_trace_4 (by decide) ?_
  refine lv_istore_n (lv' := [(3, .int (0 : Int32)), (0, .ref qNr), (1, .int x1), (2, .ref qFo)]) hx hb d_Nearest_trace_5 rfl hl (by decide) rfl (fun ls hl => ?_)
  refine lv_iconst (v := (0 : Int32)) hx hb d_Nearest_trace_6 (by decide) ?_
  refine lv_istore (lv' := [(4, .int (0 : Int32)), (3, .int (0 : Int32)), (0, .ref qNr), (1, .int x1), (2, .ref qFo)]) hx hb d_Nearest_trace_7 hl (by decide) rfl (fun ls hl => ?_)
  exact T9 10000 x1 (0 : Int32) (0 : Int32) v8 g9 hm _ _ hP hD hS _ (lv_sub hl [2, 3, 4, 1, 0] rfl)
