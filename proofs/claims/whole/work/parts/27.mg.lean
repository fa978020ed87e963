-- DeepChannel.plain(IJ)I
abbrev b_DC_plain : ByteArray := prog_1_method_7_code
abbrev y_DC_plain : MethodName := ⟨"DeepChannel", "plain", "(IJ)I"⟩
theorem d_DC_plain_0 : decode b_DC_plain 0 = .ok (.iload_n 1, 1) := by decide +kernel
theorem d_DC_plain_1 : decode b_DC_plain 1 = .ok (.iconst 1, 1) := by decide +kernel
theorem d_DC_plain_2 : decode b_DC_plain 2 = .ok (.if_icmp .lt 9, 3) := by decide +kernel
theorem d_DC_plain_5 : decode b_DC_plain 5 = .ok (.iload_n 1, 1) := by decide +kernel
theorem d_DC_plain_6 : decode b_DC_plain 6 = .ok (.bipush 64, 2) := by decide +kernel
theorem d_DC_plain_8 : decode b_DC_plain 8 = .ok (.if_icmp .le 13, 3) := by decide +kernel
theorem d_DC_plain_11 : decode b_DC_plain 11 = .ok (.new 71, 3) := by decide +kernel
theorem d_DC_plain_14 : decode b_DC_plain 14 = .ok (.dup, 1) := by decide +kernel
theorem d_DC_plain_15 : decode b_DC_plain 15 = .ok (.ldc 152, 2) := by decide +kernel
theorem d_DC_plain_17 : decode b_DC_plain 17 = .ok (.invokespecial 75, 3) := by decide +kernel
theorem d_DC_plain_20 : decode b_DC_plain 20 = .ok (.athrow, 1) := by decide +kernel
theorem d_DC_plain_21 : decode b_DC_plain 21 = .ok (.aload_n 0, 1) := by decide +kernel
theorem d_DC_plain_22 : decode b_DC_plain 22 = .ok (.getfield 47, 3) := by decide +kernel
theorem d_DC_plain_25 : decode b_DC_plain 25 = .ok (.iload_n 1, 1) := by decide +kernel
theorem d_DC_plain_26 : decode b_DC_plain 26 = .ok (.invokevirtual 145, 3) := by decide +kernel
theorem d_DC_plain_29 : decode b_DC_plain 29 = .ok (.ifCond .ne 5, 3) := by decide +kernel
theorem d_DC_plain_32 : decode b_DC_plain 32 = .ok (.iconst (-1), 1) := by decide +kernel
theorem d_DC_plain_33 : decode b_DC_plain 33 = .ok (.ireturn, 1) := by decide +kernel
theorem d_DC_plain_34 : decode b_DC_plain 34 = .ok (.iconst 0, 1) := by decide +kernel
theorem d_DC_plain_35 : decode b_DC_plain 35 = .ok (.istore 4, 2) := by decide +kernel
theorem d_DC_plain_37 : decode b_DC_plain 37 = .ok (.iload 4, 2) := by decide +kernel
theorem d_DC_plain_39 : decode b_DC_plain 39 = .ok (.iload_n 1, 1) := by decide +kernel
theorem d_DC_plain_40 : decode b_DC_plain 40 = .ok (.if_icmp .ge 23, 3) := by decide +kernel
theorem d_DC_plain_43 : decode b_DC_plain 43 = .ok (.aload_n 0, 1) := by decide +kernel
theorem d_DC_plain_44 : decode b_DC_plain 44 = .ok (.getfield 47, 3) := by decide +kernel
theorem d_DC_plain_47 : decode b_DC_plain 47 = .ok (.lload_n 2, 1) := by decide +kernel
theorem d_DC_plain_48 : decode b_DC_plain 48 = .ok (.iload 4, 2) := by decide +kernel
theorem d_DC_plain_50 : decode b_DC_plain 50 = .ok (.lushr, 1) := by decide +kernel
theorem d_DC_plain_51 : decode b_DC_plain 51 = .ok (.l2i, 1) := by decide +kernel
theorem d_DC_plain_52 : decode b_DC_plain 52 = .ok (.iconst 1, 1) := by decide +kernel
theorem d_DC_plain_53 : decode b_DC_plain 53 = .ok (.iand, 1) := by decide +kernel
theorem d_DC_plain_54 : decode b_DC_plain 54 = .ok (.invokevirtual 154, 3) := by decide +kernel
theorem d_DC_plain_57 : decode b_DC_plain 57 = .ok (.iinc 4 1, 3) := by decide +kernel
theorem d_DC_plain_60 : decode b_DC_plain 60 = .ok (.goto (-23), 3) := by decide +kernel
theorem d_DC_plain_63 : decode b_DC_plain 63 = .ok (.aload_n 0, 1) := by decide +kernel
theorem d_DC_plain_64 : decode b_DC_plain 64 = .ok (.getfield 38, 3) := by decide +kernel
theorem d_DC_plain_67 : decode b_DC_plain 67 = .ok (.invokevirtual 111, 3) := by decide +kernel
theorem d_DC_plain_70 : decode b_DC_plain 70 = .ok (.ireturn, 1) := by decide +kernel
theorem ok_DC_plain : OKv y_DC_plain b_DC_plain 5 (some .int) "DeepChannel" 2 := ⟨k_665, k_663, k_664, k_42, by decide +kernel, by decide +kernel, by decide +kernel⟩
abbrev w_DC_plain (cI cJ : ClassId) (qX qCd qRw qSh qRw_cells : Nat) (X_shape X_words X_mixer X_sender X_receiver Sh_depth Sh_wordBytes Sh_e : Value) (Cd_register : Int32) (Cd_put : Int32) (Rw_length : Int32) (Sh_pattern : Int32) (Rw_cells : Nat → Int64) : va_W := [(qX, .inr (10, [X_shape, X_words, X_mixer, .ref qRw, .ref qCd, X_sender, X_receiver])), (qCd, .inr (1, [.ref qSh, .ref qRw, .int Cd_register, .int Cd_put])), (qRw, .inr (0, [.ref qRw_cells, .int Rw_length])), (qSh, .inr (8, [Sh_depth, Sh_wordBytes, Sh_e, .int Sh_pattern])), (qRw_cells, .inl (cJ, 64, .inr (.inl Rw_cells)))]
def f_DC_plain_63  (Cd_register : Int32) (Cd_put : Int32) (Rw_length : Int32) (Rw_cells : Nat → Int64) : Option (Int32 × Int32 × Int32 × Int32 × (Nat → Int64)) :=
  bd (f_BitRow_size Rw_length) fun u2 =>
  nm u2 fun r1 =>
  some (r1, Cd_register, Cd_put, Rw_length, Rw_cells)
def f_DC_plain_37_b (Sh_pattern : Int32) (kh37 : Int32 → Int64 → Int32 → Int32 → Int32 → Int32 → (Nat → Int64) → Option (Int32 × Int32 × Int32 × Int32 × (Nat → Int64))) (x1 : Int32) (x2 : Int64) (x4 : Int32) (Cd_register : Int32) (Cd_put : Int32) (Rw_length : Int32) (Rw_cells : Nat → Int64) : Option (Int32 × Int32 × Int32 × Int32 × (Nat → Int64)) :=
  if x1 ≤ x4 then
    f_DC_plain_63 Cd_register Cd_put Rw_length Rw_cells
  else
  bd (f_Coder_putBit Cd_register Cd_put Sh_pattern Rw_length Rw_cells (((x2.toUInt64 >>> (x4.toInt64.toUInt64 &&& Int64.toUInt64 63)).toInt64).toInt32 &&& (1 : Int32))) fun u7 =>
  nm u7.1 fun v3 =>
  nm u7.2.1 fun v4 =>
  nm u7.2.2.1 fun v5 =>
  nm u7.2.2.2 fun g6 =>
  nm (x4 + (1 : Int32)) fun v8 =>
  kh37 x1 x2 v8 v3 v4 v5 g6
def f_DC_plain_37 (Sh_pattern : Int32) : Nat → Int32 → Int64 → Int32 → Int32 → Int32 → Int32 → (Nat → Int64) → Option (Int32 × Int32 × Int32 × Int32 × (Nat → Int64))
  | 0 => fun _ _ _ _ _ _ _ => none
  | n + 1 => fun x1 x2 x4 Cd_register Cd_put Rw_length Rw_cells => f_DC_plain_37_b Sh_pattern (f_DC_plain_37 Sh_pattern n) x1 x2 x4 Cd_register Cd_put Rw_length Rw_cells
def f_DC_plain_11  (Cd_register : Int32) (Cd_put : Int32) (Rw_length : Int32) (Rw_cells : Nat → Int64) : Option (Int32 × Int32 × Int32 × Int32 × (Nat → Int64)) :=
  none
def f_DC_plain (Cd_register : Int32) (Cd_put : Int32) (Rw_length : Int32) (Sh_pattern : Int32) (Rw_cells : Nat → Int64) (x1 : Int32) (x2 : Int64) : Option (Int32 × Int32 × Int32 × Int32 × (Nat → Int64)) :=
  if x1 < (1 : Int32) then
    f_DC_plain_11 Cd_register Cd_put Rw_length Rw_cells
  else
  if x1 ≤ (64 : Int32) then
    bd (f_Coder_hasRoomFor Cd_put Rw_length Sh_pattern x1) fun u10 =>
    nm u10 fun r9 =>
    if r9 = 0 then
      some ((-1 : Int32), Cd_register, Cd_put, Rw_length, Rw_cells)
    else
    f_DC_plain_37 Sh_pattern 10000 x1 x2 (0 : Int32) Cd_register Cd_put Rw_length Rw_cells
  else
  f_DC_plain_11 Cd_register Cd_put Rw_length Rw_cells
set_option maxHeartbeats 4000000 in
set_option maxRecDepth 100000 in
theorem c_DC_plain (l : Launch) (D : va_G) (cI cJ : ClassId) (tt : Nat → Nat) (qX qCd qRw qSh qRw_cells : Nat) (X_shape X_words X_mixer X_sender X_receiver Sh_depth Sh_wordBytes Sh_e : Value) (sz : Nat) (Cd_register : Int32) (Cd_put : Int32) (Rw_length : Int32) (Sh_pattern : Int32) (Rw_cells : Nat → Int64) (x1 : Int32) (x2 : Int64) (rr : Int32) (Cd_register' : Int32) (Cd_put' : Int32) (Rw_length' : Int32) (Rw_cells' : Nat → Int64) (hm : f_DC_plain Cd_register Cd_put Rw_length Sh_pattern Rw_cells x1 x2 = some (rr, Cd_register', Cd_put', Rw_length', Rw_cells')) : CTi l y_DC_plain b_DC_plain 5 (some .int) (RM 3 65) D cI cJ tt [.ref qX, .int x1, .long x2] (w_DC_plain cI cJ qX qCd qRw qSh qRw_cells X_shape X_words X_mixer X_sender X_receiver Sh_depth Sh_wordBytes Sh_e Cd_register Cd_put Rw_length Sh_pattern Rw_cells) (w_DC_plain cI cJ qX qCd qRw qSh qRw_cells X_shape X_words X_mixer X_sender X_receiver Sh_depth Sh_wordBytes Sh_e Cd_register' Cd_put' Rw_length' Sh_pattern Rw_cells') sz rr := by
  refine Met.ofW (cc := b_DC_plain) (maxL := 5) (ret := (some .int)) (by decide) rfl ?_
  intro p e s m args below meth c s₁ B hml hv
  obtain ⟨hargs, hsz, hP, hK, hD0, hE⟩ := hv
  have hx := B.exec
  have hb := B.bytes
  have hr := B.returns
  have hts : ∀ w ∈ TB, w.before args s = true := z_mV s (atoms_spec (ws := WD y_DC_plain b_DC_plain 5 (some .int)) B.pre)
  have hown : s.vm.findClass "DeepChannel" = some m.cls := findClass_of_methodNamed B.named
  have hlocks := B.notSynchronized
  subst hsz
  have hD := hD0.self (sz := s.heap.size)
  generalize hAe : va_A (w_DC_plain cI cJ qX qCd qRw qSh qRw_cells X_shape X_words X_mixer X_sender X_receiver Sh_depth Sh_wordBytes Sh_e Cd_register Cd_put Rw_length Sh_pattern Rw_cells) s.heap.size = A at hD hE ⊢
  have hA : ∀ q : Nat, s.heap.size ≤ q → A q := fun q h => by rw [← hAe]; exact Or.inr h
  have hS : va_S A s.heap s.heap [] := va_S.rf
  refine z_entry (vs := [.ref qX, .int x1, .long x2]) hargs (Nat.le_of_ble_eq_true rfl) (fun ls hl => ?_)
  have hl : lv_has ls 5 [(0, .ref qX), (1, .int x1), (2, .long x2)] := hl
  show W p l e (RM 3 65) s m args below meth c s.heap [] 0 0 _ _
  refine z_qi (fun Q0 hQ => ?_)
  have F : CallFix p m c b_DC_plain 5 s args TB "DeepChannel" := ⟨hx, hb, hml, hown, hts⟩
  have T63 : ∀ (Cd_register : Int32) (Cd_put : Int32) (Rw_length : Int32) (Rw_cells : Nat → Int64), f_DC_plain_63 Cd_register Cd_put Rw_length Rw_cells = some (rr, Cd_register', Cd_put', Rw_length', Rw_cells') → ∀ (H : Heap) (locs : List Loc), va_P D classes (w_DC_plain cI cJ qX qCd qRw qSh qRw_cells X_shape X_words X_mixer X_sender X_receiver Sh_depth Sh_wordBytes Sh_e Cd_register Cd_put Rw_length Sh_pattern Rw_cells) H → va_D A (w_DC_plain cI cJ qX qCd qRw qSh qRw_cells X_shape X_words X_mixer X_sender X_receiver Sh_depth Sh_wordBytes Sh_e Cd_register Cd_put Rw_length Sh_pattern Rw_cells) → va_S A s.heap H locs → ∀ (ls : Array Slot), lv_has ls 5 [(0, .ref qX)] → W p l e (RM 3 65) s m args below meth c H locs 0 0 Q0 (F0 m 63 ls []) := by
    intro Cd_register Cd_put Rw_length Rw_cells hm H locs hP hD hS ls hl
    unfold f_DC_plain_63 at hm
    refine lv_aload_n hx hb d_DC_plain_63 rfl (lv_at hl 0 rfl) ?_
    refine va_get (D := D) (ci := 10) (v := .ref qRw) (C := "DeepChannel") (T := fT_DC) (N := 7) hx hb hts u_DC hown hK hP 0 rfl rfl 3 (by decide) (hts _ k_344) (fun _ h9 => h9) rfl d_DC_plain_64 ?_
    obtain ⟨r1, hu, hm⟩ := bd_el hm
    replace hm := nm_1 hm
    refine z_cVi (wc := w_BitRow_size cI cJ qRw (.ref qRw_cells) Rw_length) (wc' := w_BitRow_size cI cJ qRw (.ref qRw_cells) Rw_length) (wr := [(qX, .inr (10, [X_shape, X_words, X_mixer, .ref qRw, .ref qCd, X_sender, X_receiver])), (qCd, .inr (1, [.ref qSh, .ref qRw, .int Cd_register, .int Cd_put])), (qSh, .inr (8, [Sh_depth, Sh_wordBytes, Sh_e, .int Sh_pattern])), (qRw_cells, .inl (cJ, 64, .inr (.inl Rw_cells)))]) (As := []) (rest := []) (c_BitRow_size l D cI cJ tt qRw (.ref qRw_cells) _ Rw_length r1 hu) F ok_BitRow_size rfl k_530 hK hE hP hD hS hA [2] [0, 1, 3, 4] rfl rfl (by decide) (by decide) (by decide) 0 rfl rfl rfl ⟨rfl, rfl, Nat.le_of_ble_eq_true rfl, Nat.le_of_ble_eq_true rfl⟩ ⟨Nat.zero_le _, Nat.zero_le _⟩ rfl hl.1 rfl (Nat.le_of_ble_eq_true rfl) d_DC_plain_67 (fun H locs hP hD hS => ?_)
    have hP : va_P D classes (w_DC_plain cI cJ qX qCd qRw qSh qRw_cells X_shape X_words X_mixer X_sender X_receiver Sh_depth Sh_wordBytes Sh_e Cd_register Cd_put Rw_length Sh_pattern Rw_cells) H := hP.sub [0, 1, 4, 2, 3] rfl
    have hD : va_D A (w_DC_plain cI cJ qX qCd qRw qSh qRw_cells X_shape X_words X_mixer X_sender X_receiver Sh_depth Sh_wordBytes Sh_e Cd_register Cd_put Rw_length Sh_pattern Rw_cells) := hD.sub [0, 1, 4, 2, 3] (by decide) rfl
    cases hm
    exact z_qo hQ (z_ireti hr hx hb hlocks hK hP hD hS d_DC_plain_70)
  have T37 : ∀ (n37 : Nat) (x1 : Int32) (x2 : Int64) (x4 : Int32) (Cd_register : Int32) (Cd_put : Int32) (Rw_length : Int32) (Rw_cells : Nat → Int64), f_DC_plain_37 Sh_pattern n37 x1 x2 x4 Cd_register Cd_put Rw_length Rw_cells = some (rr, Cd_register', Cd_put', Rw_length', Rw_cells') → ∀ (H : Heap) (locs : List Loc), va_P D classes (w_DC_plain cI cJ qX qCd qRw qSh qRw_cells X_shape X_words X_mixer X_sender X_receiver Sh_depth Sh_wordBytes Sh_e Cd_register Cd_put Rw_length Sh_pattern Rw_cells) H → va_D A (w_DC_plain cI cJ qX qCd qRw qSh qRw_cells X_shape X_words X_mixer X_sender X_receiver Sh_depth Sh_wordBytes Sh_e Cd_register Cd_put Rw_length Sh_pattern Rw_cells) → va_S A s.heap H locs → ∀ (ls : Array Slot), lv_has ls 5 [(0, .ref qX), (1, .int x1), (2, .long x2), (4, .int x4)] → W p l e (RM 3 65) s m args below meth c H locs 0 0 Q0 (F0 m 37 ls []) := by
    intro n37
    induction n37 with
    | zero => intro x1 x2 x4 Cd_register Cd_put Rw_length Rw_cells hm; cases hm
    | succ n37 ih37 =>
      intro x1 x2 x4 Cd_register Cd_put Rw_length Rw_cells hm H locs hP hD hS ls hl
      replace hm : f_DC_plain_37_b Sh_pattern (f_DC_plain_37 Sh_pattern n37) x1 x2 x4 Cd_register Cd_put Rw_length Rw_cells = some (rr, Cd_register', Cd_put', Rw_length', Rw_cells') := hm
      unfold f_DC_plain_37_b at hm
      refine lv_iload hx hb d_DC_plain_37 (lv_at hl 3 rfl) ?_
      refine lv_iload_n hx hb d_DC_plain_39 rfl (lv_at hl 1 rfl) ?_
      refine z_if hm (lv_icmp_ge (tgt := 63) hx hb d_DC_plain_40 (by decide)) (fun hm => ?_) (fun hm => ?_)
      · exact T63 Cd_register Cd_put Rw_length Rw_cells hm _ _ hP hD hS _ (lv_sub hl [0] rfl)
      · refine lv_aload_n hx hb d_DC_plain_43 rfl (lv_at hl 0 rfl) ?_
        refine va_get (D := D) (ci := 10) (v := .ref qCd) (C := "DeepChannel") (T := fT_DC) (N := 7) hx hb hts u_DC hown hK hP 0 rfl rfl 4 (by decide) (hts _ k_345) (fun _ h9 => h9) rfl d_DC_plain_44 ?_
        refine lv_lload_n hx hb d_DC_plain_47 rfl (lv_at hl 2 rfl) ?_
        refine lv_iload hx hb d_DC_plain_48 (lv_at hl 3 rfl) ?_
        refine lv_lushr (v := ((x2.toUInt64 >>> (x4.toInt64.toUInt64 &&& Int64.toUInt64 63)).toInt64)) hx hb d_DC_plain_50 rfl ?_
        refine lv_l2i (v := ((x2.toUInt64 >>> (x4.toInt64.toUInt64 &&& Int64.toUInt64 63)).toInt64).toInt32) hx hb d_DC_plain_51 rfl ?_
        refine lv_iconst (v := (1 : Int32)) hx hb d_DC_plain_52 (by decide) ?_
        refine lv_iand hx hb d_DC_plain_53 ?_
        obtain ⟨⟨v3, v4, v5, g6⟩, hu, hm⟩ := bd_el hm
        replace hm := nm_4 hm
        refine z_cVv (wc := w_Coder_putBit cI cJ qCd qSh qRw qRw_cells Sh_depth Sh_wordBytes Sh_e Cd_register Cd_put Sh_pattern Rw_length Rw_cells) (wc' := w_Coder_putBit cI cJ qCd qSh qRw qRw_cells Sh_depth Sh_wordBytes Sh_e v3 v4 Sh_pattern v5 g6) (wr := [(qX, .inr (10, [X_shape, X_words, X_mixer, .ref qRw, .ref qCd, X_sender, X_receiver]))]) (As := [.int (((x2.toUInt64 >>> (x4.toInt64.toUInt64 &&& Int64.toUInt64 63)).toInt64).toInt32 &&& (1 : Int32))]) (rest := []) (c_Coder_putBit l D cI cJ tt qCd qSh qRw qRw_cells Sh_depth Sh_wordBytes Sh_e _ Cd_register Cd_put Sh_pattern Rw_length Rw_cells (((x2.toUInt64 >>> (x4.toInt64.toUInt64 &&& Int64.toUInt64 63)).toInt64).toInt32 &&& (1 : Int32)) v3 v4 v5 g6 hu) F ok_Coder_putBit rfl k_667 hK hE hP hD hS hA [1, 3, 2, 4] [0] rfl rfl (by decide) (by decide) (by decide) 0 rfl rfl rfl ⟨rfl, rfl, Nat.le_of_ble_eq_true rfl, Nat.le_of_ble_eq_true rfl⟩ ⟨Nat.zero_le _, Nat.zero_le _⟩ rfl hl.1 rfl (Nat.le_of_ble_eq_true rfl) d_DC_plain_54 (fun H locs hP hD hS => ?_)
        have hP : va_P D classes (w_DC_plain cI cJ qX qCd qRw qSh qRw_cells X_shape X_words X_mixer X_sender X_receiver Sh_depth Sh_wordBytes Sh_e v3 v4 v5 Sh_pattern g6) H := hP.sub [0, 1, 3, 2, 4] rfl
        have hD : va_D A (w_DC_plain cI cJ qX qCd qRw qSh qRw_cells X_shape X_words X_mixer X_sender X_receiver Sh_depth Sh_wordBytes Sh_e v3 v4 v5 Sh_pattern g6) := hD.sub [0, 1, 3, 2, 4] (by decide) rfl
        obtain ⟨v8, ev, hm⟩ := nm_el hm
        refine lv_iinc (v := v8) (lv' := [(4, .int v8), (0, .ref qX), (1, .int x1), (2, .long x2)]) hx hb d_DC_plain_57 hl (k := 3) rfl (by rw [ev]; rfl) (by decide) rfl (fun ls hl => ?_)
        refine lv_goto (tgt := 37) hx hb d_DC_plain_60 (by decide) ?_
        exact ih37 x1 x2 v8 v3 v4 v5 g6 hm _ _ hP hD hS _ (lv_sub hl [1, 2, 3, 0] rfl)
  have T11 : ∀ (Cd_register : Int32) (Cd_put : Int32) (Rw_length : Int32) (Rw_cells : Nat → Int64), f_DC_plain_11 Cd_register Cd_put Rw_length Rw_cells = some (rr, Cd_register', Cd_put', Rw_length', Rw_cells') → ∀ (H : Heap) (locs : List Loc), va_P D classes (w_DC_plain cI cJ qX qCd qRw qSh qRw_cells X_shape X_words X_mixer X_sender X_receiver Sh_depth Sh_wordBytes Sh_e Cd_register Cd_put Rw_length Sh_pattern Rw_cells) H → va_D A (w_DC_plain cI cJ qX qCd qRw qSh qRw_cells X_shape X_words X_mixer X_sender X_receiver Sh_depth Sh_wordBytes Sh_e Cd_register Cd_put Rw_length Sh_pattern Rw_cells) → va_S A s.heap H locs → ∀ (ls : Array Slot), lv_has ls 5 [] → W p l e (RM 3 65) s m args below meth c H locs 0 0 Q0 (F0 m 11 ls []) := by
    intro Cd_register Cd_put Rw_length Rw_cells hm H locs hP hD hS ls hl
    unfold f_DC_plain_11 at hm
    cases hm
  unfold f_DC_plain at hm
  refine lv_iload_n hx hb d_DC_plain_0 rfl (lv_at hl 1 rfl) ?_
  refine lv_iconst (v := (1 : Int32)) hx hb d_DC_plain_1 (by decide) ?_
  refine z_if hm (lv_icmp_lt (tgt := 11) hx hb d_DC_plain_2 (by decide)) (fun hm => ?_) (fun hm => ?_)
  · exact T11 Cd_register Cd_put Rw_length Rw_cells hm _ _ hP hD hS _ (lv_sub hl [] rfl)
  · refine lv_iload_n hx hb d_DC_plain_5 rfl (lv_at hl 1 rfl) ?_
    refine lv_bipush (v := (64 : Int32)) hx hb d_DC_plain_6 (by decide) ?_
    refine z_if hm (lv_icmp_le (tgt := 21) hx hb d_DC_plain_8 (by decide)) (fun hm => ?_) (fun hm => ?_)
    · refine lv_aload_n hx hb d_DC_plain_21 rfl (lv_at hl 0 rfl) ?_
      refine va_get (D := D) (ci := 10) (v := .ref qCd) (C := "DeepChannel") (T := fT_DC) (N := 7) hx hb hts u_DC hown hK hP 0 rfl rfl 4 (by decide) (hts _ k_345) (fun _ h9 => h9) rfl d_DC_plain_22 ?_
      refine lv_iload_n hx hb d_DC_plain_25 rfl (lv_at hl 1 rfl) ?_
      obtain ⟨r9, hu, hm⟩ := bd_el hm
      replace hm := nm_1 hm
      refine z_cVi (wc := w_Coder_hasRoomFor cI cJ qCd qRw qSh (.int Cd_register) (.ref qRw_cells) Sh_depth Sh_wordBytes Sh_e Cd_put Rw_length Sh_pattern) (wc' := w_Coder_hasRoomFor cI cJ qCd qRw qSh (.int Cd_register) (.ref qRw_cells) Sh_depth Sh_wordBytes Sh_e Cd_put Rw_length Sh_pattern) (wr := [(qX, .inr (10, [X_shape, X_words, X_mixer, .ref qRw, .ref qCd, X_sender, X_receiver])), (qRw_cells, .inl (cJ, 64, .inr (.inl Rw_cells)))]) (As := [.int x1]) (rest := []) (c_Coder_hasRoomFor l D cI cJ tt qCd qRw qSh (.int Cd_register) (.ref qRw_cells) Sh_depth Sh_wordBytes Sh_e _ Cd_put Rw_length Sh_pattern x1 r9 hu) F ok_Coder_hasRoomFor rfl k_593 hK hE hP hD hS hA [1, 2, 3] [0, 4] rfl rfl (by decide) (by decide) (by decide) 0 rfl rfl rfl ⟨rfl, rfl, Nat.le_of_ble_eq_true rfl, Nat.le_of_ble_eq_true rfl⟩ ⟨Nat.zero_le _, Nat.zero_le _⟩ rfl hl.1 rfl (Nat.le_of_ble_eq_true rfl) d_DC_plain_26 (fun H locs hP hD hS => ?_)
      have hP : va_P D classes (w_DC_plain cI cJ qX qCd qRw qSh qRw_cells X_shape X_words X_mixer X_sender X_receiver Sh_depth Sh_wordBytes Sh_e Cd_register Cd_put Rw_length Sh_pattern Rw_cells) H := hP.sub [0, 2, 3, 4, 1] rfl
      have hD : va_D A (w_DC_plain cI cJ qX qCd qRw qSh qRw_cells X_shape X_words X_mixer X_sender X_receiver Sh_depth Sh_wordBytes Sh_e Cd_register Cd_put Rw_length Sh_pattern Rw_cells) := hD.sub [0, 2, 3, 4, 1] (by decide) rfl
      refine z_ifn hm (lv_if_ne (tgt := 34) hx hb d_DC_plain_29 (by decide)) (fun hm => ?_) (fun hm => ?_)
      · refine lv_iconst (v := (-1 : Int32)) hx hb d_DC_plain_32 (by decide) ?_
        cases hm
        exact z_qo hQ (z_ireti hr hx hb hlocks hK hP hD hS d_DC_plain_33)
      · refine lv_iconst (v := (0 : Int32)) hx hb d_DC_plain_34 (by decide) ?_
        refine lv_istore (lv' := [(4, .int (0 : Int32)), (0, .ref qX), (1, .int x1), (2, .long x2)]) hx hb d_DC_plain_35 hl (by decide) rfl (fun ls hl => ?_)
        exact T37 10000 x1 x2 (0 : Int32) Cd_register Cd_put Rw_length Rw_cells hm _ _ hP hD hS _ (lv_sub hl [1, 2, 3, 0] rfl)
    · exact T11 Cd_register Cd_put Rw_length Rw_cells hm _ _ hP hD hS _ (lv_sub hl [] rfl)
-- DeepChannel.send(I)I
abbrev b_DC_send : ByteArray := prog_1_method_6_code
abbrev y_DC_send : MethodName := ⟨"DeepChannel", "send", "(I)I"⟩
theorem d_DC_send_0 : decode b_DC_send 0 = .ok (.iload_n 1, 1) := by decide +kernel
theorem d_DC_send_1 : decode b_DC_send 1 = .ok (.invokestatic 134, 3) := by decide +kernel
theorem d_DC_send_4 : decode b_DC_send 4 = .ok (.ifCond .ne 13, 3) := by decide +kernel
theorem d_DC_send_7 : decode b_DC_send 7 = .ok (.new 71, 3) := by decide +kernel
theorem d_DC_send_10 : decode b_DC_send 10 = .ok (.dup, 1) := by decide +kernel
theorem d_DC_send_11 : decode b_DC_send 11 = .ok (.ldc 138, 2) := by decide +kernel
theorem d_DC_send_13 : decode b_DC_send 13 = .ok (.invokespecial 75, 3) := by decide +kernel
theorem d_DC_send_16 : decode b_DC_send 16 = .ok (.athrow, 1) := by decide +kernel
theorem d_DC_send_17 : decode b_DC_send 17 = .ok (.aload_n 0, 1) := by decide +kernel
theorem d_DC_send_18 : decode b_DC_send 18 = .ok (.getfield 56, 3) := by decide +kernel
theorem d_DC_send_21 : decode b_DC_send 21 = .ok (.invokevirtual 114, 3) := by decide +kernel
theorem d_DC_send_24 : decode b_DC_send 24 = .ok (.aload_n 0, 1) := by decide +kernel
theorem d_DC_send_25 : decode b_DC_send 25 = .ok (.getfield 10, 3) := by decide +kernel
theorem d_DC_send_28 : decode b_DC_send 28 = .ok (.invokevirtual 105, 3) := by decide +kernel
theorem d_DC_send_31 : decode b_DC_send 31 = .ok (.if_icmp .eq 13, 3) := by decide +kernel
theorem d_DC_send_34 : decode b_DC_send 34 = .ok (.new 140, 3) := by decide +kernel
theorem d_DC_send_37 : decode b_DC_send 37 = .ok (.dup, 1) := by decide +kernel
theorem d_DC_send_38 : decode b_DC_send 38 = .ok (.ldc 142, 2) := by decide +kernel
theorem d_DC_send_40 : decode b_DC_send 40 = .ok (.invokespecial 144, 3) := by decide +kernel
theorem d_DC_send_43 : decode b_DC_send 43 = .ok (.athrow, 1) := by decide +kernel
theorem d_DC_send_44 : decode b_DC_send 44 = .ok (.aload_n 0, 1) := by decide +kernel
theorem d_DC_send_45 : decode b_DC_send 45 = .ok (.getfield 47, 3) := by decide +kernel
theorem d_DC_send_48 : decode b_DC_send 48 = .ok (.bipush 32, 2) := by decide +kernel
theorem d_DC_send_50 : decode b_DC_send 50 = .ok (.bipush 8, 2) := by decide +kernel
theorem d_DC_send_52 : decode b_DC_send 52 = .ok (.aload_n 0, 1) := by decide +kernel
theorem d_DC_send_53 : decode b_DC_send 53 = .ok (.getfield 10, 3) := by decide +kernel
theorem d_DC_send_56 : decode b_DC_send 56 = .ok (.invokevirtual 108, 3) := by decide +kernel
theorem d_DC_send_59 : decode b_DC_send 59 = .ok (.imul, 1) := by decide +kernel
theorem d_DC_send_60 : decode b_DC_send 60 = .ok (.iadd, 1) := by decide +kernel
theorem d_DC_send_61 : decode b_DC_send 61 = .ok (.invokevirtual 145, 3) := by decide +kernel
theorem d_DC_send_64 : decode b_DC_send 64 = .ok (.ifCond .ne 5, 3) := by decide +kernel
theorem d_DC_send_67 : decode b_DC_send 67 = .ok (.iconst (-1), 1) := by decide +kernel
theorem d_DC_send_68 : decode b_DC_send 68 = .ok (.ireturn, 1) := by decide +kernel
theorem d_DC_send_69 : decode b_DC_send 69 = .ok (.aload_n 0, 1) := by decide +kernel
theorem d_DC_send_70 : decode b_DC_send 70 = .ok (.getfield 56, 3) := by decide +kernel
theorem d_DC_send_73 : decode b_DC_send 73 = .ok (.iload_n 1, 1) := by decide +kernel
theorem d_DC_send_74 : decode b_DC_send 74 = .ok (.aload_n 0, 1) := by decide +kernel
theorem d_DC_send_75 : decode b_DC_send 75 = .ok (.getfield 47, 3) := by decide +kernel
theorem d_DC_send_78 : decode b_DC_send 78 = .ok (.invokevirtual 148, 3) := by decide +kernel
theorem d_DC_send_81 : decode b_DC_send 81 = .ok (.aload_n 0, 1) := by decide +kernel
theorem d_DC_send_82 : decode b_DC_send 82 = .ok (.getfield 38, 3) := by decide +kernel
theorem d_DC_send_85 : decode b_DC_send 85 = .ok (.invokevirtual 111, 3) := by decide +kernel
theorem d_DC_send_88 : decode b_DC_send 88 = .ok (.ireturn, 1) := by decide +kernel
theorem ok_DC_send : OKv y_DC_send b_DC_send 2 (some .int) "DeepChannel" 1 := ⟨k_572, k_570, k_571, k_42, by decide +kernel, by decide +kernel, by decide +kernel⟩
abbrev w_DC_send (cI cJ : ClassId) (qX qSd qSh qCd qRw qSd_bytes qSd_channelCounts qWd qWd_remainder qFd qFd_otherForms qFd_elements qWd_generator qFd_logs qFd_powers qRw_cells qMx qMx_bytes : Nat) (X_words X_mixer X_receiver Wd_coefficients Wd_syndromes Wd_locator : Value) (Sd_masterCount : Int32) (Sd_craft : Int32) (Sd_dataCount : Int32) (Sh_depth : Int32) (Sh_wordBytes : Int32) (Sh_e : Int32) (Sh_pattern : Int32) (Cd_register : Int32) (Cd_put : Int32) (Rw_length : Int32) (Sd_bytes : Nat → Int32) (Sd_channelCounts : Nat → Int32) (Wd_remainder : Nat → Int32) (Fd_otherForms : Nat → Int32) (Fd_elements : Nat → Int32) (Wd_generator : Nat → Int32) (Fd_logs : Nat → Int32) (Fd_powers : Nat → Int32) (Rw_cells : Nat → Int64) (Mx_bytes : Nat → Int32) : va_W := [(qX, .inr (10, [.ref qSh, X_words, X_mixer, .ref qRw, .ref qCd, .ref qSd, X_receiver])), (qSd, .inr (7, [.ref qSh, .ref qWd, .ref qMx, .ref qSd_bytes, .ref qSd_channelCounts, .int Sd_masterCount, .int Sd_craft, .int Sd_dataCount])), (qSh, .inr (8, [.int Sh_depth, .int Sh_wordBytes, .int Sh_e, .int Sh_pattern])), (qCd, .inr (1, [.ref qSh, .ref qRw, .int Cd_register, .int Cd_put])), (qRw, .inr (0, [.ref qRw_cells, .int Rw_length])), (qSd_bytes, .inl (cI, 250, .inl Sd_bytes)), (qSd_channelCounts, .inl (cI, 8, .inl Sd_channelCounts)), (qWd, .inr (9, [.ref qSh, .ref qFd, .ref qWd_generator, .ref qWd_remainder, Wd_coefficients, Wd_syndromes, Wd_locator])), (qWd_remainder, .inl (cI, 32, .inl Wd_remainder)), (qFd, .inr (2, [.ref qFd_powers, .ref qFd_logs, .ref qFd_otherForms, .ref qFd_elements])), (qFd_otherForms, .inl (cI, 256, .inl Fd_otherForms)), (qFd_elements, .inl (cI, 256, .inl Fd_elements)), (qWd_generator, .inl (cI, 33, .inl Wd_generator)), (qFd_logs, .inl (cI, 256, .inl Fd_logs)), (qFd_powers, .inl (cI, 255, .inl Fd_powers)), (qRw_cells, .inl (cJ, 64, .inr (.inl Rw_cells))), (qMx, .inr (4, [.ref qMx_bytes])), (qMx_bytes, .inl (cI, 250, .inl Mx_bytes))]
def f_DC_send (Sd_masterCount : Int32) (Sd_craft : Int32) (Sd_dataCount : Int32) (Sh_depth : Int32) (Sh_wordBytes : Int32) (Sh_e : Int32) (Sh_pattern : Int32) (Cd_register : Int32) (Cd_put : Int32) (Rw_length : Int32) (Sd_bytes : Nat → Int32) (Sd_channelCounts : Nat → Int32) (Wd_remainder : Nat → Int32) (Fd_otherForms : Nat → Int32) (Fd_elements : Nat → Int32) (Wd_generator : Nat → Int32) (Fd_logs : Nat → Int32) (Fd_powers : Nat → Int32) (Rw_cells : Nat → Int64) (Mx_bytes : Nat → Int32) (x1 : Int32) : Option (Int32 × Int32 × Int32 × Int32 × Int32 × Int32 × (Nat → Int32) × (Nat → Int32) × (Nat → Int32) × (Nat → Int64)) :=
  bd (f_DC_isChannel x1) fun u2 =>
  nm u2 fun r1 =>
  if r1 = 0 then
    none
  else
  bd (f_Sender_waiting Sd_dataCount) fun u4 =>
  nm u4 fun r3 =>
  bd (f_Shape_dataBytes Sh_depth Sh_wordBytes Sh_e) fun u6 =>
  nm u6 fun r5 =>
  if r3 = r5 then
    bd (f_Shape_blockBytes Sh_depth Sh_wordBytes) fun u8 =>
    nm u8 fun r7 =>
    bd (f_Coder_hasRoomFor Cd_put Rw_length Sh_pattern ((32 : Int32) + ((8 : Int32) * r7))) fun u10 =>
    nm u10 fun r9 =>
    if r9 = 0 then
      some ((-1 : Int32), Sd_masterCount, Sd_dataCount, Cd_register, Cd_put, Rw_length, Sd_bytes, Sd_channelCounts, Wd_remainder, Rw_cells)
    else
    bd (f_Sender_sendFrame Sd_masterCount Sd_craft Sd_dataCount Sd_bytes Sd_channelCounts Sh_depth Sh_wordBytes Sh_e Sh_pattern Wd_remainder Fd_otherForms Fd_elements Wd_generator Fd_logs Fd_powers Cd_register Cd_put Rw_length Rw_cells Mx_bytes x1) fun u20 =>
    nm u20.1 fun v11 =>
    nm u20.2.1 fun v12 =>
    nm u20.2.2.1 fun g13 =>
    nm u20.2.2.2.1 fun g14 =>
    nm u20.2.2.2.2.1 fun g15 =>
    nm u20.2.2.2.2.2.1 fun v16 =>
    nm u20.2.2.2.2.2.2.1 fun v17 =>
    nm u20.2.2.2.2.2.2.2.1 fun v18 =>
    nm u20.2.2.2.2.2.2.2.2 fun g19 =>
    bd (f_BitRow_size v18) fun u22 =>
    nm u22 fun r21 =>
    some (r21, v11, v12, v16, v17, v18, g13, g14, g15, g19)
  else
  none
set_option maxHeartbeats 4000000 in
set_option maxRecDepth 100000 in
theorem c_DC_send (l : Launch) (D : va_G) (cI cJ : ClassId) (tt : Nat → Nat) (qX qSd qSh qCd qRw qSd_bytes qSd_channelCounts qWd qWd_remainder qFd qFd_otherForms qFd_elements qWd_generator qFd_logs qFd_powers qRw_cells qMx qMx_bytes : Nat) (X_words X_mixer X_receiver Wd_coefficients Wd_syndromes Wd_locator : Value) (sz : Nat) (Sd_masterCount : Int32) (Sd_craft : Int32) (Sd_dataCount : Int32) (Sh_depth : Int32) (Sh_wordBytes : Int32) (Sh_e : Int32) (Sh_pattern : Int32) (Cd_register : Int32) (Cd_put : Int32) (Rw_length : Int32) (Sd_bytes : Nat → Int32) (Sd_channelCounts : Nat → Int32) (Wd_remainder : Nat → Int32) (Fd_otherForms : Nat → Int32) (Fd_elements : Nat → Int32) (Wd_generator : Nat → Int32) (Fd_logs : Nat → Int32) (Fd_powers : Nat → Int32) (Rw_cells : Nat → Int64) (Mx_bytes : Nat → Int32) (x1 : Int32) (rr : Int32) (Sd_masterCount' : Int32) (Sd_dataCount' : Int32) (Cd_register' : Int32) (Cd_put' : Int32) (Rw_length' : Int32) (Sd_bytes' : Nat → Int32) (Sd_channelCounts' : Nat → Int32) (Wd_remainder' : Nat → Int32) (Rw_cells' : Nat → Int64) (hm : f_DC_send Sd_masterCount Sd_craft Sd_dataCount Sh_depth Sh_wordBytes Sh_e Sh_pattern Cd_register Cd_put Rw_length Sd_bytes Sd_channelCounts Wd_remainder Fd_otherForms Fd_elements Wd_generator Fd_logs Fd_powers Rw_cells Mx_bytes x1 = some (rr, Sd_masterCount', Sd_dataCount', Cd_register', Cd_put', Rw_length', Sd_bytes', Sd_channelCounts', Wd_remainder', Rw_cells')) : CTi l y_DC_send b_DC_send 2 (some .int) (RM 5 113) D cI cJ tt [.ref qX, .int x1] (w_DC_send cI cJ qX qSd qSh qCd qRw qSd_bytes qSd_channelCounts qWd qWd_remainder qFd qFd_otherForms qFd_elements qWd_generator qFd_logs qFd_powers qRw_cells qMx qMx_bytes X_words X_mixer X_receiver Wd_coefficients Wd_syndromes Wd_locator Sd_masterCount Sd_craft Sd_dataCount Sh_depth Sh_wordBytes Sh_e Sh_pattern Cd_register Cd_put Rw_length Sd_bytes Sd_channelCounts Wd_remainder Fd_otherForms Fd_elements Wd_generator Fd_logs Fd_powers Rw_cells Mx_bytes) (w_DC_send cI cJ qX qSd qSh qCd qRw qSd_bytes qSd_channelCounts qWd qWd_remainder qFd qFd_otherForms qFd_elements qWd_generator qFd_logs qFd_powers qRw_cells qMx qMx_bytes X_words X_mixer X_receiver Wd_coefficients Wd_syndromes Wd_locator Sd_masterCount' Sd_craft Sd_dataCount' Sh_depth Sh_wordBytes Sh_e Sh_pattern Cd_register' Cd_put' Rw_length' Sd_bytes' Sd_channelCounts' Wd_remainder' Fd_otherForms Fd_elements Wd_generator Fd_logs Fd_powers Rw_cells' Mx_bytes) sz rr := by
  refine Met.ofW (cc := b_DC_send) (maxL := 2) (ret := (some .int)) (by decide) rfl ?_
  intro p e s m args below meth c s₁ B hml hv
  obtain ⟨hargs, hsz, hP, hK, hD0, hE⟩ := hv
  have hx := B.exec
  have hb := B.bytes
  have hr := B.returns
  have hts : ∀ w ∈ TB, w.before args s = true := z_mV s (atoms_spec (ws := WD y_DC_send b_DC_send 2 (some .int)) B.pre)
  have hown : s.vm.findClass "DeepChannel" = some m.cls := findClass_of_methodNamed B.named
  have hlocks := B.notSynchronized
  subst hsz
  have hD := hD0.self (sz := s.heap.size)
  generalize hAe : va_A (w_DC_send cI cJ qX qSd qSh qCd qRw qSd_bytes qSd_channelCounts qWd qWd_remainder qFd qFd_otherForms qFd_elements qWd_generator qFd_logs qFd_powers qRw_cells qMx qMx_bytes X_words X_mixer X_receiver Wd_coefficients Wd_syndromes Wd_locator Sd_masterCount Sd_craft Sd_dataCount Sh_depth Sh_wordBytes Sh_e Sh_pattern Cd_register Cd_put Rw_length Sd_bytes Sd_channelCounts Wd_remainder Fd_otherForms Fd_elements Wd_generator Fd_logs Fd_powers Rw_cells Mx_bytes) s.heap.size = A at hD hE ⊢
  have hA : ∀ q : Nat, s.heap.size ≤ q → A q := fun q h => by rw [← hAe]; exact Or.inr h
  have hS : va_S A s.heap s.heap [] := va_S.rf
  refine z_entry (vs := [.ref qX, .int x1]) hargs (Nat.le_of_ble_eq_true rfl) (fun ls hl => ?_)
  have hl : lv_has ls 2 [(0, .ref qX), (1, .int x1)] := hl
  show W p l e (RM 5 113) s m args below meth c s.heap [] 0 0 _ _
  refine z_qi (fun Q0 hQ => ?_)
  have F : CallFix p m c b_DC_send 2 s args TB "DeepChannel" := ⟨hx, hb, hml, hown, hts⟩
  unfold f_DC_send at hm
  refine lv_iload_n hx hb d_DC_send_0 rfl (lv_at hl 1 rfl) ?_
  obtain ⟨r1, hu, hm⟩ := bd_el hm
  replace hm := nm_1 hm
  refine z_cSi (wc := w_DC_isChannel) (wc' := w_DC_isChannel) (wr := [(qX, .inr (10, [.ref qSh, X_words, X_mixer, .ref qRw, .ref qCd, .ref qSd, X_receiver])), (qSd, .inr (7, [.ref qSh, .ref qWd, .ref qMx, .ref qSd_bytes, .ref qSd_channelCounts, .int Sd_masterCount, .int Sd_craft, .int Sd_dataCount])), (qSh, .inr (8, [.int Sh_depth, .int Sh_wordBytes, .int Sh_e, .int Sh_pattern])), (qCd, .inr (1, [.ref qSh, .ref qRw, .int Cd_register, .int Cd_put])), (qRw, .inr (0, [.ref qRw_cells, .int Rw_length])), (qSd_bytes, .inl (cI, 250, .inl Sd_bytes)), (qSd_channelCounts, .inl (cI, 8, .inl Sd_channelCounts)), (qWd, .inr (9, [.ref qSh, .ref qFd, .ref qWd_generator, .ref qWd_remainder, Wd_coefficients, Wd_syndromes, Wd_locator])), (qWd_remainder, .inl (cI, 32, .inl Wd_remainder)), (qFd, .inr (2, [.ref qFd_powers, .ref qFd_logs, .ref qFd_otherForms, .ref qFd_elements])), (qFd_otherForms, .inl (cI, 256, .inl Fd_otherForms)), (qFd_elements, .inl (cI, 256, .inl Fd_elements)), (qWd_generator, .inl (cI, 33, .inl Wd_generator)), (qFd_logs, .inl (cI, 256, .inl Fd_logs)), (qFd_powers, .inl (cI, 255, .inl Fd_powers)), (qRw_cells, .inl (cJ, 64, .inr (.inl Rw_cells))), (qMx, .inr (4, [.ref qMx_bytes])), (qMx_bytes, .inl (cI, 250, .inl Mx_bytes))]) (As := [.int x1]) (rest := []) (c_DC_isChannel l D cI cJ tt _ x1 r1 hu) F ok_DC_isChannel k_573 hK hE hP hD hS hA [] [0, 1, 2, 3, 4, 5, 6, 7, 8, 9, 10, 11, 12, 13, 14, 15, 16, 17] rfl rfl (by decide) (by decide) (by decide) ⟨rfl, rfl, Nat.le_of_ble_eq_true rfl, Nat.le_of_ble_eq_true rfl⟩ ⟨Nat.zero_le _, Nat.zero_le _⟩ rfl hl.1 rfl (Nat.le_of_ble_eq_true rfl) d_DC_send_1 (fun H locs hP hD hS => ?_)
  have hP : va_P D classes (w_DC_send cI cJ qX qSd qSh qCd qRw qSd_bytes qSd_channelCounts qWd qWd_remainder qFd qFd_otherForms qFd_elements qWd_generator qFd_logs qFd_powers qRw_cells qMx qMx_bytes X_words X_mixer X_receiver Wd_coefficients Wd_syndromes Wd_locator Sd_masterCount Sd_craft Sd_dataCount Sh_depth Sh_wordBytes Sh_e Sh_pattern Cd_register Cd_put Rw_length Sd_bytes Sd_channelCounts Wd_remainder Fd_otherForms Fd_elements Wd_generator Fd_logs Fd_powers Rw_cells Mx_bytes) H := hP.sub [0, 1, 2, 3, 4, 5, 6, 7, 8, 9, 10, 11, 12, 13, 14, 15, 16, 17] rfl
  have hD : va_D A (w_DC_send cI cJ qX qSd qSh qCd qRw qSd_bytes qSd_channelCounts qWd qWd_remainder qFd qFd_otherForms qFd_elements qWd_generator qFd_logs qFd_powers qRw_cells qMx qMx_bytes X_words X_mixer X_receiver Wd_coefficients Wd_syndromes Wd_locator Sd_masterCount Sd_craft Sd_dataCount Sh_depth Sh_wordBytes Sh_e Sh_pattern Cd_register Cd_put Rw_length Sd_bytes Sd_channelCounts Wd_remainder Fd_otherForms Fd_elements Wd_generator Fd_logs Fd_powers Rw_cells Mx_bytes) := hD.sub [0, 1, 2, 3, 4, 5, 6, 7, 8, 9, 10, 11, 12, 13, 14, 15, 16, 17] (by decide) rfl
  refine z_ifn hm (lv_if_ne (tgt := 17) hx hb d_DC_send_4 (by decide)) (fun hm => ?_) (fun hm => ?_)
  · cases hm
  · refine lv_aload_n hx hb d_DC_send_17 rfl (lv_at hl 0 rfl) ?_
    refine va_get (D := D) (ci := 10) (v := .ref qSd) (C := "DeepChannel") (T := fT_DC) (N := 7) hx hb hts u_DC hown hK hP 0 rfl rfl 5 (by decide) (hts _ k_346) (fun _ h9 => h9) rfl d_DC_send_18 ?_
    obtain ⟨r3, hu, hm⟩ := bd_el hm
    replace hm := nm_1 hm
    refine z_cVi (wc := w_Sender_waiting cI cJ qSd (.ref qSh) (.ref qWd) (.ref qMx) (.ref qSd_bytes) (.ref qSd_channelCounts) (.int Sd_masterCount) (.int Sd_craft) Sd_dataCount) (wc' := w_Sender_waiting cI cJ qSd (.ref qSh) (.ref qWd) (.ref qMx) (.ref qSd_bytes) (.ref qSd_channelCounts) (.int Sd_masterCount) (.int Sd_craft) Sd_dataCount) (wr := [(qX, .inr (10, [.ref qSh, X_words, X_mixer, .ref qRw, .ref qCd, .ref qSd, X_receiver])), (qSh, .inr (8, [.int Sh_depth, .int Sh_wordBytes, .int Sh_e, .int Sh_pattern])), (qCd, .inr (1, [.ref qSh, .ref qRw, .int Cd_register, .int Cd_put])), (qRw, .inr (0, [.ref qRw_cells, .int Rw_length])), (qSd_bytes, .inl (cI, 250, .inl Sd_bytes)), (qSd_channelCounts, .inl (cI, 8, .inl Sd_channelCounts)), (qWd, .inr (9, [.ref qSh, .ref qFd, .ref qWd_generator, .ref qWd_remainder, Wd_coefficients, Wd_syndromes, Wd_locator])), (qWd_remainder, .inl (cI, 32, .inl Wd_remainder)), (qFd, .inr (2, [.ref qFd_powers, .ref qFd_logs, .ref qFd_otherForms, .ref qFd_elements])), (qFd_otherForms, .inl (cI, 256, .inl Fd_otherForms)), (qFd_elements, .inl (cI, 256, .inl Fd_elements)), (qWd_generator, .inl (cI, 33, .inl Wd_generator)), (qFd_logs, .inl (cI, 256, .inl Fd_logs)), (qFd_powers, .inl (cI, 255, .inl Fd_powers)), (qRw_cells, .inl (cJ, 64, .inr (.inl Rw_cells))), (qMx, .inr (4, [.ref qMx_bytes])), (qMx_bytes, .inl (cI, 250, .inl Mx_bytes))]) (As := []) (rest := []) (c_Sender_waiting l D cI cJ tt qSd (.ref qSh) (.ref qWd) (.ref qMx) (.ref qSd_bytes) (.ref qSd_channelCounts) (.int Sd_masterCount) (.int Sd_craft) _ Sd_dataCount r3 hu) F ok_Sender_waiting rfl k_534 hK hE hP hD hS hA [1] [0, 2, 3, 4, 5, 6, 7, 8, 9, 10, 11, 12, 13, 14, 15, 16, 17] rfl rfl (by decide) (by decide) (by decide) 0 rfl rfl rfl ⟨rfl, rfl, Nat.le_of_ble_eq_true rfl, Nat.le_of_ble_eq_true rfl⟩ ⟨Nat.zero_le _, Nat.zero_le _⟩ rfl hl.1 rfl (Nat.le_of_ble_eq_true rfl) d_DC_send_21 (fun H locs hP hD hS => ?_)
    have hP : va_P D classes (w_DC_send cI cJ qX qSd qSh qCd qRw qSd_bytes qSd_channelCounts qWd qWd_remainder qFd qFd_otherForms qFd_elements qWd_generator qFd_logs qFd_powers qRw_cells qMx qMx_bytes X_words X_mixer X_receiver Wd_coefficients Wd_syndromes Wd_locator Sd_masterCount Sd_craft Sd_dataCount Sh_depth Sh_wordBytes Sh_e Sh_pattern Cd_register Cd_put Rw_length Sd_bytes Sd_channelCounts Wd_remainder Fd_otherForms Fd_elements Wd_generator Fd_logs Fd_powers Rw_cells Mx_bytes) H := hP.sub [0, 17, 1, 2, 3, 4, 5, 6, 7, 8, 9, 10, 11, 12, 13, 14, 15, 16] rfl
    have hD : va_D A (w_DC_send cI cJ qX qSd qSh qCd qRw qSd_bytes qSd_channelCounts qWd qWd_remainder qFd qFd_otherForms qFd_elements qWd_generator qFd_logs qFd_powers qRw_cells qMx qMx_bytes X_words X_mixer X_receiver Wd_coefficients Wd_syndromes Wd_locator Sd_masterCount Sd_craft Sd_dataCount Sh_depth Sh_wordBytes Sh_e Sh_pattern Cd_register Cd_put Rw_length Sd_bytes Sd_channelCounts Wd_remainder Fd_otherForms Fd_elements Wd_generator Fd_logs Fd_powers Rw_cells Mx_bytes) := hD.sub [0, 17, 1, 2, 3, 4, 5, 6, 7, 8, 9, 10, 11, 12, 13, 14, 15, 16] (by decide) rfl
    refine lv_aload_n hx hb d_DC_send_24 rfl (lv_at hl 0 rfl) ?_
    refine va_get (D := D) (ci := 10) (v := .ref qSh) (C := "DeepChannel") (T := fT_DC) (N := 7) hx hb hts u_DC hown hK hP 0 rfl rfl 0 (by decide) (hts _ k_341) (fun _ h9 => h9) rfl d_DC_send_25 ?_
    obtain ⟨r5, hu, hm⟩ := bd_el hm
    replace hm := nm_1 hm
    refine z_cVi (wc := w_Shape_dataBytes cI cJ qSh (.int Sh_pattern) Sh_depth Sh_wordBytes Sh_e) (wc' := w_Shape_dataBytes cI cJ qSh (.int Sh_pattern) Sh_depth Sh_wordBytes Sh_e) (wr := [(qX, .inr (10, [.ref qSh, X_words, X_mixer, .ref qRw, .ref qCd, .ref qSd, X_receiver])), (qSd, .inr (7, [.ref qSh, .ref qWd, .ref qMx, .ref qSd_bytes, .ref qSd_channelCounts, .int Sd_masterCount, .int Sd_craft, .int Sd_dataCount])), (qCd, .inr (1, [.ref qSh, .ref qRw, .int Cd_register, .int Cd_put])), (qRw, .inr (0, [.ref qRw_cells, .int Rw_length])), (qSd_bytes, .inl (cI, 250, .inl Sd_bytes)), (qSd_channelCounts, .inl (cI, 8, .inl Sd_channelCounts)), (qWd, .inr (9, [.ref qSh, .ref qFd, .ref qWd_generator, .ref qWd_remainder, Wd_coefficients, Wd_syndromes, Wd_locator])), (qWd_remainder, .inl (cI, 32, .inl Wd_remainder)), (qFd, .inr (2, [.ref qFd_powers, .ref qFd_logs, .ref qFd_otherForms, .ref qFd_elements])), (qFd_otherForms, .inl (cI, 256, .inl Fd_otherForms)), (qFd_elements, .inl (cI, 256, .inl Fd_elements)), (qWd_generator, .inl (cI, 33, .inl Wd_generator)), (qFd_logs, .inl (cI, 256, .inl Fd_logs)), (qFd_powers, .inl (cI, 255, .inl Fd_powers)), (qRw_cells, .inl (cJ, 64, .inr (.inl Rw_cells))), (qMx, .inr (4, [.ref qMx_bytes])), (qMx_bytes, .inl (cI, 250, .inl Mx_bytes))]) (As := []) (rest := [.int r3]) (c_Shape_dataBytes l D cI cJ tt qSh (.int Sh_pattern) _ Sh_depth Sh_wordBytes Sh_e r5 hu) F ok_Shape_dataBytes rfl k_521 hK hE hP hD hS hA [2] [0, 1, 3, 4, 5, 6, 7, 8, 9, 10, 11, 12, 13, 14, 15, 16, 17] rfl rfl (by decide) (by decide) (by decide) 0 rfl rfl rfl ⟨rfl, rfl, Nat.le_of_ble_eq_true rfl, Nat.le_of_ble_eq_true rfl⟩ ⟨Nat.zero_le _, Nat.zero_le _⟩ rfl hl.1 rfl (Nat.le_of_ble_eq_true rfl) d_DC_send_28 (fun H locs hP hD hS => ?_)
    have hP : va_P D classes (w_DC_send cI cJ qX qSd qSh qCd qRw qSd_bytes qSd_channelCounts qWd qWd_remainder qFd qFd_otherForms qFd_elements qWd_generator qFd_logs qFd_powers qRw_cells qMx qMx_bytes X_words X_mixer X_receiver Wd_coefficients Wd_syndromes Wd_locator Sd_masterCount Sd_craft Sd_dataCount Sh_depth Sh_wordBytes Sh_e Sh_pattern Cd_register Cd_put Rw_length Sd_bytes Sd_channelCounts Wd_remainder Fd_otherForms Fd_elements Wd_generator Fd_logs Fd_powers Rw_cells Mx_bytes) H := hP.sub [0, 1, 17, 2, 3, 4, 5, 6, 7, 8, 9, 10, 11, 12, 13, 14, 15, 16] rfl
    have hD : va_D A (w_DC_send cI cJ qX qSd qSh qCd qRw qSd_bytes qSd_channelCounts qWd qWd_remainder qFd qFd_otherForms qFd_elements qWd_generator qFd_logs qFd_powers qRw_cells qMx qMx_bytes X_words X_mixer X_receiver Wd_coefficients Wd_syndromes Wd_locator Sd_masterCount Sd_craft Sd_dataCount Sh_depth Sh_wordBytes Sh_e Sh_pattern Cd_register Cd_put Rw_length Sd_bytes Sd_channelCounts Wd_remainder Fd_otherForms Fd_elements Wd_generator Fd_logs Fd_powers Rw_cells Mx_bytes) := hD.sub [0, 1, 17, 2, 3, 4, 5, 6, 7, 8, 9, 10, 11, 12, 13, 14, 15, 16] (by decide) rfl
    refine z_if hm (lv_icmp_eq (tgt := 44) hx hb d_DC_send_31 (by decide)) (fun hm => ?_) (fun hm => ?_)
    · refine lv_aload_n hx hb d_DC_send_44 rfl (lv_at hl 0 rfl) ?_
      refine va_get (D := D) (ci := 10) (v := .ref qCd) (C := "DeepChannel") (T := fT_DC) (N := 7) hx hb hts u_DC hown hK hP 0 rfl rfl 4 (by decide) (hts _ k_345) (fun _ h9 => h9) rfl d_DC_send_45 ?_
      refine lv_bipush (v := (32 : Int32)) hx hb d_DC_send_48 (by decide) ?_
      refine lv_bipush (v := (8 : Int32)) hx hb d_DC_send_50 (by decide) ?_
      refine lv_aload_n hx hb d_DC_send_52 rfl (lv_at hl 0 rfl) ?_
      refine va_get (D := D) (ci := 10) (v := .ref qSh) (C := "DeepChannel") (T := fT_DC) (N := 7) hx hb hts u_DC hown hK hP 0 rfl rfl 0 (by decide) (hts _ k_341) (fun _ h9 => h9) rfl d_DC_send_53 ?_
      obtain ⟨r7, hu, hm⟩ := bd_el hm
      replace hm := nm_1 hm
      refine z_cVi (wc := w_Shape_blockBytes cI cJ qSh (.int Sh_e) (.int Sh_pattern) Sh_depth Sh_wordBytes) (wc' := w_Shape_blockBytes cI cJ qSh (.int Sh_e) (.int Sh_pattern) Sh_depth Sh_wordBytes) (wr := [(qX, .inr (10, [.ref qSh, X_words, X_mixer, .ref qRw, .ref qCd, .ref qSd, X_receiver])), (qSd, .inr (7, [.ref qSh, .ref qWd, .ref qMx, .ref qSd_bytes, .ref qSd_channelCounts, .int Sd_masterCount, .int Sd_craft, .int Sd_dataCount])), (qCd, .inr (1, [.ref qSh, .ref qRw, .int Cd_register, .int Cd_put])), (qRw, .inr (0, [.ref qRw_cells, .int Rw_length])), (qSd_bytes, .inl (cI, 250, .inl Sd_bytes)), (qSd_channelCounts, .inl (cI, 8, .inl Sd_channelCounts)), (qWd, .inr (9, [.ref qSh, .ref qFd, .ref qWd_generator, .ref qWd_remainder, Wd_coefficients, Wd_syndromes, Wd_locator])), (qWd_remainder, .inl (cI, 32, .inl Wd_remainder)), (qFd, .inr (2, [.ref qFd_powers, .ref qFd_logs, .ref qFd_otherForms, .ref qFd_elements])), (qFd_otherForms, .inl (cI, 256, .inl Fd_otherForms)), (qFd_elements, .inl (cI, 256, .inl Fd_elements)), (qWd_generator, .inl (cI, 33, .inl Wd_generator)), (qFd_logs, .inl (cI, 256, .inl Fd_logs)), (qFd_powers, .inl (cI, 255, .inl Fd_powers)), (qRw_cells, .inl (cJ, 64, .inr (.inl Rw_cells))), (qMx, .inr (4, [.ref qMx_bytes])), (qMx_bytes, .inl (cI, 250, .inl Mx_bytes))]) (As := []) (rest := [.int (8 : Int32), .int (32 : Int32), .ref qCd]) (c_Shape_blockBytes l D cI cJ tt qSh (.int Sh_e) (.int Sh_pattern) _ Sh_depth Sh_wordBytes r7 hu) F ok_Shape_blockBytes rfl k_526 hK hE hP hD hS hA [2] [0, 1, 3, 4, 5, 6, 7, 8, 9, 10, 11, 12, 13, 14, 15, 16, 17] rfl rfl (by decide) (by decide) (by decide) 0 rfl rfl rfl ⟨rfl, rfl, Nat.le_of_ble_eq_true rfl, Nat.le_of_ble_eq_true rfl⟩ ⟨Nat.zero_le _, Nat.zero_le _⟩ rfl hl.1 rfl (Nat.le_of_ble_eq_true rfl) d_DC_send_56 (fun H locs hP hD hS => ?_)
      have hP : va_P D classes (w_DC_send cI cJ qX qSd qSh qCd qRw qSd_bytes qSd_channelCounts qWd qWd_remainder qFd qFd_otherForms qFd_elements qWd_generator qFd_logs qFd_powers qRw_cells qMx qMx_bytes X_words X_mixer X_receiver Wd_coefficients Wd_syndromes Wd_locator Sd_masterCount Sd_craft Sd_dataCount Sh_depth Sh_wordBytes Sh_e Sh_pattern Cd_register Cd_put Rw_length Sd_bytes Sd_channelCounts Wd_remainder Fd_otherForms Fd_elements Wd_generator Fd_logs Fd_powers Rw_cells Mx_bytes) H := hP.sub [0, 1, 17, 2, 3, 4, 5, 6, 7, 8, 9, 10, 11, 12, 13, 14, 15, 16] rfl
      have hD : va_D A (w_DC_send cI cJ qX qSd qSh qCd qRw qSd_bytes qSd_channelCounts qWd qWd_remainder qFd qFd_otherForms qFd_elements qWd_generator qFd_logs qFd_powers qRw_cells qMx qMx_bytes X_words X_mixer X_receiver Wd_coefficients Wd_syndromes Wd_locator Sd_masterCount Sd_craft Sd_dataCount Sh_depth Sh_wordBytes Sh_e Sh_pattern Cd_register Cd_put Rw_length Sd_bytes Sd_channelCounts Wd_remainder Fd_otherForms Fd_elements Wd_generator Fd_logs Fd_powers Rw_cells Mx_bytes) := hD.sub [0, 1, 17, 2, 3, 4, 5, 6, 7, 8, 9, 10, 11, 12, 13, 14, 15, 16] (by decide) rfl
      refine lv_imul hx hb d_DC_send_59 ?_
      refine lv_iadd hx hb d_DC_send_60 ?_
      obtain ⟨r9, hu, hm⟩ := bd_el hm
      replace hm := nm_1 hm
      refine z_cVi (wc := w_Coder_hasRoomFor cI cJ qCd qRw qSh (.int Cd_register) (.ref qRw_cells) (.int Sh_depth) (.int Sh_wordBytes) (.int Sh_e) Cd_put Rw_length Sh_pattern) (wc' := w_Coder_hasRoomFor cI cJ qCd qRw qSh (.int Cd_register) (.ref qRw_cells) (.int Sh_depth) (.int Sh_wordBytes) (.int Sh_e) Cd_put Rw_length Sh_pattern) (wr := [(qX, .inr (10, [.ref qSh, X_words, X_mixer, .ref qRw, .ref qCd, .ref qSd, X_receiver])), (qSd, .inr (7, [.ref qSh, .ref qWd, .ref qMx, .ref qSd_bytes, .ref qSd_channelCounts, .int Sd_masterCount, .int Sd_craft, .int Sd_dataCount])), (qSd_bytes, .inl (cI, 250, .inl Sd_bytes)), (qSd_channelCounts, .inl (cI, 8, .inl Sd_channelCounts)), (qWd, .inr (9, [.ref qSh, .ref qFd, .ref qWd_generator, .ref qWd_remainder, Wd_coefficients, Wd_syndromes, Wd_locator])), (qWd_remainder, .inl (cI, 32, .inl Wd_remainder)), (qFd, .inr (2, [.ref qFd_powers, .ref qFd_logs, .ref qFd_otherForms, .ref qFd_elements])), (qFd_otherForms, .inl (cI, 256, .inl Fd_otherForms)), (qFd_elements, .inl (cI, 256, .inl Fd_elements)), (qWd_generator, .inl (cI, 33, .inl Wd_generator)), (qFd_logs, .inl (cI, 256, .inl Fd_logs)), (qFd_powers, .inl (cI, 255, .inl Fd_powers)), (qRw_cells, .inl (cJ, 64, .inr (.inl Rw_cells))), (qMx, .inr (4, [.ref qMx_bytes])), (qMx_bytes, .inl (cI, 250, .inl Mx_bytes))]) (As := [.int ((32 : Int32) + ((8 : Int32) * r7))]) (rest := []) (c_Coder_hasRoomFor l D cI cJ tt qCd qRw qSh (.int Cd_register) (.ref qRw_cells) (.int Sh_depth) (.int Sh_wordBytes) (.int Sh_e) _ Cd_put Rw_length Sh_pattern ((32 : Int32) + ((8 : Int32) * r7)) r9 hu) F ok_Coder_hasRoomFor rfl k_593 hK hE hP hD hS hA [3, 4, 2] [0, 1, 5, 6, 7, 8, 9, 10, 11, 12, 13, 14, 15, 16, 17] rfl rfl (by decide) (by decide) (by decide) 0 rfl rfl rfl ⟨rfl, rfl, Nat.le_of_ble_eq_true rfl, Nat.le_of_ble_eq_true rfl⟩ ⟨Nat.zero_le _, Nat.zero_le _⟩ rfl hl.1 rfl (Nat.le_of_ble_eq_true rfl) d_DC_send_61 (fun H locs hP hD hS => ?_)
      have hP : va_P D classes (w_DC_send cI cJ qX qSd qSh qCd qRw qSd_bytes qSd_channelCounts qWd qWd_remainder qFd qFd_otherForms qFd_elements qWd_generator qFd_logs qFd_powers qRw_cells qMx qMx_bytes X_words X_mixer X_receiver Wd_coefficients Wd_syndromes Wd_locator Sd_masterCount Sd_craft Sd_dataCount Sh_depth Sh_wordBytes Sh_e Sh_pattern Cd_register Cd_put Rw_length Sd_bytes Sd_channelCounts Wd_remainder Fd_otherForms Fd_elements Wd_generator Fd_logs Fd_powers Rw_cells Mx_bytes) H := hP.sub [0, 1, 17, 15, 16, 2, 3, 4, 5, 6, 7, 8, 9, 10, 11, 12, 13, 14] rfl
      have hD : va_D A (w_DC_send cI cJ qX qSd qSh qCd qRw qSd_bytes qSd_channelCounts qWd qWd_remainder qFd qFd_otherForms qFd_elements qWd_generator qFd_logs qFd_powers qRw_cells qMx qMx_bytes X_words X_mixer X_receiver Wd_coefficients Wd_syndromes Wd_locator Sd_masterCount Sd_craft Sd_dataCount Sh_depth Sh_wordBytes Sh_e Sh_pattern Cd_register Cd_put Rw_length Sd_bytes Sd_channelCounts Wd_remainder Fd_otherForms Fd_elements Wd_generator Fd_logs Fd_powers Rw_cells Mx_bytes) := hD.sub [0, 1, 17, 15, 16, 2, 3, 4, 5, 6, 7, 8, 9, 10, 11, 12, 13, 14] (by decide) rfl
      refine z_ifn hm (lv_if_ne (tgt := 69) hx hb d_DC_send_64 (by decide)) (fun hm => ?_) (fun hm => ?_)
      · refine lv_iconst (v := (-1 : Int32)) hx hb d_DC_send_67 (by decide) ?_
        cases hm
        exact z_qo hQ (z_ireti hr hx hb hlocks hK hP hD hS d_DC_send_68)
      · refine lv_aload_n hx hb d_DC_send_69 rfl (lv_at hl 0 rfl) ?_
        refine va_get (D := D) (ci := 10) (v := .ref qSd) (C := "DeepChannel") (T := fT_DC) (N := 7) hx hb hts u_DC hown hK hP 0 rfl rfl 5 (by decide) (hts _ k_346) (fun _ h9 => h9) rfl d_DC_send_70 ?_
        refine lv_iload_n hx hb d_DC_send_73 rfl (lv_at hl 1 rfl) ?_
        refine lv_aload_n hx hb d_DC_send_74 rfl (lv_at hl 0 rfl) ?_
        refine va_get (D := D) (ci := 10) (v := .ref qCd) (C := "DeepChannel") (T := fT_DC) (N := 7) hx hb hts u_DC hown hK hP 0 rfl rfl 4 (by decide) (hts _ k_345) (fun _ h9 => h9) rfl d_DC_send_75 ?_
        obtain ⟨⟨v11, v12, g13, g14, g15, v16, v17, v18, g19⟩, hu, hm⟩ := bd_el hm
        replace hm := nm_9 hm
        refine z_cVv (wc := w_Sender_sendFrame cI cJ qSd qSd_bytes qSd_channelCounts qSh qWd qWd_remainder qFd qFd_otherForms qFd_elements qWd_generator qFd_logs qFd_powers qCd qRw qRw_cells qMx qMx_bytes Wd_coefficients Wd_syndromes Wd_locator Sd_masterCount Sd_craft Sd_dataCount Sd_bytes Sd_channelCounts Sh_depth Sh_wordBytes Sh_e Sh_pattern Wd_remainder Fd_otherForms Fd_elements Wd_generator Fd_logs Fd_powers Cd_register Cd_put Rw_length Rw_cells Mx_bytes) (wc' := w_Sender_sendFrame cI cJ qSd qSd_bytes qSd_channelCounts qSh qWd qWd_remainder qFd qFd_otherForms qFd_elements qWd_generator qFd_logs qFd_powers qCd qRw qRw_cells qMx qMx_bytes Wd_coefficients Wd_syndromes Wd_locator v11 Sd_craft v12 g13 g14 Sh_depth Sh_wordBytes Sh_e Sh_pattern g15 Fd_otherForms Fd_elements Wd_generator Fd_logs Fd_powers v16 v17 v18 g19 Mx_bytes) (wr := [(qX, .inr (10, [.ref qSh, X_words, X_mixer, .ref qRw, .ref qCd, .ref qSd, X_receiver]))]) (As := [.int x1, .ref qCd]) (rest := []) (c_Sender_sendFrame l D cI cJ tt qSd qSd_bytes qSd_channelCounts qSh qWd qWd_remainder qFd qFd_otherForms qFd_elements qWd_generator qFd_logs qFd_powers qCd qRw qRw_cells qMx qMx_bytes Wd_coefficients Wd_syndromes Wd_locator _ Sd_masterCount Sd_craft Sd_dataCount Sd_bytes Sd_channelCounts Sh_depth Sh_wordBytes Sh_e Sh_pattern Wd_remainder Fd_otherForms Fd_elements Wd_generator Fd_logs Fd_powers Cd_register Cd_put Rw_length Rw_cells Mx_bytes x1 v11 v12 g13 g14 g15 v16 v17 v18 g19 hu) F ok_Sender_sendFrame rfl k_607 hK hE hP hD hS hA [1, 5, 6, 2, 7, 8, 9, 10, 11, 12, 13, 14, 3, 4, 15, 16, 17] [0] rfl rfl (by decide) (by decide) (by decide) 0 rfl rfl rfl ⟨rfl, rfl, Nat.le_of_ble_eq_true rfl, Nat.le_of_ble_eq_true rfl⟩ ⟨Nat.zero_le _, Nat.zero_le _⟩ rfl hl.1 rfl (Nat.le_of_ble_eq_true rfl) d_DC_send_78 (fun H locs hP hD hS => ?_)
        have hP : va_P D classes (w_DC_send cI cJ qX qSd qSh qCd qRw qSd_bytes qSd_channelCounts qWd qWd_remainder qFd qFd_otherForms qFd_elements qWd_generator qFd_logs qFd_powers qRw_cells qMx qMx_bytes X_words X_mixer X_receiver Wd_coefficients Wd_syndromes Wd_locator v11 Sd_craft v12 Sh_depth Sh_wordBytes Sh_e Sh_pattern v16 v17 v18 g13 g14 g15 Fd_otherForms Fd_elements Wd_generator Fd_logs Fd_powers g19 Mx_bytes) H := hP.sub [0, 1, 4, 13, 14, 2, 3, 5, 6, 7, 8, 9, 10, 11, 12, 15, 16, 17] rfl
        have hD : va_D A (w_DC_send cI cJ qX qSd qSh qCd qRw qSd_bytes qSd_channelCounts qWd qWd_remainder qFd qFd_otherForms qFd_elements qWd_generator qFd_logs qFd_powers qRw_cells qMx qMx_bytes X_words X_mixer X_receiver Wd_coefficients Wd_syndromes Wd_locator v11 Sd_craft v12 Sh_depth Sh_wordBytes Sh_e Sh_pattern v16 v17 v18 g13 g14 g15 Fd_otherForms Fd_elements Wd_generator Fd_logs Fd_powers g19 Mx_bytes) := hD.sub [0, 1, 4, 13, 14, 2, 3, 5, 6, 7, 8, 9, 10, 11, 12, 15, 16, 17] (by decide) rfl
        refine lv_aload_n hx hb d_DC_send_81 rfl (lv_at hl 0 rfl) ?_
        refine va_get (D := D) (ci := 10) (v := .ref qRw) (C := "DeepChannel") (T := fT_DC) (N := 7) hx hb hts u_DC hown hK hP 0 rfl rfl 3 (by decide) (hts _ k_344) (fun _ h9 => h9) rfl d_DC_send_82 ?_
        obtain ⟨r21, hu, hm⟩ := bd_el hm
        replace hm := nm_1 hm
        refine z_cVi (wc := w_BitRow_size cI cJ qRw (.ref qRw_cells) v18) (wc' := w_BitRow_size cI cJ qRw (.ref qRw_cells) v18) (wr := [(qX, .inr (10, [.ref qSh, X_words, X_mixer, .ref qRw, .ref qCd, .ref qSd, X_receiver])), (qSd, .inr (7, [.ref qSh, .ref qWd, .ref qMx, .ref qSd_bytes, .ref qSd_channelCounts, .int v11, .int Sd_craft, .int v12])), (qSh, .inr (8, [.int Sh_depth, .int Sh_wordBytes, .int Sh_e, .int Sh_pattern])), (qCd, .inr (1, [.ref qSh, .ref qRw, .int v16, .int v17])), (qSd_bytes, .inl (cI, 250, .inl g13)), (qSd_channelCounts, .inl (cI, 8, .inl g14)), (qWd, .inr (9, [.ref qSh, .ref qFd, .ref qWd_generator, .ref qWd_remainder, Wd_coefficients, Wd_syndromes, Wd_locator])), (qWd_remainder, .inl (cI, 32, .inl g15)), (qFd, .inr (2, [.ref qFd_powers, .ref qFd_logs, .ref qFd_otherForms, .ref qFd_elements])), (qFd_otherForms, .inl (cI, 256, .inl Fd_otherForms)), (qFd_elements, .inl (cI, 256, .inl Fd_elements)), (qWd_generator, .inl (cI, 33, .inl Wd_generator)), (qFd_logs, .inl (cI, 256, .inl Fd_logs)), (qFd_powers, .inl (cI, 255, .inl Fd_powers)), (qRw_cells, .inl (cJ, 64, .inr (.inl g19))), (qMx, .inr (4, [.ref qMx_bytes])), (qMx_bytes, .inl (cI, 250, .inl Mx_bytes))]) (As := []) (rest := []) (c_BitRow_size l D cI cJ tt qRw (.ref qRw_cells) _ v18 r21 hu) F ok_BitRow_size rfl k_530 hK hE hP hD hS hA [4] [0, 1, 2, 3, 5, 6, 7, 8, 9, 10, 11, 12, 13, 14, 15, 16, 17] rfl rfl (by decide) (by decide) (by decide) 0 rfl rfl rfl ⟨rfl, rfl, Nat.le_of_ble_eq_true rfl, Nat.le_of_ble_eq_true rfl⟩ ⟨Nat.zero_le _, Nat.zero_le _⟩ rfl hl.1 rfl (Nat.le_of_ble_eq_true rfl) d_DC_send_85 (fun H locs hP hD hS => ?_)
        have hP : va_P D classes (w_DC_send cI cJ qX qSd qSh qCd qRw qSd_bytes qSd_channelCounts qWd qWd_remainder qFd qFd_otherForms qFd_elements qWd_generator qFd_logs qFd_powers qRw_cells qMx qMx_bytes X_words X_mixer X_receiver Wd_coefficients Wd_syndromes Wd_locator v11 Sd_craft v12 Sh_depth Sh_wordBytes Sh_e Sh_pattern v16 v17 v18 g13 g14 g15 Fd_otherForms Fd_elements Wd_generator Fd_logs Fd_powers g19 Mx_bytes) H := hP.sub [0, 1, 2, 3, 17, 4, 5, 6, 7, 8, 9, 10, 11, 12, 13, 14, 15, 16] rfl
        have hD : va_D A (w_DC_send cI cJ qX qSd qSh qCd qRw qSd_bytes qSd_channelCounts qWd qWd_remainder qFd qFd_otherForms qFd_elements qWd_generator qFd_logs qFd_powers qRw_cells qMx qMx_bytes X_words X_mixer X_receiver Wd_coefficients Wd_syndromes Wd_locator v11 Sd_craft v12 Sh_depth Sh_wordBytes Sh_e Sh_pattern v16 v17 v18 g13 g14 g15 Fd_otherForms Fd_elements Wd_generator Fd_logs Fd_powers g19 Mx_bytes) := hD.sub [0, 1, 2, 3, 17, 4, 5, 6, 7, 8, 9, 10, 11, 12, 13, 14, 15, 16] (by decide) rfl
        cases hm
        exact z_qo hQ (z_ireti hr hx hb hlocks hK hP hD hS d_DC_send_88)
    · cases hm
-- DeepChannel.block(II)I
abbrev b_DC_block : ByteArray := prog_1_method_13_code
abbrev y_DC_block : MethodName := ⟨"DeepChannel", "block", "(II)I"⟩
theorem d_DC_block_0 : decode b_DC_block 0 = .ok (.iload_n 2, 1) := by decide +kernel
theorem d_DC_block_1 : decode b_DC_block 1 = .ok (.ifCond .lt 9, 3) := by decide +kernel
theorem d_DC_block_4 : decode b_DC_block 4 = .ok (.iload_n 2, 1) := by decide +kernel
theorem d_DC_block_5 : decode b_DC_block 5 = .ok (.bipush 9, 2) := by decide +kernel
theorem d_DC_block_7 : decode b_DC_block 7 = .ok (.if_icmp .lt 13, 3) := by decide +kernel
theorem d_DC_block_10 : decode b_DC_block 10 = .ok (.new 71, 3) := by decide +kernel
theorem d_DC_block_13 : decode b_DC_block 13 = .ok (.dup, 1) := by decide +kernel
theorem d_DC_block_14 : decode b_DC_block 14 = .ok (.ldc 187, 2) := by decide +kernel
theorem d_DC_block_16 : decode b_DC_block 16 = .ok (.invokespecial 75, 3) := by decide +kernel
theorem d_DC_block_19 : decode b_DC_block 19 = .ok (.athrow, 1) := by decide +kernel
theorem d_DC_block_20 : decode b_DC_block 20 = .ok (.aload_n 0, 1) := by decide +kernel
theorem d_DC_block_21 : decode b_DC_block 21 = .ok (.getfield 63, 3) := by decide +kernel
theorem d_DC_block_24 : decode b_DC_block 24 = .ok (.iload_n 1, 1) := by decide +kernel
theorem d_DC_block_25 : decode b_DC_block 25 = .ok (.invokevirtual 189, 3) := by decide +kernel
theorem d_DC_block_28 : decode b_DC_block 28 = .ok (.ifCond .ne 13, 3) := by decide +kernel
theorem d_DC_block_31 : decode b_DC_block 31 = .ok (.new 192, 3) := by decide +kernel
theorem d_DC_block_34 : decode b_DC_block 34 = .ok (.dup, 1) := by decide +kernel
theorem d_DC_block_35 : decode b_DC_block 35 = .ok (.ldc 194, 2) := by decide +kernel
theorem d_DC_block_37 : decode b_DC_block 37 = .ok (.invokespecial 196, 3) := by decide +kernel
theorem d_DC_block_40 : decode b_DC_block 40 = .ok (.athrow, 1) := by decide +kernel
theorem d_DC_block_41 : decode b_DC_block 41 = .ok (.aload_n 0, 1) := by decide +kernel
theorem d_DC_block_42 : decode b_DC_block 42 = .ok (.getfield 63, 3) := by decide +kernel
theorem d_DC_block_45 : decode b_DC_block 45 = .ok (.iload_n 1, 1) := by decide +kernel
theorem d_DC_block_46 : decode b_DC_block 46 = .ok (.iload_n 2, 1) := by decide +kernel
theorem d_DC_block_47 : decode b_DC_block 47 = .ok (.invokevirtual 197, 3) := by decide +kernel
theorem d_DC_block_50 : decode b_DC_block 50 = .ok (.ireturn, 1) := by decide +kernel
theorem ok_DC_block : OKv y_DC_block b_DC_block 3 (some .int) "DeepChannel" 2 := ⟨k_824, k_822, k_823, k_42, by decide +kernel, by decide +kernel, by decide +kernel⟩
abbrev w_DC_block (cI cJ : ClassId) (qX qRc qRc_facts : Nat) (X_shape X_words X_mixer X_row X_coder X_sender Rc_shape Rc_words Rc_mixer Rc_nearest Rc_found Rc_bytes Rc_putRight Rc_lastOfChannel Rc_lastMaster Rc_differing : Value) (Rc_taken : Int32) (Rc_facts : Nat → Int32) : va_W := [(qX, .inr (10, [X_shape, X_words, X_mixer, X_row, X_coder, X_sender, .ref qRc])), (qRc, .inr (6, [Rc_shape, Rc_words, Rc_mixer, Rc_nearest, Rc_found, Rc_bytes, .ref qRc_facts, Rc_putRight, Rc_lastOfChannel, Rc_lastMaster, Rc_differing, .int Rc_taken])), (qRc_facts, .inl (cI, 144, .inl Rc_facts))]
def f_DC_block_10   : Option (Int32) :=
  none
def f_DC_block (Rc_taken : Int32) (Rc_facts : Nat → Int32) (x1 : Int32) (x2 : Int32) : Option (Int32) :=
  if x2 < 0 then
    f_DC_block_10
  else
  if x2 < (9 : Int32) then
    bd (f_Receiver_hasTaken Rc_taken x1) fun u2 =>
    nm u2 fun r1 =>
    if r1 = 0 then
      none
    else
    bd (f_Receiver_fact Rc_facts x1 x2) fun u4 =>
    nm u4 fun r3 =>
    some r3
  else
  f_DC_block_10
set_option maxHeartbeats 4000000 in
set_option maxRecDepth 100000 in
theorem c_DC_block (l : Launch) (D : va_G) (cI cJ : ClassId) (tt : Nat → Nat) (qX qRc qRc_facts : Nat) (X_shape X_words X_mixer X_row X_coder X_sender Rc_shape Rc_words Rc_mixer Rc_nearest Rc_found Rc_bytes Rc_putRight Rc_lastOfChannel Rc_lastMaster Rc_differing : Value) (sz : Nat) (Rc_taken : Int32) (Rc_facts : Nat → Int32) (x1 : Int32) (x2 : Int32) (rr : Int32) (hm : f_DC_block Rc_taken Rc_facts x1 x2 = some rr) : CTi l y_DC_block b_DC_block 3 (some .int) (RM 1 22) D cI cJ tt [.ref qX, .int x1, .int x2] (w_DC_block cI cJ qX qRc qRc_facts X_shape X_words X_mixer X_row X_coder X_sender Rc_shape Rc_words Rc_mixer Rc_nearest Rc_found Rc_bytes Rc_putRight Rc_lastOfChannel Rc_lastMaster Rc_differing Rc_taken Rc_facts) (w_DC_block cI cJ qX qRc qRc_facts X_shape X_words X_mixer X_row X_coder X_sender Rc_shape Rc_words Rc_mixer Rc_nearest Rc_found Rc_bytes Rc_putRight Rc_lastOfChannel Rc_lastMaster Rc_differing Rc_taken Rc_facts) sz rr := by
  refine Met.ofW (cc := b_DC_block) (maxL := 3) (ret := (some .int)) (by decide) rfl ?_
  intro p e s m args below meth c s₁ B hml hv
  obtain ⟨hargs, hsz, hP, hK, hD0, hE⟩ := hv
  have hx := B.exec
  have hb := B.bytes
  have hr := B.returns
  have hts : ∀ w ∈ TB, w.before args s = true := z_mV s (atoms_spec (ws := WD y_DC_block b_DC_block 3 (some .int)) B.pre)
  have hown : s.vm.findClass "DeepChannel" = some m.cls := findClass_of_methodNamed B.named
  have hlocks := B.notSynchronized
  subst hsz
  have hD := hD0.self (sz := s.heap.size)
  generalize hAe : va_A (w_DC_block cI cJ qX qRc qRc_facts X_shape X_words X_mixer X_row X_coder X_sender Rc_shape Rc_words Rc_mixer Rc_nearest Rc_found Rc_bytes Rc_putRight Rc_lastOfChannel Rc_lastMaster Rc_differing Rc_taken Rc_facts) s.heap.size = A at hD hE ⊢
  have hA : ∀ q : Nat, s.heap.size ≤ q → A q := fun q h => by rw [← hAe]; exact Or.inr h
  have hS : va_S A s.heap s.heap [] := va_S.rf
  refine z_entry (vs := [.ref qX, .int x1, .int x2]) hargs (Nat.le_of_ble_eq_true rfl) (fun ls hl => ?_)
  have hl : lv_has ls 3 [(0, .ref qX), (1, .int x1), (2, .int x2)] := hl
  show W p l e (RM 1 22) s m args below meth c s.heap [] 0 0 _ _
  refine z_qi (fun Q0 hQ => ?_)
  have F : CallFix p m c b_DC_block 3 s args TB "DeepChannel" := ⟨hx, hb, hml, hown, hts⟩
  have T10 : ∀ (_ : Unit), f_DC_block_10 = some rr → ∀ (H : Heap) (locs : List Loc), va_P D classes (w_DC_block cI cJ qX qRc qRc_facts X_shape X_words X_mixer X_row X_coder X_sender Rc_shape Rc_words Rc_mixer Rc_nearest Rc_found Rc_bytes Rc_putRight Rc_lastOfChannel Rc_lastMaster Rc_differing Rc_taken Rc_facts) H → va_D A (w_DC_block cI cJ qX qRc qRc_facts X_shape X_words X_mixer X_row X_coder X_sender Rc_shape Rc_words Rc_mixer Rc_nearest Rc_found Rc_bytes Rc_putRight Rc_lastOfChannel Rc_lastMaster Rc_differing Rc_taken Rc_facts) → va_S A s.heap H locs → ∀ (ls : Array Slot), lv_has ls 3 [] → W p l e (RM 1 22) s m args below meth c H locs 0 0 Q0 (F0 m 10 ls []) := by
    intro _u hm H locs hP hD hS ls hl
    unfold f_DC_block_10 at hm
    cases hm
  unfold f_DC_block at hm
  refine lv_iload_n hx hb d_DC_block_0 rfl (lv_at hl 2 rfl) ?_
  refine z_if hm (lv_if_lt (tgt := 10) hx hb d_DC_block_1 (by decide)) (fun hm => ?_) (fun hm => ?_)
  · exact T10 () hm _ _ hP hD hS _ (lv_sub hl [] rfl)
  · refine lv_iload_n hx hb d_DC_block_4 rfl (lv_at hl 2 rfl) ?_
    refine lv_bipush (v := (9 : Int32)) hx hb d_DC_block_5 (by decide) ?_
    refine z_if hm (lv_icmp_lt (tgt := 20) hx hb d_DC_block_7 (by decide)) (fun hm => ?_) (fun hm => ?_)
    · refine lv_aload_n hx hb d_DC_block_20 rfl (lv_at hl 0 rfl) ?_
      refine va_get (D := D) (ci := 10) (v := .ref qRc) (C := "DeepChannel") (T := fT_DC) (N := 7) hx hb hts u_DC hown hK hP 0 rfl rfl 6 (by decide) (hts _ k_347) (fun _ h9 => h9) rfl d_DC_block_21 ?_
      refine lv_iload_n hx hb d_DC_block_24 rfl (lv_at hl 1 rfl) ?_
      obtain ⟨r1, hu, hm⟩ := bd_el hm
      replace hm := nm_1 hm
      refine z_cVi (wc := w_Receiver_hasTaken cI cJ qRc Rc_shape Rc_words Rc_mixer Rc_nearest Rc_found Rc_bytes (.ref qRc_facts) Rc_putRight Rc_lastOfChannel Rc_lastMaster Rc_differing Rc_taken) (wc' := w_Receiver_hasTaken cI cJ qRc Rc_shape Rc_words Rc_mixer Rc_nearest Rc_found Rc_bytes (.ref qRc_facts) Rc_putRight Rc_lastOfChannel Rc_lastMaster Rc_differing Rc_taken) (wr := [(qX, .inr (10, [X_shape, X_words, X_mixer, X_row, X_coder, X_sender, .ref qRc])), (qRc_facts, .inl (cI, 144, .inl Rc_facts))]) (As := [.int x1]) (rest := []) (c_Receiver_hasTaken l D cI cJ tt qRc Rc_shape Rc_words Rc_mixer Rc_nearest Rc_found Rc_bytes (.ref qRc_facts) Rc_putRight Rc_lastOfChannel Rc_lastMaster Rc_differing _ Rc_taken x1 r1 hu) F ok_Receiver_hasTaken rfl k_826 hK hE hP hD hS hA [1] [0, 2] rfl rfl (by decide) (by decide) (by decide) 0 rfl rfl rfl ⟨rfl, rfl, Nat.le_of_ble_eq_true rfl, Nat.le_of_ble_eq_true rfl⟩ ⟨Nat.zero_le _, Nat.zero_le _⟩ rfl hl.1 rfl (Nat.le_of_ble_eq_true rfl) d_DC_block_25 (fun H locs hP hD hS => ?_)
      have hP : va_P D classes (w_DC_block cI cJ qX qRc qRc_facts X_shape X_words X_mixer X_row X_coder X_sender Rc_shape Rc_words Rc_mixer Rc_nearest Rc_found Rc_bytes Rc_putRight Rc_lastOfChannel Rc_lastMaster Rc_differing Rc_taken Rc_facts) H := hP.sub [0, 2, 1] rfl
      have hD : va_D A (w_DC_block cI cJ qX qRc qRc_facts X_shape X_words X_mixer X_row X_coder X_sender Rc_shape Rc_words Rc_mixer Rc_nearest Rc_found Rc_bytes Rc_putRight Rc_lastOfChannel Rc_lastMaster Rc_differing Rc_taken Rc_facts) := hD.sub [0, 2, 1] (by decide) rfl
      refine z_ifn hm (lv_if_ne (tgt := 41) hx hb d_DC_block_28 (by decide)) (fun hm => ?_) (fun hm => ?_)
      · cases hm
      · refine lv_aload_n hx hb d_DC_block_41 rfl (lv_at hl 0 rfl) ?_
        refine va_get (D := D) (ci := 10) (v := .ref qRc) (C := "DeepChannel") (T := fT_DC) (N := 7) hx hb hts u_DC hown hK hP 0 rfl rfl 6 (by decide) (hts _ k_347) (fun _ h9 => h9) rfl d_DC_block_42 ?_
        refine lv_iload_n hx hb d_DC_block_45 rfl (lv_at hl 1 rfl) ?_
        refine lv_iload_n hx hb d_DC_block_46 rfl (lv_at hl 2 rfl) ?_
        obtain ⟨r3, hu, hm⟩ := bd_el hm
        replace hm := nm_1 hm
        refine z_cVi (wc := w_Receiver_fact cI cJ qRc qRc_facts Rc_shape Rc_words Rc_mixer Rc_nearest Rc_found Rc_bytes Rc_putRight Rc_lastOfChannel Rc_lastMaster Rc_differing (.int Rc_taken) Rc_facts) (wc' := w_Receiver_fact cI cJ qRc qRc_facts Rc_shape Rc_words Rc_mixer Rc_nearest Rc_found Rc_bytes Rc_putRight Rc_lastOfChannel Rc_lastMaster Rc_differing (.int Rc_taken) Rc_facts) (wr := [(qX, .inr (10, [X_shape, X_words, X_mixer, X_row, X_coder, X_sender, .ref qRc]))]) (As := [.int x1, .int x2]) (rest := []) (c_Receiver_fact l D cI cJ tt qRc qRc_facts Rc_shape Rc_words Rc_mixer Rc_nearest Rc_found Rc_bytes Rc_putRight Rc_lastOfChannel Rc_lastMaster Rc_differing (.int Rc_taken) _ Rc_facts x1 x2 r3 hu) F ok_Receiver_fact rfl k_846 hK hE hP hD hS hA [1, 2] [0] rfl rfl (by decide) (by decide) (by decide) 0 rfl rfl rfl ⟨rfl, rfl, Nat.le_of_ble_eq_true rfl, Nat.le_of_ble_eq_true rfl⟩ ⟨Nat.zero_le _, Nat.zero_le _⟩ rfl hl.1 rfl (Nat.le_of_ble_eq_true rfl) d_DC_block_47 (fun H locs hP hD hS => ?_)
        have hP : va_P D classes (w_DC_block cI cJ qX qRc qRc_facts X_shape X_words X_mixer X_row X_coder X_sender Rc_shape Rc_words Rc_mixer Rc_nearest Rc_found Rc_bytes Rc_putRight Rc_lastOfChannel Rc_lastMaster Rc_differing Rc_taken Rc_facts) H := hP.sub [0, 1, 2] rfl
        have hD : va_D A (w_DC_block cI cJ qX qRc qRc_facts X_shape X_words X_mixer X_row X_coder X_sender Rc_shape Rc_words Rc_mixer Rc_nearest Rc_found Rc_bytes Rc_putRight Rc_lastOfChannel Rc_lastMaster Rc_differing Rc_taken Rc_facts) := hD.sub [0, 1, 2] (by decide) rfl
        cases hm
        exact z_qo hQ (z_ireti hr hx hb hlocks hK hP hD hS d_DC_block_50)
    · exact T10 () hm _ _ hP hD hS _ (lv_sub hl [] rfl)
-- DeepChannel.word(II)I
abbrev b_DC_word : ByteArray := prog_1_method_14_code
abbrev y_DC_word : MethodName := ⟨"DeepChannel", "word", "(II)I"⟩
theorem d_DC_word_0 : decode b_DC_word 0 = .ok (.aload_n 0, 1) := by decide +kernel
theorem d_DC_word_1 : decode b_DC_word 1 = .ok (.getfield 63, 3) := by decide +kernel
theorem d_DC_word_4 : decode b_DC_word 4 = .ok (.iload_n 1, 1) := by decide +kernel
theorem d_DC_word_5 : decode b_DC_word 5 = .ok (.invokevirtual 189, 3) := by decide +kernel
theorem d_DC_word_8 : decode b_DC_word 8 = .ok (.ifCond .ne 13, 3) := by decide +kernel
theorem d_DC_word_11 : decode b_DC_word 11 = .ok (.new 192, 3) := by decide +kernel
theorem d_DC_word_14 : decode b_DC_word 14 = .ok (.dup, 1) := by decide +kernel
theorem d_DC_word_15 : decode b_DC_word 15 = .ok (.ldc 194, 2) := by decide +kernel
theorem d_DC_word_17 : decode b_DC_word 17 = .ok (.invokespecial 196, 3) := by decide +kernel
theorem d_DC_word_20 : decode b_DC_word 20 = .ok (.athrow, 1) := by decide +kernel
theorem d_DC_word_21 : decode b_DC_word 21 = .ok (.aload_n 0, 1) := by decide +kernel
theorem d_DC_word_22 : decode b_DC_word 22 = .ok (.getfield 63, 3) := by decide +kernel
theorem d_DC_word_25 : decode b_DC_word 25 = .ok (.iload_n 1, 1) := by decide +kernel
theorem d_DC_word_26 : decode b_DC_word 26 = .ok (.iload_n 2, 1) := by decide +kernel
theorem d_DC_word_27 : decode b_DC_word 27 = .ok (.invokevirtual 201, 3) := by decide +kernel
theorem d_DC_word_30 : decode b_DC_word 30 = .ok (.ireturn, 1) := by decide +kernel
theorem ok_DC_word : OKv y_DC_word b_DC_word 3 (some .int) "DeepChannel" 2 := ⟨k_853, k_851, k_852, k_42, by decide +kernel, by decide +kernel, by decide +kernel⟩
abbrev w_DC_word (cI cJ : ClassId) (qX qRc qSh qRc_putRight : Nat) (X_shape X_words X_mixer X_row X_coder X_sender Rc_words Rc_mixer Rc_nearest Rc_found Rc_bytes Rc_facts Rc_lastOfChannel Rc_lastMaster Rc_differing Sh_wordBytes Sh_e Sh_pattern : Value) (Rc_taken : Int32) (Sh_depth : Int32) (Rc_putRight : Nat → Int32) : va_W := [(qX, .inr (10, [X_shape, X_words, X_mixer, X_row, X_coder, X_sender, .ref qRc])), (qRc, .inr (6, [.ref qSh, Rc_words, Rc_mixer, Rc_nearest, Rc_found, Rc_bytes, Rc_facts, .ref qRc_putRight, Rc_lastOfChannel, Rc_lastMaster, Rc_differing, .int Rc_taken])), (qSh, .inr (8, [.int Sh_depth, Sh_wordBytes, Sh_e, Sh_pattern])), (qRc_putRight, .inl (cI, 128, .inl Rc_putRight))]
def f_DC_word (Rc_taken : Int32) (Sh_depth : Int32) (Rc_putRight : Nat → Int32) (x1 : Int32) (x2 : Int32) : Option (Int32) :=
  bd (f_Receiver_hasTaken Rc_taken x1) fun u2 =>
  nm u2 fun r1 =>
  if r1 = 0 then
    none
  else
  bd (f_Receiver_bytesPutRight Sh_depth Rc_putRight x1 x2) fun u4 =>
  nm u4 fun r3 =>
  some r3
set_option maxHeartbeats 4000000 in
set_option maxRecDepth 100000 in
theorem c_DC_word (l : Launch) (D : va_G) (cI cJ : ClassId) (tt : Nat → Nat) (qX qRc qSh qRc_putRight : Nat) (X_shape X_words X_mixer X_row X_coder X_sender Rc_words Rc_mixer Rc_nearest Rc_found Rc_bytes Rc_facts Rc_lastOfChannel Rc_lastMaster Rc_differing Sh_wordBytes Sh_e Sh_pattern : Value) (sz : Nat) (Rc_taken : Int32) (Sh_depth : Int32) (Rc_putRight : Nat → Int32) (x1 : Int32) (x2 : Int32) (rr : Int32) (hm : f_DC_word Rc_taken Sh_depth Rc_putRight x1 x2 = some rr) : CTi l y_DC_word b_DC_word 3 (some .int) (RM 1 22) D cI cJ tt [.ref qX, .int x1, .int x2] (w_DC_word cI cJ qX qRc qSh qRc_putRight X_shape X_words X_mixer X_row X_coder X_sender Rc_words Rc_mixer Rc_nearest Rc_found Rc_bytes Rc_facts Rc_lastOfChannel Rc_lastMaster Rc_differing Sh_wordBytes Sh_e Sh_pattern Rc_taken Sh_depth Rc_putRight) (w_DC_word cI cJ qX qRc qSh qRc_putRight X_shape X_words X_mixer X_row X_coder X_sender Rc_words Rc_mixer Rc_nearest Rc_found Rc_bytes Rc_facts Rc_lastOfChannel Rc_lastMaster Rc_differing Sh_wordBytes Sh_e Sh_pattern Rc_taken Sh_depth Rc_putRight) sz rr := by
  refine Met.ofW (cc := b_DC_word) (maxL := 3) (ret := (some .int)) (by decide) rfl ?_
  intro p e s m args below meth c s₁ B hml hv
  obtain ⟨hargs, hsz, hP, hK, hD0, hE⟩ := hv
  have hx := B.exec
  have hb := B.bytes
  have hr := B.returns
  have hts : ∀ w ∈ TB, w.before args s = true := z_mV s (atoms_spec (ws := WD y_DC_word b_DC_word 3 (some .int)) B.pre)
  have hown : s.vm.findClass "DeepChannel" = some m.cls := findClass_of_methodNamed B.named
  have hlocks := B.notSynchronized
  subst hsz
  have hD := hD0.self (sz := s.heap.size)
  generalize hAe : va_A (w_DC_word cI cJ qX qRc qSh qRc_putRight X_shape X_words X_mixer X_row X_coder X_sender Rc_words Rc_mixer Rc_nearest Rc_found Rc_bytes Rc_facts Rc_lastOfChannel Rc_lastMaster Rc_differing Sh_wordBytes Sh_e Sh_pattern Rc_taken Sh_depth Rc_putRight) s.heap.size = A at hD hE ⊢
  have hA : ∀ q : Nat, s.heap.size ≤ q → A q := fun q h => by rw [← hAe]; exact Or.inr h
  have hS : va_S A s.heap s.heap [] := va_S.rf
  refine z_entry (vs := [.ref qX, .int x1, .int x2]) hargs (Nat.le_of_ble_eq_true rfl) (fun ls hl => ?_)
  have hl : lv_has ls 3 [(0, .ref qX), (1, .int x1), (2, .int x2)] := hl
  show W p l e (RM 1 22) s m args below meth c s.heap [] 0 0 _ _
  refine z_qi (fun Q0 hQ => ?_)
  have F : CallFix p m c b_DC_word 3 s args TB "DeepChannel" := ⟨hx, hb, hml, hown, hts⟩
  unfold f_DC_word at hm
  refine lv_aload_n hx hb d_DC_word_0 rfl (lv_at hl 0 rfl) ?_
  refine va_get (D := D) (ci := 10) (v := .ref qRc) (C := "DeepChannel") (T := fT_DC) (N := 7) hx hb hts u_DC hown hK hP 0 rfl rfl 6 (by decide) (hts _ k_347) (fun _ h9 => h9) rfl d_DC_word_1 ?_
  refine lv_iload_n hx hb d_DC_word_4 rfl (lv_at hl 1 rfl) ?_
  obtain ⟨r1, hu, hm⟩ := bd_el hm
  replace hm := nm_1 hm
  refine z_cVi (wc := w_Receiver_hasTaken cI cJ qRc (.ref qSh) Rc_words Rc_mixer Rc_nearest Rc_found Rc_bytes Rc_facts (.ref qRc_putRight) Rc_lastOfChannel Rc_lastMaster Rc_differing Rc_taken) (wc' := w_Receiver_hasTaken cI cJ qRc (.ref qSh) Rc_words Rc_mixer Rc_nearest Rc_found Rc_bytes Rc_facts (.ref qRc_putRight) Rc_lastOfChannel Rc_lastMaster Rc_differing Rc_taken) (wr := [(qX, .inr (10, [X_shape, X_words, X_mixer, X_row, X_coder, X_sender, .ref qRc])), (qSh, .inr (8, [.int Sh_depth, Sh_wordBytes, Sh_e, Sh_pattern])), (qRc_putRight, .inl (cI, 128, .inl Rc_putRight))]) (As := [.int x1]) (rest := []) (c_Receiver_hasTaken l D cI cJ tt qRc (.ref qSh) Rc_words Rc_mixer Rc_nearest Rc_found Rc_bytes Rc_facts (.ref qRc_putRight) Rc_lastOfChannel Rc_lastMaster Rc_differing _ Rc_taken x1 r1 hu) F ok_Receiver_hasTaken rfl k_826 hK hE hP hD hS hA [1] [0, 2, 3] rfl rfl (by decide) (by decide) (by decide) 0 rfl rfl rfl ⟨rfl, rfl, Nat.le_of_ble_eq_true rfl, Nat.le_of_ble_eq_true rfl⟩ ⟨Nat.zero_le _, Nat.zero_le _⟩ rfl hl.1 rfl (Nat.le_of_ble_eq_true rfl) d_DC_word_5 (fun H locs hP hD hS => ?_)
  have hP : va_P D classes (w_DC_word cI cJ qX qRc qSh qRc_putRight X_shape X_words X_mixer X_row X_coder X_sender Rc_words Rc_mixer Rc_nearest Rc_found Rc_bytes Rc_facts Rc_lastOfChannel Rc_lastMaster Rc_differing Sh_wordBytes Sh_e Sh_pattern Rc_taken Sh_depth Rc_putRight) H := hP.sub [0, 3, 1, 2] rfl
  have hD : va_D A (w_DC_word cI cJ qX qRc qSh qRc_putRight X_shape X_words X_mixer X_row X_coder X_sender Rc_words Rc_mixer Rc_nearest Rc_found Rc_bytes Rc_facts Rc_lastOfChannel Rc_lastMaster Rc_differing Sh_wordBytes Sh_e Sh_pattern Rc_taken Sh_depth Rc_putRight) := hD.sub [0, 3, 1, 2] (by decide) rfl
  refine z_ifn hm (lv_if_ne (tgt := 21) hx hb d_DC_word_8 (by decide)) (fun hm => ?_) (fun hm => ?_)
  · cases hm
  · refine lv_aload_n hx hb d_DC_word_21 rfl (lv_at hl 0 rfl) ?_
    refine va_get (D := D) (ci := 10) (v := .ref qRc) (C := "DeepChannel") (T := fT_DC) (N := 7) hx hb hts u_DC hown hK hP 0 rfl rfl 6 (by decide) (hts _ k_347) (fun _ h9 => h9) rfl d_DC_word_22 ?_
    refine lv_iload_n hx hb d_DC_word_25 rfl (lv_at hl 1 rfl) ?_
    refine lv_iload_n hx hb d_DC_word_26 rfl (lv_at hl 2 rfl) ?_
    obtain ⟨r3, hu, hm⟩ := bd_el hm
    replace hm := nm_1 hm
    refine z_cVi (wc := w_Receiver_bytesPutRight cI cJ qRc qSh qRc_putRight Rc_words Rc_mixer Rc_nearest Rc_found Rc_bytes Rc_facts Rc_lastOfChannel Rc_lastMaster Rc_differing (.int Rc_taken) Sh_wordBytes Sh_e Sh_pattern Sh_depth Rc_putRight) (wc' := w_Receiver_bytesPutRight cI cJ qRc qSh qRc_putRight Rc_words Rc_mixer Rc_nearest Rc_found Rc_bytes Rc_facts Rc_lastOfChannel Rc_lastMaster Rc_differing (.int Rc_taken) Sh_wordBytes Sh_e Sh_pattern Sh_depth Rc_putRight) (wr := [(qX, .inr (10, [X_shape, X_words, X_mixer, X_row, X_coder, X_sender, .ref qRc]))]) (As := [.int x1, .int x2]) (rest := []) (c_Receiver_bytesPutRight l D cI cJ tt qRc qSh qRc_putRight Rc_words Rc_mixer Rc_nearest Rc_found Rc_bytes Rc_facts Rc_lastOfChannel Rc_lastMaster Rc_differing (.int Rc_taken) Sh_wordBytes Sh_e Sh_pattern _ Sh_depth Rc_putRight x1 x2 r3 hu) F ok_Receiver_bytesPutRight rfl k_854 hK hE hP hD hS hA [1, 2, 3] [0] rfl rfl (by decide) (by decide) (by decide) 0 rfl rfl rfl ⟨rfl, rfl, Nat.le_of_ble_eq_true rfl, Nat.le_of_ble_eq_true rfl⟩ ⟨Nat.zero_le _, Nat.zero_le _⟩ rfl hl.1 rfl (Nat.le_of_ble_eq_true rfl) d_DC_word_27 (fun H locs hP hD hS => ?_)
    have hP : va_P D classes (w_DC_word cI cJ qX qRc qSh qRc_putRight X_shape X_words X_mixer X_row X_coder X_sender Rc_words Rc_mixer Rc_nearest Rc_found Rc_bytes Rc_facts Rc_lastOfChannel Rc_lastMaster Rc_differing Sh_wordBytes Sh_e Sh_pattern Rc_taken Sh_depth Rc_putRight) H := hP.sub [0, 1, 2, 3] rfl
    have hD : va_D A (w_DC_word cI cJ qX qRc qSh qRc_putRight X_shape X_words X_mixer X_row X_coder X_sender Rc_words Rc_mixer Rc_nearest Rc_found Rc_bytes Rc_facts Rc_lastOfChannel Rc_lastMaster Rc_differing Sh_wordBytes Sh_e Sh_pattern Rc_taken Sh_depth Rc_putRight) := hD.sub [0, 1, 2, 3] (by decide) rfl
    cases hm
    exact z_qo hQ (z_ireti hr hx hb hlocks hK hP hD hS d_DC_word_30)
-- DeepChannel.frame(II)J
abbrev b_DC_frame : ByteArray := prog_1_method_15_code
abbrev y_DC_frame : MethodName := ⟨"DeepChannel", "frame", "(II)J"⟩
theorem d_DC_frame_0 : decode b_DC_frame 0 = .ok (.aload_n 0, 1) := by decide +kernel
theorem d_DC_frame_1 : decode b_DC_frame 1 = .ok (.getfield 63, 3) := by decide +kernel
theorem d_DC_frame_4 : decode b_DC_frame 4 = .ok (.iload_n 1, 1) := by decide +kernel
theorem d_DC_frame_5 : decode b_DC_frame 5 = .ok (.invokevirtual 189, 3) := by decide +kernel
theorem d_DC_frame_8 : decode b_DC_frame 8 = .ok (.ifCond .ne 13, 3) := by decide +kernel
theorem d_DC_frame_11 : decode b_DC_frame 11 = .ok (.new 192, 3) := by decide +kernel
theorem d_DC_frame_14 : decode b_DC_frame 14 = .ok (.dup, 1) := by decide +kernel
theorem d_DC_frame_15 : decode b_DC_frame 15 = .ok (.ldc 194, 2) := by decide +kernel
theorem d_DC_frame_17 : decode b_DC_frame 17 = .ok (.invokespecial 196, 3) := by decide +kernel
theorem d_DC_frame_20 : decode b_DC_frame 20 = .ok (.athrow, 1) := by decide +kernel
theorem d_DC_frame_21 : decode b_DC_frame 21 = .ok (.aload_n 0, 1) := by decide +kernel
theorem d_DC_frame_22 : decode b_DC_frame 22 = .ok (.getfield 63, 3) := by decide +kernel
theorem d_DC_frame_25 : decode b_DC_frame 25 = .ok (.iload_n 1, 1) := by decide +kernel
theorem d_DC_frame_26 : decode b_DC_frame 26 = .ok (.iload_n 2, 1) := by decide +kernel
theorem d_DC_frame_27 : decode b_DC_frame 27 = .ok (.invokevirtual 204, 3) := by decide +kernel
theorem d_DC_frame_30 : decode b_DC_frame 30 = .ok (.lreturn, 1) := by decide +kernel
theorem ok_DC_frame : OKv y_DC_frame b_DC_frame 3 (some .long) "DeepChannel" 2 := ⟨k_864, k_862, k_863, k_42, by decide +kernel, by decide +kernel, by decide +kernel⟩
abbrev w_DC_frame (cI cJ : ClassId) (qX qRc qSh qRc_bytes : Nat) (X_shape X_words X_mixer X_row X_coder X_sender Rc_words Rc_mixer Rc_nearest Rc_found Rc_facts Rc_putRight Rc_lastOfChannel Rc_lastMaster Rc_differing Sh_pattern : Value) (Rc_taken : Int32) (Sh_depth : Int32) (Sh_wordBytes : Int32) (Sh_e : Int32) (Rc_bytes : Nat → Int32) : va_W := [(qX, .inr (10, [X_shape, X_words, X_mixer, X_row, X_coder, X_sender, .ref qRc])), (qRc, .inr (6, [.ref qSh, Rc_words, Rc_mixer, Rc_nearest, Rc_found, .ref qRc_bytes, Rc_facts, Rc_putRight, Rc_lastOfChannel, Rc_lastMaster, Rc_differing, .int Rc_taken])), (qSh, .inr (8, [.int Sh_depth, .int Sh_wordBytes, .int Sh_e, Sh_pattern])), (qRc_bytes, .inl (cI, 512, .inl Rc_bytes))]
def f_DC_frame (Rc_taken : Int32) (Sh_depth : Int32) (Sh_wordBytes : Int32) (Sh_e : Int32) (Rc_bytes : Nat → Int32) (x1 : Int32) (x2 : Int32) : Option (Int64) :=
  bd (f_Receiver_hasTaken Rc_taken x1) fun u2 =>
  nm u2 fun r1 =>
  if r1 = 0 then
    none
  else
  bd (f_Receiver_frameWindow Sh_depth Sh_wordBytes Sh_e Rc_bytes x1 x2) fun u4 =>
  nm u4 fun r3 =>
  some r3
set_option maxHeartbeats 4000000 in
set_option maxRecDepth 100000 in
theorem c_DC_frame (l : Launch) (D : va_G) (cI cJ : ClassId) (tt : Nat → Nat) (qX qRc qSh qRc_bytes : Nat) (X_shape X_words X_mixer X_row X_coder X_sender Rc_words Rc_mixer Rc_nearest Rc_found Rc_facts Rc_putRight Rc_lastOfChannel Rc_lastMaster Rc_differing Sh_pattern : Value) (sz : Nat) (Rc_taken : Int32) (Sh_depth : Int32) (Sh_wordBytes : Int32) (Sh_e : Int32) (Rc_bytes : Nat → Int32) (x1 : Int32) (x2 : Int32) (rr : Int64) (hm : f_DC_frame Rc_taken Sh_depth Sh_wordBytes Sh_e Rc_bytes x1 x2 = some rr) : CTl l y_DC_frame b_DC_frame 3 (some .long) (RM 2 47) D cI cJ tt [.ref qX, .int x1, .int x2] (w_DC_frame cI cJ qX qRc qSh qRc_bytes X_shape X_words X_mixer X_row X_coder X_sender Rc_words Rc_mixer Rc_nearest Rc_found Rc_facts Rc_putRight Rc_lastOfChannel Rc_lastMaster Rc_differing Sh_pattern Rc_taken Sh_depth Sh_wordBytes Sh_e Rc_bytes) (w_DC_frame cI cJ qX qRc qSh qRc_bytes X_shape X_words X_mixer X_row X_coder X_sender Rc_words Rc_mixer Rc_nearest Rc_found Rc_facts Rc_putRight Rc_lastOfChannel Rc_lastMaster Rc_differing Sh_pattern Rc_taken Sh_depth Sh_wordBytes Sh_e Rc_bytes) sz rr := by
  refine Met.ofW (cc := b_DC_frame) (maxL := 3) (ret := (some .long)) (by decide) rfl ?_
  intro p e s m args below meth c s₁ B hml hv
  obtain ⟨hargs, hsz, hP, hK, hD0, hE⟩ := hv
  have hx := B.exec
  have hb := B.bytes
  have hr := B.returns
  have hts : ∀ w ∈ TB, w.before args s = true := z_mV s (atoms_spec (ws := WD y_DC_frame b_DC_frame 3 (some .long)) B.pre)
  have hown : s.vm.findClass "DeepChannel" = some m.cls := findClass_of_methodNamed B.named
  have hlocks := B.notSynchronized
  subst hsz
  have hD := hD0.self (sz := s.heap.size)
  generalize hAe : va_A (w_DC_frame cI cJ qX qRc qSh qRc_bytes X_shape X_words X_mixer X_row X_coder X_sender Rc_words Rc_mixer Rc_nearest Rc_found Rc_facts Rc_putRight Rc_lastOfChannel Rc_lastMaster Rc_differing Sh_pattern Rc_taken Sh_depth Sh_wordBytes Sh_e Rc_bytes) s.heap.size = A at hD hE ⊢
  have hA : ∀ q : Nat, s.heap.size ≤ q → A q := fun q h => by rw [← hAe]; exact Or.inr h
  have hS : va_S A s.heap s.heap [] := va_S.rf
  refine z_entry (vs := [.ref qX, .int x1, .int x2]) hargs (Nat.le_of_ble_eq_true rfl) (fun ls hl => ?_)
  have hl : lv_has ls 3 [(0, .ref qX), (1, .int x1), (2, .int x2)] := hl
  show W p l e (RM 2 47) s m args below meth c s.heap [] 0 0 _ _
  refine z_qi (fun Q0 hQ => ?_)
  have F : CallFix p m c b_DC_frame 3 s args TB "DeepChannel" := ⟨hx, hb, hml, hown, hts⟩
  unfold f_DC_frame at hm
  refine lv_aload_n hx hb d_DC_frame_0 rfl (lv_at hl 0 rfl) ?_
  refine va_get (D := D) (ci := 10) (v := .ref qRc) (C := "DeepChannel") (T := fT_DC) (N := 7) hx hb hts u_DC hown hK hP 0 rfl rfl 6 (by decide) (hts _ k_347) (fun _ h9 => h9) rfl d_DC_frame_1 ?_
  refine lv_iload_n hx hb d_DC_frame_4 rfl (lv_at hl 1 rfl) ?_
  obtain ⟨r1, hu, hm⟩ := bd_el hm
  replace hm := nm_1 hm
  refine z_cVi (wc := w_Receiver_hasTaken cI cJ qRc (.ref qSh) Rc_words Rc_mixer Rc_nearest Rc_found (.ref qRc_bytes) Rc_facts Rc_putRight Rc_lastOfChannel Rc_lastMaster Rc_differing Rc_taken) (wc' := w_Receiver_hasTaken cI cJ qRc (.ref qSh) Rc_words Rc_mixer Rc_nearest Rc_found (.ref qRc_bytes) Rc_facts Rc_putRight Rc_lastOfChannel Rc_lastMaster Rc_differing Rc_taken) (wr := [(qX, .inr (10, [X_shape, X_words, X_mixer, X_row, X_coder, X_sender, .ref qRc])), (qSh, .inr (8, [.int Sh_depth, .int Sh_wordBytes, .int Sh_e, Sh_pattern])), (qRc_bytes, .inl (cI, 512, .inl Rc_bytes))]) (As := [.int x1]) (rest := []) (c_Receiver_hasTaken l D cI cJ tt qRc (.ref qSh) Rc_words Rc_mixer Rc_nearest Rc_found (.ref qRc_bytes) Rc_facts Rc_putRight Rc_lastOfChannel Rc_lastMaster Rc_differing _ Rc_taken x1 r1 hu) F ok_Receiver_hasTaken rfl k_826 hK hE hP hD hS hA [1] [0, 2, 3] rfl rfl (by decide) (by decide) (by decide) 0 rfl rfl rfl ⟨rfl, rfl, Nat.le_of_ble_eq_true rfl, Nat.le_of_ble_eq_true rfl⟩ ⟨Nat.zero_le _, Nat.zero_le _⟩ rfl hl.1 rfl (Nat.le_of_ble_eq_true rfl) d_DC_frame_5 (fun H locs hP hD hS => ?_)
  have hP : va_P D classes (w_DC_frame cI cJ qX qRc qSh qRc_bytes X_shape X_words X_mixer X_row X_coder X_sender Rc_words Rc_mixer Rc_nearest Rc_found Rc_facts Rc_putRight Rc_lastOfChannel Rc_lastMaster Rc_differing Sh_pattern Rc_taken Sh_depth Sh_wordBytes Sh_e Rc_bytes) H := hP.sub [0, 3, 1, 2] rfl
  have hD : va_D A (w_DC_frame cI cJ qX qRc qSh qRc_bytes X_shape X_words X_mixer X_row X_coder X_sender Rc_words Rc_mixer Rc_nearest Rc_found Rc_facts Rc_putRight Rc_lastOfChannel Rc_lastMaster Rc_differing Sh_pattern Rc_taken Sh_depth Sh_wordBytes Sh_e Rc_bytes) := hD.sub [0, 3, 1, 2] (by decide) rfl
  refine z_ifn hm (lv_if_ne (tgt := 21) hx hb d_DC_frame_8 (by decide)) (fun hm => ?_) (fun hm => ?_)
  · cases hm
  · refine lv_aload_n hx hb d_DC_frame_21 rfl (lv_at hl 0 rfl) ?_
    refine va_get (D := D) (ci := 10) (v := .ref qRc) (C := "DeepChannel") (T := fT_DC) (N := 7) hx hb hts u_DC hown hK hP 0 rfl rfl 6 (by decide) (hts _ k_347) (fun _ h9 => h9) rfl d_DC_frame_22 ?_
    refine lv_iload_n hx hb d_DC_frame_25 rfl (lv_at hl 1 rfl) ?_
    refine lv_iload_n hx hb d_DC_frame_26 rfl (lv_at hl 2 rfl) ?_
    obtain ⟨r3, hu, hm⟩ := bd_el hm
    replace hm := nm_1 hm
    refine z_cVl (wc := w_Receiver_frameWindow cI cJ qRc qSh qRc_bytes Rc_words Rc_mixer Rc_nearest Rc_found Rc_facts Rc_putRight Rc_lastOfChannel Rc_lastMaster Rc_differing (.int Rc_taken) Sh_pattern Sh_depth Sh_wordBytes Sh_e Rc_bytes) (wc' := w_Receiver_frameWindow cI cJ qRc qSh qRc_bytes Rc_words Rc_mixer Rc_nearest Rc_found Rc_facts Rc_putRight Rc_lastOfChannel Rc_lastMaster Rc_differing (.int Rc_taken) Sh_pattern Sh_depth Sh_wordBytes Sh_e Rc_bytes) (wr := [(qX, .inr (10, [X_shape, X_words, X_mixer, X_row, X_coder, X_sender, .ref qRc]))]) (As := [.int x1, .int x2]) (rest := []) (c_Receiver_frameWindow l D cI cJ tt qRc qSh qRc_bytes Rc_words Rc_mixer Rc_nearest Rc_found Rc_facts Rc_putRight Rc_lastOfChannel Rc_lastMaster Rc_differing (.int Rc_taken) Sh_pattern _ Sh_depth Sh_wordBytes Sh_e Rc_bytes x1 x2 r3 hu) F ok_Receiver_frameWindow rfl k_865 hK hE hP hD hS hA [1, 2, 3] [0] rfl rfl (by decide) (by decide) (by decide) 0 rfl rfl rfl ⟨rfl, rfl, Nat.le_of_ble_eq_true rfl, Nat.le_of_ble_eq_true rfl⟩ ⟨Nat.zero_le _, Nat.zero_le _⟩ rfl hl.1 rfl (Nat.le_of_ble_eq_true rfl) d_DC_frame_27 (fun H locs hP hD hS => ?_)
    have hP : va_P D classes (w_DC_frame cI cJ qX qRc qSh qRc_bytes X_shape X_words X_mixer X_row X_coder X_sender Rc_words Rc_mixer Rc_nearest Rc_found Rc_facts Rc_putRight Rc_lastOfChannel Rc_lastMaster Rc_differing Sh_pattern Rc_taken Sh_depth Sh_wordBytes Sh_e Rc_bytes) H := hP.sub [0, 1, 2, 3] rfl
    have hD : va_D A (w_DC_frame cI cJ qX qRc qSh qRc_bytes X_shape X_words X_mixer X_row X_coder X_sender Rc_words Rc_mixer Rc_nearest Rc_found Rc_facts Rc_putRight Rc_lastOfChannel Rc_lastMaster Rc_differing Sh_pattern Rc_taken Sh_depth Sh_wordBytes Sh_e Rc_bytes) := hD.sub [0, 1, 2, 3] (by decide) rfl
    cases hm
    exact z_qo hQ (z_lret hr hx hb hlocks hK hP hD hS d_DC_frame_30)
