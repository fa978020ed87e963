-- DeepChannel$Nearest.decode(LDeepChannel$BitRow;IILDeepChannel$BitRow;)I
theorem sw_flip {sw : Bool} {la no a b : Nat} (h : (sw = false ∧ la = a ∧ no = b) ∨ (sw = true ∧ la = b ∧ no = a)) : ((!sw) = false ∧ no = a ∧ la = b) ∨ ((!sw) = true ∧ no = b ∧ la = a) := by
  rcases h with ⟨rfl, rfl, rfl⟩ | ⟨rfl, rfl, rfl⟩
  · exact Or.inr ⟨rfl, rfl, rfl⟩
  · exact Or.inl ⟨rfl, rfl, rfl⟩
abbrev b_Nearest_decode : ByteArray := prog_7_method_2_code
abbrev y_Nearest_decode : MethodName := ⟨"DeepChannel$Nearest", "decode", "(LDeepChannel$BitRow;IILDeepChannel$BitRow;)I"⟩
theorem d_Nearest_decode_0 : decode b_Nearest_decode 0 = .ok (.aload_n 0, 1) := by decide +kernel
theorem d_Nearest_decode_1 : decode b_Nearest_decode 1 = .ok (.getfield 18, 3) := by decide +kernel
theorem d_Nearest_decode_4 : decode b_Nearest_decode 4 = .ok (.astore 5, 2) := by decide +kernel
theorem d_Nearest_decode_6 : decode b_Nearest_decode 6 = .ok (.aload_n 0, 1) := by decide +kernel
theorem d_Nearest_decode_7 : decode b_Nearest_decode 7 = .ok (.getfield 21, 3) := by decide +kernel
theorem d_Nearest_decode_10 : decode b_Nearest_decode 10 = .ok (.astore 6, 2) := by decide +kernel
theorem d_Nearest_decode_12 : decode b_Nearest_decode 12 = .ok (.aload 5, 2) := by decide +kernel
theorem d_Nearest_decode_14 : decode b_Nearest_decode 14 = .ok (.iconst 0, 1) := by decide +kernel
theorem d_Nearest_decode_15 : decode b_Nearest_decode 15 = .ok (.invokestatic 34, 3) := by decide +kernel
theorem d_Nearest_decode_18 : decode b_Nearest_decode 18 = .ok (.aload_n 1, 1) := by decide +kernel
theorem d_Nearest_decode_19 : decode b_Nearest_decode 19 = .ok (.invokevirtual 40, 3) := by decide +kernel
theorem d_Nearest_decode_22 : decode b_Nearest_decode 22 = .ok (.istore 7, 2) := by decide +kernel
theorem d_Nearest_decode_24 : decode b_Nearest_decode 24 = .ok (.iload_n 3, 1) := by decide +kernel
theorem d_Nearest_decode_25 : decode b_Nearest_decode 25 = .ok (.iconst 1, 1) := by decide +kernel
theorem d_Nearest_decode_26 : decode b_Nearest_decode 26 = .ok (.isub, 1) := by decide +kernel
theorem d_Nearest_decode_27 : decode b_Nearest_decode 27 = .ok (.istore 8, 2) := by decide +kernel
theorem d_Nearest_decode_29 : decode b_Nearest_decode 29 = .ok (.iload 8, 2) := by decide +kernel
theorem d_Nearest_decode_31 : decode b_Nearest_decode 31 = .ok (.ifCond .lt 63, 3) := by decide +kernel
theorem d_Nearest_decode_34 : decode b_Nearest_decode 34 = .ok (.iload_n 2, 1) := by decide +kernel
theorem d_Nearest_decode_35 : decode b_Nearest_decode 35 = .ok (.iload 8, 2) := by decide +kernel
theorem d_Nearest_decode_37 : decode b_Nearest_decode 37 = .ok (.invokestatic 46, 3) := by decide +kernel
theorem d_Nearest_decode_40 : decode b_Nearest_decode 40 = .ok (.istore 9, 2) := by decide +kernel
theorem d_Nearest_decode_42 : decode b_Nearest_decode 42 = .ok (.iload 7, 2) := by decide +kernel
theorem d_Nearest_decode_44 : decode b_Nearest_decode 44 = .ok (.iload 9, 2) := by decide +kernel
theorem d_Nearest_decode_46 : decode b_Nearest_decode 46 = .ok (.invokestatic 50, 3) := by decide +kernel
theorem d_Nearest_decode_49 : decode b_Nearest_decode 49 = .ok (.isub, 1) := by decide +kernel
theorem d_Nearest_decode_50 : decode b_Nearest_decode 50 = .ok (.istore 7, 2) := by decide +kernel
theorem d_Nearest_decode_52 : decode b_Nearest_decode 52 = .ok (.aload_n 0, 1) := by decide +kernel
theorem d_Nearest_decode_53 : decode b_Nearest_decode 53 = .ok (.aload_n 1, 1) := by decide +kernel
theorem d_Nearest_decode_54 : decode b_Nearest_decode 54 = .ok (.iload 7, 2) := by decide +kernel
theorem d_Nearest_decode_56 : decode b_Nearest_decode 56 = .ok (.iload 9, 2) := by decide +kernel
theorem d_Nearest_decode_58 : decode b_Nearest_decode 58 = .ok (.invokevirtual 55, 3) := by decide +kernel
theorem d_Nearest_decode_61 : decode b_Nearest_decode 61 = .ok (.aload_n 0, 1) := by decide +kernel
theorem d_Nearest_decode_62 : decode b_Nearest_decode 62 = .ok (.getfield 24, 3) := by decide +kernel
theorem d_Nearest_decode_65 : decode b_Nearest_decode 65 = .ok (.iload 8, 2) := by decide +kernel
theorem d_Nearest_decode_67 : decode b_Nearest_decode 67 = .ok (.aload_n 0, 1) := by decide +kernel
theorem d_Nearest_decode_68 : decode b_Nearest_decode 68 = .ok (.aload 5, 2) := by decide +kernel
theorem d_Nearest_decode_70 : decode b_Nearest_decode 70 = .ok (.aload 6, 2) := by decide +kernel
theorem d_Nearest_decode_72 : decode b_Nearest_decode 72 = .ok (.invokevirtual 59, 3) := by decide +kernel
theorem d_Nearest_decode_75 : decode b_Nearest_decode 75 = .ok (.lastore, 1) := by decide +kernel
theorem d_Nearest_decode_76 : decode b_Nearest_decode 76 = .ok (.aload 5, 2) := by decide +kernel
theorem d_Nearest_decode_78 : decode b_Nearest_decode 78 = .ok (.astore 10, 2) := by decide +kernel
theorem d_Nearest_decode_80 : decode b_Nearest_decode 80 = .ok (.aload 6, 2) := by decide +kernel
theorem d_Nearest_decode_82 : decode b_Nearest_decode 82 = .ok (.astore 5, 2) := by decide +kernel
theorem d_Nearest_decode_84 : decode b_Nearest_decode 84 = .ok (.aload 10, 2) := by decide +kernel
theorem d_Nearest_decode_86 : decode b_Nearest_decode 86 = .ok (.astore 6, 2) := by decide +kernel
theorem d_Nearest_decode_88 : decode b_Nearest_decode 88 = .ok (.iinc 8 (-1), 3) := by decide +kernel
theorem d_Nearest_decode_91 : decode b_Nearest_decode 91 = .ok (.goto (-62), 3) := by decide +kernel
theorem d_Nearest_decode_94 : decode b_Nearest_decode 94 = .ok (.aload_n 0, 1) := by decide +kernel
theorem d_Nearest_decode_95 : decode b_Nearest_decode 95 = .ok (.iload_n 3, 1) := by decide +kernel
theorem d_Nearest_decode_96 : decode b_Nearest_decode 96 = .ok (.aload 4, 2) := by decide +kernel
theorem d_Nearest_decode_98 : decode b_Nearest_decode 98 = .ok (.invokevirtual 63, 3) := by decide +kernel
theorem d_Nearest_decode_101 : decode b_Nearest_decode 101 = .ok (.aload 5, 2) := by decide +kernel
theorem d_Nearest_decode_103 : decode b_Nearest_decode 103 = .ok (.iconst 0, 1) := by decide +kernel
theorem d_Nearest_decode_104 : decode b_Nearest_decode 104 = .ok (.iaload, 1) := by decide +kernel
theorem d_Nearest_decode_105 : decode b_Nearest_decode 105 = .ok (.ireturn, 1) := by decide +kernel
theorem ok_Nearest_decode : OKv y_Nearest_decode b_Nearest_decode 11 (some .int) "DeepChannel$Nearest" 4 := ⟨k_695, k_693, k_694, k_54, by decide +kernel, by decide +kernel, by decide +kernel⟩
abbrev w_Nearest_decode (cI cJ : ClassId) (qNr qNr_evenRow qRw qFo qFo_cells qNr_oneIsBetter qRw_cells qNr_distances qNr_pairs qNr_oddRow la no : Nat) (Nr_evenRow : Nat → Int32) (Rw_length : Int32) (Fo_length : Int32) (Fo_cells : Nat → Int64) (Nr_oneIsBetter : Nat → Int64) (Rw_cells : Nat → Int64) (Nr_distances : Nat → Int32) (Nr_pairs : Nat → Int32) (Nr_oddRow : Nat → Int32) : va_W := [(qNr, .inr (5, [.ref qNr_pairs, .ref qNr_distances, .ref qNr_evenRow, .ref qNr_oddRow, .ref qNr_oneIsBetter])), (la, .inl (cI, 64, .inl Nr_evenRow)), (qRw, .inr (0, [.ref qRw_cells, .int Rw_length])), (qFo, .inr (0, [.ref qFo_cells, .int Fo_length])), (qFo_cells, .inl (cJ, 64, .inr (.inl Fo_cells))), (qNr_oneIsBetter, .inl (cJ, 4096, .inr (.inl Nr_oneIsBetter))), (qRw_cells, .inl (cJ, 64, .inr (.inl Rw_cells))), (qNr_distances, .inl (cI, 4, .inl Nr_distances)), (qNr_pairs, .inl (cI, 64, .inl Nr_pairs)), (no, .inl (cI, 64, .inl Nr_oddRow))]
def f_Nearest_decode_94  (sw : Bool) (x3 : Int32) (Nr_evenRow : Nat → Int32) (Fo_length : Int32) (Fo_cells : Nat → Int64) (Nr_oneIsBetter : Nat → Int64) (Nr_distances : Nat → Int32) (Nr_oddRow : Nat → Int32) : Option (Int32 × (Nat → Int32) × Int32 × (Nat → Int64) × (Nat → Int64) × (Nat → Int32) × (Nat → Int32)) :=
  bd (f_Nearest_trace Fo_length Fo_cells Nr_oneIsBetter x3) fun u3 =>
  nm u3.1 fun v1 =>
  nm u3.2 fun g2 =>
  rdI Nr_evenRow 64 (0 : Int32) fun v4 =>
  some (v4, (cond sw Nr_oddRow Nr_evenRow), v1, g2, Nr_oneIsBetter, Nr_distances, (cond sw Nr_evenRow Nr_oddRow))
def f_Nearest_decode_29_b (Rw_cells : Nat → Int64) (Nr_pairs : Nat → Int32) (kh29 : Bool → Int32 → Int32 → Int32 → Int32 → (Nat → Int32) → Int32 → (Nat → Int64) → (Nat → Int64) → (Nat → Int32) → (Nat → Int32) → Option (Int32 × (Nat → Int32) × Int32 × (Nat → Int64) × (Nat → Int64) × (Nat → Int32) × (Nat → Int32))) (sw : Bool) (x2 : Int32) (x3 : Int32) (x7 : Int32) (x8 : Int32) (Nr_evenRow : Nat → Int32) (Fo_length : Int32) (Fo_cells : Nat → Int64) (Nr_oneIsBetter : Nat → Int64) (Nr_distances : Nat → Int32) (Nr_oddRow : Nat → Int32) : Option (Int32 × (Nat → Int32) × Int32 × (Nat → Int64) × (Nat → Int64) × (Nat → Int32) × (Nat → Int32)) :=
  if x8 < 0 then
    f_Nearest_decode_94 sw x3 Nr_evenRow Fo_length Fo_cells Nr_oneIsBetter Nr_distances Nr_oddRow
  else
  bd (f_Coder_keptAt x2 x8) fun u6 =>
  nm u6 fun r5 =>
  bd (f_Integer_bitCount r5) fun u8 =>
  nm u8 fun r7 =>
  nm (x7 - r7) fun v9 =>
  bd (f_Nearest_measure Rw_cells Nr_distances v9 r5) fun u11 =>
  nm u11 fun g10 =>
  bd (f_Nearest_stepBack Nr_pairs g10 Nr_evenRow Nr_oddRow 64 64) fun u14 =>
  nm u14.1 fun r12 =>
  nm u14.2 fun g13 =>
  wrL Nr_oneIsBetter 4096 x8 r12 fun g15 =>
  nm (x8 + (-1 : Int32)) fun v16 =>
  kh29 (!sw) x2 x3 v9 v16 g13 Fo_length Fo_cells g15 g10 Nr_evenRow
def f_Nearest_decode_29 (Rw_cells : Nat → Int64) (Nr_pairs : Nat → Int32) : Nat → Bool → Int32 → Int32 → Int32 → Int32 → (Nat → Int32) → Int32 → (Nat → Int64) → (Nat → Int64) → (Nat → Int32) → (Nat → Int32) → Option (Int32 × (Nat → Int32) × Int32 × (Nat → Int64) × (Nat → Int64) × (Nat → Int32) × (Nat → Int32))
  | 0 => fun _ _ _ _ _ _ _ _ _ _ _ => none
  | n + 1 => fun sw x2 x3 x7 x8 Nr_evenRow Fo_length Fo_cells Nr_oneIsBetter Nr_distances Nr_oddRow => f_Nearest_decode_29_b Rw_cells Nr_pairs (f_Nearest_decode_29 Rw_cells Nr_pairs n) sw x2 x3 x7 x8 Nr_evenRow Fo_length Fo_cells Nr_oneIsBetter Nr_distances Nr_oddRow
def f_Nearest_decode (Nr_evenRow : Nat → Int32) (Rw_length : Int32) (Fo_length : Int32) (Fo_cells : Nat → Int64) (Nr_oneIsBetter : Nat → Int64) (Rw_cells : Nat → Int64) (Nr_distances : Nat → Int32) (Nr_pairs : Nat → Int32) (Nr_oddRow : Nat → Int32) (x2 : Int32) (x3 : Int32) : Option (Int32 × (Nat → Int32) × Int32 × (Nat → Int64) × (Nat → Int64) × (Nat → Int32) × (Nat → Int32)) :=
  bd (f_Arrays_fillI Nr_evenRow 64 (0 : Int32)) fun u18 =>
  nm u18 fun g17 =>
  bd (f_BitRow_size Rw_length) fun u20 =>
  nm u20 fun r19 =>
  nm (x3 - (1 : Int32)) fun v21 =>
  f_Nearest_decode_29 Rw_cells Nr_pairs 10000 false x2 x3 r19 v21 g17 Fo_length Fo_cells Nr_oneIsBetter Nr_distances Nr_oddRow
set_option maxHeartbeats 4000000 in
set_option maxRecDepth 100000 in
theorem c_Nearest_decode (l : Launch) (D : va_G) (cI cJ : ClassId) (tt : Nat → Nat) (qNr qNr_evenRow qRw qFo qFo_cells qNr_oneIsBetter qRw_cells qNr_distances qNr_pairs qNr_oddRow : Nat) (sz : Nat) (Nr_evenRow : Nat → Int32) (Rw_length : Int32) (Fo_length : Int32) (Fo_cells : Nat → Int64) (Nr_oneIsBetter : Nat → Int64) (Rw_cells : Nat → Int64) (Nr_distances : Nat → Int32) (Nr_pairs : Nat → Int32) (Nr_oddRow : Nat → Int32) (x2 : Int32) (x3 : Int32) (rr : Int32) (Nr_evenRow' : Nat → Int32) (Fo_length' : Int32) (Fo_cells' : Nat → Int64) (Nr_oneIsBetter' : Nat → Int64) (Nr_distances' : Nat → Int32) (Nr_oddRow' : Nat → Int32) (hm : f_Nearest_decode Nr_evenRow Rw_length Fo_length Fo_cells Nr_oneIsBetter Rw_cells Nr_distances Nr_pairs Nr_oddRow x2 x3 = some (rr, Nr_evenRow', Fo_length', Fo_cells', Nr_oneIsBetter', Nr_distances', Nr_oddRow')) : CTi l y_Nearest_decode b_Nearest_decode 11 (some .int) (RM 3 69) D cI cJ tt [.ref qNr, .ref qRw, .int x2, .int x3, .ref qFo] (w_Nearest_decode cI cJ qNr qNr_evenRow qRw qFo qFo_cells qNr_oneIsBetter qRw_cells qNr_distances qNr_pairs qNr_oddRow qNr_evenRow qNr_oddRow Nr_evenRow Rw_length Fo_length Fo_cells Nr_oneIsBetter Rw_cells Nr_distances Nr_pairs Nr_oddRow) (w_Nearest_decode cI cJ qNr qNr_evenRow qRw qFo qFo_cells qNr_oneIsBetter qRw_cells qNr_distances qNr_pairs qNr_oddRow qNr_evenRow qNr_oddRow Nr_evenRow' Rw_length Fo_length' Fo_cells' Nr_oneIsBetter' Rw_cells Nr_distances' Nr_pairs Nr_oddRow') sz rr := by
  refine Met.ofW (cc := b_Nearest_decode) (maxL := 11) (ret := (some .int)) (by decide) rfl ?_
  intro p e s m args below meth c s₁ B hml hv
  obtain ⟨hargs, hsz, hP, hK, hD0, hE⟩ := hv
  have hx := B.exec
  have hb := B.bytes
  have hr := B.returns
  have hts : ∀ w ∈ TB, w.before args s = true := z_mV s (atoms_spec (ws := WD y_Nearest_decode b_Nearest_decode 11 (some .int)) B.pre)
  have hown : s.vm.findClass "DeepChannel$Nearest" = some m.cls := findClass_of_methodNamed B.named
  have hlocks := B.notSynchronized
  subst hsz
  have hD := hD0.self (sz := s.heap.size)
  generalize hAe : va_A (w_Nearest_decode cI cJ qNr qNr_evenRow qRw qFo qFo_cells qNr_oneIsBetter qRw_cells qNr_distances qNr_pairs qNr_oddRow qNr_evenRow qNr_oddRow Nr_evenRow Rw_length Fo_length Fo_cells Nr_oneIsBetter Rw_cells Nr_distances Nr_pairs Nr_oddRow) s.heap.size = A at hD hE ⊢
  have hA : ∀ q : Nat, s.heap.size ≤ q → A q := fun q h => by rw [← hAe]; exact Or.inr h
  have hS : va_S A s.heap s.heap [] := va_S.rf
  refine z_entry (vs := [.ref qNr, .ref qRw, .int x2, .int x3, .ref qFo]) hargs (Nat.le_of_ble_eq_true rfl) (fun ls hl => ?_)
  have hl : lv_has ls 11 [(0, .ref qNr), (1, .ref qRw), (2, .int x2), (3, .int x3), (4, .ref qFo)] := hl
  show W p l e (RM 3 69) s m args below meth c s.heap [] 0 0 _ _
  refine z_qi (fun Q0 hQ => ?_)
  have F : CallFix p m c b_Nearest_decode 11 s args TB "DeepChannel$Nearest" := ⟨hx, hb, hml, hown, hts⟩
  have T94 : ∀ (la no : Nat) (sw : Bool) (hsw : (sw = false ∧ la = qNr_evenRow ∧ no = qNr_oddRow) ∨ (sw = true ∧ la = qNr_oddRow ∧ no = qNr_evenRow)) (x3 : Int32) (Nr_evenRow : Nat → Int32) (Fo_length : Int32) (Fo_cells : Nat → Int64) (Nr_oneIsBetter : Nat → Int64) (Nr_distances : Nat → Int32) (Nr_oddRow : Nat → Int32), f_Nearest_decode_94 sw x3 Nr_evenRow Fo_length Fo_cells Nr_oneIsBetter Nr_distances Nr_oddRow = some (rr, Nr_evenRow', Fo_length', Fo_cells', Nr_oneIsBetter', Nr_distances', Nr_oddRow') → ∀ (H : Heap) (locs : List Loc), va_P D classes (w_Nearest_decode cI cJ qNr qNr_evenRow qRw qFo qFo_cells qNr_oneIsBetter qRw_cells qNr_distances qNr_pairs qNr_oddRow la no Nr_evenRow Rw_length Fo_length Fo_cells Nr_oneIsBetter Rw_cells Nr_distances Nr_pairs Nr_oddRow) H → va_D A (w_Nearest_decode cI cJ qNr qNr_evenRow qRw qFo qFo_cells qNr_oneIsBetter qRw_cells qNr_distances qNr_pairs qNr_oddRow la no Nr_evenRow Rw_length Fo_length Fo_cells Nr_oneIsBetter Rw_cells Nr_distances Nr_pairs Nr_oddRow) → va_S A s.heap H locs → ∀ (ls : Array Slot), lv_has ls 11 [(0, .ref qNr), (3, .int x3), (4, .ref qFo), (5, .ref la)] → W p l e (RM 3 69) s m args below meth c H locs 0 0 Q0 (F0 m 94 ls []) := by
    intro la no sw hsw x3 Nr_evenRow Fo_length Fo_cells Nr_oneIsBetter Nr_distances Nr_oddRow hm H locs hP hD hS ls hl
    unfold f_Nearest_decode_94 at hm
    refine lv_aload_n hx hb d_Nearest_decode_94 rfl (lv_at hl 0 rfl) ?_
    refine lv_iload_n hx hb d_Nearest_decode_95 rfl (lv_at hl 1 rfl) ?_
    refine lv_aload hx hb d_Nearest_decode_96 (lv_at hl 2 rfl) ?_
    obtain ⟨⟨v1, g2⟩, hu, hm⟩ := bd_el hm
    replace hm := nm_2 hm
    refine z_cVv (wc := w_Nearest_trace cI cJ qFo qFo_cells qNr qNr_oneIsBetter (.ref qNr_pairs) (.ref qNr_distances) (.ref qNr_evenRow) (.ref qNr_oddRow) Fo_length Fo_cells Nr_oneIsBetter) (wc' := w_Nearest_trace cI cJ qFo qFo_cells qNr qNr_oneIsBetter (.ref qNr_pairs) (.ref qNr_distances) (.ref qNr_evenRow) (.ref qNr_oddRow) v1 g2 Nr_oneIsBetter) (wr := [(la, .inl (cI, 64, .inl Nr_evenRow)), (qRw, .inr (0, [.ref qRw_cells, .int Rw_length])), (qRw_cells, .inl (cJ, 64, .inr (.inl Rw_cells))), (qNr_distances, .inl (cI, 4, .inl Nr_distances)), (qNr_pairs, .inl (cI, 64, .inl Nr_pairs)), (no, .inl (cI, 64, .inl Nr_oddRow))]) (As := [.int x3, .ref qFo]) (rest := []) (c_Nearest_trace l D cI cJ tt qFo qFo_cells qNr qNr_oneIsBetter (.ref qNr_pairs) (.ref qNr_distances) (.ref qNr_evenRow) (.ref qNr_oddRow) _ Fo_length Fo_cells Nr_oneIsBetter x3 v1 g2 hu) F ok_Nearest_trace rfl k_716 hK hE hP hD hS hA [3, 4, 0, 5] [1, 2, 6, 7, 8, 9] rfl rfl (by decide) (by decide) (by decide) 2 rfl rfl rfl ⟨rfl, rfl, Nat.le_of_ble_eq_true rfl, Nat.le_of_ble_eq_true rfl⟩ ⟨Nat.zero_le _, Nat.zero_le _⟩ rfl hl.1 rfl (Nat.le_of_ble_eq_true rfl) d_Nearest_decode_98 (fun H locs hP hD hS => ?_)
    have hP : va_P D classes (w_Nearest_decode cI cJ qNr qNr_evenRow qRw qFo qFo_cells qNr_oneIsBetter qRw_cells qNr_distances qNr_pairs qNr_oddRow la no Nr_evenRow Rw_length v1 g2 Nr_oneIsBetter Rw_cells Nr_distances Nr_pairs Nr_oddRow) H := hP.sub [8, 0, 1, 6, 7, 9, 2, 3, 4, 5] rfl
    have hD : va_D A (w_Nearest_decode cI cJ qNr qNr_evenRow qRw qFo qFo_cells qNr_oneIsBetter qRw_cells qNr_distances qNr_pairs qNr_oddRow la no Nr_evenRow Rw_length v1 g2 Nr_oneIsBetter Rw_cells Nr_distances Nr_pairs Nr_oddRow) := hD.sub [8, 0, 1, 6, 7, 9, 2, 3, 4, 5] (by decide) rfl
    refine lv_aload hx hb d_Nearest_decode_101 (lv_at hl 3 rfl) ?_
    refine lv_iconst (v := (0 : Int32)) hx hb d_Nearest_decode_103 (by decide) ?_
    refine z_iald hm hx hb hK hP 1 rfl d_Nearest_decode_104 (fun v4 hm => ?_)
    rcases hsw with ⟨rfl, rfl, rfl⟩ | ⟨rfl, rfl, rfl⟩
    · cases hm
      exact z_qo hQ (z_ireti hr hx hb hlocks hK hP hD hS d_Nearest_decode_105)
    · cases hm
      exact z_qo hQ (z_ireti hr hx hb hlocks hK (hP.sub [0, 9, 2, 3, 4, 5, 6, 7, 8, 1] rfl) (hD.sub [0, 9, 2, 3, 4, 5, 6, 7, 8, 1] (by decide) rfl) hS d_Nearest_decode_105)
  have T29 : ∀ (n29 : Nat) (la no : Nat) (sw : Bool) (hsw : (sw = false ∧ la = qNr_evenRow ∧ no = qNr_oddRow) ∨ (sw = true ∧ la = qNr_oddRow ∧ no = qNr_evenRow)) (x2 : Int32) (x3 : Int32) (x7 : Int32) (x8 : Int32) (Nr_evenRow : Nat → Int32) (Fo_length : Int32) (Fo_cells : Nat → Int64) (Nr_oneIsBetter : Nat → Int64) (Nr_distances : Nat → Int32) (Nr_oddRow : Nat → Int32), f_Nearest_decode_29 Rw_cells Nr_pairs n29 sw x2 x3 x7 x8 Nr_evenRow Fo_length Fo_cells Nr_oneIsBetter Nr_distances Nr_oddRow = some (rr, Nr_evenRow', Fo_length', Fo_cells', Nr_oneIsBetter', Nr_distances', Nr_oddRow') → ∀ (H : Heap) (locs : List Loc), va_P D classes (w_Nearest_decode cI cJ qNr qNr_evenRow qRw qFo qFo_cells qNr_oneIsBetter qRw_cells qNr_distances qNr_pairs qNr_oddRow la no Nr_evenRow Rw_length Fo_length Fo_cells Nr_oneIsBetter Rw_cells Nr_distances Nr_pairs Nr_oddRow) H → va_D A (w_Nearest_decode cI cJ qNr qNr_evenRow qRw qFo qFo_cells qNr_oneIsBetter qRw_cells qNr_distances qNr_pairs qNr_oddRow la no Nr_evenRow Rw_length Fo_length Fo_cells Nr_oneIsBetter Rw_cells Nr_distances Nr_pairs Nr_oddRow) → va_S A s.heap H locs → ∀ (ls : Array Slot), lv_has ls 11 [(0, .ref qNr), (1, .ref qRw), (2, .int x2), (3, .int x3), (4, .ref qFo), (5, .ref la), (6, .ref no), (7, .int x7), (8, .int x8)] → W p l e (RM 3 69) s m args below meth c H locs 0 0 Q0 (F0 m 29 ls []) := by
    intro n29
    induction n29 with
    | zero => intro la no sw hsw x2 x3 x7 x8 Nr_evenRow Fo_length Fo_cells Nr_oneIsBetter Nr_distances Nr_oddRow hm; cases hm
    | succ n29 ih29 =>
      intro la no sw hsw x2 x3 x7 x8 Nr_evenRow Fo_length Fo_cells Nr_oneIsBetter Nr_distances Nr_oddRow hm H locs hP hD hS ls hl
      replace hm : f_Nearest_decode_29_b Rw_cells Nr_pairs (f_Nearest_decode_29 Rw_cells Nr_pairs n29) sw x2 x3 x7 x8 Nr_evenRow Fo_length Fo_cells Nr_oneIsBetter Nr_distances Nr_oddRow = some (rr, Nr_evenRow', Fo_length', Fo_cells', Nr_oneIsBetter', Nr_distances', Nr_oddRow') := hm
      unfold f_Nearest_decode_29_b at hm
      refine lv_iload hx hb d_Nearest_decode_29 (lv_at hl 8 rfl) ?_
      refine z_if hm (lv_if_lt (tgt := 94) hx hb d_Nearest_decode_31 (by decide)) (fun hm => ?_) (fun hm => ?_)
      · exact T94 la no sw hsw x3 Nr_evenRow Fo_length Fo_cells Nr_oneIsBetter Nr_distances Nr_oddRow hm _ _ hP hD hS _ (lv_sub hl [0, 3, 4, 5] rfl)
      · refine lv_iload_n hx hb d_Nearest_decode_34 rfl (lv_at hl 2 rfl) ?_
        refine lv_iload hx hb d_Nearest_decode_35 (lv_at hl 8 rfl) ?_
        obtain ⟨r5, hu, hm⟩ := bd_el hm
        replace hm := nm_1 hm
        refine z_cSi (wc := w_Coder_keptAt) (wc' := w_Coder_keptAt) (wr := [(qNr, .inr (5, [.ref qNr_pairs, .ref qNr_distances, .ref qNr_evenRow, .ref qNr_oddRow, .ref qNr_oneIsBetter])), (la, .inl (cI, 64, .inl Nr_evenRow)), (qRw, .inr (0, [.ref qRw_cells, .int Rw_length])), (qFo, .inr (0, [.ref qFo_cells, .int Fo_length])), (qFo_cells, .inl (cJ, 64, .inr (.inl Fo_cells))), (qNr_oneIsBetter, .inl (cJ, 4096, .inr (.inl Nr_oneIsBetter))), (qRw_cells, .inl (cJ, 64, .inr (.inl Rw_cells))), (qNr_distances, .inl (cI, 4, .inl Nr_distances)), (qNr_pairs, .inl (cI, 64, .inl Nr_pairs)), (no, .inl (cI, 64, .inl Nr_oddRow))]) (As := [.int x2, .int x8]) (rest := []) (c_Coder_keptAt l D cI cJ tt _ x2 x8 r5 hu) F ok_Coder_keptAt k_698 hK hE hP hD hS hA [] [0, 1, 2, 3, 4, 5, 6, 7, 8, 9] rfl rfl (by decide) (by decide) (by decide) ⟨rfl, rfl, Nat.le_of_ble_eq_true rfl, Nat.le_of_ble_eq_true rfl⟩ ⟨Nat.zero_le _, Nat.zero_le _⟩ rfl hl.1 rfl (Nat.le_of_ble_eq_true rfl) d_Nearest_decode_37 (fun H locs hP hD hS => ?_)
        have hP : va_P D classes (w_Nearest_decode cI cJ qNr qNr_evenRow qRw qFo qFo_cells qNr_oneIsBetter qRw_cells qNr_distances qNr_pairs qNr_oddRow la no Nr_evenRow Rw_length Fo_length Fo_cells Nr_oneIsBetter Rw_cells Nr_distances Nr_pairs Nr_oddRow) H := hP.sub [0, 1, 2, 3, 4, 5, 6, 7, 8, 9] rfl
        have hD : va_D A (w_Nearest_decode cI cJ qNr qNr_evenRow qRw qFo qFo_cells qNr_oneIsBetter qRw_cells qNr_distances qNr_pairs qNr_oddRow la no Nr_evenRow Rw_length Fo_length Fo_cells Nr_oneIsBetter Rw_cells Nr_distances Nr_pairs Nr_oddRow) := hD.sub [0, 1, 2, 3, 4, 5, 6, 7, 8, 9] (by decide) rfl
        refine lv_istore (lv' := [(9, .int r5), (0, .ref qNr), (1, .ref qRw), (2, .int x2), (3, .int x3), (4, .ref qFo), (5, .ref la), (6, .ref no), (7, .int x7), (8, .int x8)]) hx hb d_Nearest_decode_40 hl (by decide) rfl (fun ls hl => ?_)
        refine lv_iload hx hb d_Nearest_decode_42 (lv_at hl 8 rfl) ?_
        refine lv_iload hx hb d_Nearest_decode_44 (lv_at hl 0 rfl) ?_
        obtain ⟨r7, hu, hm⟩ := bd_el hm
        replace hm := nm_1 hm
        refine z_cSi (wc := w_Integer_bitCount) (wc' := w_Integer_bitCount) (wr := [(qNr, .inr (5, [.ref qNr_pairs, .ref qNr_distances, .ref qNr_evenRow, .ref qNr_oddRow, .ref qNr_oneIsBetter])), (la, .inl (cI, 64, .inl Nr_evenRow)), (qRw, .inr (0, [.ref qRw_cells, .int Rw_length])), (qFo, .inr (0, [.ref qFo_cells, .int Fo_length])), (qFo_cells, .inl (cJ, 64, .inr (.inl Fo_cells))), (qNr_oneIsBetter, .inl (cJ, 4096, .inr (.inl Nr_oneIsBetter))), (qRw_cells, .inl (cJ, 64, .inr (.inl Rw_cells))), (qNr_distances, .inl (cI, 4, .inl Nr_distances)), (qNr_pairs, .inl (cI, 64, .inl Nr_pairs)), (no, .inl (cI, 64, .inl Nr_oddRow))]) (As := [.int r5]) (rest := [.int x7]) (c_Integer_bitCount l D cI cJ tt _ r5 r7 hu) F ok_Integer_bitCount k_699 hK hE hP hD hS hA [] [0, 1, 2, 3, 4, 5, 6, 7, 8, 9] rfl rfl (by decide) (by decide) (by decide) ⟨rfl, rfl, Nat.le_of_ble_eq_true rfl, Nat.le_of_ble_eq_true rfl⟩ ⟨Nat.zero_le _, Nat.zero_le _⟩ rfl hl.1 rfl (Nat.le_of_ble_eq_true rfl) d_Nearest_decode_46 (fun H locs hP hD hS => ?_)
        have hP : va_P D classes (w_Nearest_decode cI cJ qNr qNr_evenRow qRw qFo qFo_cells qNr_oneIsBetter qRw_cells qNr_distances qNr_pairs qNr_oddRow la no Nr_evenRow Rw_length Fo_length Fo_cells Nr_oneIsBetter Rw_cells Nr_distances Nr_pairs Nr_oddRow) H := hP.sub [0, 1, 2, 3, 4, 5, 6, 7, 8, 9] rfl
        have hD : va_D A (w_Nearest_decode cI cJ qNr qNr_evenRow qRw qFo qFo_cells qNr_oneIsBetter qRw_cells qNr_distances qNr_pairs qNr_oddRow la no Nr_evenRow Rw_length Fo_length Fo_cells Nr_oneIsBetter Rw_cells Nr_distances Nr_pairs Nr_oddRow) := hD.sub [0, 1, 2, 3, 4, 5, 6, 7, 8, 9] (by decide) rfl
        refine lv_isub hx hb d_Nearest_decode_49 ?_
        refine z_nmi hm (fun v9 hm => ?_)
        refine lv_istore (lv' := [(7, .int v9), (9, .int r5), (0, .ref qNr), (1, .ref qRw), (2, .int x2), (3, .int x3), (4, .ref qFo), (5, .ref la), (6, .ref no), (8, .int x8)]) hx hb d_Nearest_decode_50 hl (by decide) rfl (fun ls hl => ?_)
        refine lv_aload_n hx hb d_Nearest_decode_52 rfl (lv_at hl 2 rfl) ?_
        refine lv_aload_n hx hb d_Nearest_decode_53 rfl (lv_at hl 3 rfl) ?_
        refine lv_iload hx hb d_Nearest_decode_54 (lv_at hl 0 rfl) ?_
        refine lv_iload hx hb d_Nearest_decode_56 (lv_at hl 1 rfl) ?_
        obtain ⟨g10, hu, hm⟩ := bd_el hm
        replace hm := nm_1 hm
        refine z_cVv (wc := w_Nearest_measure cI cJ qRw qRw_cells qNr qNr_distances (.int Rw_length) (.ref qNr_pairs) (.ref qNr_evenRow) (.ref qNr_oddRow) (.ref qNr_oneIsBetter) Rw_cells Nr_distances) (wc' := w_Nearest_measure cI cJ qRw qRw_cells qNr qNr_distances (.int Rw_length) (.ref qNr_pairs) (.ref qNr_evenRow) (.ref qNr_oddRow) (.ref qNr_oneIsBetter) Rw_cells g10) (wr := [(la, .inl (cI, 64, .inl Nr_evenRow)), (qFo, .inr (0, [.ref qFo_cells, .int Fo_length])), (qFo_cells, .inl (cJ, 64, .inr (.inl Fo_cells))), (qNr_oneIsBetter, .inl (cJ, 4096, .inr (.inl Nr_oneIsBetter))), (qNr_pairs, .inl (cI, 64, .inl Nr_pairs)), (no, .inl (cI, 64, .inl Nr_oddRow))]) (As := [.ref qRw, .int v9, .int r5]) (rest := []) (c_Nearest_measure l D cI cJ tt qRw qRw_cells qNr qNr_distances (.int Rw_length) (.ref qNr_pairs) (.ref qNr_evenRow) (.ref qNr_oddRow) (.ref qNr_oneIsBetter) _ Rw_cells Nr_distances v9 r5 g10 hu) F ok_Nearest_measure rfl k_700 hK hE hP hD hS hA [2, 6, 0, 7] [1, 3, 4, 5, 8, 9] rfl rfl (by decide) (by decide) (by decide) 2 rfl rfl rfl ⟨rfl, rfl, Nat.le_of_ble_eq_true rfl, Nat.le_of_ble_eq_true rfl⟩ ⟨Nat.zero_le _, Nat.zero_le _⟩ rfl hl.1 rfl (Nat.le_of_ble_eq_true rfl) d_Nearest_decode_58 (fun H locs hP hD hS => ?_)
        have hP : va_P D classes (w_Nearest_decode cI cJ qNr qNr_evenRow qRw qFo qFo_cells qNr_oneIsBetter qRw_cells qNr_distances qNr_pairs qNr_oddRow la no Nr_evenRow Rw_length Fo_length Fo_cells Nr_oneIsBetter Rw_cells g10 Nr_pairs Nr_oddRow) H := hP.sub [8, 0, 6, 1, 2, 3, 7, 9, 4, 5] rfl
        have hD : va_D A (w_Nearest_decode cI cJ qNr qNr_evenRow qRw qFo qFo_cells qNr_oneIsBetter qRw_cells qNr_distances qNr_pairs qNr_oddRow la no Nr_evenRow Rw_length Fo_length Fo_cells Nr_oneIsBetter Rw_cells g10 Nr_pairs Nr_oddRow) := hD.sub [8, 0, 6, 1, 2, 3, 7, 9, 4, 5] (by decide) rfl
        refine lv_aload_n hx hb d_Nearest_decode_61 rfl (lv_at hl 2 rfl) ?_
        refine va_get (D := D) (ci := 5) (v := .ref qNr_oneIsBetter) (C := "DeepChannel$Nearest") (T := fT_Nearest) (N := 5) hx hb hts u_Nearest hown hK hP 0 rfl rfl 4 (by decide) (hts _ k_290) (fun _ h9 => h9) rfl d_Nearest_decode_62 ?_
        refine lv_iload hx hb d_Nearest_decode_65 (lv_at hl 9 rfl) ?_
        refine lv_aload_n hx hb d_Nearest_decode_67 rfl (lv_at hl 2 rfl) ?_
        refine lv_aload hx hb d_Nearest_decode_68 (lv_at hl 7 rfl) ?_
        refine lv_aload hx hb d_Nearest_decode_70 (lv_at hl 8 rfl) ?_
        obtain ⟨⟨r12, g13⟩, hu, hm⟩ := bd_el hm
        replace hm := nm_2 hm
        refine z_cVl (wc := w_Nearest_stepBack cI cJ qNr qNr_pairs qNr_distances la no (.ref qNr_evenRow) (.ref qNr_oddRow) (.ref qNr_oneIsBetter) 64 64 Nr_pairs g10 Nr_evenRow Nr_oddRow) (wc' := w_Nearest_stepBack cI cJ qNr qNr_pairs qNr_distances la no (.ref qNr_evenRow) (.ref qNr_oddRow) (.ref qNr_oneIsBetter) 64 64 Nr_pairs g10 Nr_evenRow g13) (wr := [(qRw, .inr (0, [.ref qRw_cells, .int Rw_length])), (qFo, .inr (0, [.ref qFo_cells, .int Fo_length])), (qFo_cells, .inl (cJ, 64, .inr (.inl Fo_cells))), (qNr_oneIsBetter, .inl (cJ, 4096, .inr (.inl Nr_oneIsBetter))), (qRw_cells, .inl (cJ, 64, .inr (.inl Rw_cells)))]) (As := [.ref la, .ref no]) (rest := [.int x8, .ref qNr_oneIsBetter]) (c_Nearest_stepBack l D cI cJ tt qNr qNr_pairs qNr_distances la no (.ref qNr_evenRow) (.ref qNr_oddRow) (.ref qNr_oneIsBetter) 64 64 _ Nr_pairs g10 Nr_evenRow Nr_oddRow r12 g13 hu) F ok_Nearest_stepBack rfl k_708 hK hE hP hD hS hA [0, 8, 7, 1, 9] [2, 3, 4, 5, 6] rfl rfl (by decide) (by decide) (by decide) 0 rfl rfl rfl ⟨rfl, rfl, Nat.le_of_ble_eq_true rfl, Nat.le_of_ble_eq_true rfl⟩ ⟨Nat.zero_le _, Nat.zero_le _⟩ rfl hl.1 rfl (Nat.le_of_ble_eq_true rfl) d_Nearest_decode_72 (fun H locs hP hD hS => ?_)
        have hP : va_P D classes (w_Nearest_decode cI cJ qNr qNr_evenRow qRw qFo qFo_cells qNr_oneIsBetter qRw_cells qNr_distances qNr_pairs qNr_oddRow la no Nr_evenRow Rw_length Fo_length Fo_cells Nr_oneIsBetter Rw_cells g10 Nr_pairs g13) H := hP.sub [5, 8, 0, 1, 2, 3, 4, 7, 6, 9] rfl
        have hD : va_D A (w_Nearest_decode cI cJ qNr qNr_evenRow qRw qFo qFo_cells qNr_oneIsBetter qRw_cells qNr_distances qNr_pairs qNr_oddRow la no Nr_evenRow Rw_length Fo_length Fo_cells Nr_oneIsBetter Rw_cells g10 Nr_pairs g13) := hD.sub [5, 8, 0, 1, 2, 3, 4, 7, 6, 9] (by decide) rfl
        refine z_last hm hx hb hK hP hD hS 5 rfl d_Nearest_decode_75 (fun g15 hm H locs hP hD hS => ?_)
        have hP : va_P D classes (w_Nearest_decode cI cJ qNr qNr_evenRow qRw qFo qFo_cells qNr_oneIsBetter qRw_cells qNr_distances qNr_pairs qNr_oddRow la no Nr_evenRow Rw_length Fo_length Fo_cells g15 Rw_cells g10 Nr_pairs g13) H := hP
        have hD : va_D A (w_Nearest_decode cI cJ qNr qNr_evenRow qRw qFo qFo_cells qNr_oneIsBetter qRw_cells qNr_distances qNr_pairs qNr_oddRow la no Nr_evenRow Rw_length Fo_length Fo_cells g15 Rw_cells g10 Nr_pairs g13) := hD
        refine lv_aload hx hb d_Nearest_decode_76 (lv_at hl 7 rfl) ?_
        refine lv_astore (lv' := [(10, .ref la), (7, .int v9), (9, .int r5), (0, .ref qNr), (1, .ref qRw), (2, .int x2), (3, .int x3), (4, .ref qFo), (5, .ref la), (6, .ref no), (8, .int x8)]) hx hb d_Nearest_decode_78 hl (by decide) rfl (fun ls hl => ?_)
        refine lv_aload hx hb d_Nearest_decode_80 (lv_at hl 9 rfl) ?_
        refine lv_astore (lv' := [(5, .ref no), (10, .ref la), (7, .int v9), (9, .int r5), (0, .ref qNr), (1, .ref qRw), (2, .int x2), (3, .int x3), (4, .ref qFo), (6, .ref no), (8, .int x8)]) hx hb d_Nearest_decode_82 hl (by decide) rfl (fun ls hl => ?_)
        refine lv_aload hx hb d_Nearest_decode_84 (lv_at hl 1 rfl) ?_
        refine lv_astore (lv' := [(6, .ref la), (5, .ref no), (10, .ref la), (7, .int v9), (9, .int r5), (0, .ref qNr), (1, .ref qRw), (2, .int x2), (3, .int x3), (4, .ref qFo), (8, .int x8)]) hx hb d_Nearest_decode_86 hl (by decide) rfl (fun ls hl => ?_)
        obtain ⟨v16, ev, hm⟩ := nm_el hm
        refine lv_iinc (v := v16) (lv' := [(8, .int v16), (6, .ref la), (5, .ref no), (10, .ref la), (7, .int v9), (9, .int r5), (0, .ref qNr), (1, .ref qRw), (2, .int x2), (3, .int x3), (4, .ref qFo)]) hx hb d_Nearest_decode_88 hl (k := 10) rfl (by rw [ev]; rfl) (by decide) rfl (fun ls hl => ?_)
        refine lv_goto (tgt := 29) hx hb d_Nearest_decode_91 (by decide) ?_
        exact ih29 no la (!sw) (sw_flip hsw) x2 x3 v9 v16 g13 Fo_length Fo_cells g15 g10 Nr_evenRow hm _ _ (hP.sub [0, 9, 2, 3, 4, 5, 6, 7, 8, 1] rfl) (hD.sub [0, 9, 2, 3, 4, 5, 6, 7, 8, 1] (by decide) rfl) hS _ (lv_sub hl [6, 7, 8, 9, 10, 2, 1, 4, 0] rfl)
  unfold f_Nearest_decode at hm
  refine lv_aload_n hx hb d_Nearest_decode_0 rfl (lv_at hl 0 rfl) ?_
  refine va_get (D := D) (ci := 5) (v := .ref qNr_evenRow) (C := "DeepChannel$Nearest") (T := fT_Nearest) (N := 5) hx hb hts u_Nearest hown hK hP 0 rfl rfl 2 (by decide) (hts _ k_288) (fun _ h9 => h9) rfl d_Nearest_decode_1 ?_
  refine lv_astore (lv' := [(5, .ref qNr_evenRow), (0, .ref qNr), (1, .ref qRw), (2, .int x2), (3, .int x3), (4, .ref qFo)]) hx hb d_Nearest_decode_4 hl (by decide) rfl (fun ls hl => ?_)
  refine lv_aload_n hx hb d_Nearest_decode_6 rfl (lv_at hl 1 rfl) ?_
  refine va_get (D := D) (ci := 5) (v := .ref qNr_oddRow) (C := "DeepChannel$Nearest") (T := fT_Nearest) (N := 5) hx hb hts u_Nearest hown hK hP 0 rfl rfl 3 (by decide) (hts _ k_289) (fun _ h9 => h9) rfl d_Nearest_decode_7 ?_
  refine lv_astore (lv' := [(6, .ref qNr_oddRow), (5, .ref qNr_evenRow), (0, .ref qNr), (1, .ref qRw), (2, .int x2), (3, .int x3), (4, .ref qFo)]) hx hb d_Nearest_decode_10 hl (by decide) rfl (fun ls hl => ?_)
  refine lv_aload hx hb d_Nearest_decode_12 (lv_at hl 1 rfl) ?_
  refine lv_iconst (v := (0 : Int32)) hx hb d_Nearest_decode_14 (by decide) ?_
  obtain ⟨g17, hu, hm⟩ := bd_el hm
  replace hm := nm_1 hm
  refine z_cSv (wc := w_Arrays_fillI cI cJ qNr_evenRow 64 Nr_evenRow) (wc' := w_Arrays_fillI cI cJ qNr_evenRow 64 g17) (wr := [(qNr, .inr (5, [.ref qNr_pairs, .ref qNr_distances, .ref qNr_evenRow, .ref qNr_oddRow, .ref qNr_oneIsBetter])), (qRw, .inr (0, [.ref qRw_cells, .int Rw_length])), (qFo, .inr (0, [.ref qFo_cells, .int Fo_length])), (qFo_cells, .inl (cJ, 64, .inr (.inl Fo_cells))), (qNr_oneIsBetter, .inl (cJ, 4096, .inr (.inl Nr_oneIsBetter))), (qRw_cells, .inl (cJ, 64, .inr (.inl Rw_cells))), (qNr_distances, .inl (cI, 4, .inl Nr_distances)), (qNr_pairs, .inl (cI, 64, .inl Nr_pairs)), (qNr_oddRow, .inl (cI, 64, .inl Nr_oddRow))]) (As := [.ref qNr_evenRow, .int (0 : Int32)]) (rest := []) (c_Arrays_fillI l D cI cJ tt qNr_evenRow 64 _ Nr_evenRow (0 : Int32) g17 hu) F ok_Arrays_fillI k_696 hK hE hP hD hS hA [1] [0, 2, 3, 4, 5, 6, 7, 8, 9] rfl rfl (by decide) (by decide) (by decide) ⟨rfl, rfl, Nat.le_of_ble_eq_true rfl, Nat.le_of_ble_eq_true rfl⟩ ⟨Nat.zero_le _, Nat.zero_le _⟩ rfl hl.1 rfl (Nat.le_of_ble_eq_true rfl) d_Nearest_decode_15 (fun H locs hP hD hS => ?_)
  have hP : va_P D classes (w_Nearest_decode cI cJ qNr qNr_evenRow qRw qFo qFo_cells qNr_oneIsBetter qRw_cells qNr_distances qNr_pairs qNr_oddRow qNr_evenRow qNr_oddRow g17 Rw_length Fo_length Fo_cells Nr_oneIsBetter Rw_cells Nr_distances Nr_pairs Nr_oddRow) H := hP.sub [0, 9, 1, 2, 3, 4, 5, 6, 7, 8] rfl
  have hD : va_D A (w_Nearest_decode cI cJ qNr qNr_evenRow qRw qFo qFo_cells qNr_oneIsBetter qRw_cells qNr_distances qNr_pairs qNr_oddRow qNr_evenRow qNr_oddRow g17 Rw_length Fo_length Fo_cells Nr_oneIsBetter Rw_cells Nr_distances Nr_pairs Nr_oddRow) := hD.sub [0, 9, 1, 2, 3, 4, 5, 6, 7, 8] (by decide) rfl
  refine lv_aload_n hx hb d_Nearest_decode_18 rfl (lv_at hl 3 rfl) ?_
  obtain ⟨r19, hu, hm⟩ := bd_el hm
  replace hm := nm_1 hm
  refine z_cVi (wc := w_BitRow_size cI cJ qRw (.ref qRw_cells) Rw_length) (wc' := w_BitRow_size cI cJ qRw (.ref qRw_cells) Rw_length) (wr := [(qNr, .inr (5, [.ref qNr_pairs, .ref qNr_distances, .ref qNr_evenRow, .ref qNr_oddRow, .ref qNr_oneIsBetter])), (qNr_evenRow, .inl (cI, 64, .inl g17)), (qFo, .inr (0, [.ref qFo_cells, .int Fo_length])), (qFo_cells, .inl (cJ, 64, .inr (.inl Fo_cells))), (qNr_oneIsBetter, .inl (cJ, 4096, .inr (.inl Nr_oneIsBetter))), (qRw_cells, .inl (cJ, 64, .inr (.inl Rw_cells))), (qNr_distances, .inl (cI, 4, .inl Nr_distances)), (qNr_pairs, .inl (cI, 64, .inl Nr_pairs)), (qNr_oddRow, .inl (cI, 64, .inl Nr_oddRow))]) (As := []) (rest := []) (c_BitRow_size l D cI cJ tt qRw (.ref qRw_cells) _ Rw_length r19 hu) F ok_BitRow_size rfl k_697 hK hE hP hD hS hA [2] [0, 1, 3, 4, 5, 6, 7, 8, 9] rfl rfl (by decide) (by decide) (by decide) 0 rfl rfl rfl ⟨rfl, rfl, Nat.le_of_ble_eq_true rfl, Nat.le_of_ble_eq_true rfl⟩ ⟨Nat.zero_le _, Nat.zero_le _⟩ rfl hl.1 rfl (Nat.le_of_ble_eq_true rfl) d_Nearest_decode_19 (fun H locs hP hD hS => ?_)
  have hP : va_P D classes (w_Nearest_decode cI cJ qNr qNr_evenRow qRw qFo qFo_cells qNr_oneIsBetter qRw_cells qNr_distances qNr_pairs qNr_oddRow qNr_evenRow qNr_oddRow g17 Rw_length Fo_length Fo_cells Nr_oneIsBetter Rw_cells Nr_distances Nr_pairs Nr_oddRow) H := hP.sub [0, 1, 9, 2, 3, 4, 5, 6, 7, 8] rfl
  have hD : va_D A (w_Nearest_decode cI cJ qNr qNr_evenRow qRw qFo qFo_cells qNr_oneIsBetter qRw_cells qNr_distances qNr_pairs qNr_oddRow qNr_evenRow qNr_oddRow g17 Rw_length Fo_length Fo_cells Nr_oneIsBetter Rw_cells Nr_distances Nr_pairs Nr_oddRow) := hD.sub [0, 1, 9, 2, 3, 4, 5, 6, 7, 8] (by decide) rfl
  refine lv_istore (lv' := [(7, .int r19), (6, .ref qNr_oddRow), (5, .ref qNr_evenRow), (0, .ref qNr), (1, .ref qRw), (2, .int x2), (3, .int x3), (4, .ref qFo)]) hx hb d_Nearest_decode_22 hl (by decide) rfl (fun ls hl => ?_)
  refine lv_iload_n hx hb d_Nearest_decode_24 rfl (lv_at hl 6 rfl) ?_
  refine lv_iconst (v := (1 : Int32)) hx hb d_Nearest_decode_25 (by decide) ?_
  refine lv_isub hx hb d_Nearest_decode_26 ?_
  refine z_nmi hm (fun v21 hm => ?_)
  refine lv_istore (lv' := [(8, .int v21), (7, .int r19), (6, .ref qNr_oddRow), (5, .ref qNr_evenRow), (0, .ref qNr), (1, .ref qRw), (2, .int x2), (3, .int x3), (4, .ref qFo)]) hx hb d_Nearest_decode_27 hl (by decide) rfl (fun ls hl => ?_)
  exact T29 10000 qNr_evenRow qNr_oddRow false (Or.inl ⟨rfl, rfl, rfl⟩) x2 x3 r19 v21 g17 Fo_length Fo_cells Nr_oneIsBetter Nr_distances Nr_oddRow hm _ _ hP hD hS _ (lv_sub hl [4, 5, 6, 7, 8, 3, 2, 1, 0] rfl)
-- DeepChannel$Receiver.decodeRow(LDeepChannel$BitRow;I)V
abbrev b_Receiver_decodeRow : ByteArray := prog_8_method_11_code
abbrev y_Receiver_decodeRow : MethodName := ⟨"DeepChannel$Receiver", "decodeRow", "(LDeepChannel$BitRow;I)V"⟩
theorem d_Receiver_decodeRow_0 : decode b_Receiver_decodeRow 0 = .ok (.aload_n 0, 1) := by decide +kernel
theorem d_Receiver_decodeRow_1 : decode b_Receiver_decodeRow 1 = .ok (.aload_n 0, 1) := by decide +kernel
theorem d_Receiver_decodeRow_2 : decode b_Receiver_decodeRow 2 = .ok (.getfield 12, 3) := by decide +kernel
theorem d_Receiver_decodeRow_5 : decode b_Receiver_decodeRow 5 = .ok (.aload_n 1, 1) := by decide +kernel
theorem d_Receiver_decodeRow_6 : decode b_Receiver_decodeRow 6 = .ok (.aload_n 0, 1) := by decide +kernel
theorem d_Receiver_decodeRow_7 : decode b_Receiver_decodeRow 7 = .ok (.getfield 48, 3) := by decide +kernel
theorem d_Receiver_decodeRow_10 : decode b_Receiver_decodeRow 10 = .ok (.getfield 82, 3) := by decide +kernel
theorem d_Receiver_decodeRow_13 : decode b_Receiver_decodeRow 13 = .ok (.iload_n 2, 1) := by decide +kernel
theorem d_Receiver_decodeRow_14 : decode b_Receiver_decodeRow 14 = .ok (.aload_n 0, 1) := by decide +kernel
theorem d_Receiver_decodeRow_15 : decode b_Receiver_decodeRow 15 = .ok (.getfield 21, 3) := by decide +kernel
theorem d_Receiver_decodeRow_18 : decode b_Receiver_decodeRow 18 = .ok (.invokevirtual 85, 3) := by decide +kernel
theorem d_Receiver_decodeRow_21 : decode b_Receiver_decodeRow 21 = .ok (.putfield 42, 3) := by decide +kernel
theorem d_Receiver_decodeRow_24 : decode b_Receiver_decodeRow 24 = .ok (.return_, 1) := by decide +kernel
theorem ok_Receiver_decodeRow : OKv y_Receiver_decodeRow b_Receiver_decodeRow 3 none "DeepChannel$Receiver" 2 := ⟨k_691, k_689, k_690, k_53, by decide +kernel, by decide +kernel, by decide +kernel⟩
abbrev w_Receiver_decodeRow (cI cJ : ClassId) (qRc qSh qNr qNr_evenRow qRw qFo qFo_cells qNr_oneIsBetter qRw_cells qNr_distances qNr_pairs qNr_oddRow : Nat) (Rc_words Rc_mixer Rc_bytes Rc_facts Rc_putRight Rc_lastOfChannel Rc_lastMaster Rc_taken Sh_depth Sh_wordBytes Sh_e : Value) (Rc_differing : Int32) (Sh_pattern : Int32) (Nr_evenRow : Nat → Int32) (Rw_length : Int32) (Fo_length : Int32) (Fo_cells : Nat → Int64) (Nr_oneIsBetter : Nat → Int64) (Rw_cells : Nat → Int64) (Nr_distances : Nat → Int32) (Nr_pairs : Nat → Int32) (Nr_oddRow : Nat → Int32) : va_W := [(qRc, .inr (6, [.ref qSh, Rc_words, Rc_mixer, .ref qNr, .ref qFo, Rc_bytes, Rc_facts, Rc_putRight, Rc_lastOfChannel, Rc_lastMaster, .int Rc_differing, Rc_taken])), (qSh, .inr (8, [Sh_depth, Sh_wordBytes, Sh_e, .int Sh_pattern])), (qNr, .inr (5, [.ref qNr_pairs, .ref qNr_distances, .ref qNr_evenRow, .ref qNr_oddRow, .ref qNr_oneIsBetter])), (qNr_evenRow, .inl (cI, 64, .inl Nr_evenRow)), (qRw, .inr (0, [.ref qRw_cells, .int Rw_length])), (qFo, .inr (0, [.ref qFo_cells, .int Fo_length])), (qFo_cells, .inl (cJ, 64, .inr (.inl Fo_cells))), (qNr_oneIsBetter, .inl (cJ, 4096, .inr (.inl Nr_oneIsBetter))), (qRw_cells, .inl (cJ, 64, .inr (.inl Rw_cells))), (qNr_distances, .inl (cI, 4, .inl Nr_distances)), (qNr_pairs, .inl (cI, 64, .inl Nr_pairs)), (qNr_oddRow, .inl (cI, 64, .inl Nr_oddRow))]
def f_Receiver_decodeRow (Rc_differing : Int32) (Sh_pattern : Int32) (Nr_evenRow : Nat → Int32) (Rw_length : Int32) (Fo_length : Int32) (Fo_cells : Nat → Int64) (Nr_oneIsBetter : Nat → Int64) (Rw_cells : Nat → Int64) (Nr_distances : Nat → Int32) (Nr_pairs : Nat → Int32) (Nr_oddRow : Nat → Int32) (x2 : Int32) : Option (Int32 × (Nat → Int32) × Int32 × (Nat → Int64) × (Nat → Int64) × (Nat → Int32) × (Nat → Int32)) :=
  bd (f_Nearest_decode Nr_evenRow Rw_length Fo_length Fo_cells Nr_oneIsBetter Rw_cells Nr_distances Nr_pairs Nr_oddRow Sh_pattern x2) fun u8 =>
  nm u8.1 fun r1 =>
  nm u8.2.1 fun g2 =>
  nm u8.2.2.1 fun v3 =>
  nm u8.2.2.2.1 fun g4 =>
  nm u8.2.2.2.2.1 fun g5 =>
  nm u8.2.2.2.2.2.1 fun g6 =>
  nm u8.2.2.2.2.2.2 fun g7 =>
  some (r1, g2, v3, g4, g5, g6, g7)
set_option maxHeartbeats 4000000 in
set_option maxRecDepth 100000 in
theorem c_Receiver_decodeRow (l : Launch) (D : va_G) (cI cJ : ClassId) (tt : Nat → Nat) (qRc qSh qNr qNr_evenRow qRw qFo qFo_cells qNr_oneIsBetter qRw_cells qNr_distances qNr_pairs qNr_oddRow : Nat) (Rc_words Rc_mixer Rc_bytes Rc_facts Rc_putRight Rc_lastOfChannel Rc_lastMaster Rc_taken Sh_depth Sh_wordBytes Sh_e : Value) (sz : Nat) (Rc_differing : Int32) (Sh_pattern : Int32) (Nr_evenRow : Nat → Int32) (Rw_length : Int32) (Fo_length : Int32) (Fo_cells : Nat → Int64) (Nr_oneIsBetter : Nat → Int64) (Rw_cells : Nat → Int64) (Nr_distances : Nat → Int32) (Nr_pairs : Nat → Int32) (Nr_oddRow : Nat → Int32) (x2 : Int32) (Rc_differing' : Int32) (Nr_evenRow' : Nat → Int32) (Fo_length' : Int32) (Fo_cells' : Nat → Int64) (Nr_oneIsBetter' : Nat → Int64) (Nr_distances' : Nat → Int32) (Nr_oddRow' : Nat → Int32) (hm : f_Receiver_decodeRow Rc_differing Sh_pattern Nr_evenRow Rw_length Fo_length Fo_cells Nr_oneIsBetter Rw_cells Nr_distances Nr_pairs Nr_oddRow x2 = some (Rc_differing', Nr_evenRow', Fo_length', Fo_cells', Nr_oneIsBetter', Nr_distances', Nr_oddRow')) : CTv l y_Receiver_decodeRow b_Receiver_decodeRow 3 none (RM 4 99) D cI cJ tt [.ref qRc, .ref qRw, .int x2] (w_Receiver_decodeRow cI cJ qRc qSh qNr qNr_evenRow qRw qFo qFo_cells qNr_oneIsBetter qRw_cells qNr_distances qNr_pairs qNr_oddRow Rc_words Rc_mixer Rc_bytes Rc_facts Rc_putRight Rc_lastOfChannel Rc_lastMaster Rc_taken Sh_depth Sh_wordBytes Sh_e Rc_differing Sh_pattern Nr_evenRow Rw_length Fo_length Fo_cells Nr_oneIsBetter Rw_cells Nr_distances Nr_pairs Nr_oddRow) (w_Receiver_decodeRow cI cJ qRc qSh qNr qNr_evenRow qRw qFo qFo_cells qNr_oneIsBetter qRw_cells qNr_distances qNr_pairs qNr_oddRow Rc_words Rc_mixer Rc_bytes Rc_facts Rc_putRight Rc_lastOfChannel Rc_lastMaster Rc_taken Sh_depth Sh_wordBytes Sh_e Rc_differing' Sh_pattern Nr_evenRow' Rw_length Fo_length' Fo_cells' Nr_oneIsBetter' Rw_cells Nr_distances' Nr_pairs Nr_oddRow') sz := by
  refine Met.ofW (cc := b_Receiver_decodeRow) (maxL := 3) (ret := none) (by decide) rfl ?_
  intro p e s m args below meth c s₁ B hml hv
  obtain ⟨hargs, hsz, hP, hK, hD0, hE⟩ := hv
  have hx := B.exec
  have hb := B.bytes
  have hr := B.returns
  have hts : ∀ w ∈ TB, w.before args s = true := z_mV s (atoms_spec (ws := WD y_Receiver_decodeRow b_Receiver_decodeRow 3 none) B.pre)
  have hown : s.vm.findClass "DeepChannel$Receiver" = some m.cls := findClass_of_methodNamed B.named
  have hlocks := B.notSynchronized
  subst hsz
  have hD := hD0.self (sz := s.heap.size)
  generalize hAe : va_A (w_Receiver_decodeRow cI cJ qRc qSh qNr qNr_evenRow qRw qFo qFo_cells qNr_oneIsBetter qRw_cells qNr_distances qNr_pairs qNr_oddRow Rc_words Rc_mixer Rc_bytes Rc_facts Rc_putRight Rc_lastOfChannel Rc_lastMaster Rc_taken Sh_depth Sh_wordBytes Sh_e Rc_differing Sh_pattern Nr_evenRow Rw_length Fo_length Fo_cells Nr_oneIsBetter Rw_cells Nr_distances Nr_pairs Nr_oddRow) s.heap.size = A at hD hE ⊢
  have hA : ∀ q : Nat, s.heap.size ≤ q → A q := fun q h => by rw [← hAe]; exact Or.inr h
  have hS : va_S A s.heap s.heap [] := va_S.rf
  refine z_entry (vs := [.ref qRc, .ref qRw, .int x2]) hargs (Nat.le_of_ble_eq_true rfl) (fun ls hl => ?_)
  have hl : lv_has ls 3 [(0, .ref qRc), (1, .ref qRw), (2, .int x2)] := hl
  show W p l e (RM 4 99) s m args below meth c s.heap [] 0 0 _ _
  refine z_qi (fun Q0 hQ => ?_)
  have F : CallFix p m c b_Receiver_decodeRow 3 s args TB "DeepChannel$Receiver" := ⟨hx, hb, hml, hown, hts⟩
  unfold f_Receiver_decodeRow at hm
  refine lv_aload_n hx hb d_Receiver_decodeRow_0 rfl (lv_at hl 0 rfl) ?_
  refine lv_aload_n hx hb d_Receiver_decodeRow_1 rfl (lv_at hl 0 rfl) ?_
  refine va_get (D := D) (ci := 6) (v := .ref qNr) (C := "DeepChannel$Receiver") (T := fT_Receiver) (N := 12) hx hb hts u_Receiver hown hK hP 0 rfl rfl 3 (by decide) (hts _ k_307) (fun _ h9 => h9) rfl d_Receiver_decodeRow_2 ?_
  refine lv_aload_n hx hb d_Receiver_decodeRow_5 rfl (lv_at hl 1 rfl) ?_
  refine lv_aload_n hx hb d_Receiver_decodeRow_6 rfl (lv_at hl 0 rfl) ?_
  refine va_get (D := D) (ci := 6) (v := .ref qSh) (C := "DeepChannel$Receiver") (T := fT_Receiver) (N := 12) hx hb hts u_Receiver hown hK hP 0 rfl rfl 0 (by decide) (hts _ k_304) (fun _ h9 => h9) rfl d_Receiver_decodeRow_7 ?_
  refine va_getN (D := D) (ci := 8) (v := .int Sh_pattern) (C := "DeepChannel$Shape") (T := fT_Shape) (N := 4) hx hb hts u_Shape hown hK hP 1 rfl rfl 3 (by decide) (va_Nw.use rfl (hE.1 _ (List.mem_of_getElem? (i := 6) rfl))) (fun _ h9 => h9) rfl d_Receiver_decodeRow_10 ?_
  refine lv_iload_n hx hb d_Receiver_decodeRow_13 rfl (lv_at hl 2 rfl) ?_
  refine lv_aload_n hx hb d_Receiver_decodeRow_14 rfl (lv_at hl 0 rfl) ?_
  refine va_get (D := D) (ci := 6) (v := .ref qFo) (C := "DeepChannel$Receiver") (T := fT_Receiver) (N := 12) hx hb hts u_Receiver hown hK hP 0 rfl rfl 4 (by decide) (hts _ k_308) (fun _ h9 => h9) rfl d_Receiver_decodeRow_15 ?_
  obtain ⟨⟨r1, g2, v3, g4, g5, g6, g7⟩, hu, hm⟩ := bd_el hm
  replace hm := nm_7 hm
  refine z_cVi (wc := w_Nearest_decode cI cJ qNr qNr_evenRow qRw qFo qFo_cells qNr_oneIsBetter qRw_cells qNr_distances qNr_pairs qNr_oddRow qNr_evenRow qNr_oddRow Nr_evenRow Rw_length Fo_length Fo_cells Nr_oneIsBetter Rw_cells Nr_distances Nr_pairs Nr_oddRow) (wc' := w_Nearest_decode cI cJ qNr qNr_evenRow qRw qFo qFo_cells qNr_oneIsBetter qRw_cells qNr_distances qNr_pairs qNr_oddRow qNr_evenRow qNr_oddRow g2 Rw_length v3 g4 g5 Rw_cells g6 Nr_pairs g7) (wr := [(qRc, .inr (6, [.ref qSh, Rc_words, Rc_mixer, .ref qNr, .ref qFo, Rc_bytes, Rc_facts, Rc_putRight, Rc_lastOfChannel, Rc_lastMaster, .int Rc_differing, Rc_taken])), (qSh, .inr (8, [Sh_depth, Sh_wordBytes, Sh_e, .int Sh_pattern]))]) (As := [.ref qRw, .int Sh_pattern, .int x2, .ref qFo]) (rest := [.ref qRc]) (c_Nearest_decode l D cI cJ tt qNr qNr_evenRow qRw qFo qFo_cells qNr_oneIsBetter qRw_cells qNr_distances qNr_pairs qNr_oddRow _ Nr_evenRow Rw_length Fo_length Fo_cells Nr_oneIsBetter Rw_cells Nr_distances Nr_pairs Nr_oddRow Sh_pattern x2 r1 g2 v3 g4 g5 g6 g7 hu) F ok_Nearest_decode rfl k_692 hK hE hP hD hS hA [2, 3, 4, 5, 6, 7, 8, 9, 10, 11] [0, 1] rfl rfl (by decide) (by decide) (by decide) 0 rfl rfl rfl ⟨rfl, rfl, Nat.le_of_ble_eq_true rfl, Nat.le_of_ble_eq_true rfl⟩ ⟨Nat.zero_le _, Nat.zero_le _⟩ rfl hl.1 rfl (Nat.le_of_ble_eq_true rfl) d_Receiver_decodeRow_18 (fun H locs hP hD hS => ?_)
  have hP : va_P D classes (w_Receiver_decodeRow cI cJ qRc qSh qNr qNr_evenRow qRw qFo qFo_cells qNr_oneIsBetter qRw_cells qNr_distances qNr_pairs qNr_oddRow Rc_words Rc_mixer Rc_bytes Rc_facts Rc_putRight Rc_lastOfChannel Rc_lastMaster Rc_taken Sh_depth Sh_wordBytes Sh_e Rc_differing Sh_pattern g2 Rw_length v3 g4 g5 Rw_cells g6 Nr_pairs g7) H := hP.sub [0, 1, 2, 3, 4, 5, 6, 7, 8, 9, 10, 11] rfl
  have hD : va_D A (w_Receiver_decodeRow cI cJ qRc qSh qNr qNr_evenRow qRw qFo qFo_cells qNr_oneIsBetter qRw_cells qNr_distances qNr_pairs qNr_oddRow Rc_words Rc_mixer Rc_bytes Rc_facts Rc_putRight Rc_lastOfChannel Rc_lastMaster Rc_taken Sh_depth Sh_wordBytes Sh_e Rc_differing Sh_pattern g2 Rw_length v3 g4 g5 Rw_cells g6 Nr_pairs g7) := hD.sub [0, 1, 2, 3, 4, 5, 6, 7, 8, 9, 10, 11] (by decide) rfl
  refine va_put (D := D) (ci := 6) (v := .int r1) (ty := .int) (C := "DeepChannel$Receiver") (T := fT_Receiver) (N := 12) hx hb hts u_Receiver fY_Receiver fK_Receiver fN_Receiver hown hK hP hD hS 0 rfl rfl 10 (by decide) (hts _ k_314) (fun _ h9 => h9) rfl (by decide +kernel) rfl rfl (Nat.le_of_ble_eq_true rfl) d_Receiver_decodeRow_21 (fun H locs hP hD hS => ?_)
  have hP : va_P D classes (w_Receiver_decodeRow cI cJ qRc qSh qNr qNr_evenRow qRw qFo qFo_cells qNr_oneIsBetter qRw_cells qNr_distances qNr_pairs qNr_oddRow Rc_words Rc_mixer Rc_bytes Rc_facts Rc_putRight Rc_lastOfChannel Rc_lastMaster Rc_taken Sh_depth Sh_wordBytes Sh_e r1 Sh_pattern g2 Rw_length v3 g4 g5 Rw_cells g6 Nr_pairs g7) H := hP
  have hD : va_D A (w_Receiver_decodeRow cI cJ qRc qSh qNr qNr_evenRow qRw qFo qFo_cells qNr_oneIsBetter qRw_cells qNr_distances qNr_pairs qNr_oddRow Rc_words Rc_mixer Rc_bytes Rc_facts Rc_putRight Rc_lastOfChannel Rc_lastMaster Rc_taken Sh_depth Sh_wordBytes Sh_e r1 Sh_pattern g2 Rw_length v3 g4 g5 Rw_cells g6 Nr_pairs g7) := hD
  cases hm
  exact z_qo hQ (z_vret hr hx hb hlocks hK hP hD hS d_Receiver_decodeRow_24)
