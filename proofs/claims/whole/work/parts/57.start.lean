theorem arr_of {s : State} {args : Array Value} {ty : FieldType} (h : (Cond.arrayClass ty).before args s = true) (hty : ty = .int ∨ ty = .long) : ∃ cA, ArrOfT s cA ty ∧ va_RA s cA ty := by
  obtain ⟨c, k, comp, h1, h2, h3⟩ := Cond.arrayClass_spec h
  refine ⟨c, fun n z => ⟨fun k h => (by cases h), k, h2, comp, h3⟩, ?_⟩
  rcases hty with rfl | rfl <;> exact h1
theorem ex_ref {s : State} {args : Array Value} {t : Term} {C : String} (h : (Cond.exactly t C).before args s = true) : ∃ a, t.eval args s none [] s = some (.ref a) := by
  simp only [Cond.before, Cond.holds, Cond.value] at h
  cases hv : t.eval args s none [] s with
  | none => simp [hv] at h
  | some v =>
    cases v with
    | ref a => exact ⟨a, rfl⟩
    | _ => cases hc : s.vm.findClass C <;> simp [hv, hc] at h
theorem nc_of {s : State} {args : Array Value} {C T : String} (h : (Cond.not (.castable C T)).before args s = true) : NC C T s := by
  have hv := Cond.holds_not_iff.mp h
  simp only [Cond.value] at hv
  cases h1 : s.vm.findClass C with
  | none => simp [h1] at hv
  | some c =>
    cases h2 : s.vm.findClass T with
    | none => simp [h1, h2] at hv
    | some t => exact ⟨c, t, h1, h2, by simpa [h1, h2] using hv⟩
theorem st_0 {s : State} {b : Nat} (hs : ∀ w ∈ flatC (Jvm.Cond.and given_1 narrow_1), w.before #[Value.ref b] s = true) (ht : ∀ w ∈ lw_tbl, w.before #[Value.ref b] s = true) : ∃ t : Nat, va_Z "DeepChannel$Field" "OTHER_FORM_OF_BIT" "[I" (.ref t) (fun q : Nat => s.heap.size ≤ q) s s.heap ∧ va_T .int t 8 (fun j => .int (stO j)) (fun q : Nat => s.heap.size ≤ q) s s.heap := by
  have hA : ∀ a : Nat, a < s.heap.size → ¬ (fun q : Nat => s.heap.size ≤ q) a := fun a h => Nat.not_le.mpr h
  have e0 := va_eqt (hs (Cond.eq (.elem (.static "DeepChannel$Field" "OTHER_FORM_OF_BIT" "[I") (.int (0 : Int32))) (.int (123 : Int32))) (by decide +kernel))
  have e1 := va_eqt (hs (Cond.eq (.elem (.static "DeepChannel$Field" "OTHER_FORM_OF_BIT" "[I") (.int (1 : Int32))) (.int (175 : Int32))) (by decide +kernel))
  have e2 := va_eqt (hs (Cond.eq (.elem (.static "DeepChannel$Field" "OTHER_FORM_OF_BIT" "[I") (.int (2 : Int32))) (.int (153 : Int32))) (by decide +kernel))
  have e3 := va_eqt (hs (Cond.eq (.elem (.static "DeepChannel$Field" "OTHER_FORM_OF_BIT" "[I") (.int (3 : Int32))) (.int (250 : Int32))) (by decide +kernel))
  have e4 := va_eqt (hs (Cond.eq (.elem (.static "DeepChannel$Field" "OTHER_FORM_OF_BIT" "[I") (.int (4 : Int32))) (.int (134 : Int32))) (by decide +kernel))
  have e5 := va_eqt (hs (Cond.eq (.elem (.static "DeepChannel$Field" "OTHER_FORM_OF_BIT" "[I") (.int (5 : Int32))) (.int (236 : Int32))) (by decide +kernel))
  have e6 := va_eqt (hs (Cond.eq (.elem (.static "DeepChannel$Field" "OTHER_FORM_OF_BIT" "[I") (.int (6 : Int32))) (.int (239 : Int32))) (by decide +kernel))
  have e7 := va_eqt (hs (Cond.eq (.elem (.static "DeepChannel$Field" "OTHER_FORM_OF_BIT" "[I") (.int (7 : Int32))) (.int (141 : Int32))) (by decide +kernel))
  obtain ⟨t, h1, h2⟩ := va_Tof (tm := (.static "DeepChannel$Field" "OTHER_FORM_OF_BIT" "[I")) (ty := .int) (N := 8) (f := fun j => .int (stO j)) (by decide) (hs (Cond.arrayOf (.static "DeepChannel$Field" "OTHER_FORM_OF_BIT" "[I") .int) (by decide +kernel)) (va_eqt (hs (Cond.eq (.length (.static "DeepChannel$Field" "OTHER_FORM_OF_BIT" "[I")) (.int (8 : Int32))) (by decide +kernel))) (fun j hj => by rcases (show j = 0 ∨ j = 1 ∨ j = 2 ∨ j = 3 ∨ j = 4 ∨ j = 5 ∨ j = 6 ∨ j = 7 by omega) with rfl | rfl | rfl | rfl | rfl | rfl | rfl | rfl <;> assumption) hA
  exact ⟨t, va_Zref (ht _ (List.mem_of_getElem? (i := 109) (by decide +kernel))) (ht _ (List.mem_of_getElem? (i := 45) (by decide +kernel))) h1 hA, h2⟩
theorem st_1 {s : State} {b : Nat} (hs : ∀ w ∈ flatC (Jvm.Cond.and given_1 narrow_1), w.before #[Value.ref b] s = true) (ht : ∀ w ∈ lw_tbl, w.before #[Value.ref b] s = true) : ∃ t : Nat, va_Z "DeepChannel$Coder" "PERIODS" "[I" (.ref t) (fun q : Nat => s.heap.size ≤ q) s s.heap ∧ va_T .int t 5 (fun j => .int (stP j)) (fun q : Nat => s.heap.size ≤ q) s s.heap := by
  have hA : ∀ a : Nat, a < s.heap.size → ¬ (fun q : Nat => s.heap.size ≤ q) a := fun a h => Nat.not_le.mpr h
  have e0 := va_eqt (hs (Cond.eq (.elem (.static "DeepChannel$Coder" "PERIODS" "[I") (.int (0 : Int32))) (.int (1 : Int32))) (by decide +kernel))
  have e1 := va_eqt (hs (Cond.eq (.elem (.static "DeepChannel$Coder" "PERIODS" "[I") (.int (1 : Int32))) (.int (2 : Int32))) (by decide +kernel))
  have e2 := va_eqt (hs (Cond.eq (.elem (.static "DeepChannel$Coder" "PERIODS" "[I") (.int (2 : Int32))) (.int (3 : Int32))) (by decide +kernel))
  have e3 := va_eqt (hs (Cond.eq (.elem (.static "DeepChannel$Coder" "PERIODS" "[I") (.int (3 : Int32))) (.int (5 : Int32))) (by decide +kernel))
  have e4 := va_eqt (hs (Cond.eq (.elem (.static "DeepChannel$Coder" "PERIODS" "[I") (.int (4 : Int32))) (.int (7 : Int32))) (by decide +kernel))
  obtain ⟨t, h1, h2⟩ := va_Tof (tm := (.static "DeepChannel$Coder" "PERIODS" "[I")) (ty := .int) (N := 5) (f := fun j => .int (stP j)) (by decide) (hs (Cond.arrayOf (.static "DeepChannel$Coder" "PERIODS" "[I") .int) (by decide +kernel)) (va_eqt (hs (Cond.eq (.length (.static "DeepChannel$Coder" "PERIODS" "[I")) (.int (5 : Int32))) (by decide +kernel))) (fun j hj => by rcases (show j = 0 ∨ j = 1 ∨ j = 2 ∨ j = 3 ∨ j = 4 by omega) with rfl | rfl | rfl | rfl | rfl <;> assumption) hA
  exact ⟨t, va_Zref (ht _ (List.mem_of_getElem? (i := 602) (by decide +kernel))) (ht _ (List.mem_of_getElem? (i := 51) (by decide +kernel))) h1 hA, h2⟩
theorem st_2 {s : State} {b : Nat} (hs : ∀ w ∈ flatC (Jvm.Cond.and given_1 narrow_1), w.before #[Value.ref b] s = true) (ht : ∀ w ∈ lw_tbl, w.before #[Value.ref b] s = true) : ∃ t : Nat, va_Z "DeepChannel$Coder" "FIRST_KEPT" "[I" (.ref t) (fun q : Nat => s.heap.size ≤ q) s s.heap ∧ va_T .int t 5 (fun j => .int (stF j)) (fun q : Nat => s.heap.size ≤ q) s s.heap := by
  have hA : ∀ a : Nat, a < s.heap.size → ¬ (fun q : Nat => s.heap.size ≤ q) a := fun a h => Nat.not_le.mpr h
  have e0 := va_eqt (hs (Cond.eq (.elem (.static "DeepChannel$Coder" "FIRST_KEPT" "[I") (.int (0 : Int32))) (.int (1 : Int32))) (by decide +kernel))
  have e1 := va_eqt (hs (Cond.eq (.elem (.static "DeepChannel$Coder" "FIRST_KEPT" "[I") (.int (1 : Int32))) (.int (2 : Int32))) (by decide +kernel))
  have e2 := va_eqt (hs (Cond.eq (.elem (.static "DeepChannel$Coder" "FIRST_KEPT" "[I") (.int (2 : Int32))) (.int (5 : Int32))) (by decide +kernel))
  have e3 := va_eqt (hs (Cond.eq (.elem (.static "DeepChannel$Coder" "FIRST_KEPT" "[I") (.int (3 : Int32))) (.int (21 : Int32))) (by decide +kernel))
  have e4 := va_eqt (hs (Cond.eq (.elem (.static "DeepChannel$Coder" "FIRST_KEPT" "[I") (.int (4 : Int32))) (.int (69 : Int32))) (by decide +kernel))
  obtain ⟨t, h1, h2⟩ := va_Tof (tm := (.static "DeepChannel$Coder" "FIRST_KEPT" "[I")) (ty := .int) (N := 5) (f := fun j => .int (stF j)) (by decide) (hs (Cond.arrayOf (.static "DeepChannel$Coder" "FIRST_KEPT" "[I") .int) (by decide +kernel)) (va_eqt (hs (Cond.eq (.length (.static "DeepChannel$Coder" "FIRST_KEPT" "[I")) (.int (5 : Int32))) (by decide +kernel))) (fun j hj => by rcases (show j = 0 ∨ j = 1 ∨ j = 2 ∨ j = 3 ∨ j = 4 by omega) with rfl | rfl | rfl | rfl | rfl <;> assumption) hA
  exact ⟨t, va_Zref (ht _ (List.mem_of_getElem? (i := 604) (by decide +kernel))) (ht _ (List.mem_of_getElem? (i := 51) (by decide +kernel))) h1 hA, h2⟩
theorem st_3 {s : State} {b : Nat} (hs : ∀ w ∈ flatC (Jvm.Cond.and given_1 narrow_1), w.before #[Value.ref b] s = true) (ht : ∀ w ∈ lw_tbl, w.before #[Value.ref b] s = true) : ∃ t : Nat, va_Z "DeepChannel$Coder" "SECOND_KEPT" "[I" (.ref t) (fun q : Nat => s.heap.size ≤ q) s s.heap ∧ va_T .int t 5 (fun j => .int (stS j)) (fun q : Nat => s.heap.size ≤ q) s s.heap := by
  have hA : ∀ a : Nat, a < s.heap.size → ¬ (fun q : Nat => s.heap.size ≤ q) a := fun a h => Nat.not_le.mpr h
  have e0 := va_eqt (hs (Cond.eq (.elem (.static "DeepChannel$Coder" "SECOND_KEPT" "[I") (.int (0 : Int32))) (.int (1 : Int32))) (by decide +kernel))
  have e1 := va_eqt (hs (Cond.eq (.elem (.static "DeepChannel$Coder" "SECOND_KEPT" "[I") (.int (1 : Int32))) (.int (3 : Int32))) (by decide +kernel))
  have e2 := va_eqt (hs (Cond.eq (.elem (.static "DeepChannel$Coder" "SECOND_KEPT" "[I") (.int (2 : Int32))) (.int (6 : Int32))) (by decide +kernel))
  have e3 := va_eqt (hs (Cond.eq (.elem (.static "DeepChannel$Coder" "SECOND_KEPT" "[I") (.int (3 : Int32))) (.int (26 : Int32))) (by decide +kernel))
  have e4 := va_eqt (hs (Cond.eq (.elem (.static "DeepChannel$Coder" "SECOND_KEPT" "[I") (.int (4 : Int32))) (.int (122 : Int32))) (by decide +kernel))
  obtain ⟨t, h1, h2⟩ := va_Tof (tm := (.static "DeepChannel$Coder" "SECOND_KEPT" "[I")) (ty := .int) (N := 5) (f := fun j => .int (stS j)) (by decide) (hs (Cond.arrayOf (.static "DeepChannel$Coder" "SECOND_KEPT" "[I") .int) (by decide +kernel)) (va_eqt (hs (Cond.eq (.length (.static "DeepChannel$Coder" "SECOND_KEPT" "[I")) (.int (5 : Int32))) (by decide +kernel))) (fun j hj => by rcases (show j = 0 ∨ j = 1 ∨ j = 2 ∨ j = 3 ∨ j = 4 by omega) with rfl | rfl | rfl | rfl | rfl <;> assumption) hA
  exact ⟨t, va_Zref (ht _ (List.mem_of_getElem? (i := 606) (by decide +kernel))) (ht _ (List.mem_of_getElem? (i := 51) (by decide +kernel))) h1 hA, h2⟩
set_option maxHeartbeats 4000000 in
set_option maxRecDepth 100000 in
theorem start_all {s : State} {b : Nat} (hgv : (Jvm.Cond.and given_1 narrow_1).before #[Value.ref b] s = true) (ht : ∀ w ∈ lw_tbl, w.before #[Value.ref b] s = true) : ∃ (tt sa : Nat → Nat), EX tt (fun q : Nat => s.heap.size ≤ q) s ∧ EY sa (fun q : Nat => s.heap.size ≤ q) s ∧ NC "java/lang/IllegalStateException" "java/lang/IllegalArgumentException" s ∧ NC "java/lang/IndexOutOfBoundsException" "java/lang/IllegalArgumentException" s := by
  have hs := flat_of_before _ hgv
  have hA : ∀ a : Nat, a < s.heap.size → ¬ (fun q : Nat => s.heap.size ≤ q) a := fun a h => Nat.not_le.mpr h
  obtain ⟨t0, z0⟩ := st_0 hs ht
  obtain ⟨t1, z1⟩ := st_1 hs ht
  obtain ⟨t2, z2⟩ := st_2 hs ht
  obtain ⟨t3, z3⟩ := st_3 hs ht
  obtain ⟨s0, q0⟩ := ex_ref (hs (Cond.exactly (.string "DeepChannel" 73) "java/lang/String") (by decide +kernel))
  obtain ⟨s1, q1⟩ := ex_ref (hs (Cond.exactly (.string "DeepChannel" 95) "java/lang/String") (by decide +kernel))
  obtain ⟨s2, q2⟩ := ex_ref (hs (Cond.exactly (.string "DeepChannel" 126) "java/lang/String") (by decide +kernel))
  obtain ⟨s3, q3⟩ := ex_ref (hs (Cond.exactly (.string "DeepChannel" 128) "java/lang/String") (by decide +kernel))
  obtain ⟨s4, q4⟩ := ex_ref (hs (Cond.exactly (.string "DeepChannel" 138) "java/lang/String") (by decide +kernel))
  obtain ⟨s5, q5⟩ := ex_ref (hs (Cond.exactly (.string "DeepChannel" 142) "java/lang/String") (by decide +kernel))
  obtain ⟨s6, q6⟩ := ex_ref (hs (Cond.exactly (.string "DeepChannel" 152) "java/lang/String") (by decide +kernel))
  obtain ⟨s7, q7⟩ := ex_ref (hs (Cond.exactly (.string "DeepChannel" 169) "java/lang/String") (by decide +kernel))
  obtain ⟨s8, q8⟩ := ex_ref (hs (Cond.exactly (.string "DeepChannel" 187) "java/lang/String") (by decide +kernel))
  obtain ⟨s9, q9⟩ := ex_ref (hs (Cond.exactly (.string "DeepChannel" 194) "java/lang/String") (by decide +kernel))
  refine ⟨fun k => [t0, t1, t2, t3].getD k 0, fun k => [s0, s1, s2, s3, s4, s5, s6, s7, s8, s9].getD k 0, ⟨?_, z0, z1, z2, z3⟩, ⟨⟨?_, ?_⟩, ⟨?_, ?_⟩, ?_, ?_⟩, ?_, ?_⟩
  · intro w hw
    simp only [nestWs, List.mem_cons, List.not_mem_nil, or_false] at hw
    rcases hw with rfl | rfl | rfl | rfl | rfl | rfl | rfl | rfl | rfl | rfl | rfl | rfl
    · exact va_Nw.of rfl (ht _ (List.mem_of_getElem? (i := 74) (by decide +kernel)))
    · exact va_Nw.of rfl (ht _ (List.mem_of_getElem? (i := 79) (by decide +kernel)))
    · exact va_Nw.of rfl (ht _ (List.mem_of_getElem? (i := 80) (by decide +kernel)))
    · exact va_Nw.of rfl (ht _ (List.mem_of_getElem? (i := 82) (by decide +kernel)))
    · exact va_Nw.of rfl (ht _ (List.mem_of_getElem? (i := 84) (by decide +kernel)))
    · exact va_Nw.of rfl (ht _ (List.mem_of_getElem? (i := 86) (by decide +kernel)))
    · exact va_Nw.of rfl (ht _ (List.mem_of_getElem? (i := 87) (by decide +kernel)))
    · exact va_Nw.of rfl (ht _ (List.mem_of_getElem? (i := 208) (by decide +kernel)))
    · exact va_Nw.of rfl (ht _ (List.mem_of_getElem? (i := 303) (by decide +kernel)))
    · exact va_Nw.of rfl (ht _ (List.mem_of_getElem? (i := 616) (by decide +kernel)))
    · exact va_Nw.of rfl (ht _ (List.mem_of_getElem? (i := 728) (by decide +kernel)))
    · exact va_Nw.of rfl (ht _ (List.mem_of_getElem? (i := 809) (by decide +kernel)))
  · exact va_Zqof (ht _ (List.mem_of_getElem? (i := 431) (by decide +kernel))) (ht _ (List.mem_of_getElem? (i := 56) (by decide +kernel))) (hs (Cond.isRef (.static TNm "UNASSIGNED_STACK" STd)) (by decide +kernel)) hA
  · exact va_Zqof (ht _ (List.mem_of_getElem? (i := 433) (by decide +kernel))) (ht _ (List.mem_of_getElem? (i := 56) (by decide +kernel))) (hs (Cond.isRef (.static TNm "SUPPRESSED_SENTINEL" LId)) (by decide +kernel)) hA
  · exact ht (Cond.laysStatic TNm "UNASSIGNED_STACK" STd) (List.mem_of_getElem? (i := 431) (by decide +kernel))
  · exact ht (Cond.laysStatic TNm "SUPPRESSED_SENTINEL" LId) (List.mem_of_getElem? (i := 433) (by decide +kernel))
  · intro w hw
    simp only [decWs, List.mem_cons, List.not_mem_nil, or_false] at hw
    rcases hw with rfl | rfl | rfl | rfl | rfl | rfl
    · exact va_Nw.of rfl (ht _ (List.mem_of_getElem? (i := 408) (by decide +kernel)))
    · exact va_Nw.of rfl (ht _ (List.mem_of_getElem? (i := 410) (by decide +kernel)))
    · exact va_Nw.of rfl (ht _ (List.mem_of_getElem? (i := 412) (by decide +kernel)))
    · exact va_Nw.of rfl (ht _ (List.mem_of_getElem? (i := 406) (by decide +kernel)))
    · exact va_Nw.of rfl (ht _ (List.mem_of_getElem? (i := 579) (by decide +kernel)))
    · exact va_Nw.of rfl (ht _ (List.mem_of_getElem? (i := 832) (by decide +kernel)))
  · intro i hi
    rcases (show i = 0 ∨ i = 1 ∨ i = 2 ∨ i = 3 ∨ i = 4 ∨ i = 5 ∨ i = 6 ∨ i = 7 ∨ i = 8 ∨ i = 9 by omega) with rfl | rfl | rfl | rfl | rfl | rfl | rfl | rfl | rfl | rfl
    · exact vk_R.of (ht _ (List.mem_of_getElem? (i := 445) (by decide +kernel))) q0
    · exact vk_R.of (ht _ (List.mem_of_getElem? (i := 505) (by decide +kernel))) q1
    · exact vk_R.of (ht _ (List.mem_of_getElem? (i := 551) (by decide +kernel))) q2
    · exact vk_R.of (ht _ (List.mem_of_getElem? (i := 559) (by decide +kernel))) q3
    · exact vk_R.of (ht _ (List.mem_of_getElem? (i := 576) (by decide +kernel))) q4
    · exact vk_R.of (ht _ (List.mem_of_getElem? (i := 586) (by decide +kernel))) q5
    · exact vk_R.of (ht _ (List.mem_of_getElem? (i := 666) (by decide +kernel))) q6
    · exact vk_R.of (ht _ (List.mem_of_getElem? (i := 683) (by decide +kernel))) q7
    · exact vk_R.of (ht _ (List.mem_of_getElem? (i := 825) (by decide +kernel))) q8
    · exact vk_R.of (ht _ (List.mem_of_getElem? (i := 839) (by decide +kernel))) q9
  · exact nc_of (hs _ (show Cond.not (.castable "java/lang/IllegalStateException" "java/lang/IllegalArgumentException") ∈ _ by decide +kernel))
  · exact nc_of (hs _ (show Cond.not (.castable "java/lang/IndexOutOfBoundsException" "java/lang/IllegalArgumentException") ∈ _ by decide +kernel))
set_option maxHeartbeats 4000000 in
set_option maxRecDepth 100000 in
theorem start_K {s : State} {b : Nat} (hts : ∀ w ∈ TB, w.before #[Value.ref b] s = true) : ∃ (D : va_G) (cI cJ : ClassId), va_K D classes (tys2 cI cJ) s := by
  obtain ⟨c0, i0, h0⟩ := u_known (C := "DeepChannel$BitRow") (T := fT_BitRow) (N := 2) (n := 2) hts u_BitRow (hts _ k_207)
  obtain ⟨c1, i1, h1⟩ := u_known (C := "DeepChannel$Coder") (T := fT_Coder) (N := 4) (n := 4) hts u_Coder (hts _ k_221)
  obtain ⟨c2, i2, h2⟩ := u_known (C := "DeepChannel$Field") (T := fT_Field) (N := 4) (n := 4) hts u_Field (hts _ k_100)
  obtain ⟨c3, i3, h3⟩ := u_known (C := "DeepChannel$Locator") (T := fT_Locator) (N := 6) (n := 6) hts u_Locator (hts _ k_129)
  obtain ⟨c4, i4, h4⟩ := u_known (C := "DeepChannel$Mixer") (T := fT_Mixer) (N := 1) (n := 1) hts u_Mixer (hts _ k_191)
  obtain ⟨c5, i5, h5⟩ := u_known (C := "DeepChannel$Nearest") (T := fT_Nearest) (N := 5) (n := 5) hts u_Nearest (hts _ k_277)
  obtain ⟨c6, i6, h6⟩ := u_known (C := "DeepChannel$Receiver") (T := fT_Receiver) (N := 12) (n := 12) hts u_Receiver (hts _ k_271)
  obtain ⟨c7, i7, h7⟩ := u_known (C := "DeepChannel$Sender") (T := fT_Sender) (N := 8) (n := 8) hts u_Sender (hts _ k_240)
  obtain ⟨c8, i8, h8⟩ := u_known (C := "DeepChannel$Shape") (T := fT_Shape) (N := 4) (n := 4) hts u_Shape (hts _ k_73)
  obtain ⟨c9, i9, h9⟩ := u_known (C := "DeepChannel$Words") (T := fT_Words) (N := 7) (n := 7) hts u_Words (hts _ k_98)
  obtain ⟨c10, i10, h10⟩ := u_known (C := "DeepChannel") (T := fT_DC) (N := 7) (n := 7) hts u_DC (hts _ k_65)
  obtain ⟨c11, i11, h11⟩ := u_known (C := "DeepChannelModel") (T := fT_Mo) (N := 40) (n := 40) hts u_Mo (hts _ k_870)
  obtain ⟨cI, a1, a2⟩ := arr_of (hts _ k_123) (Or.inl rfl)
  obtain ⟨cJ, b1, b2⟩ := arr_of (hts _ k_219) (Or.inr rfl)
  refine ⟨(fun k => [c0, c1, c2, c3, c4, c5, c6, c7, c8, c9, c10, c11].getD k 0, fun k => [i0, i1, i2, i3, i4, i5, i6, i7, i8, i9, i10, i11].getD k (fun _ => 0)), cI, cJ, ?_, ?_⟩
  · intro k q hq
    match k, hq with
    | 0, hq => cases hq; exact h0
    | 1, hq => cases hq; exact h1
    | 2, hq => cases hq; exact h2
    | 3, hq => cases hq; exact h3
    | 4, hq => cases hq; exact h4
    | 5, hq => cases hq; exact h5
    | 6, hq => cases hq; exact h6
    | 7, hq => cases hq; exact h7
    | 8, hq => cases hq; exact h8
    | 9, hq => cases hq; exact h9
    | 10, hq => cases hq; exact h10
    | 11, hq => cases hq; exact h11
    | k + 12, hq => simp [classes] at hq
  · intro k q hq
    match k, hq with
    | 0, hq => cases hq; exact ⟨a1, a2⟩
    | 1, hq => cases hq; exact ⟨b1, b2⟩
    | k + 2, hq => simp at hq
