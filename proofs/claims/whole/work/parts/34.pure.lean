theorem hat_IAE : ∀ w ∈ Bundle.ownAtoms "DeepChannel" 75 "java/lang/IllegalArgumentException" ["java/lang/RuntimeException", "java/lang/Exception"], ownIn w := by
  intro w hw
  have h : (Bundle.ownAtoms "DeepChannel" 75 "java/lang/IllegalArgumentException" ["java/lang/RuntimeException", "java/lang/Exception"]).all (fun w => (decide (w ∈ lw_tbl) && goodWord w) || decide (w ∈ decWs) || decide (w = .laysStatic TNm "UNASSIGNED_STACK" STd) || decide (w = .laysStatic TNm "SUPPRESSED_SENTINEL" LId) || decide (w = .isRef (.static TNm "UNASSIGNED_STACK" STd)) || decide (w = .isRef (.static TNm "SUPPRESSED_SENTINEL" LId))) = true := by decide +kernel
  have h1 := List.all_eq_true.mp h w hw
  simp only [Bool.or_eq_true, Bool.and_eq_true, decide_eq_true_eq] at h1
  rcases h1 with ((((h1 | h1) | h1) | h1) | h1) | h1
  · exact Or.inl (List.mem_filter.mpr h1)
  · exact Or.inr (Or.inl h1)
  · exact Or.inr (Or.inr (Or.inl h1))
  · exact Or.inr (Or.inr (Or.inr (Or.inl h1)))
  · exact Or.inr (Or.inr (Or.inr (Or.inr (Or.inl h1))))
  · exact Or.inr (Or.inr (Or.inr (Or.inr (Or.inr h1))))
theorem hat_ISE : ∀ w ∈ Bundle.ownAtoms "DeepChannel" 144 "java/lang/IllegalStateException" ["java/lang/RuntimeException", "java/lang/Exception"], ownIn w := by
  intro w hw
  have h : (Bundle.ownAtoms "DeepChannel" 144 "java/lang/IllegalStateException" ["java/lang/RuntimeException", "java/lang/Exception"]).all (fun w => (decide (w ∈ lw_tbl) && goodWord w) || decide (w ∈ decWs) || decide (w = .laysStatic TNm "UNASSIGNED_STACK" STd) || decide (w = .laysStatic TNm "SUPPRESSED_SENTINEL" LId) || decide (w = .isRef (.static TNm "UNASSIGNED_STACK" STd)) || decide (w = .isRef (.static TNm "SUPPRESSED_SENTINEL" LId))) = true := by decide +kernel
  have h1 := List.all_eq_true.mp h w hw
  simp only [Bool.or_eq_true, Bool.and_eq_true, decide_eq_true_eq] at h1
  rcases h1 with ((((h1 | h1) | h1) | h1) | h1) | h1
  · exact Or.inl (List.mem_filter.mpr h1)
  · exact Or.inr (Or.inl h1)
  · exact Or.inr (Or.inr (Or.inl h1))
  · exact Or.inr (Or.inr (Or.inr (Or.inl h1)))
  · exact Or.inr (Or.inr (Or.inr (Or.inr (Or.inl h1))))
  · exact Or.inr (Or.inr (Or.inr (Or.inr (Or.inr h1))))
theorem hat_IOB : ∀ w ∈ Bundle.ownAtoms "DeepChannel" 196 "java/lang/IndexOutOfBoundsException" ["java/lang/RuntimeException", "java/lang/Exception"], ownIn w := by
  intro w hw
  have h : (Bundle.ownAtoms "DeepChannel" 196 "java/lang/IndexOutOfBoundsException" ["java/lang/RuntimeException", "java/lang/Exception"]).all (fun w => (decide (w ∈ lw_tbl) && goodWord w) || decide (w ∈ decWs) || decide (w = .laysStatic TNm "UNASSIGNED_STACK" STd) || decide (w = .laysStatic TNm "SUPPRESSED_SENTINEL" LId) || decide (w = .isRef (.static TNm "UNASSIGNED_STACK" STd)) || decide (w = .isRef (.static TNm "SUPPRESSED_SENTINEL" LId))) = true := by decide +kernel
  have h1 := List.all_eq_true.mp h w hw
  simp only [Bool.or_eq_true, Bool.and_eq_true, decide_eq_true_eq] at h1
  rcases h1 with ((((h1 | h1) | h1) | h1) | h1) | h1
  · exact Or.inl (List.mem_filter.mpr h1)
  · exact Or.inr (Or.inl h1)
  · exact Or.inr (Or.inr (Or.inl h1))
  · exact Or.inr (Or.inr (Or.inr (Or.inl h1)))
  · exact Or.inr (Or.inr (Or.inr (Or.inr (Or.inl h1))))
  · exact Or.inr (Or.inr (Or.inr (Or.inr (Or.inr h1))))
set_option maxHeartbeats 4000000 in
set_option maxRecDepth 100000 in
theorem p_Shape_exists (l : Launch) (D : va_G) (cI cJ : ClassId) (tt : Nat → Nat) (sz : Nat) (x0 : Int32) (x1 : Int32) (x2 : Int32) (x3 : Int32) (rr : Int32) (hm : f_Shape_exists x0 x1 x2 x3 = some rr) : CPi l y_Shape_exists b_Shape_exists 8 (some .boolean) (RM 0 0) D cI cJ tt [.int x0, .int x1, .int x2, .int x3] (w_Shape_exists) sz rr := by
  refine Met.ofW (cc := b_Shape_exists) (maxL := 8) (ret := (some .boolean)) (by decide) rfl ?_
  intro p e s m args below meth c s₁ B hml hv
  obtain ⟨hargs, hsz, hP, hK, hD0, hE⟩ := hv
  have hx := B.exec
  have hb := B.bytes
  have hr := B.returns
  have hts : ∀ w ∈ TB, w.before args s = true := z_mV s (atoms_spec (ws := WD y_Shape_exists b_Shape_exists 8 (some .boolean)) B.pre)
  have hown : s.vm.findClass "DeepChannel$Shape" = some m.cls := findClass_of_methodNamed B.named
  have hlocks := B.notSynchronized
  subst hsz
  have hD := hD0.self (sz := s.heap.size)
  have hAe : ∀ q : Nat, s.heap.size ≤ q → va_A (w_Shape_exists) s.heap.size q := fun q h => Or.inr h
  generalize va_A (w_Shape_exists) s.heap.size = A at hD hE hAe
  have hA : ∀ q : Nat, s.heap.size ≤ q → A q := hAe
  have hS : va_S A s.heap s.heap [] := va_S.rf
  refine z_entry (vs := [.int x0, .int x1, .int x2, .int x3]) hargs (Nat.le_of_ble_eq_true rfl) (fun ls hl => ?_)
  have hl : lv_has ls 8 [(0, .int x0), (1, .int x1), (2, .int x2), (3, .int x3)] := hl
  show W p l e (RM 0 0) s m args below meth c s.heap [] 0 0 _ _
  refine z_qi (fun Q0 hQ => ?_)
  have F : CallFix p m c b_Shape_exists 8 s args TB "DeepChannel$Shape" := ⟨hx, hb, hml, hown, hts⟩
  have T58 : ∀ (x0 : Int32) (x1 : Int32) (x2 : Int32) (x3 : Int32) (x4 : Int32) (x5 : Int32) (t0 : Int32), f_Shape_exists_58 x0 x1 x2 x3 x4 x5 t0 = some rr → ∀ (ls : Array Slot), lv_has ls 8 [(0, .int x0), (1, .int x1), (2, .int x2), (3, .int x3), (4, .int x4), (5, .int x5)] → W p l e (RM 0 0) s m args below meth c s.heap [] 0 0 Q0 (F0 m 58 ls [.int t0]) := by
    intro x0 x1 x2 x3 x4 x5 t0 hm ls hl
    unfold f_Shape_exists_58 at hm
    refine lv_istore (lv' := [(6, .int t0), (0, .int x0), (1, .int x1), (2, .int x2), (3, .int x3), (4, .int x4), (5, .int x5)]) hx hb d_Shape_exists_58 hl (by decide) rfl (fun ls hl => ?_)
    refine lv_iload hx hb d_Shape_exists_60 (lv_at hl 5 rfl) ?_
    refine z_if hm (lv_if_eq (tgt := 84) hx hb d_Shape_exists_62 (by decide)) (fun hm => ?_) (fun hm => ?_)
    · refine lv_iconst (v := (0 : Int32)) hx hb d_Shape_exists_84 (by decide) ?_
      obtain ⟨hz, hm⟩ := zb_el hm
      cases hm
      exact z_qo hQ (z_pretz hz hr hx hb hlocks d_Shape_exists_85)
    · refine lv_iload hx hb d_Shape_exists_65 (lv_at hl 6 rfl) ?_
      refine z_if hm (lv_if_eq (tgt := 84) hx hb d_Shape_exists_67 (by decide)) (fun hm => ?_) (fun hm => ?_)
      · refine lv_iconst (v := (0 : Int32)) hx hb d_Shape_exists_84 (by decide) ?_
        obtain ⟨hz, hm⟩ := zb_el hm
        cases hm
        exact z_qo hQ (z_pretz hz hr hx hb hlocks d_Shape_exists_85)
      · refine lv_iload hx hb d_Shape_exists_70 (lv_at hl 0 rfl) ?_
        refine z_if hm (lv_if_eq (tgt := 84) hx hb d_Shape_exists_72 (by decide)) (fun hm => ?_) (fun hm => ?_)
        · refine lv_iconst (v := (0 : Int32)) hx hb d_Shape_exists_84 (by decide) ?_
          obtain ⟨hz, hm⟩ := zb_el hm
          cases hm
          exact z_qo hQ (z_pretz hz hr hx hb hlocks d_Shape_exists_85)
        · refine lv_iload_n hx hb d_Shape_exists_75 rfl (lv_at hl 4 rfl) ?_
          refine z_if hm (lv_if_lt (tgt := 84) hx hb d_Shape_exists_76 (by decide)) (fun hm => ?_) (fun hm => ?_)
          · refine lv_iconst (v := (0 : Int32)) hx hb d_Shape_exists_84 (by decide) ?_
            obtain ⟨hz, hm⟩ := zb_el hm
            cases hm
            exact z_qo hQ (z_pretz hz hr hx hb hlocks d_Shape_exists_85)
          · refine lv_iload_n hx hb d_Shape_exists_79 rfl (lv_at hl 4 rfl) ?_
            refine lv_iconst (v := (4 : Int32)) hx hb d_Shape_exists_80 (by decide) ?_
            refine z_if hm (lv_icmp_le (tgt := 86) hx hb d_Shape_exists_81 (by decide)) (fun hm => ?_) (fun hm => ?_)
            · refine lv_sipush (v := (255 : Int32)) hx hb d_Shape_exists_86 (by decide) ?_
              refine lv_iload_n hx hb d_Shape_exists_89 rfl (lv_at hl 2 rfl) ?_
              refine lv_isub hx hb d_Shape_exists_90 ?_
              refine z_nmi hm (fun v1 hm => ?_)
              refine lv_istore (lv' := [(7, .int v1), (6, .int t0), (0, .int x0), (1, .int x1), (2, .int x2), (3, .int x3), (4, .int x4), (5, .int x5)]) hx hb d_Shape_exists_91 hl (by decide) rfl (fun ls hl => ?_)
              refine lv_iload hx hb d_Shape_exists_93 (lv_at hl 0 rfl) ?_
              refine lv_iconst (v := (2 : Int32)) hx hb d_Shape_exists_95 (by decide) ?_
              refine lv_iload_n hx hb d_Shape_exists_96 rfl (lv_at hl 4 rfl) ?_
              refine lv_imul hx hb d_Shape_exists_97 ?_
              refine z_if hm (lv_icmp_le (tgt := 128) hx hb d_Shape_exists_98 (by decide)) (fun hm => ?_) (fun hm => ?_)
              · refine lv_iconst (v := (0 : Int32)) hx hb d_Shape_exists_128 (by decide) ?_
                obtain ⟨hz, hm⟩ := zb_el hm
                cases hm
                exact z_qo hQ (z_pretz hz hr hx hb hlocks d_Shape_exists_129)
              · refine lv_iload_n hx hb d_Shape_exists_101 rfl (lv_at hl 2 rfl) ?_
                refine lv_iload hx hb d_Shape_exists_102 (lv_at hl 0 rfl) ?_
                refine lv_iconst (v := (2 : Int32)) hx hb d_Shape_exists_104 (by decide) ?_
                refine lv_iload_n hx hb d_Shape_exists_105 rfl (lv_at hl 4 rfl) ?_
                refine lv_imul hx hb d_Shape_exists_106 ?_
                refine lv_isub hx hb d_Shape_exists_107 ?_
                refine lv_imul hx hb d_Shape_exists_108 ?_
                refine lv_bipush (v := (8 : Int32)) hx hb d_Shape_exists_109 (by decide) ?_
                refine z_if hm (lv_icmp_le (tgt := 128) hx hb d_Shape_exists_111 (by decide)) (fun hm => ?_) (fun hm => ?_)
                · refine lv_iconst (v := (0 : Int32)) hx hb d_Shape_exists_128 (by decide) ?_
                  obtain ⟨hz, hm⟩ := zb_el hm
                  cases hm
                  exact z_qo hQ (z_pretz hz hr hx hb hlocks d_Shape_exists_129)
                · refine lv_iload_n hx hb d_Shape_exists_114 rfl (lv_at hl 2 rfl) ?_
                  refine lv_iload hx hb d_Shape_exists_115 (lv_at hl 0 rfl) ?_
                  refine lv_imul hx hb d_Shape_exists_117 ?_
                  refine lv_sipush (v := (250 : Int32)) hx hb d_Shape_exists_118 (by decide) ?_
                  refine z_if hm (lv_icmp_gt (tgt := 128) hx hb d_Shape_exists_121 (by decide)) (fun hm => ?_) (fun hm => ?_)
                  · refine lv_iconst (v := (0 : Int32)) hx hb d_Shape_exists_128 (by decide) ?_
                    obtain ⟨hz, hm⟩ := zb_el hm
                    cases hm
                    exact z_qo hQ (z_pretz hz hr hx hb hlocks d_Shape_exists_129)
                  · refine lv_iconst (v := (1 : Int32)) hx hb d_Shape_exists_124 (by decide) ?_
                    refine lv_goto (tgt := 129) hx hb d_Shape_exists_125 (by decide) ?_
                    obtain ⟨hz, hm⟩ := zb_el hm
                    cases hm
                    exact z_qo hQ (z_pretz hz hr hx hb hlocks d_Shape_exists_129)
            · refine lv_iconst (v := (0 : Int32)) hx hb d_Shape_exists_84 (by decide) ?_
              obtain ⟨hz, hm⟩ := zb_el hm
              cases hm
              exact z_qo hQ (z_pretz hz hr hx hb hlocks d_Shape_exists_85)
  have T53 : ∀ (x0 : Int32) (x1 : Int32) (x2 : Int32) (x3 : Int32) (x4 : Int32) (x5 : Int32), f_Shape_exists_53 x0 x1 x2 x3 x4 x5 = some rr → ∀ (ls : Array Slot), lv_has ls 8 [(0, .int x0), (1, .int x1), (2, .int x2), (3, .int x3), (4, .int x4), (5, .int x5)] → W p l e (RM 0 0) s m args below meth c s.heap [] 0 0 Q0 (F0 m 53 ls []) := by
    intro x0 x1 x2 x3 x4 x5 hm ls hl
    unfold f_Shape_exists_53 at hm
    refine lv_iconst (v := (1 : Int32)) hx hb d_Shape_exists_53 (by decide) ?_
    refine lv_goto (tgt := 58) hx hb d_Shape_exists_54 (by decide) ?_
    exact T58 x0 x1 x2 x3 x4 x5 (1 : Int32) hm _ (lv_sub hl [0, 1, 2, 3, 4, 5] rfl)
  have T39 : ∀ (x0 : Int32) (x1 : Int32) (x2 : Int32) (x3 : Int32) (x4 : Int32) (t0 : Int32), f_Shape_exists_39 x0 x1 x2 x3 x4 t0 = some rr → ∀ (ls : Array Slot), lv_has ls 8 [(0, .int x0), (1, .int x1), (2, .int x2), (3, .int x3), (4, .int x4)] → W p l e (RM 0 0) s m args below meth c s.heap [] 0 0 Q0 (F0 m 39 ls [.int t0]) := by
    intro x0 x1 x2 x3 x4 t0 hm ls hl
    unfold f_Shape_exists_39 at hm
    refine lv_istore (lv' := [(5, .int t0), (0, .int x0), (1, .int x1), (2, .int x2), (3, .int x3), (4, .int x4)]) hx hb d_Shape_exists_39 hl (by decide) rfl (fun ls hl => ?_)
    refine lv_iload_n hx hb d_Shape_exists_41 rfl (lv_at hl 3 rfl) ?_
    refine lv_bipush (v := (8 : Int32)) hx hb d_Shape_exists_42 (by decide) ?_
    refine z_if hm (lv_icmp_eq (tgt := 53) hx hb d_Shape_exists_44 (by decide)) (fun hm => ?_) (fun hm => ?_)
    · exact T53 x0 x1 x2 x3 x4 t0 hm _ (lv_sub hl [1, 2, 3, 4, 5, 0] rfl)
    · refine lv_iload_n hx hb d_Shape_exists_47 rfl (lv_at hl 3 rfl) ?_
      refine lv_bipush (v := (16 : Int32)) hx hb d_Shape_exists_48 (by decide) ?_
      refine z_ifn hm (lv_icmp_ne (tgt := 57) hx hb d_Shape_exists_50 (by decide)) (fun hm => ?_) (fun hm => ?_)
      · exact T53 x0 x1 x2 x3 x4 t0 hm _ (lv_sub hl [1, 2, 3, 4, 5, 0] rfl)
      · refine lv_iconst (v := (0 : Int32)) hx hb d_Shape_exists_57 (by decide) ?_
        exact T58 x0 x1 x2 x3 x4 t0 (0 : Int32) hm _ (lv_sub hl [1, 2, 3, 4, 5, 0] rfl)
  have T38 : ∀ (x0 : Int32) (x1 : Int32) (x2 : Int32) (x3 : Int32) (x4 : Int32), f_Shape_exists_38 x0 x1 x2 x3 x4 = some rr → ∀ (ls : Array Slot), lv_has ls 8 [(0, .int x0), (1, .int x1), (2, .int x2), (3, .int x3), (4, .int x4)] → W p l e (RM 0 0) s m args below meth c s.heap [] 0 0 Q0 (F0 m 38 ls []) := by
    intro x0 x1 x2 x3 x4 hm ls hl
    unfold f_Shape_exists_38 at hm
    refine lv_iconst (v := (0 : Int32)) hx hb d_Shape_exists_38 (by decide) ?_
    exact T39 x0 x1 x2 x3 x4 (0 : Int32) hm _ (lv_sub hl [0, 1, 2, 3, 4] rfl)
  have T21 : ∀ (x0 : Int32) (x1 : Int32) (x2 : Int32) (x3 : Int32) (t0 : Int32), f_Shape_exists_21 x0 x1 x2 x3 t0 = some rr → ∀ (ls : Array Slot), lv_has ls 8 [(0, .int x0), (1, .int x1), (2, .int x2), (3, .int x3)] → W p l e (RM 0 0) s m args below meth c s.heap [] 0 0 Q0 (F0 m 21 ls [.int t0]) := by
    intro x0 x1 x2 x3 t0 hm ls hl
    unfold f_Shape_exists_21 at hm
    refine lv_istore (lv' := [(4, .int t0), (0, .int x0), (1, .int x1), (2, .int x2), (3, .int x3)]) hx hb d_Shape_exists_21 hl (by decide) rfl (fun ls hl => ?_)
    refine lv_iload_n hx hb d_Shape_exists_23 rfl (lv_at hl 2 rfl) ?_
    refine z_if hm (lv_if_lt (tgt := 38) hx hb d_Shape_exists_24 (by decide)) (fun hm => ?_) (fun hm => ?_)
    · exact T38 x0 x1 x2 x3 t0 hm _ (lv_sub hl [1, 2, 3, 4, 0] rfl)
    · refine lv_iload_n hx hb d_Shape_exists_27 rfl (lv_at hl 2 rfl) ?_
      refine lv_sipush (v := (250 : Int32)) hx hb d_Shape_exists_28 (by decide) ?_
      refine z_if hm (lv_icmp_gt (tgt := 38) hx hb d_Shape_exists_31 (by decide)) (fun hm => ?_) (fun hm => ?_)
      · exact T38 x0 x1 x2 x3 t0 hm _ (lv_sub hl [1, 2, 3, 4, 0] rfl)
      · refine lv_iconst (v := (1 : Int32)) hx hb d_Shape_exists_34 (by decide) ?_
        refine lv_goto (tgt := 39) hx hb d_Shape_exists_35 (by decide) ?_
        exact T39 x0 x1 x2 x3 t0 (1 : Int32) hm _ (lv_sub hl [1, 2, 3, 4, 0] rfl)
  have T16 : ∀ (x0 : Int32) (x1 : Int32) (x2 : Int32) (x3 : Int32), f_Shape_exists_16 x0 x1 x2 x3 = some rr → ∀ (ls : Array Slot), lv_has ls 8 [(0, .int x0), (1, .int x1), (2, .int x2), (3, .int x3)] → W p l e (RM 0 0) s m args below meth c s.heap [] 0 0 Q0 (F0 m 16 ls []) := by
    intro x0 x1 x2 x3 hm ls hl
    unfold f_Shape_exists_16 at hm
    refine lv_iconst (v := (1 : Int32)) hx hb d_Shape_exists_16 (by decide) ?_
    refine lv_goto (tgt := 21) hx hb d_Shape_exists_17 (by decide) ?_
    exact T21 x0 x1 x2 x3 (1 : Int32) hm _ (lv_sub hl [0, 1, 2, 3] rfl)
  have T10 : ∀ (x0 : Int32) (x1 : Int32) (x2 : Int32) (x3 : Int32), f_Shape_exists_10 x0 x1 x2 x3 = some rr → ∀ (ls : Array Slot), lv_has ls 8 [(0, .int x0), (1, .int x1), (2, .int x2), (3, .int x3)] → W p l e (RM 0 0) s m args below meth c s.heap [] 0 0 Q0 (F0 m 10 ls []) := by
    intro x0 x1 x2 x3 hm ls hl
    unfold f_Shape_exists_10 at hm
    refine lv_iload_n hx hb d_Shape_exists_10 rfl (lv_at hl 0 rfl) ?_
    refine lv_bipush (v := (8 : Int32)) hx hb d_Shape_exists_11 (by decide) ?_
    refine z_ifn hm (lv_icmp_ne (tgt := 20) hx hb d_Shape_exists_13 (by decide)) (fun hm => ?_) (fun hm => ?_)
    · exact T16 x0 x1 x2 x3 hm _ (lv_sub hl [0, 1, 2, 3] rfl)
    · refine lv_iconst (v := (0 : Int32)) hx hb d_Shape_exists_20 (by decide) ?_
      exact T21 x0 x1 x2 x3 (0 : Int32) hm _ (lv_sub hl [0, 1, 2, 3] rfl)
  unfold f_Shape_exists at hm
  refine lv_iload_n hx hb d_Shape_exists_0 rfl (lv_at hl 0 rfl) ?_
  refine lv_iconst (v := (1 : Int32)) hx hb d_Shape_exists_1 (by decide) ?_
  refine z_if hm (lv_icmp_lt (tgt := 10) hx hb d_Shape_exists_2 (by decide)) (fun hm => ?_) (fun hm => ?_)
  · exact T10 x0 x1 x2 x3 hm _ (lv_sub hl [0, 1, 2, 3] rfl)
  · refine lv_iload_n hx hb d_Shape_exists_5 rfl (lv_at hl 0 rfl) ?_
    refine lv_iconst (v := (5 : Int32)) hx hb d_Shape_exists_6 (by decide) ?_
    refine z_if hm (lv_icmp_le (tgt := 16) hx hb d_Shape_exists_7 (by decide)) (fun hm => ?_) (fun hm => ?_)
    · exact T16 x0 x1 x2 x3 hm _ (lv_sub hl [0, 1, 2, 3] rfl)
    · exact T10 x0 x1 x2 x3 hm _ (lv_sub hl [0, 1, 2, 3] rfl)
set_option maxHeartbeats 4000000 in
set_option maxRecDepth 100000 in
theorem p_DC_isChannel (l : Launch) (D : va_G) (cI cJ : ClassId) (tt : Nat → Nat) (sz : Nat) (x0 : Int32) (rr : Int32) (hm : f_DC_isChannel x0 = some rr) : CPi l y_DC_isChannel b_DC_isChannel 1 (some .boolean) (RM 0 0) D cI cJ tt [.int x0] (w_DC_isChannel) sz rr := by
  refine Met.ofW (cc := b_DC_isChannel) (maxL := 1) (ret := (some .boolean)) (by decide) rfl ?_
  intro p e s m args below meth c s₁ B hml hv
  obtain ⟨hargs, hsz, hP, hK, hD0, hE⟩ := hv
  have hx := B.exec
  have hb := B.bytes
  have hr := B.returns
  have hts : ∀ w ∈ TB, w.before args s = true := z_mV s (atoms_spec (ws := WD y_DC_isChannel b_DC_isChannel 1 (some .boolean)) B.pre)
  have hown : s.vm.findClass "DeepChannel" = some m.cls := findClass_of_methodNamed B.named
  have hlocks := B.notSynchronized
  subst hsz
  have hD := hD0.self (sz := s.heap.size)
  have hAe : ∀ q : Nat, s.heap.size ≤ q → va_A (w_DC_isChannel) s.heap.size q := fun q h => Or.inr h
  generalize va_A (w_DC_isChannel) s.heap.size = A at hD hE hAe
  have hA : ∀ q : Nat, s.heap.size ≤ q → A q := hAe
  have hS : va_S A s.heap s.heap [] := va_S.rf
  refine z_entry (vs := [.int x0]) hargs (Nat.le_of_ble_eq_true rfl) (fun ls hl => ?_)
  have hl : lv_has ls 1 [(0, .int x0)] := hl
  show W p l e (RM 0 0) s m args below meth c s.heap [] 0 0 _ _
  refine z_qi (fun Q0 hQ => ?_)
  have F : CallFix p m c b_DC_isChannel 1 s args TB "DeepChannel" := ⟨hx, hb, hml, hown, hts⟩
  unfold f_DC_isChannel at hm
  refine lv_iload_n hx hb d_DC_isChannel_0 rfl (lv_at hl 0 rfl) ?_
  refine z_if hm (lv_if_lt (tgt := 14) hx hb d_DC_isChannel_1 (by decide)) (fun hm => ?_) (fun hm => ?_)
  · refine lv_iconst (v := (0 : Int32)) hx hb d_DC_isChannel_14 (by decide) ?_
    obtain ⟨hz, hm⟩ := zb_el hm
    cases hm
    exact z_qo hQ (z_pretz hz hr hx hb hlocks d_DC_isChannel_15)
  · refine lv_iload_n hx hb d_DC_isChannel_4 rfl (lv_at hl 0 rfl) ?_
    refine lv_bipush (v := (8 : Int32)) hx hb d_DC_isChannel_5 (by decide) ?_
    refine z_if hm (lv_icmp_ge (tgt := 14) hx hb d_DC_isChannel_7 (by decide)) (fun hm => ?_) (fun hm => ?_)
    · refine lv_iconst (v := (0 : Int32)) hx hb d_DC_isChannel_14 (by decide) ?_
      obtain ⟨hz, hm⟩ := zb_el hm
      cases hm
      exact z_qo hQ (z_pretz hz hr hx hb hlocks d_DC_isChannel_15)
    · refine lv_iconst (v := (1 : Int32)) hx hb d_DC_isChannel_10 (by decide) ?_
      refine lv_goto (tgt := 15) hx hb d_DC_isChannel_11 (by decide) ?_
      obtain ⟨hz, hm⟩ := zb_el hm
      cases hm
      exact z_qo hQ (z_pretz hz hr hx hb hlocks d_DC_isChannel_15)
set_option maxHeartbeats 4000000 in
set_option maxRecDepth 100000 in
theorem p_Sender_waiting (l : Launch) (D : va_G) (cI cJ : ClassId) (tt : Nat → Nat) (qSd : Nat) (Sd_shape Sd_words Sd_mixer Sd_bytes Sd_channelCounts Sd_masterCount Sd_craft : Value) (sz : Nat) (Sd_dataCount : Int32) (rr : Int32) (hm : f_Sender_waiting Sd_dataCount = some rr) : CPi l y_Sender_waiting b_Sender_waiting 1 (some .int) (RM 0 0) D cI cJ tt [.ref qSd] (w_Sender_waiting cI cJ qSd Sd_shape Sd_words Sd_mixer Sd_bytes Sd_channelCounts Sd_masterCount Sd_craft Sd_dataCount) sz rr := by
  refine Met.ofW (cc := b_Sender_waiting) (maxL := 1) (ret := (some .int)) (by decide) rfl ?_
  intro p e s m args below meth c s₁ B hml hv
  obtain ⟨hargs, hsz, hP, hK, hD0, hE⟩ := hv
  have hx := B.exec
  have hb := B.bytes
  have hr := B.returns
  have hts : ∀ w ∈ TB, w.before args s = true := z_mV s (atoms_spec (ws := WD y_Sender_waiting b_Sender_waiting 1 (some .int)) B.pre)
  have hown : s.vm.findClass "DeepChannel$Sender" = some m.cls := findClass_of_methodNamed B.named
  have hlocks := B.notSynchronized
  subst hsz
  have hD := hD0.self (sz := s.heap.size)
  have hAe : ∀ q : Nat, s.heap.size ≤ q → va_A (w_Sender_waiting cI cJ qSd Sd_shape Sd_words Sd_mixer Sd_bytes Sd_channelCounts Sd_masterCount Sd_craft Sd_dataCount) s.heap.size q := fun q h => Or.inr h
  generalize va_A (w_Sender_waiting cI cJ qSd Sd_shape Sd_words Sd_mixer Sd_bytes Sd_channelCounts Sd_masterCount Sd_craft Sd_dataCount) s.heap.size = A at hD hE hAe
  have hA : ∀ q : Nat, s.heap.size ≤ q → A q := hAe
  have hS : va_S A s.heap s.heap [] := va_S.rf
  refine z_entry (vs := [.ref qSd]) hargs (Nat.le_of_ble_eq_true rfl) (fun ls hl => ?_)
  have hl : lv_has ls 1 [(0, .ref qSd)] := hl
  show W p l e (RM 0 0) s m args below meth c s.heap [] 0 0 _ _
  refine z_qi (fun Q0 hQ => ?_)
  have F : CallFix p m c b_Sender_waiting 1 s args TB "DeepChannel$Sender" := ⟨hx, hb, hml, hown, hts⟩
  unfold f_Sender_waiting at hm
  refine lv_aload_n hx hb d_Sender_waiting_0 rfl (lv_at hl 0 rfl) ?_
  refine va_get (D := D) (ci := 7) (v := .int Sd_dataCount) (C := "DeepChannel$Sender") (T := fT_Sender) (N := 8) hx hb hts u_Sender hown hK hP 0 rfl rfl 7 (by decide) (hts _ k_252) (fun _ h9 => h9) rfl d_Sender_waiting_1 ?_
  cases hm
  exact z_qo hQ (z_preti hr hx hb hlocks d_Sender_waiting_4)
set_option maxHeartbeats 4000000 in
set_option maxRecDepth 100000 in
theorem p_Shape_frameBytes (l : Launch) (D : va_G) (cI cJ : ClassId) (tt : Nat → Nat) (qSh : Nat) (Sh_pattern : Value) (sz : Nat) (Sh_depth : Int32) (Sh_wordBytes : Int32) (Sh_e : Int32) (rr : Int32) (hm : f_Shape_frameBytes Sh_depth Sh_wordBytes Sh_e = some rr) : CPi l y_Shape_frameBytes b_Shape_frameBytes 1 (some .int) (RM 0 0) D cI cJ tt [.ref qSh] (w_Shape_frameBytes cI cJ qSh Sh_pattern Sh_depth Sh_wordBytes Sh_e) sz rr := by
  refine Met.ofW (cc := b_Shape_frameBytes) (maxL := 1) (ret := (some .int)) (by decide) rfl ?_
  intro p e s m args below meth c s₁ B hml hv
  obtain ⟨hargs, hsz, hP, hK, hD0, hE⟩ := hv
  have hx := B.exec
  have hb := B.bytes
  have hr := B.returns
  have hts : ∀ w ∈ TB, w.before args s = true := z_mV s (atoms_spec (ws := WD y_Shape_frameBytes b_Shape_frameBytes 1 (some .int)) B.pre)
  have hown : s.vm.findClass "DeepChannel$Shape" = some m.cls := findClass_of_methodNamed B.named
  have hlocks := B.notSynchronized
  subst hsz
  have hD := hD0.self (sz := s.heap.size)
  have hAe : ∀ q : Nat, s.heap.size ≤ q → va_A (w_Shape_frameBytes cI cJ qSh Sh_pattern Sh_depth Sh_wordBytes Sh_e) s.heap.size q := fun q h => Or.inr h
  generalize va_A (w_Shape_frameBytes cI cJ qSh Sh_pattern Sh_depth Sh_wordBytes Sh_e) s.heap.size = A at hD hE hAe
  have hA : ∀ q : Nat, s.heap.size ≤ q → A q := hAe
  have hS : va_S A s.heap s.heap [] := va_S.rf
  refine z_entry (vs := [.ref qSh]) hargs (Nat.le_of_ble_eq_true rfl) (fun ls hl => ?_)
  have hl : lv_has ls 1 [(0, .ref qSh)] := hl
  show W p l e (RM 0 0) s m args below meth c s.heap [] 0 0 _ _
  refine z_qi (fun Q0 hQ => ?_)
  have F : CallFix p m c b_Shape_frameBytes 1 s args TB "DeepChannel$Shape" := ⟨hx, hb, hml, hown, hts⟩
  unfold f_Shape_frameBytes at hm
  refine lv_aload_n hx hb d_Shape_frameBytes_0 rfl (lv_at hl 0 rfl) ?_
  refine va_get (D := D) (ci := 8) (v := .int Sh_depth) (C := "DeepChannel$Shape") (T := fT_Shape) (N := 4) hx hb hts u_Shape hown hK hP 0 rfl rfl 0 (by decide) (hts _ k_78) (fun _ h9 => h9) rfl d_Shape_frameBytes_1 ?_
  refine lv_aload_n hx hb d_Shape_frameBytes_4 rfl (lv_at hl 0 rfl) ?_
  refine va_get (D := D) (ci := 8) (v := .int Sh_wordBytes) (C := "DeepChannel$Shape") (T := fT_Shape) (N := 4) hx hb hts u_Shape hown hK hP 0 rfl rfl 1 (by decide) (hts _ k_81) (fun _ h9 => h9) rfl d_Shape_frameBytes_5 ?_
  refine lv_iconst (v := (2 : Int32)) hx hb d_Shape_frameBytes_8 (by decide) ?_
  refine lv_aload_n hx hb d_Shape_frameBytes_9 rfl (lv_at hl 0 rfl) ?_
  refine va_get (D := D) (ci := 8) (v := .int Sh_e) (C := "DeepChannel$Shape") (T := fT_Shape) (N := 4) hx hb hts u_Shape hown hK hP 0 rfl rfl 2 (by decide) (hts _ k_83) (fun _ h9 => h9) rfl d_Shape_frameBytes_10 ?_
  refine lv_imul hx hb d_Shape_frameBytes_13 ?_
  refine lv_isub hx hb d_Shape_frameBytes_14 ?_
  refine lv_imul hx hb d_Shape_frameBytes_15 ?_
  cases hm
  exact z_qo hQ (z_preti hr hx hb hlocks d_Shape_frameBytes_16)
set_option maxHeartbeats 4000000 in
set_option maxRecDepth 100000 in
theorem p_Shape_dataBytes (l : Launch) (D : va_G) (cI cJ : ClassId) (tt : Nat → Nat) (qSh : Nat) (Sh_pattern : Value) (sz : Nat) (Sh_depth : Int32) (Sh_wordBytes : Int32) (Sh_e : Int32) (rr : Int32) (hm : f_Shape_dataBytes Sh_depth Sh_wordBytes Sh_e = some rr) : CPi l y_Shape_dataBytes b_Shape_dataBytes 1 (some .int) (RM 1 20) D cI cJ tt [.ref qSh] (w_Shape_dataBytes cI cJ qSh Sh_pattern Sh_depth Sh_wordBytes Sh_e) sz rr := by
  refine Met.ofW (cc := b_Shape_dataBytes) (maxL := 1) (ret := (some .int)) (by decide) rfl ?_
  intro p e s m args below meth c s₁ B hml hv
  obtain ⟨hargs, hsz, hP, hK, hD0, hE⟩ := hv
  have hx := B.exec
  have hb := B.bytes
  have hr := B.returns
  have hts : ∀ w ∈ TB, w.before args s = true := z_mV s (atoms_spec (ws := WD y_Shape_dataBytes b_Shape_dataBytes 1 (some .int)) B.pre)
  have hown : s.vm.findClass "DeepChannel$Shape" = some m.cls := findClass_of_methodNamed B.named
  have hlocks := B.notSynchronized
  subst hsz
  have hD := hD0.self (sz := s.heap.size)
  have hAe : ∀ q : Nat, s.heap.size ≤ q → va_A (w_Shape_dataBytes cI cJ qSh Sh_pattern Sh_depth Sh_wordBytes Sh_e) s.heap.size q := fun q h => Or.inr h
  generalize va_A (w_Shape_dataBytes cI cJ qSh Sh_pattern Sh_depth Sh_wordBytes Sh_e) s.heap.size = A at hD hE hAe
  have hA : ∀ q : Nat, s.heap.size ≤ q → A q := hAe
  have hS : va_S A s.heap s.heap [] := va_S.rf
  refine z_entry (vs := [.ref qSh]) hargs (Nat.le_of_ble_eq_true rfl) (fun ls hl => ?_)
  have hl : lv_has ls 1 [(0, .ref qSh)] := hl
  show W p l e (RM 1 20) s m args below meth c s.heap [] 0 0 _ _
  refine z_qi (fun Q0 hQ => ?_)
  have F : CallFix p m c b_Shape_dataBytes 1 s args TB "DeepChannel$Shape" := ⟨hx, hb, hml, hown, hts⟩
  unfold f_Shape_dataBytes at hm
  refine lv_aload_n hx hb d_Shape_dataBytes_0 rfl (lv_at hl 0 rfl) ?_
  obtain ⟨r1, hu, hm⟩ := bd_el hm
  replace hm := nm_1 hm
  refine z_pcV (wc := w_Shape_frameBytes cI cJ qSh Sh_pattern Sh_depth Sh_wordBytes Sh_e) (As := []) (rest := []) (p_Shape_frameBytes l D cI cJ tt qSh Sh_pattern _ Sh_depth Sh_wordBytes Sh_e r1 hu) F ok_Shape_frameBytes rfl k_525 hK hE hP hD hS hA [0] rfl (by decide) 0 rfl rfl rfl ⟨rfl, rfl, Nat.le_of_ble_eq_true rfl, Nat.le_of_ble_eq_true rfl⟩ ⟨Nat.zero_le _, Nat.zero_le _⟩ rfl hl.1 rfl (Nat.le_of_ble_eq_true rfl) d_Shape_dataBytes_1 ?_
  refine lv_bipush (v := (6 : Int32)) hx hb d_Shape_dataBytes_4 (by decide) ?_
  refine lv_isub hx hb d_Shape_dataBytes_6 ?_
  refine lv_iconst (v := (2 : Int32)) hx hb d_Shape_dataBytes_7 (by decide) ?_
  refine lv_isub hx hb d_Shape_dataBytes_8 ?_
  cases hm
  exact z_qo hQ (z_preti hr hx hb hlocks d_Shape_dataBytes_9)
set_option maxHeartbeats 4000000 in
set_option maxRecDepth 100000 in
theorem p_Receiver_hasTaken (l : Launch) (D : va_G) (cI cJ : ClassId) (tt : Nat → Nat) (qRc : Nat) (Rc_shape Rc_words Rc_mixer Rc_nearest Rc_found Rc_bytes Rc_facts Rc_putRight Rc_lastOfChannel Rc_lastMaster Rc_differing : Value) (sz : Nat) (Rc_taken : Int32) (x1 : Int32) (rr : Int32) (hm : f_Receiver_hasTaken Rc_taken x1 = some rr) : CPi l y_Receiver_hasTaken b_Receiver_hasTaken 2 (some .boolean) (RM 0 0) D cI cJ tt [.ref qRc, .int x1] (w_Receiver_hasTaken cI cJ qRc Rc_shape Rc_words Rc_mixer Rc_nearest Rc_found Rc_bytes Rc_facts Rc_putRight Rc_lastOfChannel Rc_lastMaster Rc_differing Rc_taken) sz rr := by
  refine Met.ofW (cc := b_Receiver_hasTaken) (maxL := 2) (ret := (some .boolean)) (by decide) rfl ?_
  intro p e s m args below meth c s₁ B hml hv
  obtain ⟨hargs, hsz, hP, hK, hD0, hE⟩ := hv
  have hx := B.exec
  have hb := B.bytes
  have hr := B.returns
  have hts : ∀ w ∈ TB, w.before args s = true := z_mV s (atoms_spec (ws := WD y_Receiver_hasTaken b_Receiver_hasTaken 2 (some .boolean)) B.pre)
  have hown : s.vm.findClass "DeepChannel$Receiver" = some m.cls := findClass_of_methodNamed B.named
  have hlocks := B.notSynchronized
  subst hsz
  have hD := hD0.self (sz := s.heap.size)
  have hAe : ∀ q : Nat, s.heap.size ≤ q → va_A (w_Receiver_hasTaken cI cJ qRc Rc_shape Rc_words Rc_mixer Rc_nearest Rc_found Rc_bytes Rc_facts Rc_putRight Rc_lastOfChannel Rc_lastMaster Rc_differing Rc_taken) s.heap.size q := fun q h => Or.inr h
  generalize va_A (w_Receiver_hasTaken cI cJ qRc Rc_shape Rc_words Rc_mixer Rc_nearest Rc_found Rc_bytes Rc_facts Rc_putRight Rc_lastOfChannel Rc_lastMaster Rc_differing Rc_taken) s.heap.size = A at hD hE hAe
  have hA : ∀ q : Nat, s.heap.size ≤ q → A q := hAe
  have hS : va_S A s.heap s.heap [] := va_S.rf
  refine z_entry (vs := [.ref qRc, .int x1]) hargs (Nat.le_of_ble_eq_true rfl) (fun ls hl => ?_)
  have hl : lv_has ls 2 [(0, .ref qRc), (1, .int x1)] := hl
  show W p l e (RM 0 0) s m args below meth c s.heap [] 0 0 _ _
  refine z_qi (fun Q0 hQ => ?_)
  have F : CallFix p m c b_Receiver_hasTaken 2 s args TB "DeepChannel$Receiver" := ⟨hx, hb, hml, hown, hts⟩
  unfold f_Receiver_hasTaken at hm
  refine lv_iload_n hx hb d_Receiver_hasTaken_0 rfl (lv_at hl 1 rfl) ?_
  refine z_if hm (lv_if_lt (tgt := 16) hx hb d_Receiver_hasTaken_1 (by decide)) (fun hm => ?_) (fun hm => ?_)
  · refine lv_iconst (v := (0 : Int32)) hx hb d_Receiver_hasTaken_16 (by decide) ?_
    obtain ⟨hz, hm⟩ := zb_el hm
    cases hm
    exact z_qo hQ (z_pretz hz hr hx hb hlocks d_Receiver_hasTaken_17)
  · refine lv_iload_n hx hb d_Receiver_hasTaken_4 rfl (lv_at hl 1 rfl) ?_
    refine lv_aload_n hx hb d_Receiver_hasTaken_5 rfl (lv_at hl 0 rfl) ?_
    refine va_get (D := D) (ci := 6) (v := .int Rc_taken) (C := "DeepChannel$Receiver") (T := fT_Receiver) (N := 12) hx hb hts u_Receiver hown hK hP 0 rfl rfl 11 (by decide) (hts _ k_315) (fun _ h9 => h9) rfl d_Receiver_hasTaken_6 ?_
    refine z_if hm (lv_icmp_ge (tgt := 16) hx hb d_Receiver_hasTaken_9 (by decide)) (fun hm => ?_) (fun hm => ?_)
    · refine lv_iconst (v := (0 : Int32)) hx hb d_Receiver_hasTaken_16 (by decide) ?_
      obtain ⟨hz, hm⟩ := zb_el hm
      cases hm
      exact z_qo hQ (z_pretz hz hr hx hb hlocks d_Receiver_hasTaken_17)
    · refine lv_iconst (v := (1 : Int32)) hx hb d_Receiver_hasTaken_12 (by decide) ?_
      refine lv_goto (tgt := 17) hx hb d_Receiver_hasTaken_13 (by decide) ?_
      obtain ⟨hz, hm⟩ := zb_el hm
      cases hm
      exact z_qo hQ (z_pretz hz hr hx hb hlocks d_Receiver_hasTaken_17)
