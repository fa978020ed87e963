/-! PURE PART: the cases data and plain -/
section
theorem b255 : ∀ k, k < 64 → (255#64).getLsbD k = decide (k < 8) := by decide
theorem by_sh (x : Int64) {i : Nat} (hi : i < 8) : ((x >>> (((8 : Int32) * nI i).toInt64 &&& 63)) &&& (255 : Int64)).toInt32 = (x.toUInt64 >>> (((8 : Int32) * nI i).toInt64.toUInt64 &&& Int64.toUInt64 63)).toInt64.toInt32 &&& (255 : Int32) := by
  rw [show (8 : Int32) * nI i = nI (8 * i) from pk_mul 8 i]
  have h : (x >>> ((nI (8 * i)).toInt64 &&& 63)) &&& (255 : Int64) = (x.toUInt64 >>> ((nI (8 * i)).toInt64.toUInt64 &&& Int64.toUInt64 63)).toInt64 &&& (255 : Int64) := by
    refine b_ext fun k hk => ?_
    show ((x >>> ((nI (8 * i)).toInt64 &&& 63)).toBitVec &&& 255#64).getLsbD k = ((x.toUInt64 >>> ((nI (8 * i)).toInt64.toUInt64 &&& Int64.toUInt64 63)).toInt64.toBitVec &&& 255#64).getLsbD k
    rw [BitVec.getLsbD_and, BitVec.getLsbD_and, b_shr x (by omega), b_ushr x (by omega), b255 k hk, BitVec.getLsbD_sshiftRight, BitVec.getLsbD_ushiftRight]
    by_cases c : k < 8
    · rw [if_pos (by omega)]
      simp [c]
      omega
    · simp [c]
  rw [h, Int64.toInt32_and]
  rfl
theorem dt_lp {n w : Nat} (x : Int64) (hn : n ≤ 8) (hw : w + n ≤ 242) (t : Int32) : ∀ m fu fu' i (sb da : AR), i + m = n → m < fu → m < fu' → (∀ k, k < w + i → sb (6 + k) = da k) → BY sb → ∃ sb' da', f_Sender_addData_21 fu (nI n) x (nI i) (nI w) sb = f_Sender_addData_60 (nI n) (nI w) sb' ∧ f_Mo_data_50 fu' (nI n) x (nI i) t (nI (w + i)) da = some (nI (w + n), t, nI (w + n), da') ∧ (∀ k, k < w + n → sb' (6 + k) = da' k) ∧ BY sb' := by
  intro m
  induction m with
  | zero =>
    intro fu fu' i sb da h1 h2 h3 h4 h5
    obtain ⟨f, rfl⟩ : ∃ f, fu = f + 1 := ⟨fu - 1, by omega⟩
    obtain ⟨f', rfl⟩ : ∃ f', fu' = f' + 1 := ⟨fu' - 1, by omega⟩
    show ∃ sb' da', f_Sender_addData_21_b _ _ _ _ _ _ = _ ∧ f_Mo_data_50_b _ _ _ _ _ _ _ = _ ∧ _
    unfold f_Sender_addData_21_b f_Mo_data_50_b
    have e : i = n := by omega
    subst e
    rw [if_pos (nI_le (by omega) (by omega)), if_pos (nI_le (by omega) (by omega))]
    exact ⟨sb, da, rfl, rfl, h4, h5⟩
  | succ m ih =>
    intro fu fu' i sb da h1 h2 h3 h4 h5
    obtain ⟨f, rfl⟩ : ∃ f, fu = f + 1 := ⟨fu - 1, by omega⟩
    obtain ⟨f', rfl⟩ : ∃ f', fu' = f' + 1 := ⟨fu' - 1, by omega⟩
    show ∃ sb' da', f_Sender_addData_21_b _ _ _ _ _ _ = _ ∧ f_Mo_data_50_b _ _ _ _ _ _ _ = _ ∧ _
    unfold f_Sender_addData_21_b f_Mo_data_50_b
    obtain ⟨v, hv, ev⟩ := pk_andE (x.toUInt64 >>> (((8 : Int32) * nI i).toInt64.toUInt64 &&& Int64.toUInt64 63)).toInt64.toInt32 (m := 255) 8 (by decide)
    rw [if_neg (nI_ge (by omega) (by omega)), if_neg (nI_ge (by omega) (by omega)), by_sh x (by omega), ev, show (6 : Int32) + nI w = nI (6 + w) from nI_add 6 w, nI_add, q_wrI (by omega) (by decide), q_wrI (by omega) (by decide), q_nm, q_nm, q_nm, nI_1, nI_1]
    refine ih f f' (i + 1) _ _ (by omega) (by omega) (by omega) (fun k hk => ?_) (by_upd h5 _ _ hv)
    by_cases c : k = w + i
    · subst c
      rw [pk_us, show 6 + (w + i) = 6 + w + i by omega, pk_us]
    · rw [pk_un (by omega), pk_un c, h4 k (by omega)]
set_option maxHeartbeats 1000000 in
theorem i_data {K : Type} [Lean.Grind.Field K] {en fo : K → Int32} {g : K} {M : Nat → Nat} {xs : AR} {L j : Nat} {kh : KHT} {ci : AR} {ca : Nat → AR} {cl : Nat → Nat → Int64} {mi : AR} {ma : Nat → AR} {ou : Nat → Int64} (hj : 5 * j + 5 ≤ L) (hL : L ≤ 2560) (hI : Inv en fo g M j ci ca cl mi ma) (hk : ∀ ci' ca' cl' mi' ma' ou', Inv en fo g M (j + 1) ci' ca' cl' mi' ma' → kh (nI (5 * j)) ci' ca' cl' mi' ma' ou' = some ()) : fla_data xs L kh (nI (5 * j)) ci ca cl mi ma ou = some () := by
  have hs1 : ∀ {β : Type} (k : Int32 → Option β), rdI xs L (nI (5 * j) + (1 : Int32)) k = k (xs (5 * j + 1)) := fun k => q_scr hj hL 1 (by decide)
  have hs2 : ∀ {β : Type} (k : Int32 → Option β), rdI xs L (nI (5 * j) + (2 : Int32)) k = k (xs (5 * j + 2)) := fun k => q_scr hj hL 2 (by decide)
  have hs3 : ∀ {β : Type} (k : Int32 → Option β), rdI xs L (nI (5 * j) + (3 : Int32)) k = k (xs (5 * j + 3)) := fun k => q_scr hj hL 3 (by decide)
  obtain ⟨D, F, E, P, h1, h2, h3, h4, h5, h6, h7, h8, h9⟩ := hI
  have h1' := h1
  have h4' := h4
  obtain ⟨f1, f2, f3, f4, f5, f6, f7, f8, f9⟩ := h1'
  have f1' := f1
  obtain ⟨o1, o2, o3, o4, o5, o6, o7⟩ := f1'
  obtain ⟨w, w1, w2, w3, w4, w5⟩ := h4'
  have hSW : D * (255 - F - 2 * E) ≤ D * (255 - F) := Nat.mul_le_mul_left _ (by omega)
  unfold fla_data flb_data
  simp only [hs1, hs2, hs3]
  generalize xs (5 * j + 1) = x
  generalize (((xs (5 * j + 2)).toInt64 <<< ((32 : Int32).toInt64 &&& 63)) ||| ((xs (5 * j + 3)).toInt64 &&& (4294967295 : Int64))) = x2
  have hno : ∀ t', kh (nI (5 * j)) ci ca cl (lI [t', mi 1, mi 2, mi 3, mi 4, mi 5, mi 6, mi 7, mi 8, mi 9, mi 10, mi 11, mi 12, mi 13, mi 14]) (lA [ma 0, ma 1, ma 2, ma 3, ma 4, ma 5, ma 6, ma 7, ma 8, ma 9, ma 10, ma 11, ma 12, ma 13, ma 14, ma 15, ma 16, ma 17, ma 18, ma 19, ma 20, ma 21, ma 22, ma 23, ma 24]) ou = some () := fun t' => hk _ _ _ _ _ _ ⟨D, F, E, P, h1, h2, cn_mono h3, h4, h5, h6, h7, h8, h9⟩
  by_cases c1 : x < 1
  · simp only [g_DC_data, f_Mo_data, f_Mo_data_12, f_Mo_data_17, f_Mo_thrown, c1, if_true, ch3, q_bd, q_nm, if_neg (show ¬ (1 : Int32) ≤ 0 by decide), eq_false ne10, if_false]
    exact hno 1
  · by_cases c2 : x ≤ 8
    · have c0 : ¬ x < 0 := by
        rw [Int32.lt_iff_toInt_lt] at c1 ⊢
        have e1 : (1 : Int32).toInt = 1 := by decide
        have e0 : (0 : Int32).toInt = 0 := by decide
        omega
      obtain ⟨n, hn, rfl⟩ := nI_of2 (M := 8) (n := 8) (by decide) c0 c2
      simp only [g_DC_data, f_La_data, f_DC_data, f_Sender_addData, f_Mo_data, f_Mo_data_17, f_Mo_thrown, c1, c2, if_true, if_false, ch3, q_bd, q_nm, if_pos (show (0 : Int32) ≤ 0 by decide)]
      rw [f2, f3, f4, f6, f7, f8, w2, w3, db_c D o5 o6, fs_m D o2 o5]
      simp only [q_bd, q_nm]
      rw [nI_add, show nI (D * (255 - F - 2 * E)) - 8 = nI (D * (255 - F - 2 * E) - 8) from pk_sub (b := 8) (by omega)]
      by_cases c3 : w + n ≤ D * (255 - F - 2 * E) - 8
      · rw [if_pos (nI_le c3 (by omega)), if_pos (nI_le c3 (by omega))]
        obtain ⟨sb', da', d1, d2, d3, d4⟩ := dt_lp x2 hn (w := w) (by omega) 0 n 10000 10000 0 (ca 14) (ma 8) (by omega) (by omega) (by omega) (fun k hk => w4 k hk) w5
        rw [nI_0] at d1 d2
        rw [Nat.add_zero] at d2
        rw [d1, d2]
        unfold f_Sender_addData_60 f_Sender_waiting
        simp only [q_nm, q_zb1, q_bd, eq_false ne10, if_false, q_w0, q_r0, q_upd0, nI_add, q_cmp, if_true]
        exact hk _ _ _ _ _ _ ⟨D, F, E, P, ⟨f1, by first | rfl | exact f2, by first | rfl | exact f3, by first | rfl | exact f4, by first | rfl | exact f5, by first | rfl | exact f6, by first | rfl | exact f7, by first | rfl | exact f8, by first | rfl | exact f9⟩, h2, cn_mono h3, ⟨w + n, c3, rfl, rfl, d3, d4⟩, h5, h6, h7, h8, h9⟩
      · rw [if_neg (nI_ge (by omega) (by omega)), if_neg (nI_ge (by omega) (by omega))]
        simp only [q_nm, q_zb0, q_bd, if_true, q_w0, q_r0, q_upd0, q_cmp]
        exact hk _ _ _ _ _ _ ⟨D, F, E, P, ⟨f1, by first | rfl | exact f2, by first | rfl | exact f3, by first | rfl | exact f4, by first | rfl | exact f5, by first | rfl | exact f6, by first | rfl | exact f7, by first | rfl | exact f8, by first | rfl | exact f9⟩, h2, cn_mono h3, ⟨w, w1, rfl, rfl, w4, w5⟩, h5, h6, h7, h8, h9⟩
    · simp only [g_DC_data, f_Mo_data, f_Mo_data_12, f_Mo_data_17, f_Mo_thrown, c1, c2, if_true, if_false, ch3, q_bd, q_nm, if_neg (show ¬ (1 : Int32) ≤ 0 by decide), eq_false ne10]
      exact hno 1
set_option maxHeartbeats 1000000 in
theorem i_plain {K : Type} [Lean.Grind.Field K] {en fo : K → Int32} {g : K} {M : Nat → Nat} {xs : AR} {L j : Nat} {kh : KHT} {ci : AR} {ca : Nat → AR} {cl : Nat → Nat → Int64} {mi : AR} {ma : Nat → AR} {ou : Nat → Int64} (hj : 5 * j + 5 ≤ L) (hL : L ≤ 2560) (hI : Inv en fo g M j ci ca cl mi ma) (hk : ∀ ci' ca' cl' mi' ma' ou', Inv en fo g M (j + 1) ci' ca' cl' mi' ma' → kh (nI (5 * j)) ci' ca' cl' mi' ma' ou' = some ()) : fla_plain xs L kh (nI (5 * j)) ci ca cl mi ma ou = some () := by
  have hs1 : ∀ {β : Type} (k : Int32 → Option β), rdI xs L (nI (5 * j) + (1 : Int32)) k = k (xs (5 * j + 1)) := fun k => q_scr hj hL 1 (by decide)
  have hs2 : ∀ {β : Type} (k : Int32 → Option β), rdI xs L (nI (5 * j) + (2 : Int32)) k = k (xs (5 * j + 2)) := fun k => q_scr hj hL 2 (by decide)
  have hs3 : ∀ {β : Type} (k : Int32 → Option β), rdI xs L (nI (5 * j) + (3 : Int32)) k = k (xs (5 * j + 3)) := fun k => q_scr hj hL 3 (by decide)
  obtain ⟨D, F, E, P, h1, h2, h3, h4, h5, h6, h7, h8, h9⟩ := hI
  have h1' := h1
  have h5' := h5
  have h6' := h6
  obtain ⟨f1, f2, f3, f4, f5, f6, f7, f8, f9⟩ := h1'
  obtain ⟨snt, R, l1, l2, l3, l4, l5, l6, l7, l8⟩ := h5'
  obtain ⟨_, hT, _⟩ := h6'
  have hP := f1.2.2.2.1
  have hs := cnt_hi hP l8.1
  unfold fla_plain flb_plain
  simp only [hs1, hs2, hs3]
  generalize xs (5 * j + 1) = x
  generalize (((xs (5 * j + 2)).toInt64 <<< ((32 : Int32).toInt64 &&& 63)) ||| ((xs (5 * j + 3)).toInt64 &&& (4294967295 : Int64))) = x2
  have hno : ∀ t', kh (nI (5 * j)) ci ca cl (lI [t', mi 1, mi 2, mi 3, mi 4, mi 5, mi 6, mi 7, mi 8, mi 9, mi 10, mi 11, mi 12, mi 13, mi 14]) (lA [ma 0, ma 1, ma 2, ma 3, ma 4, ma 5, ma 6, ma 7, ma 8, ma 9, ma 10, ma 11, ma 12, ma 13, ma 14, ma 15, ma 16, ma 17, ma 18, ma 19, ma 20, ma 21, ma 22, ma 23, ma 24]) ou = some () := fun t' => hk _ _ _ _ _ _ ⟨D, F, E, P, h1, h2, cn_mono h3, h4, h5, h6, h7, h8, h9⟩
  by_cases c1 : x < 1
  · simp only [g_DC_plain, f_Mo_plain, f_Mo_plain_12, f_Mo_plain_17, f_Mo_thrown, c1, if_true, ch3, q_bd, q_nm, if_neg (show ¬ (1 : Int32) ≤ 0 by decide), eq_false ne10, if_false]
    exact hno 1
  · by_cases c2 : x ≤ 64
    · have c0 : ¬ x < 0 := by
        rw [Int32.lt_iff_toInt_lt] at c1 ⊢
        have e1 : (1 : Int32).toInt = 1 := by decide
        have e0 : (0 : Int32).toInt = 0 := by decide
        omega
      obtain ⟨n, hn, rfl⟩ := nI_of2 (M := 64) (n := 64) (by decide) c0 c2
      simp only [g_DC_plain, f_La_plain, f_DC_plain, f_Mo_plain, f_Mo_plain_17, f_Mo_thrown, c1, c2, if_true, if_false, ch3, q_bd, q_nm, if_pos (show (0 : Int32) ≤ 0 by decide)]
      rw [f5, f9, l2, l3, l4, l5, l6, l7, rm_ok hP (by omega) l8.1 (by omega), lo_ok hT hP (by omega) (by omega)]
      simp only [q_bd, q_nm]
      have hcl := cnt_le hP snt n
      have hll := l8.1
      rw [nI_add]
      by_cases c3 : cnt P 0 snt + cnt P snt n ≤ 4096
      · rw [if_pos c3, if_neg ne10, if_pos (show nI (cnt P 0 snt + cnt P snt n) ≤ (4096 : Int32) from nI_le (b := 4096) c3 (by decide))]
        have p1 := pl_c (nI P) x2 hn n 10000 0 (nI R) (nI snt) (nI (cnt P 0 snt)) (cl 0) (by omega) (by omega)
        have p2 := pl_m (nI P) (ma 0) (ma 1) (ma 2) x2 hn 0 n 10000 0 (nI (cnt P 0 snt)) (nI snt) (nI (R / 2)) (ma 10) (by omega) (by omega)
        rw [nI_0] at p1 p2
        obtain ⟨R', cl', ln', r1, r2, r3, r4⟩ := run_ok hT hP (bU x2 n 0) (cnt P 0 snt) snt R (cl 0) (ma 10) l8 l1 (by rw [bU_len]; omega) (by rw [bU_len]; omega)
        rw [bU_len] at r1 r2 r3
        rw [p1, p2, r1, r2]
        have hca : cnt P 0 (snt + n) = cnt P 0 snt + cnt P snt n := by rw [cnt_add, Nat.zero_add]
        simp only [q_bd, q_nm, q_w0, q_r0, q_upd0, q_cmp, if_true]
        exact hk _ _ _ _ _ _ ⟨D, F, E, P, ⟨f1, by first | rfl | exact f2, by first | rfl | exact f3, by first | rfl | exact f4, by first | rfl | exact f5, by first | rfl | exact f6, by first | rfl | exact f7, by first | rfl | exact f8, by first | rfl | exact f9⟩, h2, cn_mono h3, h4, ⟨snt + n, R', r4, by rw [hca]; rfl, rfl, rfl, by rw [hca]; rfl, rfl, rfl, by rw [hca]; exact r3⟩, h6, h7, h8, h9⟩
      · rw [if_neg c3, if_pos rfl, if_neg (show ¬ nI (cnt P 0 snt + cnt P snt n) ≤ (4096 : Int32) from nI_ge (a := 4096) (by omega) (by omega))]
        simp only [q_bd, q_nm, q_w0, q_r0, q_upd0, q_cmp, if_true]
        exact hk _ _ _ _ _ _ ⟨D, F, E, P, ⟨f1, by first | rfl | exact f2, by first | rfl | exact f3, by first | rfl | exact f4, by first | rfl | exact f5, by first | rfl | exact f6, by first | rfl | exact f7, by first | rfl | exact f8, by first | rfl | exact f9⟩, h2, cn_mono h3, h4, ⟨snt, R, l1, rfl, rfl, rfl, rfl, rfl, rfl, l8⟩, h6, h7, h8, h9⟩
    · simp only [g_DC_plain, f_Mo_plain, f_Mo_plain_12, f_Mo_plain_17, f_Mo_thrown, c1, c2, if_true, if_false, ch3, q_bd, q_nm, if_neg (show ¬ (1 : Int32) ≤ 0 by decide), eq_false ne10]
      exact hno 1
end
