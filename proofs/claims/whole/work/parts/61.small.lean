abbrev KHT : Type := Int32 → (Nat → Int32) → (Nat → Nat → Int32) → (Nat → Nat → Int64) → (Nat → Int32) → (Nat → Nat → Int32) → (Nat → Int64) → Option Unit
theorem i_sub62 (a : Int32) : a - 6 - 2 = a - 8 := by
  rw [Int32.sub_eq_add_neg, Int32.sub_eq_add_neg, Int32.add_assoc, Int32.sub_eq_add_neg]; rfl
theorem i_ne_neg {x : Int32} (h : x < 0) (n : Nat) (hn : n < 2 ^ 31) : ¬ x = nI n := by
  intro e
  subst e
  exact nI_pos hn h
theorem i_ne_gt {x : Int32} {M : Nat} (hM : M < 2 ^ 31) (h : ¬ x ≤ nI M) (n : Nat) (hn : n ≤ M) : ¬ x = nI n := by
  intro e
  subst e
  exact h (nI_le hn hM)
theorem told_eq (a b d0 w0 e0 f0 ln wt rs df bk t : Int32) (hw : w0 = 255 - f0) (v : Nat) (hv : v ≤ 7) : ∃ r : Int32, f_DC_told df bk rs wt ln d0 w0 e0 (nI v) = some r ∧ f_Mo_told t d0 f0 e0 wt ln rs df bk (nI v) = some (r, 0) ∧ g_DC_told (nI v) = none := by
  subst hw
  rcases (show v = 0 ∨ v = 1 ∨ v = 2 ∨ v = 3 ∨ v = 4 ∨ v = 5 ∨ v = 6 ∨ v = 7 by omega) with rfl | rfl | rfl | rfl | rfl | rfl | rfl | rfl
  · exact ⟨d0 * ((255 - f0) - 2 * e0), by simp [show nI 0 = (0 : Int32) from rfl, f_DC_told, f_Shape_frameBytes, q_bd, q_nm], by simp [show nI 0 = (0 : Int32) from rfl, f_Mo_told, f_Mo_told_16, f_Mo_frameSize, f_Mo_wordSize, q_bd, q_nm], by simp [show nI 0 = (0 : Int32) from rfl, g_DC_told]⟩
  · exact ⟨d0 * ((255 - f0) - 2 * e0) - 8, by simp [show nI 1 = (1 : Int32) from rfl, f_DC_told, f_Shape_frameBytes, f_Shape_dataBytes, q_bd, q_nm, i_sub62], by simp [show nI 1 = (1 : Int32) from rfl, f_Mo_told, f_Mo_told_16, f_Mo_frameSize, f_Mo_wordSize, q_bd, q_nm], by simp [show nI 1 = (1 : Int32) from rfl, g_DC_told]⟩
  · exact ⟨d0 * (255 - f0), by simp [show nI 2 = (2 : Int32) from rfl, f_DC_told, f_Shape_blockBytes, q_bd, q_nm], by simp [show nI 2 = (2 : Int32) from rfl, f_Mo_told, f_Mo_told_16, f_Mo_blockSize, f_Mo_wordSize, q_bd, q_nm], by simp [show nI 2 = (2 : Int32) from rfl, g_DC_told]⟩
  · exact ⟨ln, by simp [show nI 3 = (3 : Int32) from rfl, f_DC_told, f_BitRow_size, q_bd, q_nm], by simp [show nI 3 = (3 : Int32) from rfl, f_Mo_told, f_Mo_told_16], by simp [show nI 3 = (3 : Int32) from rfl, g_DC_told]⟩
  · exact ⟨wt, by simp [show nI 4 = (4 : Int32) from rfl, f_DC_told, f_Sender_waiting, q_bd, q_nm], by simp [show nI 4 = (4 : Int32) from rfl, f_Mo_told, f_Mo_told_16], by simp [show nI 4 = (4 : Int32) from rfl, g_DC_told]⟩
  · exact ⟨rs, by simp [show nI 5 = (5 : Int32) from rfl, f_DC_told, f_Receiver_bitsDecoded, f_BitRow_size, q_bd, q_nm], by simp [show nI 5 = (5 : Int32) from rfl, f_Mo_told, f_Mo_told_16], by simp [show nI 5 = (5 : Int32) from rfl, g_DC_told]⟩
  · exact ⟨df, by simp [show nI 6 = (6 : Int32) from rfl, f_DC_told, f_Receiver_bitsDiffering, q_bd, q_nm], by simp [show nI 6 = (6 : Int32) from rfl, f_Mo_told, f_Mo_told_16], by simp [show nI 6 = (6 : Int32) from rfl, g_DC_told]⟩
  · exact ⟨bk, by simp [show nI 7 = (7 : Int32) from rfl, f_DC_told, f_Receiver_blocksTaken, q_bd, q_nm], by simp [show nI 7 = (7 : Int32) from rfl, f_Mo_told, f_Mo_told_16], by simp [show nI 7 = (7 : Int32) from rfl, g_DC_told]⟩
set_option maxHeartbeats 1000000 in
/-- promise 4, in the law's picture -/
theorem pc_told {xs : Nat → Int32} {L j : Nat} {kh : KHT} {ci : Nat → Int32} {ca : Nat → Nat → Int32} {cl : Nat → Nat → Int64} {mi : Nat → Int32} {ma : Nat → Nat → Int32} {ou : Nat → Int64} (hj : 5 * j + 5 ≤ L) (hL : L ≤ 2560)
    (h0 : ci 0 = mi 1) (h1 : ci 1 = 255 - mi 2) (h2 : ci 2 = mi 3) (h9 : ci 9 = mi 6) (h4 : ci 4 = mi 8) (h13 : ci 13 = mi 11) (h11 : ci 11 = mi 12) (h12 : ci 12 = mi 13)
    (hk : ∀ (t' : Int32) (ou' : Nat → Int64), kh (nI (5 * j)) ci ca cl (lI [t', mi 1, mi 2, mi 3, mi 4, mi 5, mi 6, mi 7, mi 8, mi 9, mi 10, mi 11, mi 12, mi 13, mi 14]) ma ou' = some ()) : fla_told xs L kh (nI (5 * j)) ci ca cl mi ma ou = some () := by
  have hs : ∀ {β : Type} (k : Int32 → Option β), rdI xs L (nI (5 * j) + (1 : Int32)) k = k (xs (5 * j + 1)) := fun k => q_scr hj hL 1 (by decide)
  unfold fla_told flb_told
  rw [hs]
  simp only [hs]
  generalize xs (5 * j + 1) = x
  by_cases c1 : x < 0
  · have n0 : ¬ x = 0 := i_ne_neg c1 0 (by decide)
    have n1 : ¬ x = 1 := i_ne_neg c1 1 (by decide)
    have n2 : ¬ x = 2 := i_ne_neg c1 2 (by decide)
    have n3 : ¬ x = 3 := i_ne_neg c1 3 (by decide)
    have n4 : ¬ x = 4 := i_ne_neg c1 4 (by decide)
    have n5 : ¬ x = 5 := i_ne_neg c1 5 (by decide)
    have n6 : ¬ x = 6 := i_ne_neg c1 6 (by decide)
    have n7 : ¬ x = 7 := i_ne_neg c1 7 (by decide)
    simp only [g_DC_told, f_Mo_told, f_Mo_told_11, f_Mo_told_16, f_Mo_thrown, c1, n0, n1, n2, n3, n4, n5, n6, n7, if_true, if_false, ch3, q_bd, q_nm]
    exact hk 1 ou
  · by_cases c2 : x ≤ 7
    · obtain ⟨v, hv, rfl⟩ := nI_of2 (M := 7) (n := 7) (by decide) c1 c2
      obtain ⟨r, e1, e2, e3⟩ := told_eq 0 0 (mi 1) (ci 1) (mi 3) (mi 2) (mi 8) (mi 6) (mi 11) (mi 12) (mi 13) (mi 0) h1 v hv
      simp only [e3, e2, e1, ch3, f_La_told, h0, h2, h9, h4, h13, h11, h12, q_bd, q_nm, q_w0, q_r0, q_upd0, q_cmp, f_Mo_thrown, if_true]
      exact hk 0 _
    · have n0 : ¬ x = 0 := i_ne_gt (M := 7) (by decide) c2 0 (by decide)
      have n1 : ¬ x = 1 := i_ne_gt (M := 7) (by decide) c2 1 (by decide)
      have n2 : ¬ x = 2 := i_ne_gt (M := 7) (by decide) c2 2 (by decide)
      have n3 : ¬ x = 3 := i_ne_gt (M := 7) (by decide) c2 3 (by decide)
      have n4 : ¬ x = 4 := i_ne_gt (M := 7) (by decide) c2 4 (by decide)
      have n5 : ¬ x = 5 := i_ne_gt (M := 7) (by decide) c2 5 (by decide)
      have n6 : ¬ x = 6 := i_ne_gt (M := 7) (by decide) c2 6 (by decide)
      have n7 : ¬ x = 7 := i_ne_gt (M := 7) (by decide) c2 7 (by decide)
      simp only [g_DC_told, f_Mo_told, f_Mo_told_11, f_Mo_told_16, f_Mo_thrown, c1, c2, n0, n1, n2, n3, n4, n5, n6, n7, if_true, if_false, ch3, q_bd, q_nm]
      exact hk 1 ou
theorem cnt_up {j : Nat} {k mk : Int32} (hj : j < 2 ^ 20) (h : IvCount j k mk) : IvCount (j + 1) ((k + 1) &&& 255) (mk + 1) := by
  obtain ⟨n, hn, rfl, rfl⟩ := h
  refine ⟨n + 1, by omega, ?_, nI_1 n⟩
  rw [nI_1, pk_andN (by omega) 8 (by decide)]
  congr 1
  omega
theorem cnt_mono {j : Nat} {k mk : Int32} (h : IvCount j k mk) : IvCount (j + 1) k mk := by
  obtain ⟨n, hn, h1, h2⟩ := h
  exact ⟨n, by omega, h1, h2⟩
set_option maxHeartbeats 1000000 in
/-- promise 8, in the law's picture -/
theorem pc_skip {xs : Nat → Int32} {L j : Nat} {kh : KHT} {ci : Nat → Int32} {ca : Nat → Nat → Int32} {cl : Nat → Nat → Int64} {mi : Nat → Int32} {ma : Nat → Nat → Int32} {ou : Nat → Int64} (hj : 5 * j + 5 ≤ L) (hL : L ≤ 2560)
    (h7 : IvCount j (ci 7) (mi 7)) (hc : ∀ k, k < 8 → IvCount j (ca 15 k) (ma 9 k))
    (hk : ∀ (t' c7 m7 : Int32) (c15 m9 : Nat → Int32), IvCount (j + 1) c7 m7 → (∀ k, k < 8 → IvCount (j + 1) (c15 k) (m9 k)) → kh (nI (5 * j)) (lI [ci 0, ci 1, ci 2, ci 3, ci 4, ci 5, ci 6, c7, ci 8, ci 9, ci 10, ci 11, ci 12, ci 13]) (lA [ca 0, ca 1, ca 2, ca 3, ca 4, ca 5, ca 6, ca 7, ca 8, ca 9, ca 10, ca 11, ca 12, ca 13, ca 14, c15, ca 16, ca 17, ca 18, ca 19, ca 20, ca 21, ca 22, ca 23]) cl (lI [t', mi 1, mi 2, mi 3, mi 4, mi 5, mi 6, m7, mi 8, mi 9, mi 10, mi 11, mi 12, mi 13, mi 14]) (lA [ma 0, ma 1, ma 2, ma 3, ma 4, ma 5, ma 6, ma 7, ma 8, m9, ma 10, ma 11, ma 12, ma 13, ma 14, ma 15, ma 16, ma 17, ma 18, ma 19, ma 20, ma 21, ma 22, ma 23, ma 24]) ou = some ())
    (hk2 : ∀ (t' m7 : Int32) (m9 : Nat → Int32), m7 = mi 7 → m9 = ma 9 → kh (nI (5 * j)) ci ca cl (lI [t', mi 1, mi 2, mi 3, mi 4, mi 5, mi 6, m7, mi 8, mi 9, mi 10, mi 11, mi 12, mi 13, mi 14]) (lA [ma 0, ma 1, ma 2, ma 3, ma 4, ma 5, ma 6, ma 7, ma 8, m9, ma 10, ma 11, ma 12, ma 13, ma 14, ma 15, ma 16, ma 17, ma 18, ma 19, ma 20, ma 21, ma 22, ma 23, ma 24]) ou = some ()) : fla_skip xs L kh (nI (5 * j)) ci ca cl mi ma ou = some () := by
  have hs : ∀ {β : Type} (k : Int32 → Option β), rdI xs L (nI (5 * j) + (1 : Int32)) k = k (xs (5 * j + 1)) := fun k => q_scr hj hL 1 (by decide)
  unfold fla_skip flb_skip
  rw [hs]
  simp only [hs]
  generalize xs (5 * j + 1) = x
  by_cases c1 : x < 0
  · simp only [g_DC_skip, f_DC_isChannel, f_Mo_skip, f_Mo_skip_11, f_Mo_skip_16, f_Mo_thrown, c1, q_zb0, q_zb1, if_true, if_false, ch3, q_bd, q_nm]
    exact hk2 1 _ _ rfl rfl
  · by_cases c2 : x ≤ 7
    · obtain ⟨v, hv, rfl⟩ := nI_of2 (M := 7) (n := 7) (by decide) c1 c2
      have c3 : ¬ (8 : Int32) ≤ nI v := nI_ge (a := v) (b := 8) (by omega) (by decide)
      simp only [g_DC_skip, f_La_skip, f_DC_skip, f_DC_isChannel, f_Sender_countFrame, f_Mo_skip, f_Mo_skip_16, f_Mo_thrown, c1, c2, c3, q_zb0, q_zb1, if_true, if_false, ch3, q_bd, q_nm, q_rdI (show v < 8 by omega) (by decide), q_wrI (show v < 8 by omega) (by decide)]
      refine hk 0 _ _ _ _ (cnt_up (by omega) h7) (fun k hk8 => ?_)
      by_cases e : k = v
      · subst e
        show IvCount (j + 1) (upd (ca 15) k _ k) (upd (ma 9) k _ k)
        rw [pk_us, pk_us]
        exact cnt_up (by omega) (hc k hk8)
      · show IvCount (j + 1) (upd (ca 15) v _ k) (upd (ma 9) v _ k)
        rw [pk_un e, pk_un e]
        exact cnt_mono (hc k hk8)
    · have c3 : (8 : Int32) ≤ x := by
        rw [Int32.le_iff_toInt_le] at c2 ⊢
        have e1 : (8 : Int32).toInt = 8 := by decide
        have e2 : (7 : Int32).toInt = 7 := by decide
        omega
      simp only [g_DC_skip, f_DC_isChannel, f_Mo_skip, f_Mo_skip_11, f_Mo_skip_16, f_Mo_thrown, c1, c2, c3, q_zb0, q_zb1, if_true, if_false, ch3, q_bd, q_nm]
      exact hk2 1 _ _ rfl rfl
