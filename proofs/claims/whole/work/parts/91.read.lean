/-! PURE PART: the cases word, block, frame -/
section
theorem ht_no {kk : Nat} {x : Int32} (h : x < 0 ∨ nI kk ≤ x) : f_Receiver_hasTaken (nI kk) x = some 0 := by
  unfold f_Receiver_hasTaken
  by_cases c : x < 0
  · rw [if_pos c, q_zb0]
  · rw [if_neg c]
    rcases h with h | h
    · exact absurd h c
    · rw [if_pos h, q_zb0]
theorem ht_yes {kk q : Nat} (hq : q < kk) (hk : kk < 2 ^ 31) : f_Receiver_hasTaken (nI kk) (nI q) = some 1 := by
  unfold f_Receiver_hasTaken
  rw [if_neg (nI_pos (by omega)), if_neg (nI_ge hq hk), q_zb1]
set_option maxHeartbeats 1000000 in
theorem i_word {K : Type} [Lean.Grind.Field K] {en fo : K → Int32} {g : K} {M : Nat → Nat} {xs : AR} {L j : Nat} {kh : KHT} {ci : AR} {ca : Nat → AR} {cl : Nat → Nat → Int64} {mi : AR} {ma : Nat → AR} {ou : Nat → Int64} (hj : 5 * j + 5 ≤ L) (hL : L ≤ 2560) (hI : Inv en fo g M j ci ca cl mi ma) (hk : ∀ ci' ca' cl' mi' ma' ou', Inv en fo g M (j + 1) ci' ca' cl' mi' ma' → kh (nI (5 * j)) ci' ca' cl' mi' ma' ou' = some ()) : fla_word xs L kh (nI (5 * j)) ci ca cl mi ma ou = some () := by
  have hs1 : ∀ {β : Type} (k : Int32 → Option β), rdI xs L (nI (5 * j) + (1 : Int32)) k = k (xs (5 * j + 1)) := fun k => q_scr hj hL 1 (by decide)
  have hs2 : ∀ {β : Type} (k : Int32 → Option β), rdI xs L (nI (5 * j) + (2 : Int32)) k = k (xs (5 * j + 2)) := fun k => q_scr hj hL 2 (by decide)
  obtain ⟨D, F, E, P, h1, h2, h3, h4, h5, h6, h7, h8, h9⟩ := hI
  have h1' := h1
  obtain ⟨f1, f2, f3, f4, f5, f6, f7, f8, f9⟩ := h1'
  have h9' := h9
  obtain ⟨kk, b1, b2, b3, b4, b5⟩ := h9'
  have hno : ∀ t' ou', kh (nI (5 * j)) ci ca cl (lI [t', mi 1, mi 2, mi 3, mi 4, mi 5, mi 6, mi 7, mi 8, mi 9, mi 10, mi 11, mi 12, mi 13, mi 14]) ma ou' = some () := fun t' ou' => hk _ _ _ _ _ _ ⟨D, F, E, P, h1, h2, cn_mono h3, h4, h5, h6, h7, h8, h9⟩
  unfold fla_word flb_word
  simp only [hs1, hs2]
  generalize xs (5 * j + 1) = x
  generalize xs (5 * j + 2) = y
  have hbad : (x < 0 ∨ nI kk ≤ x) → f_Mo_word (mi 0) (mi 1) (nI kk) (ma 17) x y = some (0, 1) := by
    intro hx
    unfold f_Mo_word f_Mo_word_13 f_Mo_word_18
    by_cases c : x < 0
    · rw [if_pos c, if_neg (by decide)]
    · rw [if_neg c]
      rcases hx with hx | hx
      · exact absurd hx c
      · rw [if_neg (Int32.not_lt.2 hx), if_neg (by decide)]
  rw [b2, b3]
  rw [b3] at hno
  rcases pk_ix x (n := kk) (by omega) with hx | hx | ⟨q, hq, rfl⟩
  · rw [hbad (Or.inl hx)]
    simp only [g_DC_word, ht_no (Or.inl hx), f_Mo_thrown, if_true, ch3, q_bd, q_nm, eq_false ne10, if_false]
    exact hno 1 ou
  · rw [hbad (Or.inr hx)]
    simp only [g_DC_word, ht_no (Or.inr hx), f_Mo_thrown, if_true, ch3, q_bd, q_nm, eq_false ne10, if_false]
    exact hno 1 ou
  · simp only [g_DC_word, f_La_word, f_DC_word, f_Mo_word, f_Mo_word_18, ht_yes hq (by omega), f_Mo_thrown, ch3, q_bd, q_nm, eq_false ne10, if_false, eq_false (nI_pos (show q < 2 ^ 31 by omega)), if_pos (nI_lt hq (by omega)), if_pos (show (0 : Int32) ≤ 0 by decide), f_Receiver_bytesPutRight, f_Mo_word_42]
    rw [f2, f6]
    rw [f6] at hno
    rcases pk_ix y (n := D) (by have := f1.1; omega) with hy | hy | ⟨w, hw, rfl⟩
    · simp only [hy, if_true, q_bd, q_nm, q_w0, q_r0, q_upd0, q_cmp]
      exact hno 0 _
    · by_cases hy2 : y < 0
      · simp only [hy2, if_true, q_bd, q_nm, q_w0, q_r0, q_upd0, q_cmp]
        exact hno 0 _
      · simp only [hy2, hy, if_true, if_false, eq_false (Int32.not_lt.2 hy), q_bd, q_nm, q_w0, q_r0, q_upd0, q_cmp]
        exact hno 0 _
    · have hD := f1.1
      have hv := (b5 q hq).2.2.2.2 w hw
      simp only [eq_false (nI_pos (show w < 2 ^ 31 by omega)), eq_false (nI_ge hw (show D < 2 ^ 31 by omega)), if_pos (nI_lt hw (show D < 2 ^ 31 by omega)), if_false]
      rw [show nI q * (8 : Int32) = nI (8 * q) by rw [show (8 : Int32) = nI 8 from rfl, pk_mul, Nat.mul_comm], show (8 : Int32) * nI q = nI (8 * q) from pk_mul 8 q, nI_add, q_rdI (by omega) (by decide), q_rdI (by omega) (by decide), hv]
      simp only [if_true, q_bd, q_nm, q_w0, q_r0, q_upd0, q_cmp]
      exact hno 0 _
theorem bk_val {DW D q : Nat} {fa mk wr tl cby rby pr ri : AR} (hq : q < 15) (h : Blk DW D q fa mk wr tl cby rby pr ri) {w : Nat} (hw : w < 9) (th : Int32) : f_Mo_block_32 tl rby wr mk (nI q) (nI w) 0 th = some (fa (9 * q + w), 0) := by
  obtain ⟨b1, b2, ⟨j1, j2, j3, j4⟩, _, _⟩ := h
  unfold f_Mo_block_32
  rw [if_pos (by decide), show (6 : Int32) * nI q = nI (6 * q) from pk_mul 6 q]
  rcases (show w = 0 ∨ w = 1 ∨ w = 2 ∨ w = 3 ∨ w = 4 ∨ 5 ≤ w by omega) with rfl | rfl | rfl | rfl | rfl | h5
  · rw [if_neg (by decide), if_pos (by decide), q_rdI (by omega) (by decide), Nat.add_zero, b1]
  · rw [if_neg (by decide), if_neg (by decide), q_rdI (by omega) (by decide), b2]
  · rw [if_pos (by decide), if_neg (by decide), nI_add, show nI (6 * q + 2) - (2 : Int32) = nI (6 * q) from pk_sub (b := 2) (by omega), q_rdI (by omega) (by decide), j1]
  · rw [if_pos (by decide), if_neg (by decide), nI_add, show nI (6 * q + 3) - (2 : Int32) = nI (6 * q + 1) from pk_sub (b := 2) (by omega), q_rdI (by omega) (by decide), j2]
  · rw [if_pos (by decide), if_neg (by decide), nI_add, show nI (6 * q + 4) - (2 : Int32) = nI (6 * q + 2) from pk_sub (b := 2) (by omega), q_rdI (by omega) (by decide), j3]
  · rw [if_pos (show (2 : Int32) ≤ nI w from nI_le (a := 2) (by omega) (by omega)), if_pos (show (5 : Int32) ≤ nI w from nI_le (a := 5) (by omega) (by omega)), show nI (6 * q) + (2 : Int32) = nI (6 * q + 2) from nI_add _ 2, q_rdI (by omega) (by decide)]
    rcases j4 with ⟨c1, c2⟩ | ⟨c1, ⟨x, y, x1, x2, x3, x4, x5, x6⟩, c3, c4⟩
    · rw [if_pos c1, c2 w h5 hw]
    · rw [if_neg (by rw [c1]; decide), show (250 : Int32) * nI q = nI (250 * q) from pk_mul 250 q, show nI (250 * q) + (1 : Int32) = nI (250 * q + 1) from nI_1 _, q_rdI (by omega) (by decide), q_rdI (by omega) (by decide), x3, x4, q_nm, show (256 : Int32) * nI x = nI (256 * x) from pk_mul 256 x, nI_add]
      rcases (show w = 5 ∨ w = 6 ∨ w = 7 ∨ w = 8 by omega) with rfl | rfl | rfl | rfl
      · rw [if_pos (by decide), pk_shrN (by omega) _ 4 (by decide), pk_andN (by omega) 10 (by decide), x5]
      · rw [if_neg (by decide), if_pos (by decide), pk_shrN (by omega) _ 1 (by decide), pk_andN (by omega) 3 (by decide), x6]
      · rw [if_neg (by decide), if_neg (by decide), nI_add, show nI (6 * q + 7) - (4 : Int32) = nI (6 * q + 3) from pk_sub (b := 4) (by omega), q_rdI (by omega) (by decide), c3]
      · rw [if_neg (by decide), if_neg (by decide), nI_add, show nI (6 * q + 8) - (4 : Int32) = nI (6 * q + 4) from pk_sub (b := 4) (by omega), q_rdI (by omega) (by decide), c4]
set_option maxHeartbeats 1000000 in
theorem i_block {K : Type} [Lean.Grind.Field K] {en fo : K → Int32} {g : K} {M : Nat → Nat} {xs : AR} {L j : Nat} {kh : KHT} {ci : AR} {ca : Nat → AR} {cl : Nat → Nat → Int64} {mi : AR} {ma : Nat → AR} {ou : Nat → Int64} (hj : 5 * j + 5 ≤ L) (hL : L ≤ 2560) (hI : Inv en fo g M j ci ca cl mi ma) (hk : ∀ ci' ca' cl' mi' ma' ou', Inv en fo g M (j + 1) ci' ca' cl' mi' ma' → kh (nI (5 * j)) ci' ca' cl' mi' ma' ou' = some ()) : fla_block xs L kh (nI (5 * j)) ci ca cl mi ma ou = some () := by
  have hs1 : ∀ {β : Type} (k : Int32 → Option β), rdI xs L (nI (5 * j) + (1 : Int32)) k = k (xs (5 * j + 1)) := fun k => q_scr hj hL 1 (by decide)
  have hs2 : ∀ {β : Type} (k : Int32 → Option β), rdI xs L (nI (5 * j) + (2 : Int32)) k = k (xs (5 * j + 2)) := fun k => q_scr hj hL 2 (by decide)
  obtain ⟨D, F, E, P, h1, h2, h3, h4, h5, h6, h7, h8, h9⟩ := hI
  have h9' := h9
  obtain ⟨kk, b1, b2, b3, b4, b5⟩ := h9'
  have hno : ∀ t' ou', kh (nI (5 * j)) ci ca cl (lI [t', mi 1, mi 2, mi 3, mi 4, mi 5, mi 6, mi 7, mi 8, mi 9, mi 10, mi 11, mi 12, mi 13, mi 14]) ma ou' = some () := fun t' ou' => hk _ _ _ _ _ _ ⟨D, F, E, P, h1, h2, cn_mono h3, h4, h5, h6, h7, h8, h9⟩
  unfold fla_block flb_block
  simp only [hs1, hs2]
  generalize xs (5 * j + 1) = x
  generalize xs (5 * j + 2) = y
  rw [b2, b3]
  rw [b3] at hno
  have h32 : ∀ t : Int32, ¬ t ≤ 0 → f_Mo_block_32 (ma 18) (ma 16) (ma 15) (ma 14) x y t (mi 0) = some (0, t) := by
    intro t ht
    unfold f_Mo_block_32
    rw [if_neg ht]
  rcases pk_ix y (n := 9) (by decide) with hy | hy | ⟨w, hw, rfl⟩
  · simp only [g_DC_block, f_Mo_block, f_Mo_block_11, h32 1 (by decide), hy, f_Mo_thrown, if_true, ch3, q_bd, q_nm, eq_false ne10, if_false]
    exact hno 1 ou
  · have hy1 : ¬ y < 9 := Int32.not_lt.2 hy
    have hy2 : ¬ y ≤ 8 := by
      intro h
      rw [Int32.le_iff_toInt_le] at h hy
      have e1 : (nI 9).toInt = 9 := by decide
      have e2 : (8 : Int32).toInt = 8 := by decide
      omega
    have hy0 : ¬ y < 0 := by
      intro h
      rw [Int32.le_iff_toInt_le] at hy
      rw [Int32.lt_iff_toInt_lt] at h
      have e1 : (nI 9).toInt = 9 := by decide
      have e2 : (0 : Int32).toInt = 0 := by decide
      omega
    simp only [g_DC_block, f_Mo_block, f_Mo_block_11, h32 1 (by decide), hy0, hy1, hy2, f_Mo_thrown, if_true, ch3, q_bd, q_nm, eq_false ne10, if_false]
    exact hno 1 ou
  · have hw0 : ¬ nI w < 0 := nI_pos (by omega)
    have hw1 : nI w < (9 : Int32) := nI_lt (b := 9) hw (by decide)
    have hw2 : nI w ≤ (8 : Int32) := nI_le (b := 8) (by omega) (by decide)
    have h22 : ¬ (2 : Int32) = 0 := by decide
    by_cases hx : x < 0 ∨ nI kk ≤ x
    · have hm : f_Mo_block (mi 0) (nI kk) (ma 18) (ma 16) (ma 15) (ma 14) x (nI w) = some (0, 2) := by
        unfold f_Mo_block f_Mo_block_27
        rw [if_neg hw0, if_pos hw2]
        by_cases c : x < 0
        · rw [if_pos c]; exact h32 2 (by decide)
        · rw [if_neg c, if_neg (Int32.not_lt.2 (hx.resolve_left c))]; exact h32 2 (by decide)
      rw [hm]
      simp only [g_DC_block, ht_no hx, hw0, hw1, f_Mo_thrown, if_true, ch3, q_bd, q_nm, eq_false h22, if_false]
      exact hno 2 ou
    · obtain ⟨q, hq, rfl⟩ : ∃ q : Nat, q < kk ∧ x = nI q := by
        rcases pk_ix x (n := kk) (by omega) with h | h | h
        · exact absurd (Or.inl h) hx
        · exact absurd (Or.inr h) hx
        · exact h
      have hv := bk_val (show q < 15 by omega) (b5 q hq) hw (mi 0)
      simp only [g_DC_block, f_La_block, f_DC_block, f_Mo_block, ht_yes hq (by omega), hw0, hw1, hw2, f_Mo_thrown, ch3, q_bd, q_nm, eq_false ne10, if_false, if_true, eq_false (nI_pos (show q < 2 ^ 31 by omega)), if_pos (nI_lt hq (show kk < 2 ^ 31 by omega)), ft_ok (show q < 16 by omega) hw, hv, q_w0, q_r0, q_upd0, q_cmp]
      exact hno 0 _
theorem fw_lp {D F E q kk : Nat} (hF : F ≤ 250) (hEW : 2 * E < 255 - F) (hSW : D * (255 - F - 2 * E) ≤ D * (255 - F)) (hDW : D * (255 - F) ≤ 250) (hq : q < kk) (hk : kk ≤ 15) (hkk : kk * (D * (255 - F)) ≤ 512) {cby rby : AR} (hb : ∀ i, i < D * (255 - F) → cby (q * (D * (255 - F)) + i) = rby (250 * q + i)) (x : Int32) :
    ∀ fu b (a : Int64), b ≤ 8 → 8 - b < fu → ∃ W, f_Receiver_frameWindow_5 (nI D) (nI (255 - F)) (nI E) cby fu (nI q) x a (nI b) = some W ∧ f_Mo_frame_26 (nI D) (nI F) (nI E) rby fu (nI q) x a (nI b) 0 = some (W, 0) := by
  have hq1 : q * (D * (255 - F)) + D * (255 - F) ≤ 512 := by
    have : (q + 1) * (D * (255 - F)) ≤ kk * (D * (255 - F)) := Nat.mul_le_mul_right _ hq
    rw [Nat.add_mul, Nat.one_mul] at this
    omega
  intro fu
  induction fu with
  | zero => intro b a h1 h2; omega
  | succ fu ih =>
    intro b a h1 h2
    show ∃ W, f_Receiver_frameWindow_5_b _ _ _ _ _ _ _ _ _ = _ ∧ f_Mo_frame_26_b _ _ _ _ _ _ _ _ _ _ = _
    unfold f_Receiver_frameWindow_5_b f_Mo_frame_26_b
    by_cases e : b = 8
    · have h8 : (8 : Int32) ≤ nI b := nI_le (a := 8) (by omega) (by omega)
      rw [if_pos h8, if_pos h8]
      exact ⟨a, rfl, rfl⟩
    · have h8 : ¬ (8 : Int32) ≤ nI b := nI_ge (b := 8) (by omega) (by decide)
      have hat := at_int x (b := b) (by omega)
      have e0 : (0 : Int64).toInt = 0 := by decide
      have el : ((nI (D * (255 - F - 2 * E))).toInt64).toInt = ((D * (255 - F - 2 * E) : Nat) : Int) := by rw [Int32.toInt_toInt64, nI_toInt (by omega)]
      rw [if_neg h8, if_neg h8, if_pos rfl, q_nm, q_nm, fs_c D hEW, fs_m D hF hEW, bs_c]
      simp only [q_bd, q_nm]
      have hno : ∀ a', ∃ W, f_Receiver_frameWindow_69 (f_Receiver_frameWindow_5 (nI D) (nI (255 - F)) (nI E) cby fu) (nI q) x a' (nI b) = some W ∧ f_Mo_frame_90 (f_Mo_frame_26 (nI D) (nI F) (nI E) rby fu) (nI q) x a' (nI b) 0 = some (W, 0) := by
        intro a'
        unfold f_Receiver_frameWindow_69 f_Mo_frame_90
        rw [q_nm, q_nm, nI_1]
        exact ih (b + 1) a' (by omega) (by omega)
      by_cases c1 : x.toInt + b < 0
      · have c1' := (lg_neg (x.toInt64 + (nI b).toInt64) 0).2 (by rw [hat, e0]; exact c1)
        rw [if_pos c1', if_pos c1']
        exact hno a
      · have c1' : ¬ lg_cmp (x.toInt64 + (nI b).toInt64) 0 < 0 := fun h => c1 (by have := (lg_neg _ _).1 h; rw [hat, e0] at this; exact this)
        rw [if_neg c1', if_neg c1']
        by_cases c2 : ((D * (255 - F - 2 * E) : Nat) : Int) ≤ x.toInt + b
        · have c2' := (lg_nn (x.toInt64 + (nI b).toInt64) (nI (D * (255 - F - 2 * E))).toInt64).2 (by rw [hat, el]; exact c2)
          rw [if_pos c2', if_pos c2']
          exact hno a
        · have c2' : ¬ 0 ≤ lg_cmp (x.toInt64 + (nI b).toInt64) (nI (D * (255 - F - 2 * E))).toInt64 := fun h => c2 (by have := (lg_nn _ _).1 h; rw [hat, el] at this; exact this)
          obtain ⟨n, hn⟩ : ∃ n : Nat, x.toInt + b = n := ⟨(x.toInt + b).toNat, by omega⟩
          rw [if_neg c2', if_neg c2', to32 (n := n) (by rw [hat, hn]) (by omega), pk_mul, nI_add, show (250 : Int32) * nI q = nI (250 * q) from pk_mul 250 q, nI_add, q_rdI (by omega) (by decide), q_rdI (by omega) (by decide), hb n (by omega)]
          exact hno _
set_option maxHeartbeats 1000000 in
theorem i_frame {K : Type} [Lean.Grind.Field K] {en fo : K → Int32} {g : K} {M : Nat → Nat} {xs : AR} {L j : Nat} {kh : KHT} {ci : AR} {ca : Nat → AR} {cl : Nat → Nat → Int64} {mi : AR} {ma : Nat → AR} {ou : Nat → Int64} (hj : 5 * j + 5 ≤ L) (hL : L ≤ 2560) (hI : Inv en fo g M j ci ca cl mi ma) (hk : ∀ ci' ca' cl' mi' ma' ou', Inv en fo g M (j + 1) ci' ca' cl' mi' ma' → kh (nI (5 * j)) ci' ca' cl' mi' ma' ou' = some ()) : fla_frame xs L kh (nI (5 * j)) ci ca cl mi ma ou = some () := by
  have hs1 : ∀ {β : Type} (k : Int32 → Option β), rdI xs L (nI (5 * j) + (1 : Int32)) k = k (xs (5 * j + 1)) := fun k => q_scr hj hL 1 (by decide)
  have hs2 : ∀ {β : Type} (k : Int32 → Option β), rdI xs L (nI (5 * j) + (2 : Int32)) k = k (xs (5 * j + 2)) := fun k => q_scr hj hL 2 (by decide)
  obtain ⟨D, F, E, P, h1, h2, h3, h4, h5, h6, h7, h8, h9⟩ := hI
  have h1' := h1
  obtain ⟨f1, f2, f3, f4, f5, f6, f7, f8, f9⟩ := h1'
  obtain ⟨o1, o2, o3, o4, o5, o6, o7⟩ := f1
  have h9' := h9
  obtain ⟨kk, b1, b2, b3, b4, b5⟩ := h9'
  have hno : ∀ t' ou', kh (nI (5 * j)) ci ca cl (lI [t', mi 1, mi 2, mi 3, mi 4, mi 5, mi 6, mi 7, mi 8, mi 9, mi 10, mi 11, mi 12, mi 13, mi 14]) ma ou' = some () := fun t' ou' => hk _ _ _ _ _ _ ⟨D, F, E, P, h1, h2, cn_mono h3, h4, h5, h6, h7, h8, h9⟩
  unfold fla_frame flb_frame
  simp only [hs1, hs2]
  generalize xs (5 * j + 1) = x
  generalize xs (5 * j + 2) = y
  have h26 : f_Mo_frame_18 (mi 1) (mi 2) (mi 3) (ma 16) x y 1 (mi 0) = some (0, 1) := by
    unfold f_Mo_frame_18
    show f_Mo_frame_26_b _ _ _ _ _ _ _ _ _ _ = _
    unfold f_Mo_frame_26_b
    rw [if_neg (by decide), if_neg ne10]
  have hbad : (x < 0 ∨ nI kk ≤ x) → f_Mo_frame (mi 0) (mi 1) (mi 2) (mi 3) (nI kk) (ma 16) x y = some (0, 1) := by
    intro hx
    unfold f_Mo_frame f_Mo_frame_13
    by_cases c : x < 0
    · rw [if_pos c]; exact h26
    · rw [if_neg c, if_neg (Int32.not_lt.2 (hx.resolve_left c))]; exact h26
  rw [b2, b3]
  rw [b3] at hno
  by_cases hx : x < 0 ∨ nI kk ≤ x
  · rw [hbad hx]
    simp only [g_DC_frame, ht_no hx, f_Mo_thrown, if_true, ch3, q_bd, q_nm, eq_false ne10, if_false]
    exact hno 1 ou
  · obtain ⟨q, hq, rfl⟩ : ∃ q : Nat, q < kk ∧ x = nI q := by
      rcases pk_ix x (n := kk) (by omega) with h | h | h
      · exact absurd (Or.inl h) hx
      · exact absurd (Or.inr h) hx
      · exact h
    obtain ⟨W, w1, w2⟩ := fw_lp (D := D) (F := F) (E := E) o2 o5 (Nat.mul_le_mul_left _ (by omega)) o7 hq b1 b4 (b5 q hq).2.2.2.1 y 10000 0 0 (by omega) (by omega)
    rw [nI_0] at w1 w2
    simp only [g_DC_frame, f_La_frame, f_DC_frame, f_Receiver_frameWindow, f_Mo_frame, f_Mo_frame_18, ht_yes hq (by omega), f_Mo_thrown, ch3, q_bd, q_nm, eq_false ne10, if_false, eq_false (nI_pos (show q < 2 ^ 31 by omega)), if_pos (nI_lt hq (show kk < 2 ^ 31 by omega))]
    rw [f2, f3, f4, f6, f7, f8, w1, w2]
    rw [f6, f7, f8] at hno
    simp only [if_true, q_bd, q_nm, q_w0, q_r0, q_upd0, q_cmp]
    exact hno 0 _
end
