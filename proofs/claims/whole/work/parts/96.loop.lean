/-! PURE PART: the law's loop -/
section
theorem loop_ok {K : Type} [Lean.Grind.Field K] {en fo : K → Int32} {g : K} {M : Nat → Nat} {xs : AR} {L : Nat} (hL : L ≤ 2560) : ∀ n j (ci : AR) (ca : Nat → AR) (cl : Nat → Nat → Int64) (mi : AR) (ma : Nat → AR) (ou : Nat → Int64), j ≤ 512 → 512 - j < n → Inv en fo g M j ci ca cl mi ma → fl_loop xs L n (nI (5 * j)) ci ca cl mi ma ou = some () := by
  intro n
  induction n with
  | zero => intro j ci ca cl mi ma ou h1 h2; omega
  | succ n ih =>
    intro j ci ca cl mi ma ou h1 h2 hI
    show fl_b xs L (fl_loop xs L n) (nI (5 * j)) ci ca cl mi ma ou = some ()
    unfold fl_b
    by_cases c0 : nI L - 5 < nI (5 * j)
    · rw [if_pos c0]
    · have hj := lp_in hL h1 c0
      have hk : ∀ ci' ca' cl' mi' ma' ou', Inv en fo g M (j + 1) ci' ca' cl' mi' ma' → fl_kh (fl_loop xs L n) (nI (5 * j)) ci' ca' cl' mi' ma' ou' = some () := by
        intro ci' ca' cl' mi' ma' ou' h
        unfold fl_kh
        rw [q_nm, show nI (5 * j) + (5 : Int32) = nI (5 * (j + 1)) from nI_add (5 * j) 5]
        exact ih (j + 1) ci' ca' cl' mi' ma' ou' (by omega) (by omega) h
      rw [if_neg c0, q_rdI (by omega) (by omega)]
      generalize xs (5 * j) &&& (15 : Int32) = v
      by_cases e0 : v = 0
      · rw [if_pos e0]; exact i_form hj hL hI hk
      rw [if_neg e0]
      by_cases e1 : v = 1
      · rw [if_pos e1]; exact i_craft hj hL hI hk
      rw [if_neg e1]
      by_cases e2 : v = 2
      · rw [if_pos e2]; exact i_told hj hL hI hk
      rw [if_neg e2]
      by_cases e3 : v = 3
      · rw [if_pos e3]; exact i_data hj hL hI hk
      rw [if_neg e3]
      by_cases e4 : v = 4
      · rw [if_pos e4]; exact i_send hj hL hI hk
      rw [if_neg e4]
      by_cases e5 : v = 5
      · rw [if_pos e5]; exact i_plain hj hL hI hk
      rw [if_neg e5]
      by_cases e6 : v = 6
      · rw [if_pos e6]; exact i_skip hj hL hI hk
      rw [if_neg e6]
      by_cases e7 : v = 7
      · rw [if_pos e7]; exact i_turn hj hL hI hk
      rw [if_neg e7]
      by_cases e8 : v = 8
      · rw [if_pos e8]; exact i_line hj hL hI hk
      rw [if_neg e8]
      by_cases e9 : v = 9
      · rw [if_pos e9]; exact i_receive hj hL hI hk
      rw [if_neg e9]
      by_cases e10 : v = 10
      · rw [if_pos e10]; exact i_decoded hj hL hI hk
      rw [if_neg e10]
      by_cases e11 : v = 11
      · rw [if_pos e11]; exact i_block hj hL hI hk
      rw [if_neg e11]
      by_cases e12 : v = 12
      · rw [if_pos e12]; exact i_word hj hL hI hk
      rw [if_neg e12]
      by_cases e13 : v = 13
      · rw [if_pos e13]; exact i_frame hj hL hI hk
      rw [if_neg e13]
      obtain ⟨D, F, E, P, h1', h2', h3, h4, h5, h6, h7, h8, h9⟩ := hI
      exact hk _ _ _ _ _ _ ⟨D, F, E, P, h1', h2', cn_mono h3, h4, h5, h6, h7, h8, h9⟩
end
