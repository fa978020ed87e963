/-! PURE PART: the reference's check bytes -/
section
theorem ne10 : ¬ (1 : Int32) = 0 := by decide
abbrev CK : Type := Option (AR × AR × AR × AR)
theorem c_in {K : Type} [Lean.Grind.Field K] {en : K → Int32} {g : K} {lg pr : AR} (hF : FldM en g lg pr) {E n r : Nat} (hE2 : E ≤ 16) (hn : n ≤ 32) (hr : r < n) (kh : Int32 → Int32 → Int32 → AR → AR → AR → AR → CK) (val wd sol : AR) :
    ∀ fu k (A : Nat → K), k ≤ n → n - k < fu → ∃ A', f_Mo_check_26 (nI E) pr kh fu (nI n) 0 (nI r) (nI k) val wd sol (ea en A) = f_Mo_check_67 kh (nI n) 0 (nI r) val wd sol (ea en A') ∧ (∀ i, i ≤ n → ∀ q, q < n → mat A' q i = if q = r ∧ k ≤ i ∧ i < n then pw g ((128 - E + r) * i) else mat A q i) := by
  intro fu
  induction fu with
  | zero => intro k A h1 h2; omega
  | succ fu ih =>
    intro k A h1 h2
    show ∃ A', f_Mo_check_26_b _ _ _ _ _ _ _ _ _ _ _ _ = _ ∧ _
    unfold f_Mo_check_26_b
    by_cases e : k = n
    · refine ⟨A, by rw [if_pos (nI_le (by omega) (by omega))], fun i hi q hq => by rw [if_neg (by omega)]⟩
    · have hb : (128 - E + r) * k < 2 ^ 20 := Nat.lt_of_le_of_lt (Nat.mul_le_mul (show 128 - E + r ≤ 160 by omega) (show k ≤ 32 by omega)) (by decide)
      rw [if_neg (nI_ge (by omega) (by omega)), show ((128 : Int32) - nI E + nI r) * nI k = nI ((128 - E + r) * k) by rw [show (128 : Int32) = nI 128 from rfl, pk_sub (by omega), nI_add, pk_mul], hF.2.2 _ hb, q_bd, q_nm, ix33, ea_wr (by omega) (by decide), q_nm, nI_1]
      obtain ⟨A', h3, h4⟩ := ih (k + 1) (ud A (33 * r + k) (pw g ((128 - E + r) * k))) (by omega) (by omega)
      refine ⟨A', h3, fun i hi q hq => ?_⟩
      rw [h4 i hi q hq]
      unfold mat
      by_cases hq2 : q = r
      · subst hq2
        by_cases hk : i = k
        · subst hk
          rw [if_neg (by omega), if_pos ⟨rfl, by omega, by omega⟩, ud_s]
        · rw [ud_n _ _ (by omega)]
          by_cases hk2 : k ≤ i ∧ i < n
          · rw [if_pos ⟨rfl, by omega, hk2.2⟩, if_pos ⟨rfl, hk2⟩]
          · rw [if_neg (by omega), if_neg (by omega)]
      · rw [if_neg (fun h => hq2 h.1), if_neg (fun h => hq2 h.1), ud_n _ _ (by omega)]
theorem c_out {K : Type} [Lean.Grind.Field K] {en : K → Int32} {g : K} {lg pr : AR} (hF : FldM en g lg pr) {F' : Int32} {E n : Nat} (hE2 : E ≤ 16) (hn : n ≤ 32) (V : Nat → K) (wd sol : AR) :
    ∀ fu r (A : Nat → K), r ≤ n → n - r < fu → ∃ A', f_Mo_check_14 F' (nI E) pr lg fu (nI n) 0 (nI r) (ea en V) wd sol (ea en A) = f_Mo_check_90 F' pr lg (nI n) 0 (ea en V) wd sol (ea en A') ∧ (∀ i, i ≤ n → ∀ q, q < n → mat A' q i = if r ≤ q then (if i < n then pw g ((128 - E + q) * i) else V q) else mat A q i) := by
  intro fu
  induction fu with
  | zero => intro r A h1 h2; omega
  | succ fu ih =>
    intro r A h1 h2
    show ∃ A', f_Mo_check_14_b _ _ _ _ _ _ _ _ _ _ _ _ = _ ∧ _
    unfold f_Mo_check_14_b
    by_cases e : r = n
    · refine ⟨A, by rw [if_pos (nI_le (by omega) (by omega))], fun i hi q hq => by rw [if_neg (by omega)]⟩
    · rw [if_neg (nI_ge (by omega) (by omega)), if_pos rfl]
      obtain ⟨A1, a1, a2⟩ := c_in hF hE2 hn (r := r) (by omega) (f_Mo_check_14 F' (nI E) pr lg fu) (ea en V) wd sol 10000 0 A (by omega) (by omega)
      rw [nI_0] at a1
      rw [a1]
      unfold f_Mo_check_67
      rw [ea_rd (by omega) (by decide), ix33, ea_wr (by omega) (by decide), q_nm, nI_1]
      obtain ⟨A', h3, h4⟩ := ih (r + 1) (ud A1 (33 * r + n) (V r)) (by omega) (by omega)
      refine ⟨A', h3, fun i hi q hq => ?_⟩
      rw [h4 i hi q hq]
      by_cases hq2 : q = r
      · subst hq2
        rw [if_neg (by omega), if_pos (by omega)]
        by_cases hi2 : i < n
        · rw [if_pos hi2]
          show ud A1 (33 * q + n) (V q) (33 * q + i) = _
          rw [ud_n _ _ (by omega)]
          have := a2 i hi q hq
          rw [if_pos ⟨rfl, by omega, hi2⟩] at this
          exact this
        · rw [if_neg hi2, show i = n by omega]
          exact ud_s _ _ _
      · by_cases hq3 : r ≤ q
        · rw [if_pos hq3, if_pos (by omega)]
        · rw [if_neg hq3, if_neg (by omega)]
          show ud A1 (33 * r + n) (V r) (33 * q + i) = _
          rw [ud_n _ _ (by omega)]
          have := a2 i hi q hq
          rw [if_neg (by omega)] at this
          exact this
theorem c_wr {K : Type} {en : K → Int32} {F n : Nat} (hF2 : F ≤ 250) (hn : n ≤ 32) (hnW : n ≤ 255 - F) (s : Nat → K) (val sys : AR) :
    ∀ fu c (w : Nat → K), c ≤ n → n - c < fu → ∃ w', f_Mo_check_111 (nI F) fu (nI n) 1 (nI c) val (ea en w) (ea en s) sys = some (val, ea en w', ea en s, sys) ∧ (∀ k, k < 255 - F → w' k = if 255 - F - n ≤ k ∧ c ≤ 255 - F - 1 - k then s (255 - F - 1 - k) else w k) := by
  intro fu
  induction fu with
  | zero => intro c w h1 h2; omega
  | succ fu ih =>
    intro c w h1 h2
    show ∃ w', f_Mo_check_111_b _ _ _ _ _ _ _ _ _ = _ ∧ _
    unfold f_Mo_check_111_b
    by_cases e : c = n
    · refine ⟨w, by rw [if_pos (nI_le (by omega) (by omega))], fun k hk => by rw [if_neg (by omega)]⟩
    · rw [if_neg (nI_ge (by omega) (by omega)), if_neg ne10, show f_Mo_wordSize (nI F) = some (nI (255 - F)) by unfold f_Mo_wordSize; rw [show (255 : Int32) = nI 255 from rfl, pk_sub (by omega)], q_bd, q_nm, ea_rd (by omega) (by decide), show nI (255 - F) - 1 - nI c = nI (255 - F - 1 - c) by rw [show (1 : Int32) = nI 1 from rfl, pk_sub (by omega), pk_sub (by omega)], ea_wr (by omega) (by decide), q_nm, nI_1]
      obtain ⟨w', h3, h4⟩ := ih (c + 1) (ud w (255 - F - 1 - c) (s c)) (by omega) (by omega)
      refine ⟨w', h3, fun k hk => ?_⟩
      rw [h4 k hk]
      by_cases e2 : k = 255 - F - 1 - c
      · subst e2
        rw [if_neg (by omega), if_pos ⟨by omega, by omega⟩, ud_s, show 255 - F - 1 - (255 - F - 1 - c) = c by omega]
      · rw [ud_n _ _ e2]
        by_cases e3 : 255 - F - n ≤ k ∧ c ≤ 255 - F - 1 - k
        · rw [if_pos e3, if_pos ⟨e3.1, by omega⟩]
        · rw [if_neg e3, if_neg (by omega)]
/-- the reference makes a codeword of what stands before the check bytes -/
theorem m_ck {K : Type} [Lean.Grind.Field K] {en : K → Int32} {g : K} {lg pr : AR} (hg : Gen g) (hE : Enc en) (hF : FldM en g lg pr) {F E : Nat} (hF2 : F ≤ 250) (hE1 : 1 ≤ E) (hE2 : E ≤ 16) (hEW : 2 * E < 255 - F) (w V s A : Nat → K) (hw : ∀ k, 255 - F - 2 * E ≤ k → k < 255 - F → w k = 0) :
    ∃ V' w' s' A', f_Mo_check (nI F) (nI E) pr (ea en V) lg (ea en w) (ea en s) (ea en A) = some (ea en V', ea en w', ea en s', ea en A') ∧ Code g (255 - F) E (128 - E) w' ∧ (∀ k, k < 255 - F - 2 * E → w' k = w k) := by
  have h2 : ∀ x : K, x + x = 0 := hE.2.2.2.2.2.2.1
  unfold f_Mo_check
  rw [q_nm, show (2 : Int32) * nI E = nI (2 * E) from pk_mul 2 E]
  obtain ⟨fl, l1, l2⟩ := m_ic hE hF hF2 hE2 w V
  rw [l1, q_bd, q_nm, q_nm]
  rcases l2 with ⟨rfl, l2⟩ | ⟨rfl, l2⟩
  · show ∃ V' w' s' A', f_Mo_check_14_b _ _ _ _ _ _ _ _ _ _ _ _ = _ ∧ _
    unfold f_Mo_check_14_b
    rw [if_neg (show ¬ nI (2 * E) ≤ (0 : Int32) from nI_ge (a := 0) (by omega) (by omega)), if_neg ne10]
    unfold f_Mo_check_90 f_Mo_check_106 f_Mo_check_107
    rw [if_neg ne10]
    show ∃ V' w' s' A', f_Mo_check_111_b _ _ _ _ _ _ _ _ _ = _ ∧ _
    unfold f_Mo_check_111_b
    rw [if_neg (show ¬ nI (2 * E) ≤ (0 : Int32) from nI_ge (a := 0) (by omega) (by omega)), if_pos rfl]
    exact ⟨_, _, _, _, rfl, l2, fun k _ => rfl⟩
  · obtain ⟨A1, a1, a2⟩ := c_out hF (lg := lg) (F' := nI F) hE2 (show 2 * E ≤ 32 by omega) (fun i => if i < 2 * E then hr w (pw g (128 - E + i)) (255 - F) else V i) (ea en w) (ea en s) 10000 0 A (by omega) (by omega)
    rw [nI_0] at a1
    rw [a1]
    unfold f_Mo_check_90
    rw [if_pos rfl]
    obtain ⟨b, A2, s2, c1, c2⟩ := m_sv hE hF (show 2 * E ≤ 32 by omega) A1 s
    rw [c1, q_bd, q_nm, q_nm, q_nm]
    have hker : ∀ y, Ker (2 * E) (mat A1) y ↔ Ker (2 * E) (fun r k => if k < 2 * E then pw g ((128 - E + r) * k) else (fun i => hr w (pw g (128 - E + i)) (255 - F)) r) y := ker_congr (fun r hr i hi => by
      rw [a2 i hi r hr, if_pos (by omega)]
      by_cases h : i < 2 * E
      · rw [if_pos h, if_pos h]
      · rw [if_neg h, if_neg h, if_pos hr])
    rcases c2 with ⟨rfl, c2⟩ | ⟨rfl, y, c2, c3, i, c4, c5⟩
    rotate_left
    · exact absurd (chk_k hg (by omega) ((hker y).1 c2) c3 i c4) c5
    rw [if_neg ne10]
    unfold f_Mo_check_107
    obtain ⟨w', k1, k2⟩ := c_wr (en := en) hF2 (show 2 * E ≤ 32 by omega) (by omega) s2 (ea en (fun i => if i < 2 * E then hr w (pw g (128 - E + i)) (255 - F) else V i)) (ea en A2) 10000 0 w (by omega) (by omega)
    rw [nI_0] at k1
    have hy1 : (fun i => if i < 2 * E then s2 i else (1 : K)) (2 * E) = 1 := if_neg (by omega)
    have hy2 : ∀ c, c < 2 * E → (fun i => if i < 2 * E then s2 i else (1 : K)) c = s2 c := fun c hc => if_pos hc
    have hy3 := (hker _).1 ((c2 _ hy1).2 (fun r hr => hy2 r hr))
    have hcc := chk_c h2 (W := 255 - F) (w := fun k => if k < 255 - F then w k else 0) (by omega) (fun m hm => hr_congr _ (fun k hk => (if_pos hk).symm)) (fun k hk => by
      by_cases h : k < 255 - F
      · exact (if_pos h).trans (hw k hk h)
      · exact if_neg h) hy3 hy1
    refine ⟨_, w', _, _, k1, fun m hm => ?_, fun k hk => ?_⟩
    · rw [hr_congr _ (fun k hk => ?_)]
      · exact hcc m hm
      · rw [k2 k hk]
        by_cases h : k < 255 - F - 2 * E
        · rw [if_neg (by omega), if_pos h, if_pos hk]
        · rw [if_pos ⟨by omega, by omega⟩, if_neg h, if_pos (by omega)]
    · rw [k2 k (by omega), if_neg (by omega)]
theorem ix_inj {D k j k' j' : Nat} (hj : j < D) (hj' : j' < D) (h : D * k + j = D * k' + j') : k = k' ∧ j = j' := by
  have hk : k = k' := by
    rcases Nat.lt_trichotomy k k' with h1 | h1 | h1
    · have : D * (k + 1) ≤ D * k' := Nat.mul_le_mul_left _ h1
      rw [Nat.mul_add] at this
      omega
    · exact h1
    · have : D * (k' + 1) ≤ D * k := Nat.mul_le_mul_left _ h1
      rw [Nat.mul_add] at this
      omega
  subst hk
  exact ⟨rfl, by omega⟩
abbrev LR : Type := Option (AR × AR × AR × AR × AR)
theorem l_in {K : Type} [Lean.Grind.Field K] {en fo : K → Int32} {el fm : AR} {lg pr : AR} (hE : Enc en) (hf : Frm en fo el fm) {D F E a j : Nat} (hF2 : F ≤ 250) (hE2 : E ≤ 16) (hEW : 2 * E < 255 - F) (hj : j < D) (ha : a + D * (255 - F) ≤ 4000) (kh : Int32 → Int32 → AR → AR → AR → AR → AR → LR) (Y : Nat → K) (val sol sys : AR) :
    ∀ fu k (w : Nat → K), k ≤ 255 - F → 255 - F - k < fu → ∃ w', f_Mo_lay_101 (nI D) (nI F) (nI E) pr lg fm el kh fu (nI a) (nI j) (nI k) (ea fo Y) val (ea en w) sol sys = f_Mo_lay_165 (nI D) (nI F) (nI E) pr lg fm kh (nI a) (nI j) (ea fo Y) val (ea en w') sol sys ∧ (∀ i, k ≤ i → i < 255 - F → w' i = if i < 255 - F - 2 * E then Y (a + D * i + j) else 0) ∧ (∀ i, i < k → w' i = w i) := by
  intro fu
  induction fu with
  | zero => intro k w h1 h2; omega
  | succ fu ih =>
    intro k w h1 h2
    show ∃ w', f_Mo_lay_101_b _ _ _ _ _ _ _ _ _ _ _ _ _ _ _ _ _ = _ ∧ _ ∧ _
    unfold f_Mo_lay_101_b
    rw [show f_Mo_wordSize (nI F) = some (nI (255 - F)) by unfold f_Mo_wordSize; rw [show (255 : Int32) = nI 255 from rfl, pk_sub (by omega)], q_bd, q_nm]
    by_cases e : k = 255 - F
    · rw [if_pos (nI_le (by omega) (by omega))]
      exact ⟨w, rfl, fun i h3 h4 => by omega, fun i _ => rfl⟩
    · have hlt := ix_lt (D := D) (W := 255 - F) (k := k) (j := j) (by omega) hj
      rw [if_neg (nI_ge (by omega) (by omega)), q_bd, q_nm, show nI (255 - F) - (2 : Int32) * nI E = nI (255 - F - 2 * E) by rw [show (2 : Int32) * nI E = nI (2 * E) from pk_mul 2 E, pk_sub (by omega)]]
      obtain ⟨w', h3, h4, h5⟩ := ih (k + 1) (ud w k (if k < 255 - F - 2 * E then Y (a + D * k + j) else 0)) (by omega) (by omega)
      have hs : (∀ i, k ≤ i → i < 255 - F → w' i = if i < 255 - F - 2 * E then Y (a + D * i + j) else 0) ∧ (∀ i, i < k → w' i = w i) := by
        refine ⟨fun i h6 h7 => ?_, fun i hi => ?_⟩
        · by_cases e2 : i = k
          · subst e2
            rw [h5 i (by omega), ud_s]
          · exact h4 i (by omega) h7
        · rw [h5 i (by omega), ud_n _ _ (by omega)]
      by_cases e2 : k < 255 - F - 2 * E
      · rw [if_neg (nI_ge (by omega) (by omega)), ix_b, ea_rd (by omega) (by decide), frm_el hf]
        unfold f_Mo_lay_158
        rw [ea_wr (by omega) (by decide), q_nm, nI_1]
        rw [if_pos e2] at h3
        exact ⟨w', h3, hs⟩
      · rw [if_pos (nI_le (by omega) (by omega))]
        unfold f_Mo_lay_158
        rw [← hE.1, ea_wr (by omega) (by decide), q_nm, nI_1]
        rw [if_neg e2] at h3
        exact ⟨w', h3, hs⟩
theorem l_put {K : Type} {en fo : K → Int32} {el fm : AR} (hf : Frm en fo el fm) {D F a j : Nat} (hF2 : F ≤ 250) (hj : j < D) (ha : a + D * (255 - F) ≤ 4000) (kh : Int32 → Int32 → AR → AR → AR → AR → AR → LR) (w : Nat → K) (val sol sys : AR) :
    ∀ fu k (Y : Nat → K), k ≤ 255 - F → 255 - F - k < fu → ∃ Y', f_Mo_lay_182 (nI D) (nI F) fm kh fu (nI a) (nI j) (nI k) (ea fo Y) val (ea en w) sol sys = f_Mo_lay_226 kh (nI a) (nI j) (ea fo Y') val (ea en w) sol sys ∧ (∀ i, k ≤ i → i < 255 - F → Y' (a + D * i + j) = w i) ∧ (∀ q, (∀ i, k ≤ i → i < 255 - F → q ≠ a + D * i + j) → Y' q = Y q) := by
  intro fu
  induction fu with
  | zero => intro k Y h1 h2; omega
  | succ fu ih =>
    intro k Y h1 h2
    show ∃ Y', f_Mo_lay_182_b _ _ _ _ _ _ _ _ _ _ _ _ _ = _ ∧ _ ∧ _
    unfold f_Mo_lay_182_b
    rw [show f_Mo_wordSize (nI F) = some (nI (255 - F)) by unfold f_Mo_wordSize; rw [show (255 : Int32) = nI 255 from rfl, pk_sub (by omega)], q_bd, q_nm]
    by_cases e : k = 255 - F
    · rw [if_pos (nI_le (by omega) (by omega))]
      exact ⟨Y, rfl, fun i h3 h4 => by omega, fun q _ => rfl⟩
    · have hlt := ix_lt (D := D) (W := 255 - F) (k := k) (j := j) (by omega) hj
      rw [if_neg (nI_ge (by omega) (by omega)), ea_rd (by omega) (by decide), frm_fm hf, ix_b, ea_wr (by omega) (by decide), q_nm, nI_1]
      obtain ⟨Y', h3, h4, h5⟩ := ih (k + 1) (ud Y (a + D * k + j) (w k)) (by omega) (by omega)
      have hne : ∀ i, k + 1 ≤ i → i < 255 - F → a + D * k + j ≠ a + D * i + j := by
        intro i h6 h7
        have : D * (k + 1) ≤ D * i := Nat.mul_le_mul_left _ h6
        rw [Nat.mul_add] at this
        omega
      refine ⟨Y', h3, fun i h6 h7 => ?_, fun q hq => ?_⟩
      · by_cases e2 : i = k
        · subst e2
          rw [h5 _ hne, ud_s]
        · exact h4 i (by omega) h7
      · rw [h5 q (fun i h6 h7 => hq i (by omega) h7), ud_n _ _ (hq k (by omega) (by omega))]
/-- one word of a block has got its check bytes -/
def Laid {K : Type} [Lean.Grind.Field K] (g : K) (W E a D j : Nat) (Y Y' : Nat → K) : Prop := Code g W E (128 - E) (fun k => Y' (a + D * k + j)) ∧ (∀ q, (∀ k, W - 2 * E ≤ k → k < W → q ≠ a + D * k + j) → Y' q = Y q)
/-- the words before one have theirs, and the rest stands -/
def LaidTo {K : Type} [Lean.Grind.Field K] (g : K) (W E a D j : Nat) (Y Y' : Nat → K) : Prop := (∀ i, i < j → Code g W E (128 - E) (fun k => Y' (a + D * k + i))) ∧ (∀ q, (∀ i k, i < j → W - 2 * E ≤ k → k < W → q ≠ a + D * k + i) → Y' q = Y q)
theorem laid_step {K : Type} [Lean.Grind.Field K] {g : K} {W E a D j : Nat} {Y Y1 Y2 : Nat → K} (hj : j < D) (h1 : LaidTo g W E a D j Y Y1) (h2 : Laid g W E a D j Y1 Y2) : LaidTo g W E a D (j + 1) Y Y2 := by
  refine ⟨fun i hi => ?_, fun q hq => ?_⟩
  · by_cases e : i = j
    · rw [e]; exact h2.1
    · have h3 := h1.1 i (by omega)
      intro m hm
      rw [hr_congr _ (fun k hk => ?_)]
      · exact h3 m hm
      · exact h2.2 _ (fun k' _ _ h => e (ix_inj (D := D) (k := k) (k' := k') (by omega) hj (by omega)).2)
  · rw [h2.2 q (fun k k1 k2 => hq j k (by omega) k1 k2), h1.2 q (fun i k hi k1 k2 => hq i k (by omega) k1 k2)]
theorem laid_one {K : Type} [Lean.Grind.Field K] {g : K} (hg : Gen g) {W E a a' D : Nat} (hW : W ≤ 255) (hEW : 2 * E ≤ W) {Y Y' Z Z' : Nat → K} (h1 : LaidTo g W E a D D Y Y') (h2 : LaidTo g W E a' D D Z Z') (h : ∀ i, i < D * (W - 2 * E) → Y (a + i) = Z (a' + i)) : ∀ i, i < D * W → Y' (a + i) = Z' (a' + i) := by
  have hlow : ∀ (b : Nat) (X X' : Nat → K), LaidTo g W E b D D X X' → ∀ i, i < D * (W - 2 * E) → X' (b + i) = X (b + i) := by
    intro b X X' hX i hi
    refine hX.2 _ (fun i' k hi' k1 k2 h => ?_)
    have : D * (W - 2 * E) ≤ D * k := Nat.mul_le_mul_left _ k1
    omega
  intro i hi
  have hD : 0 < D := by
    rcases Nat.eq_zero_or_pos D with h | h
    · rw [h] at hi; omega
    · exact h
  have h0 : D * (i / D) + i % D = i := Nat.div_add_mod i D
  have hm : i % D < D := Nat.mod_lt _ hD
  have hk : i / D < W := by
    refine Classical.byContradiction fun hc => ?_
    have : D * W ≤ D * (i / D) := Nat.mul_le_mul_left _ (by omega)
    omega
  have := chk_one hg hW hEW (h1.1 _ hm) (h2.1 _ hm) (fun k hk2 => ?_) (i / D) hk
  · simp only [Nat.add_assoc, h0] at this
    exact this
  · have hlt : D * k + i % D < D * (W - 2 * E) := ix_lt hk2 hm
    show Y' (a + D * k + i % D) = Z' (a' + D * k + i % D)
    rw [Nat.add_assoc, Nat.add_assoc, hlow a Y Y' h1 _ hlt, hlow a' Z Z' h2 _ hlt]
    exact h _ hlt
theorem m_lay {K : Type} [Lean.Grind.Field K] {en fo : K → Int32} {g : K} {lg pr el fm : AR} (hg : Gen g) (hE : Enc en) (hF : FldM en g lg pr) (hf : Frm en fo el fm) {D F E a : Nat} (hF2 : F ≤ 250) (hE1 : 1 ≤ E) (hE2 : E ≤ 16) (hEW : 2 * E < 255 - F) (hD : D ≤ 8) (ha : a + D * (255 - F) ≤ 4000) (Y0 : Nat → K) :
    ∀ fu j (Y V w s A : Nat → K), j ≤ D → D - j < fu → LaidTo g (255 - F) E a D j Y0 Y → ∃ Y' V' w' s' A', f_Mo_lay_89 (nI D) (nI F) (nI E) pr lg fm el fu (nI a) (nI j) (ea fo Y) (ea en V) (ea en w) (ea en s) (ea en A) = some (ea fo Y', ea en V', ea en w', ea en s', ea en A') ∧ LaidTo g (255 - F) E a D D Y0 Y' := by
  intro fu
  induction fu with
  | zero => intro j Y V w s A h1 h2; omega
  | succ fu ih =>
    intro j Y V w s A h1 h2 h3
    show ∃ Y' V' w' s' A', f_Mo_lay_89_b _ _ _ _ _ _ _ _ _ _ _ _ _ _ _ = _ ∧ _
    unfold f_Mo_lay_89_b
    by_cases e : j = D
    · rw [if_pos (nI_le (by omega) (by omega))]
      subst e
      exact ⟨_, _, _, _, _, rfl, h3⟩
    · rw [if_neg (nI_ge (by omega) (by omega))]
      obtain ⟨w1, k1, k2, _⟩ := l_in (lg := lg) (pr := pr) hE hf hF2 hE2 hEW (j := j) (by omega) ha (f_Mo_lay_89 (nI D) (nI F) (nI E) pr lg fm el fu) Y (ea en V) (ea en s) (ea en A) 10000 0 w (by omega) (by omega)
      rw [nI_0] at k1
      rw [k1]
      unfold f_Mo_lay_165
      obtain ⟨V', w', s', A', l1, l2, l3⟩ := m_ck hg hE hF hF2 hE1 hE2 hEW w1 V s A (fun k hk1 hk2 => by rw [k2 k (by omega) hk2, if_neg (by omega)])
      rw [l1, q_bd, q_nm, q_nm, q_nm, q_nm, show f_Mo_wordSize (nI F) = some (nI (255 - F)) by unfold f_Mo_wordSize; rw [show (255 : Int32) = nI 255 from rfl, pk_sub (by omega)], q_bd, q_nm, q_nm, show nI (255 - F) - (2 : Int32) * nI E = nI (255 - F - 2 * E) by rw [show (2 : Int32) * nI E = nI (2 * E) from pk_mul 2 E, pk_sub (by omega)]]
      obtain ⟨Y', m1, m2, m3⟩ := l_put (en := en) hf hF2 (j := j) (by omega) ha (f_Mo_lay_89 (nI D) (nI F) (nI E) pr lg fm el fu) w' (ea en V') (ea en s') (ea en A') 10000 (255 - F - 2 * E) Y (by omega) (by omega)
      rw [m1]
      unfold f_Mo_lay_226
      rw [q_nm, nI_1]
      refine ih (j + 1) Y' V' w' s' A' (by omega) (by omega) (laid_step (by omega) h3 ⟨fun m hm => ?_, fun q hq => m3 q hq⟩)
      rw [hr_congr _ (fun k hk => ?_)]
      · exact l2 m hm
      · by_cases h : k < 255 - F - 2 * E
        · rw [l3 k h, k2 k (by omega) hk, if_pos h]
          exact m3 _ (fun i i1 i2 h5 => by have := (ix_inj (D := D) (k := k) (k' := i) (j := j) (j' := j) (by omega) (by omega) (by omega)).1; omega)
        · exact m2 k (by omega) hk
end
