/-! PURE PART: the reference's mends and mend -/
section
set_option maxHeartbeats 1000000 in
/-- words with n wrong bytes, by the equations of the values -/
theorem m_md {K : Type} [Lean.Grind.Field K] {en : K → Int32} {g : K} {lg pr : AR} (hg : Gen g) (hE : Enc en) (hF : FldM en g lg pr) {F E n : Nat} (hF2 : F ≤ 250) (hE2 : E ≤ 16) (hn1 : 1 ≤ n) (hn : n ≤ E) (w V : Nat → K) (hV : ∀ i, i < 2 * E → V i = hr w (pw g (128 - E + i)) (255 - F)) (A s : Nat → K) (Q : Nat → Nat) :
    ∃ b A' s' V' w' Q', f_Mo_mends (nI F) (nI E) (ea en A) (ea en s) lg pr (ea en V) (ea en w) (ea nI Q) (nI n) = some (b, ea en A', ea en s', ea en V', ea en w', ea nI Q') ∧ ((b = 1 ∧ ∃ d, d ≤ n ∧ Near g (255 - F) E (128 - E) w w' d) ∨ (b = 0 ∧ ∀ c, ¬ Near g (255 - F) E (128 - E) w c n)) := by
  have h2 : ∀ x : K, x + x = 0 := hE.2.2.2.2.2.2.1
  unfold f_Mo_mends
  obtain ⟨A1, a1, a2⟩ := h_out (en := en) (lg := lg) (pr := pr) (F' := nI F) (E' := nI E) (show n ≤ 16 by omega) V (ea en s) (ea en w) (ea nI Q) 10000 0 A (by omega) (by omega)
  rw [nI_0] at a1
  rw [a1]
  have hker : ∀ y, Ker n (mat A1) y ↔ Ker n (fun r k => V (r + k)) y := ker_congr (fun r hr i hi => by rw [a2 i hi r hr, if_pos (by omega)])
  unfold f_Mo_mends_45
  obtain ⟨b1, A2, s2, c1, c2⟩ := m_sv hE hF (show n ≤ 32 by omega) A1 s
  rw [c1, q_bd, q_nm, q_nm, q_nm]
  rcases c2 with ⟨rfl, c2⟩ | ⟨rfl, y, c2, c3, i, c4, c5⟩
  rotate_left
  · rw [if_pos rfl, q_zb0]
    refine ⟨_, _, _, _, _, _, rfl, Or.inr ⟨rfl, fun c hN => ?_⟩⟩
    exact c5 (rf_h0 hg (by omega) hV hN ((hker y).1 c2) c3 i c4)
  rw [if_neg (show ¬ (1 : Int32) = 0 by decide)]
  have hy1 : (fun i => if i < n then s2 i else (1 : K)) n = 1 := if_neg (by omega)
  have hy2 : ∀ c, c < n → (fun i => if i < n then s2 i else (1 : K)) c = s2 c := fun c hc => if_pos hc
  have hy3 : Ker n (fun r k => V (r + k)) (fun i => if i < n then s2 i else (1 : K)) := (hker _).1 ((c2 _ hy1).2 (fun r hr => hy2 r hr))
  generalize (fun i => if i < n then s2 i else (1 : K)) = y at hy1 hy2 hy3
  have hroot : ∀ c, Near g (255 - F) E (128 - E) w c n → ∀ p, p < 255 - F → (ev y (n + 1) (pw g p) = 0 ↔ w (255 - F - 1 - p) - c (255 - F - 1 - p) ≠ 0) := by
    intro c hN p hp
    have := rf_h1 hg (by omega) hV hN hy3 hy1 (255 - F - 1 - p) (by omega)
    unfold Xl at this
    rw [show 255 - F - 1 - (255 - F - 1 - p) = p by omega] at this
    exact this
  obtain ⟨Q1, d1⟩ := m_roots hE hF hF2 (nI E) hn1 (show n ≤ 16 by omega) s2 y hy2 hy1 (ea en A2) (ea en V) (ea en w) 10000 0 0 Q (by omega) (by omega) (by omega) ⟨fun i hi => by omega, fun i j hi => by omega, fun k hk => by omega⟩
  rw [nI_0] at d1
  rcases d1 with ⟨d1, R, d2, d3⟩ | ⟨f, hf, d1, d2⟩
  · rw [d1]
    refine ⟨_, _, _, _, _, _, rfl, Or.inr ⟨rfl, fun c hN => ?_⟩⟩
    obtain ⟨_, _, P, p1, p2, p3, p4⟩ := hN
    have := pigeon n (n + 1) (fun i => 255 - F - 1 - R i) P (fun i j hi hj hne => by
      have := d3 i j hi hj hne
      have := (d2 i hi).1
      have := (d2 j hj).1
      show 255 - F - 1 - R i ≠ 255 - F - 1 - R j
      omega) (fun i hi => p4 _ (by omega) ((hroot c ⟨‹_›, ‹_›, P, p1, p2, p3, p4⟩ (R i) (d2 i hi).1).1 (d2 i hi).2))
    omega
  · rw [d1]
    unfold f_Mo_mends_139
    by_cases hfn : f = n
    rotate_left
    · rw [if_neg (nI_ge (by omega) (by omega)), q_zb0]
      refine ⟨_, _, _, _, _, _, rfl, Or.inr ⟨rfl, fun c hN => ?_⟩⟩
      have hN0 := hN
      obtain ⟨_, _, P, p1, p2, p3, p4⟩ := hN
      have := pigeon f n (fun i => 255 - F - 1 - P i) Q1 (fun i j hi hj hne => by
        have := p2 i j hi hj hne
        have := p1 i hi
        have := p1 j hj
        show 255 - F - 1 - P i ≠ 255 - F - 1 - P j
        omega) (fun i hi => by
        have hp := p1 i hi
        refine d2.2.2 _ (by omega) ((hroot c hN0 _ (by omega)).2 ?_)
        rw [show 255 - F - 1 - (255 - F - 1 - P i) = P i by omega]
        exact p3 i hi)
      omega
    subst hfn
    rw [if_pos (nI_le (by omega) (by omega))]
    have hQ1 : ∀ i, i < f → Q1 i < 255 - F := fun i hi => (d2.1 i hi).1
    obtain ⟨A3, e1, e2⟩ := v_out hF (lg := lg) (F' := nI F) (E' := nI E) (show f ≤ 16 by omega) Q1 (fun i hi => by have := hQ1 i hi; omega) V (ea en s2) (ea en w) 10000 0 A2 (by omega) (by omega)
    rw [nI_0] at e1
    rw [e1]
    unfold f_Mo_mends_216
    obtain ⟨b3, A4, s4, g1, g2⟩ := m_sv hE hF (show f ≤ 32 by omega) A3 s2
    rw [g1, q_bd, q_nm, q_nm, q_nm]
    have hXl : ∀ i, i < f → Xl g (255 - F) (255 - F - 1 - Q1 i) = pw g (Q1 i) := by
      intro i hi
      have := hQ1 i hi
      unfold Xl
      rw [show 255 - F - 1 - (255 - F - 1 - Q1 i) = Q1 i by omega]
    have hker2 : ∀ y, Ker f (mat A3) y ↔ Ker f (fun r k => if k < f then pw (Xl g (255 - F) ((fun i => 255 - F - 1 - Q1 i) k)) r else V r) y := ker_congr (fun r hr i hi => by
      rw [e2 i hi r hr, if_pos (by omega)]
      by_cases h : i < f
      · rw [if_pos h, if_pos h, hXl i h, pw_mul]
      · rw [if_neg h, if_neg h])
    have hq2 : ∀ i j, i < f → j < f → i ≠ j → (fun i => 255 - F - 1 - Q1 i) i ≠ (fun i => 255 - F - 1 - Q1 i) j := by
      intro i j hi hj hne
      have := d2.2.1 i j hi hj hne
      have := hQ1 i hi
      have := hQ1 j hj
      show 255 - F - 1 - Q1 i ≠ 255 - F - 1 - Q1 j
      omega
    have hsup : ∀ c, Near g (255 - F) E (128 - E) w c f → Supp (fun k => w k - c k) (255 - F) f (fun i => 255 - F - 1 - Q1 i) := by
      intro c hN
      have hN0 := hN
      obtain ⟨_, _, P, p1, p2, p3, p4⟩ := hN
      refine ⟨fun i hi => by have := hQ1 i hi; show 255 - F - 1 - Q1 i < 255 - F; omega, hq2, fun i hi => (hroot c hN0 _ (hQ1 i hi)).1 (d2.1 i hi).2, fun k hk hne => ?_⟩
      obtain ⟨i, hi, hq⟩ := d2.2.2 (255 - F - 1 - k) (by omega) ((hroot c hN0 _ (by omega)).2 (by rw [show 255 - F - 1 - (255 - F - 1 - k) = k by omega]; exact hne))
      exact ⟨i, hi, by show 255 - F - 1 - Q1 i = k; omega⟩
    rcases g2 with ⟨rfl, g2⟩ | ⟨rfl, y3, g2, g3, i, g4, g5⟩
    rotate_left
    · rw [if_pos rfl, q_zb0]
      refine ⟨_, _, _, _, _, _, rfl, Or.inr ⟨rfl, fun c hN => ?_⟩⟩
      have := rf_v h2 hg (by omega) hV hN.1 hN.2.1 (hsup c hN) ((hker2 y3).1 g2) i g4
      rw [g3] at this
      exact g5 (by rw [this]; grind)
    rw [if_neg (show ¬ (1 : Int32) = 0 by decide)]
    obtain ⟨w1, k1, k2, k3⟩ := m_fix hg.1 hE hF hF2 hE2 (show f ≤ 16 by omega) Q1 hQ1 d2.2.1 s4 (ea en A4) (ea en V) 10000 0 w (by omega) (by omega)
    rw [nI_0] at k1
    rw [k1]
    unfold f_Mo_mends_302
    obtain ⟨fl, l1, l2⟩ := m_ic hE hF hF2 hE2 w1 V
    rw [l1, q_bd, q_nm, q_nm]
    rcases l2 with ⟨rfl, l2⟩ | ⟨rfl, l2⟩
    · rw [q_zb1]
      refine ⟨_, _, _, _, _, _, rfl, Or.inl ⟨rfl, ?_⟩⟩
      refine near_of (Q := fun i => 255 - F - 1 - Q1 i) hn l2 (fun k hk hne => ?_)
      refine Classical.byContradiction fun hno => hne ?_
      rw [k3 k (fun i hi h => hno ⟨i, hi, h⟩)]
      grind
    · rw [q_zb0]
      refine ⟨_, _, _, _, _, _, rfl, Or.inr ⟨rfl, fun c hN => l2 ?_⟩⟩
      have hy1' : (fun i => if i < f then s4 i else (1 : K)) f = 1 := if_neg (by omega)
      have hy2' : ∀ c, c < f → (fun i => if i < f then s4 i else (1 : K)) c = s4 c := fun c hc => if_pos hc
      have hy3' := (hker2 _).1 ((g2 _ hy1').2 (fun r hr => hy2' r hr))
      generalize (fun i => if i < f then s4 i else (1 : K)) = y4 at hy1' hy2' hy3'
      have hv := rf_v h2 hg (by omega) hV hN.1 hN.2.1 (hsup c hN) hy3'
      rw [hy1'] at hv
      have hwc : ∀ k, k < 255 - F → w1 k = c k := by
        intro k hk
        by_cases hz : w k - c k = 0
        · by_cases hex : ∃ i, i < f ∧ 255 - F - 1 - Q1 i = k
          · obtain ⟨i, hi, hq⟩ := hex
            exact absurd hz (by rw [← hq]; exact (hsup c hN).2.2.1 i hi)
          · rw [k3 k (fun i hi h => hex ⟨i, hi, h⟩)]
            grind
        · obtain ⟨i, hi, hq⟩ := (hsup c hN).2.2.2 k hk hz
          have hq : 255 - F - 1 - Q1 i = k := hq
          have h3 := hv i hi
          rw [hy2' i hi, hXl i hi, ← pw_mul] at h3
          have h4 := k2 i hi
          rw [if_pos (by omega), h3] at h4
          have hnz : pw g (Q1 i * (128 - E)) ≠ 0 := pw_nz hg.1 _
          have h5 : pw g (Q1 i * (128 - E)) * (pw g (Q1 i * (128 - E)))⁻¹ = 1 := Lean.Grind.Field.mul_inv_cancel hnz
          rw [hq] at h4
          have h6 := h2 (w k)
          have h7 := h2 (c k)
          rw [h4]
          generalize pw g (Q1 i * (128 - E)) = u at h5
          generalize u⁻¹ = v at h5
          grind
      intro m hm
      rw [hr_congr _ hwc]
      exact hN.1 m hm
theorem near_congr {K : Type} [Lean.Grind.Field K] {g : K} {W E b : Nat} {w w' c : Nat → K} {d : Nat} (h : ∀ k, k < W → w k = w' k) (hN : Near g W E b w c d) : Near g W E b w' c d := by
  obtain ⟨h1, h2, P, p1, p2, p3, p4⟩ := hN
  refine ⟨h1, h2, P, p1, p2, fun i hi => ?_, fun k hk hne => p4 k hk ?_⟩
  · show w' (P i) - c (P i) ≠ 0
    rw [← h _ (p1 i hi)]
    exact p3 i hi
  · show w k - c k ≠ 0
    rw [h k hk]
    exact hne
theorem near_self {K : Type} [Lean.Grind.Field K] {g : K} {W E b : Nat} {w : Nat → K} (h : Code g W E b w) : Near g W E b w w 0 :=
  ⟨h, by omega, fun _ => 0, fun i hi => by omega, fun i j hi => by omega, fun i hi => by omega, fun k hk hne => absurd (show w k - w k = 0 by grind) hne⟩
theorem near_code {K : Type} [Lean.Grind.Field K] {g : K} {W E b : Nat} {w c : Nat → K} (h : Near g W E b w c 0) : Code g W E b w := by
  obtain ⟨h1, _, P, p1, p2, p3, p4⟩ := h
  intro m hm
  rw [hr_congr (c := c) _ (fun k hk => ?_)]
  · exact h1 m hm
  · refine Classical.byContradiction fun hne => ?_
    obtain ⟨i, hi, _⟩ := p4 k hk (by show w k - c k ≠ 0; intro h; exact hne (by grind))
    omega
/-- the other form of each byte, and back -/
def Frm {K : Type} (en fo : K → Int32) (el fm : AR) : Prop := (∀ a, ∃ n, n < 256 ∧ fo a = nI n ∧ el n = en a) ∧ (∀ a, ∃ n, n < 256 ∧ en a = nI n ∧ fm n = fo a)
theorem frm_el {K : Type} {β : Type} {en fo : K → Int32} {el fm : AR} (h : Frm en fo el fm) (a : K) {k : Int32 → Option β} : rdI el 256 (fo a) k = k (en a) := by
  obtain ⟨n, h1, h2, h3⟩ := h.1 a
  rw [h2, q_rdI h1 (by decide), h3]
theorem frm_fm {K : Type} {β : Type} {en fo : K → Int32} {el fm : AR} (h : Frm en fo el fm) (a : K) {k : Int32 → Option β} : rdI fm 256 (en a) k = k (fo a) := by
  obtain ⟨n, h1, h2, h3⟩ := h.2 a
  rw [h2, q_rdI h1 (by decide), h3]
theorem ix_b (a D k j : Nat) : (nI a + nI D * nI k) + nI j = nI (a + D * k + j) := by rw [pk_mul, nI_add, nI_add]
theorem ix_lt {D W k j : Nat} (hk : k < W) (hj : j < D) : D * k + j < D * W := by
  have h1 : D * (k + 1) ≤ D * W := Nat.mul_le_mul_left _ hk
  rw [Nat.mul_add] at h1
  omega
theorem m_tw {K : Type} {en fo : K → Int32} {el fm : AR} (hf : Frm en fo el fm) {D F a j : Nat} (hF2 : F ≤ 250) (hj : j < D) (ha : a + D * (255 - F) ≤ 4000) (Y : Nat → K) :
    ∀ fu k (w : Nat → K), k ≤ 255 - F → 255 - F - k < fu → ∃ w', f_Mo_takeWord_2 (nI D) (nI F) (ea fo Y) el fu (nI a) (nI j) (nI k) (ea en w) = some (ea en w') ∧ (∀ i, k ≤ i → i < 255 - F → w' i = Y (a + D * i + j)) ∧ (∀ i, i < k → w' i = w i) := by
  intro fu
  induction fu with
  | zero => intro k w h1 h2; omega
  | succ fu ih =>
    intro k w h1 h2
    show ∃ w', f_Mo_takeWord_2_b _ _ _ _ _ _ _ _ _ = _ ∧ _ ∧ _
    unfold f_Mo_takeWord_2_b
    rw [show f_Mo_wordSize (nI F) = some (nI (255 - F)) by unfold f_Mo_wordSize; rw [show (255 : Int32) = nI 255 from rfl, pk_sub (by omega)], q_bd, q_nm]
    by_cases e : k = 255 - F
    · rw [if_pos (nI_le (by omega) (by omega))]
      exact ⟨w, rfl, fun i h3 h4 => by omega, fun i _ => rfl⟩
    · have hlt := ix_lt (D := D) (W := 255 - F) (k := k) (j := j) (by omega) hj
      rw [if_neg (nI_ge (by omega) (by omega)), ix_b, ea_rd (by omega) (by decide), frm_el hf, ea_wr (by omega) (by decide), q_nm, nI_1]
      obtain ⟨w', h3, h4, h5⟩ := ih (k + 1) (ud w k (Y (a + D * k + j))) (by omega) (by omega)
      refine ⟨w', h3, fun i h6 h7 => ?_, fun i hi => ?_⟩
      · by_cases e2 : i = k
        · subst e2
          rw [h5 i (by omega), ud_s]
        · exact h4 i (by omega) h7
      · rw [h5 i (by omega), ud_n _ _ (by omega)]
/-- what putting a word right comes to -/
def Mended {K : Type} [Lean.Grind.Field K] (g : K) (W E a D j : Nat) (Y Y' : Nat → K) (n : Int32) : Prop :=
  (∃ c d, Near g W E (128 - E) (fun k => Y (a + D * k + j)) c d ∧ n = nI d ∧ (∀ k, k < W → Y' (a + D * k + j) = c k) ∧ (∀ i, (∀ k, k < W → i ≠ a + D * k + j) → Y' i = Y i)) ∨ ((∀ c d, ¬ Near g W E (128 - E) (fun k => Y (a + D * k + j)) c d) ∧ n = -1 ∧ ∀ i, Y' i = Y i)
abbrev MD : Type := Option (Int32 × AR × AR × AR × AR × AR × AR)
theorem m_put {K : Type} {en fo : K → Int32} {el fm : AR} (hf : Frm en fo el fm) {D F a j : Nat} (hF2 : F ≤ 250) (hj : j < D) (ha : a + D * (255 - F) ≤ 4000) (w : Nat → K) (x4 : Int32) (val sys sol wr : AR) :
    ∀ fu k (Y : Nat → K), k ≤ 255 - F → 255 - F - k < fu → ∃ Y', f_Mo_mend_54 (nI D) (nI F) fm fu (nI a) (nI j) 1 x4 (nI k) (ea fo Y) (ea en w) val sys sol wr = some (x4, ea fo Y', ea en w, val, sys, sol, wr) ∧ (∀ i, k ≤ i → i < 255 - F → Y' (a + D * i + j) = w i) ∧ (∀ q, (∀ i, k ≤ i → i < 255 - F → q ≠ a + D * i + j) → Y' q = Y q) := by
  intro fu
  induction fu with
  | zero => intro k Y h1 h2; omega
  | succ fu ih =>
    intro k Y h1 h2
    show ∃ Y', f_Mo_mend_54_b _ _ _ _ _ _ _ _ _ _ _ _ _ _ _ = _ ∧ _ ∧ _
    unfold f_Mo_mend_54_b
    rw [show f_Mo_wordSize (nI F) = some (nI (255 - F)) by unfold f_Mo_wordSize; rw [show (255 : Int32) = nI 255 from rfl, pk_sub (by omega)], q_bd, q_nm]
    by_cases e : k = 255 - F
    · rw [if_pos (nI_le (by omega) (by omega))]
      unfold f_Mo_mend_101
      rw [if_neg (by decide)]
      exact ⟨Y, rfl, fun i h3 h4 => by omega, fun q _ => rfl⟩
    · have hlt := ix_lt (D := D) (W := 255 - F) (k := k) (j := j) (by omega) hj
      rw [if_neg (nI_ge (by omega) (by omega)), if_neg (by decide), ea_rd (by omega) (by decide), frm_fm hf, ix_b, ea_wr (by omega) (by decide), q_nm, nI_1]
      obtain ⟨Y', h3, h4, h5⟩ := ih (k + 1) (ud Y (a + D * k + j) (w k)) (by omega) (by omega)
      have hne : ∀ i, k + 1 ≤ i → i < 255 - F → a + D * k + j ≠ a + D * i + j := by
        intro i h6 h7
        have : D * (k + 1) ≤ D * i := Nat.mul_le_mul_left _ h6
        rw [Nat.mul_add] at this
        omega
      refine ⟨Y', h3, fun i h6 h7 => ?_, fun q hq => ?_⟩
      · by_cases e2 : i = k
        · subst e2
          rw [h5 _ hne, ud_s]
        · exact h4 i (by omega) h7
      · rw [h5 q (fun i h6 h7 => hq i (by omega) h7), ud_n _ _ (hq k (by omega) (by omega))]
theorem m_ml {K : Type} [Lean.Grind.Field K] {en fo : K → Int32} {g : K} {lg pr el fm : AR} (hg : Gen g) (hE : Enc en) (hF : FldM en g lg pr) (hf : Frm en fo el fm) {D F E a j : Nat} (hF2 : F ≤ 250) (hE2 : E ≤ 16) (hj : j < D) (ha : a + D * (255 - F) ≤ 4000) (Y : Nat → K) :
    ∀ fu n b (w V A s : Nat → K) (Q : Nat → Nat), n ≤ E → E - n < fu → ((b = 1 ∧ Near g (255 - F) E (128 - E) (fun k => Y (a + D * k + j)) w n) ∨ (b = 0 ∧ ∀ m, m ≤ n → ∀ c, ¬ Near g (255 - F) E (128 - E) (fun k => Y (a + D * k + j)) c m)) →
    ∃ r Y' w' V' A' s' Q', f_Mo_mend_14 (nI D) (nI F) (nI E) el pr lg fm fu (nI a) (nI j) b (nI n) (ea fo Y) (ea en w) (ea en V) (ea en A) (ea en s) (ea nI Q) = some (r, ea fo Y', ea en w', ea en V', ea en A', ea en s', ea nI Q') ∧ Mended g (255 - F) E a D j Y Y' r := by
  intro fu
  induction fu with
  | zero => intro n b w V A s Q h1 h2; omega
  | succ fu ih =>
    intro n b w V A s Q h1 h2 h3
    show ∃ r Y' w' V' A' s' Q', f_Mo_mend_14_b _ _ _ _ _ _ _ _ _ _ _ _ _ _ _ _ _ _ = _ ∧ _
    unfold f_Mo_mend_14_b
    rcases h3 with ⟨rfl, h3⟩ | ⟨rfl, h3⟩
    · rw [if_neg (by decide)]
      unfold f_Mo_mend_51
      obtain ⟨Y', k1, k2, k3⟩ := m_put (en := en) hf hF2 hj ha w (nI n) (ea en V) (ea en A) (ea en s) (ea nI Q) 10000 0 Y (by omega) (by omega)
      rw [nI_0] at k1
      exact ⟨_, _, _, _, _, _, _, k1, Or.inl ⟨w, n, h3, rfl, fun k hk => k2 k (by omega) hk, fun i hi => k3 i (fun q _ hq => hi q hq)⟩⟩
    · rw [if_pos rfl]
      by_cases e : n = E
      · rw [if_pos (nI_le (by omega) (by omega))]
        unfold f_Mo_mend_51
        show ∃ r Y' w' V' A' s' Q', f_Mo_mend_54_b _ _ _ _ _ _ _ _ _ _ _ _ _ _ _ = _ ∧ _
        unfold f_Mo_mend_54_b
        rw [show f_Mo_wordSize (nI F) = some (nI (255 - F)) by unfold f_Mo_wordSize; rw [show (255 : Int32) = nI 255 from rfl, pk_sub (by omega)], q_bd, q_nm, if_neg (show ¬ nI (255 - F) ≤ (0 : Int32) from nI_ge (a := 0) (by omega) (by omega)), if_pos rfl]
        unfold f_Mo_mend_101
        rw [if_pos rfl]
        exact ⟨_, _, _, _, _, _, _, rfl, Or.inr ⟨fun c d hN => h3 d (by have := hN.2.1; omega) c hN, rfl, fun i => rfl⟩⟩
      · have en1 : n + 1 ≤ E := by omega
        have en2 : E - (n + 1) < fu := by omega
        rw [if_neg (nI_ge (by omega) (by omega)), q_nm]
        unfold f_Mo_takeWord
        obtain ⟨w1, k1, k2, _⟩ := m_tw (en := en) hf hF2 hj ha Y 10000 0 w (by omega) (by omega)
        rw [nI_0] at k1
        rw [k1, q_bd, q_nm]
        obtain ⟨fl, l1, l2⟩ := m_ic hE hF hF2 hE2 w1 V
        rw [l1, q_bd, q_nm, q_nm, nI_1]
        obtain ⟨b', A', s', V', w', Q', m1, m2⟩ := m_md hg hE hF hF2 hE2 (n := n + 1) (by omega) (by omega) w1 _ (fun i hi => if_pos hi) A s Q
        rw [m1, q_bd, q_nm, q_nm, q_nm, q_nm, q_nm, q_nm]
        have hcg : ∀ k, k < 255 - F → w1 k = Y (a + D * k + j) := fun k hk => k2 k (by omega) hk
        refine ih (n + 1) b' w' V' A' s' Q' en1 en2 ?_
        rcases m2 with ⟨rfl, d, hd, hN⟩ | ⟨rfl, hN⟩
        · refine Or.inl ⟨rfl, ?_⟩
          have hN2 := near_congr hcg hN
          by_cases e3 : d = n + 1
          · rw [← e3]; exact hN2
          · exact absurd hN2 (h3 d (by omega) w')
        · refine Or.inr ⟨rfl, fun m hm c hN2 => ?_⟩
          by_cases e3 : m = n + 1
          · subst e3
            exact hN c (near_congr (fun k hk => (hcg k hk).symm) hN2)
          · exact h3 m (by omega) c hN2
/-- the reference puts a word right: the codeword that is near, or none -/
theorem m_mend {K : Type} [Lean.Grind.Field K] {en fo : K → Int32} {g : K} {lg pr el fm : AR} (hg : Gen g) (hE : Enc en) (hF : FldM en g lg pr) (hf : Frm en fo el fm) {D F E a j : Nat} (hF2 : F ≤ 250) (hE2 : E ≤ 16) (hj : j < D) (ha : a + D * (255 - F) ≤ 4000) (Y w V A s : Nat → K) (Q : Nat → Nat) :
    ∃ r Y' w' V' A' s' Q', f_Mo_mend (nI D) (nI F) (nI E) (ea fo Y) el (ea en w) pr (ea en V) lg fm (ea en A) (ea en s) (ea nI Q) (nI a) (nI j) = some (r, ea fo Y', ea en w', ea en V', ea en A', ea en s', ea nI Q') ∧ Mended g (255 - F) E a D j Y Y' r := by
  unfold f_Mo_mend f_Mo_takeWord
  obtain ⟨w1, k1, k2, _⟩ := m_tw (en := en) hf hF2 hj ha Y 10000 0 w (by omega) (by omega)
  rw [nI_0] at k1
  rw [k1, q_bd, q_nm]
  obtain ⟨fl, l1, l2⟩ := m_ic hE hF hF2 hE2 w1 V
  rw [l1, q_bd, q_nm, q_nm]
  have hcg : ∀ k, k < 255 - F → w1 k = Y (a + D * k + j) := fun k hk => k2 k (by omega) hk
  refine m_ml hg hE hF hf hF2 hE2 hj ha Y 10000 0 fl w1 _ A s Q (by omega) (by omega) ?_
  rcases l2 with ⟨rfl, l2⟩ | ⟨rfl, l2⟩
  · exact Or.inl ⟨rfl, near_congr hcg (near_self l2)⟩
  · refine Or.inr ⟨rfl, fun m hm c hN => l2 ?_⟩
    rw [show m = 0 by omega] at hN
    exact near_code (near_congr (fun k hk => (hcg k hk).symm) hN)
end
