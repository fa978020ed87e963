/-! PURE PART: the case form -/
section
theorem e58 (x0 x1 x2 x3 x4 x5 t0 : Int32) (h : x4 = 0 ∨ x5 = 0 ∨ t0 = 0) : f_Shape_exists_58 x0 x1 x2 x3 x4 x5 t0 = some 0 := by
  unfold f_Shape_exists_58
  by_cases c1 : x4 = 0
  · rw [if_pos c1, q_zb0]
  · rw [if_neg c1]
    by_cases c2 : x5 = 0
    · rw [if_pos c2, q_zb0]
    · rw [if_neg c2, if_pos ((h.resolve_left c1).resolve_left c2), q_zb0]
theorem e39 (x0 x1 x2 x3 x4 t0 : Int32) (h : x4 = 0 ∨ t0 = 0) : f_Shape_exists_39 x0 x1 x2 x3 x4 t0 = some 0 := by
  unfold f_Shape_exists_39 f_Shape_exists_53
  have h' : ∀ t, x4 = 0 ∨ t0 = 0 ∨ t = (0 : Int32) := fun t => h.elim Or.inl (fun h => Or.inr (Or.inl h))
  by_cases c1 : x2 = 8
  · rw [if_pos c1]; exact e58 _ _ _ _ _ _ _ (h' _)
  · rw [if_neg c1]
    by_cases c2 : x2 = 16
    · rw [if_pos c2]; exact e58 _ _ _ _ _ _ _ (h' _)
    · rw [if_neg c2]; exact e58 _ _ _ _ _ _ _ (h' _)
theorem e21 (x0 x1 x2 x3 : Int32) : f_Shape_exists_21 x0 x1 x2 x3 0 = some 0 := by
  unfold f_Shape_exists_21 f_Shape_exists_38
  by_cases c1 : x1 < 0
  · rw [if_pos c1]; exact e39 _ _ _ _ _ _ (Or.inl rfl)
  · rw [if_neg c1]
    by_cases c2 : 250 < x1
    · rw [if_pos c2]; exact e39 _ _ _ _ _ _ (Or.inl rfl)
    · rw [if_neg c2]; exact e39 _ _ _ _ _ _ (Or.inl rfl)
theorem n52 (x0 x1 x2 : Int32) : f_Mo_noForm_52 x0 x1 x2 = some 1 := by
  unfold f_Mo_noForm_52 f_Mo_noForm_53 f_Mo_noForm_100
  rw [if_pos rfl, q_zb1]
def FmR (x0 x1 x2 x3 : Int32) : Prop := (∃ D F E P, FormOK D F E P ∧ x0 = nI D ∧ x1 = nI F ∧ x2 = nI E ∧ x3 = nI P ∧ f_Shape_exists x0 x1 x2 x3 = some 1 ∧ f_Mo_noForm x0 x1 x2 x3 = some 0) ∨ (f_Shape_exists x0 x1 x2 x3 = some 0 ∧ f_Mo_noForm x0 x1 x2 x3 = some 1)
theorem fm_mid {D F E : Nat} {x3 : Int32} (hD : (1 ≤ D ∧ D ≤ 5) ∨ D = 8) (hF : F ≤ 250) (hE : E = 8 ∨ E = 16) : (∃ P, FormOK D F E P ∧ x3 = nI P ∧ f_Shape_exists_58 (nI D) (nI F) (nI E) x3 1 1 1 = some 1 ∧ f_Mo_noForm_39 (nI D) (nI F) (nI E) x3 = some 0) ∨ (f_Shape_exists_58 (nI D) (nI F) (nI E) x3 1 1 1 = some 0 ∧ f_Mo_noForm_39 (nI D) (nI F) (nI E) x3 = some 1) := by
  unfold f_Shape_exists_58 f_Mo_noForm_39
  rw [if_neg ne10, if_neg ne10, if_neg ne10, n52]
  by_cases c1 : x3 < 0
  · rw [if_pos c1, if_pos c1, q_zb0]
    exact Or.inr ⟨rfl, rfl⟩
  · rw [if_neg c1, if_neg c1]
    by_cases c2 : x3 ≤ 4
    rotate_left
    · rw [if_neg c2, if_pos (Int32.not_le.1 c2), q_zb0]
      exact Or.inr ⟨rfl, rfl⟩
    · obtain ⟨P, hP, rfl⟩ := nI_of2 (M := 4) (n := 4) (by decide) c1 c2
      rw [if_pos c2, if_neg (Int32.not_lt.2 c2), q_nm]
      unfold f_Mo_noForm_53 f_Mo_noForm_100
      rw [if_neg ne10, show (255 : Int32) - nI F = nI (255 - F) from pk_sub (a := 255) (by omega), show (2 : Int32) * nI E = nI (2 * E) from pk_mul 2 E]
      by_cases c3 : 255 - F ≤ 2 * E
      · rw [if_pos (nI_le c3 (by omega)), if_pos (nI_le c3 (by omega)), q_zb0, q_zb1]
        exact Or.inr ⟨rfl, rfl⟩
      · have hb1 : D * (255 - F - 2 * E) ≤ 8 * 255 := Nat.mul_le_mul (by omega) (by omega)
        have hb2 : D * (255 - F) ≤ 8 * 255 := Nat.mul_le_mul (by omega) (by omega)
        rw [if_neg (nI_ge (by omega) (by omega)), if_neg (nI_ge (by omega) (by omega)), pk_sub (by omega), pk_mul, pk_mul]
        by_cases c4 : D * (255 - F - 2 * E) < 9
        · rw [if_pos (show nI (D * (255 - F - 2 * E)) ≤ (8 : Int32) from nI_le (b := 8) (by omega) (by decide)), if_pos (show nI (D * (255 - F - 2 * E)) < (9 : Int32) from nI_lt (b := 9) c4 (by decide)), q_zb0, q_zb1]
          exact Or.inr ⟨rfl, rfl⟩
        · rw [if_neg (show ¬ nI (D * (255 - F - 2 * E)) ≤ (8 : Int32) from nI_ge (a := 8) (by omega) (by omega)), if_neg (show ¬ nI (D * (255 - F - 2 * E)) < (9 : Int32) from nI_nlt (b := 9) (by omega) (by omega))]
          by_cases c5 : D * (255 - F) ≤ 250
          · rw [if_neg (show ¬ (250 : Int32) < nI (D * (255 - F)) from nI_nlt (a := 250) c5 (by decide)), if_pos (show nI (D * (255 - F)) ≤ (250 : Int32) from nI_le (b := 250) c5 (by decide)), q_zb1, q_zb0]
            exact Or.inl ⟨P, ⟨hD, hF, hE, hP, by omega, by omega, c5⟩, rfl, rfl, rfl⟩
          · rw [if_pos (show (250 : Int32) < nI (D * (255 - F)) from nI_lt (a := 250) (by omega) (by omega)), if_neg (show ¬ nI (D * (255 - F)) ≤ (250 : Int32) from nI_ge (a := 250) (by omega) (by omega)), q_zb0, q_zb1]
            exact Or.inr ⟨rfl, rfl⟩
theorem fm_16 {D : Nat} {x1 x2 x3 : Int32} (hD : (1 ≤ D ∧ D ≤ 5) ∨ D = 8) : (∃ F E P, FormOK D F E P ∧ x1 = nI F ∧ x2 = nI E ∧ x3 = nI P ∧ f_Shape_exists_16 (nI D) x1 x2 x3 = some 1 ∧ f_Mo_noForm_16 (nI D) x1 x2 x3 = some 0) ∨ (f_Shape_exists_16 (nI D) x1 x2 x3 = some 0 ∧ f_Mo_noForm_16 (nI D) x1 x2 x3 = some 1) := by
  unfold f_Shape_exists_16 f_Shape_exists_21 f_Mo_noForm_16 f_Shape_exists_38
  rw [n52, e39 _ _ _ _ _ _ (Or.inr rfl)]
  by_cases c1 : x1 < 0
  · rw [if_pos c1, if_pos c1]
    exact Or.inr ⟨rfl, rfl⟩
  · rw [if_neg c1, if_neg c1]
    by_cases c2 : 250 < x1
    · rw [if_pos c2, if_pos c2]
      exact Or.inr ⟨rfl, rfl⟩
    · rw [if_neg c2, if_neg c2]
      obtain ⟨F, hF, rfl⟩ := nI_of2 (M := 250) (n := 250) (by decide) c1 (Int32.not_lt.1 c2)
      unfold f_Shape_exists_39 f_Shape_exists_53
      by_cases c3 : x2 = 8
      · rw [if_pos c3, if_pos c3]
        subst c3
        rcases fm_mid (x3 := x3) hD hF (Or.inl rfl) with ⟨P, a1, a2, a3, a4⟩ | ⟨a3, a4⟩
        · exact Or.inl ⟨F, 8, P, a1, rfl, rfl, a2, a3, a4⟩
        · exact Or.inr ⟨a3, a4⟩
      · rw [if_neg c3, if_neg c3]
        by_cases c4 : x2 = 16
        · rw [if_pos c4, if_pos c4]
          subst c4
          rcases fm_mid (x3 := x3) hD hF (Or.inr rfl) with ⟨P, a1, a2, a3, a4⟩ | ⟨a3, a4⟩
          · exact Or.inl ⟨F, 16, P, a1, rfl, rfl, a2, a3, a4⟩
          · exact Or.inr ⟨a3, a4⟩
        · rw [if_neg c4, if_neg c4, e58 _ _ _ _ _ _ _ (Or.inr (Or.inr rfl))]
          exact Or.inr ⟨rfl, rfl⟩
theorem fm_all (x0 x1 x2 x3 : Int32) : FmR x0 x1 x2 x3 := by
  unfold FmR f_Shape_exists f_Mo_noForm
  have h16 : ∀ D : Nat, (1 ≤ D ∧ D ≤ 5) ∨ D = 8 → x0 = nI D → (∃ D F E P, FormOK D F E P ∧ x0 = nI D ∧ x1 = nI F ∧ x2 = nI E ∧ x3 = nI P ∧ f_Shape_exists_16 x0 x1 x2 x3 = some 1 ∧ f_Mo_noForm_16 x0 x1 x2 x3 = some 0) ∨ (f_Shape_exists_16 x0 x1 x2 x3 = some 0 ∧ f_Mo_noForm_16 x0 x1 x2 x3 = some 1) := by
    intro D hD e
    subst e
    rcases fm_16 (x1 := x1) (x2 := x2) (x3 := x3) hD with ⟨F, E, P, a1, a2, a3, a4, a5, a6⟩ | ⟨a3, a4⟩
    · exact Or.inl ⟨D, F, E, P, a1, rfl, a2, a3, a4, a5, a6⟩
    · exact Or.inr ⟨a3, a4⟩
  have h10 : (∃ D F E P, FormOK D F E P ∧ x0 = nI D ∧ x1 = nI F ∧ x2 = nI E ∧ x3 = nI P ∧ f_Shape_exists_10 x0 x1 x2 x3 = some 1 ∧ f_Mo_noForm_10 x0 x1 x2 x3 = some 0) ∨ (f_Shape_exists_10 x0 x1 x2 x3 = some 0 ∧ f_Mo_noForm_10 x0 x1 x2 x3 = some 1) := by
    unfold f_Shape_exists_10 f_Mo_noForm_10
    by_cases c : x0 = 8
    · rw [if_pos c, if_pos c]
      exact h16 8 (Or.inr rfl) c
    · rw [if_neg c, if_neg c, e21, n52]
      exact Or.inr ⟨rfl, rfl⟩
  by_cases c1 : x0 < 1
  · rw [if_pos c1, if_pos c1]
    exact h10
  · rw [if_neg c1, if_neg c1]
    by_cases c2 : x0 ≤ 5
    · rw [if_pos c2, if_pos c2]
      have c0 : ¬ x0 < 0 := by
        rw [Int32.lt_iff_toInt_lt] at c1 ⊢
        have e1 : (1 : Int32).toInt = 1 := by decide
        have e0 : (0 : Int32).toInt = 0 := by decide
        omega
      obtain ⟨D, hD, e⟩ := nI_of2 (M := 5) (n := 5) (by decide) c0 c2
      refine h16 D (Or.inl ⟨?_, hD⟩) e
      refine Classical.byContradiction fun h => c1 ?_
      rw [e, show D = 0 by omega]
      decide
    · rw [if_neg c2, if_neg c2]
      exact h10
theorem fg_lp : ∀ fu k (co : AR) (a b c d e f g h : Int32), k ≤ 8 → 8 - k < fu → (∀ i, i < k → co i = 0) → ∃ co', f_Mo_forget_42 fu (nI k) a b c d e f g h co = some (a, b, c, d, e, f, g, h, co') ∧ ∀ i, i < 8 → co' i = 0 := by
  intro fu
  induction fu with
  | zero => intro k co a b c d e f g h h1 h2; omega
  | succ fu ih =>
    intro k co a b c d e f g h h1 h2 h3
    show ∃ co', f_Mo_forget_42_b _ _ _ _ _ _ _ _ _ _ _ = _ ∧ _
    unfold f_Mo_forget_42_b
    by_cases hk : k = 8
    · rw [if_pos (show (8 : Int32) ≤ nI k from nI_le (a := 8) (by omega) (by omega))]
      exact ⟨co, rfl, hk ▸ h3⟩
    · rw [if_neg (show ¬ (8 : Int32) ≤ nI k from nI_ge (b := 8) (by omega) (by decide)), q_wrI (by omega) (by decide), q_nm, nI_1]
      refine ih (k + 1) _ _ _ _ _ _ _ _ _ (by omega) (by omega) (fun i hi => ?_)
      by_cases c2 : i = k
      · subst c2; exact pk_us
      · rw [pk_un c2]; exact h3 i (by omega)
theorem fg_ok (co : AR) (a b c d e f g h : Int32) : ∃ co', f_Mo_forget a b c d e f g h co = some (0, 0, 0, 0, 0, 0, 0, 0, co') ∧ ∀ i, i < 8 → co' i = 0 :=
  fg_lp 10000 0 co 0 0 0 0 0 0 0 0 (by omega) (by omega) (fun i hi => by omega)
theorem re_0 {c : Nat → Int64} (h : ∀ k, k < 4096 → cb c k = false) (ln : AR) : RowEq 0 c ln := ⟨by omega, fun k hk => by omega, fun k _ hk => h k hk⟩
set_option maxHeartbeats 2000000 in
theorem i_form {K : Type} [Lean.Grind.Field K] {en fo : K → Int32} {g : K} {M : Nat → Nat} {xs : AR} {L j : Nat} {kh : KHT} {ci : AR} {ca : Nat → AR} {cl : Nat → Nat → Int64} {mi : AR} {ma : Nat → AR} {ou : Nat → Int64} (hj : 5 * j + 5 ≤ L) (hL : L ≤ 2560) (hI : Inv en fo g M j ci ca cl mi ma) (hk : ∀ ci' ca' cl' mi' ma' ou', Inv en fo g M (j + 1) ci' ca' cl' mi' ma' → kh (nI (5 * j)) ci' ca' cl' mi' ma' ou' = some ()) : fla_form xs L kh (nI (5 * j)) ci ca cl mi ma ou = some () := by
  have hs1 : ∀ {β : Type} (k : Int32 → Option β), rdI xs L (nI (5 * j) + (1 : Int32)) k = k (xs (5 * j + 1)) := fun k => q_scr hj hL 1 (by decide)
  have hs2 : ∀ {β : Type} (k : Int32 → Option β), rdI xs L (nI (5 * j) + (2 : Int32)) k = k (xs (5 * j + 2)) := fun k => q_scr hj hL 2 (by decide)
  have hs3 : ∀ {β : Type} (k : Int32 → Option β), rdI xs L (nI (5 * j) + (3 : Int32)) k = k (xs (5 * j + 3)) := fun k => q_scr hj hL 3 (by decide)
  have hs4 : ∀ {β : Type} (k : Int32 → Option β), rdI xs L (nI (5 * j) + (4 : Int32)) k = k (xs (5 * j + 4)) := fun k => q_scr hj hL 4 (by decide)
  obtain ⟨D0, F0, E0, P0, h1, h2, h3, h4, h5, h6, h7, h8, h9⟩ := hI
  have h6' := h6
  obtain ⟨hV, hT, hgn, hM, hpr⟩ := h6'
  have h4' := h4
  obtain ⟨w, w1, w2, w3, w4, w5⟩ := h4'
  unfold fla_form
  rw [hs1, hs2, hs3, hs4]
  have hflb : ∀ (t : Int32) (ci' : AR) (ca' : Nat → AR) (cl' : Nat → Nat → Int64) (v5 v6 v7 v8 v9 v10 v11 v12 v13 v14 v15 v16 v17 : Int32) (g18 : AR), f_Mo_form (mi 0) (mi 1) (mi 2) (mi 3) (mi 4) (mi 6) (mi 7) (mi 8) (mi 9) (mi 10) (mi 11) (mi 12) (mi 13) (ma 9) (xs (5 * j + 1)) (xs (5 * j + 2)) (xs (5 * j + 3)) (xs (5 * j + 4)) = some (v5, v6, v7, v8, v9, v10, v11, v12, v13, v14, v15, v16, v17, g18) → v5 = t → kh (nI (5 * j)) ci' ca' cl' (lI [v5, v6, v7, v8, v9, mi 5, v10, v11, v12, v13, v14, v15, v16, v17, mi 14]) (lA [ma 0, ma 1, ma 2, ma 3, ma 4, ma 5, ma 6, ma 7, ma 8, g18, ma 10, ma 11, ma 12, ma 13, ma 14, ma 15, ma 16, ma 17, ma 18, ma 19, ma 20, ma 21, ma 22, ma 23, ma 24]) ou = some () → flb_form xs L kh (nI (5 * j)) t ci' ca' cl' mi ma ou = some () := by
    intro t ci' ca' cl' v5 v6 v7 v8 v9 v10 v11 v12 v13 v14 v15 v16 v17 g18 he hv hkk
    unfold flb_form
    rw [hs1, hs2, hs3, hs4, he, p_bd]
    simp only [p_nm, p_th, p_bd]
    rw [if_pos hv]
    exact hkk
  generalize xs (5 * j + 1) = x0 at hflb
  generalize xs (5 * j + 2) = x1 at hflb
  generalize xs (5 * j + 3) = x2 at hflb
  generalize xs (5 * j + 4) = x3 at hflb
  rcases fm_all x0 x1 x2 x3 with ⟨D, F, E, P, hO, rfl, rfl, rfl, rfl, a5, a6⟩ | ⟨a5, a6⟩
  rotate_left
  · have hg : g_DC_form x0 x1 x2 x3 = some 1 := by
      unfold g_DC_form
      rw [a5, q_bd, q_nm, if_pos rfl]
    rw [hg, p_ch1]
    refine hflb 1 ci ca cl 1 _ _ _ _ _ _ _ _ _ _ _ _ _ ?_ rfl (hk _ _ _ _ _ _ ⟨D0, F0, E0, P0, h1, h2, cn_mono h3, h4, h5, h6, h7, h8, h9⟩)
    unfold f_Mo_form f_Mo_form_17
    rw [a6, q_bd, q_nm, if_neg ne10, if_neg ne10]
  · have hg : g_DC_form (nI D) (nI F) (nI E) (nI P) = none := by
      unfold g_DC_form
      rw [a5, q_bd, q_nm, if_neg ne10]
    rw [hg, p_ch0]
    obtain ⟨o1, o2, o3, o4, o5, o6, o7⟩ := hO
    obtain ⟨G, eG, _⟩ := hgn
    obtain ⟨gn', e1, e2⟩ := c_prep hV.2.1 hV.2.2.2.2.1 (E := E) (by omega) G
    obtain ⟨c0, r1, r2⟩ := em_ok (ci 4) (cl 0)
    obtain ⟨c2, r3, r4⟩ := em_ok (ci 13) (cl 2)
    obtain ⟨co', g1, g2⟩ := fg_ok (ma 9) (mi 6) (mi 7) (mi 8) (mi 9) (mi 10) (mi 11) (mi 12) (mi 13)
    have hLa : f_La_form (ci 0) (ci 1) (ci 2) (ci 3) (ca 4) (ca 2) (ca 3) (ci 4) (cl 0) (ci 5) (ci 6) (ci 7) (ci 9) (ca 15) (ci 11) (ci 12) (ci 13) (cl 2) (nI D) (nI F) (nI E) (nI P) = some (0, nI D, nI (255 - F), nI E, nI P, gn', 0, c0, 0, 0, 0, 0, (fun i => if i < 8 then 0 else ca 15 i), 0, 0, 0, c2) := by
      unfold f_La_form f_DC_form f_Shape_become f_Coder_restart f_Sender_restart f_Receiver_forget
      rw [a5, q_bd, q_nm, if_neg ne10, q_nm, q_bd]
      try simp only [p_nm]
      rw [eG, e1, q_bd]
      try simp only [p_nm]
      rw [r1, q_bd]
      try simp only [p_nm]
      rw [fi_I (by omega), r3]
      simp only [p_nm, p_bd]
      rw [show (255 : Int32) - nI F = nI (255 - F) from pk_sub (a := 255) (by omega)]
    rw [hLa, p_bd]
    simp only [p_nm]
    refine hflb 0 _ _ _ 0 (nI D) (nI F) (nI E) (nI P) 0 0 0 0 0 0 0 0 co' ?_ rfl ?_
    · unfold f_Mo_form f_Mo_form_17
      rw [a6, q_bd, q_nm, if_pos rfl, if_pos rfl, g1, q_bd]
      simp only [p_nm]
    · refine hk _ _ _ _ _ _ ⟨D, F, E, P, ⟨⟨o1, o2, o3, o4, o5, o6, o7⟩, rfl, rfl, rfl, rfl, rfl, rfl, rfl, rfl⟩, h2, ⟨⟨0, by omega, rfl, rfl⟩, fun k hk8 => ⟨0, by omega, ?_, ?_⟩⟩, ⟨0, by omega, rfl, rfl, fun k hk0 => by omega, w5⟩, ⟨0, 0, by omega, rfl, rfl, rfl, rfl, rfl, rfl, re_0 r2 _⟩, ⟨hV, hT, e2, hM, hpr⟩, h7, ⟨0, by omega, rfl, rfl, rfl, re_0 r4 _⟩, ⟨0, by omega, rfl, rfl, by omega, fun j hj => by omega⟩⟩
      · show (if k < 8 then (0 : Int32) else ca 15 k) = nI (0 % 256)
        rw [if_pos hk8]
        rfl
      · exact g2 k hk8
end
