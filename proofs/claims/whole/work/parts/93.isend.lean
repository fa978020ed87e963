/-! PURE PART: the case send -/
section
theorem p_th (v : Int32) : f_Mo_thrown v = some v := by rw [f_Mo_thrown]
set_option maxHeartbeats 2000000 in
theorem i_send {K : Type} [Lean.Grind.Field K] {en fo : K → Int32} {g : K} {M : Nat → Nat} {xs : AR} {L j : Nat} {kh : KHT} {ci : AR} {ca : Nat → AR} {cl : Nat → Nat → Int64} {mi : AR} {ma : Nat → AR} {ou : Nat → Int64} (hj : 5 * j + 5 ≤ L) (hL : L ≤ 2560) (hI : Inv en fo g M j ci ca cl mi ma) (hk : ∀ ci' ca' cl' mi' ma' ou', Inv en fo g M (j + 1) ci' ca' cl' mi' ma' → kh (nI (5 * j)) ci' ca' cl' mi' ma' ou' = some ()) : fla_send xs L kh (nI (5 * j)) ci ca cl mi ma ou = some () := by
  have hs1 : ∀ {β : Type} (k : Int32 → Option β), rdI xs L (nI (5 * j) + (1 : Int32)) k = k (xs (5 * j + 1)) := fun k => q_scr hj hL 1 (by decide)
  obtain ⟨D, F, E, P, h1, h2, h3, h4, h5, h6, h7, h8, h9⟩ := hI
  have h1' := h1
  obtain ⟨f1, f2, f3, f4, f5, f6, f7, f8, f9⟩ := h1'
  have f1' := f1
  obtain ⟨o1, o2, o3, o4, o5, o6, o7⟩ := f1'
  have h2' := h2
  obtain ⟨c, hc, e8, e5⟩ := h2'
  have h3' := h3
  obtain ⟨⟨n, hn, e7, e7'⟩, hcn⟩ := h3'
  have h4' := h4
  obtain ⟨w, w1, w2, w3, w4, w5⟩ := h4'
  have h5' := h5
  obtain ⟨snt, R, l1, l2, l3, l4, l5, l6, l7, l8⟩ := h5'
  have h6' := h6
  obtain ⟨hV, hT, hgn, hM, hpr⟩ := h6'
  have h7' := h7
  obtain ⟨s5, s6, s7, s8, s9, s10, s11, s20, t16, t20, t21, t22, t23⟩ := h7'
  have hSW : D * (255 - F - 2 * E) ≤ D * (255 - F) := Nat.mul_le_mul_left _ (by omega)
  have hcore : ∀ x : Int32, ch3 (g_DC_send (ci 9) (ci 0) (ci 1) (ci 2) x) (flb_send xs L kh (nI (5 * j)) 1 ci ca cl mi ma ou) (flb_send xs L kh (nI (5 * j)) 2 ci ca cl mi ma ou) (bd (f_La_send (ci 7) (ci 8) (ci 9) (ci 0) (ci 1) (ci 2) (ci 3) (ci 5) (ci 6) (ci 4) (ca 14) (ca 15) (ca 5) (ca 0) (ca 1) (ca 4) (ca 3) (ca 2) (cl 0) (ca 13) ou 1 x) fun u13 => flb_send xs L kh (nI (5 * j)) u13.1 (lI [ci 0, ci 1, ci 2, ci 3, u13.2.2.2.2.2.1, u13.2.2.2.1, u13.2.2.2.2.1, u13.2.1, ci 8, u13.2.2.1, ci 10, ci 11, ci 12, ci 13]) (lA [ca 0, ca 1, ca 2, ca 3, ca 4, u13.2.2.2.2.2.2.2.2.1, ca 6, ca 7, ca 8, ca 9, ca 10, ca 11, ca 12, ca 13, u13.2.2.2.2.2.2.1, u13.2.2.2.2.2.2.2.1, ca 16, ca 17, ca 18, ca 19, ca 20, ca 21, ca 22, ca 23]) (lL [u13.2.2.2.2.2.2.2.2.2.1, cl 1, cl 2]) mi ma u13.2.2.2.2.2.2.2.2.2.2) = some () → x = xs (5 * j + 1) → fla_send xs L kh (nI (5 * j)) ci ca cl mi ma ou = some () := by
    intro x h hx
    unfold fla_send
    rw [hs1, ← hx]
    simp only [p_nm]
    exact h
  refine hcore _ ?_ rfl
  have hflb : ∀ (t : Int32) (ci' : AR) (ca' : Nat → AR) (cl' : Nat → Nat → Int64) (ou' : Nat → Int64) (r v3 v4 v5 v6 v7 v8 : Int32) (g9 g10 g11 g12 g13 g14 g15 : AR), f_Mo_send (mi 0) (mi 1) (mi 2) (mi 3) (mi 4) (mi 5) (mi 6) (mi 7) (mi 8) (mi 9) (mi 10) (ma 0) (ma 1) (ma 2) (ma 16) (ma 3) (ma 21) (ma 4) (ma 20) (ma 23) (ma 22) (ma 5) (ma 6) (ma 9) (ma 8) (ma 7) (ma 10) (xs (5 * j + 1)) = some (r, v3, v4, v5, v6, v7, v8, g9, g10, g11, g12, g13, g14, g15) → v3 = t → (t = 0 → ou' 0 = r.toInt64) → kh (nI (5 * j)) ci' ca' cl' (lI [v3, mi 1, mi 2, mi 3, mi 4, mi 5, v4, v5, v6, v7, v8, mi 11, mi 12, mi 13, mi 14]) (lA [ma 0, ma 1, ma 2, ma 3, ma 4, ma 5, ma 6, ma 7, ma 8, g14, g15, ma 11, ma 12, ma 13, ma 14, ma 15, g9, ma 17, ma 18, ma 19, g11, g10, g13, g12, ma 24]) ou' = some () → flb_send xs L kh (nI (5 * j)) t ci' ca' cl' mi ma ou' = some () := by
    intro t ci' ca' cl' ou' r v3 v4 v5 v6 v7 v8 g9 g10 g11 g12 g13 g14 g15 he hv ho hkk
    unfold flb_send
    rw [hs1, he, p_bd]
    simp only [p_nm, p_th, p_bd]
    rw [if_pos hv]
    by_cases ht : t = 0
    · rw [if_pos ht, q_r0, ho ht, if_pos (q_cmp _)]
      exact hkk
    · rw [if_neg ht]
      exact hkk
  generalize xs (5 * j + 1) = x at hflb
  have hno : ∀ t', kh (nI (5 * j)) ci ca cl (lI [t', mi 1, mi 2, mi 3, mi 4, mi 5, mi 6, mi 7, mi 8, mi 9, mi 10, mi 11, mi 12, mi 13, mi 14]) (lA [ma 0, ma 1, ma 2, ma 3, ma 4, ma 5, ma 6, ma 7, ma 8, ma 9, ma 10, ma 11, ma 12, ma 13, ma 14, ma 15, ma 16, ma 17, ma 18, ma 19, ma 20, ma 21, ma 22, ma 23, ma 24]) ou = some () := fun t' => hk _ _ _ _ _ _ ⟨D, F, E, P, h1, h2, cn_mono h3, h4, h5, h6, h7, h8, h9⟩
  have h22 : ¬ (2 : Int32) = 0 := by decide
  by_cases hx : x < 0 ∨ nI 8 ≤ x
  · have hg : g_DC_send (ci 9) (ci 0) (ci 1) (ci 2) x = some 1 := by
      unfold g_DC_send f_DC_isChannel
      by_cases cx : x < 0
      · rw [if_pos cx, q_zb0, q_bd, q_nm, if_pos rfl]
      · rw [if_neg cx, if_pos (show (8 : Int32) ≤ x from hx.resolve_left cx), q_zb0, q_bd, q_nm, if_pos rfl]
    rw [hg, p_ch1]
    have hx7 : ¬ x < 0 → ¬ x ≤ 7 := by
      intro h0 h
      have h8 := hx.resolve_left h0
      rw [Int32.le_iff_toInt_le] at h h8
      have e1 : (nI 8).toInt = 8 := by decide
      have e2 : (7 : Int32).toInt = 7 := by decide
      omega
    have hm : ∀ (th de fi ha pa cr wa ms le se st : Int32) (q0 q1 q2 q3 q4 q5 q6 q7 q8 q9 q10 q11 q12 q13 q14 q15 : AR), f_Mo_send th de fi ha pa cr wa ms le se st q0 q1 q2 q3 q4 q5 q6 q7 q8 q9 q10 q11 q12 q13 q14 q15 x = some (0, 1, wa, ms, le, se, st, q3, q5, q7, q8, q9, q12, q15) := by
      intro th de fi ha pa cr wa ms le se st q0 q1 q2 q3 q4 q5 q6 q7 q8 q9 q10 q11 q12 q13 q14 q15
      unfold f_Mo_send f_Mo_send_11 f_Mo_send_34
      by_cases cx : x < 0
      · rw [if_pos cx, if_neg (by decide)]
      · rw [if_neg cx, if_neg (hx7 cx), if_neg (by decide)]
    exact hflb 1 ci ca cl ou _ _ _ _ _ _ _ _ _ _ _ _ _ _ (hm ..) rfl (fun h => absurd h ne10) (hno 1)
  · obtain ⟨h, hh, rfl⟩ : ∃ h : Nat, h < 8 ∧ x = nI h := by
      rcases pk_ix x (n := 8) (by decide) with hx1 | hx1 | hx1
      · exact absurd (Or.inl hx1) hx
      · exact absurd (Or.inr hx1) hx
      · exact hx1
    obtain ⟨m, hm, em, em'⟩ := hcn h hh
    have hic : f_DC_isChannel (nI h) = some 1 := by
      unfold f_DC_isChannel
      rw [if_neg (nI_pos (by omega)), if_neg (show ¬ (8 : Int32) ≤ nI h from nI_ge (b := 8) hh (by decide)), q_zb1]
    have hc0 : ¬ nI h < 0 := nI_pos (by omega)
    have hc7 : nI h ≤ (7 : Int32) := nI_le (b := 7) (by omega) (by decide)
    have hsz : nI (D * (255 - F - 2 * E)) - (8 : Int32) = nI (D * (255 - F - 2 * E) - 8) := pk_sub (b := 8) (by omega)
    rw [f2, f3, f4, f5, w2, l2, l3, l4, e8, e7]
    rw [f6, f7, f8, f9, e5, w3, e7', l5, l6, l7] at hflb
    rw [f6, f7, f8, f9, e5, w3, e7', l5, l6, l7] at hno
    by_cases hw : w = D * (255 - F - 2 * E) - 8
    rotate_left
    · have hw1 : ¬ nI w = nI (D * (255 - F - 2 * E) - 8) := by rw [nI_eq (by omega) (by omega)]; exact hw
      have hw2 : ¬ nI (D * (255 - F - 2 * E) - 8) ≤ nI w := nI_ge (by omega) (by omega)
      have hg : g_DC_send (nI w) (nI D) (nI (255 - F)) (nI E) (nI h) = some 2 := by
        unfold g_DC_send f_Sender_waiting
        rw [hic, q_bd, q_nm, if_neg ne10, q_bd, q_nm, db_c D o5 o6, q_bd, q_nm, if_neg hw1]
      rw [hg, p_ch2]
      refine hflb 2 ci ca cl ou 0 2 _ _ _ _ _ _ _ _ _ _ _ _ ?_ rfl (fun h => absurd h h22) (hno 2)
      unfold f_Mo_send f_Mo_send_34
      rw [if_neg hc0, if_pos hc7, fs_m D o2 o5, q_bd, q_nm, hsz, if_neg hw2, if_neg (show ¬ (2 : Int32) ≤ 0 by decide)]
    · have hw2 : nI (D * (255 - F - 2 * E) - 8) ≤ nI w := nI_le (by omega) (by omega)
      have hw1 : nI w = nI (D * (255 - F - 2 * E) - 8) := by rw [hw]
      have hs := cnt_hi o4 l8.1
      have hL9 : (32 : Int32) + 8 * nI (D * (255 - F)) = nI (32 + 8 * (D * (255 - F))) := by rw [show (8 : Int32) * nI (D * (255 - F)) = nI (8 * (D * (255 - F))) from pk_mul 8 _]; exact nI_add 32 _
      have hcl := cnt_le o4 snt (32 + 8 * (D * (255 - F)))
      have hll := l8.1
      have hg : g_DC_send (nI w) (nI D) (nI (255 - F)) (nI E) (nI h) = none := by
        unfold g_DC_send f_Sender_waiting
        rw [hic, q_bd, q_nm, if_neg ne10, q_bd, q_nm, db_c D o5 o6, q_bd, q_nm, if_pos hw1]
      rw [hg, p_ch0]
      by_cases hroom : cnt P 0 snt + cnt P snt (32 + 8 * (D * (255 - F))) ≤ 4096
      · obtain ⟨R', cl', ln', sb', rem', rb', val', wd', sol', sys', z1, z2, z3, z4, z5, z6, z7, z8, z9, z10, z11, z12⟩ := snd_all hV f1 hgn hT hM (c := c) (h := h) (n := n) (m := m) (sb := ca 14) (cc := ca 15) (mc := ma 9) (da := ma 8) (rb := ma 16) (val := ma 21) (wd := ma 20) (sol := ma 23) (sys := ma 22) (rem := ca 5) hc (by omega) (by omega) (by omega) em' em (fun k hk' => w4 k (by omega)) w5 t16 t21 t20 t23 t22 s5 (R := R) (cl := cl 0) (ln := ma 10) l1 l8 hroom (nI w) (mi 0)
        generalize hlen' : cnt P 0 (snt + (32 + 8 * (D * (255 - F)))) = len' at z1 z2 z4
        have hLa : f_La_send (nI (n % 256)) (nI c) (nI w) (nI D) (nI (255 - F)) (nI E) (nI P) (nI R) (nI snt) (nI (cnt P 0 snt)) (ca 14) (ca 15) (ca 5) (ca 0) (ca 1) (ca 4) (ca 3) (ca 2) (cl 0) (ca 13) ou 1 (nI h) = some (0, (nI (n % 256) + 1) &&& 255, 0, nI R', nI (snt + (32 + 8 * (D * (255 - F)))), nI len', sb', upd (ca 15) h ((nI (m % 256) + 1) &&& 255), rem', cl', vp_updL ou 0 (nI len').toInt64) := by
          unfold f_La_send f_DC_send f_Sender_waiting f_BitRow_size
          rw [hic, q_bd, q_nm, if_neg ne10, q_bd, q_nm, db_c D o5 o6, q_bd, q_nm, if_pos hw1, bs_c, q_bd, q_nm, hL9, rm_ok o4 (by omega) l8.1 (by omega), q_bd, q_nm, if_pos hroom, if_neg ne10, z1, q_bd]
          simp only [p_nm, p_bd, q_w0]
        have hMo : f_Mo_send (mi 0) (nI D) (nI F) (nI E) (nI P) (nI c) (nI w) (nI n) (nI (cnt P 0 snt)) (nI snt) (nI (R / 2)) (ma 0) (ma 1) (ma 2) (ma 16) (ma 3) (ma 21) (ma 4) (ma 20) (ma 23) (ma 22) (ma 5) (ma 6) (ma 9) (ma 8) (ma 7) (ma 10) (nI h) = some (nI len', 0, 0, nI n + 1, nI len', nI (snt + (32 + 8 * (D * (255 - F)))), nI (R' / 2), rb', val', wd', sol', sys', upd (ma 9) h (nI m + 1), ln') := by
          unfold f_Mo_send f_Mo_send_34
          rw [if_neg hc0, if_pos hc7, fs_m D o2 o5, q_bd, q_nm, hsz, if_pos hw2, if_pos (show (0 : Int32) ≤ 0 by decide), bs_m D o2, q_bd, q_nm, hL9, lo_ok hT o4 (by omega) (by omega), q_bd, q_nm, nI_add, if_pos (show nI (cnt P 0 snt + cnt P snt (32 + 8 * (D * (255 - F)))) ≤ (4096 : Int32) from nI_le (b := 4096) hroom (by decide))]
          simp only [p_nm]
          exact z2
        rw [hLa, p_bd]
        refine hflb 0 _ _ _ _ _ _ _ _ _ _ _ _ _ _ _ _ _ _ hMo rfl (fun _ => show vp_updL ou 0 (nI len').toInt64 0 = (nI len').toInt64 from q_upd0) ?_
        refine hk _ _ _ _ _ _ ⟨D, F, E, P, ⟨f1, rfl, rfl, rfl, rfl, rfl, rfl, rfl, rfl⟩, ⟨c, hc, rfl, rfl⟩, ⟨cnt_up (by omega) ⟨n, hn, rfl, rfl⟩, fun k hk8 => ?_⟩, ⟨0, by omega, rfl, rfl, fun k hk0 => by omega, z5⟩, ⟨snt + (32 + 8 * (D * (255 - F))), R', z3, ?_, rfl, rfl, ?_, rfl, rfl, ?_⟩, h6, ⟨z11, s6, s7, s8, s9, s10, s11, s20, z6, z8, z7, z10, z9⟩, h8, ?_⟩
        · by_cases e : k = h
          · subst e
            show IvCount (j + 1) (upd (ca 15) k _ k) (upd (ma 9) k _ k)
            rw [pk_us, pk_us]
            exact cnt_up (by omega) ⟨m, hm, rfl, rfl⟩
          · show IvCount (j + 1) (upd (ca 15) h _ k) (upd (ma 9) h _ k)
            rw [pk_un e, pk_un e]
            exact cnt_mono (hcn k hk8)
        · rw [hlen']; rfl
        · rw [hlen']; rfl
        · rw [hlen']; exact z4
        · exact blk_keep (by omega) o7 (by omega) h9 z12
      · have hLa : f_La_send (nI (n % 256)) (nI c) (nI w) (nI D) (nI (255 - F)) (nI E) (nI P) (nI R) (nI snt) (nI (cnt P 0 snt)) (ca 14) (ca 15) (ca 5) (ca 0) (ca 1) (ca 4) (ca 3) (ca 2) (cl 0) (ca 13) ou 1 (nI h) = some (0, nI (n % 256), nI w, nI R, nI snt, nI (cnt P 0 snt), ca 14, ca 15, ca 5, cl 0, vp_updL ou 0 (-1 : Int32).toInt64) := by
          unfold f_La_send f_DC_send f_Sender_waiting f_BitRow_size
          rw [hic, q_bd, q_nm, if_neg ne10, q_bd, q_nm, db_c D o5 o6, q_bd, q_nm, if_pos hw1, bs_c, q_bd, q_nm, hL9, rm_ok o4 (by omega) l8.1 (by omega), q_bd, q_nm, if_neg hroom, if_pos rfl, q_bd]
          simp only [p_nm, p_bd, q_w0]
        have hMo : f_Mo_send (mi 0) (nI D) (nI F) (nI E) (nI P) (nI c) (nI w) (nI n) (nI (cnt P 0 snt)) (nI snt) (nI (R / 2)) (ma 0) (ma 1) (ma 2) (ma 16) (ma 3) (ma 21) (ma 4) (ma 20) (ma 23) (ma 22) (ma 5) (ma 6) (ma 9) (ma 8) (ma 7) (ma 10) (nI h) = some (-1, 0, nI w, nI n, nI (cnt P 0 snt), nI snt, nI (R / 2), ma 16, ma 21, ma 20, ma 23, ma 22, ma 9, ma 10) := by
          unfold f_Mo_send f_Mo_send_34
          rw [if_neg hc0, if_pos hc7, fs_m D o2 o5, q_bd, q_nm, hsz, if_pos hw2, if_pos (show (0 : Int32) ≤ 0 by decide), bs_m D o2, q_bd, q_nm, hL9, lo_ok hT o4 (by omega) (by omega), q_bd, q_nm, nI_add, if_neg (show ¬ nI (cnt P 0 snt + cnt P snt (32 + 8 * (D * (255 - F)))) ≤ (4096 : Int32) from nI_ge (a := 4096) (by omega) (by omega))]
        rw [hLa, p_bd]
        refine hflb 0 _ _ _ _ _ _ _ _ _ _ _ _ _ _ _ _ _ _ hMo rfl (fun _ => show vp_updL ou 0 (-1 : Int32).toInt64 0 = (-1 : Int32).toInt64 from q_upd0) ?_
        exact hk _ _ _ _ _ _ ⟨D, F, E, P, ⟨f1, rfl, rfl, rfl, rfl, rfl, rfl, rfl, rfl⟩, ⟨c, hc, rfl, rfl⟩, ⟨cnt_mono ⟨n, hn, rfl, rfl⟩, fun k hk8 => cnt_mono (hcn k hk8)⟩, ⟨w, w1, rfl, rfl, w4, w5⟩, ⟨snt, R, l1, rfl, rfl, rfl, rfl, rfl, rfl, l8⟩, h6, h7, h8, h9⟩
end
