/-! PURE PART: the case receive -/
section
theorem lc_lp {D' F' E' : Int32} {el pr lg fm mx : AR} (x1 th rs df bl lm : Int32) (le_ pl_ row mk wr tl by_ wo va sy so wg ri : AR) : ∀ fu k (lc : AR), k ≤ 8 → 8 - k < fu → (∀ i, i < k → lc i = -1) → ∃ lc', f_Mo_receive_44 D' F' E' el pr lg fm mx fu x1 (nI k) th rs df bl lm le_ pl_ row mk wr tl by_ lc wo va sy so wg ri = f_Mo_receive_63 D' F' E' el pr lg fm mx x1 th rs df bl lm le_ pl_ row mk wr tl by_ lc' wo va sy so wg ri ∧ ∀ i, i < 8 → lc' i = -1 := by
  intro fu
  induction fu with
  | zero => intro k lc h1 h2; omega
  | succ fu ih =>
    intro k lc h1 h2 h3
    show ∃ lc', f_Mo_receive_44_b _ _ _ _ _ _ _ _ _ _ _ _ _ _ _ _ _ _ _ _ _ _ _ _ _ _ _ _ _ _ = _ ∧ _
    unfold f_Mo_receive_44_b
    by_cases e : k = 8
    · rw [if_pos (show (8 : Int32) ≤ nI k from nI_le (a := 8) (by omega) (by omega))]
      exact ⟨lc, rfl, e ▸ h3⟩
    · rw [if_neg (show ¬ (8 : Int32) ≤ nI k from nI_ge (b := 8) (by omega) (by decide)), q_wrI (by omega) (by decide), q_nm, nI_1]
      refine ih (k + 1) _ (by omega) (by omega) (fun i hi => ?_)
      by_cases c : i = k
      · subst c; exact pk_us
      · rw [pk_un c]; exact h3 i (by omega)
set_option maxHeartbeats 2000000 in
theorem rcv_all {K : Type} [Lean.Grind.Field K] {en fo : K → Int32} {g : K} {lgm prm elm fmm lgc prc elc fmc : AR} (hV : Env en fo g lgm prm elm fmm lgc prc elc fmc) {D F E P : Nat} (hO : FormOK D F E P) {bg fs sc : AR} (hT : Tab bg fs sc) {mxc mxm prs : AR} {M : Nat → Nat} (hM : ∀ t, t < 250 → mxc t = nI (M t) ∧ mxm t = nI (M t) ∧ M t < 256) (hp : ∀ h, h < 64 → prs h = nI (prv h)) {snt lim : Nat} (hlim : lim ≤ 8) {cl : Nat → Int64} {ln : AR} (hRow : RowEq (cnt P 0 snt) cl ln) {syn coe pol ear spa evl pla cby rby wo va sy so wg fa mk wr tl pr ri lc lc' : AR} (b1 : BY cby) (b2 : BY rby) (b3 : BY syn) (b4 : BY coe) (b5 : BY pol) (b6 : BY ear) (b7 : BY spa) (b8 : BY evl) (b9 : BY wo) (b10 : BY va) (b11 : BY sy) (b12 : BY so) (ev od ds lst plc row : AR) (fl : Int32) (fc oib : Nat → Int64) (lm0 df0 tk0 th rs0 mdf0 mbl0 mlm0 : Int32) :
    ∃ (kk : Nat) (lm1 : Int32) (ev' : AR) (fc' oib' : Nat → Int64) (ds' od' fa1 lc1 cby1 syn1 coe1 pol1 ear1 spa1 pla1 evl1 pr1 lst' plc' row' mk1 wr1 tl1 rby1 lc1' wo1 va1 sy1 so1 wg1 ri1 : AR), f_DC_receive (nI snt) lm0 df0 tk0 (nI D) (nI (255 - F)) (nI E) (nI P) ev (nI (cnt P 0 snt)) fl fc oib cl ds prs od fa lc mxc cby prc syn lgc coe pol ear spa pla evl fmc elc pr (nI lim) = some (nI kk, lm1, nI (lea P cl snt snt 0), nI kk, ev', nI snt, fc', oib', ds', od', fa1, lc1, cby1, syn1, coe1, pol1, ear1, spa1, pla1, evl1, pr1) ∧
      f_Mo_receive th (nI D) (nI F) (nI E) (nI P) (nI (cnt P 0 snt)) rs0 mdf0 mbl0 mlm0 bg fs sc lst plc ln row mk wr tl rby lc' elm wo prm va lgm fmm sy so wg ri mxm (nI lim) = some (nI kk, 0, nI snt, nI (lea P cl snt snt 0), nI kk, lm1, lst', plc', row', mk1, wr1, tl1, rby1, lc1', wo1, va1, sy1, so1, wg1, ri1) ∧
      RowEq snt fc' row' ∧ kk ≤ 15 ∧ kk * (D * (255 - F)) ≤ 512 ∧ (BY cby1 ∧ BY rby1 ∧ BY syn1 ∧ BY coe1 ∧ BY pol1 ∧ BY ear1 ∧ BY spa1 ∧ BY evl1 ∧ BY wo1 ∧ BY va1 ∧ BY sy1 ∧ BY so1) ∧ (∀ j, j < kk → Blk (D * (255 - F)) D j fa1 mk1 wr1 tl1 cby1 rby1 pr1 ri1) := by
  have hO0 := hO
  obtain ⟨o1, o2, o3, o4, o5, o6, o7⟩ := hO0
  have hs := cnt_hi o4 hRow.1
  have hSW : D * (255 - F - 2 * E) + 16 ≤ D * (255 - F) := by
    have h1 : D * (255 - F) = D * (255 - F - 2 * E) + D * (2 * E) := by
      rw [← Nat.mul_add]
      congr 1
      omega
    have h2 : 1 * (2 * E) ≤ D * (2 * E) := Nat.mul_le_mul_right _ (by omega)
    omega
  obtain ⟨lst', plc', row', d1, d2⟩ := d_ok hT o4 hRow rs0 mdf0 lst plc row
  obtain ⟨ev', fc', oib', ds', od', n1, n2⟩ := n_ok o4 (cl := cl) hRow.1 hp ev od ds fl fc oib
  have hfr : RowEq snt fc' row' := by
    refine ⟨by omega, fun k hk => ?_, fun k h1 h2 => ?_⟩
    · rw [d2 k hk, n2 k (by omega)]
      simp [hk]
    · rw [n2 k h2]
      simp [show ¬ k < snt by omega]
  obtain ⟨fa', f1, f2, f3, _⟩ := fb_lp (fc := fc') (N := snt) (L := 32 + 8 * (D * (255 - F))) (lim := lim) hs (by omega) (by omega) hlim 10000 0 none 0 fa (by omega) (by omega) (by omega) (fun q hq => by cases hq)
  have hrc := rc_lp (fc := fc') (row := row') (mx := mxm) (el := elm) (pr := prm) (lg := lgm) (fm := fmm) (D := D) (F := F) (N := snt) (lim := lim) (E' := nI E) o2 o7 hs hlim hfr.2.1 0 (nI (lea P cl snt snt 0)) lst' plc' 10000 0 none
  generalize blks snt (32 + 8 * (D * (255 - F))) lim (fun p => mkd (fun j => cb fc' (p + j)) 32) 10000 0 none = ps at f1 f2 f3 hrc
  obtain ⟨lc8, c1, c2⟩ := lc_lp (D' := nI D) (F' := nI F) (E' := nI E) (el := elm) (pr := prm) (lg := lgm) (fm := fmm) (mx := mxm) (nI lim) 0 (nI snt) (nI (lea P cl snt snt 0)) 0 (-1) lst' plc' row' mk wr tl rby wo va sy so wg ri 10000 0 lc' (by omega) (by omega) (fun i hi => by omega)
  obtain ⟨lm1, lc1, fa1, cby1, syn1, coe1, pol1, ear1, spa1, pla1, evl1, pr1, mk1, wr1, tl1, rby1, lc1', wo1, va1, sy1, so1, wg1, ri1, z1, z2, z3, z4⟩ := blk_all hV hO hM hs hfr.2.1 0 (nI (lea P cl snt snt 0)) lst' plc' ps 10000 0 fa' cby rby mk wr tl pr ri (fun i => if i < 8 then -1 else lc i) lc8 syn coe pol ear spa evl pla wo va sy so wg (-1) (-1) (by omega) (by omega) f3 ⟨rfl, Or.inl rfl, fun c hc => by
    have e : (fun i => if i < 8 then (-1 : Int32) else lc i) c = -1 := if_pos hc
    rw [c2 c hc, e]
    exact ⟨rfl, Or.inl rfl⟩⟩ ⟨b1, b2, b3, b4, b5, b6, b7, b8, b9, b10, b11, b12⟩ (fun j hj => by omega)
  rw [Nat.zero_add] at f1 f2 z1 z2 z4
  rw [Nat.zero_mul] at z1
  refine ⟨ps.length, lm1, ev', fc', oib', ds', od', fa1, lc1, cby1, syn1, coe1, pol1, ear1, spa1, pla1, evl1, pr1, lst', plc', row', mk1, wr1, tl1, rby1, lc1', wo1, va1, sy1, so1, wg1, ri1, ?_, ?_, hfr, f2, ?_, z3, z4⟩
  · unfold f_DC_receive f_Coder_bitsPut f_Receiver_decodeRow f_Receiver_findBlocks f_Receiver_readBlocks f_Receiver_blocksTaken
    have f1' : f_Receiver_findBlocks_34 (nI snt) fc' 10000 (nI lim) (nI (32 + 8 * (D * (255 - F)))) (nI 3091198808) (-1) 0 0 fa = some (nI ps.length, fa') := f1
    have z1' : f_Receiver_readBlocks_17 (nI ps.length) (nI D) (nI (255 - F)) (nI E) fc' mxc prc lgc fmc elc 10000 0 0 (-1) (fun i => if i < 8 then -1 else lc i) fa' cby syn coe pol ear spa pla evl pr = _ := z1
    rw [if_neg (nI_pos (by omega)), if_pos (show nI lim ≤ (8 : Int32) from nI_le (b := 8) hlim (by decide)), q_bd, q_nm, n1, q_bd]
    simp only [p_nm, p_bd]
    rw [bs_c]
    simp only [p_nm, p_bd]
    rw [mi_mk]
    simp only [p_nm, p_bd]
    rw [show (8 : Int32) * nI (D * (255 - F)) = nI (8 * (D * (255 - F))) from pk_mul 8 _, show (32 : Int32) + nI (8 * (D * (255 - F))) = nI (32 + 8 * (D * (255 - F))) from nI_add 32 _, f1']
    simp only [p_nm, p_bd]
    rw [fi_I (by omega)]
    simp only [p_nm, p_bd]
    rw [z1']
    simp only [p_nm, p_bd]
  · unfold f_Mo_receive f_Mo_receive_16
    rw [if_neg (nI_pos (by omega)), if_pos (show nI lim ≤ (8 : Int32) from nI_le (b := 8) hlim (by decide)), if_pos (show (0 : Int32) ≤ 0 by decide), d1, q_bd]
    simp only [p_nm]
    rw [nI_0] at c1
    rw [c1]
    unfold f_Mo_receive_63
    have hrc' := hrc 0 (-1) mk wr tl rby lc8 wo va sy so wg ri (by omega) (by omega) (fun q hq => by cases hq)
    have hrc2 : f_Mo_receive_67 (nI D) (nI F) (nI E) elm prm lgm fmm mxm 10000 (nI lim) 0 (-1) 0 (nI snt) (nI (lea P cl snt snt 0)) 0 (-1) lst' plc' row' mk wr tl rby lc8 wo va sy so wg ri = _ := hrc'
    rw [hrc2]
    exact z2
  · rcases Nat.eq_zero_or_pos ps.length with h | h
    · rw [h]; omega
    · have hl := f3 (ps.length - 1) (by omega)
      have h1 : (32 + 8 * (D * (255 - F))) * (0 + (ps.length - 1)) + (32 + 8 * (D * (255 - F))) ≤ snt := by
        have := hl.1
        have := hl.2.1
        omega
      have h2 : (32 + 8 * (D * (255 - F))) * (0 + (ps.length - 1)) + (32 + 8 * (D * (255 - F))) = (32 + 8 * (D * (255 - F))) * ps.length := by
        rw [Nat.zero_add]
        conv => rhs; rw [show ps.length = ps.length - 1 + 1 by omega, Nat.mul_add, Nat.mul_one]
      have h3 : (32 + 8 * (D * (255 - F))) * ps.length = 32 * ps.length + 8 * (ps.length * (D * (255 - F))) := by rw [Nat.add_mul, Nat.mul_assoc, Nat.mul_comm (D * (255 - F)) ps.length]
      omega
set_option maxHeartbeats 2000000 in
theorem i_receive {K : Type} [Lean.Grind.Field K] {en fo : K → Int32} {g : K} {M : Nat → Nat} {xs : AR} {L j : Nat} {kh : KHT} {ci : AR} {ca : Nat → AR} {cl : Nat → Nat → Int64} {mi : AR} {ma : Nat → AR} {ou : Nat → Int64} (hj : 5 * j + 5 ≤ L) (hL : L ≤ 2560) (hI : Inv en fo g M j ci ca cl mi ma) (hk : ∀ ci' ca' cl' mi' ma' ou', Inv en fo g M (j + 1) ci' ca' cl' mi' ma' → kh (nI (5 * j)) ci' ca' cl' mi' ma' ou' = some ()) : fla_receive xs L kh (nI (5 * j)) ci ca cl mi ma ou = some () := by
  have hs1 : ∀ {β : Type} (k : Int32 → Option β), rdI xs L (nI (5 * j) + (1 : Int32)) k = k (xs (5 * j + 1)) := fun k => q_scr hj hL 1 (by decide)
  obtain ⟨D, F, E, P, h1, h2, h3, h4, h5, h6, h7, h8, h9⟩ := hI
  have h1' := h1
  obtain ⟨f1, f2, f3, f4, f5, f6, f7, f8, f9⟩ := h1'
  have h5' := h5
  obtain ⟨snt, R, l1, l2, l3, l4, l5, l6, l7, l8⟩ := h5'
  have h6' := h6
  obtain ⟨hV, hT, hgn, hM, hpr⟩ := h6'
  have h7' := h7
  obtain ⟨s5, s6, s7, s8, s9, s10, s11, s20, t16, t20, t21, t22, t23⟩ := h7'
  unfold fla_receive
  rw [hs1]
  have hflb : ∀ (t : Int32) (ci' : AR) (ca' : Nat → AR) (cl' : Nat → Nat → Int64) (ou' : Nat → Int64) (r v3 v4 v5 v6 v7 : Int32) (g8 g9 g10 g11 g12 g13 g14 g15 g16 g17 g18 g19 g20 g21 : AR), f_Mo_receive (mi 0) (mi 1) (mi 2) (mi 3) (mi 4) (mi 8) (mi 11) (mi 12) (mi 13) (mi 14) (ma 0) (ma 1) (ma 2) (ma 12) (ma 11) (ma 10) (ma 13) (ma 14) (ma 15) (ma 18) (ma 16) (ma 19) (ma 6) (ma 20) (ma 3) (ma 21) (ma 4) (ma 5) (ma 22) (ma 23) (ma 24) (ma 17) (ma 7) (xs (5 * j + 1)) = some (r, v3, v4, v5, v6, v7, g8, g9, g10, g11, g12, g13, g14, g15, g16, g17, g18, g19, g20, g21) → v3 = t → (t = 0 → ou' 0 = r.toInt64) → kh (nI (5 * j)) ci' ca' cl' (lI [v3, mi 1, mi 2, mi 3, mi 4, mi 5, mi 6, mi 7, mi 8, mi 9, mi 10, v4, v5, v6, v7]) (lA [ma 0, ma 1, ma 2, ma 3, ma 4, ma 5, ma 6, ma 7, ma 8, ma 9, ma 10, g9, g8, g10, g11, g12, g14, g21, g13, g15, g16, g17, g18, g19, g20]) ou' = some () → flb_receive xs L kh (nI (5 * j)) t ci' ca' cl' mi ma ou' = some () := by
    intro t ci' ca' cl' ou' r v3 v4 v5 v6 v7 g8 g9 g10 g11 g12 g13 g14 g15 g16 g17 g18 g19 g20 g21 he hv ho hkk
    unfold flb_receive
    rw [hs1, he, p_bd]
    simp only [p_nm, p_th, p_bd]
    rw [if_pos hv]
    by_cases ht : t = 0
    · rw [if_pos ht, q_r0, ho ht, if_pos (q_cmp _)]
      exact hkk
    · rw [if_neg ht]
      exact hkk
  generalize xs (5 * j + 1) = x at hflb
  have hbad : (x < 0 ∨ ¬ x ≤ 8) → f_Mo_receive (mi 0) (mi 1) (mi 2) (mi 3) (mi 4) (mi 8) (mi 11) (mi 12) (mi 13) (mi 14) (ma 0) (ma 1) (ma 2) (ma 12) (ma 11) (ma 10) (ma 13) (ma 14) (ma 15) (ma 18) (ma 16) (ma 19) (ma 6) (ma 20) (ma 3) (ma 21) (ma 4) (ma 5) (ma 22) (ma 23) (ma 24) (ma 17) (ma 7) x = some (0, 1, mi 11, mi 12, mi 13, mi 14, ma 12, ma 11, ma 13, ma 14, ma 15, ma 18, ma 16, ma 19, ma 20, ma 21, ma 22, ma 23, ma 24, ma 17) := by
    intro hx
    unfold f_Mo_receive f_Mo_receive_11 f_Mo_receive_16
    by_cases cx : x < 0
    · rw [if_pos cx, if_neg (by decide)]
    · rw [if_neg cx, if_neg (hx.resolve_left cx), if_neg (by decide)]
  have hgb : (x < 0 ∨ ¬ x ≤ 8) → g_DC_receive x = some 1 := by
    intro hx
    unfold g_DC_receive
    by_cases cx : x < 0
    · rw [if_pos cx]
    · rw [if_neg cx, if_neg (hx.resolve_left cx)]
  by_cases hx : x < 0 ∨ ¬ x ≤ 8
  · rw [hgb hx, p_ch1]
    exact hflb 1 ci ca cl ou _ _ _ _ _ _ _ _ _ _ _ _ _ _ _ _ _ _ _ _ (hbad hx) rfl (fun h => absurd h ne10) (hk _ _ _ _ _ _ ⟨D, F, E, P, h1, h2, cn_mono h3, h4, h5, h6, h7, h8, h9⟩)
  · have hx0 : ¬ x < 0 := fun h => hx (Or.inl h)
    have hx8 : x ≤ 8 := Classical.byContradiction fun h => hx (Or.inr h)
    obtain ⟨lim, hlim, rfl⟩ := nI_of2 (M := 8) (n := 8) (by decide) hx0 hx8
    have hg : g_DC_receive (nI lim) = none := by
      unfold g_DC_receive
      rw [if_neg hx0, if_pos hx8]
    rw [hg, p_ch0]
    obtain ⟨kk, lm1, ev', fc', oib', ds', od', fa1, lc1, cby1, syn1, coe1, pol1, ear1, spa1, pla1, evl1, pr1, lst', plc', row', mk1, wr1, tl1, rby1, lc1', wo1, va1, sy1, so1, wg1, ri1, z1, z2, z3, z4, z5, z6, z7⟩ := rcv_all hV f1 hT hM hpr (snt := snt) (lim := lim) hlim (cl := cl 0) (ln := ma 10) l8 (pla := ca 12) (wg := ma 24) (fa := ca 21) (mk := ma 14) (wr := ma 15) (tl := ma 18) (pr := ca 22) (ri := ma 17) (lc := ca 23) (lc' := ma 19) s20 t16 s7 s6 s8 s9 s10 s11 t20 t21 t22 t23 (ca 18) (ca 19) (ca 17) (ma 12) (ma 11) (ma 13) (ci 13) (cl 2) (cl 1) (ci 10) (ci 11) (ci 12) (mi 0) (mi 11) (mi 12) (mi 13) (mi 14)
    obtain ⟨q1, q2, q3, q4, q5, q6, q7, q8, q9, q10, q11, q12⟩ := z6
    have hLa : f_La_receive (ci 6) (ci 10) (ci 11) (ci 12) (ci 0) (ci 1) (ci 2) (ci 3) (ca 18) (ci 4) (ci 13) (cl 2) (cl 1) (cl 0) (ca 17) (ca 16) (ca 19) (ca 21) (ca 23) (ca 13) (ca 20) (ca 2) (ca 7) (ca 3) (ca 6) (ca 8) (ca 9) (ca 10) (ca 12) (ca 11) (ca 0) (ca 1) (ca 22) ou 1 (nI lim) = some (0, lm1, nI (lea P (cl 0) snt snt 0), nI kk, ev', nI snt, fc', oib', ds', od', fa1, lc1, cby1, syn1, coe1, pol1, ear1, spa1, pla1, evl1, pr1, vp_updL ou 0 (nI kk).toInt64) := by
      unfold f_La_receive
      rw [l4, f2, f3, f4, f5, l2, z1, p_bd]
      simp only [p_nm, q_w0]
    rw [hLa, p_bd]
    simp only [p_nm]
    rw [f6, f7, f8, f9, l5] at hflb
    refine hflb 0 _ _ _ _ _ _ _ _ _ _ _ _ _ _ _ _ _ _ _ _ _ _ _ _ z2 rfl (fun _ => show vp_updL ou 0 (nI kk).toInt64 0 = (nI kk).toInt64 from q_upd0) ?_
    exact hk _ _ _ _ _ _ ⟨D, F, E, P, ⟨f1, f2, f3, f4, f5, rfl, rfl, rfl, rfl⟩, h2, cn_mono h3, h4, ⟨snt, R, l1, l2, l3, l4, rfl, l6, l7, l8⟩, h6, ⟨s5, q4, q3, q5, q6, q7, q8, q1, q2, q9, q10, q11, q12⟩, ⟨snt, cnt_hi f1.2.2.2.1 l8.1, rfl, rfl, rfl, z3⟩, ⟨kk, z4, rfl, rfl, z5, z7⟩⟩
end
