/-! PURE PART: the case send -/
section
theorem cf_ok {cc : AR} {n h m : Nat} (hh : h ≤ 7) (hcc : cc h = nI (m % 256)) (hn : n < 2 ^ 20) : f_Sender_countFrame (nI (n % 256)) cc (nI h) = some ((nI (n % 256) + 1) &&& 255, upd cc h ((nI (m % 256) + 1) &&& 255)) := by
  unfold f_Sender_countFrame
  rw [q_nm, q_rdI (by omega) (by decide), q_wrI (by omega) (by decide), hcc]
theorem sk_ok {mc : AR} {n h m : Nat} (hh : h ≤ 7) (hmc : mc h = nI m) (th : Int32) : f_Mo_skip th (nI n) mc (nI h) = some (0, nI n + 1, upd mc h (nI m + 1)) := by
  unfold f_Mo_skip f_Mo_skip_16
  rw [if_neg (nI_pos (by omega)), if_pos (show nI h ≤ (7 : Int32) from nI_le (b := 7) hh (by decide)), if_pos rfl, q_nm, q_rdI (by omega) (by decide), q_wrI (by omega) (by decide), hmc]
theorem p_nm {α β : Type} {e : α} {k : α → Option β} : nm e k = k e := by rw [nm]
theorem p_bd {α β : Type} {a : α} {k : α → Option β} : bd (some a) k = k a := by rw [bd]
theorem p_ch0 {β : Type} {a b c : Option β} : ch3 none a b c = c := by rw [ch3]
theorem p_ch1 {β : Type} {a b c : Option β} : ch3 (some 1) a b c = a := by rw [ch3]
theorem p_ch2 {β : Type} {a b c : Option β} : ch3 (some 2) a b c = b := by rw [ch3]
theorem mk_i : (449838109 : Int32) = nI 449838109 := by decide
theorem pb_mk (P r p l : Int32) (c : Nat → Int64) : f_Coder_putBits r p P l c (449838109 : Int32) (32 : Int32) = cRun P (bitsD 449838109 32) r p l c := by
  rw [mk_i, show (32 : Int32) = nI 32 from rfl]
  exact pb_ok P (by omega) (by omega) r p l c
set_option maxHeartbeats 2000000 in
theorem snd_all {K : Type} [Lean.Grind.Field K] {en fo : K → Int32} {g : K} {lgm prm elm fmm lgc prc elc fmc gn : AR} (hV : Env en fo g lgm prm elm fmm lgc prc elc fmc) {D F E P : Nat} (hO : FormOK D F E P) (hgn : GenOK en g E gn) {bg fs sc : AR} (hT : Tab bg fs sc) {mxc mxm : AR} {M : Nat → Nat} (hM : ∀ t, t < 250 → mxc t = nI (M t) ∧ mxm t = nI (M t) ∧ M t < 256) {c h n m : Nat} {sb cc mc da rb val wd sol sys rem : AR} (hc : c ≤ 1023) (hh : h ≤ 7) (hn : n < 2 ^ 20) (hm : m < 2 ^ 20) (hmc : mc h = nI m) (hcc : cc h = nI (m % 256)) (hda : ∀ k, k < D * (255 - F - 2 * E) - 8 → sb (6 + k) = da k) (b1 : BY sb) (b2 : BY rb) (b3 : BY val) (b4 : BY wd) (b5 : BY sol) (b6 : BY sys) (b7 : BY rem) {snt R : Nat} {cl : Nat → Int64} {ln : AR} (hR : R < 128) (hRow : RowEq (cnt P 0 snt) cl ln) (hroom : cnt P 0 snt + cnt P snt (32 + 8 * (D * (255 - F))) ≤ 4096) (wt th : Int32) :
    ∃ (R' : Nat) (cl' : Nat → Int64) (ln' sb' rem' rb' val' wd' sol' sys' : AR), f_Sender_sendFrame (nI (n % 256)) (nI c) wt sb cc (nI D) (nI (255 - F)) (nI E) (nI P) rem fmc elc gn lgc prc (nI R) (nI snt) (nI (cnt P 0 snt)) cl mxc (nI h) = some ((nI (n % 256) + 1) &&& 255, 0, sb', upd cc h ((nI (m % 256) + 1) &&& 255), rem', nI R', nI (snt + (32 + 8 * (D * (255 - F)))), nI (cnt P 0 (snt + (32 + 8 * (D * (255 - F))))), cl') ∧
      bd (f_Mo_lay (nI D) (nI F) (nI E) (nI c) (nI n) rb prm val lgm wd sol sys fmm elm mc da (3750 : Int32) (nI h)) (fun u => f_Mo_send_89 (nI D) (nI F) (nI P) bg fs sc mxm 10000 (nI h) 3750 3 0 wt (nI n) (nI (cnt P 0 snt)) (nI snt) (nI (R / 2)) u.1 u.2.1 u.2.2.1 u.2.2.2.1 u.2.2.2.2 mc ln) = some (nI (cnt P 0 (snt + (32 + 8 * (D * (255 - F))))), 0, 0, nI n + 1, nI (cnt P 0 (snt + (32 + 8 * (D * (255 - F))))), nI (snt + (32 + 8 * (D * (255 - F)))), nI (R' / 2), rb', val', wd', sol', sys', upd mc h (nI m + 1), ln') ∧
      R' < 128 ∧ RowEq (cnt P 0 (snt + (32 + 8 * (D * (255 - F))))) cl' ln' ∧ BY sb' ∧ BY rb' ∧ BY val' ∧ BY wd' ∧ BY sol' ∧ BY sys' ∧ BY rem' ∧ (∀ i, i < 3750 → rb' i = rb i) := by
  have hO0 := hO
  obtain ⟨o1, o2, o3, o4, o5, o6, o7⟩ := hO
  have hSW : D * (255 - F - 2 * E) ≤ D * (255 - F) := Nat.mul_le_mul_left _ (by omega)
  obtain ⟨B14, e14, l14⟩ := by_nat b1
  obtain ⟨g15, cr, rem', sb', rb', val', wd', sol', sys', q1, q2, q3, q4, y1, y2, y3, y4, y5, y6, y7, y8, y9⟩ := q_lay hV hO0 hgn (c := c) (h := h) (n := n) (m := m) (dat := fun k => B14 (6 + k)) (sb := sb) (cc := cc) (mc := mc) (da := da) hc hh (by omega) (by omega) hmc hcc (fun k hk => by
    have e : sb (6 + k) = nI (B14 (6 + k)) := by rw [e14]; rfl
    exact ⟨by rw [← hda k hk]; exact e, e, l14 _⟩) b1 b2 b3 b4 b5 b6 b7
  have hs := cnt_hi o4 hRow.1
  have hca : cnt P snt (32 + 8 * (D * (255 - F))) = cnt P snt 32 + cnt P (snt + 32) (8 * (D * (255 - F))) := cnt_add ..
  have hce : cnt P 0 (snt + (32 + 8 * (D * (255 - F)))) = cnt P 0 snt + cnt P snt 32 + cnt P (snt + 32) (8 * (D * (255 - F))) := by rw [cnt_add, Nat.zero_add, hca, Nat.add_assoc]
  obtain ⟨R1, cl1, ln1, r1, r2, r3, r4⟩ := run_ok hT o4 (bitsD 449838109 32) (cnt P 0 snt) snt R cl ln hRow hR (by rw [bitsD_len]; omega) (by rw [bitsD_len]; omega)
  rw [bitsD_len] at r1 r2 r3
  obtain ⟨R', cl', ln', s1, s2, s3, s4⟩ := snd_lp hT o4 (D := D) (F := F) o2 o7 (mxc := mxc) (mxm := mxm) (sb := sb') (rb := rb') (fun k hk => by rw [(hM k hk).1, (hM k hk).2.1]) (fun t ht => ⟨M t, (hM t ht).2.2, (hM t ht).2.1⟩) y1 y8 (nI h) (nI (n % 256)) wt 0 wt (nI n) cc rem' val' wd' sol' sys' mc (D * (255 - F)) 10000 10000 0 (cnt P 0 snt + cnt P snt 32) (snt + 32) R1 cl1 ln1 (by omega) (by omega) (by omega) r3 r4 (by omega) (by omega)
  refine ⟨R', cl', ln', sb', rem', rb', val', wd', sol', sys', ?_, ?_, s4, ?_, y1, y2, y3, y4, y5, y6, y7, y9⟩
  · unfold f_Sender_sendFrame
    rw [q1, q_bd, q_nm, fs_c D o5, q_bd, q_nm, q_nm, show nI (D * (255 - F - 2 * E)) - (2 : Int32) = nI (D * (255 - F - 2 * E) - 2) from pk_sub (b := 2) (by omega), q2, q_bd, q_nm, q_wrI (by omega) (by decide), nI_1, q_wrI (by omega) (by decide), q3, q_bd, q_nm, q_nm, pb_mk, r1, q_bd, q_nm, q_nm, q_nm, q_nm]
    rw [nI_0] at s1
    rw [s1]
    unfold f_Sender_sendFrame_114
    rw [cf_ok hh hcc hn, q_bd, q_nm, q_nm, hce, Nat.add_assoc snt]
  · rw [q4, q_bd, m_mark, r2, q_bd]
    unfold f_Mo_send_114
    rw [nI_0] at s2
    rw [s2]
    unfold f_Mo_send_149
    rw [sk_ok hh hmc, q_bd, q_nm, q_nm, q_nm, hce, Nat.add_assoc snt]
  · rw [hce]
    exact s3
theorem blk_keep {D F : Nat} (hD : D ≤ 8) (hDW : D * (255 - F) ≤ 250) (h4 : 4 ≤ D * (255 - F)) {c12 m13 : Int32} {a20 a21 a22 b14 b15 b16 b16' b17 b18 : AR} (h : GBlk D F c12 m13 a20 a21 a22 b14 b15 b16 b17 b18) (hb : ∀ i, i < 3750 → b16' i = b16 i) : GBlk D F c12 m13 a20 a21 a22 b14 b15 b16' b17 b18 := by
  obtain ⟨kk, k1, k2, k3, k4, k5⟩ := h
  exact ⟨kk, k1, k2, k3, k4, fun j hj => blk_congr hD hDW h4 (k5 j hj) (fun i _ => rfl) rfl rfl (fun i _ => rfl) (fun i _ => rfl) (fun i hi => hb _ (by omega)) (fun i _ => rfl) (fun i _ => rfl)⟩
end
