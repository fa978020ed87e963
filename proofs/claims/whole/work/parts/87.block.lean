/-! PURE PART: one block read, on both sides -/
section
/-- what both sides keep of a block -/
def Blk (DW D k : Nat) (fa mk wr tl cby rby pr ri : AR) : Prop := fa (9 * k) = mk k ∧ fa (9 * k + 1) = wr k ∧ JR k fa tl rby ∧ (∀ i, i < DW → cby (k * DW + i) = rby (250 * k + i)) ∧ (∀ j, j < D → pr (8 * k + j) = ri (8 * k + j))
theorem blk_congr {DW D k : Nat} (hD : D ≤ 8) (hDW : DW ≤ 250) (h4 : 4 ≤ DW) {fa mk wr tl cby rby pr ri fa' mk' wr' tl' cby' rby' pr' ri' : AR} (h : Blk DW D k fa mk wr tl cby rby pr ri) (a1 : ∀ i, i < 9 → fa' (9 * k + i) = fa (9 * k + i)) (a2 : mk' k = mk k) (a3 : wr' k = wr k) (a4 : ∀ i, i < 6 → tl' (6 * k + i) = tl (6 * k + i)) (a5 : ∀ i, i < DW → cby' (k * DW + i) = cby (k * DW + i)) (a6 : ∀ i, i < DW → rby' (250 * k + i) = rby (250 * k + i)) (a7 : ∀ i, i < 8 → pr' (8 * k + i) = pr (8 * k + i)) (a8 : ∀ i, i < 8 → ri' (8 * k + i) = ri (8 * k + i)) : Blk DW D k fa' mk' wr' tl' cby' rby' pr' ri' := by
  obtain ⟨b1, b2, ⟨j1, j2, j3, j4⟩, b4, b5⟩ := h
  refine ⟨by rw [a2, ← b1]; exact a1 0 (by omega), by rw [a3, ← b2]; exact a1 1 (by omega), ⟨?_, ?_, ?_, ?_⟩, fun i hi => by rw [a5 i hi, a6 i hi]; exact b4 i hi, fun j hj => by rw [a7 j (by omega), a8 j (by omega)]; exact b5 j hj⟩
  · rw [a1 2 (by omega), j1]; exact (a4 0 (by omega)).symm
  · rw [a1 3 (by omega), a4 1 (by omega)]; exact j2
  · rw [a1 4 (by omega), a4 2 (by omega)]; exact j3
  · rw [a4 2 (by omega), a4 3 (by omega), a4 4 (by omega), a1 5 (by omega), a1 6 (by omega), a1 7 (by omega), a1 8 (by omega)]
    rcases j4 with ⟨c1, c2⟩ | ⟨c1, ⟨x, y, x1, x2, x3, x4, x5⟩, c3, c4⟩
    · exact Or.inl ⟨c1, fun i h5 h6 => by rw [a1 i h6]; exact c2 i h5 h6⟩
    · exact Or.inr ⟨c1, ⟨x, y, x1, x2, (a6 0 (by omega)).trans x3, (a6 1 (by omega)).trans x4, x5⟩, c3, c4⟩
set_option maxHeartbeats 2000000 in
theorem blk_one {K : Type} [Lean.Grind.Field K] {en fo : K → Int32} {g : K} {lgm prm elm fmm lgc prc elc fmc : AR} (hV : Env en fo g lgm prm elm fmm lgc prc elc fmc) {D F E P : Nat} (hO : FormOK D F E P) {fc : Nat → Int64} {row mxc mxm : AR} {M : Nat → Nat} (hM : ∀ t, t < 250 → mxc t = nI (M t) ∧ mxm t = nI (M t) ∧ M t < 256) {N : Nat} (hN : N < 3600) (hr : ∀ k, k < N → row k = bI (cb fc k)) {p k : Nat} (hp : p + (32 + 8 * (D * (255 - F))) ≤ N) (hkp : (32 + 8 * (D * (255 - F))) * k ≤ p) {fa cby rby mk wr tl pr ri lc lc' syn coe pol ear spa evl pla wo va sy so wg : AR} {lm lm' : Int32} (hL : LstOK lm lm' lc lc') (hf : fa (9 * k) = nI (p + 32)) (hf1 : fa (9 * k + 1) = nI (mkd (fun j => cb fc (p + j)) 32)) (b1 : BY cby) (b2 : BY rby) (b3 : BY syn) (b4 : BY coe) (b5 : BY pol) (b6 : BY ear) (b7 : BY spa) (b8 : BY evl) (b9 : BY wo) (b10 : BY va) (b11 : BY sy) (b12 : BY so)
    {KK : Nat} (hKK : k < KK) (hKK2 : KK ≤ 15) (kh : Int32 → Int32 → Int32 → AR → AR → AR → AR → AR → AR → AR → AR → AR → AR → AR → Option (Int32 × AR × AR × AR × AR × AR × AR × AR × AR × AR × AR × AR)) :
    ∃ (lm1 : Int32) (lc1 fa1 cby1 syn1 coe1 pol1 ear1 spa1 pla1 evl1 pr1 tl1 rby1 lc1' wo1 va1 sy1 so1 wg1 ri1 : AR), f_Receiver_readBlocks_17_b (nI KK) (nI D) (nI (255 - F)) (nI E) fc mxc prc lgc fmc elc kh (nI (k * (D * (255 - F)))) (nI k) lm lc fa cby syn coe pol ear spa pla evl pr = kh (nI ((k + 1) * (D * (255 - F)))) (nI (k + 1)) lm1 lc1 fa1 cby1 syn1 coe1 pol1 ear1 spa1 pla1 evl1 pr1 ∧
      f_Mo_take (nI D) (nI F) (nI E) (nI k) lm' mk row wr tl rby lc' elm wo prm va lgm fmm sy so wg ri mxm (nI p) = some (nI (k + 1), lm1, upd mk k (nI (p + 32)), upd wr k (nI (mkd (fun j => cb fc (p + j)) 32)), tl1, rby1, lc1', wo1, va1, sy1, so1, wg1, ri1) ∧
      LstOK lm1 lm1 lc1 lc1' ∧ Blk (D * (255 - F)) D k fa1 (upd mk k (nI (p + 32))) (upd wr k (nI (mkd (fun j => cb fc (p + j)) 32))) tl1 cby1 rby1 pr1 ri1 ∧ (BY cby1 ∧ BY rby1 ∧ BY syn1 ∧ BY coe1 ∧ BY pol1 ∧ BY ear1 ∧ BY spa1 ∧ BY evl1 ∧ BY wo1 ∧ BY va1 ∧ BY sy1 ∧ BY so1) ∧
      (∀ q, (q < 9 * k + 2 ∨ 9 * k + 9 ≤ q) → fa1 q = fa q) ∧ (∀ q, (q < 6 * k ∨ 6 * k + 6 ≤ q) → tl1 q = tl q) ∧ (∀ q, (q < k * (D * (255 - F)) ∨ k * (D * (255 - F)) + D * (255 - F) ≤ q) → cby1 q = cby q) ∧ (∀ q, (q < 250 * k ∨ 250 * k + D * (255 - F) ≤ q) → rby1 q = rby q) ∧ (∀ q, (q < 8 * k ∨ 8 * k + 8 ≤ q) → pr1 q = pr q ∧ ri1 q = ri q) := by
  have hV0 := hV
  obtain ⟨hg, hE, hFm, hfm, hFc, hfc, hsu⟩ := hV
  obtain ⟨o1, o2, o3, o4, o5, o6, o7⟩ := hO
  have hSW : D * (255 - F - 2 * E) ≤ D * (255 - F) := Nat.mul_le_mul_left _ (by omega)
  have hD8 : D ≤ 8 := by omega
  have hD1 : 1 ≤ D := by omega
  have hE1 : 1 ≤ E := by omega
  have hE2 : E ≤ 16 := by omega
  have hka : k * (D * (255 - F)) + D * (255 - F) ≤ 512 := by
    have h1 : (32 + 8 * (D * (255 - F))) * k = 32 * k + 8 * (k * (D * (255 - F))) := by rw [Nat.add_mul, Nat.mul_assoc, Nat.mul_comm (D * (255 - F)) k]
    omega
  generalize hDWe : D * (255 - F) = DW at *
  -- the bytes
  obtain ⟨by1, u1, u2, u3⟩ := u_c fc (mx := mxc) (M := M) (fun t ht => (hM t ht).1) (D := D) (W := 255 - F) (p := p) (a := k * DW) (by omega) (by omega) (by omega) 10000 0 cby (by omega) (by omega)
  rw [hDWe] at u2 u3
  obtain ⟨by2, t1, t2, t3⟩ := t_out fc (mx := mxm) (el := elm) (pr := prm) (lg := lgm) (fm := fmm) (M := M) (fun t ht => (hM t ht).2.1) (N := N) (by omega) hr (D := D) (F := F) (p := p) (a := 250 * k) (E' := nI E) o2 (by omega) (by omega) (by omega) (nI k) lm' (upd mk k (nI (p + 32))) (upd wr k (nI (mkd (fun j => cb fc (p + j)) 32))) tl lc' wo va sy so wg ri 10000 0 rby (by omega) (by omega)
  rw [hDWe] at t2 t3
  have hby1 : BY by1 := by
    intro i
    by_cases hx : ∃ t, t < DW ∧ i = k * DW + t
    · obtain ⟨t, ht, rfl⟩ := hx
      exact ⟨_, RBy_lt fc p (hM t (by omega)).2.2, u2 t (by omega) ht⟩
    · rw [u3 i (fun t _ ht h4 => hx ⟨t, ht, h4⟩)]; exact b1 i
  have hby2 : BY by2 := by
    intro i
    by_cases hx : ∃ t, t < DW ∧ i = 250 * k + t
    · obtain ⟨t, ht, rfl⟩ := hx
      exact ⟨_, RBy_lt fc p (hM t (by omega)).2.2, t2 t (by omega) ht⟩
    · rw [t3 i (fun t _ ht h4 => hx ⟨t, ht, h4⟩)]; exact b2 i
  obtain ⟨Y, eY⟩ := by_K hsu hby1
  obtain ⟨Z, eZ⟩ := by_K hsu hby2
  have hYZ : ∀ i, i < D * (255 - F) → Y (k * DW + i) = Z (250 * k + i) := by
    intro i hi
    rw [hDWe] at hi
    refine fo_inj hE hfc ?_
    have e1 : ea fo Y (k * DW + i) = nI (RBy fc M p i) := by rw [← eY]; exact u2 i (by omega) hi
    have e2 : ea fo Z (250 * k + i) = nI (RBy fc M p i) := by rw [← eZ]; exact t2 i (by omega) hi
    exact e1.trans e2.symm
  obtain ⟨Syn, e3⟩ := by_K hE.2.2.2.2.2.1 b3
  obtain ⟨Coe, e4⟩ := by_K hE.2.2.2.2.2.1 b4
  obtain ⟨Pol, e5⟩ := by_K hE.2.2.2.2.2.1 b5
  obtain ⟨Ear, e6⟩ := by_K hE.2.2.2.2.2.1 b6
  obtain ⟨Spa, e7⟩ := by_K hE.2.2.2.2.2.1 b7
  obtain ⟨Evl, e8⟩ := by_K hE.2.2.2.2.2.1 b8
  obtain ⟨Wo, e9⟩ := by_K hE.2.2.2.2.2.1 b9
  obtain ⟨Va, e10⟩ := by_K hE.2.2.2.2.2.1 b10
  obtain ⟨Sy, e11⟩ := by_K hE.2.2.2.2.2.1 b11
  obtain ⟨So, e12⟩ := by_K hE.2.2.2.2.2.1 b12
  obtain ⟨Pla, e13⟩ := any_nI pla
  obtain ⟨Wg, e14⟩ := any_nI wg
  obtain ⟨l, s, Y', Z', syn', coe', pol', ear', spa', evl', wo', va', sy', so', pla', wg', pr', ri', w1, w2, w3, w4, w5, w6, w7, w8, w9⟩ := w_all hV0 (D := D) (F := F) (E := E) (a := k * DW) (at_ := 250 * k) (k := k) o2 hE1 hE2 hD1 hD8 (by omega) (by omega) (by omega) (by omega) fa (nI k) lm' rfl (upd mk k (nI (p + 32))) (upd wr k (nI (mkd (fun j => cb fc (p + j)) 32))) tl lc' 10000 10000 0 0 0 Y Z Syn Coe Pol Ear Spa Evl Wo Va Sy So Pla Wg pr ri (by omega) (by omega) (by omega) (by omega) (by omega) hYZ (fun i hi => by omega)
  rw [hDWe] at w5 w7 w8
  obtain ⟨C, eC, hC⟩ := by_nat (by_fo hfc Y')
  obtain ⟨B, eB, hB⟩ := by_nat (by_fo hfm Z')
  have hBC : ∀ i, i < D * (255 - F) → C (k * DW + i) = B (250 * k + i) := by
    intro i hi
    rw [hDWe] at hi
    have h1 : ea nI C (k * DW + i) = ea nI B (250 * k + i) := by
      rw [← eC, ← eB]
      show fo (Y' (k * DW + i)) = fo (Z' (250 * k + i))
      rw [w5 i hi]
    have h2 := hC (k * DW + i)
    have h3 := hB (250 * k + i)
    exact (nI_eq (by omega) (by omega)).1 h1
  obtain ⟨fa2, lm1, fa3, lc1, tl1, lc1', j1, j2, j3, j4, j5, j6, j7⟩ := j_one (D := D) (F := F) (E := E) (k := k) (l := l) (s := s) (a := k * DW) o2 o5 o6 (by omega) (by omega) (by omega) (by omega) hB hC hBC hL (fa := fa) (tl := tl) (upd mk k (nI (p + 32))) (upd wr k (nI (mkd (fun j => cb fc (p + j)) 32))) (ea en wo') (ea en va') (ea en sy') (ea en so') (ea nI wg') ri' (ea en syn') (ea en coe') (ea en pol') (ea en ear') (ea en spa') (ea nI pla') (ea en evl') pr'
  refine ⟨lm1, lc1, fa3, ea nI C, ea en syn', ea en coe', ea en pol', ea en ear', ea en spa', ea nI pla', ea en evl', pr', tl1, ea nI B, lc1', ea en wo', ea en va', ea en sy', ea en so', ea nI wg', ri', ?_, ?_, j4, ⟨?_, ?_, j5, fun i hi => ?_, w6⟩, ⟨?_, ?_, by_en hE _, by_en hE _, by_en hE _, by_en hE _, by_en hE _, by_en hE _, by_en hE _, by_en hE _, by_en hE _, by_en hE _⟩, j6, j7, fun q hq => ?_, fun q hq => ?_, w9⟩
  · unfold f_Receiver_readBlocks_17_b f_Receiver_unmix f_Receiver_putWordsRight
    rw [nI_0] at u1
    rw [nI_0] at w1
    rw [if_neg (nI_ge hKK (by omega)), show (0 : Int32) = nI 0 from rfl, ft_ok (by omega) (by omega), Nat.add_zero, hf, q_bd, q_nm, nI_0, u1, q_bd, q_nm, eY, e3, e4, e5, e6, e7, e8, e13, w1, eC, j1, q_bd]
    simp only [q_nm]
    rw [j2, q_bd, bs_c, q_bd, hDWe, nI_add, nI_1, show k * DW + DW = (k + 1) * DW by rw [Nat.add_mul, Nat.one_mul]]
  · unfold f_Mo_take
    rw [nI_0] at t1
    rw [nI_0] at w2
    rw [q_nm, q_wrI (by omega) (by decide), mw_ok (N := N) (f := cb fc) (by omega) (by omega) hr, q_bd, q_nm, q_wrI (by omega) (by decide), show nI p + (32 : Int32) = nI (p + 32) from nI_add p 32, show (250 : Int32) * nI k = nI (250 * k) from pk_mul 250 k, t1]
    unfold f_Mo_take_112
    rw [eZ, e9, e10, e11, e12, e14, w2, eB]
    exact j3
  · rw [j6 _ (by omega), hf, pk_us]
  · rw [j6 _ (by omega), hf1, pk_us]
  · show nI (C (k * DW + i)) = nI (B (250 * k + i))
    rw [hBC i (by omega)]
  · rw [← eC]; exact by_fo hfc Y'
  · rw [← eB]; exact by_fo hfm Z'
  · rw [← eC]
    show fo (Y' q) = cby q
    rw [w7 q hq]
    have : ea fo Y q = cby q := by
      rw [← eY]
      exact u3 q (fun t _ ht h4 => by omega)
    exact this
  · rw [← eB]
    show fo (Z' q) = rby q
    rw [w8 q hq]
    have : ea fo Z q = rby q := by
      rw [← eZ]
      exact t3 q (fun t _ ht h4 => by omega)
    exact this
end
