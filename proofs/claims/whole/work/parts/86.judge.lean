/-! PURE PART: a frame judged, its gaps -/
section
theorem gap_c {n m : Nat} (hn : n < 256) (hm : m < 256) : (nI n - nI m - 1) &&& 255 = nI ((n + 255 - m) % 256) := by
  have h : nI (n + (2 ^ 32 - 1 - m)) + nI m + 1 = nI n := by
    rw [nI_add, nI_1, show n + (2 ^ 32 - 1 - m) + m + 1 = n + 2 ^ 32 by omega, ← nI_add, show nI (2 ^ 32) = 0 from rfl, Int32.add_zero]
  have e : nI n - nI m - 1 = nI (n + (2 ^ 32 - 1 - m)) := by
    rw [← h]
    generalize nI (n + (2 ^ 32 - 1 - m)) = x
    generalize nI m = y
    grind
  rw [e, pk_and _ 8 (by decide)]
  show nI ((BitVec.ofNat 32 (n + (2 ^ 32 - 1 - m))).toNat % 2 ^ 8) = _
  rw [BitVec.toNat_ofNat]
  congr 1
  omega
theorem gap_m {n m : Nat} (hn : n < 256) (hm : m < 256) : (nI n - nI m - 1 + 512) - (nI n - nI m - 1 + 512) / 256 * 256 = nI ((n + 255 - m) % 256) := by
  have h : nI (n + 511 - m) + nI m = nI n + nI 511 := by
    rw [nI_add, nI_add]
    congr 1
    omega
  have e : nI n - nI m - 1 + 512 = nI (n + 511 - m) := by
    have h2 : nI n = nI (n + 511 - m) + nI m - nI 511 := by
      rw [h]
      generalize nI n = x
      generalize nI 511 = y
      grind
    rw [h2, show nI 511 = (511 : Int32) from rfl]
    generalize nI (n + 511 - m) = x
    generalize nI m = y
    grind
  rw [e, show (256 : Int32) = nI 256 from rfl, pk_rem (by omega) (by omega) (by omega)]
  congr 1
  omega
/-- a count seen last: none, or a byte -/
def Lst (v : Int32) : Prop := v = -1 ∨ ∃ m, m < 256 ∧ v = nI m
theorem gap_eq {v : Int32} (hv : Lst v) {n : Nat} (hn : n < 256) : ∃ r, f_Receiver_gap v (nI n) = some r ∧ f_Mo_gap (nI n) v = some r := by
  unfold f_Receiver_gap f_Mo_gap
  rcases hv with rfl | ⟨m, hm, rfl⟩
  · rw [if_pos rfl, if_neg (by decide)]
    exact ⟨_, rfl, rfl⟩
  · rw [if_neg (show ¬ nI m = -1 from fun h => absurd (show (0 : Int32) ≤ -1 from h ▸ nI_pos' (by omega)) (by decide)), if_pos (nI_pos' (by omega)), q_dv (by decide), gap_c hn hm, gap_m hn hm]
    exact ⟨_, rfl, rfl⟩
theorem sf_ok {fa : AR} {k w : Nat} (hk : k < 16) (hw : w < 9) (v : Int32) : f_Receiver_setFact fa (nI k) (nI w) v = some (upd fa (9 * k + w) v) := by
  unfold f_Receiver_setFact
  rw [show nI k * (9 : Int32) = nI (9 * k) by rw [show (9 : Int32) = nI 9 from rfl, pk_mul, Nat.mul_comm], nI_add, q_wrI (by omega) (by decide)]
theorem ft_ok {fa : AR} {k w : Nat} (hk : k < 16) (hw : w < 9) : f_Receiver_fact fa (nI k) (nI w) = some (fa (9 * k + w)) := by
  unfold f_Receiver_fact
  rw [show nI k * (9 : Int32) = nI (9 * k) by rw [show (9 : Int32) = nI 9 from rfl, pk_mul, Nat.mul_comm], nI_add, q_rdI (by omega) (by decide)]
theorem two_by {x y : Nat} (hx : x < 256) (hy : y < 256) : (nI x <<< ((8 : Int32) &&& 31)) ||| nI y = nI (256 * x + y) := by
  rw [pk_shlN _ 8 (by decide) (by omega), nI_or, Nat.mul_comm, ← Nat.two_pow_add_eq_or_of_lt (i := 8) hy]
/-- what both sides keep of a judged block -/
def JR (k : Nat) (fa tl rb : AR) : Prop := fa (9 * k + 2) = tl (6 * k) ∧ fa (9 * k + 3) = tl (6 * k + 1) ∧ fa (9 * k + 4) = tl (6 * k + 2) ∧ ((tl (6 * k + 2) = 0 ∧ ∀ i, 5 ≤ i → i < 9 → fa (9 * k + i) = -1) ∨ (tl (6 * k + 2) = 1 ∧ (∃ x y, x < 256 ∧ y < 256 ∧ rb (250 * k) = nI x ∧ rb (250 * k + 1) = nI y ∧ fa (9 * k + 5) = nI ((256 * x + y) / 16 % 1024) ∧ fa (9 * k + 6) = nI ((256 * x + y) / 2 % 8)) ∧ fa (9 * k + 7) = tl (6 * k + 3) ∧ fa (9 * k + 8) = tl (6 * k + 4)))
def LstOK (lm lm' : Int32) (lc lc' : AR) : Prop := lm = lm' ∧ Lst lm ∧ ∀ c, c < 8 → lc c = lc' c ∧ Lst (lc c)
theorem jf_lp {k : Nat} (hk : k < 16) (lm : Int32) (lc : AR) : ∀ fu i (fa : AR), 5 ≤ i → i ≤ 9 → 9 - i < fu → ∃ fa', f_Receiver_judgeFrame_97 fu (nI k) (nI i) lm fa lc = some (lm, fa', lc) ∧ (∀ j, i ≤ j → j < 9 → fa' (9 * k + j) = -1) ∧ (∀ q, (q < 9 * k + i ∨ 9 * k + 9 ≤ q) → fa' q = fa q) := by
  intro fu
  induction fu with
  | zero => intro i fa h0 h1 h2; omega
  | succ fu ih =>
    intro i fa h0 h1 h2
    show ∃ fa', f_Receiver_judgeFrame_97_b _ _ _ _ _ _ = _ ∧ _ ∧ _
    unfold f_Receiver_judgeFrame_97_b
    by_cases e : i = 9
    · rw [if_pos (show (8 : Int32) < nI i from nI_lt (a := 8) (by omega) (by omega))]
      exact ⟨fa, rfl, fun j h3 h4 => by omega, fun q _ => rfl⟩
    · rw [if_neg (show ¬ (8 : Int32) < nI i from nI_nlt (a := 8) (by omega) (by decide)), sf_ok hk (by omega), q_bd, q_nm, q_nm, nI_1]
      obtain ⟨fa', h3, h4, h5⟩ := ih (i + 1) (upd fa (9 * k + i) (-1)) (by omega) (by omega) (by omega)
      refine ⟨fa', h3, fun j h6 h7 => ?_, fun q hq => ?_⟩
      · by_cases c : j = i
        · subst c
          rw [h5 _ (by omega), pk_us]
        · exact h4 j (by omega) h7
      · rw [h5 q (by omega), pk_un (by omega)]
theorem tk_crc {D F E k : Nat} (hF : F ≤ 250) (hEW : 2 * E < 255 - F) {B : Nat → Nat} (hB : ∀ i, B i < 256) {at_ : Nat} (h9 : 9 ≤ D * (255 - F - 2 * E)) (hat : at_ + D * (255 - F - 2 * E) ≤ 4000) (x3 x4 bl lm : Int32) (mk wr tl lc wo va sy so wg ri : AR) :
    ∀ fu i, i ≤ D * (255 - F - 2 * E) - 2 → D * (255 - F - 2 * E) - 2 - i < fu → f_Mo_take_197 (nI D) (nI F) (nI E) fu (nI at_) x3 x4 (nI (crcA B at_ i)) (nI i) bl lm mk wr tl (ea nI B) lc wo va sy so wg ri = f_Mo_take_230 (nI D) (nI F) (nI E) (nI at_) x3 x4 (nI (crcA B at_ (D * (255 - F - 2 * E) - 2))) bl lm mk wr tl (ea nI B) lc wo va sy so wg ri := by
  intro fu
  induction fu with
  | zero => intro i h1 h2; omega
  | succ fu ih =>
    intro i h1 h2
    show f_Mo_take_197_b _ _ _ _ _ _ _ _ _ _ _ _ _ _ _ _ _ _ _ _ _ _ = _
    unfold f_Mo_take_197_b
    rw [fs_m D hF hEW, q_bd, q_nm, show nI (D * (255 - F - 2 * E)) - 2 = nI (D * (255 - F - 2 * E) - 2) from pk_sub (b := 2) (by omega)]
    by_cases e : i = D * (255 - F - 2 * E) - 2
    · rw [if_pos (nI_le (by omega) (by omega)), e]
    · have hb := hB (at_ + i)
      rw [if_neg (nI_ge (by omega) (by omega)), nI_add, ea_rd (by omega) (by decide), c_on (crcA_lt _ _ _) (by omega), q_bd, q_nm, q_nm, nI_1]
      exact ih (i + 1) (by omega) (by omega)
set_option maxHeartbeats 1000000 in
theorem j_one {D F E k l s a : Nat} (hF : F ≤ 250) (hEW : 2 * E < 255 - F) (h9 : 9 ≤ D * (255 - F - 2 * E)) (hDW : D * (255 - F) ≤ 250) (hk : k < 15) (ha : a + D * (255 - F) ≤ 512) (hl : l ≤ 8) {B C : Nat → Nat} (hB : ∀ i, B i < 256) (hC : ∀ i, C i < 256) (hBC : ∀ i, i < D * (255 - F) → C (a + i) = B (250 * k + i)) {fa tl lc lc' : AR} {lm lm' : Int32} (hL : LstOK lm lm' lc lc') (mk wr wo va sy so wg ri : AR) (syn coe pol ear spa pla evl pr : AR) :
    ∃ fa2 lm1 fa3 lc1 tl1 lc1', f_Receiver_putWordsRight_75 (nI k) (nI l) (nI s) fa syn coe pol ear spa pla evl (ea nI C) pr = some (fa2, syn, coe, pol, ear, spa, pla, evl, ea nI C, pr) ∧ f_Receiver_judgeFrame lm (nI D) (nI (255 - F)) (nI E) (ea nI C) fa2 lc (nI k) (nI a) = some (lm1, fa3, lc1) ∧ f_Mo_take_190 (nI D) (nI F) (nI E) (nI (250 * k)) (nI l) (nI s) (nI k) lm' mk wr tl (ea nI B) lc' wo va sy so wg ri = some (nI (k + 1), lm1, mk, wr, tl1, ea nI B, lc1', wo, va, sy, so, wg, ri) ∧ LstOK lm1 lm1 lc1 lc1' ∧ JR k fa3 tl1 (ea nI B) ∧ (∀ q, (q < 9 * k + 2 ∨ 9 * k + 9 ≤ q) → fa3 q = fa q) ∧ (∀ q, (q < 6 * k ∨ 6 * k + 6 ≤ q) → tl1 q = tl q) := by
  obtain ⟨hl1, hl2, hl3⟩ := hL
  subst hl1
  have hSW : D * (255 - F - 2 * E) ≤ D * (255 - F) := Nat.mul_le_mul_left _ (by omega)
  have hcrc : crcA C a (D * (255 - F - 2 * E) - 2) = crcA B (250 * k) (D * (255 - F - 2 * E) - 2) := crcA_congr (fun i hi => hBC i (by omega))
  have htc := tk_crc (D := D) (k := k) hF hEW hB (at_ := 250 * k) h9 (by omega) (nI l) (nI s) (nI k) lm mk wr tl lc' wo va sy so wg ri 10000 0 (by omega) (by omega)
  generalize hS : D * (255 - F - 2 * E) = S at *
  have hcl := crcA_lt B (250 * k) (S - 2)
  have hpw : f_Receiver_putWordsRight_75 (nI k) (nI l) (nI s) fa syn coe pol ear spa pla evl (ea nI C) pr = some (upd (upd fa (9 * k + 2) (nI l)) (9 * k + 3) (nI s), syn, coe, pol, ear, spa, pla, evl, ea nI C, pr) := by
    unfold f_Receiver_putWordsRight_75
    rw [show (2 : Int32) = nI 2 from rfl, sf_ok (by omega) (by omega), q_bd, q_nm, show (3 : Int32) = nI 3 from rfl, sf_ok (by omega) (by omega), q_bd, q_nm]
  refine ⟨upd (upd fa (9 * k + 2) (nI l)) (9 * k + 3) (nI s), ?_⟩
  suffices hsuf : ∃ lm1 fa3 lc1 tl1 lc1', f_Receiver_judgeFrame lm (nI D) (nI (255 - F)) (nI E) (ea nI C) (upd (upd fa (9 * k + 2) (nI l)) (9 * k + 3) (nI s)) lc (nI k) (nI a) = some (lm1, fa3, lc1) ∧ f_Mo_take_190 (nI D) (nI F) (nI E) (nI (250 * k)) (nI l) (nI s) (nI k) lm mk wr tl (ea nI B) lc' wo va sy so wg ri = some (nI (k + 1), lm1, mk, wr, tl1, ea nI B, lc1', wo, va, sy, so, wg, ri) ∧ LstOK lm1 lm1 lc1 lc1' ∧ JR k fa3 tl1 (ea nI B) ∧ (∀ q, (q < 9 * k + 2 ∨ 9 * k + 9 ≤ q) → fa3 q = fa q) ∧ (∀ q, (q < 6 * k ∨ 6 * k + 6 ≤ q) → tl1 q = tl q) by
    obtain ⟨lm1, fa3, lc1, tl1, lc1', z⟩ := hsuf
    exact ⟨lm1, fa3, lc1, tl1, lc1', hpw, z⟩
  have hx1 := hC (a + (S - 2))
  have hx2 := hC (a + (S - 2) + 1)
  have e1 : C (a + (S - 2)) = B (250 * k + (S - 2)) := hBC _ (by omega)
  have e2 : C (a + (S - 2) + 1) = B (250 * k + (S - 2) + 1) := by rw [Nat.add_assoc, Nat.add_assoc]; exact hBC _ (by omega)
  unfold f_Receiver_judgeFrame
  rw [fs_c D hEW, hS, q_bd, q_nm, q_nm, show nI S - 2 = nI (S - 2) from pk_sub (b := 2) (by omega), nI_add, ea_rd (by omega) (by decide), nI_1, ea_rd (by omega) (by decide), two_by hx1 hx2, q_nm, show (2 : Int32) = nI 2 from rfl, ft_ok (by omega) (by omega), q_bd, q_nm, pk_un (by omega), pk_us, c_of hC (by omega) (by omega), hcrc]
  unfold f_Mo_take_190
  have htc' : f_Mo_take_197 (nI D) (nI F) (nI E) 10000 (nI (250 * k)) (nI l) (nI s) 65535 0 (nI k) lm mk wr tl (ea nI B) lc' wo va sy so wg ri = _ := htc
  rw [htc']
  unfold f_Mo_take_230
  rw [fs_m D hF hEW, hS]
  simp only [q_bd, q_nm]
  rw [nI_add, show nI (250 * k + S) - (2 : Int32) = nI (250 * k + S - 2) from pk_sub (b := 2) (by omega), show nI (250 * k + S) - (1 : Int32) = nI (250 * k + S - 1) from pk_sub (b := 1) (by omega), show 250 * k + S - 2 = 250 * k + (S - 2) by omega, show 250 * k + S - 1 = 250 * k + (S - 2) + 1 by omega, ea_rd (by omega) (by decide), ea_rd (by omega) (by decide), show (256 : Int32) = nI 256 from rfl, pk_mul, nI_add, e1, e2]
  have hbad : ∃ lm1 fa3 lc1 tl1 lc1', f_Receiver_judgeFrame_61 (ea nI C) (nI k) (nI a) lm (upd (upd fa (9 * k + 2) (nI l)) (9 * k + 3) (nI s)) lc = some (lm1, fa3, lc1) ∧ f_Mo_take_274 (nI (250 * k)) (nI l) (nI s) (nI k) lm mk wr tl (ea nI B) lc' wo va sy so wg ri = some (nI (k + 1), lm1, mk, wr, tl1, ea nI B, lc1', wo, va, sy, so, wg, ri) ∧ LstOK lm1 lm1 lc1 lc1' ∧ JR k fa3 tl1 (ea nI B) ∧ (∀ q, (q < 9 * k + 2 ∨ 9 * k + 9 ≤ q) → fa3 q = fa q) ∧ (∀ q, (q < 6 * k ∨ 6 * k + 6 ≤ q) → tl1 q = tl q) := by
    unfold f_Receiver_judgeFrame_61 f_Receiver_judgeFrame_62 f_Receiver_judgeFrame_77 f_Mo_take_274 f_Mo_take_275 f_Mo_take_329 f_Mo_take_340
    simp only [if_true]
    rw [show (4 : Int32) = nI 4 from rfl, sf_ok (by omega) (by omega), q_bd, q_nm]
    obtain ⟨fa', h3, h4, h5⟩ := jf_lp (k := k) (by omega) lm lc 10000 5 (upd (upd (upd fa (9 * k + 2) (nI l)) (9 * k + 3) (nI s)) (9 * k + 4) 0) (by omega) (by omega) (by omega)
    have h3' : f_Receiver_judgeFrame_97 10000 (nI k) 5 lm (upd (upd (upd fa (9 * k + 2) (nI l)) (9 * k + 3) (nI s)) (9 * k + 4) 0) lc = some (lm, fa', lc) := h3
    rw [show (6 : Int32) * nI k = nI (6 * k) from pk_mul 6 k, show nI (6 * k) + (1 : Int32) = nI (6 * k + 1) from nI_1 _, show nI (6 * k) + (2 : Int32) = nI (6 * k + 2) from nI_add _ 2, q_wrI (by omega) (by decide), q_wrI (by omega) (by decide), q_wrI (by omega) (by decide), q_nm, nI_1]
    refine ⟨lm, fa', lc, _, lc', h3', rfl, ⟨rfl, hl2, hl3⟩, ⟨?_, ?_, ?_, Or.inl ⟨pk_us, fun i h6 h7 => h4 i h6 h7⟩⟩, fun q hq => ?_, fun q hq => ?_⟩
    · rw [h5 _ (by omega), pk_un (by omega), pk_un (by omega), pk_us, pk_un (by omega), pk_un (by omega), pk_us]
    · rw [h5 _ (by omega), pk_un (by omega), pk_us, pk_un (by omega), pk_us]
    · rw [h5 _ (by omega), pk_us, pk_us]
    · rw [h5 q (by omega), pk_un (by omega), pk_un (by omega), pk_un (by omega)]
    · rw [pk_un (by omega), pk_un (by omega), pk_un (by omega)]
  by_cases c0 : l = 0
  rotate_left
  · have c0' : ¬ nI l = 0 := nI_ne0 (by omega) (by omega)
    rw [if_neg c0', if_neg c0']
    exact hbad
  have c0' : nI l = 0 := by rw [c0]; rfl
  rw [if_pos c0', if_pos c0']
  have hb1 := hB (250 * k + (S - 2))
  have hb2 := hB (250 * k + (S - 2) + 1)
  by_cases c1 : crcA B (250 * k) (S - 2) = 256 * B (250 * k + (S - 2)) + B (250 * k + (S - 2) + 1)
  rotate_left
  · have c1' : ¬ nI (crcA B (250 * k) (S - 2)) = nI (256 * B (250 * k + (S - 2)) + B (250 * k + (S - 2) + 1)) := by rw [nI_eq (by omega) (by omega)]; exact c1
    rw [if_neg c1', if_neg c1']
    exact hbad
  rw [if_pos (by rw [c1]), if_pos (by rw [c1])]
  clear hbad htc htc'
  have y0 := hB (250 * k)
  have y1 := hB (250 * k + 1)
  have y2 := hB (250 * k + 2)
  have y3 := hB (250 * k + 3)
  have d0 : C a = B (250 * k) := hBC 0 (by omega)
  have d1 : C (a + 1) = B (250 * k + 1) := hBC 1 (by omega)
  have d2 : C (a + 2) = B (250 * k + 2) := hBC 2 (by omega)
  have d3 : C (a + 3) = B (250 * k + 3) := hBC 3 (by omega)
  have hch : (B (250 * k + 1)) / 2 % 8 < 8 := by omega
  obtain ⟨r1, g1, g2⟩ := gap_eq hl2 y2
  have g1' : f_Receiver_gap lm (nI (B (250 * k + 2))) = some r1 := g1
  obtain ⟨r2, g3, g4⟩ := gap_eq (hl3 _ hch).2 y3
  have hlc := (hl3 _ hch).1
  have hcl : f_Receiver_judgeFrame_62 (ea nI C) (nI k) (nI a) 1 lm (upd (upd fa (9 * k + 2) (nI l)) (9 * k + 3) (nI s)) lc = some (nI (B (250 * k + 2)), upd (upd (upd (upd (upd (upd (upd fa (9 * k + 2) (nI l)) (9 * k + 3) (nI s)) (9 * k + 4) 1) (9 * k + 5) (nI ((256 * B (250 * k) + B (250 * k + 1)) / 16 % 1024))) (9 * k + 6) (nI (B (250 * k + 1) / 2 % 8))) (9 * k + 7) r1) (9 * k + 8) r2, upd lc (B (250 * k + 1) / 2 % 8) (nI (B (250 * k + 3)))) := by
    unfold f_Receiver_judgeFrame_62 f_Receiver_judgeFrame_77 f_Receiver_readHeader
    simp only [eq_false ne10, if_false, q_nm]
    have hs : ∀ (w : Nat) (hw : w < 9) (fa : AR) (v : Int32), f_Receiver_setFact fa (nI k) (nI w) v = some (upd fa (9 * k + w) v) := fun w hw fa v => sf_ok (by omega) hw v
    have hs4 : ∀ (fa : AR) (v : Int32), f_Receiver_setFact fa (nI k) 4 v = some (upd fa (9 * k + 4) v) := hs 4 (by omega)
    have hs5 : ∀ (fa : AR) (v : Int32), f_Receiver_setFact fa (nI k) 5 v = some (upd fa (9 * k + 5) v) := hs 5 (by omega)
    have hs6 : ∀ (fa : AR) (v : Int32), f_Receiver_setFact fa (nI k) 6 v = some (upd fa (9 * k + 6) v) := hs 6 (by omega)
    have hs7 : ∀ (fa : AR) (v : Int32), f_Receiver_setFact fa (nI k) 7 v = some (upd fa (9 * k + 7) v) := hs 7 (by omega)
    have hs8 : ∀ (fa : AR) (v : Int32), f_Receiver_setFact fa (nI k) 8 v = some (upd fa (9 * k + 8) v) := hs 8 (by omega)
    have hA : (nI (256 * B (250 * k) + B (250 * k + 1)) >>> ((1 : Int32) &&& 31)) &&& 7 = nI (B (250 * k + 1) / 2 % 8) := by
      rw [pk_shrN (by omega) _ 1 (by decide), pk_andN (by omega) 3 (by decide)]
      congr 1
      omega
    have hBB : (nI (256 * B (250 * k) + B (250 * k + 1)) >>> ((4 : Int32) &&& 31)) &&& 1023 = nI ((256 * B (250 * k) + B (250 * k + 1)) / 16 % 1024) := by
      rw [pk_shrN (by omega) _ 4 (by decide), pk_andN (by omega) 10 (by decide)]
    rw [hs4, q_bd, ea_rd (by omega) (by decide), show nI a + (1 : Int32) = nI (a + 1) from nI_1 a, ea_rd (by omega) (by decide), d0, d1, two_by y0 y1, hA, hBB, show nI a + (2 : Int32) = nI (a + 2) from nI_add a 2, show nI a + (3 : Int32) = nI (a + 3) from nI_add a 3, ea_rd (by omega) (by decide), ea_rd (by omega) (by decide), d2, d3, hs5, q_bd, hs6, q_bd, g1', q_bd, hs7, q_bd, q_rdI hch (by decide), g3, q_bd, hs8, q_bd, q_wrI hch (by decide), q_bd]
  have hml : f_Mo_take_275 (nI (250 * k)) (nI l) (nI s) 1 (nI k) lm mk wr tl (ea nI B) lc' wo va sy so wg ri = some (nI (k + 1), nI (B (250 * k + 2)), mk, wr, upd (upd (upd (upd (upd tl (6 * k) (nI l)) (6 * k + 1) (nI s)) (6 * k + 2) 1) (6 * k + 3) r1) (6 * k + 4) r2, ea nI B, upd lc' (B (250 * k + 1) / 2 % 8) (nI (B (250 * k + 3))), wo, va, sy, so, wg, ri) := by
    unfold f_Mo_take_275 f_Mo_take_329 f_Mo_gaps f_Mo_take_340
    simp only [eq_false ne10, if_false, q_nm]
    rw [show (6 : Int32) * nI k = nI (6 * k) from pk_mul 6 k, show nI (6 * k) + (1 : Int32) = nI (6 * k + 1) from nI_1 _, show nI (6 * k) + (2 : Int32) = nI (6 * k + 2) from nI_add _ 2, show nI (6 * k) + (3 : Int32) = nI (6 * k + 3) from nI_add _ 3, show nI (6 * k) + (4 : Int32) = nI (6 * k + 4) from nI_add _ 4, q_wrI (by omega) (by decide), q_wrI (by omega) (by decide), q_wrI (by omega) (by decide), show nI (250 * k) + (1 : Int32) = nI (250 * k + 1) from nI_1 _, show nI (250 * k) + (2 : Int32) = nI (250 * k + 2) from nI_add _ 2, show nI (250 * k) + (3 : Int32) = nI (250 * k + 3) from nI_add _ 3, ea_rd (by omega) (by decide), ea_rd (by omega) (by decide), g2, q_bd, q_wrI (by omega) (by decide), ea_rd (by omega) (by decide), pk_shrN (by omega) _ 1 (by decide), pk_andN (by omega) 3 (by decide), show B (250 * k + 1) / 2 ^ 1 % 2 ^ 3 = B (250 * k + 1) / 2 % 8 from rfl, q_rdI hch (by decide), ← hlc, g4, q_bd, q_wrI (by omega) (by decide), ea_rd (by omega) (by decide), ea_rd (by omega) (by decide), q_wrI hch (by decide), q_bd, nI_1]
  refine ⟨_, _, _, _, _, hcl, hml, ⟨rfl, Or.inr ⟨_, y2, rfl⟩, fun c hc => ?_⟩, ⟨?_, ?_, ?_, Or.inr ⟨?_, ⟨_, _, y0, y1, rfl, rfl, ?_, ?_⟩, ?_, ?_⟩⟩, fun q hq => ?_, fun q hq => ?_⟩
  · by_cases e : c = B (250 * k + 1) / 2 % 8
    · rw [e, pk_us, pk_us]
      exact ⟨rfl, Or.inr ⟨_, y3, rfl⟩⟩
    · rw [pk_un e, pk_un e]
      exact hl3 c hc
  · rw [pk_un (by omega), pk_un (by omega), pk_un (by omega), pk_un (by omega), pk_un (by omega), pk_un (by omega), pk_us, pk_un (by omega), pk_un (by omega), pk_un (by omega), pk_un (by omega), pk_us]
  · rw [pk_un (by omega), pk_un (by omega), pk_un (by omega), pk_un (by omega), pk_un (by omega), pk_us, pk_un (by omega), pk_un (by omega), pk_un (by omega), pk_us]
  · rw [pk_un (by omega), pk_un (by omega), pk_un (by omega), pk_un (by omega), pk_us, pk_un (by omega), pk_un (by omega), pk_us]
  · rw [pk_un (by omega), pk_un (by omega), pk_us]
  · rw [pk_un (by omega), pk_un (by omega), pk_un (by omega), pk_us]
  · rw [pk_un (by omega), pk_un (by omega), pk_us]
    congr 1
    omega
  · rw [pk_un (by omega), pk_us, pk_un (by omega), pk_us]
  · rw [pk_us, pk_us]
  · rw [pk_un (by omega), pk_un (by omega), pk_un (by omega), pk_un (by omega), pk_un (by omega), pk_un (by omega), pk_un (by omega)]
  · rw [pk_un (by omega), pk_un (by omega), pk_un (by omega), pk_un (by omega), pk_un (by omega)]
end
