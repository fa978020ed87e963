/-! PURE PART: the bytes of a block -/
section
/-- byte t of the block that begins behind a mark at p, as it was received -/
def RBy (fc : Nat → Int64) (M : Nat → Nat) (p t : Nat) : Nat := mir (fun b => cb fc (p + 32 + 8 * t + b)) 8 ^^^ M t
theorem RBy_lt (fc : Nat → Int64) {M : Nat → Nat} (p : Nat) {t : Nat} (hM : M t < 256) : RBy fc M p t < 256 := Nat.xor_lt_two_pow (n := 8) (mir_lt _ 8) hM
theorem win_cb (fc : Nat → Int64) {x : Nat} (hx : x + 8 ≤ 4096) : ∃ W, f_BitRow_window fc (nI x) = some W ∧ f_DC_mirrored W 8 = some (nI (mir (fun b => cb fc (x + b)) 8)) := by
  obtain ⟨W, h1, h2⟩ := win_ok fc (nI x)
  refine ⟨W, h1, ?_⟩
  rw [mi_ok W h2]
  congr 2
  refine mir_congr (fun k hk => ?_)
  unfold gb
  rw [nI_toInt (by omega), show ((x : Int) + (k : Int)).toNat = x + k by omega]
  simp [show (0 : Int) ≤ (x : Int) + (k : Int) by omega, show (x : Int) + (k : Int) < 4096 by omega]
theorem u_c (fc : Nat → Int64) {mx : AR} {M : Nat → Nat} (hM : ∀ t, t < 250 → mx t = nI (M t)) {D W p a : Nat} (hDW : D * W ≤ 250) (hp : p + 32 + 8 * (D * W) ≤ 3600) (ha : a + D * W ≤ 512) :
    ∀ fu t (by_ : AR), t ≤ D * W → D * W - t < fu → ∃ by', f_Receiver_unmix_2 (nI D) (nI W) fc mx fu (nI (p + 32)) (nI a) (nI t) by_ = some by' ∧ (∀ i, t ≤ i → i < D * W → by' (a + i) = nI (RBy fc M p i)) ∧ (∀ q, (∀ i, t ≤ i → i < D * W → q ≠ a + i) → by' q = by_ q) := by
  intro fu
  induction fu with
  | zero => intro t by_ h1 h2; omega
  | succ fu ih =>
    intro t by_ h1 h2
    show ∃ by', f_Receiver_unmix_2_b _ _ _ _ _ _ _ _ _ = _ ∧ _ ∧ _
    unfold f_Receiver_unmix_2_b
    rw [bs_c, q_bd, q_nm]
    by_cases e : t = D * W
    · rw [if_pos (nI_le (by omega) (by omega))]
      exact ⟨by_, rfl, fun i h3 h4 => by omega, fun q _ => rfl⟩
    · obtain ⟨Wn, w1, w2⟩ := win_cb fc (x := p + 32 + 8 * t) (by omega)
      rw [if_neg (nI_ge (by omega) (by omega)), show (8 : Int32) * nI t = nI (8 * t) from pk_mul 8 t, nI_add, w1, q_bd, q_nm, w2, q_bd, q_nm, mx_at (by omega), q_bd, q_nm, hM t (by omega), nI_xor, nI_add, q_wrI (by omega) (by decide), q_nm, nI_1]
      obtain ⟨by', h3, h4, h5⟩ := ih (t + 1) (upd by_ (a + t) (nI (RBy fc M p t))) (by omega) (by omega)
      refine ⟨by', h3, fun i h6 h7 => ?_, fun q hq => ?_⟩
      · by_cases e2 : i = t
        · subst e2
          rw [h5 _ (fun j hj1 hj2 => by omega), pk_us]
        · exact h4 i (by omega) h7
      · rw [h5 q (fun i h6 h7 => hq i (by omega) h7), pk_un (hq t (by omega) (by omega))]
abbrev TR : Type := Option (Int32 × Int32 × AR × AR × AR × AR × AR × AR × AR × AR × AR × AR × AR)
abbrev TK : Type := Int32 → Int32 → Int32 → Int32 → Int32 → AR → AR → AR → AR → AR → AR → AR → AR → AR → AR → AR → TR
theorem t_in (fc : Nat → Int64) {row mx : AR} {N : Nat} (hN : N ≤ 3600) (hr : ∀ k, k < N → row k = bI (cb fc k)) {p t : Nat} (hp : p + 32 + 8 * t + 8 ≤ N) (kh : TK) (x2 bl lm : Int32) (mk wr tl by_ lc wo va sy so wg ri : AR) :
    ∀ fu b, b ≤ 8 → 8 - b < fu → f_Mo_take_52 row mx kh fu (nI p) x2 (nI t) (nI (mir (fun b => cb fc (p + 32 + 8 * t + b)) b)) (nI b) bl lm mk wr tl by_ lc wo va sy so wg ri = f_Mo_take_89 mx kh (nI p) x2 (nI t) (nI (mir (fun b => cb fc (p + 32 + 8 * t + b)) 8)) bl lm mk wr tl by_ lc wo va sy so wg ri := by
  intro fu
  induction fu with
  | zero => intro b h1 h2; omega
  | succ fu ih =>
    intro b h1 h2
    show f_Mo_take_52_b _ _ _ _ _ _ _ _ _ _ _ _ _ _ _ _ _ _ _ _ _ _ = _
    unfold f_Mo_take_52_b
    by_cases e : b = 8
    · rw [if_pos (show (8 : Int32) ≤ nI b from nI_le (a := 8) (by omega) (by omega)), e]
    · rw [if_neg (show ¬ (8 : Int32) ≤ nI b from nI_ge (b := 8) (by omega) (by decide)), show nI p + (32 : Int32) = nI (p + 32) from nI_add p 32, show (8 : Int32) * nI t = nI (8 * t) from pk_mul 8 t, nI_add, nI_add, q_rdI (by omega) (by decide), hr _ (by omega), q_nm, q_nm, nI_1]
      have hst : (2 : Int32) * nI (mir (fun b => cb fc (p + 32 + 8 * t + b)) b) + bI (cb fc (p + 32 + 8 * t + b)) = nI (mir (fun b => cb fc (p + 32 + 8 * t + b)) (b + 1)) := by
        show nI 2 * nI (mir (fun b => cb fc (p + 32 + 8 * t + b)) b) + nI (cb fc (p + 32 + 8 * t + b)).toNat = nI (2 * mir (fun b => cb fc (p + 32 + 8 * t + b)) b + (cb fc (p + 32 + 8 * t + b)).toNat)
        rw [pk_mul, nI_add]
      rw [hst]
      exact ih (b + 1) (by omega) (by omega)
theorem t_out (fc : Nat → Int64) {row mx el pr lg fm : AR} {M : Nat → Nat} (hM : ∀ t, t < 250 → mx t = nI (M t)) {N : Nat} (hN : N ≤ 3600) (hr : ∀ k, k < N → row k = bI (cb fc k)) {D F p a : Nat} {E' : Int32} (hF : F ≤ 250) (hDW : D * (255 - F) ≤ 250) (hp : p + 32 + 8 * (D * (255 - F)) ≤ N) (ha : a + D * (255 - F) ≤ 4000) (bl lm : Int32) (mk wr tl lc wo va sy so wg ri : AR) :
    ∀ fu t (by_ : AR), t ≤ D * (255 - F) → D * (255 - F) - t < fu → ∃ by', f_Mo_take_38 (nI D) (nI F) E' row el pr lg fm mx fu (nI p) (nI a) (nI t) bl lm mk wr tl by_ lc wo va sy so wg ri = f_Mo_take_112 (nI D) (nI F) E' el pr lg fm (nI a) bl lm mk wr tl by' lc wo va sy so wg ri ∧ (∀ i, t ≤ i → i < D * (255 - F) → by' (a + i) = nI (RBy fc M p i)) ∧ (∀ q, (∀ i, t ≤ i → i < D * (255 - F) → q ≠ a + i) → by' q = by_ q) := by
  intro fu
  induction fu with
  | zero => intro t by_ h1 h2; omega
  | succ fu ih =>
    intro t by_ h1 h2
    show ∃ by', f_Mo_take_38_b _ _ _ _ _ _ _ _ _ _ _ _ _ _ _ _ _ _ _ _ _ _ _ _ _ _ = _ ∧ _ ∧ _
    unfold f_Mo_take_38_b
    rw [bs_m D hF, q_bd, q_nm]
    by_cases e : t = D * (255 - F)
    · rw [if_pos (nI_le (by omega) (by omega))]
      exact ⟨by_, rfl, fun i h3 h4 => by omega, fun q _ => rfl⟩
    · rw [if_neg (nI_ge (by omega) (by omega))]
      have a1 := t_in fc (mx := mx) hN hr (p := p) (t := t) (by omega) (f_Mo_take_38 (nI D) (nI F) E' row el pr lg fm mx fu) (nI a) bl lm mk wr tl by_ lc wo va sy so wg ri 10000 0 (by omega) (by omega)
      rw [show nI (mir (fun b => cb fc (p + 32 + 8 * t + b)) 0) = 0 from rfl, nI_0] at a1
      rw [a1]
      unfold f_Mo_take_89
      rw [q_rdI (by omega) (by decide), hM t (by omega), nI_xor, nI_add, q_wrI (by omega) (by decide), q_nm, nI_1]
      obtain ⟨by', h3, h4, h5⟩ := ih (t + 1) (upd by_ (a + t) (nI (RBy fc M p t))) (by omega) (by omega)
      refine ⟨by', h3, fun i h6 h7 => ?_, fun q hq => ?_⟩
      · by_cases e2 : i = t
        · subst e2
          rw [h5 _ (fun j hj1 hj2 => by omega), pk_us]
        · exact h4 i (by omega) h7
      · rw [h5 q (fun i h6 h7 => hq i (by omega) h7), pk_un (hq t (by omega) (by omega))]
/-- words of a block put right, on both sides -/
abbrev PWR : Type := Option (AR × AR × AR × AR × AR × AR × AR × AR × AR × AR)
theorem w_all {K : Type} [Lean.Grind.Field K] {en fo : K → Int32} {g : K} {lgm prm elm fmm lgc prc elc fmc : AR} (hV : Env en fo g lgm prm elm fmm lgc prc elc fmc) {D F E a at_ k : Nat} (hF : F ≤ 250) (hE1 : 1 ≤ E) (hE2 : E ≤ 16) (hD1 : 1 ≤ D) (hD : D ≤ 8) (hDW : D * (255 - F) ≤ 250) (ha : a + D * (255 - F) ≤ 512) (hat : at_ + D * (255 - F) ≤ 4000) (hk : k < 16) (fa : AR) (bl lm : Int32) (hbl : bl = nI k) (mk wr tl lc : AR) :
    ∀ fu fu' j l s (Y Z : Nat → K) (syn coe pol ear spa evl wo va sy so : Nat → K) (pla wg : Nat → Nat) (pr ri : AR), j ≤ D → D - j < fu → D - j < fu' → l ≤ j → s ≤ 16 * j → (∀ i, i < D * (255 - F) → Y (a + i) = Z (at_ + i)) → (∀ i, i < j → pr (8 * k + i) = ri (8 * k + i)) →
    ∃ (l' s' : Nat) (Y' Z' : Nat → K) (syn' coe' pol' ear' spa' evl' wo' va' sy' so' : Nat → K) (pla' wg' : Nat → Nat) (pr' ri' : AR), f_Receiver_putWordsRight_8 (nI D) (nI (255 - F)) (nI E) prc lgc fmc elc fu (nI k) (nI a) (nI l) (nI s) (nI j) fa (ea en syn) (ea en coe) (ea en pol) (ea en ear) (ea en spa) (ea nI pla) (ea en evl) (ea fo Y) pr = f_Receiver_putWordsRight_75 (nI k) (nI l') (nI s') fa (ea en syn') (ea en coe') (ea en pol') (ea en ear') (ea en spa') (ea nI pla') (ea en evl') (ea fo Y') pr' ∧
      f_Mo_take_120 (nI D) (nI F) (nI E) elm prm lgm fmm fu' (nI at_) (nI l) (nI s) (nI j) bl lm mk wr tl (ea fo Z) lc (ea en wo) (ea en va) (ea en sy) (ea en so) (ea nI wg) ri = f_Mo_take_190 (nI D) (nI F) (nI E) (nI at_) (nI l') (nI s') bl lm mk wr tl (ea fo Z') lc (ea en wo') (ea en va') (ea en sy') (ea en so') (ea nI wg') ri' ∧
      l' ≤ D ∧ s' ≤ 16 * D ∧ (∀ i, i < D * (255 - F) → Y' (a + i) = Z' (at_ + i)) ∧ (∀ i, i < D → pr' (8 * k + i) = ri' (8 * k + i)) ∧ (∀ q, (q < a ∨ a + D * (255 - F) ≤ q) → Y' q = Y q) ∧ (∀ q, (q < at_ ∨ at_ + D * (255 - F) ≤ q) → Z' q = Z q) ∧ (∀ q, (q < 8 * k ∨ 8 * k + 8 ≤ q) → pr' q = pr q ∧ ri' q = ri q) := by
  obtain ⟨hg, hE, hFm, hfm, hFc, hfc, hsu⟩ := hV
  have hW : 255 - F ≤ 250 := by
    have : 1 * (255 - F) ≤ D * (255 - F) := Nat.mul_le_mul_right _ hD1
    omega
  intro fu
  induction fu with
  | zero => intro fu' j l s Y Z syn coe pol ear spa evl wo va sy so pla wg pr ri h1 h2; omega
  | succ fu ih =>
    intro fu' j l s Y Z syn coe pol ear spa evl wo va sy so pla wg pr ri h1 h2 h2' h3 h4 h5 h6
    obtain ⟨f', rfl⟩ : ∃ f', fu' = f' + 1 := ⟨fu' - 1, by omega⟩
    have hst1 : f_Receiver_putWordsRight_8 (nI D) (nI (255 - F)) (nI E) prc lgc fmc elc (fu + 1) (nI k) (nI a) (nI l) (nI s) (nI j) fa (ea en syn) (ea en coe) (ea en pol) (ea en ear) (ea en spa) (ea nI pla) (ea en evl) (ea fo Y) pr = f_Receiver_putWordsRight_8_b (nI D) (nI (255 - F)) (nI E) prc lgc fmc elc (f_Receiver_putWordsRight_8 (nI D) (nI (255 - F)) (nI E) prc lgc fmc elc fu) (nI k) (nI a) (nI l) (nI s) (nI j) fa (ea en syn) (ea en coe) (ea en pol) (ea en ear) (ea en spa) (ea nI pla) (ea en evl) (ea fo Y) pr := rfl
    have hst2 : f_Mo_take_120 (nI D) (nI F) (nI E) elm prm lgm fmm (f' + 1) (nI at_) (nI l) (nI s) (nI j) bl lm mk wr tl (ea fo Z) lc (ea en wo) (ea en va) (ea en sy) (ea en so) (ea nI wg) ri = f_Mo_take_120_b (nI D) (nI F) (nI E) elm prm lgm fmm (f_Mo_take_120 (nI D) (nI F) (nI E) elm prm lgm fmm f') (nI at_) (nI l) (nI s) (nI j) bl lm mk wr tl (ea fo Z) lc (ea en wo) (ea en va) (ea en sy) (ea en so) (ea nI wg) ri := rfl
    rw [hst1, hst2]
    unfold f_Receiver_putWordsRight_8_b f_Mo_take_120_b
    by_cases e : j = D
    · rw [if_pos (nI_le (by omega) (by omega)), if_pos (nI_le (by omega) (by omega))]
      exact ⟨l, s, Y, Z, syn, coe, pol, ear, spa, evl, wo, va, sy, so, pla, wg, pr, ri, rfl, rfl, by omega, by omega, h5, fun i hi => h6 i (by omega), fun q _ => rfl, fun q _ => rfl, fun q _ => ⟨rfl, rfl⟩⟩
    · obtain ⟨r, V1, w1, P1, e1, sp1, Q1, Ev1, Y1, c1, c2⟩ := c_put hg hE hFc hfc (D := D) (W := 255 - F) (E := E) (a := a) (j := j) (nb := 512) hW hE1 hE2 (by omega) ha (by omega) Y syn coe pol ear spa evl pla
      obtain ⟨r', Z1, ww1, VV1, AA1, ss1, QQ1, m1, m2⟩ := m_mend hg hE hFm hfm (D := D) (F := F) (E := E) (a := at_) (j := j) hF hE2 (by omega) hat Z wo va sy so wg
      obtain ⟨hrr, hYZ⟩ := mended_one hg (W := 255 - F) (E := E) (by omega) (show j < D by omega) c2 m2 h5
      subst hrr
      rw [if_neg (nI_ge (by omega) (by omega)), if_neg (nI_ge (by omega) (by omega)), c1, m1, q_bd, q_bd]
      simp only [q_nm]
      rw [show nI k * (8 : Int32) = nI (8 * k) by rw [show (8 : Int32) = nI 8 from rfl, pk_mul, Nat.mul_comm], hbl, show (8 : Int32) * nI k = nI (8 * k) from pk_mul 8 k, nI_add, q_wrI (by omega) (by decide), q_wrI (by omega) (by decide)]
      have hYo : ∀ q, (q < a ∨ a + D * (255 - F) ≤ q) → Y1 q = Y q := by
        intro q hq
        have hne : ∀ i, i < 255 - F → q ≠ a + D * i + j := fun i hi h => by
          have := ix_lt (D := D) (W := 255 - F) (k := i) (j := j) hi (by omega)
          omega
        rcases c2 with ⟨_, _, _, _, _, y2⟩ | ⟨_, _, y2⟩
        · exact y2 q hne
        · exact y2 q
      have hZo : ∀ q, (q < at_ ∨ at_ + D * (255 - F) ≤ q) → Z1 q = Z q := by
        intro q hq
        have hne : ∀ i, i < 255 - F → q ≠ at_ + D * i + j := fun i hi h => by
          have := ix_lt (D := D) (W := 255 - F) (k := i) (j := j) hi (by omega)
          omega
        rcases m2 with ⟨_, _, _, _, _, y2⟩ | ⟨_, _, y2⟩
        · exact y2 q hne
        · exact y2 q
      have hpr : ∀ i, i < j + 1 → upd pr (8 * k + j) r (8 * k + i) = upd ri (8 * k + j) r (8 * k + i) := by
        intro i hi
        by_cases c : i = j
        · rw [c, pk_us, pk_us]
        · rw [pk_un (by omega), pk_un (by omega), h6 i (by omega)]
      have hend : ∀ (l1 s1 : Nat), l1 ≤ j + 1 → s1 ≤ 16 * (j + 1) → ∃ (l' s' : Nat) (Y' Z' : Nat → K) (syn' coe' pol' ear' spa' evl' wo' va' sy' so' : Nat → K) (pla' wg' : Nat → Nat) (pr' ri' : AR), f_Receiver_putWordsRight_8 (nI D) (nI (255 - F)) (nI E) prc lgc fmc elc fu (nI k) (nI a) (nI l1) (nI s1) (nI (j + 1)) fa (ea en V1) (ea en w1) (ea en P1) (ea en e1) (ea en sp1) (ea nI Q1) (ea en Ev1) (ea fo Y1) (upd pr (8 * k + j) r) = f_Receiver_putWordsRight_75 (nI k) (nI l') (nI s') fa (ea en syn') (ea en coe') (ea en pol') (ea en ear') (ea en spa') (ea nI pla') (ea en evl') (ea fo Y') pr' ∧
          f_Mo_take_120 (nI D) (nI F) (nI E) elm prm lgm fmm f' (nI at_) (nI l1) (nI s1) (nI (j + 1)) (nI k) lm mk wr tl (ea fo Z1) lc (ea en ww1) (ea en VV1) (ea en AA1) (ea en ss1) (ea nI QQ1) (upd ri (8 * k + j) r) = f_Mo_take_190 (nI D) (nI F) (nI E) (nI at_) (nI l') (nI s') (nI k) lm mk wr tl (ea fo Z') lc (ea en wo') (ea en va') (ea en sy') (ea en so') (ea nI wg') ri' ∧
          l' ≤ D ∧ s' ≤ 16 * D ∧ (∀ i, i < D * (255 - F) → Y' (a + i) = Z' (at_ + i)) ∧ (∀ i, i < D → pr' (8 * k + i) = ri' (8 * k + i)) ∧ (∀ q, (q < a ∨ a + D * (255 - F) ≤ q) → Y' q = Y q) ∧ (∀ q, (q < at_ ∨ at_ + D * (255 - F) ≤ q) → Z' q = Z q) ∧ (∀ q, (q < 8 * k ∨ 8 * k + 8 ≤ q) → pr' q = pr q ∧ ri' q = ri q) := by
        intro l1 s1 hl1 hs1
        obtain ⟨l', s', Y', Z', a1, a2, a3, a4, a5, a6, a7, a8, a9, a10, a11, a12, pr', ri', z1, z2, z3, z4, z5, z6, z7, z8, z9⟩ := ih f' (j + 1) l1 s1 Y1 Z1 V1 w1 P1 e1 sp1 Ev1 ww1 VV1 AA1 ss1 Q1 QQ1 (upd pr (8 * k + j) r) (upd ri (8 * k + j) r) (by omega) (by omega) (by omega) hl1 hs1 hYZ hpr
        rw [hbl] at z2
        refine ⟨l', s', Y', Z', a1, a2, a3, a4, a5, a6, a7, a8, a9, a10, a11, a12, pr', ri', z1, z2, z3, z4, z5, z6, fun q hq => ?_, fun q hq => ?_, fun q hq => ?_⟩
        · rw [z7 q hq, hYo q hq]
        · rw [z8 q hq, hZo q hq]
        · rw [(z9 q hq).1, (z9 q hq).2, pk_un (by omega), pk_un (by omega)]
          exact ⟨rfl, rfl⟩
      have hcase : (∃ d, d ≤ 16 ∧ r = nI d) ∨ r = -1 := by
        rcases c2 with ⟨c, d, hN, h7, _⟩ | ⟨_, h7, _⟩
        · exact Or.inl ⟨d, by have := hN.2.1; omega, h7⟩
        · exact Or.inr h7
      rcases hcase with ⟨d, hd, rfl⟩ | rfl
      · rw [if_neg (show ¬ nI d = -1 from fun h => absurd (show (0 : Int32) ≤ -1 from h ▸ nI_pos' (by omega)) (by decide)), if_pos (nI_pos' (by omega))]
        unfold f_Receiver_putWordsRight_69 f_Mo_take_166 f_Mo_take_181
        simp only [q_nm]
        rw [if_pos (nI_pos' (by omega)), Int32.add_zero, nI_add, nI_1]
        exact hend l (s + d) (by omega) (by omega)
      · rw [if_pos rfl, if_neg (by decide)]
        unfold f_Receiver_putWordsRight_69 f_Mo_take_166 f_Mo_take_181
        simp only [q_nm]
        rw [if_neg (by decide), Int32.add_zero, nI_1, nI_1]
        exact hend (l + 1) s (by omega) (by omega)
end
