/-! PURE PART: what holds between the calls; the small cases -/
section
def GData (D F E : Nat) (c9 m6 : Int32) (a14 b8 : AR) : Prop := ∃ w, w ≤ D * (255 - F - 2 * E) - 8 ∧ c9 = nI w ∧ m6 = nI w ∧ (∀ k, k < w → a14 (6 + k) = b8 k) ∧ BY a14
def GLine (P : Nat) (c4 c5 c6 m8 m9 m10 : Int32) (l0 : Nat → Int64) (b10 : AR) : Prop := ∃ snt R, R < 128 ∧ c4 = nI (cnt P 0 snt) ∧ c5 = nI R ∧ c6 = nI snt ∧ m8 = nI (cnt P 0 snt) ∧ m9 = nI snt ∧ m10 = nI (R / 2) ∧ RowEq (cnt P 0 snt) l0 b10
def GTab {K : Type} [Lean.Grind.Field K] (en fo : K → Int32) (g : K) (M : Nat → Nat) (E : Nat) (a0 a1 a2 a3 a4 a13 a16 b0 b1 b2 b3 b4 b5 b6 b7 : AR) : Prop := Env en fo g b4 b3 b6 b5 a3 a2 a1 a0 ∧ Tab b0 b1 b2 ∧ GenOK en g E a4 ∧ (∀ t, t < 250 → a13 t = nI (M t) ∧ b7 t = nI (M t) ∧ M t < 256) ∧ (∀ h, h < 64 → a16 h = nI (prv h))
def GScr (a5 a6 a7 a8 a9 a10 a11 a20 b16 b20 b21 b22 b23 : AR) : Prop := BY a5 ∧ BY a6 ∧ BY a7 ∧ BY a8 ∧ BY a9 ∧ BY a10 ∧ BY a11 ∧ BY a20 ∧ BY b16 ∧ BY b20 ∧ BY b21 ∧ BY b22 ∧ BY b23
def GDec (c11 c13 m11 m12 : Int32) (l2 : Nat → Int64) (b13 : AR) : Prop := ∃ N, N < 3600 ∧ c13 = nI N ∧ m11 = nI N ∧ c11 = m12 ∧ RowEq N l2 b13
def GBlk (D F : Nat) (c12 m13 : Int32) (a20 a21 a22 b14 b15 b16 b17 b18 : AR) : Prop := ∃ kk, kk ≤ 15 ∧ c12 = nI kk ∧ m13 = nI kk ∧ kk * (D * (255 - F)) ≤ 512 ∧ ∀ j, j < kk → Blk (D * (255 - F)) D j a21 b14 b15 b18 a20 b16 a22 b17
def Inv {K : Type} [Lean.Grind.Field K] (en fo : K → Int32) (g : K) (M : Nat → Nat) (j : Nat) (ci : AR) (ca : Nat → AR) (cl : Nat → Nat → Int64) (mi : AR) (ma : Nat → AR) : Prop :=
  ∃ D F E P, IvForm D F E P (ci 0) (ci 1) (ci 2) (ci 3) (mi 1) (mi 2) (mi 3) (mi 4) ∧ IvCraft (ci 8) (mi 5) ∧ (IvCount j (ci 7) (mi 7) ∧ ∀ k, k < 8 → IvCount j (ca 15 k) (ma 9 k)) ∧ GData D F E (ci 9) (mi 6) (ca 14) (ma 8) ∧ GLine P (ci 4) (ci 5) (ci 6) (mi 8) (mi 9) (mi 10) (cl 0) (ma 10) ∧ GTab en fo g M E (ca 0) (ca 1) (ca 2) (ca 3) (ca 4) (ca 13) (ca 16) (ma 0) (ma 1) (ma 2) (ma 3) (ma 4) (ma 5) (ma 6) (ma 7) ∧ GScr (ca 5) (ca 6) (ca 7) (ca 8) (ca 9) (ca 10) (ca 11) (ca 20) (ma 16) (ma 20) (ma 21) (ma 22) (ma 23) ∧ GDec (ci 11) (ci 13) (mi 11) (mi 12) (cl 2) (ma 13) ∧ GBlk D F (ci 12) (mi 13) (ca 20) (ca 21) (ca 22) (ma 14) (ma 15) (ma 16) (ma 17) (ma 18)
theorem cn_mono {j : Nat} {c7 m7 : Int32} {a15 b9 : AR} (h : IvCount j c7 m7 ∧ ∀ k, k < 8 → IvCount j (a15 k) (b9 k)) : IvCount (j + 1) c7 m7 ∧ ∀ k, k < 8 → IvCount (j + 1) (a15 k) (b9 k) := ⟨cnt_mono h.1, fun k hk => cnt_mono (h.2 k hk)⟩
theorem i_craft {K : Type} [Lean.Grind.Field K] {en fo : K → Int32} {g : K} {M : Nat → Nat} {xs : AR} {L j : Nat} {kh : KHT} {ci : AR} {ca : Nat → AR} {cl : Nat → Nat → Int64} {mi : AR} {ma : Nat → AR} {ou : Nat → Int64} (hj : 5 * j + 5 ≤ L) (hL : L ≤ 2560) (hI : Inv en fo g M j ci ca cl mi ma) (hk : ∀ ci' ca' cl' mi' ma' ou', Inv en fo g M (j + 1) ci' ca' cl' mi' ma' → kh (nI (5 * j)) ci' ca' cl' mi' ma' ou' = some ()) : fla_craft xs L kh (nI (5 * j)) ci ca cl mi ma ou = some () := by
  obtain ⟨D, F, E, P, h1, h2, h3, h4, h5, h6, h7, h8, h9⟩ := hI
  exact pc_craft hj hL h2 (fun c' t' ou' h => hk _ _ _ _ _ _ ⟨D, F, E, P, h1, h, cn_mono h3, h4, h5, h6, h7, h8, h9⟩) (fun t' => hk _ _ _ _ _ _ ⟨D, F, E, P, h1, h2, cn_mono h3, h4, h5, h6, h7, h8, h9⟩)
theorem i_told {K : Type} [Lean.Grind.Field K] {en fo : K → Int32} {g : K} {M : Nat → Nat} {xs : AR} {L j : Nat} {kh : KHT} {ci : AR} {ca : Nat → AR} {cl : Nat → Nat → Int64} {mi : AR} {ma : Nat → AR} {ou : Nat → Int64} (hj : 5 * j + 5 ≤ L) (hL : L ≤ 2560) (hI : Inv en fo g M j ci ca cl mi ma) (hk : ∀ ci' ca' cl' mi' ma' ou', Inv en fo g M (j + 1) ci' ca' cl' mi' ma' → kh (nI (5 * j)) ci' ca' cl' mi' ma' ou' = some ()) : fla_told xs L kh (nI (5 * j)) ci ca cl mi ma ou = some () := by
  obtain ⟨D, F, E, P, h1, h2, h3, h4, h5, h6, h7, h8, h9⟩ := hI
  obtain ⟨f1, f2, f3, f4, f5, f6, f7, f8, f9⟩ := h1
  obtain ⟨w, w1, w2, w3, w4⟩ := h4
  obtain ⟨snt, R, l1, l2, l3, l4, l5, l6, l7, l8⟩ := h5
  obtain ⟨N, n1, n2, n3, n4, n5⟩ := h8
  obtain ⟨kk, k1', k2', k3', k4', k5'⟩ := h9
  refine pc_told hj hL (by rw [f2, f6]) ?_ (by rw [f4, f8]) (by rw [w2, w3]) (by rw [l2, l5]) (by rw [n2, n3]) n4 (by rw [k2', k3']) (fun t' ou' => hk _ _ _ _ _ _ ⟨D, F, E, P, ⟨f1, f2, f3, f4, f5, f6, f7, f8, f9⟩, h2, cn_mono h3, ⟨w, w1, w2, w3, w4⟩, ⟨snt, R, l1, l2, l3, l4, l5, l6, l7, l8⟩, h6, h7, ⟨N, n1, n2, n3, n4, n5⟩, ⟨kk, k1', k2', k3', k4', k5'⟩⟩)
  rw [f3, f7, show (255 : Int32) = nI 255 from rfl, pk_sub (by have := f1.2.1; omega)]
theorem i_skip {K : Type} [Lean.Grind.Field K] {en fo : K → Int32} {g : K} {M : Nat → Nat} {xs : AR} {L j : Nat} {kh : KHT} {ci : AR} {ca : Nat → AR} {cl : Nat → Nat → Int64} {mi : AR} {ma : Nat → AR} {ou : Nat → Int64} (hj : 5 * j + 5 ≤ L) (hL : L ≤ 2560) (hI : Inv en fo g M j ci ca cl mi ma) (hk : ∀ ci' ca' cl' mi' ma' ou', Inv en fo g M (j + 1) ci' ca' cl' mi' ma' → kh (nI (5 * j)) ci' ca' cl' mi' ma' ou' = some ()) : fla_skip xs L kh (nI (5 * j)) ci ca cl mi ma ou = some () := by
  obtain ⟨D, F, E, P, h1, h2, h3, h4, h5, h6, h7, h8, h9⟩ := hI
  refine pc_skip hj hL h3.1 h3.2 (fun t' c7 m7 c15 m9 e1 e2 => hk _ _ _ _ _ _ ⟨D, F, E, P, h1, h2, ⟨e1, e2⟩, h4, h5, h6, h7, h8, h9⟩) (fun t' m7 m9 e1 e2 => ?_)
  subst e1
  subst e2
  exact hk _ _ _ _ _ _ ⟨D, F, E, P, h1, h2, cn_mono h3, h4, h5, h6, h7, h8, h9⟩
theorem i_line {K : Type} [Lean.Grind.Field K] {en fo : K → Int32} {g : K} {M : Nat → Nat} {xs : AR} {L j : Nat} {kh : KHT} {ci : AR} {ca : Nat → AR} {cl : Nat → Nat → Int64} {mi : AR} {ma : Nat → AR} {ou : Nat → Int64} (hj : 5 * j + 5 ≤ L) (hL : L ≤ 2560) (hI : Inv en fo g M j ci ca cl mi ma) (hk : ∀ ci' ca' cl' mi' ma' ou', Inv en fo g M (j + 1) ci' ca' cl' mi' ma' → kh (nI (5 * j)) ci' ca' cl' mi' ma' ou' = some ()) : fla_line xs L kh (nI (5 * j)) ci ca cl mi ma ou = some () := by
  have hs : ∀ {β : Type} (k : Int32 → Option β), rdI xs L (nI (5 * j) + (1 : Int32)) k = k (xs (5 * j + 1)) := fun k => q_scr hj hL 1 (by decide)
  obtain ⟨D, F, E, P, h1, h2, h3, h4, h5, h6, h7, h8, h9⟩ := hI
  have h5' := h5
  obtain ⟨snt, R, l1, l2, l3, l4, l5, l6, l7, l8⟩ := h5'
  unfold fla_line f_DC_line f_Mo_line
  rw [hs]
  simp only [hs]
  obtain ⟨W, w1, w2⟩ := win_eq l8 (nb := 4096) l8.1 (by decide) (xs (5 * j + 1))
  rw [w1, l5, w2]
  simp only [q_bd, q_nm, q_cmp, if_true]
  rw [← l5]
  exact hk _ _ _ _ _ _ ⟨D, F, E, P, h1, h2, cn_mono h3, h4, h5, h6, h7, h8, h9⟩
theorem i_decoded {K : Type} [Lean.Grind.Field K] {en fo : K → Int32} {g : K} {M : Nat → Nat} {xs : AR} {L j : Nat} {kh : KHT} {ci : AR} {ca : Nat → AR} {cl : Nat → Nat → Int64} {mi : AR} {ma : Nat → AR} {ou : Nat → Int64} (hj : 5 * j + 5 ≤ L) (hL : L ≤ 2560) (hI : Inv en fo g M j ci ca cl mi ma) (hk : ∀ ci' ca' cl' mi' ma' ou', Inv en fo g M (j + 1) ci' ca' cl' mi' ma' → kh (nI (5 * j)) ci' ca' cl' mi' ma' ou' = some ()) : fla_decoded xs L kh (nI (5 * j)) ci ca cl mi ma ou = some () := by
  have hs : ∀ {β : Type} (k : Int32 → Option β), rdI xs L (nI (5 * j) + (1 : Int32)) k = k (xs (5 * j + 1)) := fun k => q_scr hj hL 1 (by decide)
  obtain ⟨D, F, E, P, h1, h2, h3, h4, h5, h6, h7, h8, h9⟩ := hI
  have h8' := h8
  obtain ⟨N, n1, n2, n3, n4, n5⟩ := h8'
  unfold fla_decoded f_DC_decoded f_Receiver_decodedWindow f_Mo_decoded
  rw [hs]
  simp only [hs]
  obtain ⟨W, w1, w2⟩ := win_eq n5 (nb := 3600) (by omega) (by decide) (xs (5 * j + 1))
  rw [w1, n3, w2]
  simp only [q_bd, q_nm, q_cmp, if_true]
  rw [← n3]
  exact hk _ _ _ _ _ _ ⟨D, F, E, P, h1, h2, cn_mono h3, h4, h5, h6, h7, h8, h9⟩
theorem i_turn {K : Type} [Lean.Grind.Field K] {en fo : K → Int32} {g : K} {M : Nat → Nat} {xs : AR} {L j : Nat} {kh : KHT} {ci : AR} {ca : Nat → AR} {cl : Nat → Nat → Int64} {mi : AR} {ma : Nat → AR} {ou : Nat → Int64} (hj : 5 * j + 5 ≤ L) (hL : L ≤ 2560) (hI : Inv en fo g M j ci ca cl mi ma) (hk : ∀ ci' ca' cl' mi' ma' ou', Inv en fo g M (j + 1) ci' ca' cl' mi' ma' → kh (nI (5 * j)) ci' ca' cl' mi' ma' ou' = some ()) : fla_turn xs L kh (nI (5 * j)) ci ca cl mi ma ou = some () := by
  have hs1 : ∀ {β : Type} (k : Int32 → Option β), rdI xs L (nI (5 * j) + (1 : Int32)) k = k (xs (5 * j + 1)) := fun k => q_scr hj hL 1 (by decide)
  have hs2 : ∀ {β : Type} (k : Int32 → Option β), rdI xs L (nI (5 * j) + (2 : Int32)) k = k (xs (5 * j + 2)) := fun k => q_scr hj hL 2 (by decide)
  have hs3 : ∀ {β : Type} (k : Int32 → Option β), rdI xs L (nI (5 * j) + (3 : Int32)) k = k (xs (5 * j + 3)) := fun k => q_scr hj hL 3 (by decide)
  obtain ⟨D, F, E, P, h1, h2, h3, h4, h5, h6, h7, h8, h9⟩ := hI
  obtain ⟨snt, R, l1, l2, l3, l4, l5, l6, l7, l8⟩ := h5
  unfold fla_turn f_DC_turn f_BitRow_flip f_Mo_turn
  rw [hs1, hs2, hs3]
  simp only [hs1, hs2, hs3]
  generalize xs (5 * j + 1) = x1
  generalize (((xs (5 * j + 2)).toInt64 <<< ((32 : Int32).toInt64 &&& 63)) ||| ((xs (5 * j + 3)).toInt64 &&& (4294967295 : Int64))) = x2
  obtain ⟨n', cl', ln', t1, t2, t3⟩ := tn_ok (len := cnt P 0 snt) x2 x1 0 10000 0 0 (cl 0) (ma 10) l8 (by omega) (by omega)
  rw [nI_0] at t1 t2
  rw [l2, l5, t1, t2]
  simp only [q_bd, q_nm, if_true]
  rw [← l5]
  exact hk _ _ _ _ _ _ ⟨D, F, E, P, h1, h2, cn_mono h3, h4, ⟨snt, R, l1, l2, l3, l4, l5, l6, l7, t3⟩, h6, h7, h8, h9⟩
end
