/-! PURE PART: bytes, the check over a frame, the header -/
section
theorem nI_xor (a b : Nat) : nI a ^^^ nI b = nI (a ^^^ b) := by
  refine Int32.toBitVec_inj.1 (BitVec.eq_of_toNat_eq ?_)
  show (BitVec.ofNat 32 a ^^^ BitVec.ofNat 32 b).toNat = (BitVec.ofNat 32 (a ^^^ b)).toNat
  rw [BitVec.toNat_xor, BitVec.toNat_ofNat, BitVec.toNat_ofNat, BitVec.toNat_ofNat, Nat.xor_mod_two_pow]
def BY (arr : AR) : Prop := ∀ i, ∃ n, n < 256 ∧ arr i = nI n
theorem by_nat {arr : AR} (h : BY arr) : ∃ B : Nat → Nat, arr = ea nI B ∧ ∀ i, B i < 256 :=
  ⟨fun i => (h i).choose, funext fun i => (h i).choose_spec.2, fun i => (h i).choose_spec.1⟩
theorem by_K {K : Type} {fo : K → Int32} (hs : ∀ n, n < 256 → ∃ a, fo a = nI n) {arr : AR} (h : BY arr) : ∃ Y : Nat → K, arr = ea fo Y := by
  have h2 : ∀ i, ∃ a, fo a = arr i := fun i => by
    obtain ⟨n, h1, h3⟩ := h i
    obtain ⟨a, ha⟩ := hs n h1
    exact ⟨a, by rw [ha, h3]⟩
  exact ⟨fun i => (h2 i).choose, funext fun i => (h2 i).choose_spec.symm⟩
theorem by_fo {K : Type} {en fo : K → Int32} {el fm : AR} (hf : Frm en fo el fm) (Y : Nat → K) : BY (ea fo Y) := fun i => by
  obtain ⟨n, h1, h2, _⟩ := hf.1 (Y i)
  exact ⟨n, h1, h2⟩
theorem by_en {K : Type} [Lean.Grind.Field K] {en : K → Int32} (hE : Enc en) (Y : Nat → K) : BY (ea en Y) := fun i => hE.2.2.2.2.1 (Y i)
theorem by_upd {arr : AR} (h : BY arr) (k n : Nat) (hn : n < 256) : BY (upd arr k (nI n)) := fun i => by
  by_cases e : i = k
  · subst e; exact ⟨n, hn, pk_us⟩
  · rw [pk_un e]; exact h i
theorem any_nI (arr : AR) : ∃ Q : Nat → Nat, arr = ea nI Q := by
  refine ⟨fun i => (arr i).toBitVec.toNat, funext fun i => ?_⟩
  refine Int32.toBitVec_inj.1 (BitVec.eq_of_toNat_eq ?_)
  show (arr i).toBitVec.toNat = (BitVec.ofNat 32 (arr i).toBitVec.toNat).toNat
  rw [BitVec.toNat_ofNat, Nat.mod_eq_of_lt (arr i).toBitVec.isLt]
theorem fo_inj {K : Type} [Lean.Grind.Field K] {en fo : K → Int32} {el fm : AR} (hE : Enc en) (hf : Frm en fo el fm) {a b : K} (h : fo a = fo b) : a = b := by
  obtain ⟨n, h1, h2, h3⟩ := hf.1 a
  obtain ⟨m, h4, h5, h6⟩ := hf.1 b
  have e : n = m := (nI_eq (by omega) (by omega)).1 (by rw [← h2, ← h5, h])
  subst e
  exact hE.2.2.2.2.2.2.2 a b (by rw [← h3, ← h6])
/-- one bit more in the check over a frame -/
def ckb (c b : Nat) : Nat := (2 * c % 65536) ^^^ ((c / 32768 + b) % 2 * 4129)
def crcb (v : Nat) : Nat → Nat → Nat
  | 0 => fun c => c
  | m + 1 => fun c => crcb v m (ckb c (v / 2 ^ m % 2))
theorem ckb_lt (c b : Nat) : ckb c b < 65536 := by
  unfold ckb
  refine Nat.xor_lt_two_pow (n := 16) (by omega) ?_
  rcases (show (c / 32768 + b) % 2 = 0 ∨ (c / 32768 + b) % 2 = 1 by omega) with h | h <;> rw [h] <;> decide
theorem crcb_lt (v : Nat) : ∀ m c, c < 65536 → crcb v m c < 65536 := by
  intro m
  induction m with
  | zero => intro c h; exact h
  | succ m ih => intro c h; exact ih _ (ckb_lt _ _)
theorem x2_all : ∀ x, x < 2 → ∀ y, y < 2 → nI x ^^^ nI y = nI ((x + y) % 2) := by decide
theorem ck_sh {c : Nat} (hc : c < 65536) : (nI c <<< ((1 : Int32) &&& 31)) &&& 65535 = nI (2 * c % 65536) := by
  rw [pk_shlN _ 1 (by decide) (by omega), pk_andN (by omega) 16 (by decide), Nat.mul_comm]
theorem ck_top {c : Nat} (hc : c < 65536) {b : Nat} (hb : b < 2) : (nI c >>> ((15 : Int32) &&& 31)) ^^^ nI b = nI ((c / 32768 + b) % 2) := by
  rw [pk_shrN (by omega) _ 15 (by decide), x2_all _ (by omega) _ hb]
theorem on_lp {v : Nat} (hv : v < 2 ^ 31) : ∀ m fu c, m < fu → m ≤ 31 → c < 65536 → f_Mo_checkOn_5 fu (nI v) (nI c) (nI m + (-1)) = some (nI (crcb v m c)) := by
  intro m
  induction m with
  | zero =>
    intro fu c h1 h2 h3
    obtain ⟨f, rfl⟩ : ∃ f, fu = f + 1 := ⟨fu - 1, by omega⟩
    show f_Mo_checkOn_5_b _ _ _ _ = _
    unfold f_Mo_checkOn_5_b
    rw [if_pos (show nI 0 + (-1) < 0 by decide)]
    rfl
  | succ m ih =>
    intro fu c h1 h2 h3
    obtain ⟨f, rfl⟩ : ∃ f, fu = f + 1 := ⟨fu - 1, by omega⟩
    show f_Mo_checkOn_5_b _ _ _ _ = _
    unfold f_Mo_checkOn_5_b
    rw [pk_m1, if_neg (nI_pos (by omega)), n_bit hv (by omega), ck_top h3 (by omega), ck_sh h3, q_nm, q_nm]
    unfold f_Mo_checkOn_43
    have hgo := ih f (ckb c (v / 2 ^ m % 2)) (by omega) (by omega) (ckb_lt _ _)
    show _ = some (nI (crcb v m (ckb c (v / 2 ^ m % 2))))
    rw [← hgo]
    unfold ckb
    rcases (show (c / 32768 + v / 2 ^ m % 2) % 2 = 0 ∨ (c / 32768 + v / 2 ^ m % 2) % 2 = 1 by omega) with h | h
    · rw [h, if_neg (by decide), q_nm, Nat.zero_mul, Nat.xor_zero]
    · rw [h, if_pos (by decide), q_nm, show (4129 : Int32) = nI 4129 from rfl, nI_xor, Nat.one_mul]
theorem c_on {c v : Nat} (hc : c < 65536) (hv : v < 2 ^ 31) : f_Mo_checkOn (nI c) (nI v) = some (nI (crcb v 8 c)) :=
  on_lp hv 8 10000 c (by omega) (by omega) hc
theorem of_lp {arr : AR} {nb i v : Nat} (hi : i < nb) (hnb : nb < 2 ^ 31) (ha : arr i = nI v) (hv : v < 2 ^ 31) (kh : Int32 → Int32 → Int32 → Int32 → Option Int32) (x1 x2 : Int32) : ∀ m fu c, m < fu → m ≤ 31 → c < 65536 → f_DC_checkOf_25 arr nb kh fu x1 x2 (nI c) (nI i) (nI m + (-1)) = f_DC_checkOf_66 kh x1 x2 (nI (crcb v m c)) (nI i) := by
  intro m
  induction m with
  | zero =>
    intro fu c h1 h2 h3
    obtain ⟨f, rfl⟩ : ∃ f, fu = f + 1 := ⟨fu - 1, by omega⟩
    show f_DC_checkOf_25_b _ _ _ _ _ _ _ _ _ = _
    unfold f_DC_checkOf_25_b
    rw [if_pos (show nI 0 + (-1) < 0 by decide)]
    rfl
  | succ m ih =>
    intro fu c h1 h2 h3
    obtain ⟨f, rfl⟩ : ∃ f, fu = f + 1 := ⟨fu - 1, by omega⟩
    show f_DC_checkOf_25_b _ _ _ _ _ _ _ _ _ = _
    unfold f_DC_checkOf_25_b
    rw [pk_m1, if_neg (nI_pos (by omega)), q_rdI hi hnb, ha, n_bit hv (by omega), ck_top h3 (by omega), ck_sh h3, q_nm, q_nm, q_nm, show (4129 : Int32) = nI 4129 from rfl, pk_mul, nI_xor]
    exact ih f (ckb c (v / 2 ^ m % 2)) (by omega) (by omega) (ckb_lt _ _)
def crcA (B : Nat → Nat) (a : Nat) : Nat → Nat
  | 0 => 65535
  | n + 1 => crcb (B (a + n)) 8 (crcA B a n)
theorem crcA_lt (B : Nat → Nat) (a n : Nat) : crcA B a n < 65536 := by
  induction n with
  | zero => show 65535 < 65536; decide
  | succ n ih => exact crcb_lt _ _ _ ih
theorem crcA_congr {B B' : Nat → Nat} {a a' n : Nat} (h : ∀ i, i < n → B (a + i) = B' (a' + i)) : crcA B a n = crcA B' a' n := by
  induction n with
  | zero => rfl
  | succ n ih =>
    show crcb _ 8 (crcA B a n) = crcb _ 8 (crcA B' a' n)
    rw [ih (fun i hi => h i (by omega)), h n (by omega)]
theorem ofo_lp {B : Nat → Nat} (hB : ∀ i, B i < 256) {nb a n : Nat} (han : a + n ≤ nb) (hnb : nb < 9000) : ∀ fu k, k ≤ n → n - k < fu → f_DC_checkOf_6 (ea nI B) nb fu (nI a) (nI n) (nI (crcA B a k)) (nI (a + k)) = some (nI (crcA B a n)) := by
  intro fu
  induction fu with
  | zero => intro k h1 h2; omega
  | succ fu ih =>
    intro k h1 h2
    show f_DC_checkOf_6_b _ _ _ _ _ _ _ = _
    unfold f_DC_checkOf_6_b
    rw [nI_add]
    by_cases e : k = n
    · subst e
      rw [if_pos (nI_le (by omega) (by omega))]
    · have hbk := hB (a + k)
      rw [if_neg (nI_ge (by omega) (by omega)), if_neg (nI_ge (by omega) (by omega))]
      have := of_lp (arr := ea nI B) (nb := nb) (i := a + k) (v := B (a + k)) (by omega) (by omega) rfl (by omega) (f_DC_checkOf_6 (ea nI B) nb fu) (nI a) (nI n) 8 10000 (crcA B a k) (by omega) (by omega) (crcA_lt _ _ _)
      rw [show (7 : Int32) = nI 8 + (-1) from rfl, this]
      unfold f_DC_checkOf_66
      rw [q_nm, nI_1]
      exact ih (k + 1) (by omega) (by omega)
theorem c_of {B : Nat → Nat} (hB : ∀ i, B i < 256) {nb a n : Nat} (han : a + n ≤ nb) (hnb : nb < 9000) : f_DC_checkOf (ea nI B) nb (nI a) (nI n) = some (nI (crcA B a n)) :=
  ofo_lp hB han hnb 10000 0 (by omega) (by omega)
/-- the bytes of a frame before the check -/
def FBy (c h n m : Nat) (dat : Nat → Nat) (k : Nat) : Nat := if k = 0 then (16 * c + 2 * h) / 256 else if k = 1 then (16 * c + 2 * h) % 256 else if k = 2 then n % 256 else if k = 3 then m % 256 else if k = 4 then 24 else if k = 5 then 0 else dat (k - 6)
theorem FBy_lt {c h n m : Nat} {dat : Nat → Nat} (hc : c ≤ 1023) (hh : h ≤ 7) {k : Nat} (hd : 6 ≤ k → dat (k - 6) < 256) : FBy c h n m dat k < 256 := by
  unfold FBy
  by_cases e0 : k = 0
  · rw [if_pos e0]; omega
  rw [if_neg e0]
  by_cases e1 : k = 1
  · rw [if_pos e1]; omega
  rw [if_neg e1]
  by_cases e2 : k = 2
  · rw [if_pos e2]; omega
  rw [if_neg e2]
  by_cases e3 : k = 3
  · rw [if_pos e3]; omega
  rw [if_neg e3]
  by_cases e4 : k = 4
  · rw [if_pos e4]; omega
  rw [if_neg e4]
  by_cases e5 : k = 5
  · rw [if_pos e5]; omega
  rw [if_neg e5]
  exact hd (by omega)
theorem r_fb {c h n m k : Nat} {dat : Nat → Nat} {mc da : AR} (hc : c ≤ 1023) (hh : h ≤ 7) (hn : n < 2 ^ 30) (hm : m < 2 ^ 30) (hmc : mc h = nI m) (hk : k < 256) (hd : 6 ≤ k → k - 6 < 250 ∧ da (k - 6) = nI (dat (k - 6))) : f_Mo_frameByte (nI c) (nI n) mc da (nI k) (nI h) = some (nI (FBy c h n m dat k)) := by
  unfold f_Mo_frameByte FBy
  have hne0 : nI k = (0 : Int32) ↔ k = 0 := nI_eq (b := 0) (by omega) (by omega)
  have hne1 : nI k = (1 : Int32) ↔ k = 1 := nI_eq (b := 1) (by omega) (by omega)
  have hne2 : nI k = (2 : Int32) ↔ k = 2 := nI_eq (b := 2) (by omega) (by omega)
  have hne3 : nI k = (3 : Int32) ↔ k = 3 := nI_eq (b := 3) (by omega) (by omega)
  have hne4 : nI k = (4 : Int32) ↔ k = 4 := nI_eq (b := 4) (by omega) (by omega)
  have hne5 : nI k = (5 : Int32) ↔ k = 5 := nI_eq (b := 5) (by omega) (by omega)
  rw [q_nm, show (16 : Int32) * nI c + 2 * nI h = nI (16 * c + 2 * h) by rw [show (16 : Int32) = nI 16 from rfl, show (2 : Int32) = nI 2 from rfl, pk_mul, pk_mul, nI_add]]
  by_cases e0 : k = 0
  · rw [if_pos (hne0.2 e0), if_pos e0, pk_shrN (by omega) _ 8 (by decide)]
  rw [if_neg (fun x => e0 (hne0.1 x)), if_neg e0]
  by_cases e1 : k = 1
  · rw [if_pos (hne1.2 e1), if_pos e1, pk_andN (by omega) 8 (by decide)]
  rw [if_neg (fun x => e1 (hne1.1 x)), if_neg e1]
  by_cases e2 : k = 2
  · rw [if_pos (hne2.2 e2), if_pos e2, q_dv (by decide), show (256 : Int32) = nI 256 from rfl, pk_rem (by omega) (by omega) (by omega)]
  rw [if_neg (fun x => e2 (hne2.1 x)), if_neg e2]
  by_cases e3 : k = 3
  · rw [if_pos (hne3.2 e3), if_pos e3, q_rdI (by omega) (by decide), hmc, q_dv (by decide), show (256 : Int32) = nI 256 from rfl, pk_rem (by omega) (by omega) (by omega)]
  rw [if_neg (fun x => e3 (hne3.1 x)), if_neg e3]
  by_cases e4 : k = 4
  · rw [if_pos (hne4.2 e4), if_pos e4]; rfl
  rw [if_neg (fun x => e4 (hne4.1 x)), if_neg e4]
  by_cases e5 : k = 5
  · rw [if_pos (hne5.2 e5), if_pos e5]; rfl
  rw [if_neg (fun x => e5 (hne5.1 x)), if_neg e5]
  obtain ⟨d1, d2⟩ := hd (by omega)
  rw [show (6 : Int32) = nI 6 from rfl, pk_sub (by omega), q_rdI d1 (by decide), d2]
theorem l_fb {c h n m S a : Nat} {dat : Nat → Nat} {mc da : AR} {D' F' E' : Int32} {pr lg fm el : AR} (hc : c ≤ 1023) (hh : h ≤ 7) (hn : n < 2 ^ 30) (hm : m < 2 ^ 30) (hmc : mc h = nI m) (hS1 : 9 ≤ S) (hS : S ≤ 250) (ha : a ≤ 3750) (hd : ∀ k, k < S - 8 → da k = nI (dat k) ∧ dat k < 256) (val wd sol sys : AR) :
    ∀ fu k (by_ : AR), k ≤ S - 2 → S - 2 - k < fu → ∃ by', f_Mo_lay_12 D' F' E' (nI c) (nI n) pr lg fm el mc da fu (nI a) (nI h) (nI S) (nI (crcA (FBy c h n m dat) 0 k)) (nI k) by_ val wd sol sys = f_Mo_lay_55 D' F' E' pr lg fm el (nI a) (nI S) (nI (crcA (FBy c h n m dat) 0 (S - 2))) by' val wd sol sys ∧ (∀ i, k ≤ i → i < S - 2 → by' (a + i) = nI (FBy c h n m dat i)) ∧ (∀ q, (∀ i, k ≤ i → i < S - 2 → q ≠ a + i) → by' q = by_ q) := by
  intro fu
  induction fu with
  | zero => intro k by_ h1 h2; omega
  | succ fu ih =>
    intro k by_ h1 h2
    show ∃ by', f_Mo_lay_12_b _ _ _ _ _ _ _ _ _ _ _ _ _ _ _ _ _ _ _ _ _ _ = _ ∧ _ ∧ _
    unfold f_Mo_lay_12_b
    rw [show nI S - 2 = nI (S - 2) from pk_sub (b := 2) (by omega)]
    by_cases e : k = S - 2
    · rw [if_pos (nI_le (by omega) (by omega)), e]
      exact ⟨by_, rfl, fun i h3 h4 => by omega, fun q _ => rfl⟩
    · have hf := r_fb (k := k) (dat := dat) hc hh hn hm hmc (by omega) (fun h6 => ⟨by omega, (hd (k - 6) (by omega)).1⟩)
      have hfl : FBy c h n m dat k < 256 := FBy_lt hc hh (fun h6 => (hd (k - 6) (by omega)).2)
      rw [if_neg (nI_ge (by omega) (by omega)), hf, q_bd, q_nm, nI_add, q_wrI (by omega) (by decide), c_on (crcA_lt _ _ _) (by omega), q_bd, q_nm, q_nm, nI_1]
      obtain ⟨by', h3, h4, h5⟩ := ih (k + 1) (upd by_ (a + k) (nI (FBy c h n m dat k))) (by omega) (by omega)
      refine ⟨by', ?_, fun i h6 h7 => ?_, fun q hq => ?_⟩
      · rw [← h3]
        show _ = f_Mo_lay_12 D' F' E' (nI c) (nI n) pr lg fm el mc da fu (nI a) (nI h) (nI S) (nI (crcb (FBy c h n m dat (0 + k)) 8 (crcA (FBy c h n m dat) 0 k))) (nI (k + 1)) _ val wd sol sys
        rw [Nat.zero_add]
      · by_cases e2 : i = k
        · subst e2
          rw [h5 _ (fun j hj1 hj2 => by omega), pk_us]
        · exact h4 i (by omega) h7
      · rw [h5 q (fun i h6 h7 => hq i (by omega) h7), pk_un (hq k (by omega) (by omega))]
theorem f_hd {c h n m : Nat} {sb cc : AR} (dat : Nat → Nat) (hc : c ≤ 1023) (hh : h ≤ 7) (hcc : cc h = nI (m % 256)) : ∃ sb1, f_Sender_fillHeader (nI (n % 256)) (nI c) sb cc (nI h) = some sb1 ∧ (∀ k, k < 6 → sb1 k = nI (FBy c h n m dat k)) ∧ (∀ k, 6 ≤ k → sb1 k = sb k) := by
  unfold f_Sender_fillHeader
  have w0 : ∀ (j : Nat) (hj : j < 250) (f : AR) (x : Int32) (k : AR → Option AR), wrI f 250 (nI j) x k = k (upd f j x) := fun j hj f x k => q_wrI hj (by decide)
  rw [q_nm, show nI c * 16 + nI h * 2 = nI (16 * c + 2 * h) by rw [show (16 : Int32) = nI 16 from rfl, show (2 : Int32) = nI 2 from rfl, pk_mul, pk_mul, nI_add, Nat.mul_comm c, Nat.mul_comm h], show (0 : Int32) = nI 0 from rfl, w0 0 (by omega), show (1 : Int32) = nI 1 from rfl, w0 1 (by omega), show (2 : Int32) = nI 2 from rfl, w0 2 (by omega), q_rdI (by omega) (by decide), hcc, show (3 : Int32) = nI 3 from rfl, w0 3 (by omega), show (4 : Int32) = nI 4 from rfl, w0 4 (by omega), show (5 : Int32) = nI 5 from rfl, w0 5 (by omega), pk_shrN (by omega) _ 8 (by decide), pk_andN (by omega) 8 (by decide)]
  refine ⟨_, rfl, fun k hk => ?_, fun k hk => ?_⟩
  · unfold FBy
    rcases (show k = 0 ∨ k = 1 ∨ k = 2 ∨ k = 3 ∨ k = 4 ∨ k = 5 by omega) with rfl | rfl | rfl | rfl | rfl | rfl
    · rw [pk_un (by decide), pk_un (by decide), pk_un (by decide), pk_un (by decide), pk_un (by decide), pk_us]; rfl
    · rw [pk_un (by decide), pk_un (by decide), pk_un (by decide), pk_un (by decide), pk_us]; rfl
    · rw [pk_un (by decide), pk_un (by decide), pk_un (by decide), pk_us]; rfl
    · rw [pk_un (by decide), pk_un (by decide), pk_us]; rfl
    · rw [pk_un (by decide), pk_us]; rfl
    · rw [pk_us]; rfl
  · rw [pk_un (by omega), pk_un (by omega), pk_un (by omega), pk_un (by omega), pk_un (by omega), pk_un (by omega)]
end
