/-! PURE PART: counting bits, marks -/
section
theorem nI_or (a b : Nat) : nI a ||| nI b = nI (a ||| b) := by
  refine Int32.toBitVec_inj.1 (BitVec.eq_of_toNat_eq ?_)
  show (BitVec.ofNat 32 a ||| BitVec.ofNat 32 b).toNat = (BitVec.ofNat 32 (a ||| b)).toNat
  rw [BitVec.toNat_or, BitVec.toNat_ofNat, BitVec.toNat_ofNat, BitVec.toNat_ofNat, Nat.or_mod_two_pow]
theorem nI_and (a b : Nat) : nI a &&& nI b = nI (a &&& b) := by
  refine Int32.toBitVec_inj.1 (BitVec.eq_of_toNat_eq ?_)
  show (BitVec.ofNat 32 a &&& BitVec.ofNat 32 b).toNat = (BitVec.ofNat 32 (a &&& b)).toNat
  rw [BitVec.toNat_and, BitVec.toNat_ofNat, BitVec.toNat_ofNat, BitVec.toNat_ofNat, Nat.and_mod_two_pow]
theorem and_sp {c z m M : Nat} (hc : c < 256) (hm : m < 256) : (c + 256 * z) &&& (m + 256 * M) = (c &&& m) + 256 * (z &&& M) := by
  have h1 : ((c + 256 * z) &&& (m + 256 * M)) % 2 ^ 8 = c &&& m := by
    rw [Nat.and_mod_two_pow, show (c + 256 * z) % 2 ^ 8 = c by omega, show (m + 256 * M) % 2 ^ 8 = m by omega]
  have h2 : ((c + 256 * z) &&& (m + 256 * M)) / 2 ^ 8 = z &&& M := by
    rw [Nat.and_div_two_pow, show (c + 256 * z) / 2 ^ 8 = z by omega, show (m + 256 * M) / 2 ^ 8 = M by omega]
  omega
theorem and4 {a b c d m : Nat} (ha : a < 256) (hb : b < 256) (hc : c < 256) (hd : d < 256) (hm : m < 256) : (a + 256 * (b + 256 * (c + 256 * d))) &&& (m + 256 * (m + 256 * (m + 256 * m))) = (a &&& m) + 256 * ((b &&& m) + 256 * ((c &&& m) + 256 * (d &&& m))) := by
  rw [and_sp ha hm, and_sp hb hm, and_sp hc hm]
/-- how many of the lowest bits are 1 -/
def bsm (n : Nat) : Nat → Nat
  | 0 => 0
  | m + 1 => bsm n m + n / 2 ^ m % 2
theorem bsm_lo (b z : Nat) : ∀ m, m ≤ 8 → bsm (b + 256 * z) m = bsm b m := by
  intro m
  induction m with
  | zero => intro _; rfl
  | succ m ih =>
    intro h
    show bsm (b + 256 * z) m + (b + 256 * z) / 2 ^ m % 2 = bsm b m + b / 2 ^ m % 2
    rw [ih (by omega)]
    congr 1
    rcases (show m = 0 ∨ m = 1 ∨ m = 2 ∨ m = 3 ∨ m = 4 ∨ m = 5 ∨ m = 6 ∨ m = 7 by omega) with rfl | rfl | rfl | rfl | rfl | rfl | rfl | rfl <;> omega
theorem bsm_hi {b z : Nat} (hb : b < 256) : ∀ m, bsm (b + 256 * z) (8 + m) = bsm b 8 + bsm z m := by
  intro m
  induction m with
  | zero => exact bsm_lo b z 8 (by omega)
  | succ m ih =>
    show bsm (b + 256 * z) (8 + m) + (b + 256 * z) / 2 ^ (8 + m) % 2 = bsm b 8 + (bsm z m + z / 2 ^ m % 2)
    rw [ih, Nat.pow_add, ← Nat.div_div_eq_div_mul, show (b + 256 * z) / 2 ^ 8 = z by omega]
    omega
theorem bsm_bits {n : Nat} {f : Nat → Bool} (h : ∀ k, k < 32 → n.testBit k = f k) : ∀ m, m ≤ 32 → bsm n m = ((List.range m).map fun k => (f k).toNat).sum := by
  intro m
  induction m with
  | zero => intro _; rfl
  | succ m ih =>
    intro hm
    rw [List.range_succ, List.map_append, List.sum_append, ← ih (by omega)]
    show bsm n m + n / 2 ^ m % 2 = bsm n m + ([m].map fun k => (f k).toNat).sum
    congr 1
    show n / 2 ^ m % 2 = (f m).toNat + 0
    rw [← h m (by omega), Nat.toNat_testBit, Nat.add_zero]
/-- how many places of a row differ from the mark -/
def mkb (k : Nat) : Bool := 449838109 / 2 ^ (31 - k) % 2 == 1
def mkd (f : Nat → Bool) : Nat → Nat
  | 0 => 0
  | m + 1 => mkd f m + (f m != mkb m).toNat
theorem mkd_le (f : Nat → Bool) (m : Nat) : mkd f m ≤ m := by
  induction m with
  | zero => exact Nat.le_refl _
  | succ m ih =>
    have := tn_lt (f m != mkb m)
    show mkd f m + (f m != mkb m).toNat ≤ _
    omega
theorem mkd_congr {f g : Nat → Bool} {m : Nat} (h : ∀ k, k < m → f k = g k) : mkd f m = mkd g m := by
  induction m with
  | zero => rfl
  | succ m ih =>
    show mkd f m + (f m != mkb m).toNat = mkd g m + (g m != mkb m).toNat
    rw [ih (fun k hk => h k (by omega)), h m (by omega)]
theorem mk_m : ∀ k, k < 32 → (449838109 : Int32) >>> (((31 : Int32) - nI k) &&& 31) &&& 1 = bI (mkb k) := by decide +kernel
theorem mw_lp {row : AR} {N p : Nat} {f : Nat → Bool} (hN : N ≤ 3600) (hp : p + 32 ≤ N) (hr : ∀ k, k < N → row k = bI (f k)) : ∀ fu k, k ≤ 32 → 32 - k < fu → f_Mo_markWrong_4 row fu (nI p) (nI (mkd (fun j => f (p + j)) k)) (nI k) = some (nI (mkd (fun j => f (p + j)) 32)) := by
  intro fu
  induction fu with
  | zero => intro k h1 h2; omega
  | succ fu ih =>
    intro k h1 h2
    show f_Mo_markWrong_4_b _ _ _ _ _ = _
    unfold f_Mo_markWrong_4_b
    by_cases e : k = 32
    · rw [if_pos (show (32 : Int32) ≤ nI k from nI_le (a := 32) (by omega) (by omega)), e]
    · rw [if_neg (show ¬ (32 : Int32) ≤ nI k from nI_ge (b := 32) (by omega) (by decide)), nI_add, q_rdI (by omega) (by decide), hr _ (by omega), mk_m k (by omega)]
      unfold f_Mo_markWrong_36
      have hgo := ih (k + 1) (by omega) (by omega)
      have hst : mkd (fun j => f (p + j)) (k + 1) = mkd (fun j => f (p + j)) k + (f (p + k) != mkb k).toNat := rfl
      by_cases c : f (p + k) = mkb k
      · rw [if_pos (bI_inj.2 c), q_nm, q_nm, nI_1, Int32.add_zero]
        rw [hst, c] at hgo
        simp at hgo
        exact hgo
      · rw [if_neg (fun h => c (bI_inj.1 h)), q_nm, q_nm, nI_1, nI_1]
        have c2 : (f (p + k) != mkb k) = true := by simp [c]
        rw [hst, c2] at hgo
        exact hgo
theorem mw_ok {row : AR} {N p : Nat} {f : Nat → Bool} (hN : N ≤ 3600) (hp : p + 32 ≤ N) (hr : ∀ k, k < N → row k = bI (f k)) : f_Mo_markWrong row (nI p) = some (nI (mkd (fun j => f (p + j)) 32)) :=
  mw_lp hN hp hr 10000 0 (by omega) (by omega)
theorem mi_mk : f_DC_mirrored (449838109 : Int64) (32 : Int32) = some (nI 3091198808) := by decide +kernel
theorem mi_bit : ∀ k, k < 32 → Nat.testBit 3091198808 k = mkb k := by decide +kernel
theorem lo32 (W : Int64) : W.toInt32 = nI (W.toBitVec.toNat % 2 ^ 32) := by
  refine Int32.toBitVec_inj.1 (BitVec.eq_of_toNat_eq ?_)
  show (W.toBitVec.signExtend 32).toNat = (BitVec.ofNat 32 (W.toBitVec.toNat % 2 ^ 32)).toNat
  rw [BitVec.signExtend_eq_setWidth_of_le _ (by decide), BitVec.toNat_setWidth, BitVec.toNat_ofNat, Nat.mod_mod]
theorem mkd_sum (f : Nat → Bool) : ∀ m, ((List.range m).map fun k => (f k != mkb k).toNat).sum = mkd f m := by
  intro m
  induction m with
  | zero => rfl
  | succ m ih =>
    rw [List.range_succ, List.map_append, List.sum_append, ih]
    show mkd f m + ([m].map fun k => (f k != mkb k).toNat).sum = mkd f m + (f m != mkb m).toNat
    simp
/-- the first bits of a long, the first one highest -/
def mir (f : Nat → Bool) : Nat → Nat
  | 0 => 0
  | m + 1 => 2 * mir f m + (f m).toNat
theorem mir_lt (f : Nat → Bool) (m : Nat) : mir f m < 2 ^ m := by
  induction m with
  | zero => show 0 < 1; decide
  | succ m ih =>
    have := tn_lt (f m)
    show 2 * mir f m + (f m).toNat < 2 ^ (m + 1)
    rw [Nat.pow_succ]
    omega
theorem mir_congr {f g : Nat → Bool} {m : Nat} (h : ∀ k, k < m → f k = g k) : mir f m = mir g m := by
  induction m with
  | zero => rfl
  | succ m ih =>
    show 2 * mir f m + (f m).toNat = 2 * mir g m + (g m).toNat
    rw [ih (fun k hk => h k (by omega)), h m (by omega)]
theorem mi_lp (W : Int64) {f : Nat → Bool} (hW : ∀ k, k < 64 → bt W k = f k) : ∀ fu b, b ≤ 8 → 8 - b < fu → f_DC_mirrored_5 fu W 8 (nI (mir f b)) (nI b) = some (nI (mir f 8)) := by
  intro fu
  induction fu with
  | zero => intro b h1 h2; omega
  | succ fu ih =>
    intro b h1 h2
    show f_DC_mirrored_5_b _ _ _ _ _ = _
    unfold f_DC_mirrored_5_b
    by_cases e : b = 8
    · rw [if_pos (show (8 : Int32) ≤ nI b from nI_le (a := 8) (by omega) (by omega)), e]
    · have hm := mir_lt f b
      have hp : 2 ^ b ≤ 2 ^ 7 := Nat.pow_le_pow_right (by decide) (by omega)
      rw [if_neg (show ¬ (8 : Int32) ≤ nI b from nI_ge (b := 8) (by omega) (by decide)), q_nm, q_nm, b_ui W (by omega), hW b (by omega), pk_shlN _ 1 (by decide) (by omega), nI_1]
      have hor : nI (mir f b * 2 ^ 1) ||| bI (f b) = nI (mir f (b + 1)) := by
        show nI (mir f b * 2 ^ 1) ||| nI (f b).toNat = nI (2 * mir f b + (f b).toNat)
        rw [nI_or, Nat.mul_comm, ← Nat.two_pow_add_eq_or_of_lt (tn_lt (f b)), Nat.pow_one]
      rw [hor]
      exact ih (b + 1) (by omega) (by omega)
theorem mi_ok (W : Int64) {f : Nat → Bool} (hW : ∀ k, k < 64 → bt W k = f k) : f_DC_mirrored W 8 = some (nI (mir f 8)) :=
  mi_lp W hW 10000 0 (by omega) (by omega)
end
