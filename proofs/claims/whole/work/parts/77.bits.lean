/-! PURE PART: bits, rows of bits, the coder -/
section
def bt (x : Int64) (k : Nat) : Bool := x.toBitVec.getLsbD k
def bL (b : Bool) : Int64 := if b then 1 else 0
def bI (b : Bool) : Int32 := nI b.toNat
theorem b_ext {x y : Int64} (h : ∀ k, k < 64 → bt x k = bt y k) : x = y := Int64.toBitVec_inj.1 (BitVec.eq_of_getLsbD_eq h)
theorem b_c : ∀ k, k < 64 → ((((nI k).toInt64 &&& 63).toBitVec).smod 64).toNat = k := by decide +kernel
theorem b_cu : ∀ k, k < 64 → (((nI k).toInt64.toUInt64 &&& Int64.toUInt64 63).toBitVec % 64).toNat = k := by decide +kernel
theorem b_ushr (x : Int64) {k : Nat} (hk : k < 64) : (x.toUInt64 >>> ((nI k).toInt64.toUInt64 &&& Int64.toUInt64 63)).toInt64.toBitVec = x.toBitVec >>> k := by
  show x.toBitVec >>> (((nI k).toInt64.toUInt64 &&& Int64.toUInt64 63).toBitVec % 64).toNat = _
  rw [b_cu k hk]
theorem b_shr (x : Int64) {k : Nat} (hk : k < 64) : (x >>> ((nI k).toInt64 &&& 63)).toBitVec = x.toBitVec.sshiftRight k := by
  show x.toBitVec.sshiftRight ((((nI k).toInt64 &&& 63).toBitVec).smod 64).toNat = _
  rw [b_c k hk]
theorem b_shl (x : Int64) {k : Nat} (hk : k < 64) : (x <<< ((nI k).toInt64 &&& 63)).toBitVec = x.toBitVec <<< k := by
  show x.toBitVec <<< ((((nI k).toInt64 &&& 63).toBitVec).smod 64).toNat = _
  rw [b_c k hk]
theorem b_and1 (x : Int64) : x &&& 1 = bL (bt x 0) := by
  refine b_ext fun k hk => ?_
  show (x.toBitVec &&& (1#64)).getLsbD k = _
  rw [BitVec.getLsbD_and, BitVec.getLsbD_one]
  unfold bL bt
  by_cases h : k = 0
  · subst h
    cases h2 : x.toBitVec.getLsbD 0 <;> rfl
  · have h1 : (decide (0 < 64) && decide (k = 0)) = false := by simp [h]
    rw [h1, Bool.and_false]
    cases h2 : x.toBitVec.getLsbD 0
    · show false = (0#64).getLsbD k
      simp
    · show false = (1#64).getLsbD k
      rw [BitVec.getLsbD_one, h1]
theorem b_u (x : Int64) {k : Nat} (hk : k < 64) : (x.toUInt64 >>> ((nI k).toInt64.toUInt64 &&& Int64.toUInt64 63)).toInt64 &&& 1 = bL (bt x k) := by
  rw [b_and1]
  unfold bt
  rw [b_ushr x hk, BitVec.getLsbD_ushiftRight, Nat.add_zero]
theorem b_s (x : Int64) {k : Nat} (hk : k < 64) : (x >>> ((nI k).toInt64 &&& 63)) &&& 1 = bL (bt x k) := by
  rw [b_and1]
  unfold bt
  rw [b_shr x hk, BitVec.getLsbD_sshiftRight, Nat.add_zero, if_pos hk]
  simp
theorem bL_I (b : Bool) : (bL b).toInt32 = bI b := by cases b <;> decide
theorem b_ui (x : Int64) {k : Nat} (hk : k < 64) : (x.toUInt64 >>> ((nI k).toInt64.toUInt64 &&& Int64.toUInt64 63)).toInt64.toInt32 &&& 1 = bI (bt x k) := by
  rw [← bL_I, ← b_u x hk, Int64.toInt32_and]
  rfl
theorem b_si (x : Int64) {k : Nat} (hk : k < 64) : ((x >>> ((nI k).toInt64 &&& 63)) &&& 1).toInt32 = bI (bt x k) := by
  rw [b_s x hk, bL_I]
theorem sb_s : ∀ k, k < 32 → ((nI k &&& 31).toBitVec.smod 32).toNat = k := by decide +kernel
theorem sb_u : ∀ k, k < 32 → (((nI k).toUInt32 &&& Int32.toUInt32 31).toBitVec % 32).toNat = k := by decide +kernel
theorem n_bit {n k : Nat} (hn : n < 2 ^ 31) (hk : k < 32) : (nI n >>> (nI k &&& 31)) &&& 1 = nI (n / 2 ^ k % 2) := by
  rw [pk_shrN hn _ k (sb_s k hk), pk_andN (Nat.lt_of_le_of_lt (Nat.div_le_self _ _) (by omega)) 1 (by decide)]
theorem n_ubit {n k : Nat} (hn : n < 2 ^ 32) (hk : k < 32) : ((nI n).toUInt32 >>> ((nI k).toUInt32 &&& Int32.toUInt32 31)).toInt32 &&& 1 = nI (n / 2 ^ k % 2) := by
  rw [pk_ushrN hn _ k (sb_u k hk), pk_andN (Nat.lt_of_le_of_lt (Nat.div_le_self _ _) hn) 1 (by decide)]
/-- bit k of a row of cells -/
def cb (cl : Nat → Int64) (k : Nat) : Bool := bt (cl (k / 64)) (k % 64)
/-- a row of bits in cells, the same in places -/
def RowEq (len : Nat) (cl : Nat → Int64) (ln : AR) : Prop := len ≤ 4096 ∧ (∀ k, k < len → ln k = bI (cb cl k)) ∧ (∀ k, len ≤ k → k < 4096 → cb cl k = false)
theorem bt_or (x y : Int64) (k : Nat) : bt (x ||| y) k = (bt x k || bt y k) := BitVec.getLsbD_or ..
theorem bt_xor (x y : Int64) (k : Nat) : bt (x ^^^ y) k = (bt x k != bt y k) := BitVec.getLsbD_xor ..
theorem bt_0 (k : Nat) : bt 0 k = false := by
  show (0#64).getLsbD k = false
  simp
theorem bt_shl1 {s : Nat} (hs : s < 64) (k : Nat) (hk : k < 64) : bt ((1 : Int64) <<< ((nI s).toInt64 &&& 63)) k = decide (k = s) := by
  unfold bt
  rw [b_shl _ hs, BitVec.getLsbD_shiftLeft]
  show (decide (k < 64) && !decide (k < s) && (1#64).getLsbD (k - s)) = _
  rw [BitVec.getLsbD_one]
  by_cases h : k = s
  · subst h
    simp [hk]
  · by_cases h2 : k < s
    · simp [h, h2]
    · simp [h, h2, show ¬ k - s = 0 by omega]
theorem bt_shl0 {s : Nat} (hs : s < 64) (k : Nat) : bt ((0 : Int64) <<< ((nI s).toInt64 &&& 63)) k = false := by
  unfold bt
  rw [b_shl _ hs]
  show ((0#64) <<< s).getLsbD k = false
  simp
/-- a bit behind the row -/
theorem a_app {len : Nat} (h : len < 4096) (cl : Nat → Int64) (b : Bool) : ∃ cl', f_BitRow_append (nI len) cl (bI b) = some (nI (len + 1), cl') ∧ ∀ k, cb cl' k = (cb cl k || (decide (k = len) && b)) := by
  unfold f_BitRow_append
  rw [if_neg (show ¬ (4096 : Int32) ≤ nI len from nI_ge (b := 4096) h (by decide)), q_nm, pk_shrN (by omega) _ 6 (by decide), q_rdL (by omega) (by decide), q_wrL (by omega) (by decide), q_nm, nI_1, pk_andN (by omega) 6 (by decide)]
  refine ⟨_, rfl, fun k => ?_⟩
  unfold cb
  by_cases e : k / 64 = len / 64
  · rw [show k / 64 = len / 2 ^ 6 from e, pk_uLs, bt_or]
    congr 1
    have hm : len % 2 ^ 6 < 64 := Nat.mod_lt _ (by decide)
    cases b
    · rw [show (bI false).toInt64 = (0 : Int64) from rfl, bt_shl0 hm, Bool.and_false]
    · rw [show (bI true).toInt64 = (1 : Int64) from rfl, bt_shl1 hm _ (Nat.mod_lt _ (by decide)), Bool.and_true]
      by_cases e2 : k = len
      · subst e2; simp
      · have : ¬ k % 64 = len % 2 ^ 6 := by omega
        simp [e2, this]
  · rw [pk_uLn (show k / 64 ≠ len / 2 ^ 6 from e)]
    have : ¬ k = len := fun h => e (by rw [h])
    simp [this]
theorem re_app {len : Nat} {cl cl' : Nat → Int64} {ln : AR} {b : Bool} (h : len < 4096) (hR : RowEq len cl ln) (hc : ∀ k, cb cl' k = (cb cl k || (decide (k = len) && b))) : RowEq (len + 1) cl' (upd ln len (bI b)) := by
  obtain ⟨h1, h2, h3⟩ := hR
  refine ⟨by omega, fun k hk => ?_, fun k hk1 hk2 => ?_⟩
  · rw [hc k]
    by_cases e : k = len
    · subst e
      rw [pk_us, h3 k (by omega) h]
      simp
    · rw [pk_un e, h2 k (by omega)]
      simp [e]
  · rw [hc k, h3 k (by omega) hk2]
    simp [show ¬ k = len by omega]
def begL : List Nat := [0, 1, 3, 6, 11, 18]
def fstL : List Nat := [1, 1, 0, 1, 0, 1, 1, 0, 1, 0, 1, 1, 0, 0, 0, 1, 0, 1]
def sndL : List Nat := [1, 1, 1, 1, 1, 0, 1, 1, 0, 1, 0, 1, 1, 1, 1, 0, 1, 0]
def Tab (bg fs sc : AR) : Prop := (∀ k, k < 6 → bg k = nI (begL.getD k 0)) ∧ (∀ k, k < 18 → fs k = nI (fstL.getD k 0)) ∧ (∀ k, k < 18 → sc k = nI (sndL.getD k 0))
def per (P : Nat) : Nat := [1, 2, 3, 5, 7].getD P 1
def k1 (P t : Nat) : Nat := fstL.getD (begL.getD P 0 + t % per P) 0
def k2 (P t : Nat) : Nat := sndL.getD (begL.getD P 0 + t % per P) 0
theorem tbl_all : ∀ P, P < 5 → begL.getD P 0 + per P = begL.getD (P + 1) 0 ∧ 0 < per P ∧ per P ≤ 7 ∧ begL.getD P 0 + per P ≤ 18 ∧ stP P = nI (per P) := by decide
theorem tb_k : ∀ P, P < 5 → ∀ r, r < per P → ((stF P >>> (nI (per P - 1 - r) &&& 31)) &&& (1 : Int32)) ||| (((stS P >>> (nI (per P - 1 - r) &&& 31)) &&& (1 : Int32)) <<< ((1 : Int32) &&& 31)) = nI (fstL.getD (begL.getD P 0 + r) 0 + 2 * sndL.getD (begL.getD P 0 + r) 0) ∧ fstL.getD (begL.getD P 0 + r) 0 ≤ 1 ∧ sndL.getD (begL.getD P 0 + r) 0 ≤ 1 ∧ 1 ≤ fstL.getD (begL.getD P 0 + r) 0 + sndL.getD (begL.getD P 0 + r) 0 := by decide +kernel
theorem k_le {P : Nat} (hP : P ≤ 4) (t : Nat) : k1 P t ≤ 1 ∧ k2 P t ≤ 1 ∧ 1 ≤ k1 P t + k2 P t := by
  have h := (tb_k P (by omega) (t % per P) (Nat.mod_lt _ (tbl_all P (by omega)).2.1)).2
  exact h
theorem k_mo {bg fs sc : AR} (hT : Tab bg fs sc) {P : Nat} (hP : P ≤ 4) {t : Nat} (ht : t < 2 ^ 30) : f_Mo_kept (nI P) bg fs 18 (nI t) = some (nI (k1 P t)) ∧ f_Mo_kept (nI P) bg sc 18 (nI t) = some (nI (k2 P t)) := by
  obtain ⟨t1, t2, t3⟩ := hT
  obtain ⟨a1, a2, a3, a4, _⟩ := tbl_all P (by omega)
  have hm : t % per P < per P := Nat.mod_lt _ a2
  unfold f_Mo_kept
  have e : bg (P + 1) - bg P = nI (per P) := by
    rw [t1 _ (by omega), t1 _ (by omega), pk_sub (by omega)]
    congr 1
    omega
  constructor
  · rw [q_rdI (by omega) (by decide), nI_1, q_rdI (by omega) (by decide), q_rdI (by omega) (by decide), e, q_dv (nI_ne0 a2 (by omega)), pk_rem (by omega) a2 (by omega), t1 P (by omega), nI_add, q_rdI (by omega) (by decide), t2 _ (by omega)]
    rfl
  · rw [q_rdI (by omega) (by decide), nI_1, q_rdI (by omega) (by decide), q_rdI (by omega) (by decide), e, q_dv (nI_ne0 a2 (by omega)), pk_rem (by omega) a2 (by omega), t1 P (by omega), nI_add, q_rdI (by omega) (by decide), t3 _ (by omega)]
    rfl
theorem k_cl {P : Nat} (hP : P ≤ 4) {t : Nat} (ht : t < 2 ^ 30) : f_Coder_keptAt (nI P) (nI t) = some (nI (k1 P t + 2 * k2 P t)) := by
  obtain ⟨a1, a2, a3, a4, a5⟩ := tbl_all P (by omega)
  have hm : t % per P < per P := Nat.mod_lt _ a2
  unfold f_Coder_keptAt
  rw [q_rdI (by omega) (by decide), q_rdI (by omega) (by decide), a5, q_dv (nI_ne0 a2 (by omega)), pk_rem (by omega) a2 (by omega), q_nm, q_rdI (by omega) (by decide), q_rdI (by omega) (by decide), show (1 : Int32) = nI 1 from rfl, pk_sub (by omega), pk_sub (by omega)]
  congr 1
  exact (tb_k P (by omega) _ hm).1
def par (v : Nat) : Nat := (v % 2 + v / 2 % 2 + v / 4 % 2 + v / 8 % 2 + v / 16 % 2 + v / 32 % 2 + v / 64 % 2) % 2
def o1 (v : Nat) : Bool := par (v &&& 121) == 1
def o2 (v : Nat) : Bool := par (v &&& 91) == 0
theorem o_mo : ∀ v, v < 128 → f_Mo_odd (nI v &&& 121) = some (bI (o1 v)) ∧ f_Mo_odd (nI v &&& 91) = some (1 - bI (o2 v)) := by decide +kernel
theorem o_cl : ∀ v, v < 128 → f_Coder_pairOf (nI v) = some (nI ((o1 v).toNat + 2 * (o2 v).toNat)) := by decide +kernel
end
