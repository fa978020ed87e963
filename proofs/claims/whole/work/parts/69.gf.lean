/-! PURE PART: the field of 256 elements -/
section
def ptab : List Nat := [1, 2, 4, 8, 16, 32, 64, 128, 135, 137, 149, 173, 221, 61, 122, 244, 111, 222, 59, 118, 236, 95, 190, 251, 113, 226, 67, 134, 139, 145, 165, 205, 29, 58, 116, 232, 87, 174, 219, 49, 98, 196, 15, 30, 60, 120, 240, 103, 206, 27, 54, 108, 216, 55, 110, 220, 63, 126, 252, 127, 254, 123, 246, 107, 214, 43, 86, 172, 223, 57, 114, 228, 79, 158, 187, 241, 101, 202, 19, 38, 76, 152, 183, 233, 85, 170, 211, 33, 66, 132, 143, 153, 181, 237, 93, 186, 243, 97, 194, 3, 6, 12, 24, 48, 96, 192, 7, 14, 28, 56, 112, 224, 71, 142, 155, 177, 229, 77, 154, 179, 225, 69, 138, 147, 161, 197, 13, 26, 52, 104, 208, 39, 78, 156, 191, 249, 117, 234, 83, 166, 203, 17, 34, 68, 136, 151, 169, 213, 45, 90, 180, 239, 89, 178, 227, 65, 130, 131, 129, 133, 141, 157, 189, 253, 125, 250, 115, 230, 75, 150, 171, 209, 37, 74, 148, 175, 217, 53, 106, 212, 47, 94, 188, 255, 121, 242, 99, 198, 11, 22, 44, 88, 176, 231, 73, 146, 163, 193, 5, 10, 20, 40, 80, 160, 199, 9, 18, 36, 72, 144, 167, 201, 21, 42, 84, 168, 215, 41, 82, 164, 207, 25, 50, 100, 200, 23, 46, 92, 184, 247, 105, 210, 35, 70, 140, 159, 185, 245, 109, 218, 51, 102, 204, 31, 62, 124, 248, 119, 238, 91, 182, 235, 81, 162, 195]
def ltab : List Nat := [0, 0, 1, 99, 2, 198, 100, 106, 3, 205, 199, 188, 101, 126, 107, 42, 4, 141, 206, 78, 200, 212, 189, 225, 102, 221, 127, 49, 108, 32, 43, 243, 5, 87, 142, 232, 207, 172, 79, 131, 201, 217, 213, 65, 190, 148, 226, 180, 103, 39, 222, 240, 128, 177, 50, 53, 109, 69, 33, 18, 44, 13, 244, 56, 6, 155, 88, 26, 143, 121, 233, 112, 208, 194, 173, 168, 80, 117, 132, 72, 202, 252, 218, 138, 214, 84, 66, 36, 191, 152, 149, 249, 227, 94, 181, 21, 104, 97, 40, 186, 223, 76, 241, 47, 129, 230, 178, 63, 51, 238, 54, 16, 110, 24, 70, 166, 34, 136, 19, 247, 45, 184, 14, 61, 245, 164, 57, 59, 7, 158, 156, 157, 89, 159, 27, 8, 144, 9, 122, 28, 234, 160, 113, 90, 209, 29, 195, 123, 174, 10, 169, 145, 81, 91, 118, 114, 133, 161, 73, 235, 203, 124, 253, 196, 219, 30, 139, 210, 215, 146, 85, 170, 67, 11, 37, 175, 192, 115, 153, 119, 150, 92, 250, 82, 228, 236, 95, 74, 182, 162, 22, 134, 105, 197, 98, 254, 41, 125, 187, 204, 224, 211, 77, 140, 242, 31, 48, 220, 130, 171, 231, 86, 179, 147, 64, 216, 52, 176, 239, 38, 55, 12, 17, 68, 111, 120, 25, 154, 71, 116, 167, 193, 35, 83, 137, 251, 20, 93, 248, 151, 46, 75, 185, 96, 15, 237, 62, 229, 246, 135, 165, 23, 58, 163, 60, 183]
def pt (k : Nat) : Nat := ptab.getD k 0
def lt (a : Nat) : Nat := ltab.getD a 0
def xt (v : Nat) : Nat := (v <<< 1) ^^^ ((v >>> 7) * 391)
theorem pt_all : ∀ k, k < 255 → pt k < 256 ∧ pt k ≠ 0 ∧ lt (pt k) = k ∧ xt (pt k) = pt ((k + 1) % 255) := by decide +kernel
theorem lt_all : ∀ a, a < 256 → a ≠ 0 → lt a < 255 ∧ pt (lt a) = a := by decide +kernel
theorem xt_xor {a b : Nat} (ha : a < 256) (hb : b < 256) : xt (a ^^^ b) = xt a ^^^ xt b := by
  unfold xt
  rw [Nat.shiftLeft_xor_distrib, Nat.shiftRight_xor_distrib]
  have h1 : a >>> 7 = 0 ∨ a >>> 7 = 1 := by rw [Nat.shiftRight_eq_div_pow]; omega
  have h2 : b >>> 7 = 0 ∨ b >>> 7 = 1 := by rw [Nat.shiftRight_eq_div_pow]; omega
  rcases h1 with h1 | h1 <;> rcases h2 with h2 | h2 <;> rw [h1, h2]
  · simp
  · simp [Nat.xor_assoc]
  · simp only [Nat.zero_xor, Nat.xor_zero, Nat.one_mul, Nat.zero_mul]
    rw [Nat.xor_assoc, Nat.xor_comm (b <<< 1), ← Nat.xor_assoc]
  · have : ((1 ^^^ 1) * 391) = 0 := by decide
    rw [this, Nat.xor_zero, Nat.one_mul]
    rw [Nat.xor_assoc (a <<< 1), ← Nat.xor_assoc 391, Nat.xor_comm 391, Nat.xor_assoc, Nat.xor_self, Nat.xor_zero]
def mulN (a b : Nat) : Nat := if a = 0 ∨ b = 0 then 0 else pt ((lt a + lt b) % 255)
def xtn : Nat → Nat → Nat
  | 0, a => a
  | k + 1, a => xt (xtn k a)
theorem xt_lt : ∀ a, a < 256 → xt a < 256 := by decide +kernel
theorem xtn_lt (k : Nat) {a : Nat} (h : a < 256) : xtn k a < 256 := by
  induction k with
  | zero => exact h
  | succ k ih => exact xt_lt _ ih
theorem xtn_xor (k : Nat) {a b : Nat} (ha : a < 256) (hb : b < 256) : xtn k (a ^^^ b) = xtn k a ^^^ xtn k b := by
  induction k with
  | zero => rfl
  | succ k ih =>
    show xt (xtn k (a ^^^ b)) = xt (xtn k a) ^^^ xt (xtn k b)
    rw [ih, xt_xor (xtn_lt k ha) (xtn_lt k hb)]
theorem xtn_pt (k i : Nat) (hi : i < 255) : xtn k (pt i) = pt ((i + k) % 255) := by
  induction k with
  | zero => rw [Nat.add_zero, Nat.mod_eq_of_lt hi]; rfl
  | succ k ih =>
    show xt (xtn k (pt i)) = _
    rw [ih, (pt_all _ (Nat.mod_lt _ (by decide))).2.2.2]
    congr 1
    omega
theorem mul_xtn {a b : Nat} (ha : a < 256) (hb : b < 256) (h0 : b ≠ 0) : mulN a b = xtn (lt b) a := by
  unfold mulN
  by_cases e : a = 0
  · subst e
    rw [if_pos (Or.inl rfl)]
    have : ∀ k, xtn k 0 = 0 := by
      intro k
      induction k with
      | zero => rfl
      | succ k ih => show xt (xtn k 0) = 0; rw [ih]; rfl
    rw [this]
  · rw [if_neg (by omega)]
    have h1 := lt_all a ha e
    conv => rhs; rw [← h1.2]
    rw [xtn_pt _ _ h1.1]
theorem mul_lt (a b : Nat) : mulN a b < 256 := by
  unfold mulN
  by_cases h : a = 0 ∨ b = 0
  · rw [if_pos h]; decide
  · rw [if_neg h]; exact (pt_all _ (Nat.mod_lt _ (by decide))).1
theorem mul_cm (a b : Nat) : mulN a b = mulN b a := by
  unfold mulN
  by_cases h : a = 0 ∨ b = 0
  · rw [if_pos h, if_pos (by omega)]
  · rw [if_neg h, if_neg (by omega), Nat.add_comm]
theorem mul_as {a b c : Nat} : mulN (mulN a b) c = mulN a (mulN b c) := by
  by_cases ha : a = 0
  · subst ha; simp [mulN]
  by_cases hb : b = 0
  · subst hb; simp [mulN]
  by_cases hc : c = 0
  · subst hc; simp [mulN]
  have p1 := pt_all ((lt a + lt b) % 255) (Nat.mod_lt _ (by decide))
  have p2 := pt_all ((lt b + lt c) % 255) (Nat.mod_lt _ (by decide))
  have e1 : mulN a b = pt ((lt a + lt b) % 255) := by unfold mulN; rw [if_neg (by omega)]
  have e2 : mulN b c = pt ((lt b + lt c) % 255) := by unfold mulN; rw [if_neg (by omega)]
  rw [e1, e2]
  unfold mulN
  rw [if_neg (by omega), if_neg (by omega), p1.2.2.1, p2.2.2.1]
  congr 1
  omega
theorem mul_ad {a b c : Nat} (ha : a < 256) (hb : b < 256) (hc : c < 256) : mulN (a ^^^ b) c = mulN a c ^^^ mulN b c := by
  by_cases h0 : c = 0
  · subst h0; simp [mulN]
  · rw [mul_xtn (Nat.xor_lt_two_pow (n := 8) ha hb) hc h0, mul_xtn ha hc h0, mul_xtn hb hc h0, xtn_xor _ ha hb]
theorem mul_1 : ∀ a, a < 256 → mulN a 1 = a := by decide +kernel
def invN (a : Nat) : Nat := if a = 0 then 0 else pt ((255 - lt a) % 255)
theorem inv_lt (a : Nat) : invN a < 256 := by
  unfold invN
  by_cases h : a = 0
  · rw [if_pos h]; decide
  · rw [if_neg h]; exact (pt_all _ (Nat.mod_lt _ (by decide))).1
theorem mul_inv : ∀ a, a < 256 → a ≠ 0 → mulN a (invN a) = 1 := by decide +kernel
theorem inv_inv : ∀ a, a < 256 → invN (invN a) = a := by decide +kernel
def GF : Type := Fin 256
def gfadd (a b : GF) : GF := ⟨a.val ^^^ b.val, Nat.xor_lt_two_pow (n := 8) a.isLt b.isLt⟩
def gfmul (a b : GF) : GF := ⟨mulN a.val b.val, mul_lt _ _⟩
def gfinv (a : GF) : GF := ⟨invN a.val, inv_lt _⟩
def gfn (n : Nat) : GF := ⟨n % 2, by omega⟩
def gfpow (a : GF) : Nat → GF
  | 0 => gfn 1
  | n + 1 => gfmul (gfpow a n) a
def gfz (a : GF) : Int → GF
  | Int.ofNat n => gfpow a n
  | Int.negSucc n => gfinv (gfpow a (n + 1))
theorem gf_ext {a b : GF} (h : a.val = b.val) : a = b := Fin.ext h
def gfF : Lean.Grind.Field GF where
  add := gfadd
  mul := gfmul
  neg := fun a => a
  sub := gfadd
  inv := gfinv
  div := fun a b => gfmul a (gfinv b)
  natCast := ⟨gfn⟩
  ofNat := fun n => ⟨gfn n⟩
  nsmul := ⟨fun n a => gfmul (gfn n) a⟩
  npow := ⟨gfpow⟩
  intCast := ⟨fun i => gfn i.natAbs⟩
  zsmul := ⟨fun i a => gfmul (gfn i.natAbs) a⟩
  zpow := ⟨gfz⟩
  add_zero := fun a => gf_ext (Nat.xor_zero _)
  add_comm := fun a b => gf_ext (Nat.xor_comm _ _)
  add_assoc := fun a b c => gf_ext (Nat.xor_assoc _ _ _)
  mul_assoc := fun a b c => gf_ext mul_as
  mul_comm := fun a b => gf_ext (mul_cm _ _)
  mul_one := fun a => gf_ext (mul_1 a.val a.isLt)
  left_distrib := fun a b c => gf_ext (by
    show mulN a.val (b.val ^^^ c.val) = mulN a.val b.val ^^^ mulN a.val c.val
    rw [mul_cm, mul_ad b.isLt c.isLt a.isLt, mul_cm, mul_cm c.val])
  one_mul := fun a => gf_ext ((mul_cm _ _).trans (mul_1 a.val a.isLt))
  right_distrib := fun a b c => gf_ext (mul_ad a.isLt b.isLt c.isLt)
  mul_zero := fun a => gf_ext (by show mulN a.val 0 = 0; simp [mulN])
  zero_mul := fun a => gf_ext (by show mulN 0 a.val = 0; simp [mulN])
  pow_zero := fun a => rfl
  pow_succ := fun a n => rfl
  ofNat_succ := fun n => gf_ext (by
    show (n + 1) % 2 = (n % 2) ^^^ (1 % 2)
    rcases Nat.mod_two_eq_zero_or_one n with h | h
    · rw [h, show (n + 1) % 2 = 1 by omega]; rfl
    · rw [h, show (n + 1) % 2 = 0 by omega]; rfl)
  neg_add_cancel := fun a => gf_ext (Nat.xor_self _)
  sub_eq_add_neg := fun a b => rfl
  neg_zsmul := fun i a => by
    show gfmul (gfn (-i).natAbs) a = gfmul (gfn i.natAbs) a
    rw [Int.natAbs_neg]
  intCast_neg := fun i => by
    show gfn (-i).natAbs = gfn i.natAbs
    rw [Int.natAbs_neg]
  div_eq_mul_inv := fun a b => rfl
  zero_ne_one := fun h => absurd (congrArg Fin.val h) (by decide)
  inv_zero := rfl
  mul_inv_cancel := fun {a} h => gf_ext (mul_inv a.val a.isLt (fun h0 => h (gf_ext h0)))
  zpow_zero := fun a => rfl
  zpow_succ := fun a n => rfl
  zpow_neg := fun a i => by
    cases i with
    | ofNat n =>
      cases n with
      | zero =>
        have e : -(Int.ofNat 0) = Int.ofNat 0 := rfl
        rw [e]
        show gfpow a 0 = gfinv (gfpow a 0)
        exact gf_ext (show (gfn 1).val = (gfinv (gfn 1)).val by decide +kernel)
      | succ n => rfl
    | negSucc n => exact gf_ext (inv_inv _ (gfpow a (n + 1)).isLt).symm
theorem gf_h2 (x : GF) : gfadd x x = gfn 0 := gf_ext (Nat.xor_self _)
end
