/-! PURE PART: the field at last, and the tables -/
section
def ge (a : GF) : Int32 := nI a.val
def ofp (v : Nat) : Nat → Nat
  | 0 => 0
  | b + 1 => ofp v b ^^^ (v / 2 ^ b % 2 * [123, 175, 153, 250, 134, 236, 239, 141].getD b 0)
def ofm (v : Nat) : Nat := ofp v 8
def oitab : List Nat := [0, 204, 172, 96, 121, 181, 213, 25, 240, 60, 92, 144, 137, 69, 37, 233, 253, 49, 81, 157, 132, 72, 40, 228, 13, 193, 161, 109, 116, 184, 216, 20, 46, 226, 130, 78, 87, 155, 251, 55, 222, 18, 114, 190, 167, 107, 11, 199, 211, 31, 127, 179, 170, 102, 6, 202, 35, 239, 143, 67, 90, 150, 246, 58, 66, 142, 238, 34, 59, 247, 151, 91, 178, 126, 30, 210, 203, 7, 103, 171, 191, 115, 19, 223, 198, 10, 106, 166, 79, 131, 227, 47, 54, 250, 154, 86, 108, 160, 192, 12, 21, 217, 185, 117, 156, 80, 48, 252, 229, 41, 73, 133, 145, 93, 61, 241, 232, 36, 68, 136, 97, 173, 205, 1, 24, 212, 180, 120, 197, 9, 105, 165, 188, 112, 16, 220, 53, 249, 153, 85, 76, 128, 224, 44, 56, 244, 148, 88, 65, 141, 237, 33, 200, 4, 100, 168, 177, 125, 29, 209, 235, 39, 71, 139, 146, 94, 62, 242, 27, 215, 183, 123, 98, 174, 206, 2, 22, 218, 186, 118, 111, 163, 195, 15, 230, 42, 74, 134, 159, 83, 51, 255, 135, 75, 43, 231, 254, 50, 82, 158, 119, 187, 219, 23, 14, 194, 162, 110, 122, 182, 214, 26, 3, 207, 175, 99, 138, 70, 38, 234, 243, 63, 95, 147, 169, 101, 5, 201, 208, 28, 124, 176, 89, 149, 245, 57, 32, 236, 140, 64, 84, 152, 248, 52, 45, 225, 129, 77, 164, 104, 8, 196, 221, 17, 113, 189]
def oin (u : Nat) : Nat := oitab.getD u 0
theorem of_all : ∀ v, v < 256 → ofm v < 256 ∧ oin (ofm v) = v ∧ oin v < 256 ∧ ofm (oin v) = v := by decide +kernel
def go (a : GF) : Int32 := nI (ofm a.val)
def gG : GF := ⟨173, by decide⟩
theorem ge_enc : @Enc GF gfF ge := by
  refine ⟨rfl, rfl, fun a h => gf_ext ?_, fun a b => ?_, fun a => ⟨a.val, a.isLt, rfl⟩, fun n hn => ⟨⟨n, hn⟩, rfl⟩, fun x => gf_h2 x, fun a b h => gf_ext ?_⟩
  · have h1 : nI a.val = nI 0 := h
    have h2 := a.isLt
    exact (nI_eq (by omega) (by omega)).1 h1
  · exact nI_xor a.val b.val
  · have h1 : nI a.val = nI b.val := h
    have h2 := a.isLt
    have h3 := b.isLt
    exact (nI_eq (by omega) (by omega)).1 h1
theorem mul_pt {a b : Nat} (ha : a < 255) (hb : b < 255) : mulN (pt a) (pt b) = pt ((a + b) % 255) := by
  have h1 := pt_all a ha
  have h2 := pt_all b hb
  unfold mulN
  rw [if_neg (by intro h; rcases h with h | h; exact h1.2.1 h; exact h2.2.1 h), h1.2.2.1, h2.2.2.1]
theorem gpw : ∀ k, (@pw GF gfF gG k).val = pt (11 * k % 255) := by
  intro k
  induction k with
  | zero => show (gfn 1).val = pt (11 * 0 % 255); decide
  | succ k ih =>
    show mulN (@pw GF gfF gG k).val 173 = pt (11 * (k + 1) % 255)
    rw [ih, show 173 = pt 11 by decide, mul_pt (Nat.mod_lt _ (by decide)) (by decide)]
    congr 1
    omega
theorem gGen : @Gen GF gfF gG := by
  refine ⟨fun h => absurd (congrArg Fin.val h) (by decide), fun i j hi hj hne h => hne ?_⟩
  have h1 : (@pw GF gfF gG i).val = (@pw GF gfF gG j).val := by rw [h]
  rw [gpw, gpw] at h1
  have h2 := (pt_all (11 * i % 255) (Nat.mod_lt _ (by decide))).2.2.1
  have h3 := (pt_all (11 * j % 255) (Nat.mod_lt _ (by decide))).2.2.1
  rw [h1, h3] at h2
  omega
theorem pt_lt (k : Nat) (h : k < 255) : pt k < 256 := (pt_all k h).1
theorem fldM {lg pr : AR} (hp : ∀ k, k < 255 → pr k = nI (pt k)) (hl : ∀ a, a < 256 → a ≠ 0 → lg a = nI (lt a)) : @FldM GF gfF ge gG lg pr := by
  have h255 : ¬ (255 : Int32) = 0 := by decide
  refine ⟨fun a b => ?_, fun a ha => ?_, fun k hk => ?_⟩
  · show f_Mo_product lg pr (nI a.val) (nI b.val) = some (nI (mulN a.val b.val))
    have ha := a.isLt
    have hb := b.isLt
    generalize a.val = x at ha
    generalize b.val = y at hb
    unfold f_Mo_product f_Mo_product_8 mulN
    by_cases c1 : x = 0
    · rw [if_pos (by rw [c1]; rfl), if_pos (Or.inl c1)]; rfl
    · rw [if_neg (nI_ne0 (by omega) (by omega))]
      by_cases c2 : y = 0
      · rw [if_pos (by rw [c2]; rfl), if_pos (Or.inr c2)]; rfl
      · have l1 := (lt_all x ha c1).1
        have l2 := (lt_all y hb c2).1
        have hm : (lt x + lt y) % 255 < 255 := Nat.mod_lt _ (by decide)
        rw [if_neg (nI_ne0 (by omega) (by omega)), if_neg (by omega), q_rdI ha (by decide), q_rdI hb (by decide), hl x ha c1, hl y hb c2, nI_add, q_dv h255, show (255 : Int32) = nI 255 from rfl, pk_rem (by omega) (by omega) (by omega), q_rdI hm (by decide), hp _ hm]
  · show f_Mo_inverse lg pr (nI a.val) = some (nI (invN a.val))
    have hx := a.isLt
    have h0 : a.val ≠ 0 := fun h => ha (gf_ext h)
    generalize a.val = x at hx h0
    have l1 := (lt_all x hx h0).1
    have hm : (255 - lt x) % 255 < 255 := Nat.mod_lt _ (by decide)
    unfold f_Mo_inverse invN
    rw [if_neg h0, q_rdI hx (by decide), hl x hx h0, q_dv h255, show (255 : Int32) = nI 255 from rfl, pk_sub (by omega), pk_rem (by omega) (by omega) (by omega), q_rdI hm (by decide), hp _ hm]
  · show f_Mo_ofG pr (nI k) = some (nI (@pw GF gfF gG k).val)
    have hm : 11 * k % 255 < 255 := Nat.mod_lt _ (by decide)
    unfold f_Mo_ofG
    rw [gpw, q_dv h255, show (11 : Int32) * nI k = nI (11 * k) from pk_mul 11 k, show (255 : Int32) = nI 255 from rfl, pk_rem (by omega) (by omega) (by omega), q_rdI hm (by decide), hp _ hm]
theorem neg_rem {k : Nat} (hk : k < 2 ^ 30) : -(nI k) - -(nI k) / 255 * 255 = -(nI (k % 255)) := by
  have hd : -(nI k) / 255 = -(nI (k / 255)) := by
    refine Int32.toInt_inj.1 ?_
    rw [Int32.toInt_div, Int32.toInt_neg, Int32.toInt_neg, nI_toInt (by omega), nI_toInt (by omega), show (255 : Int32).toInt = 255 by decide, Int.bmod_eq_of_le (n := -(k : Int)) (by omega) (by omega), Int.neg_tdiv, Int.bmod_eq_of_le (n := -((k / 255 : Nat) : Int)) (by omega) (by omega)]
    rw [show ((k : Int)).tdiv 255 = ((k / 255 : Nat) : Int) by rw [Int.tdiv_eq_ediv_of_nonneg (by omega)]; omega]
    exact Int.bmod_eq_of_le (by omega) (by omega)
  rw [hd]
  have h1 := pk_rem (a := k) (d := 255) (by omega) (by omega) (by omega)
  rw [pk_div (by omega) (by omega) (by omega)] at h1
  rw [← h1, show nI 255 = (255 : Int32) from rfl]
  generalize nI k = x
  generalize nI (k / 255) = y
  grind
theorem fldC {lg pr : AR} (hp : ∀ k, k < 255 → pr k = nI (pt (11 * k % 255))) (hl : ∀ a, a < 256 → a ≠ 0 → lg a = nI (lt a * 116 % 255)) : @FldC GF gfF ge gG lg pr := by
  have h255 : ¬ (255 : Int32) = 0 := by decide
  have ha8 : ∀ x, x < 256 → nI x &&& (255 : Int32) = nI x := fun x hx => by rw [pk_andN (by omega) 8 (by decide), Nat.mod_eq_of_lt hx]
  refine ⟨fun a b => ?_, fun a b hb0 => ?_, fun k hk => ?_, fun k hk => ?_⟩
  · show f_Field_product lg pr (nI a.val) (nI b.val) = some (nI (mulN a.val b.val))
    have ha := a.isLt
    have hb := b.isLt
    generalize a.val = x at ha
    generalize b.val = y at hb
    unfold f_Field_product mulN
    by_cases c1 : x = 0
    · rw [if_pos (by rw [c1]; rfl), if_pos (Or.inl c1)]; rfl
    · rw [if_neg (nI_ne0 (by omega) (by omega))]
      by_cases c2 : y = 0
      · rw [if_pos (by rw [c2]; rfl), if_pos (Or.inr c2)]; rfl
      · have l1 := (lt_all x ha c1).1
        have l2 := (lt_all y hb c2).1
        have hm : (lt x * 116 % 255 + lt y * 116 % 255) % 255 < 255 := Nat.mod_lt _ (by decide)
        rw [if_neg (nI_ne0 (by omega) (by omega)), if_neg (by omega), ha8 x ha, ha8 y hb, q_rdI ha (by decide), q_rdI hb (by decide), hl x ha c1, hl y hb c2, nI_add, q_dv h255, show (255 : Int32) = nI 255 from rfl, pk_rem (by omega) (by omega) (by omega), q_rdI hm (by decide), hp _ hm]
        congr 3
        omega
  · show f_Field_quotient lg pr (nI a.val) (nI b.val) = some (nI (mulN a.val (invN b.val)))
    have ha := a.isLt
    have hb := b.isLt
    have hb1 : b.val ≠ 0 := fun h => hb0 (gf_ext h)
    generalize a.val = x at ha
    generalize b.val = y at hb hb1
    have l2 := (lt_all y hb hb1).1
    have hiv := pt_all ((255 - lt y) % 255) (Nat.mod_lt _ (by decide))
    unfold f_Field_quotient mulN invN
    rw [if_neg hb1]
    by_cases c1 : x = 0
    · rw [if_pos (by rw [c1]; rfl), if_pos (Or.inl c1)]; rfl
    · have l1 := (lt_all x ha c1).1
      have hm : (lt x * 116 % 255 + 255 - lt y * 116 % 255) % 255 < 255 := Nat.mod_lt _ (by decide)
      rw [if_neg (nI_ne0 (by omega) (by omega)), if_neg (nI_ne0 (by omega) (by omega)), if_neg (by intro h; rcases h with h | h; exact c1 h; exact hiv.2.1 h), hiv.2.2.1, ha8 x ha, ha8 y hb, q_rdI ha (by decide), q_rdI hb (by decide), hl x ha c1, hl y hb hb1, q_dv h255, show (255 : Int32) = nI 255 from rfl, nI_add, pk_sub (by omega), pk_rem (by omega) (by omega) (by omega), q_rdI hm (by decide), hp _ hm]
      congr 3
      omega
  · show f_Field_powerOfG pr (nI k) = some (nI (@pw GF gfF gG k).val)
    have hm : k % 255 < 255 := Nat.mod_lt _ (by decide)
    unfold f_Field_powerOfG
    rw [gpw, q_dv h255, show (255 : Int32) = nI 255 from rfl, pk_rem (by omega) (by omega) (by omega), q_nm, if_pos (nI_pos' (by omega)), q_rdI hm (by decide), hp _ hm]
    congr 3
    omega
  · show f_Field_powerOfG pr (-(nI k)) = some (nI (invN (@pw GF gfF gG k).val))
    have hm : k % 255 < 255 := Nat.mod_lt _ (by decide)
    have hpp := pt_all (11 * k % 255) (Nat.mod_lt _ (by decide))
    unfold f_Field_powerOfG invN
    rw [gpw, if_neg hpp.2.1, hpp.2.2.1, q_dv h255, neg_rem (by omega), q_nm]
    by_cases c : k % 255 = 0
    · rw [c, if_pos (by decide), show -(nI 0) = nI 0 from rfl, q_rdI (by omega) (by decide), hp 0 (by omega)]
      congr 3
      omega
    · have hlt : ¬ 0 ≤ -(nI (k % 255)) := by
        rw [Int32.le_iff_toInt_le, Int32.toInt_neg, nI_toInt (by omega), show (0 : Int32).toInt = 0 by decide, Int.bmod_eq_of_le (by omega) (by omega)]
        omega
      have he : -(nI (k % 255)) + 255 = nI (255 - k % 255) := by
        rw [← pk_sub (by omega), show nI 255 = (255 : Int32) from rfl]
        generalize nI (k % 255) = z
        grind
      rw [if_neg hlt, he, q_rdI (by omega) (by decide), hp _ (by omega)]
      congr 3
      omega
theorem frm_ok {el fm : AR} (he : ∀ a, a < 256 → el (ofm a) = nI a) (hf : ∀ a, a < 256 → fm a = nI (ofm a)) : Frm ge go el fm :=
  ⟨fun a => ⟨ofm a.val, (of_all _ a.isLt).1, rfl, he _ a.isLt⟩, fun a => ⟨a.val, a.isLt, rfl, hf _ a.isLt⟩⟩
theorem go_sur (n : Nat) (hn : n < 256) : ∃ a, go a = nI n := ⟨⟨oin n, (of_all n hn).2.2.1⟩, by
  show nI (ofm (oin n)) = nI n
  rw [(of_all n hn).2.2.2]⟩
end
