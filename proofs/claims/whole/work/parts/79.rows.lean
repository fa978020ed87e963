/-! PURE PART: windows of a row of bits, and bits turned -/
section
theorem at_int (i : Int32) {b : Nat} (hb : b < 64) : (i.toInt64 + (nI b).toInt64).toInt = i.toInt + b := by
  have h1 := i.toInt_lt
  have h2 := i.le_toInt
  rw [Int64.toInt_add, Int32.toInt_toInt64, Int32.toInt_toInt64, nI_toInt (by omega)]
  exact Int.bmod_eq_of_le (by omega) (by omega)
theorem lg_neg (x y : Int64) : lg_cmp x y < 0 ↔ x.toInt < y.toInt := by
  unfold lg_cmp
  by_cases h : x > y
  · have h' : y.toInt < x.toInt := Int64.lt_iff_toInt_lt.1 h
    rw [if_pos h]
    exact ⟨fun hh => absurd hh (by decide), fun hh => by omega⟩
  · rw [if_neg h]
    have h' : ¬ y.toInt < x.toInt := fun hh => h (Int64.lt_iff_toInt_lt.2 hh)
    by_cases e : x = y
    · rw [if_pos e, e]
      exact ⟨fun hh => absurd hh (by decide), fun hh => by omega⟩
    · rw [if_neg e]
      have e' : x.toInt ≠ y.toInt := fun hh => e (Int64.toInt_inj.1 hh)
      exact ⟨fun _ => by omega, fun _ => by decide⟩
theorem lg_nn (x y : Int64) : 0 ≤ lg_cmp x y ↔ y.toInt ≤ x.toInt := by
  have h := lg_neg x y
  have h2 : 0 ≤ lg_cmp x y ↔ ¬ lg_cmp x y < 0 := Int32.not_lt.symm
  rw [h2, h]
  omega
theorem to32 {v : Int64} {n : Nat} (h : v.toInt = n) (hn : n < 2 ^ 31) : v.toInt32 = nI n := by
  refine Int32.toInt_inj.1 ?_
  rw [Int64.toInt_toInt32, h, nI_toInt hn]
  exact Int.bmod_eq_of_le (by omega) (by omega)
/-- a bit of a row at any place, 0 where there is none -/
def gb (cl : Nat → Int64) (J : Int) : Bool := decide (0 ≤ J) && decide (J < 4096) && cb cl J.toNat
def cz (cl : Nat → Int64) (c : Int) : Int64 := if 0 ≤ c ∧ c < 64 then cl c.toNat else 0
theorem gb_cz (cl : Nat → Int64) (J : Int) : gb cl J = bt (cz cl (J / 64)) (J % 64).toNat := by
  unfold gb cz
  by_cases h : 0 ≤ J ∧ J < 4096
  · obtain ⟨n, rfl⟩ : ∃ n : Nat, J = n := ⟨J.toNat, by omega⟩
    rw [if_pos (by omega)]
    unfold cb
    rw [show ((n : Int) / 64).toNat = n / 64 by omega, show ((n : Int) % 64).toNat = n % 64 by omega, show ((n : Int)).toNat = n by omega]
    simp [h.2]
  · rw [if_neg (by omega), bt_0]
    rcases (show J < 0 ∨ 4096 ≤ J by omega) with h2 | h2
    · simp [show ¬ 0 ≤ J by omega]
    · simp [show ¬ J < 4096 by omega]
theorem cell_ok (cl : Nat → Int64) (v : Int32) : f_BitRow_cellAt cl v = some (cz cl v.toInt) := by
  unfold f_BitRow_cellAt cz
  by_cases h : v < 0
  · have h' := Int32.lt_iff_toInt_lt.1 h
    have e0 : (0 : Int32).toInt = 0 := by decide
    rw [if_pos h, if_neg (by omega)]
  · rw [if_neg h]
    by_cases h2 : (64 : Int32) ≤ v
    · have h' := Int32.le_iff_toInt_le.1 h2
      have e0 : (64 : Int32).toInt = 64 := by decide
      rw [if_pos h2, if_neg (by omega)]
    · obtain ⟨n, hn, rfl⟩ := nI_of h
      have hn2 : n < 64 := Classical.byContradiction fun hc => h2 (show (64 : Int32) ≤ nI n from nI_le (a := 64) (by omega) hn)
      rw [if_neg h2, q_rdL hn2 (by decide), nI_toInt hn, if_pos (by omega), show ((n : Int)).toNat = n by omega]
theorem mod64 (i : Int32) : i.toBitVec.toNat % 64 = (i.toInt % 64).toNat := by
  have h : i.toInt = i.toBitVec.toInt := rfl
  rw [h, BitVec.toInt_eq_toNat_cond]
  have := i.toBitVec.isLt
  split <;> omega
theorem win_ok (cl : Nat → Int64) (i : Int32) : ∃ W, f_BitRow_window cl i = some W ∧ ∀ b, b < 64 → bt W b = gb cl (i.toInt + b) := by
  have h1 := i.toInt_lt
  have h2 := i.le_toInt
  have hs : (i >>> ((6 : Int32) &&& 31)).toInt = i.toInt / 64 := by
    rw [pk_shr i _ 6 (by decide), Int.shiftRight_eq_div_pow]
    rfl
  have hs1 : ((i >>> ((6 : Int32) &&& 31)) + 1).toInt = i.toInt / 64 + 1 := by
    rw [Int32.toInt_add, hs]
    show (i.toInt / 64 + 1).bmod (2 ^ 32) = _
    exact Int.bmod_eq_of_le (by omega) (by omega)
  have hm : i &&& 63 = nI (i.toInt % 64).toNat := by
    rw [pk_and i 6 (by decide)]
    congr 1
    exact mod64 i
  have hml : (i.toInt % 64).toNat < 64 := by omega
  generalize hsn : (i.toInt % 64).toNat = s at hm hml
  unfold f_BitRow_window
  rw [q_nm, q_nm, cell_ok, q_bd, q_nm, q_nm, hs, hm]
  have hlow : ∀ b, b < 64 → bt ((cz cl (i.toInt / 64)).toUInt64 >>> ((nI s).toInt64.toUInt64 &&& Int64.toUInt64 63)).toInt64 b = if s + b < 64 then gb cl (i.toInt + b) else false := by
    intro b hb
    unfold bt
    rw [b_ushr _ hml, BitVec.getLsbD_ushiftRight]
    by_cases c : s + b < 64
    · rw [if_pos c, gb_cz]
      show bt _ _ = _
      rw [show (i.toInt + b) / 64 = i.toInt / 64 by omega, show ((i.toInt + (b : Int)) % 64).toNat = s + b by omega]
    · rw [if_neg c]
      exact BitVec.getLsbD_of_ge _ _ (by omega)
  by_cases h0 : s = 0
  · rw [if_pos (by rw [h0]; rfl)]
    refine ⟨_, rfl, fun b hb => ?_⟩
    rw [hlow b hb, if_pos (by omega)]
  · rw [if_neg (nI_ne0 (by omega) (by omega)), cell_ok, hs1, q_bd, q_nm]
    refine ⟨_, rfl, fun b hb => ?_⟩
    rw [bt_or, hlow b hb, show (64 : Int32) - nI s = nI (64 - s) from pk_sub (a := 64) (by omega)]
    have hhi : bt (cz cl (i.toInt / 64 + 1) <<< ((nI (64 - s)).toInt64 &&& 63)) b = if s + b < 64 then false else gb cl (i.toInt + b) := by
      unfold bt
      rw [b_shl _ (by omega), BitVec.getLsbD_shiftLeft]
      by_cases c : s + b < 64
      · rw [if_pos c]
        simp [show b < 64 - s by omega]
      · rw [if_neg c, gb_cz]
        have e1 : (i.toInt + b) / 64 = i.toInt / 64 + 1 := by omega
        have e2 : ((i.toInt + (b : Int)) % 64).toNat = b - (64 - s) := by omega
        rw [e1, e2]
        unfold bt
        simp [hb, show ¬ b < 64 - s by omega]
    rw [hhi]
    by_cases c : s + b < 64
    · rw [if_pos c, if_pos c, Bool.or_false]
    · rw [if_neg c, if_neg c, Bool.false_or]
theorem bo_ok {len nb : Nat} {cl : Nat → Int64} {ln : AR} (hR : RowEq len cl ln) (hl : len ≤ nb) (hnb : nb < 2 ^ 31) (i : Int32) : ∀ fu b (x : Int64), b ≤ 64 → 64 - b < fu → (∀ k, k < 64 → bt x k = (decide (k < b) && gb cl (i.toInt + k))) → ∃ W, f_Mo_bitsOf_5 ln nb fu (nI len) i x (nI b) = some W ∧ ∀ k, k < 64 → bt W k = gb cl (i.toInt + k) := by
  obtain ⟨r1, r2, r3⟩ := hR
  intro fu
  induction fu with
  | zero => intro b x h1 h2; omega
  | succ fu ih =>
    intro b x h1 h2 h3
    show ∃ W, f_Mo_bitsOf_5_b _ _ _ _ _ _ _ = _ ∧ _
    unfold f_Mo_bitsOf_5_b
    by_cases e : b = 64
    · rw [if_pos (show (64 : Int32) ≤ nI b from nI_le (a := 64) (by omega) (by omega))]
      refine ⟨x, rfl, fun k hk => ?_⟩
      rw [h3 k hk]
      simp [show k < b by omega]
    · have hat := at_int i (b := b) (by omega)
      have e0 : (0 : Int64).toInt = 0 := by decide
      have el : ((nI len).toInt64).toInt = (len : Int) := by rw [Int32.toInt_toInt64, nI_toInt (by omega)]
      rw [if_neg (show ¬ (64 : Int32) ≤ nI b from nI_ge (b := 64) (by omega) (by decide)), q_nm]
      have hno : gb cl (i.toInt + b) = false → ∃ W, f_Mo_bitsOf_53 (f_Mo_bitsOf_5 ln nb fu) (nI len) i x (nI b) = some W ∧ ∀ k, k < 64 → bt W k = gb cl (i.toInt + k) := by
        intro hg
        unfold f_Mo_bitsOf_53 f_Mo_bitsOf_54
        rw [q_nm, nI_1]
        refine ih (b + 1) x (by omega) (by omega) (fun k hk => ?_)
        rw [h3 k hk]
        by_cases c : k = b
        · subst c
          rw [hg]
          simp
        · by_cases c2 : k < b
          · simp [c2, show k < b + 1 by omega]
          · simp [c2, show ¬ k < b + 1 by omega]
      by_cases c1 : i.toInt + b < 0
      · rw [if_pos ((lg_neg _ _).2 (by rw [hat, e0]; exact c1))]
        refine hno ?_
        unfold gb
        simp [show ¬ 0 ≤ i.toInt + (b : Int) by omega]
      · rw [if_neg (fun h => c1 (by have := (lg_neg _ _).1 h; rw [hat, e0] at this; exact this))]
        by_cases c2 : (len : Int) ≤ i.toInt + b
        · rw [if_pos ((lg_nn _ _).2 (by rw [hat, el]; exact c2))]
          refine hno ?_
          unfold gb
          by_cases c3 : i.toInt + (b : Int) < 4096
          · rw [r3 _ (by omega) (by omega)]
            simp
          · simp [c3]
        · rw [if_neg (fun h => c2 (by have := (lg_nn _ _).1 h; rw [hat, el] at this; exact this))]
          obtain ⟨n, hn⟩ : ∃ n : Nat, i.toInt + b = n := ⟨(i.toInt + b).toNat, by omega⟩
          rw [to32 (n := n) (by rw [hat, hn]) (by omega), q_rdI (by omega) hnb, r2 n (by omega)]
          have hg : gb cl (i.toInt + b) = cb cl n := by
            unfold gb
            rw [hn, show ((n : Int)).toNat = n by omega]
            simp [show (n : Int) < 4096 by omega]
          cases hcb : cb cl n with
          | false =>
            rw [if_neg (by decide)]
            exact hno (by rw [hg, hcb])
          | true =>
            rw [if_pos (by decide)]
            unfold f_Mo_bitsOf_54
            rw [q_nm, nI_1]
            refine ih (b + 1) _ (by omega) (by omega) (fun k hk => ?_)
            rw [bt_or, bt_shl1 (by omega) k hk, h3 k hk]
            by_cases c : k = b
            · subst c
              rw [hg, hcb]
              simp
            · by_cases c2 : k < b
              · simp [c, c2, show k < b + 1 by omega]
              · simp [c, c2, show ¬ k < b + 1 by omega]
/-- promises 10 and 12: a window of the row, the same on both sides -/
theorem win_eq {len nb : Nat} {cl : Nat → Int64} {ln : AR} (hR : RowEq len cl ln) (hl : len ≤ nb) (hnb : nb < 2 ^ 31) (i : Int32) : ∃ W, f_BitRow_window cl i = some W ∧ f_Mo_bitsOf ln nb (nI len) i = some W := by
  obtain ⟨W, a1, a2⟩ := win_ok cl i
  obtain ⟨W', b1, b2⟩ := bo_ok hR hl hnb i 10000 0 0 (by omega) (by omega) (fun k hk => by rw [bt_0]; simp)
  refine ⟨W, a1, ?_⟩
  have : W = W' := b_ext fun k hk => by rw [a2 k hk, b2 k hk]
  rw [this]
  exact b1
theorem lN_63 (p : Nat) (hp : p < 2 ^ 31) : lN p &&& 63 = lN (p % 64) := by
  refine Int64.toBitVec_inj.1 (BitVec.eq_of_toNat_eq ?_)
  show (BitVec.ofNat 64 p &&& 63#64).toNat = (BitVec.ofNat 64 (p % 64)).toNat
  rw [BitVec.toNat_and, BitVec.toNat_ofNat, BitVec.toNat_ofNat, BitVec.toNat_ofNat, Nat.mod_eq_of_lt (show p < 2 ^ 64 by omega), Nat.mod_eq_of_lt (show p % 64 < 2 ^ 64 by omega)]
  exact Nat.and_two_pow_sub_one_eq_mod p 6
theorem lN_r : ∀ r, r < 64 → (lN r).toInt32 = nI r := by decide +kernel
theorem lN_of {v : Int64} {n : Nat} (h : v.toInt = n) (hn : n < 2 ^ 31) : v = lN n := by
  refine Int64.toInt_inj.1 ?_
  rw [h, pk_lT (by omega)]
theorem lN_sh (p : Nat) (hp : p < 2 ^ 31) : (lN p >>> ((6 : Int32).toInt64 &&& 63)).toInt32 = nI (p / 64) := by
  refine to32 ?_ (by omega)
  have h : (lN p >>> ((6 : Int32).toInt64 &&& 63)).toInt = ((lN p).toBitVec.sshiftRight 6).toInt := by
    rw [← b_shr (lN p) (k := 6) (by decide)]
    rfl
  rw [h, BitVec.toInt_sshiftRight, Int.shiftRight_eq_div_pow]
  have e : (lN p).toBitVec.toInt = (p : Int) := pk_lT (n := p) (by omega)
  rw [e]
  omega
theorem bL_0 (b : Bool) : lg_cmp (bL b) 0 = 0 ↔ b = false := by cases b <;> decide
theorem bL_1 (b : Bool) : lg_cmp (bL b) 1 = 0 ↔ b = true := by cases b <;> decide
theorem bI_not (b : Bool) : (1 : Int32) - bI b = bI (!b) := by cases b <;> decide
theorem tn_ok {len : Nat} (x : Int64) (i t : Int32) : ∀ fu b n (cl : Nat → Int64) (ln : AR), RowEq len cl ln → b ≤ 64 → 64 - b < fu → ∃ n' cl' ln', f_BitRow_flip_6 (nI len) fu i x n (nI b) cl = some (n', cl') ∧ f_Mo_turn_11 (nI len) fu i x n (nI b) t ln = some (n', t, ln') ∧ RowEq len cl' ln' := by
  intro fu
  induction fu with
  | zero => intro b n cl ln hR h1 h2; omega
  | succ fu ih =>
    intro b n cl ln hR h1 h2
    show ∃ n' cl' ln', f_BitRow_flip_6_b _ _ _ _ _ _ _ = _ ∧ f_Mo_turn_11_b _ _ _ _ _ _ _ _ = _ ∧ _
    unfold f_BitRow_flip_6_b f_Mo_turn_11_b
    by_cases e : b = 64
    · rw [if_pos (show (64 : Int32) ≤ nI b from nI_le (a := 64) (by omega) (by omega)), if_pos (show (64 : Int32) ≤ nI b from nI_le (a := 64) (by omega) (by omega))]
      exact ⟨_, _, _, rfl, rfl, hR⟩
    · have hnb : ¬ (64 : Int32) ≤ nI b := nI_ge (b := 64) (by omega) (by decide)
      have hat := at_int i (b := b) (by omega)
      have e0 : (0 : Int64).toInt = 0 := by decide
      have el : ((nI len).toInt64).toInt = (len : Int) := by rw [Int32.toInt_toInt64, nI_toInt (by have := hR.1; omega)]
      rw [if_neg hnb, if_neg hnb, b_u x (by omega), b_s x (by omega)]
      simp only [q_nm]
      have hno : ∃ n' cl' ln', f_BitRow_flip_76 (f_BitRow_flip_6 (nI len) fu) i x n (nI b) cl = some (n', cl') ∧ f_Mo_turn_76 (f_Mo_turn_11 (nI len) fu) i x n (nI b) t ln = some (n', t, ln') ∧ RowEq len cl' ln' := by
        unfold f_BitRow_flip_76 f_Mo_turn_76
        rw [q_nm, q_nm, nI_1]
        exact ih (b + 1) n cl ln hR (by omega) (by omega)
      cases hb : bt x b with
      | false =>
        rw [if_pos ((bL_0 false).2 rfl), if_neg (fun h => by have := (bL_1 false).1 h; cases this)]
        exact hno
      | true =>
        rw [if_neg (fun h => by have := (bL_0 true).1 h; cases this), if_pos ((bL_1 true).2 rfl)]
        by_cases c1 : i.toInt + b < 0
        · have c1' := (lg_neg (i.toInt64 + (nI b).toInt64) 0).2 (by rw [hat, e0]; exact c1)
          rw [if_pos c1', if_pos c1']
          exact hno
        · have c1' : ¬ lg_cmp (i.toInt64 + (nI b).toInt64) 0 < 0 := fun h => c1 (by have := (lg_neg _ _).1 h; rw [hat, e0] at this; exact this)
          rw [if_neg c1', if_neg c1']
          by_cases c2 : (len : Int) ≤ i.toInt + b
          · have c2' := (lg_nn (i.toInt64 + (nI b).toInt64) (nI len).toInt64).2 (by rw [hat, el]; exact c2)
            rw [if_pos c2', if_pos c2']
            exact hno
          · have c2' : ¬ 0 ≤ lg_cmp (i.toInt64 + (nI b).toInt64) (nI len).toInt64 := fun h => c2 (by have := (lg_nn _ _).1 h; rw [hat, el] at this; exact this)
            rw [if_neg c2', if_neg c2']
            obtain ⟨r1, r2, r3⟩ := hR
            obtain ⟨p, hp⟩ : ∃ p : Nat, i.toInt + b = p := ⟨(i.toInt + b).toNat, by omega⟩
            rw [lN_of (v := i.toInt64 + (nI b).toInt64) (n := p) (by rw [hat, hp]) (by omega)]
            rw [lN_sh p (by omega), q_rdL (by omega) (by decide), q_wrL (by omega) (by decide), lN_63 p (by omega), lN_r (p % 64) (by omega), to32 (v := lN p) (n := p) (pk_lT (by omega)) (by omega), q_rdI (by omega) (by decide), q_wrI (by omega) (by decide), r2 p (by omega), bI_not]
            unfold f_BitRow_flip_76 f_Mo_turn_76
            rw [q_nm, q_nm, nI_1]
            have hc : ∀ k, cb (vp_updL cl (p / 64) (cl (p / 64) ^^^ ((1 : Int64) <<< ((nI (p % 64)).toInt64 &&& 63)))) k = (cb cl k != decide (k = p)) := by
              intro k
              unfold cb
              by_cases e2 : k / 64 = p / 64
              · rw [e2, pk_uLs, bt_xor, bt_shl1 (by omega) _ (by omega)]
                congr 1
                by_cases e3 : k = p
                · simp [e3]
                · have : ¬ k % 64 = p % 64 := by omega
                  simp [e3, this]
              · rw [pk_uLn e2]
                have : ¬ k = p := fun h => e2 (by rw [h])
                simp [this]
            refine ih (b + 1) _ _ _ ⟨r1, fun k hk => ?_, fun k hk1 hk2 => ?_⟩ (by omega) (by omega)
            · rw [hc k]
              by_cases e3 : k = p
              · subst e3
                rw [pk_us]
                simp
              · rw [pk_un e3, r2 k hk]
                simp [e3]
            · rw [hc k, r3 k hk1 hk2]
              simp [show ¬ k = p by omega]
end
