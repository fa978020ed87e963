/-! PURE PART: counting the bits of an int -/
section
def pb1 (b : Nat) : Nat := b - ((b / 2) &&& 85)
def pb2 (c : Nat) : Nat := (c &&& 51) + ((c / 4) &&& 51)
def pb3 (d : Nat) : Nat := d % 16 + d / 16
def pcb (b : Nat) : Nat := b % 2 + b / 2 % 2 + b / 4 % 2 + b / 8 % 2 + b / 16 % 2 + b / 32 % 2 + b / 64 % 2 + b / 128 % 2
theorem pb_a : ∀ b, b < 256 → (∀ t, t < 2 → (b / 2 + 128 * t) &&& 85 = (b / 2) &&& 85) ∧ ((b / 2) &&& 85) ≤ b := by decide +kernel
theorem pb_b : ∀ b, b < 256 → ∀ t, t < 4 → (b / 4 + 64 * t) &&& 51 = (b / 4) &&& 51 := by decide +kernel
theorem pb_c : ∀ b, b < 256 → pb1 b < 256 ∧ pb2 (pb1 b) < 256 ∧ pb2 (pb1 b) % 16 ≤ 4 ∧ pb2 (pb1 b) / 16 ≤ 4 ∧ pb3 (pb2 (pb1 b)) = pcb b ∧ pcb b ≤ 8 := by decide +kernel
theorem pb_e : ∀ s, s < 256 → s &&& 15 = s % 16 := by decide +kernel
theorem us_k {n k : Nat} (hn : n < 2 ^ 32) (hk : k < 32) : ((nI n).toUInt32 >>> ((nI k).toUInt32 &&& Int32.toUInt32 31)).toInt32 = nI (n / 2 ^ k) := pk_ushrN hn _ k (sb_u k hk)
theorem st1 {b0 b1 b2 b3 : Nat} (h0 : b0 < 256) (h1 : b1 < 256) (h2 : b2 < 256) (h3 : b3 < 256) : nI (b0 + 256 * (b1 + 256 * (b2 + 256 * b3))) - (((nI (b0 + 256 * (b1 + 256 * (b2 + 256 * b3)))).toUInt32 >>> ((1 : Int32).toUInt32 &&& Int32.toUInt32 31)).toInt32 &&& (1431655765 : Int32)) = nI (pb1 b0 + 256 * (pb1 b1 + 256 * (pb1 b2 + 256 * pb1 b3))) := by
  have a0 := pb_a b0 h0
  have a1 := pb_a b1 h1
  have a2 := pb_a b2 h2
  have a3 := pb_a b3 h3
  have e1 : (b0 + 256 * (b1 + 256 * (b2 + 256 * b3))) / 2 ^ 1 = (b0 / 2 + 128 * (b1 % 2)) + 256 * ((b1 / 2 + 128 * (b2 % 2)) + 256 * ((b2 / 2 + 128 * (b3 % 2)) + 256 * (b3 / 2 + 128 * 0))) := by omega
  rw [show (1 : Int32) = nI 1 from rfl, us_k (by omega) (by omega), e1, show (1431655765 : Int32) = nI (85 + 256 * (85 + 256 * (85 + 256 * 85))) from rfl, nI_and, and4 (by omega) (by omega) (by omega) (by omega) (by omega), a0.1 _ (by omega), a1.1 _ (by omega), a2.1 _ (by omega), a3.1 _ (by omega)]
  have q0 := a0.2
  have q1 := a1.2
  have q2 := a2.2
  have q3 := a3.2
  unfold pb1
  generalize (b0 / 2) &&& 85 = y0 at *
  generalize (b1 / 2) &&& 85 = y1 at *
  generalize (b2 / 2) &&& 85 = y2 at *
  generalize (b3 / 2) &&& 85 = y3 at *
  clear a0 a1 a2 a3 e1
  rw [pk_sub (by omega)]
  congr 1
  omega
theorem st2 {v0 v1 v2 v3 : Nat} (h0 : v0 < 256) (h1 : v1 < 256) (h2 : v2 < 256) (h3 : v3 < 256) : (nI (v0 + 256 * (v1 + 256 * (v2 + 256 * v3))) &&& (858993459 : Int32)) + (((nI (v0 + 256 * (v1 + 256 * (v2 + 256 * v3)))).toUInt32 >>> ((2 : Int32).toUInt32 &&& Int32.toUInt32 31)).toInt32 &&& (858993459 : Int32)) = nI (pb2 v0 + 256 * (pb2 v1 + 256 * (pb2 v2 + 256 * pb2 v3))) := by
  have e3 : (v0 + 256 * (v1 + 256 * (v2 + 256 * v3))) / 2 ^ 2 = (v0 / 4 + 64 * (v1 % 4)) + 256 * ((v1 / 4 + 64 * (v2 % 4)) + 256 * ((v2 / 4 + 64 * (v3 % 4)) + 256 * (v3 / 4 + 64 * 0))) := by omega
  rw [show (2 : Int32) = nI 2 from rfl, us_k (by omega) (by omega), e3, show (858993459 : Int32) = nI (51 + 256 * (51 + 256 * (51 + 256 * 51))) from rfl, nI_and, nI_and, and4 (by omega) (by omega) (by omega) (by omega) (by omega), and4 (by omega) (by omega) (by omega) (by omega) (by omega), pb_b v0 (by omega) _ (by omega), pb_b v1 (by omega) _ (by omega), pb_b v2 (by omega) _ (by omega), pb_b v3 (by omega) _ (by omega), nI_add]
  unfold pb2
  congr 1
  generalize v0 &&& 51 = a0
  generalize v1 &&& 51 = a1
  generalize v2 &&& 51 = a2
  generalize v3 &&& 51 = a3
  generalize (v0 / 4) &&& 51 = c0
  generalize (v1 / 4) &&& 51 = c1
  generalize (v2 / 4) &&& 51 = c2
  generalize (v3 / 4) &&& 51 = c3
  clear e3
  omega
theorem st3 {w0 w1 w2 w3 : Nat} (l0 : w0 % 16 ≤ 4) (u0 : w0 / 16 ≤ 4) (l1 : w1 % 16 ≤ 4) (u1 : w1 / 16 ≤ 4) (l2 : w2 % 16 ≤ 4) (u2 : w2 / 16 ≤ 4) (l3 : w3 % 16 ≤ 4) (u3 : w3 / 16 ≤ 4) : (nI (w0 + 256 * (w1 + 256 * (w2 + 256 * w3))) + ((nI (w0 + 256 * (w1 + 256 * (w2 + 256 * w3)))).toUInt32 >>> ((4 : Int32).toUInt32 &&& Int32.toUInt32 31)).toInt32) &&& (252645135 : Int32) = nI (pb3 w0 + 256 * (pb3 w1 + 256 * (pb3 w2 + 256 * pb3 w3))) := by
  have e5 : w0 + 256 * (w1 + 256 * (w2 + 256 * w3)) + (w0 + 256 * (w1 + 256 * (w2 + 256 * w3))) / 2 ^ 4 = (w0 + w0 / 16 + 16 * (w1 % 16)) + 256 * ((w1 + w1 / 16 + 16 * (w2 % 16)) + 256 * ((w2 + w2 / 16 + 16 * (w3 % 16)) + 256 * (w3 + w3 / 16))) := by omega
  rw [show (4 : Int32) = nI 4 from rfl, us_k (by omega) (by omega), nI_add, e5, show (252645135 : Int32) = nI (15 + 256 * (15 + 256 * (15 + 256 * 15))) from rfl, nI_and, and4 (by omega) (by omega) (by omega) (by omega) (by omega), pb_e _ (by omega), pb_e _ (by omega), pb_e _ (by omega), pb_e _ (by omega)]
  unfold pb3
  rw [show (w0 + w0 / 16 + 16 * (w1 % 16)) % 16 = w0 % 16 + w0 / 16 by omega, show (w1 + w1 / 16 + 16 * (w2 % 16)) % 16 = w1 % 16 + w1 / 16 by omega, show (w2 + w2 / 16 + 16 * (w3 % 16)) % 16 = w2 % 16 + w2 / 16 by omega, show (w3 + w3 / 16) % 16 = w3 % 16 + w3 / 16 by omega]
theorem st4 {x0 x1 x2 x3 : Nat} (h0 : x0 ≤ 8) (h1 : x1 ≤ 8) (h2 : x2 ≤ 8) (h3 : x3 ≤ 8) : nI (x0 + 256 * (x1 + 256 * (x2 + 256 * x3))) + ((nI (x0 + 256 * (x1 + 256 * (x2 + 256 * x3)))).toUInt32 >>> ((8 : Int32).toUInt32 &&& Int32.toUInt32 31)).toInt32 = nI ((x0 + x1) + 256 * ((x1 + x2) + 256 * ((x2 + x3) + 256 * x3))) := by
  rw [show (8 : Int32) = nI 8 from rfl, us_k (by omega) (by omega), nI_add, show (x0 + 256 * (x1 + 256 * (x2 + 256 * x3))) / 2 ^ 8 = x1 + 256 * (x2 + 256 * x3) by omega]
  congr 1
  omega
theorem st5 {y0 y1 y2 y3 : Nat} (h0 : y0 ≤ 16) (h1 : y1 ≤ 16) (h2 : y2 ≤ 16) (h3 : y3 ≤ 16) : (nI (y0 + 256 * (y1 + 256 * (y2 + 256 * y3))) + ((nI (y0 + 256 * (y1 + 256 * (y2 + 256 * y3)))).toUInt32 >>> ((16 : Int32).toUInt32 &&& Int32.toUInt32 31)).toInt32) &&& (63 : Int32) = nI (y0 + y2) := by
  rw [show (16 : Int32) = nI 16 from rfl, us_k (by omega) (by omega), nI_add, show (y0 + 256 * (y1 + 256 * (y2 + 256 * y3))) / 2 ^ 16 = y2 + 256 * y3 by omega, pk_andN (by omega) 6 (by decide)]
  congr 1
  omega
theorem pop_n {b0 b1 b2 b3 : Nat} (h0 : b0 < 256) (h1 : b1 < 256) (h2 : b2 < 256) (h3 : b3 < 256) : f_Integer_bitCount (nI (b0 + 256 * (b1 + 256 * (b2 + 256 * b3)))) = some (nI (pcb b0 + pcb b1 + pcb b2 + pcb b3)) := by
  obtain ⟨c0, d0, l0, u0, r0, t0⟩ := pb_c b0 h0
  obtain ⟨c1, d1, l1, u1, r1, t1⟩ := pb_c b1 h1
  obtain ⟨c2, d2, l2, u2, r2, t2⟩ := pb_c b2 h2
  obtain ⟨c3, d3, l3, u3, r3, t3⟩ := pb_c b3 h3
  unfold f_Integer_bitCount
  rw [q_nm, st1 h0 h1 h2 h3, q_nm, st2 c0 c1 c2 c3, q_nm, st3 l0 u0 l1 u1 l2 u2 l3 u3, r0, r1, r2, r3, q_nm, st4 t0 t1 t2 t3, q_nm, st5 (by omega) (by omega) (by omega) (by omega)]
  congr 2
  omega
theorem pcb_bsm : ∀ b, b < 256 → pcb b = bsm b 8 := by decide +kernel
theorem pop_ok {n : Nat} (hn : n < 2 ^ 32) : f_Integer_bitCount (nI n) = some (nI (bsm n 32)) := by
  have e : n = n % 256 + 256 * (n / 256 % 256 + 256 * (n / 65536 % 256 + 256 * (n / 16777216))) := by omega
  have h := pop_n (b0 := n % 256) (b1 := n / 256 % 256) (b2 := n / 65536 % 256) (b3 := n / 16777216) (by omega) (by omega) (by omega) (by omega)
  rw [← e] at h
  rw [h, pcb_bsm _ (show n % 256 < 256 by omega), pcb_bsm _ (show n / 256 % 256 < 256 by omega), pcb_bsm _ (show n / 65536 % 256 < 256 by omega), pcb_bsm _ (show n / 16777216 < 256 by omega)]
  congr 2
  have b1 := bsm_hi (b := n % 256) (z := n / 256 % 256 + 256 * (n / 65536 % 256 + 256 * (n / 16777216))) (by omega) 24
  have b2 := bsm_hi (b := n / 256 % 256) (z := n / 65536 % 256 + 256 * (n / 16777216)) (by omega) 16
  have b3 := bsm_hi (b := n / 65536 % 256) (z := n / 16777216) (by omega) 8
  rw [← e] at b1
  rw [show bsm n 32 = bsm n (8 + 24) from rfl, b1, show bsm (n / 256 % 256 + 256 * (n / 65536 % 256 + 256 * (n / 16777216))) 24 = bsm (n / 256 % 256 + 256 * (n / 65536 % 256 + 256 * (n / 16777216))) (8 + 16) from rfl, b2, show bsm (n / 65536 % 256 + 256 * (n / 16777216)) 16 = bsm (n / 65536 % 256 + 256 * (n / 16777216)) (8 + 8) from rfl, b3, Nat.add_assoc, Nat.add_assoc]
/-- the class's count of what differs from the mark -/
theorem mw_c (W : Int64) {f : Nat → Bool} (hW : ∀ k, k < 64 → bt W k = f k) : f_Integer_bitCount (W.toInt32 ^^^ nI 3091198808) = some (nI (mkd f 32)) := by
  rw [lo32, nI_xor, pop_ok (Nat.xor_lt_two_pow (n := 32) (Nat.mod_lt _ (by decide)) (by decide))]
  congr 2
  rw [bsm_bits (f := fun k => (f k != mkb k)) (fun k hk => ?_) 32 (by omega), mkd_sum]
  rw [Nat.testBit_xor, mi_bit k hk, Nat.testBit_mod_two_pow]
  have := hW k (by omega)
  unfold bt at this
  rw [← BitVec.testBit_toNat] at this
  rw [this]
  simp [hk]
end
