/-! PURE PART: bits sent -/
section
abbrev CR : Type := Option (Int32 × Int32 × Int32 × (Nat → Int64))
abbrev SR : Type := Option (Int32 × Int32 × Int32 × AR)
theorem rg_all : ∀ R, R < 128 → ∀ b : Bool, ((nI R >>> ((1 : Int32) &&& 31)) ||| (bI b <<< ((6 : Int32) &&& 31))) = nI (64 * b.toNat + R / 2) ∧ ((bI b <<< ((6 : Int32) &&& 31)) ||| nI (R / 2)) = nI (64 * b.toNat + R / 2) := by decide +kernel
theorem kp_all : ∀ a, a < 2 → ∀ b, b < 2 → (nI (a + 2 * b) &&& 1 = 0 ↔ a = 0) ∧ (nI (a + 2 * b) &&& 2 = 0 ↔ b = 0) ∧ nI (a + 2 * b) &&& 1 = nI a ∧ nI (a + 2 * b) >>> ((1 : Int32) &&& 31) = nI b ∧ f_Integer_bitCount (nI (a + 2 * b)) = some (nI (a + b)) := by decide +kernel
theorem bI_sub (b : Bool) : (1 : Int32) - (1 - bI b) = bI b := by cases b <;> decide
theorem tn_lt (b : Bool) : b.toNat < 2 := by cases b <;> decide
theorem s_bit {bg fs sc : AR} (hT : Tab bg fs sc) {P : Nat} (hP : P ≤ 4) {len snt R : Nat} (hs : snt < 2 ^ 20) (hR : R < 128) (b : Bool) {cl : Nat → Int64} {ln : AR} (hRow : RowEq len cl ln) (hroom : len + (k1 P snt + k2 P snt) ≤ 4096) :
    ∃ cl' ln', f_Coder_putBit (nI R) (nI snt) (nI P) (nI len) cl (bI b) = some (nI (64 * b.toNat + R / 2), nI (snt + 1), nI (len + (k1 P snt + k2 P snt)), cl') ∧ f_Mo_send1 (nI P) (nI len) (nI snt) (nI (R / 2)) bg fs sc ln (bI b) = some (nI (len + (k1 P snt + k2 P snt)), nI (snt + 1), nI ((64 * b.toNat + R / 2) / 2), ln') ∧ RowEq (len + (k1 P snt + k2 P snt)) cl' ln' := by
  have hb := tn_lt b
  have hv : 64 * b.toNat + R / 2 < 128 := by omega
  obtain ⟨r1, r2⟩ := rg_all R hR b
  obtain ⟨m1, m2⟩ := k_mo hT hP (t := snt) (by omega)
  obtain ⟨c1, c2, c3⟩ := k_le hP snt
  obtain ⟨p1, p2⟩ := o_mo _ hv
  obtain ⟨q1, q2, q3, q4, q5⟩ := kp_all (k1 P snt) (by omega) (k2 P snt) (by omega)
  obtain ⟨w1, w2, w3, w4, w5⟩ := kp_all (o1 (64 * b.toNat + R / 2)).toNat (tn_lt _) (o2 (64 * b.toNat + R / 2)).toNat (tn_lt _)
  unfold f_Coder_putBit f_Mo_send1
  rw [q_nm, r1, o_cl _ hv, q_bd, q_nm, k_cl hP (by omega), q_bd, q_nm, q_nm, r2, m1, q_bd, q_nm]
  have hfin : ∀ (x : Nat) (hx : x < 128) (l : Nat) (ln : AR), f_Mo_send1_96 (nI x) (nI l) (nI snt) (nI (R / 2)) ln = some (nI l, nI (snt + 1), nI (x / 2), ln) := by
    intro x hx l ln
    unfold f_Mo_send1_96
    rw [q_nm, q_nm, nI_1, pk_shrN (by omega) _ 1 (by decide)]
  have hsec : ∀ (l : Nat) (cl : Nat → Int64) (ln : AR), RowEq l cl ln → l + k2 P snt ≤ 4096 → ∃ cl' ln', f_Coder_putBit_54 (nI ((o1 (64 * b.toNat + R / 2)).toNat + 2 * (o2 (64 * b.toNat + R / 2)).toNat)) (nI (k1 P snt + 2 * k2 P snt)) (nI (64 * b.toNat + R / 2)) (nI snt) (nI l) cl = some (nI (64 * b.toNat + R / 2), nI (snt + 1), nI (l + k2 P snt), cl') ∧ f_Mo_send1_52 (nI P) bg sc (nI (64 * b.toNat + R / 2)) (nI l) (nI snt) (nI (R / 2)) ln = some (nI (l + k2 P snt), nI (snt + 1), nI ((64 * b.toNat + R / 2) / 2), ln') ∧ RowEq (l + k2 P snt) cl' ln' := by
    intro l cl ln hRow hl
    unfold f_Coder_putBit_54 f_Mo_send1_52
    rw [m2, q_bd, q_nm]
    by_cases e : k2 P snt = 0
    · rw [if_pos (q2.2 e), e, if_neg (by decide), hfin _ hv]
      unfold f_Coder_putBit_70
      rw [q_nm, nI_1]
      exact ⟨_, _, rfl, rfl, hRow⟩
    · have e1 : k2 P snt = 1 := by omega
      rw [if_neg (fun h => e (q2.1 h)), w4, e1, if_pos (show nI 1 = 1 from rfl), p2, q_bd, q_nm, bI_sub, q_wrI (by omega) (by decide), q_nm, nI_1, hfin _ hv]
      obtain ⟨cl', a1, a2⟩ := a_app (len := l) (by omega) cl (o2 (64 * b.toNat + R / 2))
      have a3 : f_BitRow_append (nI l) cl (nI (o2 (64 * b.toNat + R / 2)).toNat) = some (nI (l + 1), cl') := a1
      rw [a3, q_bd, q_nm, q_nm]
      unfold f_Coder_putBit_70
      rw [q_nm, nI_1]
      exact ⟨_, _, rfl, rfl, re_app (by omega) hRow a2⟩
  by_cases e : k1 P snt = 0
  · rw [if_pos (q1.2 e)]
    rw [show len + (k1 P snt + k2 P snt) = len + k2 P snt by omega]
    obtain ⟨cl', ln', s1, s2, s3⟩ := hsec len cl ln hRow (by omega)
    rw [s1, if_neg (by rw [e]; decide), s2]
    exact ⟨cl', ln', rfl, rfl, s3⟩
  · have e1 : k1 P snt = 1 := by omega
    rw [if_neg (fun h => e (q1.1 h)), w3, if_pos (by rw [e1]; rfl), p1, q_bd, q_nm, q_wrI (by omega) (by decide), q_nm, nI_1]
    obtain ⟨cl1, a1, a2⟩ := a_app (len := len) (by omega) cl (o1 (64 * b.toNat + R / 2))
    have a3 : f_BitRow_append (nI len) cl (nI (o1 (64 * b.toNat + R / 2)).toNat) = some (nI (len + 1), cl1) := a1
    rw [a3, q_bd, q_nm, q_nm]
    obtain ⟨cl', ln', s1, s2, s3⟩ := hsec (len + 1) cl1 _ (re_app (by omega) hRow a2) (by omega)
    rw [show len + (k1 P snt + k2 P snt) = len + 1 + k2 P snt by omega, s1, s2]
    exact ⟨cl', ln', rfl, rfl, s3⟩
/-- how many line bits n bits from place t on make -/
def cnt (P t : Nat) : Nat → Nat
  | 0 => 0
  | n + 1 => cnt P t n + (k1 P (t + n) + k2 P (t + n))
theorem cnt_add (P t n m : Nat) : cnt P t (n + m) = cnt P t n + cnt P (t + n) m := by
  induction m with
  | zero => rfl
  | succ m ih =>
    show cnt P t (n + m) + (k1 P (t + (n + m)) + k2 P (t + (n + m))) = cnt P t n + (cnt P (t + n) m + (k1 P (t + n + m) + k2 P (t + n + m)))
    rw [ih, ← Nat.add_assoc t n m]
    omega
theorem cnt_1 (P t : Nat) : cnt P t 1 = k1 P t + k2 P t := by
  show 0 + (k1 P (t + 0) + k2 P (t + 0)) = _
  rw [Nat.add_zero]
  omega
theorem cnt_le {P : Nat} (hP : P ≤ 4) (t n : Nat) : cnt P t n ≤ 2 * n ∧ n ≤ cnt P t n := by
  induction n with
  | zero => exact ⟨Nat.le_refl _, Nat.le_refl _⟩
  | succ n ih =>
    have := k_le hP (t + n)
    show cnt P t n + _ ≤ _ ∧ _ ≤ cnt P t n + _
    omega
def cRun (P : Int32) : List Bool → Int32 → Int32 → Int32 → (Nat → Int64) → CR
  | [] => fun r p l c => some (r, p, l, c)
  | b :: bs => fun r p l c => bd (f_Coder_putBit r p P l c (bI b)) fun u => cRun P bs u.1 u.2.1 u.2.2.1 u.2.2.2
def mRun (P : Int32) (bg fs sc : AR) : List Bool → Int32 → Int32 → Int32 → AR → SR
  | [] => fun l s st ln => some (l, s, st, ln)
  | b :: bs => fun l s st ln => bd (f_Mo_send1 P l s st bg fs sc ln (bI b)) fun u => mRun P bg fs sc bs u.1 u.2.1 u.2.2.1 u.2.2.2
theorem run_ok {bg fs sc : AR} (hT : Tab bg fs sc) {P : Nat} (hP : P ≤ 4) : ∀ (bs : List Bool) (len snt R : Nat) (cl : Nat → Int64) (ln : AR), RowEq len cl ln → R < 128 → snt + bs.length < 2 ^ 20 → len + cnt P snt bs.length ≤ 4096 →
    ∃ R' cl' ln', cRun (nI P) bs (nI R) (nI snt) (nI len) cl = some (nI R', nI (snt + bs.length), nI (len + cnt P snt bs.length), cl') ∧ mRun (nI P) bg fs sc bs (nI len) (nI snt) (nI (R / 2)) ln = some (nI (len + cnt P snt bs.length), nI (snt + bs.length), nI (R' / 2), ln') ∧ RowEq (len + cnt P snt bs.length) cl' ln' ∧ R' < 128 := by
  intro bs
  induction bs with
  | nil =>
    intro len snt R cl ln h1 h2 h3 h4
    exact ⟨R, cl, ln, rfl, rfl, h1, h2⟩
  | cons b bs ih =>
    intro len snt R cl ln h1 h2 h3 h4
    have hl : (b :: bs).length = 1 + bs.length := by rw [List.length_cons]; omega
    rw [hl] at h3 h4 ⊢
    rw [cnt_add, cnt_1] at h4 ⊢
    obtain ⟨cl1, ln1, a1, a2, a3⟩ := s_bit hT hP (snt := snt) (by omega) h2 b h1 (by omega)
    have hb := tn_lt b
    obtain ⟨R', cl', ln', b1, b2, b3, b4⟩ := ih (len + (k1 P snt + k2 P snt)) (snt + 1) (64 * b.toNat + R / 2) cl1 ln1 a3 (by omega) (by omega) (by omega)
    refine ⟨R', cl', ln', ?_, ?_, ?_, b4⟩
    · show bd (f_Coder_putBit (nI R) (nI snt) (nI P) (nI len) cl (bI b)) _ = _
      rw [a1, q_bd]
      show cRun (nI P) bs (nI (64 * b.toNat + R / 2)) (nI (snt + 1)) (nI (len + (k1 P snt + k2 P snt))) cl1 = _
      rw [b1, Nat.add_assoc len, Nat.add_assoc snt]
    · show bd (f_Mo_send1 (nI P) (nI len) (nI snt) (nI (R / 2)) bg fs sc ln (bI b)) _ = _
      rw [a2, q_bd]
      show mRun (nI P) bg fs sc bs (nI (len + (k1 P snt + k2 P snt))) (nI (snt + 1)) (nI ((64 * b.toNat + R / 2) / 2)) ln1 = _
      rw [b2, Nat.add_assoc len, Nat.add_assoc snt]
    · rw [← Nat.add_assoc]
      exact b3
theorem mRun_app (P : Int32) (bg fs sc : AR) : ∀ (xs ys : List Bool) (l s st : Int32) (ln : AR), mRun P bg fs sc (xs ++ ys) l s st ln = bd (mRun P bg fs sc xs l s st ln) fun u => mRun P bg fs sc ys u.1 u.2.1 u.2.2.1 u.2.2.2 := by
  intro xs
  induction xs with
  | nil => intro ys l s st ln; rfl
  | cons b xs ih =>
    intro ys l s st ln
    show bd (f_Mo_send1 P l s st bg fs sc ln (bI b)) _ = bd (bd (f_Mo_send1 P l s st bg fs sc ln (bI b)) _) _
    cases f_Mo_send1 P l s st bg fs sc ln (bI b) with
    | none => rfl
    | some u => exact ih ys _ _ _ _
/-- the bits of a number, the highest first -/
def bitsD (n : Nat) : Nat → List Bool
  | 0 => []
  | m + 1 => (n / 2 ^ m % 2 == 1) :: bitsD n m
theorem bitsD_len (n m : Nat) : (bitsD n m).length = m := by
  induction m with
  | zero => rfl
  | succ m ih => show (bitsD n m).length + 1 = _; rw [ih]
theorem bI_mod (x : Nat) : nI (x % 2) = bI (x % 2 == 1) := by
  rcases (show x % 2 = 0 ∨ x % 2 = 1 by omega) with h | h <;> rw [h] <;> rfl
theorem pb_lp (P : Int32) {n : Nat} (hn : n < 2 ^ 32) : ∀ m fu (r p l : Int32) (c : Nat → Int64), m < fu → m ≤ 32 → f_Coder_putBits_4 P fu (nI n) (nI m + (-1)) r p l c = cRun P (bitsD n m) r p l c := by
  intro m
  induction m with
  | zero =>
    intro fu r p l c h1 h2
    obtain ⟨f, rfl⟩ : ∃ f, fu = f + 1 := ⟨fu - 1, by omega⟩
    show f_Coder_putBits_4_b _ _ _ _ _ _ _ _ = _
    unfold f_Coder_putBits_4_b
    rw [if_pos (show nI 0 + (-1) < 0 by decide)]
    rfl
  | succ m ih =>
    intro fu r p l c h1 h2
    obtain ⟨f, rfl⟩ : ∃ f, fu = f + 1 := ⟨fu - 1, by omega⟩
    show f_Coder_putBits_4_b _ _ _ _ _ _ _ _ = _
    unfold f_Coder_putBits_4_b
    rw [pk_m1, if_neg (nI_pos (by omega)), n_ubit hn (by omega), bI_mod]
    show _ = bd (f_Coder_putBit r p P l c (bI (n / 2 ^ m % 2 == 1))) _
    congr 1
    funext u
    rw [q_nm, q_nm, q_nm, q_nm, q_nm]
    exact ih f _ _ _ _ (by omega) (by omega)
theorem pb_ok (P : Int32) {n m : Nat} (hn : n < 2 ^ 32) (hm : m ≤ 32) (r p l : Int32) (c : Nat → Int64) : f_Coder_putBits r p P l c (nI n) (nI m) = cRun P (bitsD n m) r p l c := by
  unfold f_Coder_putBits
  rw [q_nm, Int32.sub_eq_add_neg]
  exact pb_lp P hn m 10000 r p l c (by omega) hm
theorem sb_lp (P : Int32) (bg fs sc : AR) {n : Nat} (hn : n < 2 ^ 31) : ∀ m fu (l s st : Int32) (ln : AR), m < fu → m ≤ 32 → f_Mo_sendByte_3 P bg fs sc fu (nI n) (nI m + (-1)) l s st ln = mRun P bg fs sc (bitsD n m) l s st ln := by
  intro m
  induction m with
  | zero =>
    intro fu r p l c h1 h2
    obtain ⟨f, rfl⟩ : ∃ f, fu = f + 1 := ⟨fu - 1, by omega⟩
    show f_Mo_sendByte_3_b _ _ _ _ _ _ _ _ _ _ _ = _
    unfold f_Mo_sendByte_3_b
    rw [if_pos (show nI 0 + (-1) < 0 by decide)]
    rfl
  | succ m ih =>
    intro fu l s st ln h1 h2
    obtain ⟨f, rfl⟩ : ∃ f, fu = f + 1 := ⟨fu - 1, by omega⟩
    show f_Mo_sendByte_3_b _ _ _ _ _ _ _ _ _ _ _ = _
    unfold f_Mo_sendByte_3_b
    rw [pk_m1, if_neg (nI_pos (by omega)), n_bit hn (by omega), bI_mod]
    show _ = bd (f_Mo_send1 P l s st bg fs sc ln (bI (n / 2 ^ m % 2 == 1))) _
    congr 1
    funext u
    rw [q_nm, q_nm, q_nm, q_nm, q_nm]
    exact ih f _ _ _ _ (by omega) (by omega)
theorem sb_ok (P : Int32) (bg fs sc : AR) {n : Nat} (hn : n < 2 ^ 31) (l s st : Int32) (ln : AR) : f_Mo_sendByte P l s st bg fs sc ln (nI n) = mRun P bg fs sc (bitsD n 8) l s st ln :=
  sb_lp P bg fs sc hn 8 10000 l s st ln (by omega) (by omega)
/-- bits of a long, from place i on upwards -/
def bU (x : Int64) : Nat → Nat → List Bool
  | 0 => fun _ => []
  | m + 1 => fun i => bt x i :: bU x m (i + 1)
theorem bU_len (x : Int64) (m : Nat) : ∀ i, (bU x m i).length = m := by
  induction m with
  | zero => intro i; rfl
  | succ m ih => intro i; show (bU x m (i + 1)).length + 1 = _; rw [ih]
theorem pl_c (P : Int32) (x : Int64) {n : Nat} (hn : n ≤ 64) : ∀ m fu i (r p l : Int32) (c : Nat → Int64), i + m = n → m < fu → f_DC_plain_37 P fu (nI n) x (nI i) r p l c = bd (cRun P (bU x m i) r p l c) fun u => some (u.2.2.1, u.1, u.2.1, u.2.2.1, u.2.2.2) := by
  intro m
  induction m with
  | zero =>
    intro fu i r p l c h1 h2
    obtain ⟨f, rfl⟩ : ∃ f, fu = f + 1 := ⟨fu - 1, by omega⟩
    show f_DC_plain_37_b _ _ _ _ _ _ _ _ _ = _
    unfold f_DC_plain_37_b
    rw [if_pos (nI_le (by omega) (by omega))]
    rfl
  | succ m ih =>
    intro fu i r p l c h1 h2
    obtain ⟨f, rfl⟩ : ∃ f, fu = f + 1 := ⟨fu - 1, by omega⟩
    show f_DC_plain_37_b _ _ _ _ _ _ _ _ _ = _
    unfold f_DC_plain_37_b
    rw [if_neg (nI_ge (by omega) (by omega)), b_ui x (by omega)]
    show _ = bd (bd (f_Coder_putBit r p P l c (bI (bt x i))) _) _
    cases f_Coder_putBit r p P l c (bI (bt x i)) with
    | none => rfl
    | some u =>
      rw [q_bd, q_bd, q_nm, q_nm, q_nm, q_nm, q_nm, nI_1]
      exact ih f (i + 1) _ _ _ _ (by omega) (by omega)
theorem pl_m (P : Int32) (bg fs sc : AR) (x : Int64) {n : Nat} (hn : n ≤ 64) (t : Int32) : ∀ m fu i (l s st : Int32) (ln : AR), i + m = n → m < fu → f_Mo_plain_54 P bg fs sc fu (nI n) x (nI i) t l s st ln = bd (mRun P bg fs sc (bU x m i) l s st ln) fun u => some (u.1, t, u.1, u.2.1, u.2.2.1, u.2.2.2) := by
  intro m
  induction m with
  | zero =>
    intro fu i r p l c h1 h2
    obtain ⟨f, rfl⟩ : ∃ f, fu = f + 1 := ⟨fu - 1, by omega⟩
    show f_Mo_plain_54_b _ _ _ _ _ _ _ _ _ _ _ _ _ = _
    unfold f_Mo_plain_54_b
    rw [if_pos (nI_le (by omega) (by omega))]
    rfl
  | succ m ih =>
    intro fu i l s st ln h1 h2
    obtain ⟨f, rfl⟩ : ∃ f, fu = f + 1 := ⟨fu - 1, by omega⟩
    show f_Mo_plain_54_b _ _ _ _ _ _ _ _ _ _ _ _ _ = _
    unfold f_Mo_plain_54_b
    rw [if_neg (nI_ge (by omega) (by omega)), b_si x (by omega)]
    show _ = bd (bd (f_Mo_send1 P l s st bg fs sc ln (bI (bt x i))) _) _
    cases f_Mo_send1 P l s st bg fs sc ln (bI (bt x i)) with
    | none => rfl
    | some u =>
      rw [q_bd, q_bd, q_nm, q_nm, q_nm, q_nm, q_nm, nI_1]
      exact ih f (i + 1) _ _ _ _ (by omega) (by omega)
theorem rm_c {P : Nat} (hP : P ≤ 4) {snt len n : Nat} (hs : snt < 2 ^ 20) (hl : len ≤ 4096) (hn : n < 9000) : ∀ fu i, i ≤ n → n - i < fu → f_Coder_hasRoomFor_10 (nI snt) (nI P) fu (nI n) (nI (len + cnt P snt i)) (nI i) = some (if len + cnt P snt n ≤ 4096 then 1 else 0) := by
  intro fu
  induction fu with
  | zero => intro i h1 h2; omega
  | succ fu ih =>
    intro i h1 h2
    have hc := cnt_le hP snt i
    show f_Coder_hasRoomFor_10_b _ _ _ _ _ _ = _
    unfold f_Coder_hasRoomFor_10_b
    by_cases e : i = n
    · subst e
      rw [if_pos (nI_le (by omega) (by omega))]
      unfold f_Coder_hasRoomFor_43
      by_cases c : len + cnt P snt i ≤ 4096
      · rw [if_neg (show ¬ (4096 : Int32) < nI (len + cnt P snt i) from nI_nlt (a := 4096) c (by decide)), q_zb1, if_pos c]
      · rw [if_pos (show (4096 : Int32) < nI (len + cnt P snt i) from nI_lt (a := 4096) (by omega) (by omega)), q_zb0, if_neg c]
    · obtain ⟨c1, c2, c3⟩ := k_le hP (snt + i)
      rw [if_neg (nI_ge (by omega) (by omega)), nI_add, k_cl hP (by omega), q_bd, q_nm, (kp_all _ (show k1 P (snt + i) < 2 by omega) _ (show k2 P (snt + i) < 2 by omega)).2.2.2.2, q_bd, q_nm, q_nm, q_nm, nI_add, nI_1, Nat.add_assoc]
      exact ih (i + 1) (by omega) (by omega)
theorem rm_ok {P : Nat} (hP : P ≤ 4) {snt len n : Nat} (hs : snt < 2 ^ 20) (hl : len ≤ 4096) (hn : n < 9000) : f_Coder_hasRoomFor (nI snt) (nI len) (nI P) (nI n) = some (if len + cnt P snt n ≤ 4096 then 1 else 0) := by
  unfold f_Coder_hasRoomFor f_BitRow_size
  rw [q_bd, q_nm]
  exact rm_c hP hs hl hn 10000 0 (by omega) (by omega)
theorem lo_lp {bg fs sc : AR} (hT : Tab bg fs sc) {P : Nat} (hP : P ≤ 4) {snt n : Nat} (hs : snt < 2 ^ 20) (hn : n < 9000) : ∀ fu i, i ≤ n → n - i < fu → f_Mo_linesOf_5 (nI P) bg fs sc fu (nI snt) (nI n) (nI (cnt P snt i)) (nI (snt + i)) = some (nI (cnt P snt n)) := by
  intro fu
  induction fu with
  | zero => intro i h1 h2; omega
  | succ fu ih =>
    intro i h1 h2
    show f_Mo_linesOf_5_b _ _ _ _ _ _ _ _ _ = _
    unfold f_Mo_linesOf_5_b
    rw [nI_add]
    by_cases e : i = n
    · subst e
      rw [if_pos (nI_le (by omega) (by omega))]
    · obtain ⟨m1, m2⟩ := k_mo hT hP (t := snt + i) (by omega)
      rw [if_neg (nI_ge (by omega) (by omega)), m1, q_bd, q_nm, m2, q_bd, q_nm, q_nm, q_nm, nI_add, nI_add, nI_1, Nat.add_assoc, Nat.add_assoc]
      exact ih (i + 1) (by omega) (by omega)
theorem lo_ok {bg fs sc : AR} (hT : Tab bg fs sc) {P : Nat} (hP : P ≤ 4) {snt n : Nat} (hs : snt < 2 ^ 20) (hn : n < 9000) : f_Mo_linesOf (nI P) bg fs sc (nI snt) (nI n) = some (nI (cnt P snt n)) := by
  exact lo_lp hT hP hs hn 10000 0 (by omega) (by omega)
end
