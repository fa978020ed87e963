/-! PURE PART: the reference's mends -/
section
abbrev MR : Type := Option (Int32 × (Nat → Int32) × (Nat → Int32) × (Nat → Int32) × (Nat → Int32) × (Nat → Int32))
abbrev AR : Type := Nat → Int32
theorem h_in {K : Type} {en : K → Int32} {n r : Nat} (hn : n ≤ 16) (hr : r < n) (V : Nat → K) (kh : Int32 → Int32 → AR → AR → AR → AR → AR → MR) (sol wd wr : AR) :
    ∀ fu k (A : Nat → K), k ≤ n + 1 → n + 1 - k < fu → ∃ A', f_Mo_mends_9 kh fu (nI n) (nI r) (nI k) (ea en A) sol (ea en V) wd wr = f_Mo_mends_39 kh (nI n) (nI r) (ea en A') sol (ea en V) wd wr ∧ (∀ i, i ≤ n → ∀ q, q < n → mat A' q i = if q = r ∧ k ≤ i then V (r + i) else mat A q i) := by
  intro fu
  induction fu with
  | zero => intro k A h1 h2; omega
  | succ fu ih =>
    intro k A h1 h2
    show ∃ A', f_Mo_mends_9_b _ _ _ _ _ _ _ _ _ _ = _ ∧ _
    unfold f_Mo_mends_9_b
    by_cases e : k = n + 1
    · refine ⟨A, by rw [if_pos (nI_lt (by omega) (by omega))], fun i hi q hq => by rw [if_neg (by omega)]⟩
    · rw [if_neg (nI_nlt (by omega) (by omega)), nI_add, ea_rd (by omega) (by decide), ix33, ea_wr (by omega) (by decide), q_nm, nI_1]
      obtain ⟨A', h3, h4⟩ := ih (k + 1) (ud A (33 * r + k) (V (r + k))) (by omega) (by omega)
      refine ⟨A', h3, fun i hi q hq => ?_⟩
      rw [h4 i hi q hq]
      unfold mat
      by_cases hq2 : q = r
      · subst hq2
        by_cases hk : i = k
        · subst hk
          rw [if_neg (by omega), if_pos ⟨rfl, by omega⟩, ud_s]
        · rw [ud_n _ _ (by omega)]
          by_cases hk2 : k ≤ i
          · rw [if_pos ⟨rfl, by omega⟩, if_pos ⟨rfl, hk2⟩]
          · rw [if_neg (by omega), if_neg (by omega)]
      · rw [if_neg (fun h => hq2 h.1), if_neg (fun h => hq2 h.1), ud_n _ _ (by omega)]
theorem h_out {K : Type} {en : K → Int32} {lg pr : AR} {F' E' : Int32} {n : Nat} (hn : n ≤ 16) (V : Nat → K) (sol wd wr : AR) :
    ∀ fu r (A : Nat → K), r ≤ n → n - r < fu → ∃ A', f_Mo_mends_2 F' E' lg pr fu (nI n) (nI r) (ea en A) sol (ea en V) wd wr = f_Mo_mends_45 F' E' lg pr (nI n) (ea en A') sol (ea en V) wd wr ∧ (∀ i, i ≤ n → ∀ q, q < n → mat A' q i = if r ≤ q then V (q + i) else mat A q i) := by
  intro fu
  induction fu with
  | zero => intro r A h1 h2; omega
  | succ fu ih =>
    intro r A h1 h2
    show ∃ A', f_Mo_mends_2_b _ _ _ _ _ _ _ _ _ _ _ _ = _ ∧ _
    unfold f_Mo_mends_2_b
    by_cases e : r = n
    · refine ⟨A, by rw [if_pos (nI_le (by omega) (by omega))], fun i hi q hq => by rw [if_neg (by omega)]⟩
    · rw [if_neg (nI_ge (by omega) (by omega))]
      obtain ⟨A1, a1, a2⟩ := h_in (en := en) hn (r := r) (by omega) V (f_Mo_mends_2 F' E' lg pr fu) sol wd wr 10000 0 A (by omega) (by omega)
      rw [nI_0] at a1
      rw [a1]
      unfold f_Mo_mends_39
      rw [q_nm, nI_1]
      obtain ⟨A', h3, h4⟩ := ih (r + 1) A1 (by omega) (by omega)
      refine ⟨A', h3, fun i hi q hq => ?_⟩
      rw [h4 i hi q hq, a2 i hi q hq]
      by_cases hq2 : q = r
      · subst hq2
        rw [if_neg (by omega), if_pos ⟨rfl, by omega⟩, if_pos (by omega)]
      · rw [if_neg (show ¬ (q = r ∧ 0 ≤ i) by omega)]
        by_cases hq3 : r ≤ q
        · rw [if_pos hq3, if_pos (by omega)]
        · rw [if_neg hq3, if_neg (by omega)]
theorem m_hv {K : Type} [Lean.Grind.Field K] {en : K → Int32} {g : K} {lg pr : AR} (hE : Enc en) (hF : FldM en g lg pr) {n : Nat} (hn : n ≤ 16) (x : K) (s y : Nat → K) (hy : ∀ c, c < n → y c = s c) (kh : Int32 → Int32 → Int32 → AR → AR → AR → AR → AR → MR) (x2 x3 : Int32) (sys val wd wr : AR) :
    ∀ m fu, m ≤ n → m < fu → f_Mo_mends_82 lg pr kh fu (nI n) x2 x3 (en x) (en (ev (fun i => y (m + i)) (n + 1 - m) x)) (nI m + (-1)) sys (ea en s) val wd wr = f_Mo_mends_111 kh (nI n) x2 x3 (en (ev y (n + 1) x)) sys (ea en s) val wd wr := by
  intro m
  induction m with
  | zero =>
    intro fu h1 h2
    obtain ⟨f, rfl⟩ : ∃ f, fu = f + 1 := ⟨fu - 1, by omega⟩
    show f_Mo_mends_82_b _ _ _ _ _ _ _ _ _ _ _ _ _ _ _ = _
    unfold f_Mo_mends_82_b
    rw [if_pos (show nI 0 + (-1) < 0 by decide)]
    have e : (fun i => y (0 + i)) = y := by funext i; rw [Nat.zero_add]
    rw [e, Nat.sub_zero]
  | succ m ih =>
    intro fu h1 h2
    obtain ⟨f, rfl⟩ : ∃ f, fu = f + 1 := ⟨fu - 1, by omega⟩
    show f_Mo_mends_82_b _ _ _ _ _ _ _ _ _ _ _ _ _ _ _ = _
    unfold f_Mo_mends_82_b
    rw [pk_m1, if_neg (nI_pos (by omega)), hF.1, q_bd, q_nm, ea_rd (by omega) (by decide), hE.2.2.2.1, q_nm, q_nm]
    rw [← ih f (by omega) (by omega)]
    congr 2
    have e0 : y (m + 0) = s m := hy m (by omega)
    rw [show n + 1 - m = (n + 1 - (m + 1)) + 1 by omega, ev_head, e0]
    have e : (fun i => y (m + 1 + i)) = (fun i => y (m + (i + 1))) := by
      funext i
      rw [show m + 1 + i = m + (i + 1) by omega]
    rw [e]
    grind
def PInv (root : Nat → Prop) (p f : Nat) (Q : Nat → Nat) : Prop := (∀ i, i < f → Q i < p ∧ root (Q i)) ∧ (∀ i j, i < f → j < f → i ≠ j → Q i ≠ Q j) ∧ (∀ k, k < p → root k → ∃ i, i < f ∧ Q i = k)
theorem pinv_skip {root : Nat → Prop} {p f : Nat} {Q : Nat → Nat} (h : PInv root p f Q) (hp : ¬ root p) : PInv root (p + 1) f Q := by
  obtain ⟨h1, h2, h3⟩ := h
  refine ⟨fun i hi => ⟨by have := (h1 i hi).1; omega, (h1 i hi).2⟩, h2, fun k hk hr => ?_⟩
  by_cases e : k = p
  · exact absurd (e ▸ hr) hp
  · exact h3 k (by omega) hr
theorem pinv_add {root : Nat → Prop} {p f : Nat} {Q : Nat → Nat} (h : PInv root p f Q) (hp : root p) : PInv root (p + 1) (f + 1) (ud Q f p) := by
  obtain ⟨h1, h2, h3⟩ := h
  refine ⟨fun i hi => ?_, fun i j hi hj hne => ?_, fun k hk hr => ?_⟩
  · by_cases e : i = f
    · rw [e, ud_s]; exact ⟨by omega, hp⟩
    · rw [ud_n _ _ e]; exact ⟨by have := (h1 i (by omega)).1; omega, (h1 i (by omega)).2⟩
  · by_cases e : i = f
    · rw [e, ud_s, ud_n _ _ (by omega)]; have := (h1 j (by omega)).1; omega
    · rw [ud_n _ _ e]
      by_cases e2 : j = f
      · rw [e2, ud_s]; have := (h1 i (by omega)).1; omega
      · rw [ud_n _ _ e2]; exact h2 i j (by omega) (by omega) hne
  · by_cases e : k = p
    · exact ⟨f, by omega, by rw [ud_s, e]⟩
    · obtain ⟨i, hi, hq⟩ := h3 k (by omega) hr
      exact ⟨i, by omega, by rw [ud_n _ _ (by omega), hq]⟩
/-- more places than a number -/
def Many (root : Nat → Prop) (W n : Nat) : Prop := ∃ R : Nat → Nat, (∀ i, i < n + 1 → R i < W ∧ root (R i)) ∧ ∀ i j, i < n + 1 → j < n + 1 → i ≠ j → R i ≠ R j
theorem m_roots {K : Type} [Lean.Grind.Field K] {en : K → Int32} {g : K} {lg pr : AR} (hE : Enc en) (hF : FldM en g lg pr) {F n : Nat} (hF2 : F ≤ 250) (E' : Int32) (hn0 : 1 ≤ n) (hn : n ≤ 16) (s y : Nat → K) (hy : ∀ c, c < n → y c = s c) (hyn : y n = 1) (sys val wd : AR) :
    ∀ fu p f (Q : Nat → Nat), p ≤ 255 - F → 255 - F - p < fu → f ≤ n → PInv (fun p => ev y (n + 1) (pw g p) = 0) p f Q → ∃ Q', (f_Mo_mends_59 (nI F) E' lg pr fu (nI n) (nI f) (nI p) sys (ea en s) val wd (ea nI Q) = some (0, sys, ea en s, val, wd, ea nI Q') ∧ Many (fun p => ev y (n + 1) (pw g p) = 0) (255 - F) n) ∨ (∃ f', f' ≤ n ∧ f_Mo_mends_59 (nI F) E' lg pr fu (nI n) (nI f) (nI p) sys (ea en s) val wd (ea nI Q) = f_Mo_mends_139 (nI F) E' lg pr (nI n) (nI f') sys (ea en s) val wd (ea nI Q') ∧ PInv (fun p => ev y (n + 1) (pw g p) = 0) (255 - F) f' Q') := by
  intro fu
  induction fu with
  | zero => intro p f Q h1 h2; omega
  | succ fu ih =>
    intro p f Q h1 h2 h3 h4
    have hst : f_Mo_mends_59 (nI F) E' lg pr (fu + 1) (nI n) (nI f) (nI p) sys (ea en s) val wd (ea nI Q) = f_Mo_mends_59_b (nI F) E' lg pr (f_Mo_mends_59 (nI F) E' lg pr fu) (nI n) (nI f) (nI p) sys (ea en s) val wd (ea nI Q) := rfl
    rw [hst]
    unfold f_Mo_mends_59_b
    rw [show f_Mo_wordSize (nI F) = some (nI (255 - F)) by unfold f_Mo_wordSize; rw [show (255 : Int32) = nI 255 from rfl, pk_sub (by omega)], q_bd, q_nm]
    by_cases e : p = 255 - F
    · rw [if_pos (nI_le (by omega) (by omega))]
      subst e
      exact ⟨Q, Or.inr ⟨f, h3, rfl, h4⟩⟩
    · rw [if_neg (nI_ge (by omega) (by omega)), hF.2.2 _ (by omega), q_bd, q_nm, q_nm]
      have a := m_hv hE hF hn (pw g p) s y hy (f_Mo_mends_59 (nI F) E' lg pr fu) (nI f) (nI p) sys val wd (ea nI Q) n 10000 (by omega) (by omega)
      have e1 : ev (fun i => y (n + i)) (n + 1 - n) (pw g p) = 1 := by
        rw [show n + 1 - n = 0 + 1 by omega, ev_head, Nat.add_zero, hyn]
        unfold ev
        rw [sm_0]; grind
      rw [e1, hE.2.1, ← Int32.sub_eq_add_neg] at a
      rw [a]
      unfold f_Mo_mends_111
      by_cases hz : ev y (n + 1) (pw g p) = 0
      · rw [if_pos (by rw [hz]; exact hE.1)]
        by_cases hf : f = n
        · rw [if_pos (by rw [hf]), q_zb0]
          refine ⟨Q, Or.inl ⟨rfl, ud Q n p, ?_, ?_⟩⟩
          · intro i hi
            have := (pinv_add h4 hz).1 i (by omega)
            rw [hf] at this
            exact ⟨by have := this.1; omega, this.2⟩
          · have := (pinv_add h4 hz).2.1
            rw [hf] at this
            exact this
        · rw [if_neg (by rw [nI_eq (by omega) (by omega)]; exact hf), ea_wr (by omega) (by decide), q_nm]
          unfold f_Mo_mends_133
          rw [q_nm, nI_1, nI_1]
          exact ih (p + 1) (f + 1) (ud Q f p) (by omega) (by omega) (by omega) (pinv_add h4 hz)
      · rw [if_neg (fun h => hz (hE.2.2.1 _ h))]
        unfold f_Mo_mends_133
        rw [q_nm, nI_1]
        exact ih (p + 1) f Q (by omega) (by omega) h3 (pinv_skip h4 hz)
theorem v_in {K : Type} [Lean.Grind.Field K] {en : K → Int32} {g : K} {lg pr : AR} (hF : FldM en g lg pr) {n r : Nat} (hn : n ≤ 16) (hr : r < n) (Q : Nat → Nat) (hQ : ∀ i, i < n → Q i < 255) (kh : Int32 → Int32 → AR → AR → AR → AR → AR → MR) (sol val wd : AR) :
    ∀ fu k (A : Nat → K), k ≤ n → n - k < fu → ∃ A', f_Mo_mends_156 pr kh fu (nI n) (nI r) (nI k) (ea en A) sol val wd (ea nI Q) = f_Mo_mends_193 kh (nI n) (nI r) (ea en A') sol val wd (ea nI Q) ∧ (∀ i, i ≤ n → ∀ q, q < n → mat A' q i = if q = r ∧ k ≤ i ∧ i < n then pw g (Q i * r) else mat A q i) := by
  intro fu
  induction fu with
  | zero => intro k A h1 h2; omega
  | succ fu ih =>
    intro k A h1 h2
    show ∃ A', f_Mo_mends_156_b _ _ _ _ _ _ _ _ _ _ _ = _ ∧ _
    unfold f_Mo_mends_156_b
    by_cases e : k = n
    · refine ⟨A, by rw [if_pos (nI_le (by omega) (by omega))], fun i hi q hq => by rw [if_neg (by omega)]⟩
    · have hb : Q k * r < 2 ^ 20 := Nat.lt_of_le_of_lt (Nat.mul_le_mul (Nat.le_of_lt (hQ k (by omega))) (show r ≤ 16 by omega)) (by decide)
      rw [if_neg (nI_ge (by omega) (by omega)), ea_rd (by omega) (by decide), pk_mul, hF.2.2 _ hb, q_bd, q_nm, ix33, ea_wr (by omega) (by decide), q_nm, nI_1]
      obtain ⟨A', h3, h4⟩ := ih (k + 1) (ud A (33 * r + k) (pw g (Q k * r))) (by omega) (by omega)
      refine ⟨A', h3, fun i hi q hq => ?_⟩
      rw [h4 i hi q hq]
      unfold mat
      by_cases hq2 : q = r
      · subst hq2
        by_cases hk : i = k
        · subst hk
          rw [if_neg (by omega), if_pos ⟨rfl, by omega, by omega⟩, ud_s]
        · rw [ud_n _ _ (by omega)]
          by_cases hk2 : k ≤ i ∧ i < n
          · rw [if_pos ⟨rfl, by omega, hk2.2⟩, if_pos ⟨rfl, hk2⟩]
          · rw [if_neg (by omega), if_neg (by omega)]
      · rw [if_neg (fun h => hq2 h.1), if_neg (fun h => hq2 h.1), ud_n _ _ (by omega)]
theorem v_out {K : Type} [Lean.Grind.Field K] {en : K → Int32} {g : K} {lg pr : AR} (hF : FldM en g lg pr) {F' E' : Int32} {n : Nat} (hn : n ≤ 16) (Q : Nat → Nat) (hQ : ∀ i, i < n → Q i < 255) (V : Nat → K) (sol wd : AR) :
    ∀ fu r (A : Nat → K), r ≤ n → n - r < fu → ∃ A', f_Mo_mends_148 F' E' lg pr fu (nI n) (nI r) (ea en A) sol (ea en V) wd (ea nI Q) = f_Mo_mends_216 F' E' lg pr (nI n) (ea en A') sol (ea en V) wd (ea nI Q) ∧ (∀ i, i ≤ n → ∀ q, q < n → mat A' q i = if r ≤ q then (if i < n then pw g (Q i * q) else V q) else mat A q i) := by
  intro fu
  induction fu with
  | zero => intro r A h1 h2; omega
  | succ fu ih =>
    intro r A h1 h2
    show ∃ A', f_Mo_mends_148_b _ _ _ _ _ _ _ _ _ _ _ _ = _ ∧ _
    unfold f_Mo_mends_148_b
    by_cases e : r = n
    · refine ⟨A, by rw [if_pos (nI_le (by omega) (by omega))], fun i hi q hq => by rw [if_neg (by omega)]⟩
    · rw [if_neg (nI_ge (by omega) (by omega))]
      obtain ⟨A1, a1, a2⟩ := v_in hF (lg := lg) hn (r := r) (by omega) Q hQ (f_Mo_mends_148 F' E' lg pr fu) sol (ea en V) wd 10000 0 A (by omega) (by omega)
      rw [nI_0] at a1
      rw [a1]
      unfold f_Mo_mends_193
      rw [ea_rd (by omega) (by decide), ix33, ea_wr (by omega) (by decide), q_nm, nI_1]
      obtain ⟨A', h3, h4⟩ := ih (r + 1) (ud A1 (33 * r + n) (V r)) (by omega) (by omega)
      refine ⟨A', h3, fun i hi q hq => ?_⟩
      rw [h4 i hi q hq]
      by_cases hq2 : q = r
      · subst hq2
        rw [if_neg (by omega), if_pos (by omega)]
        by_cases hi2 : i < n
        · rw [if_pos hi2]
          show ud A1 (33 * q + n) (V q) (33 * q + i) = _
          rw [ud_n _ _ (by omega)]
          have := a2 i hi q hq
          rw [if_pos ⟨rfl, by omega, hi2⟩] at this
          exact this
        · rw [if_neg hi2, show i = n by omega]
          exact ud_s _ _ _
      · by_cases hq3 : r ≤ q
        · rw [if_pos hq3, if_pos (by omega)]
        · rw [if_neg hq3, if_neg (by omega)]
          show ud A1 (33 * r + n) (V r) (33 * q + i) = _
          rw [ud_n _ _ (by omega)]
          have := a2 i hi q hq
          rw [if_neg (by omega)] at this
          exact this
/-- a word made right at places, from the powers that they have -/
def fixw {K : Type} [Lean.Grind.Field K] (g : K) (W b : Nat) (s : Nat → K) (Q : Nat → Nat) (c n : Nat) (w : Nat → K) : Nat → K := fun k => w k + sm (fun i => if c ≤ i ∧ W - 1 - Q i = k then s i * (pw g (Q i * b))⁻¹ else 0) n
theorem m_fix {K : Type} [Lean.Grind.Field K] {en : K → Int32} {g : K} {lg pr : AR} (hg : g ≠ 0) (hE : Enc en) (hF : FldM en g lg pr) {F E n : Nat} (hF2 : F ≤ 250) (hE2 : E ≤ 16) (hn : n ≤ 16) (Q : Nat → Nat) (hQ : ∀ i, i < n → Q i < 255 - F) (hQ2 : ∀ i j, i < n → j < n → i ≠ j → Q i ≠ Q j) (s : Nat → K) (sys val : AR) :
    ∀ fu c (w : Nat → K), c ≤ n → n - c < fu → ∃ w', f_Mo_mends_228 (nI F) (nI E) lg pr fu (nI n) (nI c) sys (ea en s) val (ea en w) (ea nI Q) = f_Mo_mends_302 (nI F) (nI E) lg pr sys (ea en s) val (ea en w') (ea nI Q) ∧ (∀ i, i < n → w' (255 - F - 1 - Q i) = if c ≤ i then w (255 - F - 1 - Q i) + s i * (pw g (Q i * (128 - E)))⁻¹ else w (255 - F - 1 - Q i)) ∧ (∀ k, (∀ i, i < n → 255 - F - 1 - Q i ≠ k) → w' k = w k) := by
  intro fu
  induction fu with
  | zero => intro c w h1 h2; omega
  | succ fu ih =>
    intro c w h1 h2
    show ∃ w', f_Mo_mends_228_b _ _ _ _ _ _ _ _ _ _ _ _ = _ ∧ _ ∧ _
    unfold f_Mo_mends_228_b
    by_cases e : c = n
    · refine ⟨w, by rw [if_pos (nI_le (by omega) (by omega))], fun i hi => by rw [if_neg (by omega)], fun k _ => rfl⟩
    · have hqc := hQ c (by omega)
      have hb : Q c * (128 - E) < 2 ^ 20 := Nat.lt_of_le_of_lt (Nat.mul_le_mul (Nat.le_of_lt hqc) (show 128 - E ≤ 128 by omega)) (Nat.lt_of_le_of_lt (Nat.mul_le_mul_right 128 (show 255 - F ≤ 255 by omega)) (by decide))
      rw [if_neg (nI_ge (by omega) (by omega)), show f_Mo_wordSize (nI F) = some (nI (255 - F)) by unfold f_Mo_wordSize; rw [show (255 : Int32) = nI 255 from rfl, pk_sub (by omega)], q_bd, q_nm, ea_rd (by omega) (by decide), q_nm, show nI (255 - F) - 1 - nI (Q c) = nI (255 - F - 1 - Q c) by rw [show (1 : Int32) = nI 1 from rfl, pk_sub (by omega), pk_sub (by omega)], ea_rd (by omega) (by decide), ea_rd (by omega) (by decide), ea_rd (by omega) (by decide), show nI (Q c) * ((128 : Int32) - nI E) = nI (Q c * (128 - E)) by rw [show (128 : Int32) = nI 128 from rfl, pk_sub (by omega), pk_mul], hF.2.2 _ hb, q_bd, q_nm, hF.2.1 _ (pw_nz hg _), q_bd, q_nm, hF.1, q_bd, q_nm, hE.2.2.2.1, ea_wr (by omega) (by decide), q_nm, nI_1]
      obtain ⟨w', h3, h4, h5⟩ := ih (c + 1) (ud w (255 - F - 1 - Q c) (w (255 - F - 1 - Q c) + s c * (pw g (Q c * (128 - E)))⁻¹)) (by omega) (by omega)
      refine ⟨w', h3, fun i hi => ?_, fun k hk => ?_⟩
      · rw [h4 i hi]
        by_cases e2 : i = c
        · subst e2
          rw [if_neg (by omega), if_pos (by omega), ud_s]
        · have := hQ2 i c hi (by omega) e2
          have := hQ i hi
          rw [ud_n _ _ (by omega)]
          by_cases e3 : c ≤ i
          · rw [if_pos e3, if_pos (by omega)]
          · rw [if_neg e3, if_neg (by omega)]
      · rw [h5 k hk, ud_n _ _ (fun h => hk c (by omega) h.symm)]
end
