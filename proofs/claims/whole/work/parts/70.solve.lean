/-! PURE PART: the reference's words: values of a word, equations solved -/
section
def Enc {K : Type} [Lean.Grind.Field K] (en : K → Int32) : Prop := en 0 = 0 ∧ en 1 = 1 ∧ (∀ a, en a = 0 → a = 0) ∧ (∀ a b, en a ^^^ en b = en (a + b)) ∧ (∀ a, ∃ n, n < 256 ∧ en a = nI n) ∧ (∀ n, n < 256 → ∃ a, en a = nI n) ∧ (∀ x : K, x + x = 0) ∧ (∀ a b, en a = en b → a = b)
/-- the reference's tables make it the field's arithmetic -/
def FldM {K : Type} [Lean.Grind.Field K] (en : K → Int32) (g : K) (lg pr : Nat → Int32) : Prop := (∀ a b, f_Mo_product lg pr (en a) (en b) = some (en (a * b))) ∧ (∀ a, a ≠ 0 → f_Mo_inverse lg pr (en a) = some (en a⁻¹)) ∧ (∀ k, k < 2 ^ 20 → f_Mo_ofG pr (nI k) = some (en (pw g k)))
def ea {K : Type} (en : K → Int32) (A : Nat → K) : Nat → Int32 := fun i => en (A i)
def ud {K : Type} (A : Nat → K) (j : Nat) (v : K) : Nat → K := fun i => if i = j then v else A i
theorem ea_upd {K : Type} (en : K → Int32) (A : Nat → K) (j : Nat) (v : K) : upd (ea en A) j (en v) = ea en (ud A j v) := by
  funext i
  unfold ea ud
  by_cases h : i = j
  · subst h; rw [pk_us, if_pos rfl]
  · rw [pk_un h, if_neg h]
theorem ud_s {K : Type} (A : Nat → K) (j : Nat) (v : K) : ud A j v j = v := if_pos rfl
theorem ud_n {K : Type} (A : Nat → K) {i j : Nat} (v : K) (h : i ≠ j) : ud A j v i = A i := if_neg h
theorem ud_pre {K : Type} (S V : Nat → K) (m : Nat) : ud (fun i => if i < m then S i else V i) m (S m) = fun i => if i < m + 1 then S i else V i := by
  funext i
  show (if i = m then S m else if i < m then S i else V i) = if i < m + 1 then S i else V i
  by_cases e1 : i = m
  · rw [if_pos e1, if_pos (by omega), e1]
  · rw [if_neg e1]
    by_cases e2 : i < m
    · rw [if_pos e2, if_pos (by omega)]
    · rw [if_neg e2, if_neg (by omega)]
theorem ea_rd {K : Type} {β : Type} {en : K → Int32} {A : Nat → K} {n j : Nat} {k : Int32 → Option β} (h : j < n) (hn : n < 2 ^ 31) : rdI (ea en A) n (nI j) k = k (en (A j)) := q_rdI h hn
theorem ea_wr {K : Type} {β : Type} {en : K → Int32} {A : Nat → K} {n j : Nat} {v : K} {k : (Nat → Int32) → Option β} (h : j < n) (hn : n < 2 ^ 31) : wrI (ea en A) n (nI j) (en v) k = k (ea en (ud A j v)) := by
  rw [q_wrI h hn, ea_upd]
theorem m_ic_in {K : Type} [Lean.Grind.Field K] {en : K → Int32} {g : K} {lg pr : Nat → Int32} (hE : Enc en) (hF : FldM en g lg pr) {F : Nat} (hF2 : F ≤ 250) (w : Nat → K) (x : K) (kh4 : Int32 → Int32 → (Nat → Int32) → Option (Int32 × (Nat → Int32))) (x1 x2 : Int32) (vals : Nat → Int32) :
    ∀ n k, k ≤ 255 - F → 255 - F - k < n → f_Mo_isCodeword_35 (nI F) pr lg (ea en w) kh4 n x1 x2 (en x) (en (hr w x k)) (nI k) vals = f_Mo_isCodeword_67 kh4 x1 x2 (en (hr w x (255 - F))) vals := by
  intro n
  induction n with
  | zero => intro k h1 h2; omega
  | succ n ih =>
    intro k h1 h2
    show f_Mo_isCodeword_35_b _ _ _ _ _ _ _ _ _ _ _ _ = _
    unfold f_Mo_isCodeword_35_b
    rw [show f_Mo_wordSize (nI F) = some (nI (255 - F)) by unfold f_Mo_wordSize; rw [show (255 : Int32) = nI 255 from rfl, pk_sub (by omega)]]
    rw [q_bd, q_nm]
    by_cases e : k = 255 - F
    · rw [if_pos (nI_le (by omega) (by omega)), ← e]
    · rw [if_neg (nI_ge (by omega) (by omega)), hF.1, q_bd, q_nm, ea_rd (by omega) (by decide), q_nm, q_nm, hE.2.2.2.1, nI_1]
      exact ih (k + 1) (by omega) (by omega)
theorem m_ic_out {K : Type} [Lean.Grind.Field K] {en : K → Int32} {g : K} {lg pr : Nat → Int32} (hE : Enc en) (hF : FldM en g lg pr) {F E : Nat} (hF2 : F ≤ 250) (hE2 : E ≤ 16) (w V : Nat → K) :
    ∀ n m x1, m ≤ 2 * E → 2 * E - m < n → ((x1 = 1 ∧ ∀ i, i < m → hr w (pw g (128 - E + i)) (255 - F) = 0) ∨ (x1 = 0 ∧ ∃ i, i < m ∧ hr w (pw g (128 - E + i)) (255 - F) ≠ 0)) →
    ∃ fl, f_Mo_isCodeword_4 (nI F) (nI E) pr lg (ea en w) n x1 (nI m) (ea en (fun i => if i < m then hr w (pw g (128 - E + i)) (255 - F) else V i)) = some (fl, ea en (fun i => if i < 2 * E then hr w (pw g (128 - E + i)) (255 - F) else V i)) ∧ ((fl = 1 ∧ Code g (255 - F) E (128 - E) w) ∨ (fl = 0 ∧ ¬ Code g (255 - F) E (128 - E) w)) := by
  intro n
  induction n with
  | zero => intro m x1 h1 h2; omega
  | succ n ih =>
    intro m x1 h1 h2 h3
    show ∃ fl, f_Mo_isCodeword_4_b _ _ _ _ _ _ _ _ _ = _ ∧ _
    unfold f_Mo_isCodeword_4_b
    rw [show (2 : Int32) * nI E = nI (2 * E) from pk_mul 2 E]
    by_cases e : m = 2 * E
    · rw [if_pos (nI_le (by omega) (by omega))]
      subst e
      rcases h3 with ⟨rfl, h3⟩ | ⟨rfl, i, hi, h3⟩
      · exact ⟨1, q_zb1, Or.inl ⟨rfl, h3⟩⟩
      · exact ⟨0, q_zb0, Or.inr ⟨rfl, fun h => h3 (h i hi)⟩⟩
    · rw [if_neg (nI_ge (by omega) (by omega)), show (128 : Int32) - nI E + nI m = nI (128 - E + m) by rw [show (128 : Int32) = nI 128 from rfl, pk_sub (by omega), nI_add], hF.2.2 _ (by omega), q_bd, q_nm]
      have h0 : (0 : Int32) = en (hr w (pw g (128 - E + m)) 0) := hE.1.symm
      have a := m_ic_in hE hF hF2 w (pw g (128 - E + m)) (f_Mo_isCodeword_4 (nI F) (nI E) pr lg (ea en w) n) x1 (nI m) (ea en (fun i => if i < m then hr w (pw g (128 - E + i)) (255 - F) else V i)) 10000 0 (by omega) (by omega)
      rw [← h0, nI_0] at a
      rw [a]
      unfold f_Mo_isCodeword_67
      rw [ea_wr (by omega) (by decide)]
      have eu := ud_pre (fun i => hr w (pw g (128 - E + i)) (255 - F)) V m
      rw [eu]
      by_cases hz : hr w (pw g (128 - E + m)) (255 - F) = 0
      · rcases h3 with ⟨rfl, h3⟩ | ⟨rfl, i, hi, h3⟩
        · rw [if_neg (by decide), if_pos (by rw [hz]; exact hE.1)]
          unfold f_Mo_isCodeword_89
          rw [q_nm, nI_1]
          exact ih (m + 1) 1 (by omega) (by omega) (Or.inl ⟨rfl, fun i hi => by
            by_cases e1 : i = m
            · rw [e1]; exact hz
            · exact h3 i (by omega)⟩)
        · rw [if_pos rfl]
          unfold f_Mo_isCodeword_88 f_Mo_isCodeword_89
          rw [q_nm, nI_1]
          exact ih (m + 1) 0 (by omega) (by omega) (Or.inr ⟨rfl, i, by omega, h3⟩)
      · have hz2 : ¬ en (hr w (pw g (128 - E + m)) (255 - F)) = 0 := fun h => hz (hE.2.2.1 _ h)
        have goal := ih (m + 1) 0 (by omega) (by omega) (Or.inr ⟨rfl, m, by omega, hz⟩)
        by_cases c1 : x1 = 0
        · rw [if_pos c1]
          unfold f_Mo_isCodeword_88 f_Mo_isCodeword_89
          rw [q_nm, nI_1]
          exact goal
        · rw [if_neg c1, if_neg hz2]
          unfold f_Mo_isCodeword_88 f_Mo_isCodeword_89
          rw [q_nm, nI_1]
          exact goal
/-- the values of a word, and whether it is a codeword -/
theorem m_ic {K : Type} [Lean.Grind.Field K] {en : K → Int32} {g : K} {lg pr : Nat → Int32} (hE : Enc en) (hF : FldM en g lg pr) {F E : Nat} (hF2 : F ≤ 250) (hE2 : E ≤ 16) (w V : Nat → K) :
    ∃ fl, f_Mo_isCodeword (nI F) (nI E) pr (ea en V) lg (ea en w) = some (fl, ea en (fun i => if i < 2 * E then hr w (pw g (128 - E + i)) (255 - F) else V i)) ∧ ((fl = 1 ∧ Code g (255 - F) E (128 - E) w) ∨ (fl = 0 ∧ ¬ Code g (255 - F) E (128 - E) w)) := by
  have a := m_ic_out hE hF hF2 hE2 w V 10000 0 1 (by omega) (by omega) (Or.inl ⟨rfl, fun i hi => by omega⟩)
  exact a
end
