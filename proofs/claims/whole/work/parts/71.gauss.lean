/-! PURE PART: the reference's solves -/
section
theorem ix33 (a b : Nat) : (33 : Int32) * nI a + nI b = nI (33 * a + b) := by
  rw [show (33 : Int32) = nI 33 from rfl, pk_mul, nI_add]
def mat {K : Type} (A : Nat → K) (r k : Nat) : K := A (33 * r + k)
theorem s_elin {K : Type} [Lean.Grind.Field K] {en : K → Int32} {g : K} {lg pr : Nat → Int32} (hE : Enc en) (hF : FldM en g lg pr) {n c j : Nat} (hn : n ≤ 32) (hc : c < n) (hj : j < n) (hjc : j ≠ c) (s : K) (kh : Int32 → Int32 → Int32 → (Nat → Int32) → (Nat → Int32) → Option (Int32 × (Nat → Int32) × (Nat → Int32))) (sol : Nat → Int32) :
    ∀ fu k (A : Nat → K), k ≤ n + 1 → n + 1 - k < fu → ∃ A', f_Mo_solves_196 lg pr kh fu (nI n) (nI c) (nI j) (en s) (nI k) (ea en A) sol = f_Mo_solves_259 kh (nI n) (nI c) (nI j) (ea en A') sol ∧ (∀ i, i ≤ n → ∀ r, r < n → mat A' r i = if r = j ∧ k ≤ i then mat A r i + s * mat A c i else mat A r i) := by
  intro fu
  induction fu with
  | zero => intro k A h1 h2; omega
  | succ fu ih =>
    intro k A h1 h2
    show ∃ A', f_Mo_solves_196_b _ _ _ _ _ _ _ _ _ _ _ = _ ∧ _
    unfold f_Mo_solves_196_b
    by_cases e : k = n + 1
    · refine ⟨A, by rw [if_pos (nI_lt (by omega) (by omega))], fun i hi r hr => by rw [if_neg (by omega)]⟩
    · rw [if_neg (nI_nlt (by omega) (by omega)), if_neg (by rw [nI_eq (by omega) (by omega)]; exact hjc), ix33, ix33, ea_rd (by omega) (by decide), ea_rd (by omega) (by decide), hF.1, q_bd, q_nm, hE.2.2.2.1, ea_wr (by omega) (by decide), q_nm, nI_1]
      obtain ⟨A', h3, h4⟩ := ih (k + 1) (ud A (33 * j + k) (A (33 * j + k) + s * A (33 * c + k))) (by omega) (by omega)
      refine ⟨A', h3, fun i hi r hr => ?_⟩
      rw [h4 i hi r hr]
      unfold mat
      by_cases hr2 : r = j
      · subst hr2
        by_cases hk : i = k
        · subst hk
          rw [if_neg (by omega), if_pos ⟨rfl, by omega⟩, ud_s]
        · rw [ud_n _ _ (by omega), ud_n _ _ (by omega)]
          by_cases hk2 : k ≤ i
          · rw [if_pos ⟨rfl, by omega⟩, if_pos ⟨rfl, hk2⟩]
          · rw [if_neg (by omega), if_neg (by omega)]
      · rw [if_neg (fun h => hr2 h.1), if_neg (fun h => hr2 h.1), ud_n _ _ (by omega)]
theorem s_el {K : Type} [Lean.Grind.Field K] {en : K → Int32} {g : K} {lg pr : Nat → Int32} (hE : Enc en) (hF : FldM en g lg pr) {n c : Nat} (hn : n ≤ 32) (hc : c < n) (kh : Int32 → Int32 → (Nat → Int32) → (Nat → Int32) → Option (Int32 × (Nat → Int32) × (Nat → Int32))) (sol : Nat → Int32) :
    ∀ fu j (A : Nat → K), j ≤ n → n - j < fu → ∃ A', f_Mo_solves_173 lg pr kh fu (nI n) (nI c) (nI j) (ea en A) sol = f_Mo_solves_265 kh (nI n) (nI c) (ea en A') sol ∧ (∀ i, i ≤ n → ∀ r, r < n → mat A' r i = if r ≠ c ∧ j ≤ r then mat A r i + mat A r c * mat A c i else mat A r i) := by
  intro fu
  induction fu with
  | zero => intro j A h1 h2; omega
  | succ fu ih =>
    intro j A h1 h2
    show ∃ A', f_Mo_solves_173_b _ _ _ _ _ _ _ _ _ = _ ∧ _
    unfold f_Mo_solves_173_b
    by_cases e : j = n
    · refine ⟨A, by rw [if_pos (nI_le (by omega) (by omega))], fun i hi r hr => by rw [if_neg (by omega)]⟩
    · rw [if_neg (nI_ge (by omega) (by omega)), ix33, ea_rd (by omega) (by decide)]
      by_cases hjc : j = c
      · subst hjc
        have hst : f_Mo_solves_196 lg pr (f_Mo_solves_173 lg pr kh fu) 10000 (nI n) (nI j) (nI j) (en (A (33 * j + j))) 0 (ea en A) sol = f_Mo_solves_173 lg pr kh fu (nI n) (nI j) (nI (j + 1)) (ea en A) sol := by
          show f_Mo_solves_196_b _ _ _ _ _ _ _ _ _ _ _ = _
          unfold f_Mo_solves_196_b
          rw [if_neg (nI_pos (n := n) (by omega)), if_pos rfl]
          unfold f_Mo_solves_259
          rw [q_nm, nI_1]
        rw [hst]
        obtain ⟨A', h3, h4⟩ := ih (j + 1) A (by omega) (by omega)
        refine ⟨A', h3, fun i hi r hr => ?_⟩
        rw [h4 i hi r hr]
        by_cases hr2 : r ≠ j ∧ j ≤ r
        · rw [if_pos hr2, if_pos ⟨hr2.1, by omega⟩]
        · rw [if_neg hr2, if_neg (by omega)]
      · obtain ⟨A1, h5, h6⟩ := s_elin hE hF hn hc (j := j) (by omega) hjc (A (33 * j + c)) (f_Mo_solves_173 lg pr kh fu) sol 10000 0 A (by omega) (by omega)
        rw [nI_0] at h5
        rw [h5]
        unfold f_Mo_solves_259
        rw [q_nm, nI_1]
        obtain ⟨A', h3, h4⟩ := ih (j + 1) A1 (by omega) (by omega)
        refine ⟨A', h3, fun i hi r hr => ?_⟩
        rw [h4 i hi r hr, h6 i hi r hr, h6 c (by omega) r hr, h6 i hi c hc, if_neg (show ¬ (c = j ∧ 0 ≤ i) by omega)]
        by_cases hr2 : r = j
        · subst hr2
          rw [if_neg (by omega), if_pos ⟨rfl, by omega⟩, if_pos ⟨hjc, by omega⟩]
          rfl
        · rw [if_neg (show ¬ (r = j ∧ 0 ≤ i) by omega), if_neg (show ¬ (r = j ∧ 0 ≤ c) by omega)]
          by_cases hr3 : r ≠ c ∧ j ≤ r
          · rw [if_pos hr3, if_pos ⟨hr3.1, by omega⟩]
          · rw [if_neg hr3, if_neg (by omega)]
theorem s_sc {K : Type} [Lean.Grind.Field K] {en : K → Int32} {g : K} {lg pr : Nat → Int32} (hF : FldM en g lg pr) {n c : Nat} (hn : n ≤ 32) (hc : c < n) (y : K) (kh : Int32 → Int32 → (Nat → Int32) → (Nat → Int32) → Option (Int32 × (Nat → Int32) × (Nat → Int32))) (sol : Nat → Int32) :
    ∀ fu k (A : Nat → K), k ≤ n + 1 → n + 1 - k < fu → ∃ A', f_Mo_solves_128 lg pr kh fu (nI n) (nI c) (en y) (nI k) (ea en A) sol = f_Mo_solves_170 lg pr kh (nI n) (nI c) (ea en A') sol ∧ (∀ i, i ≤ n → ∀ r, r < n → mat A' r i = if r = c ∧ k ≤ i then mat A r i * y else mat A r i) := by
  intro fu
  induction fu with
  | zero => intro k A h1 h2; omega
  | succ fu ih =>
    intro k A h1 h2
    show ∃ A', f_Mo_solves_128_b _ _ _ _ _ _ _ _ _ _ = _ ∧ _
    unfold f_Mo_solves_128_b
    by_cases e : k = n + 1
    · refine ⟨A, by rw [if_pos (nI_lt (by omega) (by omega))], fun i hi r hr => by rw [if_neg (by omega)]⟩
    · rw [if_neg (nI_nlt (by omega) (by omega)), ix33, ea_rd (by omega) (by decide), hF.1, q_bd, q_nm, ea_wr (by omega) (by decide), q_nm, nI_1]
      obtain ⟨A', h3, h4⟩ := ih (k + 1) (ud A (33 * c + k) (A (33 * c + k) * y)) (by omega) (by omega)
      refine ⟨A', h3, fun i hi r hr => ?_⟩
      rw [h4 i hi r hr]
      unfold mat
      by_cases hr2 : r = c
      · subst hr2
        by_cases hk : i = k
        · subst hk
          rw [if_neg (by omega), if_pos ⟨rfl, by omega⟩, ud_s]
        · rw [ud_n _ _ (by omega)]
          by_cases hk2 : k ≤ i
          · rw [if_pos ⟨rfl, by omega⟩, if_pos ⟨rfl, hk2⟩]
          · rw [if_neg (by omega), if_neg (by omega)]
      · rw [if_neg (fun h => hr2 h.1), if_neg (fun h => hr2 h.1), ud_n _ _ (by omega)]
theorem s_sw {K : Type} {en : K → Int32} {lg pr : Nat → Int32} {n c p : Nat} (hn : n ≤ 32) (hc : c < n) (hp : p < n) (kh : Int32 → Int32 → (Nat → Int32) → (Nat → Int32) → Option (Int32 × (Nat → Int32) × (Nat → Int32))) (sol : Nat → Int32) :
    ∀ fu k (A : Nat → K), k ≤ n + 1 → n + 1 - k < fu → ∃ A', f_Mo_solves_44 lg pr kh fu (nI n) (nI c) (nI p) (nI k) (ea en A) sol = f_Mo_solves_108 lg pr kh (nI n) (nI c) (ea en A') sol ∧ (∀ i, i ≤ n → ∀ r, r < n → mat A' r i = if k ≤ i then (if r = c then mat A p i else if r = p then mat A c i else mat A r i) else mat A r i) := by
  intro fu
  induction fu with
  | zero => intro k A h1 h2; omega
  | succ fu ih =>
    intro k A h1 h2
    show ∃ A', f_Mo_solves_44_b _ _ _ _ _ _ _ _ _ _ = _ ∧ _
    unfold f_Mo_solves_44_b
    by_cases e : k = n + 1
    · refine ⟨A, by rw [if_pos (nI_lt (by omega) (by omega))], fun i hi r hr => by rw [if_neg (by omega)]⟩
    · rw [if_neg (nI_nlt (by omega) (by omega)), ix33, ix33, ea_rd (by omega) (by decide), ea_rd (by omega) (by decide), ea_wr (by omega) (by decide), ea_wr (by omega) (by decide), q_nm, nI_1]
      obtain ⟨A', h3, h4⟩ := ih (k + 1) (ud (ud A (33 * p + k) (A (33 * c + k))) (33 * c + k) (A (33 * p + k))) (by omega) (by omega)
      refine ⟨A', h3, fun i hi r hr => ?_⟩
      rw [h4 i hi r hr]
      unfold mat
      by_cases hk : i = k
      · subst hk
        rw [if_neg (by omega), if_pos (by omega)]
        by_cases hr2 : r = c
        · subst hr2
          rw [if_pos rfl, ud_s]
        · rw [if_neg hr2, ud_n _ _ (by omega)]
          by_cases hr3 : r = p
          · subst hr3
            rw [if_pos rfl, ud_s]
          · rw [if_neg hr3, ud_n _ _ (by omega)]
      · rw [ud_n _ _ (by omega), ud_n _ _ (by omega), ud_n _ _ (by omega), ud_n _ _ (by omega), ud_n _ _ (by omega), ud_n _ _ (by omega)]
        by_cases hk2 : k ≤ i
        · rw [if_pos (by omega), if_pos hk2]
        · rw [if_neg (by omega), if_neg hk2]
theorem s_find {K : Type} [Lean.Grind.Field K] {en : K → Int32} {lg pr : Nat → Int32} (hE : Enc en) {n c : Nat} (hn : n ≤ 32) (hc : c < n) (A : Nat → K) (kh : Int32 → Int32 → (Nat → Int32) → (Nat → Int32) → Option (Int32 × (Nat → Int32) × (Nat → Int32))) (sol : Nat → Int32) :
    ∀ fu r, r ≤ n → n - r < fu → ∃ p, r ≤ p ∧ p ≤ n ∧ (∀ i, r ≤ i → i < p → mat A i c = 0) ∧ (p < n → mat A p c ≠ 0) ∧ f_Mo_solves_9 lg pr kh fu (nI n) (nI c) (nI r) (ea en A) sol = f_Mo_solves_34 lg pr kh (nI n) (nI c) (nI p) (ea en A) sol := by
  intro fu
  induction fu with
  | zero => intro r h1 h2; omega
  | succ fu ih =>
    intro r h1 h2
    show ∃ p, r ≤ p ∧ p ≤ n ∧ _ ∧ _ ∧ f_Mo_solves_9_b _ _ _ _ _ _ _ _ _ = _
    unfold f_Mo_solves_9_b
    by_cases e : r = n
    · refine ⟨r, by omega, by omega, fun i h3 h4 => by omega, fun h => by omega, by rw [if_pos (nI_le (by omega) (by omega))]⟩
    · rw [if_neg (nI_ge (by omega) (by omega)), ix33, ea_rd (by omega) (by decide)]
      by_cases hz : A (33 * r + c) = 0
      · obtain ⟨p, p1, p2, p3, p4, p5⟩ := ih (r + 1) (by omega) (by omega)
        refine ⟨p, by omega, p2, fun i h3 h4 => ?_, p4, ?_⟩
        · by_cases e2 : i = r
          · rw [e2]; exact hz
          · exact p3 i (by omega) h4
        · rw [if_pos (by rw [hz]; exact hE.1), q_nm, nI_1]
          exact p5
      · refine ⟨r, by omega, by omega, fun i h3 h4 => by omega, fun _ => hz, by rw [if_neg (fun h => hz (hE.2.2.1 _ h))]⟩
theorem s_cp {K : Type} {en : K → Int32} {n : Nat} (hn : n ≤ 32) (A : Nat → K) :
    ∀ fu r (s : Nat → K), r ≤ n → n - r < fu → ∃ s', f_Mo_solves_273 fu (nI n) (nI r) (ea en A) (ea en s) = some (1, ea en A, ea en s') ∧ (∀ i, i < n → s' i = if r ≤ i then mat A i n else s i) := by
  intro fu
  induction fu with
  | zero => intro r s h1 h2; omega
  | succ fu ih =>
    intro r s h1 h2
    show ∃ s', f_Mo_solves_273_b _ _ _ _ _ = _ ∧ _
    unfold f_Mo_solves_273_b
    by_cases e : r = n
    · refine ⟨s, by rw [if_pos (nI_le (by omega) (by omega)), q_zb1], fun i hi => by rw [if_neg (by omega)]⟩
    · rw [if_neg (nI_ge (by omega) (by omega)), ix33, ea_rd (by omega) (by decide), ea_wr (by omega) (by decide), q_nm, nI_1]
      obtain ⟨s', h3, h4⟩ := ih (r + 1) (ud s r (A (33 * r + n))) (by omega) (by omega)
      refine ⟨s', h3, fun i hi => ?_⟩
      rw [h4 i hi]
      by_cases e2 : i = r
      · subst e2
        rw [if_neg (by omega), if_pos (by omega), ud_s]; rfl
      · rw [ud_n _ _ e2]
        by_cases e3 : r ≤ i
        · rw [if_pos e3, if_pos (by omega)]
        · rw [if_neg e3, if_neg (by omega)]
theorem ker_congr {K : Type} [Lean.Grind.Field K] {n : Nat} {M M' : Nat → Nat → K} (h : ∀ r, r < n → ∀ i, i ≤ n → M r i = M' r i) (y : Nat → K) : Ker n M y ↔ Ker n M' y := by
  have e : ∀ r, r < n → sm (fun c => M r c * y c) (n + 1) = sm (fun c => M' r c * y c) (n + 1) := by
    intro r hr
    apply sm_congr
    intro i hi
    show M r i * y i = M' r i * y i
    rw [h r hr i (by omega)]
  constructor
  · intro h1 r hr; rw [← e r hr]; exact h1 r hr
  · intro h1 r hr; rw [e r hr]; exact h1 r hr
theorem s_main {K : Type} [Lean.Grind.Field K] {en : K → Int32} {g : K} {lg pr : Nat → Int32} (hE : Enc en) (hF : FldM en g lg pr) {n : Nat} (hn : n ≤ 32) (s : Nat → K) :
    ∀ fu c (A : Nat → K), c ≤ n → n - c < fu → Unit n (mat A) c → ∃ b A' s', f_Mo_solves_2 lg pr fu (nI n) (nI c) (ea en A) (ea en s) = some (b, ea en A', ea en s') ∧ ((b = 1 ∧ ∀ y, y n = 1 → (Ker n (mat A) y ↔ ∀ r, r < n → y r = s' r)) ∨ (b = 0 ∧ ∃ y, Ker n (mat A) y ∧ y n = 0 ∧ ∃ i, i < n ∧ y i ≠ 0)) := by
  have h2 := hE.2.2.2.2.2.2.1
  intro fu
  induction fu with
  | zero => intro c A h1 h3; omega
  | succ fu ih =>
    intro c A h1 h3 hU
    show ∃ b A' s', f_Mo_solves_2_b _ _ _ _ _ _ _ = _ ∧ _
    unfold f_Mo_solves_2_b
    by_cases e : c = n
    · rw [if_pos (nI_le (by omega) (by omega))]
      subst e
      obtain ⟨s', h4, h5⟩ := s_cp (en := en) hn A 10000 0 s (by omega) (by omega)
      rw [nI_0] at h4
      refine ⟨1, A, s', h4, Or.inl ⟨rfl, fun y hy => ?_⟩⟩
      rw [gs_done h2 hU y hy]
      constructor
      · intro h r hr; rw [h r hr, h5 r hr, if_pos (by omega)]
      · intro h r hr; rw [h r hr, h5 r hr, if_pos (by omega)]
    · rw [if_neg (nI_ge (by omega) (by omega))]
      obtain ⟨p, p1, p2, p3, p4, p5⟩ := s_find (lg := lg) (pr := pr) hE hn (c := c) (by omega) A (f_Mo_solves_2 lg pr fu) (ea en s) 10000 c (by omega) (by omega)
      rw [p5]
      unfold f_Mo_solves_34
      by_cases hpn : p = n
      · rw [if_pos (by rw [hpn]), q_zb0]
        obtain ⟨y, y1, y2, y3⟩ := gs_none h2 (M := mat A) (n := n) (c := c) (by omega) (fun r h4 h5 => p3 r h4 (by omega)) hU
        refine ⟨0, A, s, rfl, Or.inr ⟨rfl, y, y1, y2, c, by omega, fun h => ?_⟩⟩
        rw [y3] at h
        exact Lean.Grind.Field.zero_ne_one h.symm
      · rw [if_neg (by rw [nI_eq (by omega) (by omega)]; exact hpn)]
        have hne := p4 (by omega)
        obtain ⟨A1, a1, a2⟩ := s_sw (en := en) (lg := lg) (pr := pr) hn (c := c) (p := p) (by omega) (by omega) (f_Mo_solves_2 lg pr fu) (ea en s) 10000 0 A (by omega) (by omega)
        rw [nI_0] at a1
        rw [a1]
        unfold f_Mo_solves_108
        have hcc : mat A1 c c = mat A p c := by rw [a2 c (by omega) c (by omega), if_pos (by omega), if_pos rfl]
        have hcc2 : A1 (33 * c + c) = mat A p c := hcc
        rw [ix33, ea_rd (by omega) (by decide), hF.2.1 _ (by rw [hcc2]; exact hne), q_bd, q_nm, hcc2]
        obtain ⟨A2, b1, b2⟩ := s_sc hF hn (c := c) (by omega) (mat A p c)⁻¹ (f_Mo_solves_2 lg pr fu) (ea en s) 10000 0 A1 (by omega) (by omega)
        rw [nI_0] at b1
        rw [b1]
        unfold f_Mo_solves_170
        obtain ⟨A3, c1, c2⟩ := s_el hE hF hn (c := c) (by omega) (f_Mo_solves_2 lg pr fu) (ea en s) 10000 0 A2 (by omega) (by omega)
        rw [nI_0] at c1
        rw [c1]
        unfold f_Mo_solves_265
        rw [q_nm, nI_1]
        have hm : ∀ r, r < n → ∀ i, i ≤ n → gst (mat A) c p r i = mat A3 r i := by
          intro r hr i hi
          unfold gst
          rw [c2 i hi r hr]
          by_cases hrc : r = c
          · subst hrc
            rw [if_pos rfl, if_neg (by omega), b2 i hi r hr, if_pos ⟨rfl, by omega⟩, a2 i hi r hr, if_pos (by omega), if_pos rfl]
          · have q1 : mat A2 r i = if r = p then mat A c i else mat A r i := by rw [b2 i hi r hr, if_neg (fun h => hrc h.1), a2 i hi r hr, if_pos (Nat.zero_le _), if_neg hrc]
            have q2 : mat A2 r c = if r = p then mat A c c else mat A r c := by rw [b2 c (by omega) r hr, if_neg (fun h => hrc h.1), a2 c (by omega) r hr, if_pos (Nat.zero_le _), if_neg hrc]
            have q3 : mat A2 c i = mat A p i * (mat A p c)⁻¹ := by rw [b2 i hi c (by omega), if_pos ⟨rfl, Nat.zero_le _⟩, a2 i hi c (by omega), if_pos (Nat.zero_le _), if_pos rfl]
            have q4 : r ≠ c ∧ 0 ≤ r := ⟨hrc, Nat.zero_le _⟩
            rw [if_neg hrc, q1, q2, q3, if_pos q4]
        have hU3 : Unit n (mat A3) (c + 1) := by
          have := gs_unit h2 (n := n) (M := mat A) (c := c) (p := p) (by omega) (by omega) p1 hne hU
          intro k hk r hr
          rw [← hm r hr k (by omega)]
          exact this k hk r hr
        obtain ⟨b, A', s', d1, d2⟩ := ih (c + 1) A3 (by omega) (by omega) hU3
        have hk : ∀ y, Ker n (mat A) y ↔ Ker n (mat A3) y := fun y => (gs_ker h2 (n := n) (c := c) (p := p) (by omega) (by omega) hne y).symm.trans (ker_congr hm y)
        refine ⟨b, A', s', d1, ?_⟩
        rcases d2 with ⟨rfl, d2⟩ | ⟨rfl, y, d2, d3⟩
        · exact Or.inl ⟨rfl, fun y hy => (hk y).trans (d2 y hy)⟩
        · exact Or.inr ⟨rfl, y, (hk y).mpr d2, d3⟩
/-- the reference's solves: the one solution, or two -/
theorem m_sv {K : Type} [Lean.Grind.Field K] {en : K → Int32} {g : K} {lg pr : Nat → Int32} (hE : Enc en) (hF : FldM en g lg pr) {n : Nat} (hn : n ≤ 32) (A s : Nat → K) : ∃ b A' s', f_Mo_solves (ea en A) (ea en s) lg pr (nI n) = some (b, ea en A', ea en s') ∧ ((b = 1 ∧ ∀ y, y n = 1 → (Ker n (mat A) y ↔ ∀ r, r < n → y r = s' r)) ∨ (b = 0 ∧ ∃ y, Ker n (mat A) y ∧ y n = 0 ∧ ∃ i, i < n ∧ y i ≠ 0)) :=
  s_main hE hF hn s 10000 0 A (by omega) (by omega) (fun k hk => by omega)
end
