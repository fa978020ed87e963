/-! PURE PART: the class's generator and check bytes -/
section
/-- the class's tables make it the field's arithmetic -/
def FldC {K : Type} [Lean.Grind.Field K] (en : K → Int32) (g : K) (lg pr : AR) : Prop := (∀ a b, f_Field_product lg pr (en a) (en b) = some (en (a * b))) ∧ (∀ a b, b ≠ 0 → f_Field_quotient lg pr (en a) (en b) = some (en (a * b⁻¹))) ∧ (∀ k, k < 2 ^ 20 → f_Field_powerOfG pr (nI k) = some (en (pw g k))) ∧ (∀ k, k < 2 ^ 20 → f_Field_powerOfG pr (-(nI k)) = some (en ((pw g k)⁻¹)))
theorem fi_lp {n : Nat} (hn : n < 10000) (v : Int32) : ∀ fu k (f : AR), k ≤ n → n - k < fu → ∃ f', f_Arrays_fillI_5 n fu v (nI k) (nI n) f = some f' ∧ ∀ i, f' i = if k ≤ i ∧ i < n then v else f i := by
  intro fu
  induction fu with
  | zero => intro k f h1 h2; omega
  | succ fu ih =>
    intro k f h1 h2
    show ∃ f', f_Arrays_fillI_5_b _ _ _ _ _ _ = _ ∧ _
    unfold f_Arrays_fillI_5_b
    by_cases e : k = n
    · rw [if_pos (nI_le (by omega) (by omega))]
      exact ⟨f, rfl, fun i => by rw [if_neg (by omega)]⟩
    · rw [if_neg (nI_ge (by omega) (by omega)), q_wrI (by omega) (by omega), q_nm, nI_1]
      obtain ⟨f', h3, h4⟩ := ih (k + 1) (upd f k v) (by omega) (by omega)
      refine ⟨f', h3, fun i => ?_⟩
      rw [h4 i]
      by_cases e2 : i = k
      · subst e2
        rw [if_neg (by omega), if_pos ⟨by omega, by omega⟩, pk_us]
      · rw [pk_un e2]
        by_cases e3 : k ≤ i ∧ i < n
        · rw [if_pos e3, if_pos ⟨by omega, e3.2⟩]
        · rw [if_neg e3, if_neg (by omega)]
theorem fi_I {n : Nat} (hn : n < 10000) (v : Int32) (f : AR) : f_Arrays_fillI f n v = some (fun i => if i < n then v else f i) := by
  unfold f_Arrays_fillI
  rw [q_nm]
  obtain ⟨f', h1, h2⟩ := fi_lp hn v 10000 0 f (by omega) (by omega)
  rw [nI_0] at h1
  rw [h1]
  congr 1
  funext i
  rw [h2 i]
  by_cases e : i < n
  · rw [if_pos e, if_pos ⟨by omega, e⟩]
  · rw [if_neg e, if_neg (by omega)]
theorem fi_0 {K : Type} [Lean.Grind.Field K] {en : K → Int32} (hE : Enc en) {n : Nat} (hn : n < 10000) (A : Nat → K) : f_Arrays_fillI (ea en A) n 0 = some (ea en (fun i => if i < n then 0 else A i)) := by
  rw [fi_I hn]
  congr 1
  funext i
  show (if i < n then 0 else en (A i)) = en (if i < n then 0 else A i)
  by_cases e : i < n
  · rw [if_pos e, if_pos e, hE.1]
  · rw [if_neg e, if_neg e]
theorem p_in {K : Type} [Lean.Grind.Field K] {en : K → Int32} {g : K} {lg pr : AR} (hE : Enc en) (hF : FldC en g lg pr) {b i : Nat} (hi : i < 32) (kh : Int32 → Int32 → AR → Option AR) (x1 x2 : Int32) :
    ∀ m fu (G : Nat → K), m ≤ i + 1 → m < fu → (∀ k, k < 33 → G k = if m < k then gnp g b (i + 1) k else gnp g b i k) → ∃ G', f_Words_prepare_58 pr lg kh fu x1 x2 (en (pw g (b + i))) (nI m) (ea en G) = f_Words_prepare_101 pr lg kh x1 x2 (en (pw g (b + i))) (ea en G') ∧ ∀ k, k < 33 → G' k = if 0 < k then gnp g b (i + 1) k else gnp g b i k := by
  intro m
  induction m with
  | zero =>
    intro fu G h1 h2 h3
    obtain ⟨f, rfl⟩ : ∃ f, fu = f + 1 := ⟨fu - 1, by omega⟩
    show ∃ G', f_Words_prepare_58_b _ _ _ _ _ _ _ _ _ = _ ∧ _
    unfold f_Words_prepare_58_b
    rw [if_pos (show nI 0 ≤ 0 by decide)]
    exact ⟨G, rfl, h3⟩
  | succ m ih =>
    intro fu G h1 h2 h3
    obtain ⟨f, rfl⟩ : ∃ f, fu = f + 1 := ⟨fu - 1, by omega⟩
    show ∃ G', f_Words_prepare_58_b _ _ _ _ _ _ _ _ _ = _ ∧ _
    unfold f_Words_prepare_58_b
    rw [if_neg (nI_nle (by omega) (by omega)), nI_pred, ea_rd (by omega) (by decide), ea_rd (by omega) (by decide), hF.1, q_bd, q_nm, hE.2.2.2.1, ea_wr (by omega) (by decide), q_nm, pk_m1]
    refine ih f _ (by omega) (by omega) (fun k hk => ?_)
    by_cases e : k = m + 1
    · subst e
      rw [ud_s, if_pos (by omega), h3 m (by omega), if_neg (by omega), h3 (m + 1) (by omega), if_neg (by omega)]
      show _ = sh (gnp g b i) (m + 1) + gnp g b i (m + 1) * pw g (b + i)
      unfold sh
      rw [if_neg (by omega), show m + 1 - 1 = m by omega]
    · rw [ud_n _ _ e, h3 k hk]
      by_cases e2 : m + 1 < k
      · rw [if_pos e2, if_pos (by omega)]
      · rw [if_neg e2, if_neg (by omega)]
theorem p_out {K : Type} [Lean.Grind.Field K] {en : K → Int32} {g : K} {lg pr : AR} (hE : Enc en) (hF : FldC en g lg pr) {E : Nat} (hE2 : E ≤ 16) :
    ∀ fu i (G : Nat → K), i ≤ 2 * E → 2 * E - i < fu → (∀ k, k < 33 → G k = gnp g (128 - E) i k) → ∃ G', f_Words_prepare_27 (nI E) pr lg fu (nI (2 * E)) (nI i) (ea en G) = some (ea en G') ∧ ∀ k, k < 33 → G' k = gnp g (128 - E) (2 * E) k := by
  intro fu
  induction fu with
  | zero => intro i G h1 h2; omega
  | succ fu ih =>
    intro i G h1 h2 h3
    show ∃ G', f_Words_prepare_27_b _ _ _ _ _ _ _ = _ ∧ _
    unfold f_Words_prepare_27_b
    by_cases e : i = 2 * E
    · rw [if_pos (nI_le (by omega) (by omega))]
      exact ⟨G, rfl, e ▸ h3⟩
    · rw [if_neg (nI_ge (by omega) (by omega)), show (128 : Int32) - nI E + nI i = nI (128 - E + i) by rw [show (128 : Int32) = nI 128 from rfl, pk_sub (by omega), nI_add], hF.2.2.1 _ (by omega), q_bd, q_nm, q_nm, nI_1]
      obtain ⟨G1, a1, a2⟩ := p_in hE hF (b := 128 - E) (i := i) (by omega) (f_Words_prepare_27 (nI E) pr lg fu) (nI (2 * E)) (nI i) (i + 1) 10000 G (by omega) (by omega) (fun k hk => by
        rw [h3 k hk]
        by_cases e2 : i + 1 < k
        · rw [if_pos e2, gnp_far _ _ _ k (by omega), gnp_far _ _ _ k (by omega)]
        · rw [if_neg e2])
      rw [a1]
      unfold f_Words_prepare_101
      rw [← nI_0, ea_rd (by omega) (by decide), hF.1, q_bd, q_nm, ea_wr (by omega) (by decide), q_nm, nI_1]
      refine ih (i + 1) _ (by omega) (by omega) (fun k hk => ?_)
      by_cases e2 : k = 0
      · subst e2
        rw [ud_s, a2 0 (by omega), if_neg (by omega)]
        show _ = sh (gnp g (128 - E) i) 0 + gnp g (128 - E) i 0 * pw g (128 - E + i)
        unfold sh
        rw [if_pos rfl]
        grind
      · rw [ud_n _ _ e2, a2 k hk, if_pos (by omega)]
/-- the class's generator -/
def GenOK {K : Type} [Lean.Grind.Field K] (en : K → Int32) (g : K) (E : Nat) (gn : AR) : Prop := ∃ G, gn = ea en G ∧ ∀ k, k < 33 → G k = gnp g (128 - E) (2 * E) k
theorem c_prep {K : Type} [Lean.Grind.Field K] {en : K → Int32} {g : K} {lg pr : AR} (hE : Enc en) (hF : FldC en g lg pr) {E : Nat} (hE2 : E ≤ 16) (G : Nat → K) : ∃ gn, f_Words_prepare (nI E) (ea en G) pr lg = some gn ∧ GenOK en g E gn := by
  unfold f_Words_prepare
  rw [q_nm, fi_0 hE (by omega), q_bd, q_nm, ← hE.2.1, show (2 : Int32) * nI E = nI (2 * E) from pk_mul 2 E, ← nI_0, ea_wr (by omega) (by decide)]
  obtain ⟨G', h1, h2⟩ := p_out hE hF hE2 10000 0 (ud (fun i => if i < 33 then 0 else G i) 0 1) (by omega) (by omega) (fun k hk => by
    show _ = if k = 0 then (1 : K) else 0
    by_cases e : k = 0
    · rw [e, ud_s, if_pos rfl]
    · rw [ud_n _ _ e, if_pos hk, if_neg e])
  exact ⟨_, h1, G', rfl, h2⟩
theorem fld_el {K : Type} {en fo : K → Int32} {el fm : AR} (h : Frm en fo el fm) (a : K) : f_Field_element el (fo a) = some (en a) := by
  obtain ⟨n, h1, h2, h3⟩ := h.1 a
  unfold f_Field_element
  rw [h2, pk_andN (by omega) 8 (by decide), Nat.mod_eq_of_lt h1, q_rdI h1 (by decide), h3]
theorem fld_of {K : Type} {en fo : K → Int32} {el fm : AR} (h : Frm en fo el fm) (a : K) : f_Field_otherForm fm (en a) = some (fo a) := by
  obtain ⟨n, h1, h2, h3⟩ := h.2 a
  unfold f_Field_otherForm
  rw [h2, pk_andN (by omega) 8 (by decide), Nat.mod_eq_of_lt h1, q_rdI h1 (by decide), h3]
abbrev C2 : Type := Option (AR × AR)
theorem r_in {K : Type} [Lean.Grind.Field K] {en : K → Int32} {g : K} {lg pr : AR} (hE : Enc en) (hF : FldC en g lg pr) {n : Nat} (hn : n ≤ 32) (G : Nat → K) (R0 : Nat → K) (ld : K) (kh : Int32 → Int32 → Int32 → Int32 → AR → AR → C2) (x2 x3 x4 x5 : Int32) (by_ : AR) :
    ∀ m fu (R : Nat → K), m < n → m < fu → (∀ k, k < n → R k = if m < k then R0 (k - 1) + ld * G k else R0 k) → ∃ R', f_Words_addChecksOfWord_76 (ea en G) lg pr kh fu x2 x3 x4 x5 (en ld) (nI m) (ea en R) by_ = f_Words_addChecksOfWord_120 (ea en G) lg pr kh x2 x3 x4 x5 (en ld) (ea en R') by_ ∧ ∀ k, k < n → R' k = if 0 < k then R0 (k - 1) + ld * G k else R0 k := by
  intro m
  induction m with
  | zero =>
    intro fu R h1 h2 h3
    obtain ⟨f, rfl⟩ : ∃ f, fu = f + 1 := ⟨fu - 1, by omega⟩
    show ∃ R', f_Words_addChecksOfWord_76_b _ _ _ _ _ _ _ _ _ _ _ _ _ = _ ∧ _
    unfold f_Words_addChecksOfWord_76_b
    rw [if_pos (show nI 0 ≤ 0 by decide)]
    exact ⟨R, rfl, h3⟩
  | succ m ih =>
    intro fu R h1 h2 h3
    obtain ⟨f, rfl⟩ : ∃ f, fu = f + 1 := ⟨fu - 1, by omega⟩
    show ∃ R', f_Words_addChecksOfWord_76_b _ _ _ _ _ _ _ _ _ _ _ _ _ = _ ∧ _
    unfold f_Words_addChecksOfWord_76_b
    rw [if_neg (nI_nle (by omega) (by omega)), nI_pred, ea_rd (by omega) (by decide), ea_rd (by omega) (by decide), hF.1, q_bd, q_nm, hE.2.2.2.1, ea_wr (by omega) (by decide), q_nm, pk_m1]
    refine ih f _ (by omega) (by omega) (fun k hk => ?_)
    by_cases e : k = m + 1
    · subst e
      rw [ud_s, if_pos (by omega), h3 m (by omega), if_neg (by omega), show m + 1 - 1 = m by omega]
    · rw [ud_n _ _ e, h3 k hk]
      by_cases e2 : m + 1 < k
      · rw [if_pos e2, if_pos (by omega)]
      · rw [if_neg e2, if_neg (by omega)]
theorem ix_c (k D j : Nat) : nI k * nI D + nI j = nI (D * k + j) := by rw [pk_mul, nI_add, Nat.mul_comm]
theorem r_out {K : Type} [Lean.Grind.Field K] {en fo : K → Int32} {g : K} {lg pr el fm : AR} (hE : Enc en) (hF : FldC en g lg pr) (hf : Frm en fo el fm) {D o n j nb : Nat} (hn0 : 1 ≤ n) (hn : n ≤ 32) (ho : o ≤ 255) (hj : j < D) (hb : D * (o + n) ≤ nb) (hnb : nb ≤ 10000) (G : Nat → K) (Y : Nat → K) :
    ∀ fu t (R : Nat → K), t ≤ o → o - t < fu → (∀ k, k < n → R k = rmd G n (fun k => Y (D * k + j)) t k) → ∃ R', f_Words_addChecksOfWord_32 (nI D) fm el (ea en G) lg pr nb fu (nI j) (nI n) (nI o) (nI t) (ea en R) (ea fo Y) = f_Words_addChecksOfWord_147 (nI D) fm nb (nI j) (nI n) (nI o) (ea en R') (ea fo Y) ∧ ∀ k, k < n → R' k = rmd G n (fun k => Y (D * k + j)) o k := by
  intro fu
  induction fu with
  | zero => intro t R h1 h2; omega
  | succ fu ih =>
    intro t R h1 h2 h3
    show ∃ R', f_Words_addChecksOfWord_32_b _ _ _ _ _ _ _ _ _ _ _ _ _ _ = _ ∧ _
    unfold f_Words_addChecksOfWord_32_b
    by_cases e : t = o
    · rw [if_pos (nI_le (by omega) (by omega))]
      exact ⟨R, rfl, e ▸ h3⟩
    · have hlt := ix_lt (D := D) (W := o + n) (k := t) (j := j) (by omega) hj
      obtain ⟨n1, rfl⟩ : ∃ n1, n = n1 + 1 := ⟨n - 1, by omega⟩
      rw [if_neg (nI_ge (by omega) (by omega)), nI_pred, ea_rd (by omega) (by decide), ix_c, ea_rd (by omega) (by omega), fld_el hf, q_bd, q_nm, hE.2.2.2.1, q_nm, q_nm]
      obtain ⟨R1, a1, a2⟩ := r_in hE hF (n := n1 + 1) hn G R (R n1 + Y (D * t + j)) (f_Words_addChecksOfWord_32 (nI D) fm el (ea en G) lg pr nb fu) (nI j) (nI (n1 + 1)) (nI o) (nI t) (ea fo Y) n1 10000 R (by omega) (by omega) (fun k hk => by rw [if_neg (by omega)])
      rw [a1]
      unfold f_Words_addChecksOfWord_120
      rw [← nI_0, ea_rd (by omega) (by decide), hF.1, q_bd, q_nm, ea_wr (by omega) (by decide), q_nm, nI_1]
      refine ih (t + 1) _ (by omega) (by omega) (fun k hk => ?_)
      show _ = if k < n1 + 1 then sh (rmd G (n1 + 1) (fun k => Y (D * k + j)) t) k + (rmd G (n1 + 1) (fun k => Y (D * k + j)) t (n1 + 1 - 1) + Y (D * t + j)) * G k else 0
      rw [if_pos hk, show n1 + 1 - 1 = n1 by omega, ← h3 n1 (by omega)]
      unfold sh
      by_cases e2 : k = 0
      · subst e2
        rw [ud_s, if_pos rfl]
        grind
      · rw [ud_n _ _ e2, a2 k hk, if_pos (by omega), if_neg e2, ← h3 (k - 1) (by omega)]
theorem r_put {K : Type} {en fo : K → Int32} {el fm : AR} (hf : Frm en fo el fm) {D o n j nb : Nat} (hn : n ≤ 32) (ho : o ≤ 255) (hj : j < D) (hb : D * (o + n) ≤ nb) (hnb : nb ≤ 10000) (R : Nat → K) :
    ∀ fu k (Y : Nat → K), k ≤ n → n - k < fu → ∃ Y', f_Words_addChecksOfWord_150 (nI D) fm nb fu (nI j) (nI n) (nI o) (nI k) (ea en R) (ea fo Y) = some (ea en R, ea fo Y') ∧ (∀ i, k ≤ i → i < n → Y' (D * (o + i) + j) = R (n - 1 - i)) ∧ (∀ q, (∀ i, k ≤ i → i < n → q ≠ D * (o + i) + j) → Y' q = Y q) := by
  intro fu
  induction fu with
  | zero => intro k Y h1 h2; omega
  | succ fu ih =>
    intro k Y h1 h2
    show ∃ Y', f_Words_addChecksOfWord_150_b _ _ _ _ _ _ _ _ _ _ = _ ∧ _ ∧ _
    unfold f_Words_addChecksOfWord_150_b
    by_cases e : k = n
    · rw [if_pos (nI_le (by omega) (by omega))]
      exact ⟨Y, rfl, fun i h3 h4 => by omega, fun q _ => rfl⟩
    · have hlt := ix_lt (D := D) (W := o + n) (k := o + k) (j := j) (by omega) hj
      rw [if_neg (nI_ge (by omega) (by omega)), q_nm, nI_add, ix_c, show nI n - 1 - nI k = nI (n - 1 - k) by rw [show (1 : Int32) = nI 1 from rfl, pk_sub (by omega), pk_sub (by omega)], ea_rd (by omega) (by decide), fld_of hf, q_bd, q_nm, ea_wr (by omega) (by omega), q_nm, nI_1]
      obtain ⟨Y', h3, h4, h5⟩ := ih (k + 1) (ud Y (D * (o + k) + j) (R (n - 1 - k))) (by omega) (by omega)
      have hne : ∀ i, k + 1 ≤ i → i < n → D * (o + k) + j ≠ D * (o + i) + j := by
        intro i h6 h7
        have : D * (o + k + 1) ≤ D * (o + i) := Nat.mul_le_mul_left _ (by omega)
        rw [Nat.mul_add D (o + k) 1] at this
        omega
      refine ⟨Y', h3, fun i h6 h7 => ?_, fun q hq => ?_⟩
      · by_cases e2 : i = k
        · subst e2
          rw [h5 _ hne, ud_s]
        · exact h4 i (by omega) h7
      · rw [h5 q (fun i h6 h7 => hq i (by omega) h7), ud_n _ _ (hq k (by omega) (by omega))]
/-- the class gives one word its check bytes -/
theorem c_add1 {K : Type} [Lean.Grind.Field K] {en fo : K → Int32} {g : K} {lg pr el fm gn : AR} (hE : Enc en) (hF : FldC en g lg pr) (hf : Frm en fo el fm) {D F E j nb : Nat} (hF2 : F ≤ 250) (hE1 : 1 ≤ E) (hE2 : E ≤ 16) (hEW : 2 * E < 255 - F) (hj : j < D) (hb : D * (255 - F) ≤ nb) (hnb : nb ≤ 10000) (hgn : GenOK en g E gn) (R Y : Nat → K) :
    ∃ R' Y', f_Words_addChecksOfWord (nI D) (nI (255 - F)) (nI E) (ea en R) fm (ea fo Y) el gn lg pr nb (nI j) = some (ea en R', ea fo Y') ∧ Laid g (255 - F) E 0 D j Y Y' := by
  have h2 : ∀ x : K, x + x = 0 := hE.2.2.2.2.2.2.1
  obtain ⟨G, rfl, hG⟩ := hgn
  unfold f_Words_addChecksOfWord
  rw [q_nm, q_nm, fi_0 hE (by omega), q_bd, q_nm, show (2 : Int32) * nI E = nI (2 * E) from pk_mul 2 E, pk_sub (by omega)]
  have hWn : 255 - F - 2 * E + 2 * E = 255 - F := by omega
  obtain ⟨R1, a1, a2⟩ := r_out hE hF hf (o := 255 - F - 2 * E) (n := 2 * E) (j := j) (nb := nb) (D := D) (by omega) (by omega) (by omega) hj (by rw [hWn]; exact hb) hnb G Y 10000 0 (fun i => if i < 32 then 0 else R i) (by omega) (by omega) (fun k hk => by
    show _ = (0 : K)
    rw [if_pos (by omega)])
  rw [nI_0] at a1
  rw [a1]
  unfold f_Words_addChecksOfWord_147
  obtain ⟨Y', b1, b2, b3⟩ := r_put (en := en) hf (o := 255 - F - 2 * E) (n := 2 * E) (j := j) (nb := nb) (D := D) (by omega) (by omega) hj (by rw [hWn]; exact hb) hnb R1 10000 0 Y (by omega) (by omega)
  rw [nI_0] at b1
  refine ⟨_, _, b1, fun m hm => ?_, fun q hq => ?_⟩
  · have hcg := chk_g h2 g (W := 255 - F) (E := E) (b := 128 - E) (by omega) (by omega) (fun k => Y (D * k + j)) m hm
    have hrm : ∀ t k, k < 2 * E → rmd G (2 * E) (fun k => Y (D * k + j)) t k = rmd (gnp g (128 - E) (2 * E)) (2 * E) (fun k => Y (D * k + j)) t k := by
      intro t
      induction t with
      | zero => intro k hk; rfl
      | succ t ih =>
        intro k hk
        show (if k < 2 * E then sh (rmd G (2 * E) (fun k => Y (D * k + j)) t) k + (rmd G (2 * E) (fun k => Y (D * k + j)) t (2 * E - 1) + Y (D * t + j)) * G k else 0) = (if k < 2 * E then sh (rmd (gnp g (128 - E) (2 * E)) (2 * E) (fun k => Y (D * k + j)) t) k + (rmd (gnp g (128 - E) (2 * E)) (2 * E) (fun k => Y (D * k + j)) t (2 * E - 1) + Y (D * t + j)) * gnp g (128 - E) (2 * E) k else 0)
        rw [if_pos hk, if_pos hk, hG k (by omega), ih (2 * E - 1) (by omega)]
        unfold sh
        by_cases e : k = 0
        · rw [if_pos e, if_pos e]
        · rw [if_neg e, if_neg e, ih (k - 1) (by omega)]
    rw [hr_congr _ (fun k hk => ?_)]
    · exact hcg
    · show Y' (0 + D * k + j) = _
      rw [Nat.zero_add]
      by_cases e : k < 255 - F - 2 * E
      · rw [if_pos e]
        exact b3 _ (fun i _ hi h5 => by have := (ix_inj (D := D) (k := k) (k' := 255 - F - 2 * E + i) (j := j) (j' := j) hj hj h5).1; omega)
      · rw [if_neg e]
        have h6 := b2 (k - (255 - F - 2 * E)) (by omega) (by omega)
        rw [show 255 - F - 2 * E + (k - (255 - F - 2 * E)) = k by omega] at h6
        rw [h6, show 2 * E - 1 - (k - (255 - F - 2 * E)) = 255 - F - 1 - k by omega, a2 _ (by omega), hrm _ _ (by omega)]
  · refine b3 q (fun i _ hi h5 => hq (255 - F - 2 * E + i) (by omega) (by omega) ?_)
    rw [Nat.zero_add]
    exact h5
theorem c_adds {K : Type} [Lean.Grind.Field K] {en fo : K → Int32} {g : K} {lg pr el fm gn : AR} (hE : Enc en) (hF : FldC en g lg pr) (hf : Frm en fo el fm) {D F E nb : Nat} (hF2 : F ≤ 250) (hE1 : 1 ≤ E) (hE2 : E ≤ 16) (hEW : 2 * E < 255 - F) (hD : D ≤ 8) (hb : D * (255 - F) ≤ nb) (hnb : nb ≤ 10000) (hgn : GenOK en g E gn) (Y0 : Nat → K) :
    ∀ fu j (R Y : Nat → K), j ≤ D → D - j < fu → LaidTo g (255 - F) E 0 D j Y0 Y → ∃ R' Y', f_Words_addChecks_2 (nI D) (nI (255 - F)) (nI E) fm el gn lg pr nb fu (nI j) (ea en R) (ea fo Y) = some (ea en R', ea fo Y') ∧ LaidTo g (255 - F) E 0 D D Y0 Y' := by
  intro fu
  induction fu with
  | zero => intro j R Y h1 h2; omega
  | succ fu ih =>
    intro j R Y h1 h2 h3
    show ∃ R' Y', f_Words_addChecks_2_b _ _ _ _ _ _ _ _ _ _ _ _ _ = _ ∧ _
    unfold f_Words_addChecks_2_b
    by_cases e : j = D
    · rw [if_pos (nI_le (by omega) (by omega))]
      exact ⟨R, Y, rfl, e ▸ h3⟩
    · rw [if_neg (nI_ge (by omega) (by omega))]
      obtain ⟨R', Y', a1, a2⟩ := c_add1 hE hF hf hF2 hE1 hE2 hEW (j := j) (by omega) hb hnb hgn R Y
      rw [a1, q_bd, q_nm, q_nm, q_nm, nI_1]
      exact ih (j + 1) R' Y' (by omega) (by omega) (laid_step (by omega) h3 a2)
theorem c_addAll {K : Type} [Lean.Grind.Field K] {en fo : K → Int32} {g : K} {lg pr el fm gn : AR} (hE : Enc en) (hF : FldC en g lg pr) (hf : Frm en fo el fm) {D F E nb : Nat} (hF2 : F ≤ 250) (hE1 : 1 ≤ E) (hE2 : E ≤ 16) (hEW : 2 * E < 255 - F) (hD : D ≤ 8) (hb : D * (255 - F) ≤ nb) (hnb : nb ≤ 10000) (hgn : GenOK en g E gn) (R Y : Nat → K) :
    ∃ R' Y', f_Words_addChecks (nI D) (nI (255 - F)) (nI E) (ea en R) fm (ea fo Y) el gn lg pr nb = some (ea en R', ea fo Y') ∧ LaidTo g (255 - F) E 0 D D Y Y' :=
  c_adds hE hF hf hF2 hE1 hE2 hEW hD hb hnb hgn Y 10000 0 R Y (by omega) (by omega) ⟨fun i hi => by omega, fun q _ => rfl⟩
end
