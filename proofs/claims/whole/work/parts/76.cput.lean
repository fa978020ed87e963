/-! PURE PART: the class puts a word right -/
section
theorem or0 (x y : Int32) : x ||| y = 0 ↔ x = 0 ∧ y = 0 := by
  rw [← Int32.toBitVec_inj, ← Int32.toBitVec_inj, ← Int32.toBitVec_inj]
  exact BitVec.or_eq_zero_iff
theorem k_ic_in {K : Type} [Lean.Grind.Field K] {en : K → Int32} {g : K} {lg pr : AR} (hE : Enc en) (hF : FldC en g lg pr) {W : Nat} (hW : W ≤ 250) (w : Nat → K) (x : K) (kh4 : Int32 → Int32 → AR → Option (Int32 × AR)) (x1 x2 : Int32) (vals : AR) :
    ∀ n k, k ≤ W → W - k < n → f_Words_isCodeword_44 (nI W) pr lg (ea en w) kh4 n x1 x2 (en x) (en (hr w x k)) (nI k) vals = f_Words_isCodeword_82 kh4 x1 x2 (en (hr w x W)) vals := by
  intro n
  induction n with
  | zero => intro k h1 h2; omega
  | succ n ih =>
    intro k h1 h2
    show f_Words_isCodeword_44_b _ _ _ _ _ _ _ _ _ _ _ _ = _
    unfold f_Words_isCodeword_44_b
    by_cases e : k = W
    · rw [if_pos (nI_le (by omega) (by omega)), ← e]
    · rw [if_neg (nI_ge (by omega) (by omega)), hF.1, q_bd, q_nm, ea_rd (by omega) (by decide), q_nm, q_nm, hE.2.2.2.1, nI_1]
      exact ih (k + 1) (by omega) (by omega)
theorem k_ic_out {K : Type} [Lean.Grind.Field K] {en : K → Int32} {g : K} {lg pr : AR} (hE : Enc en) (hF : FldC en g lg pr) {W E : Nat} (hW : W ≤ 250) (hE2 : E ≤ 16) (w V : Nat → K) :
    ∀ n m x1, m ≤ 2 * E → 2 * E - m < n → (x1 = 0 ↔ ∀ i, i < m → hr w (pw g (128 - E + i)) W = 0) →
    ∃ fl, f_Words_isCodeword_4 (nI W) (nI E) pr lg (ea en w) n x1 (nI m) (ea en (fun i => if i < m then hr w (pw g (128 - E + i)) W else V i)) = some (fl, ea en (fun i => if i < 2 * E then hr w (pw g (128 - E + i)) W else V i)) ∧ ((fl = 1 ∧ Code g W E (128 - E) w) ∨ (fl = 0 ∧ ¬ Code g W E (128 - E) w)) := by
  intro n
  induction n with
  | zero => intro m x1 h1 h2; omega
  | succ n ih =>
    intro m x1 h1 h2 h3
    show ∃ fl, f_Words_isCodeword_4_b _ _ _ _ _ _ _ _ _ = _ ∧ _
    unfold f_Words_isCodeword_4_b
    rw [show (2 : Int32) * nI E = nI (2 * E) from pk_mul 2 E]
    by_cases e : m = 2 * E
    · rw [if_pos (nI_le (by omega) (by omega))]
      subst e
      unfold f_Words_isCodeword_101
      by_cases c : x1 = 0
      · rw [if_pos c]
        exact ⟨1, q_zb1, Or.inl ⟨rfl, h3.1 c⟩⟩
      · rw [if_neg c]
        exact ⟨0, q_zb0, Or.inr ⟨rfl, fun h => c (h3.2 h)⟩⟩
    · rw [if_neg (nI_ge (by omega) (by omega)), show (128 : Int32) - nI E + nI m = nI (128 - E + m) by rw [show (128 : Int32) = nI 128 from rfl, pk_sub (by omega), nI_add], hF.2.2.1 _ (by omega), q_bd, q_nm]
      have h0 : (0 : Int32) = en (hr w (pw g (128 - E + m)) 0) := hE.1.symm
      have a := k_ic_in hE hF hW w (pw g (128 - E + m)) (f_Words_isCodeword_4 (nI W) (nI E) pr lg (ea en w) n) x1 (nI m) (ea en (fun i => if i < m then hr w (pw g (128 - E + i)) W else V i)) 10000 0 (by omega) (by omega)
      rw [← h0, nI_0] at a
      rw [a]
      unfold f_Words_isCodeword_82
      rw [ea_wr (by omega) (by decide), ud_pre (fun i => hr w (pw g (128 - E + i)) W) V m, q_nm, q_nm, nI_1]
      refine ih (m + 1) _ (by omega) (by omega) ?_
      rw [or0, h3]
      refine ⟨fun ⟨h4, h5⟩ i hi => ?_, fun h => ⟨fun i hi => h i (by omega), by rw [h m (by omega)]; exact hE.1⟩⟩
      by_cases e2 : i = m
      · rw [e2]; exact hE.2.2.1 _ h5
      · exact h4 i (by omega)
theorem k_ic {K : Type} [Lean.Grind.Field K] {en : K → Int32} {g : K} {lg pr : AR} (hE : Enc en) (hF : FldC en g lg pr) {W E : Nat} (hW : W ≤ 250) (hE2 : E ≤ 16) (w V : Nat → K) :
    ∃ fl, f_Words_isCodeword (nI W) (nI E) pr (ea en V) lg (ea en w) = some (fl, ea en (fun i => if i < 2 * E then hr w (pw g (128 - E + i)) W else V i)) ∧ ((fl = 1 ∧ Code g W E (128 - E) w) ∨ (fl = 0 ∧ ¬ Code g W E (128 - E) w)) := by
  have a := k_ic_out hE hF hW hE2 w V 10000 0 0 (by omega) (by omega) ⟨fun _ i hi => by omega, fun _ => rfl⟩
  exact a
theorem k_ms {K : Type} [Lean.Grind.Field K] {en : K → Int32} {g : K} {lg pr : AR} (hE : Enc en) (hF : FldC en g lg pr) {L n : Nat} (hn : n < 32) (P S : Nat → K) :
    ∀ fu k, k ≤ min L n + 1 → min L n + 1 - k < fu → L ≤ 32 → f_Locator_missAt_6 (ea en P) (ea en S) lg pr 32 fu (nI n) (nI L) (en (sm (fun i => P i * S (n - i)) k)) (nI k) = some (en (sm (fun i => P i * S (n - i)) (min L n + 1))) := by
  intro fu
  induction fu with
  | zero => intro k h1 h2; omega
  | succ fu ih =>
    intro k h1 h2 h3
    show f_Locator_missAt_6_b _ _ _ _ _ _ _ _ _ _ = _
    unfold f_Locator_missAt_6_b
    by_cases c1 : L < k
    · rw [if_pos (nI_lt c1 (by omega)), show k = min L n + 1 by omega]
    · rw [if_neg (nI_nlt (by omega) (by omega))]
      by_cases c2 : n < k
      · rw [if_pos (nI_lt c2 (by omega)), show k = min L n + 1 by omega]
      · rw [if_neg (nI_nlt (by omega) (by omega)), ea_rd (by omega) (by decide), pk_sub (by omega), ea_rd (by omega) (by decide), hF.1, q_bd, q_nm, hE.2.2.2.1, q_nm, q_nm, nI_1]
        exact ih (k + 1) (by omega) (by omega) h3
theorem k_miss {K : Type} [Lean.Grind.Field K] {en : K → Int32} {g : K} {lg pr : AR} (hE : Enc en) (hF : FldC en g lg pr) {L n : Nat} (hn : n < 32) (hL : L ≤ 32) (P S : Nat → K) : f_Locator_missAt (ea en P) (ea en S) lg pr 32 (nI n) (nI L) = some (en (sm (fun i => P i * S (n - i)) (min L n + 1))) := by
  have a := k_ms hE hF hn P S 10000 0 (by omega) (by omega) hL
  rw [sm_0, hE.1, nI_0] at a
  exact a
theorem k_ae {K : Type} [Lean.Grind.Field K] {en : K → Int32} {g : K} {lg pr : AR} (hE : Enc en) (hF : FldC en g lg pr) {s : Nat} (hs1 : 1 ≤ s) (hs : s ≤ 40) (q : K) (e : Nat → K) :
    ∀ fu i (P : Nat → K), i ≤ 33 → 33 - i < fu → ∃ P', f_Locator_addEarlier_2 (ea en e) lg pr fu (en q) (nI s) (nI i) (ea en P) = some (ea en P') ∧ ∀ j, P' j = if s + i ≤ j ∧ j < 33 then P j + q * e (j - s) else P j := by
  intro fu
  induction fu with
  | zero => intro i P h1 h2; omega
  | succ fu ih =>
    intro i P h1 h2
    show ∃ P', f_Locator_addEarlier_2_b _ _ _ _ _ _ _ _ = _ ∧ _
    unfold f_Locator_addEarlier_2_b
    rw [nI_add]
    by_cases c : 33 ≤ i + s
    · rw [if_pos (show (33 : Int32) ≤ nI (i + s) from nI_le (a := 33) c (by omega))]
      exact ⟨P, rfl, fun j => by rw [if_neg (by omega)]⟩
    · rw [if_neg (show ¬ (33 : Int32) ≤ nI (i + s) from nI_ge (b := 33) (by omega) (by omega)), q_nm, ea_rd (by omega) (by decide), ea_rd (by omega) (by decide), hF.1, q_bd, q_nm, hE.2.2.2.1, ea_wr (by omega) (by decide), q_nm, nI_1]
      obtain ⟨P', h3, h4⟩ := ih (i + 1) (ud P (i + s) (P (i + s) + q * e i)) (by omega) (by omega)
      refine ⟨P', h3, fun j => ?_⟩
      rw [h4 j]
      by_cases c2 : j = i + s
      · subst c2
        rw [if_neg (by omega), if_pos (by omega), ud_s, show i + s - s = i by omega]
      · rw [ud_n _ _ c2]
        by_cases c3 : s + i ≤ j ∧ j < 33
        · rw [if_pos c3, if_pos (by omega)]
        · rw [if_neg c3, if_neg (by omega)]
theorem q_cp {K : Type} {β : Type} (en : K → Int32) (A B : Nat → K) (k : AR → Option β) : cpI (ea en A) 33 (ea en B) 33 (0 : Int32) (0 : Int32) (33 : Int32) k = k (ea en (fun i => if i < 33 then A i else B i)) := by
  unfold cpI
  rw [if_neg (by decide)]
  congr 1
  funext i
  show va_cpy _ _ 0 0 33 i = en (if i < 33 then A i else B i)
  by_cases h : i < 33
  · rw [if_pos h, pk_cpy_in (by omega) (by omega)]
    show en (A _) = _
    rw [show 0 + (i - 0) = i by omega]
  · rw [if_neg h, pk_cpy_out (by omega)]
    rfl
theorem k_rec {K : Type} [Lean.Grind.Field K] {en : K → Int32} {g : K} {lg pr : AR} (hE : Enc en) (hF : FldC en g lg pr) {E : Nat} (hE2 : E ≤ 16) (S : Nat → K) :
    ∀ fu N L s (P e sp C B : Nat → K) (bb : K), N ≤ 2 * E → 2 * E - N < fu → 1 ≤ s → s ≤ N + 1 → BM S (2 * E) N L C B bb → (∀ j, j < 33 → P j = C j) → (∀ j, j < 33 → B j = if j < s then 0 else e (j - s)) →
    ∃ L' P' e' sp' C' B' bb', f_Locator_findRecurrence_41 (ea en S) lg pr 32 fu (nI (2 * E)) (nI L) (nI s) (en bb) (nI N) (ea en P) (ea en e) (ea en sp) = some (nI L', ea en P', ea en e', ea en sp') ∧ BM S (2 * E) (2 * E) L' C' B' bb' ∧ (∀ j, j < 33 → P' j = C' j) := by
  have h2 : ∀ x : K, x + x = 0 := hE.2.2.2.2.2.2.1
  intro fu
  induction fu with
  | zero => intro N L s P e sp C B bb h1 h2; omega
  | succ fu ih =>
    intro N L s P e sp C B bb h1 h3 hs1 hs2 hB hP hBe
    show ∃ L' P' e' sp' C' B' bb', f_Locator_findRecurrence_41_b _ _ _ _ _ _ _ _ _ _ _ _ _ = _ ∧ _ ∧ _
    unfold f_Locator_findRecurrence_41_b
    by_cases c : N = 2 * E
    · rw [if_pos (nI_le (by omega) (by omega))]
      exact ⟨L, P, e, sp, C, B, bb, rfl, c ▸ hB, hP⟩
    · have hLN := hB.1
      have hmiss : sm (fun i => P i * S (N - i)) (min L N + 1) = cv C S N := by
        unfold cv
        rw [sm_trunc (m := min L N + 1) (n := N + 1) (by omega) (fun i h4 h5 => by rw [hB.2.1.2.1 i (by omega)]; grind)]
        exact sm_congr (fun i hi => by rw [hP i (by omega)])
      rw [if_neg (nI_ge (by omega) (by omega)), k_miss hE hF (by omega) (by omega), hmiss, q_bd, q_nm]
      have hbb := hB.2.2.1
      have hq : (cv C S N * bb⁻¹) * bb = cv C S N := by
        have := Lean.Grind.Field.mul_inv_cancel hbb
        generalize bb⁻¹ = v at this
        grind
      obtain ⟨P1, a1, a2⟩ := k_ae hE hF hs1 (by omega) (cv C S N * bb⁻¹) e 10000 0 P (by omega) (by omega)
      rw [nI_0] at a1
      have hP1 : ∀ j, j < 33 → P1 j = C j - (cv C S N * bb⁻¹) * B j := by
        intro j hj
        rw [a2 j, hBe j hj, hP j hj]
        generalize cv C S N * bb⁻¹ = q
        by_cases c2 : j < s
        · rw [if_neg (by omega), if_pos c2]; grind
        · rw [if_pos (by omega), if_neg c2]
          have := h2 (q * e (j - s))
          grind
      have hsh : ∀ j, j < 33 → sh B j = if j < s + 1 then 0 else e (j - (s + 1)) := by
        intro j hj
        unfold sh
        by_cases c2 : j = 0
        · rw [if_pos c2, if_pos (by omega)]
        · rw [if_neg c2, hBe (j - 1) (by omega)]
          by_cases c3 : j < s + 1
          · rw [if_pos c3, if_pos (by omega)]
          · rw [if_neg c3, if_neg (by omega), show j - 1 - s = j - (s + 1) by omega]
      have hstep : ∀ (sp0 : Nat → K), BM S (2 * E) (N + 1) L (fun i => C i - (cv C S N * bb⁻¹) * B i) (sh B) bb → ∃ L' P' e' sp' C' B' bb', f_Locator_findRecurrence_100 lg pr (f_Locator_findRecurrence_41 (ea en S) lg pr 32 fu) (nI (2 * E)) (nI L) (nI s) (en bb) (nI N) (en (cv C S N)) 0 (ea en P) (ea en e) (ea en sp0) = some (nI L', ea en P', ea en e', ea en sp') ∧ BM S (2 * E) (2 * E) L' C' B' bb' ∧ (∀ j, j < 33 → P' j = C' j) := by
        intro sp0 hB2
        unfold f_Locator_findRecurrence_100 f_Locator_addEarlier
        rw [hF.2.1 _ _ hbb, q_bd, q_nm, a1, q_bd, q_nm, q_nm, if_pos rfl]
        unfold f_Locator_findRecurrence_157
        rw [q_nm, nI_1, nI_1]
        exact ih (N + 1) L (s + 1) P1 e sp0 _ (sh B) bb (by omega) (by omega) (by omega) (by omega) hB2 hP1 hsh
      by_cases c2 : cv C S N = 0
      · rw [if_pos (by rw [c2]; exact hE.1)]
        unfold f_Locator_findRecurrence_74 f_Locator_findRecurrence_75
        rw [if_pos rfl]
        refine hstep sp ?_
        have hz : (fun i => C i - (cv C S N * bb⁻¹) * B i) = C := by
          funext i
          rw [c2]
          grind
        rw [hz]
        exact bm_same hB c2
      · rw [if_neg (fun h => c2 (hE.2.2.1 _ h)), show (2 : Int32) * nI L = nI (2 * L) from pk_mul 2 L]
        by_cases c3 : N < 2 * L
        · rw [if_pos (nI_lt c3 (by omega))]
          unfold f_Locator_findRecurrence_74 f_Locator_findRecurrence_75
          rw [if_pos rfl]
          exact hstep sp (bm_in hB _ hq c3)
        · rw [if_neg (nI_nlt (by omega) (by omega))]
          unfold f_Locator_findRecurrence_75
          rw [if_neg ne10, q_cp]
          unfold f_Locator_findRecurrence_100 f_Locator_addEarlier
          rw [hF.2.1 _ _ hbb, q_bd, q_nm, a1, q_bd, q_nm, q_nm, if_neg ne10, q_cp, q_nm]
          unfold f_Locator_findRecurrence_157
          rw [q_nm, nI_1, pk_sub (by omega)]
          refine ih (N + 1) (N + 1 - L) 1 P1 _ _ _ (sh C) (cv C S N) (by omega) (by omega) (by omega) (by omega) (bm_grow hB (by omega) _ hq c2 (by omega)) hP1 (fun j hj => ?_)
          unfold sh
          by_cases c4 : j = 0
          · rw [if_pos c4, if_pos (by omega)]
          · rw [if_neg c4, if_neg (by omega), if_pos (show j - 1 < 33 by omega), if_pos (show j - 1 < 33 by omega), hP (j - 1) (by omega)]
theorem k_fr {K : Type} [Lean.Grind.Field K] {en : K → Int32} {g : K} {lg pr : AR} (hE : Enc en) (hF : FldC en g lg pr) {E : Nat} (hE2 : E ≤ 16) (S P e sp : Nat → K) :
    ∃ L' P' e' sp' C' B' bb', f_Locator_findRecurrence (ea en P) (ea en e) (ea en S) lg pr (ea en sp) 32 (nI (2 * E)) = some (nI L', ea en P', ea en e', ea en sp') ∧ BM S (2 * E) (2 * E) L' C' B' bb' ∧ (∀ j, j < 33 → P' j = C' j) := by
  unfold f_Locator_findRecurrence
  rw [fi_0 hE (by omega), q_bd, q_nm, fi_0 hE (by omega), q_bd, q_nm]
  have h1 : (1 : Int32) = en 1 := hE.2.1.symm
  have hw : ∀ (A : Nat → K) {β : Type} (k : AR → Option β), wrI (ea en A) 33 (0 : Int32) (1 : Int32) k = k (ea en (ud A 0 1)) := fun A β k => by
    rw [h1]
    exact ea_wr (j := 0) (by omega) (by decide)
  rw [hw, hw]
  have a := k_rec hE hF hE2 S 10000 0 0 1 (ud (fun i => if i < 33 then 0 else P i) 0 1) (ud (fun i => if i < 33 then 0 else e i) 0 1) sp _ _ 1 (by omega) (by omega) (by omega) (by omega) (bm_start S (2 * E)) (fun j hj => by
    by_cases c : j = 0
    · rw [c, ud_s, if_pos rfl]
    · rw [ud_n _ _ c, if_pos hj, if_neg c]) (fun j hj => by
    by_cases c : j = 1
    · rw [c, if_pos rfl, if_neg (by omega), show 1 - 1 = 0 by omega, ud_s]
    · rw [if_neg c]
      by_cases c2 : j < 1
      · rw [if_pos c2]
      · rw [if_neg c2, ud_n _ _ (by omega), if_pos (by omega)])
  rw [hE.2.1] at a
  exact a
theorem k_vl {K : Type} [Lean.Grind.Field K] {en : K → Int32} {g : K} {lg pr : AR} (hE : Enc en) (hF : FldC en g lg pr) {n : Nat} (hn : n < 33) (u : K) (P : Nat → K) :
    ∀ m fu, m ≤ n + 1 → m < fu → f_Locator_valueAt_16 pr lg (ea en P) 33 fu (en u) (en (ev (fun i => P (m + i)) (n + 1 - m) u)) (nI m + (-1)) = some (en (ev P (n + 1) u)) := by
  intro m
  induction m with
  | zero =>
    intro fu h1 h2
    obtain ⟨f, rfl⟩ : ∃ f, fu = f + 1 := ⟨fu - 1, by omega⟩
    show f_Locator_valueAt_16_b _ _ _ _ _ _ _ _ = _
    unfold f_Locator_valueAt_16_b
    rw [if_pos (show nI 0 + (-1) < 0 by decide)]
    have e : (fun i => P (0 + i)) = P := by funext i; rw [Nat.zero_add]
    rw [e, Nat.sub_zero]
  | succ m ih =>
    intro fu h1 h2
    obtain ⟨f, rfl⟩ : ∃ f, fu = f + 1 := ⟨fu - 1, by omega⟩
    show f_Locator_valueAt_16_b _ _ _ _ _ _ _ _ = _
    unfold f_Locator_valueAt_16_b
    rw [pk_m1, if_neg (nI_pos (by omega)), hF.1, q_bd, q_nm, ea_rd (by omega) (by decide), hE.2.2.2.1, q_nm, q_nm]
    rw [← ih f (by omega) (by omega)]
    congr 2
    have e0 : P (m + 0) = P m := rfl
    rw [show n + 1 - m = (n + 1 - (m + 1)) + 1 by omega, ev_head, e0]
    have e : (fun i => P (m + 1 + i)) = (fun i => P (m + (i + 1))) := by
      funext i
      rw [show m + 1 + i = m + (i + 1) by omega]
    rw [e]
    grind
theorem k_val {K : Type} [Lean.Grind.Field K] {en : K → Int32} {g : K} {lg pr : AR} (hE : Enc en) (hF : FldC en g lg pr) {n : Nat} (hn : n < 33) {x : Int32} {u : K} (hx : f_Field_powerOfG pr x = some (en u)) (P : Nat → K) : f_Locator_valueAt pr lg (ea en P) 33 (nI n) x = some (en (ev P (n + 1) u)) := by
  unfold f_Locator_valueAt
  rw [hx, q_bd, q_nm]
  have a := k_vl hE hF hn u P (n + 1) 10000 (by omega) (by omega)
  have e : ev (fun i => P (n + 1 + i)) (n + 1 - (n + 1)) u = 0 := by
    rw [show n + 1 - (n + 1) = 0 by omega]
    rfl
  rw [e, hE.1, pk_m1] at a
  exact a
theorem k_fp {K : Type} [Lean.Grind.Field K] {en : K → Int32} {g : K} {lg pr : AR} (hE : Enc en) (hF : FldC en g lg pr) {W L : Nat} (hW : W ≤ 250) (hL : L ≤ 16) (P : Nat → K) :
    ∀ fu i f (Q : Nat → Nat), i ≤ W → W - i < fu → f ≤ L → PInv (fun k => ev P (L + 1) ((Xl g W k)⁻¹) = 0) i f Q →
    ∃ Q', (f_Locator_findPlaces_5 pr lg (ea en P) fu (nI L) (nI W) (nI f) (nI i) (ea nI Q) = some (0, ea nI Q') ∧ (Many (fun k => ev P (L + 1) ((Xl g W k)⁻¹) = 0) W L ∨ ∃ f', f' < L ∧ PInv (fun k => ev P (L + 1) ((Xl g W k)⁻¹) = 0) W f' Q')) ∨ (f_Locator_findPlaces_5 pr lg (ea en P) fu (nI L) (nI W) (nI f) (nI i) (ea nI Q) = some (1, ea nI Q') ∧ PInv (fun k => ev P (L + 1) ((Xl g W k)⁻¹) = 0) W L Q') := by
  intro fu
  induction fu with
  | zero => intro i f Q h1 h2; omega
  | succ fu ih =>
    intro i f Q h1 h2 h3 h4
    have hst : f_Locator_findPlaces_5 pr lg (ea en P) (fu + 1) (nI L) (nI W) (nI f) (nI i) (ea nI Q) = f_Locator_findPlaces_5_b pr lg (ea en P) (f_Locator_findPlaces_5 pr lg (ea en P) fu) (nI L) (nI W) (nI f) (nI i) (ea nI Q) := rfl
    rw [hst]
    unfold f_Locator_findPlaces_5_b
    by_cases e : i = W
    · rw [if_pos (nI_le (by omega) (by omega))]
      subst e
      unfold f_Locator_findPlaces_54
      by_cases c : f = L
      · rw [if_pos (by rw [c]), q_zb1]
        exact ⟨Q, Or.inr ⟨rfl, c ▸ h4⟩⟩
      · rw [if_neg (by rw [nI_eq (by omega) (by omega)]; exact c), q_zb0]
        exact ⟨Q, Or.inl ⟨rfl, Or.inr ⟨f, by omega, h4⟩⟩⟩
    · have hx : f_Field_powerOfG pr (-((nI W - 1) - nI i)) = some (en ((Xl g W i)⁻¹)) := by
        rw [show nI W - 1 - nI i = nI (W - 1 - i) by rw [show (1 : Int32) = nI 1 from rfl, pk_sub (by omega), pk_sub (by omega)]]
        exact hF.2.2.2 _ (by omega)
      rw [if_neg (nI_ge (by omega) (by omega)), k_val hE hF (by omega) hx, q_bd, q_nm]
      by_cases hz : ev P (L + 1) ((Xl g W i)⁻¹) = 0
      · rw [if_pos (by rw [hz]; exact hE.1)]
        by_cases hf : f = L
        · rw [if_pos (by rw [hf]), q_zb0]
          refine ⟨Q, Or.inl ⟨rfl, Or.inl ⟨ud Q L i, ?_, ?_⟩⟩⟩
          · intro t ht
            have := (pinv_add h4 hz).1 t (by omega)
            rw [hf] at this
            exact ⟨by have := this.1; omega, this.2⟩
          · have := (pinv_add h4 hz).2.1
            rw [hf] at this
            exact this
        · rw [if_neg (by rw [nI_eq (by omega) (by omega)]; exact hf), ea_wr (by omega) (by decide), q_nm]
          unfold f_Locator_findPlaces_48
          rw [q_nm, nI_1, nI_1]
          exact ih (i + 1) (f + 1) (ud Q f i) (by omega) (by omega) (by omega) (pinv_add h4 hz)
      · rw [if_neg (fun h => hz (hE.2.2.1 _ h))]
        unfold f_Locator_findPlaces_48
        rw [q_nm, nI_1]
        exact ih (i + 1) f Q (by omega) (by omega) h3 (pinv_skip h4 hz)
theorem k_fe {K : Type} [Lean.Grind.Field K] {en : K → Int32} {g : K} {lg pr : AR} (hE : Enc en) (hF : FldC en g lg pr) {L : Nat} (hL : L ≤ 16) (P S : Nat → K) :
    ∀ fu n (V : Nat → K), n ≤ L → L - n < fu → (∀ i, i < n → V i = cv P S i) → ∃ V', f_Locator_findEvaluator_2 (ea en P) (ea en S) lg pr 32 fu (nI L) (nI n) (ea en V) = some (ea en V') ∧ ∀ i, i < L → V' i = cv P S i := by
  intro fu
  induction fu with
  | zero => intro n V h1 h2; omega
  | succ fu ih =>
    intro n V h1 h2 h3
    show ∃ V', f_Locator_findEvaluator_2_b _ _ _ _ _ _ _ _ _ = _ ∧ _
    unfold f_Locator_findEvaluator_2_b
    by_cases e : n = L
    · rw [if_pos (nI_le (by omega) (by omega))]
      exact ⟨V, rfl, e ▸ h3⟩
    · rw [if_neg (nI_ge (by omega) (by omega)), k_miss hE hF (by omega) (by omega), q_bd, q_nm, ea_wr (by omega) (by decide), q_nm, nI_1]
      refine ih (n + 1) _ (by omega) (by omega) (fun i hi => ?_)
      by_cases c : i = n
      · subst c
        rw [ud_s, show min L i = i by omega]
        rfl
      · rw [ud_n _ _ c]
        exact h3 i (by omega)
theorem k_sl {K : Type} [Lean.Grind.Field K] {en : K → Int32} {g : K} {lg pr : AR} (hE : Enc en) (hF : FldC en g lg pr) {L p : Nat} (hL : L ≤ 16) (hp : p < 255) (P : Nat → K) (evl : AR) (x2 : Int32) :
    ∀ fu i, i ≤ L + 2 → L + 2 - i < fu → i % 2 = 1 → f_Locator_differenceAt_6 pr lg evl (ea en P) fu (nI p) x2 (nI L) (en (sm (fun i => if i % 2 = 1 then P i * (pw g (p * (i - 1)))⁻¹ else 0) i)) (nI i) = f_Locator_differenceAt_51 pr lg evl (nI p) x2 (nI L) (en (sm (fun i => if i % 2 = 1 then P i * (pw g (p * (i - 1)))⁻¹ else 0) (L + 1))) := by
  intro fu
  induction fu with
  | zero => intro i h1 h2; omega
  | succ fu ih =>
    intro i h1 h2 h3
    show f_Locator_differenceAt_6_b _ _ _ _ _ _ _ _ _ _ = _
    unfold f_Locator_differenceAt_6_b
    by_cases c : L < i
    · rw [if_pos (nI_lt c (by omega))]
      congr 2
      by_cases c2 : i = L + 1
      · rw [c2]
      · rw [show i = L + 1 + 1 by omega, sm_s, if_neg (by omega)]
        grind
    · obtain ⟨i0, rfl⟩ : ∃ i0, i = i0 + 1 := ⟨i - 1, by omega⟩
      have hb : p * i0 < 2 ^ 20 := Nat.lt_of_le_of_lt (Nat.mul_le_mul (Nat.le_of_lt hp) (show i0 ≤ 16 by omega)) (by decide)
      rw [if_neg (nI_nlt (by omega) (by omega)), ea_rd (by omega) (by decide), nI_pred, Int32.neg_mul, pk_mul, hF.2.2.2 _ hb, q_bd, q_nm, hF.1, q_bd, q_nm, hE.2.2.2.1, q_nm, show nI (i0 + 1) + 2 = nI (i0 + 1 + 2) from nI_add _ 2, q_nm]
      rw [← ih (i0 + 1 + 2) (by omega) (by omega) (by omega)]
      congr 2
      rw [show i0 + 1 + 2 = i0 + 1 + 1 + 1 by omega, sm_s _ (i0 + 1 + 1), sm_s _ (i0 + 1), if_pos h3, if_neg (show ¬ (i0 + 1 + 1) % 2 = 1 by omega), show i0 + 1 - 1 = i0 by omega]
      grind
theorem pw_inv {K : Type} [Lean.Grind.Field K] {x u : K} (h : x * u = 1) (n : Nat) : pw x n * pw u n = 1 := by
  rw [← pw_xy, h, pw_one]
theorem inv_of {K : Type} [Lean.Grind.Field K] {x u : K} (h : x * u = 1) : x⁻¹ = u := by
  have hx : x ≠ 0 := fun h0 => by
    rw [h0] at h
    exact Lean.Grind.Field.zero_ne_one (α := K) (by grind)
  have := Lean.Grind.Field.mul_inv_cancel hx
  generalize x⁻¹ = v at this
  grind
/-- what is wrong at a place, after Forney -/
theorem k_diff {K : Type} [Lean.Grind.Field K] {en : K → Int32} {g : K} {lg pr : AR} (hE : Enc en) (hF : FldC en g lg pr) {L p E : Nat} (hL1 : 1 ≤ L) (hL : L ≤ 16) (hE2 : E ≤ 16) (hp : p < 255) (P C V : Nat → K) (hP : ∀ j, j < 33 → P j = C j) {u d : K} (hu : pw g p * u = 1) (h1 : ev V L u = d * pw (pw g p) (128 - E) * odd1 (fun i => C i * pw u i) L) (h2 : odd1 (fun i => C i * pw u i) L ≠ 0) :
    f_Locator_differenceAt pr lg (ea en V) (ea en P) (nI p) (nI E) (nI L) = some (en d) := by
  unfold f_Locator_differenceAt
  have a := k_sl hE hF hL hp P (ea en V) (nI E) 10000 1 (by omega) (by omega) (by decide)
  have e1 : sm (fun i => if i % 2 = 1 then P i * (pw g (p * (i - 1)))⁻¹ else 0) 1 = 0 := by
    rw [sm_s, sm_0, if_neg (by decide)]
    grind
  rw [e1, hE.1] at a
  rw [show (1 : Int32) = nI 1 from rfl, a]
  have e2 : odd1 (fun i => C i * pw u i) L = u * sm (fun i => if i % 2 = 1 then P i * (pw g (p * (i - 1)))⁻¹ else 0) (L + 1) := by
    unfold odd1
    rw [← sm_mul]
    refine sm_congr (fun i hi => ?_)
    by_cases c : i % 2 = 1
    · rw [if_pos c, if_pos c, hP i (by omega)]
      obtain ⟨i0, rfl⟩ : ∃ i0, i = i0 + 1 := ⟨i - 1, by omega⟩
      rw [show i0 + 1 - 1 = i0 by omega, pw_mul, inv_of (pw_inv hu i0)]
      show C (i0 + 1) * pw u (i0 + 1) = _
      rw [pw_s]
      grind
    · rw [if_neg c, if_neg c]
      grind
  generalize sm (fun i => if i % 2 = 1 then P i * (pw g (p * (i - 1)))⁻¹ else 0) (L + 1) = sl at e2
  have hsl : sl ≠ 0 := fun h => h2 (by rw [e2, h]; grind)
  unfold f_Locator_differenceAt_51
  obtain ⟨L0, rfl⟩ : ∃ L0, L = L0 + 1 := ⟨L - 1, by omega⟩
  have hb : p * (127 - E) < 2 ^ 20 := Nat.lt_of_le_of_lt (Nat.mul_le_mul (Nat.le_of_lt hp) (show 127 - E ≤ 127 by omega)) (by decide)
  have hx : f_Field_powerOfG pr (-(nI p)) = some (en u) := by
    rw [hF.2.2.2 _ (by omega), inv_of hu]
  rw [nI_pred, k_val hE hF (by omega) hx, q_bd, q_nm, hF.2.1 _ _ hsl, q_bd, q_nm, show (1 : Int32) - (128 - nI E) = -(nI (127 - E)) by
    rw [show (128 : Int32) = nI 128 from rfl, pk_sub (by omega), ← Int32.neg_sub, show (1 : Int32) = nI 1 from rfl, pk_sub (by omega), show 128 - E - 1 = 127 - E by omega], Int32.mul_neg, pk_mul, hF.2.2.2 _ hb, q_bd, q_nm, hF.1, q_bd, q_nm]
  congr 2
  rw [h1, e2, pw_mul, inv_of (pw_inv hu (127 - E)), show 128 - E = 127 - E + 1 by omega, pw_s]
  have h4 := pw_inv hu (127 - E)
  have h5 := Lean.Grind.Field.mul_inv_cancel hsl
  generalize sl⁻¹ = sv at h5
  generalize pw (pw g p) (127 - E) = A at h4
  generalize pw u (127 - E) = B at h4
  generalize pw g p = x at hu
  have h6 : d * (A * x) * (u * sl) * sv * B = d * (A * B) * (x * u) * (sl * sv) := by grind
  rw [h6, h4, hu, h5]
  grind
theorem ix_d (a D k j : Nat) : (nI a + nI k * nI D) + nI j = nI (a + D * k + j) := by rw [pk_mul, nI_add, nI_add, Nat.mul_comm]
abbrev PR : Type := Option (Int32 × AR × AR × AR × AR × AR × AR × AR × AR)
theorem k_wr {K : Type} [Lean.Grind.Field K] {en fo : K → Int32} {lg pr el fm : AR} (hE : Enc en) (hf : Frm en fo el fm) {D W E L a j nb : Nat} (hW : W ≤ 250) (hL : L ≤ 16) (hj : j < D) (hb : a + D * W ≤ nb) (hnb : nb ≤ 10000) (w c : Nat → K) (Q : Nat → Nat) (hQ : ∀ i, i < L → Q i < W) (hQ2 : ∀ i t, i < L → t < L → i ≠ t → Q i ≠ Q t) (syn poly ear spa evl : AR) (hd : ∀ t, t < L → f_Locator_differenceAt pr lg evl poly (nI (W - 1 - Q t)) (nI E) (nI L) = some (en (w (Q t) - c (Q t)))) :
    ∀ fu i (Y : Nat → K), i ≤ L → L - i < fu → ∃ Y', f_Words_putRight_131 (nI D) (nI W) (nI E) pr lg fm nb fu (nI a) (nI j) (nI L) (nI i) syn (ea en w) poly ear spa (ea nI Q) evl (ea fo Y) = some (nI L, syn, ea en w, poly, ear, spa, ea nI Q, evl, ea fo Y') ∧ (∀ t, i ≤ t → t < L → Y' (a + D * Q t + j) = c (Q t)) ∧ (∀ q, (∀ t, i ≤ t → t < L → q ≠ a + D * Q t + j) → Y' q = Y q) := by
  have h2 : ∀ x : K, x + x = 0 := hE.2.2.2.2.2.2.1
  intro fu
  induction fu with
  | zero => intro i Y h1 h2; omega
  | succ fu ih =>
    intro i Y h1 h3
    show ∃ Y', f_Words_putRight_131_b _ _ _ _ _ _ _ _ _ _ _ _ _ _ _ _ _ _ _ _ = _ ∧ _ ∧ _
    unfold f_Words_putRight_131_b
    by_cases e : i = L
    · rw [if_pos (nI_le (by omega) (by omega))]
      exact ⟨Y, rfl, fun t h4 h5 => by omega, fun q _ => rfl⟩
    · have hq := hQ i (by omega)
      have hlt := ix_lt (D := D) (W := W) (k := Q i) (j := j) hq hj
      unfold f_Locator_placeAt
      rw [if_neg (nI_ge (by omega) (by omega)), ea_rd (by omega) (by decide), q_bd, q_nm, q_nm, show nI W - 1 - nI (Q i) = nI (W - 1 - Q i) by rw [show (1 : Int32) = nI 1 from rfl, pk_sub (by omega), pk_sub (by omega)], ea_rd (by omega) (by decide), hd i (by omega), q_bd, q_nm, hE.2.2.2.1, q_nm, fld_of hf, q_bd, q_nm, ix_d, ea_wr (by omega) (by omega), q_nm, nI_1]
      obtain ⟨Y', k1, k2, k3⟩ := ih (i + 1) (ud Y (a + D * Q i + j) (w (Q i) + (w (Q i) - c (Q i)))) (by omega) (by omega)
      have hne : ∀ t, i + 1 ≤ t → t < L → a + D * Q i + j ≠ a + D * Q t + j := by
        intro t h6 h7 h8
        exact hQ2 i t (by omega) h7 (by omega) (ix_inj (D := D) (j := j) (j' := j) hj hj (by omega)).1
      refine ⟨Y', k1, fun t h6 h7 => ?_, fun q hq => ?_⟩
      · by_cases e2 : t = i
        · subst e2
          rw [k3 _ hne, ud_s]
          have := h2 (w (Q t))
          have := h2 (c (Q t))
          grind
        · exact k2 t (by omega) h7
      · rw [k3 q (fun t h6 h7 => hq t (by omega) h7), ud_n _ _ (hq i (by omega) (by omega))]
theorem k_tw {K : Type} {en fo : K → Int32} {lg pr el fm : AR} (hf : Frm en fo el fm) {D W E a j nb : Nat} (hW : W ≤ 250) (hj : j < D) (hb : a + D * W ≤ nb) (hnb : nb ≤ 10000) (Y : Nat → K) (syn poly ear spa pla evl : AR) :
    ∀ fu k (w : Nat → K), k ≤ W → W - k < fu → ∃ w', f_Words_putRight_3 (nI D) (nI W) (nI E) pr lg fm el nb fu (nI a) (nI j) (nI k) syn (ea en w) poly ear spa pla evl (ea fo Y) = f_Words_putRight_51 (nI D) (nI W) (nI E) pr lg fm nb (nI a) (nI j) syn (ea en w') poly ear spa pla evl (ea fo Y) ∧ (∀ i, k ≤ i → i < W → w' i = Y (a + D * i + j)) ∧ (∀ i, i < k → w' i = w i) := by
  intro fu
  induction fu with
  | zero => intro k w h1 h2; omega
  | succ fu ih =>
    intro k w h1 h2
    show ∃ w', f_Words_putRight_3_b _ _ _ _ _ _ _ _ _ _ _ _ _ _ _ _ _ _ _ _ = _ ∧ _ ∧ _
    unfold f_Words_putRight_3_b
    by_cases e : k = W
    · rw [if_pos (nI_le (by omega) (by omega))]
      exact ⟨w, rfl, fun i h3 h4 => by omega, fun i _ => rfl⟩
    · have hlt := ix_lt (D := D) (W := W) (k := k) (j := j) (by omega) hj
      rw [if_neg (nI_ge (by omega) (by omega)), ix_d, ea_rd (by omega) (by omega), fld_el hf, q_bd, q_nm, ea_wr (by omega) (by decide), q_nm, nI_1]
      obtain ⟨w', h3, h4, h5⟩ := ih (k + 1) (ud w k (Y (a + D * k + j))) (by omega) (by omega)
      refine ⟨w', h3, fun i h6 h7 => ?_, fun i hi => ?_⟩
      · by_cases e2 : i = k
        · subst e2
          rw [h5 i (by omega), ud_s]
        · exact h4 i (by omega) h7
      · rw [h5 i (by omega), ud_n _ _ (by omega)]
set_option maxHeartbeats 1000000 in
/-- the class puts a word right: the codeword that is near, or none -/
theorem c_put {K : Type} [Lean.Grind.Field K] {en fo : K → Int32} {g : K} {lg pr el fm : AR} (hg : Gen g) (hE : Enc en) (hF : FldC en g lg pr) (hf : Frm en fo el fm) {D W E a j nb : Nat} (hW : W ≤ 250) (hE1 : 1 ≤ E) (hE2 : E ≤ 16) (hj : j < D) (hb : a + D * W ≤ nb) (hnb : nb ≤ 10000) (Y V w P e sp Ev : Nat → K) (Q : Nat → Nat) :
    ∃ r V' w' P' e' sp' Q' Ev' Y', f_Words_putRight (nI D) (nI W) (nI E) pr (ea en V) lg (ea en w) (ea en P) (ea en e) (ea en sp) (ea nI Q) (ea en Ev) fm (ea fo Y) el nb (nI a) (nI j) = some (r, ea en V', ea en w', ea en P', ea en e', ea en sp', ea nI Q', ea en Ev', ea fo Y') ∧ Mended g W E a D j Y Y' r := by
  have h2 : ∀ x : K, x + x = 0 := hE.2.2.2.2.2.2.1
  unfold f_Words_putRight
  obtain ⟨w1, t1, t2, _⟩ := k_tw (en := en) (lg := lg) (pr := pr) (E := E) hf hW hj hb hnb Y (ea en V) (ea en P) (ea en e) (ea en sp) (ea nI Q) (ea en Ev) 10000 0 w (by omega) (by omega)
  rw [nI_0] at t1
  rw [t1]
  have hcg : ∀ k, k < W → w1 k = Y (a + D * k + j) := fun k hk => t2 k (by omega) hk
  have hcg2 : ∀ k, k < W → Y (a + D * k + j) = w1 k := fun k hk => (t2 k (by omega) hk).symm
  unfold f_Words_putRight_51
  obtain ⟨fl, l1, l2⟩ := k_ic hE hF hW hE2 w1 V
  rw [l1, q_bd, q_nm, q_nm]
  rcases l2 with ⟨rfl, l2⟩ | ⟨rfl, l2⟩
  · rw [if_neg ne10]
    exact ⟨_, _, _, _, _, _, _, _, _, rfl, Or.inl ⟨w1, 0, near_congr hcg (near_self l2), rfl, fun k hk => (hcg k hk).symm, fun i _ => rfl⟩⟩
  rw [if_pos rfl, show (2 : Int32) * nI E = nI (2 * E) from pk_mul 2 E]
  have hS : ∀ m, m < 2 * E → (fun i => if i < 2 * E then hr w1 (pw g (128 - E + i)) W else V i) m = hr w1 (pw g (128 - E + m)) W := fun m hm => if_pos hm
  generalize (fun i => if i < 2 * E then hr w1 (pw g (128 - E + i)) W else V i) = S at hS
  obtain ⟨L, P1, e1, sp1, C, B, bb, r1, r2, r3⟩ := k_fr hE hF hE2 S P e sp
  rw [r1, q_bd, q_nm, q_nm, q_nm, q_nm]
  have hL2 := r2.1
  have hU : ∀ k, k < W → Xl g W k * (Xl g W k)⁻¹ = 1 := fun k _ => Lean.Grind.Field.mul_inv_cancel (Xl_nz hg W k)
  have hcls : ∀ c d, Near g W E (128 - E) (fun k => Y (a + D * k + j)) c d → Near g W E (128 - E) w1 c d := fun c d hN => near_congr hcg2 hN
  by_cases hLE : E < L
  · rw [if_pos (nI_lt hLE (by omega))]
    refine ⟨_, _, _, _, _, _, _, _, _, rfl, Or.inr ⟨fun c d hN => ?_, rfl, fun i => rfl⟩⟩
    have := (cls_a h2 hg (by omega) r2 hS (hcls c d hN) hU).1
    have := hN.2.1
    omega
  rw [if_neg (nI_nlt (by omega) (by omega))]
  have hev : ∀ k, ev P1 (L + 1) ((Xl g W k)⁻¹) = ev C (L + 1) ((Xl g W k)⁻¹) := by
    intro k
    unfold ev
    exact sm_congr (fun i hi => by rw [r3 i (by omega)])
  unfold f_Locator_findPlaces
  obtain ⟨Q1, q1⟩ := k_fp hE hF hW (show L ≤ 16 by omega) P1 10000 0 0 Q (by omega) (by omega) (by omega) ⟨fun i hi => by omega, fun i j hi => by omega, fun k hk => by omega⟩
  rw [nI_0] at q1
  rcases q1 with ⟨q1, q2⟩ | ⟨q1, q2⟩
  · rw [q1, q_bd, q_nm, q_nm, if_pos rfl]
    refine ⟨_, _, _, _, _, _, _, _, _, rfl, Or.inr ⟨fun c d hN => ?_, rfl, fun i => rfl⟩⟩
    have hca := cls_a h2 hg (by omega) r2 hS (hcls c d hN) hU
    obtain ⟨rfl, hroot, _⟩ := hca
    obtain ⟨_, _, R, p1, p2, p3, p4⟩ := hcls c _ hN
    rcases q2 with ⟨T, m1, m2⟩ | ⟨f, hf1, m1, m2, m3⟩
    · have := pigeon L (L + 1) T R m2 (fun i hi => p4 _ (m1 i hi).1 ((hroot _ (m1 i hi).1).1 (by rw [← hev]; exact (m1 i hi).2)))
      omega
    · have := pigeon f L R Q1 p2 (fun i hi => m3 _ (p1 i hi) (by show ev P1 (L + 1) ((Xl g W (R i))⁻¹) = 0; rw [hev]; exact (hroot _ (p1 i hi)).2 (p3 i hi)))
      omega
  · rw [q1, q_bd, q_nm, q_nm, if_neg ne10]
    obtain ⟨c, d, hN⟩ := cls_b hg (by omega) r2 hS hU (show L ≤ E by omega) (fun i hi => (q2.1 i hi).1) q2.2.1 (fun i hi => by rw [← hev]; exact (q2.1 i hi).2)
    obtain ⟨rfl, hroot, hfor⟩ := cls_a h2 hg (by omega) r2 hS hN hU
    unfold f_Locator_findEvaluator
    obtain ⟨Ev1, v1, v2⟩ := k_fe hE hF (show L ≤ 16 by omega) P1 S 10000 0 Ev (by omega) (by omega) (fun i hi => by omega)
    rw [nI_0] at v1
    rw [v1, q_bd, q_nm]
    have hQW : ∀ i, i < L → Q1 i < W := fun i hi => (q2.1 i hi).1
    have hdf : ∀ t, t < L → f_Locator_differenceAt pr lg (ea en Ev1) (ea en P1) (nI (W - 1 - Q1 t)) (nI E) (nI L) = some (en (w1 (Q1 t) - c (Q1 t))) := by
      intro t ht
      have hne := (hroot _ (hQW t ht)).1 (by rw [← hev]; exact (q2.1 t ht).2)
      obtain ⟨f1, f2⟩ := hfor _ (hQW t ht) hne
      have hev2 : ev Ev1 L ((Xl g W (Q1 t))⁻¹) = ev (cv C S) L ((Xl g W (Q1 t))⁻¹) := by
        unfold ev
        refine sm_congr (fun i hi => ?_)
        rw [v2 i hi]
        unfold cv
        rw [sm_congr (fun x hx => by rw [r3 x (by omega)])]
      have hqw := hQW t ht
      exact k_diff hE hF (by omega) (by omega) hE2 (by omega) P1 C Ev1 r3 (hU _ hqw) (by rw [hev2, f1]; rfl) f2
    obtain ⟨Y1, y1, y2, y3⟩ := k_wr (lg := lg) (pr := pr) (E := E) hE hf hW (show L ≤ 16 by omega) hj hb hnb w1 c Q1 hQW q2.2.1 (ea en S) (ea en P1) (ea en e1) (ea en sp1) (ea en Ev1) hdf 10000 0 Y (by omega) (by omega)
    rw [nI_0] at y1
    refine ⟨_, _, _, _, _, _, _, _, _, y1, Or.inl ⟨c, L, near_congr hcg hN, rfl, fun k hk => ?_, fun i hi => ?_⟩⟩
    · by_cases hz : w1 k - c k = 0
      · have hno : ∀ t, 0 ≤ t → t < L → a + D * k + j ≠ a + D * Q1 t + j := by
          intro t _ ht h
          have hk2 := (ix_inj (D := D) (j := j) (j' := j) (k := k) (k' := Q1 t) hj hj (by omega)).1
          have hne := (hroot _ (hQW t ht)).1 (by rw [← hev]; exact (q2.1 t ht).2)
          rw [← hk2] at hne
          exact hne hz
        rw [y3 _ hno, hcg2 k hk]
        grind
      · obtain ⟨t, ht, hq⟩ := q2.2.2 k hk (by show ev P1 (L + 1) ((Xl g W k)⁻¹) = 0; rw [hev]; exact (hroot k hk).2 hz)
        rw [← hq]
        exact y2 t (by omega) ht
    · exact y3 i (fun t _ ht => hi _ (hQW t ht))
theorem mended_one {K : Type} [Lean.Grind.Field K] {g : K} (hg : Gen g) {W E a a' D j : Nat} (hW : W ≤ 255) (hj : j < D) {Y Y' Z Z' : Nat → K} {r r' : Int32} (h1 : Mended g W E a D j Y Y' r) (h2 : Mended g W E a' D j Z Z' r') (h : ∀ i, i < D * W → Y (a + i) = Z (a' + i)) : r = r' ∧ ∀ i, i < D * W → Y' (a + i) = Z' (a' + i) := by
  have hw : ∀ k, k < W → Y (a + D * k + j) = Z (a' + D * k + j) := fun k hk => by
    have := h (D * k + j) (ix_lt hk hj)
    rw [← Nat.add_assoc, ← Nat.add_assoc] at this
    exact this
  rcases h1 with ⟨c, d, n1, rfl, y1, y2⟩ | ⟨n1, rfl, y1⟩ <;> rcases h2 with ⟨c', d', n2, rfl, z1, z2⟩ | ⟨n2, rfl, z1⟩
  · obtain ⟨rfl, hc⟩ := near_one hg hW (near_congr hw n1) n2
    refine ⟨rfl, fun i hi => ?_⟩
    by_cases hx : ∃ k, k < W ∧ i = D * k + j
    · obtain ⟨k, hk, rfl⟩ := hx
      have e1 := y1 k hk
      have e2 := z1 k hk
      rw [Nat.add_assoc] at e1 e2
      rw [e1, e2, hc k hk]
    · rw [y2 _ (fun k hk h3 => hx ⟨k, hk, by omega⟩), z2 _ (fun k hk h3 => hx ⟨k, hk, by omega⟩)]
      exact h i hi
  · exact absurd (near_congr hw n1) (n2 c d)
  · exact absurd (near_congr (fun k hk => (hw k hk).symm) n2) (n1 c' d')
  · exact ⟨rfl, fun i hi => by rw [y1, z1]; exact h i hi⟩
end
