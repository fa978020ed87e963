/-! PURE PART: what both ways of putting a word right, and both ways of checking one, come to -/
section
theorem cls_a {K : Type} [Lean.Grind.Field K] (h2 : ∀ x : K, x + x = 0) {g : K} (hg : Gen g) {W E b L d : Nat} (hW : W ≤ 255) {S w c C B U : Nat → K} {bb : K} (hB : BM S (2 * E) (2 * E) L C B bb) (hS : ∀ m, m < 2 * E → S m = hr w (pw g (b + m)) W) (hN : Near g W E b w c d) (hU : ∀ k, k < W → Xl g W k * U k = 1) :
    L = d ∧ (∀ k, k < W → (ev C (L + 1) (U k) = 0 ↔ w k - c k ≠ 0)) ∧ (∀ k, k < W → w k - c k ≠ 0 → ev (cv C S) L (U k) = (w k - c k) * pw (Xl g W k) b * odd1 (fun i => C i * pw (U k) i) L ∧ odd1 (fun i => C i * pw (U k) i) L ≠ 0) := by
  obtain ⟨a1, a2, P, p1, p2, p3, p4⟩ := hN
  have hS2 : ∀ m, m < 2 * E → S m = sm (fun i => (w (P i) - c (P i)) * pw (Xl g W (P i)) b * pw (Xl g W (P i)) m) d := by
    intro m hm
    rw [hS m hm]
    have e1 := hr_sub w c (pw g (b + m)) W
    rw [a1 m hm, syn_sup p1 p2 p4] at e1
    grind
  have hXd : ∀ i j, i < d → j < d → i ≠ j → Xl g W (P i) ≠ Xl g W (P j) := fun i j hi hj hne => Xl_ne hg hW (p1 i hi) (p1 j hj) (p2 i j hi hj hne)
  have hC1 : C 0 = 1 := hB.2.1.1
  obtain ⟨hL, hr0⟩ := bm_right (X := fun i => Xl g W (P i)) (Y := fun i => (w (P i) - c (P i)) * pw (Xl g W (P i)) b) hB a2 hXd (fun i hi => mul_nz (p3 i hi) (pw_nz (Xl_nz hg W (P i)) b)) hS2
  subst hL
  refine ⟨rfl, fun k hk => ⟨fun hz he => ?_, fun he => ?_⟩, fun k hk he => ?_⟩
  · have hUd : ∀ i j, i < W → j < W → i ≠ j → U i ≠ U j := by
      intro i j hi hj hne heq
      apply Xl_ne hg hW hi hj hne
      have u1 := hU i hi
      have u2 := hU j hj
      rw [heq] at u1
      grind
    have hkP : ∀ i, i < L → P i ≠ k := fun i hi heq => p3 i hi (by show w (P i) - c (P i) = 0; rw [heq]; exact he)
    have := vd_a (L + 1) C (fun i => if i < L then U (P i) else U k) (by
      intro i j hi hj hne
      show (if i < L then U (P i) else U k) ≠ (if j < L then U (P j) else U k)
      by_cases c1 : i < L
      · rw [if_pos c1]
        by_cases c3 : j < L
        · rw [if_pos c3]; exact hUd _ _ (p1 i c1) (p1 j c3) (p2 i j c1 c3 hne)
        · rw [if_neg c3]; exact hUd _ _ (p1 i c1) hk (hkP i c1)
      · rw [if_neg c1, if_pos (by omega)]; exact hUd _ _ hk (p1 j (by omega)) (fun h => hkP j (by omega) h.symm)) (by
      intro i hi
      show ev C (L + 1) (if i < L then U (P i) else U k) = 0
      by_cases c1 : i < L
      · rw [if_pos c1, rv_ev C L (hU (P i) (p1 i c1)), hr0 i c1]; grind
      · rw [if_neg c1]; exact hz) 0 (by omega)
    rw [hC1] at this
    exact Lean.Grind.Field.zero_ne_one this.symm
  · obtain ⟨i, hi, hp⟩ := p4 k hk he
    subst hp
    rw [rv_ev C L (hU (P i) hk), hr0 i hi]; grind
  · obtain ⟨i, hi, hp⟩ := p4 k hk he
    subst hp
    exact forney h2 (S := S) (X := fun i => Xl g W (P i)) (U := fun i => U (P i)) (Y := fun i => (w (P i) - c (P i)) * pw (Xl g W (P i)) b) (C := C) (M := 2 * E) (L := L) hC1 (by omega) hS2 hXd (fun i hi => hU (P i) (p1 i hi)) hr0 i hi
theorem near_of {K : Type} [Lean.Grind.Field K] {g : K} {W E b n : Nat} {w c : Nat → K} {Q : Nat → Nat} (hn : n ≤ E) (hc : Code g W E b c) (hQ : ∀ k, k < W → w k - c k ≠ 0 → ∃ j, j < n ∧ Q j = k) : ∃ d, d ≤ n ∧ Near g W E b w c d := by
  obtain ⟨d, P, hP⟩ := sup_ex (fun k => w k - c k) W
  have := sup_le hP hQ
  exact ⟨d, this, hc, by omega, P, hP⟩
theorem cls_b {K : Type} [Lean.Grind.Field K] {g : K} (hg : Gen g) {W E b L : Nat} (hW : W ≤ 255) {S w C B U : Nat → K} {bb : K} {Q : Nat → Nat} (hB : BM S (2 * E) (2 * E) L C B bb) (hS : ∀ m, m < 2 * E → S m = hr w (pw g (b + m)) W) (hU : ∀ k, k < W → Xl g W k * U k = 1) (hL : L ≤ E) (q1 : ∀ i, i < L → Q i < W) (q2 : ∀ i j, i < L → j < L → i ≠ j → Q i ≠ Q j) (q3 : ∀ i, i < L → ev C (L + 1) (U (Q i)) = 0) : ∃ c d, Near g W E b w c d := by
  have hr0 : ∀ i, i < L → rv C L (Xl g W (Q i)) = 0 := by
    intro i hi
    have a := q3 i hi
    rw [rv_ev C L (hU (Q i) (q1 i hi))] at a
    apply mul_z (b := pw (U (Q i)) L)
    · grind
    · apply pw_nz
      intro h0
      have := hU (Q i) (q1 i hi)
      rw [h0] at this
      exact Lean.Grind.Field.zero_ne_one (α := K) (by grind)
  obtain ⟨Y, hY⟩ := rec_pows (X := fun i => Xl g W (Q i)) hB.2.1 (fun i j hi hj hne => Xl_ne hg hW (q1 i hi) (q1 j hj) (q2 i j hi hj hne)) hr0
  have e1 : ∀ i, i < L → sm (fun l => if Q l = Q i then Y l * (pw (Xl g W (Q i)) b)⁻¹ else 0) L = Y i * (pw (Xl g W (Q i)) b)⁻¹ := by
    intro i hi
    rw [sm_one (a := i) hi]
    · rw [if_pos rfl]
    · intro l hl hne
      exact if_neg (q2 l i hl hi hne)
  have e2 : ∀ k, sm (fun l => if Q l = k then Y l * (pw (Xl g W k) b)⁻¹ else 0) L ≠ 0 → ∃ j, j < L ∧ Q j = k := by
    intro k hne
    by_cases h : ∃ j, j < L ∧ Q j = k
    · exact h
    · exfalso
      apply hne
      apply sm_zero
      intro l hl
      exact if_neg (fun e => h ⟨l, hl, e⟩)
  obtain ⟨d, _, hd⟩ := near_of (g := g) (W := W) (E := E) (b := b) (w := w) (c := fun k => w k - sm (fun l => if Q l = k then Y l * (pw (Xl g W k) b)⁻¹ else 0) L) (Q := Q) hL (by
    intro m hm
    rw [hr_sub, ← hS m hm, syn_sup (e := fun k => sm (fun l => if Q l = k then Y l * (pw (Xl g W k) b)⁻¹ else 0) L) q1 q2 (fun k _ => e2 k), hY m hm]
    have : sm (fun i => sm (fun l => if Q l = Q i then Y l * (pw (Xl g W (Q i)) b)⁻¹ else 0) L * pw (Xl g W (Q i)) b * pw (Xl g W (Q i)) m) L = sm (fun i => Y i * pw (Xl g W (Q i)) m) L := by
      apply sm_congr
      intro i hi
      have hi2 := Lean.Grind.Field.mul_inv_cancel (pw_nz (Xl_nz hg W (Q i)) b)
      rw [e1 i hi]
      grind
    rw [this]; grind) (by
    intro k hk hne
    apply e2 k
    intro h0
    apply hne
    show w k - (w k - sm (fun l => if Q l = k then Y l * (pw (Xl g W k) b)⁻¹ else 0) L) = 0
    rw [h0]; grind)
  exact ⟨_, d, hd⟩
theorem rf_syn {K : Type} [Lean.Grind.Field K] {g : K} {W E b d : Nat} {S w c : Nat → K} {P : Nat → Nat} (hS : ∀ m, m < 2 * E → S m = hr w (pw g (b + m)) W) (hc : Code g W E b c) (hP : Supp (fun k => w k - c k) W d P) : ∀ m, m < 2 * E → S m = sm (fun i => (w (P i) - c (P i)) * pw (Xl g W (P i)) b * pw (Xl g W (P i)) m) d := by
  intro m hm
  rw [hS m hm]
  have e1 := hr_sub w c (pw g (b + m)) W
  rw [hc m hm, syn_sup hP.1 hP.2.1 hP.2.2.2] at e1
  grind
/-- the reference's first equations: their solution is 0 at the wrong places -/
theorem rf_h {K : Type} [Lean.Grind.Field K] {g : K} (hg : Gen g) {W E b d : Nat} (hW : W ≤ 255) {S w c y : Nat → K} (hS : ∀ m, m < 2 * E → S m = hr w (pw g (b + m)) W) (hN : Near g W E b w c d) (hy : Ker d (fun r k => S (r + k)) y) : ∀ k, k < W → w k - c k ≠ 0 → ev y (d + 1) (Xl g W k) = 0 := by
  obtain ⟨a1, a2, P, hP⟩ := hN
  have hS2 := rf_syn hS a1 hP
  obtain ⟨p1, p2, p3, p4⟩ := hP
  have hz := vd_b d (fun i => (w (P i) - c (P i)) * pw (Xl g W (P i)) b * ev y (d + 1) (Xl g W (P i))) (fun i => Xl g W (P i)) (fun i j hi hj hne => Xl_ne hg hW (p1 i hi) (p1 j hj) (p2 i j hi hj hne)) (by
    intro t ht
    have a := hy t ht
    have e1 : sm (fun k => S (t + k) * y k) (d + 1) = sm (fun k => sm (fun i => (w (P i) - c (P i)) * pw (Xl g W (P i)) b * pw (Xl g W (P i)) t * (y k * pw (Xl g W (P i)) k)) d) (d + 1) := by
      apply sm_congr
      intro k hk
      rw [hS2 (t + k) (by omega)]
      have : sm (fun i => (w (P i) - c (P i)) * pw (Xl g W (P i)) b * pw (Xl g W (P i)) (t + k)) d * y k = y k * sm (fun i => (w (P i) - c (P i)) * pw (Xl g W (P i)) b * pw (Xl g W (P i)) (t + k)) d := by grind
      rw [this, ← sm_mul]
      apply sm_congr
      intro i _
      rw [pw_add]; grind
    have a' : sm (fun k => S (t + k) * y k) (d + 1) = 0 := a
    rw [e1, sm_swap] at a'
    rw [← a']
    apply sm_congr
    intro i _
    rw [sm_mul]
    unfold ev
    grind)
  intro k hk hne
  obtain ⟨i, hi, hp⟩ := p4 k hk hne
  subst hp
  apply mul_z (b := (w (P i) - c (P i)) * pw (Xl g W (P i)) b)
  · have := hz i hi
    grind
  · exact mul_nz hne (pw_nz (Xl_nz hg W (P i)) b)
theorem rf_h0 {K : Type} [Lean.Grind.Field K] {g : K} (hg : Gen g) {W E b d : Nat} (hW : W ≤ 255) {S w c y : Nat → K} (hS : ∀ m, m < 2 * E → S m = hr w (pw g (b + m)) W) (hN : Near g W E b w c d) (hy : Ker d (fun r k => S (r + k)) y) (hd : y d = 0) : ∀ k, k < d → y k = 0 := by
  have hr0 := rf_h hg hW hS hN hy
  obtain ⟨a1, a2, P, p1, p2, p3, p4⟩ := hN
  apply vd_a d y (fun i => Xl g W (P i)) (fun i j hi hj hne => Xl_ne hg hW (p1 i hi) (p1 j hj) (p2 i j hi hj hne))
  intro i hi
  have a := hr0 (P i) (p1 i hi) (p3 i hi)
  unfold ev at a ⊢
  rw [sm_s, hd] at a
  grind
theorem rf_h1 {K : Type} [Lean.Grind.Field K] {g : K} (hg : Gen g) {W E b d : Nat} (hW : W ≤ 255) {S w c y : Nat → K} (hS : ∀ m, m < 2 * E → S m = hr w (pw g (b + m)) W) (hN : Near g W E b w c d) (hy : Ker d (fun r k => S (r + k)) y) (hd : y d = 1) : ∀ k, k < W → (ev y (d + 1) (Xl g W k) = 0 ↔ w k - c k ≠ 0) := by
  have hr0 := rf_h hg hW hS hN hy
  intro k hk
  refine ⟨fun hz he => ?_, hr0 k hk⟩
  obtain ⟨a1, a2, P, p1, p2, p3, p4⟩ := hN
  have hkP : ∀ i, i < d → P i ≠ k := fun i hi heq => p3 i hi (by show w (P i) - c (P i) = 0; rw [heq]; exact he)
  have := vd_a (d + 1) y (fun i => if i < d then Xl g W (P i) else Xl g W k) (by
    intro i j hi hj hne
    show (if i < d then Xl g W (P i) else Xl g W k) ≠ (if j < d then Xl g W (P j) else Xl g W k)
    by_cases c1 : i < d
    · rw [if_pos c1]
      by_cases c3 : j < d
      · rw [if_pos c3]; exact Xl_ne hg hW (p1 i c1) (p1 j c3) (p2 i j c1 c3 hne)
      · rw [if_neg c3]; exact Xl_ne hg hW (p1 i c1) hk (hkP i c1)
    · rw [if_neg c1, if_pos (by omega)]; exact Xl_ne hg hW hk (p1 j (by omega)) (fun h => hkP j (by omega) h.symm)) (by
    intro i hi
    show ev y (d + 1) (if i < d then Xl g W (P i) else Xl g W k) = 0
    by_cases c1 : i < d
    · rw [if_pos c1]; exact hr0 _ (p1 i c1) (p3 i c1)
    · rw [if_neg c1]; exact hz) d (by omega)
  rw [hd] at this
  exact Lean.Grind.Field.zero_ne_one this.symm
/-- the reference's second equations -/
theorem rf_v {K : Type} [Lean.Grind.Field K] (h2 : ∀ x : K, x + x = 0) {g : K} (hg : Gen g) {W E b d : Nat} (hW : W ≤ 255) {S w c y : Nat → K} {Q : Nat → Nat} (hS : ∀ m, m < 2 * E → S m = hr w (pw g (b + m)) W) (hc : Code g W E b c) (hd : d ≤ E) (hQ : Supp (fun k => w k - c k) W d Q) (hy : Ker d (fun r k => if k < d then pw (Xl g W (Q k)) r else S r) y) : ∀ k, k < d → y k = y d * ((w (Q k) - c (Q k)) * pw (Xl g W (Q k)) b) := by
  have hS2 := rf_syn hS hc hQ
  obtain ⟨p1, p2, p3, p4⟩ := hQ
  have hz := vd_b d (fun i => y i + y d * ((w (Q i) - c (Q i)) * pw (Xl g W (Q i)) b)) (fun i => Xl g W (Q i)) (fun i j hi hj hne => Xl_ne hg hW (p1 i hi) (p1 j hj) (p2 i j hi hj hne)) (by
    intro t ht
    have a := hy t ht
    rw [sm_s] at a
    dsimp only at a
    rw [if_neg (by omega)] at a
    have e1 : sm (fun k => (if k < d then pw (Xl g W (Q k)) t else S t) * y k) d = sm (fun k => y k * pw (Xl g W (Q k)) t) d := by
      apply sm_congr
      intro k hk
      show (if k < d then pw (Xl g W (Q k)) t else S t) * y k = _
      rw [if_pos hk]; grind
    rw [e1, hS2 t (by omega)] at a
    have e2 : sm (fun i => (y i + y d * ((w (Q i) - c (Q i)) * pw (Xl g W (Q i)) b)) * pw (Xl g W (Q i)) t) d = sm (fun k => y k * pw (Xl g W (Q k)) t) d + y d * sm (fun i => (w (Q i) - c (Q i)) * pw (Xl g W (Q i)) b * pw (Xl g W (Q i)) t) d := by
      rw [← sm_mul, ← sm_add]
      apply sm_congr
      intro i _
      grind
    rw [e2]; grind)
  intro k hk
  have a := hz k hk
  have := h2 (y d * ((w (Q k) - c (Q k)) * pw (Xl g W (Q k)) b))
  grind
/-- two codewords that agree but for the check bytes agree there too -/
theorem chk_one {K : Type} [Lean.Grind.Field K] {g : K} (hg : Gen g) {W E b : Nat} (hW : W ≤ 255) (hE : 2 * E ≤ W) {u v : Nat → K} (hu : Code g W E b u) (hv : Code g W E b v) (h : ∀ k, k < W - 2 * E → u k = v k) : ∀ k, k < W → u k = v k := by
  have hz := dist hg (e := fun k => u k - v k) (E := E) (b := b) (n := 2 * E) (P := fun i => W - 2 * E + i) hW (fun i hi => by omega) (fun i j hi hj hne => by omega) (by
    intro k hk hne
    by_cases h1 : k < W - 2 * E
    · exfalso
      apply hne
      show u k - v k = 0
      rw [h k h1]; grind
    · exact ⟨k - (W - 2 * E), by omega, by show W - 2 * E + (k - (W - 2 * E)) = k; omega⟩) (Nat.le_refl _) (fun m hm => by rw [hr_sub, hu m hm, hv m hm]; grind)
  intro k hk
  have : u k - v k = 0 := hz k hk
  grind
/-- the reference's equations for the check bytes -/
theorem chk_k {K : Type} [Lean.Grind.Field K] {g : K} (hg : Gen g) {E b : Nat} (hE : 2 * E ≤ 255) {S y : Nat → K} (hy : Ker (2 * E) (fun r k => if k < 2 * E then pw g ((b + r) * k) else S r) y) (h0 : y (2 * E) = 0) : ∀ k, k < 2 * E → y k = 0 := by
  have hz := vd_b (2 * E) (fun i => y i * pw g (b * i)) (fun i => pw g i) (fun i j hi hj hne => hg.2 i j (by omega) (by omega) hne) (by
    intro t ht
    have a := hy t ht
    rw [sm_s, h0] at a
    rw [← (show sm (fun k => (if k < 2 * E then pw g ((b + t) * k) else S t) * y k) (2 * E) = 0 by grind)]
    apply sm_congr
    intro k hk
    show y k * pw g (b * k) * pw (pw g k) t = (if k < 2 * E then pw g ((b + t) * k) else S t) * y k
    rw [if_pos hk, Nat.add_mul, pw_add, ← pw_mul, Nat.mul_comm k t]; grind)
  intro k hk
  exact mul_z (hz k hk) (pw_nz hg.1 _)
theorem chk_c {K : Type} [Lean.Grind.Field K] (h2 : ∀ x : K, x + x = 0) {g : K} {W E b : Nat} (hE : 2 * E ≤ W) {S y w : Nat → K} (hS : ∀ m, m < 2 * E → S m = hr w (pw g (b + m)) W) (hw : ∀ k, W - 2 * E ≤ k → w k = 0) (hy : Ker (2 * E) (fun r k => if k < 2 * E then pw g ((b + r) * k) else S r) y) (h1 : y (2 * E) = 1) : Code g W E b (fun k => if k < W - 2 * E then w k else y (W - 1 - k)) := by
  intro m hm
  have a := hy m hm
  rw [sm_s, h1] at a
  dsimp only at a
  rw [if_neg (by omega), hS m hm] at a
  have e1 : hr (fun k => if k < W - 2 * E then w k else y (W - 1 - k)) (pw g (b + m)) W = hr w (pw g (b + m)) W + hr (fun k => if k < W - 2 * E then 0 else y (W - 1 - k)) (pw g (b + m)) W := by
    rw [hr_sm, hr_sm, hr_sm, ← sm_add]
    apply sm_congr
    intro k hk
    by_cases h : k < W - 2 * E
    · simp only [h, if_true]; grind
    · simp only [h, if_false]; rw [hw k (by omega)]; grind
  have e2 : hr (fun k => if k < W - 2 * E then 0 else y (W - 1 - k)) (pw g (b + m)) W = sm (fun k => (if k < 2 * E then pw g ((b + m) * k) else S m) * y k) (2 * E) := by
    rw [hr_sm]
    rw [sm_inj (2 * E) W _ (fun i => W - 1 - i) (fun i hi => by omega) (fun i j hi hj hne => by omega)]
    · apply sm_congr
      intro i hi
      show (if W - 1 - i < W - 2 * E then 0 else y (W - 1 - (W - 1 - i))) * pw (pw g (b + m)) (W - 1 - (W - 1 - i)) = _
      rw [if_neg (by omega), if_pos hi, show W - 1 - (W - 1 - i) = i by omega, ← pw_mul]; grind
    · intro k hk hne
      refine ⟨W - 1 - k, ?_, by omega⟩
      rcases Nat.lt_or_ge k (W - 2 * E) with h | h
      · exfalso
        apply hne
        show (if k < W - 2 * E then 0 else y (W - 1 - k)) * _ = 0
        rw [if_pos h]; grind
      · omega
  rw [e1, e2]
  grind
end
