/-! PURE PART: words, their values, where they differ, which codeword is near -/
section
theorem pigeon (m n : Nat) (P Q : Nat → Nat) (hP : ∀ i j, i < n → j < n → i ≠ j → P i ≠ P j) (h : ∀ i, i < n → ∃ j, j < m ∧ Q j = P i) : n ≤ m := by
  induction m generalizing n P with
  | zero =>
    rcases Nat.eq_zero_or_pos n with h0 | h0
    · omega
    · obtain ⟨j, hj, _⟩ := h 0 h0
      omega
  | succ m ih =>
    by_cases hm : ∃ i, i < n ∧ Q m = P i
    · obtain ⟨a, ha, hQ⟩ := hm
      have := ih (n - 1) (fun i => if i < a then P i else P (i + 1)) (by
        intro i j hi hj hne
        show (if i < a then P i else P (i + 1)) ≠ (if j < a then P j else P (j + 1))
        by_cases h1 : i < a
        · by_cases h3 : j < a
          · rw [if_pos h1, if_pos h3]; exact hP i j (by omega) (by omega) hne
          · rw [if_pos h1, if_neg h3]; exact hP i (j + 1) (by omega) (by omega) (by omega)
        · by_cases h3 : j < a
          · rw [if_neg h1, if_pos h3]; exact hP (i + 1) j (by omega) (by omega) (by omega)
          · rw [if_neg h1, if_neg h3]; exact hP (i + 1) (j + 1) (by omega) (by omega) (by omega)) (by
        intro i hi
        show ∃ j, j < m ∧ Q j = (if i < a then P i else P (i + 1))
        by_cases h1 : i < a
        · rw [if_pos h1]
          obtain ⟨j, hj, e⟩ := h i (by omega)
          refine ⟨j, ?_, e⟩
          by_cases e2 : j = m
          · exfalso
            rw [e2, hQ] at e
            exact hP a i ha (by omega) (by omega) e
          · omega
        · rw [if_neg h1]
          obtain ⟨j, hj, e⟩ := h (i + 1) (by omega)
          refine ⟨j, ?_, e⟩
          by_cases e2 : j = m
          · exfalso
            rw [e2, hQ] at e
            exact hP a (i + 1) ha (by omega) (by omega) e
          · omega)
      omega
    · have := ih n P hP (by
        intro i hi
        obtain ⟨j, hj, e⟩ := h i hi
        refine ⟨j, ?_, e⟩
        by_cases e2 : j = m
        · exfalso
          rw [e2] at e
          exact hm ⟨i, hi, e⟩
        · omega)
      omega
def Supp {K : Type} [Lean.Grind.Field K] (e : Nat → K) (W n : Nat) (P : Nat → Nat) : Prop :=
  (∀ i, i < n → P i < W) ∧ (∀ i j, i < n → j < n → i ≠ j → P i ≠ P j) ∧ (∀ i, i < n → e (P i) ≠ 0) ∧ (∀ k, k < W → e k ≠ 0 → ∃ i, i < n ∧ P i = k)
theorem sup_ex {K : Type} [Lean.Grind.Field K] (e : Nat → K) (W : Nat) : ∃ n P, Supp e W n P := by
  induction W with
  | zero => exact ⟨0, fun _ => 0, fun i hi => by omega, fun i j hi => by omega, fun i hi => by omega, fun k hk => by omega⟩
  | succ W ih =>
    obtain ⟨n, P, h1, h2, h3, h4⟩ := ih
    by_cases hz : e W = 0
    · refine ⟨n, P, fun i hi => by have := h1 i hi; omega, h2, h3, fun k hk hne => ?_⟩
      by_cases e2 : k = W
      · exact absurd (e2 ▸ hz) hne
      · exact h4 k (by omega) hne
    · refine ⟨n + 1, fun i => if i = n then W else P i, fun i hi => ?_, fun i j hi hj hne => ?_, fun i hi => ?_, fun k hk hne => ?_⟩
      · show (if i = n then W else P i) < W + 1
        by_cases e2 : i = n
        · rw [if_pos e2]; omega
        · rw [if_neg e2]; have := h1 i (by omega); omega
      · show (if i = n then W else P i) ≠ (if j = n then W else P j)
        by_cases e2 : i = n
        · rw [if_pos e2, if_neg (by omega)]; have := h1 j (by omega); omega
        · rw [if_neg e2]
          by_cases e3 : j = n
          · rw [if_pos e3]; have := h1 i (by omega); omega
          · rw [if_neg e3]; exact h2 i j (by omega) (by omega) hne
      · show e (if i = n then W else P i) ≠ 0
        by_cases e2 : i = n
        · rw [if_pos e2]; exact hz
        · rw [if_neg e2]; exact h3 i (by omega)
      · by_cases e2 : k = W
        · exact ⟨n, by omega, by show (if n = n then W else P n) = k; rw [if_pos rfl, e2]⟩
        · obtain ⟨i, hi, hp⟩ := h4 k (by omega) hne
          exact ⟨i, by omega, by show (if i = n then W else P i) = k; rw [if_neg (by omega), hp]⟩
theorem sm_upd {K : Type} [Lean.Grind.Field K] (f : Nat → K) (W a : Nat) (ha : a < W) : sm f W = sm (fun k => if k = a then 0 else f k) W + f a := by
  have e : sm f W = sm (fun k => (if k = a then 0 else f k) + (if k = a then f k else 0)) W := by
    apply sm_congr
    intro i _
    show f i = (if i = a then 0 else f i) + (if i = a then f i else 0)
    by_cases h : i = a
    · rw [if_pos h, if_pos h]; grind
    · rw [if_neg h, if_neg h]; grind
  rw [e, sm_add, sm_one (f := fun k => if k = a then f k else 0) ha (fun i _ hne => if_neg hne)]
  show _ + (if a = a then f a else 0) = _
  rw [if_pos rfl]
/-- a sum over the places where there is something -/
theorem sm_inj {K : Type} [Lean.Grind.Field K] (n W : Nat) (f : Nat → K) (P : Nat → Nat) (h1 : ∀ i, i < n → P i < W) (h2 : ∀ i j, i < n → j < n → i ≠ j → P i ≠ P j) (h4 : ∀ k, k < W → f k ≠ 0 → ∃ i, i < n ∧ P i = k) : sm f W = sm (fun i => f (P i)) n := by
  induction n generalizing f with
  | zero =>
    rw [sm_0]
    apply sm_zero
    intro i hi
    by_cases hz : f i = 0
    · exact hz
    · obtain ⟨j, hj, _⟩ := h4 i hi hz
      omega
  | succ n ih =>
    rw [sm_upd f W (P n) (h1 n (by omega)), sm_s]
    rw [ih (fun k => if k = P n then 0 else f k) (fun i hi => h1 i (by omega)) (fun i j hi hj => h2 i j (by omega) (by omega)) (by
      intro k hk hne
      have hne2 : (if k = P n then 0 else f k) ≠ 0 := hne
      by_cases e : k = P n
      · rw [if_pos e] at hne2; exact absurd rfl hne2
      · rw [if_neg e] at hne2
        obtain ⟨i, hi, hp⟩ := h4 k hk hne2
        refine ⟨i, ?_, hp⟩
        by_cases e2 : i = n
        · rw [e2] at hp; exact absurd hp.symm e
        · omega)]
    have : sm (fun i => if P i = P n then 0 else f (P i)) n = sm (fun i => f (P i)) n := by
      apply sm_congr
      intro i hi
      rw [if_neg (h2 i n (by omega) (by omega) (by omega))]
    rw [this]
theorem sup_le {K : Type} [Lean.Grind.Field K] {e : Nat → K} {W n m : Nat} {P Q : Nat → Nat} (h : Supp e W n P) (hQ : ∀ k, k < W → e k ≠ 0 → ∃ j, j < m ∧ Q j = k) : n ≤ m := by
  obtain ⟨h1, h2, h3, h4⟩ := h
  exact pigeon m n P Q h2 (fun i hi => hQ (P i) (h1 i hi) (h3 i hi))
/-- Horner -/
def hr {K : Type} [Lean.Grind.Field K] (w : Nat → K) (x : K) : Nat → K
  | 0 => 0
  | n + 1 => hr w x n * x + w n
theorem hr_sm {K : Type} [Lean.Grind.Field K] (w : Nat → K) (x : K) (n : Nat) : hr w x n = sm (fun k => w k * pw x (n - 1 - k)) n := by
  induction n with
  | zero => rfl
  | succ n ih =>
    show hr w x n * x + w n = _
    rw [ih, sm_s]
    have e : sm (fun k => w k * pw x (n + 1 - 1 - k)) n = x * sm (fun k => w k * pw x (n - 1 - k)) n := by
      rw [← sm_mul]
      apply sm_congr
      intro k hk
      show w k * pw x (n + 1 - 1 - k) = x * (w k * pw x (n - 1 - k))
      rw [show n + 1 - 1 - k = n - 1 - k + 1 by omega, pw_s]; grind
    rw [e, show n + 1 - 1 - n = 0 by omega, pw_0]; grind
def Xl {K : Type} [Lean.Grind.Field K] (g : K) (W k : Nat) : K := pw g (W - 1 - k)
/-- the value of a word at a power of g, by its places -/
theorem syn_at {K : Type} [Lean.Grind.Field K] (g : K) (w : Nat → K) (W b m : Nat) : hr w (pw g (b + m)) W = sm (fun k => w k * pw (Xl g W k) b * pw (Xl g W k) m) W := by
  rw [hr_sm]
  apply sm_congr
  intro k _
  unfold Xl
  rw [← pw_mul, ← pw_mul, ← pw_mul]
  show w k * pw g ((b + m) * (W - 1 - k)) = _
  rw [Nat.add_mul, pw_add, Nat.mul_comm b, Nat.mul_comm m]; grind
def Code {K : Type} [Lean.Grind.Field K] (g : K) (W E b : Nat) (w : Nat → K) : Prop := ∀ m, m < 2 * E → hr w (pw g (b + m)) W = 0
def Gen {K : Type} [Lean.Grind.Field K] (g : K) : Prop := g ≠ 0 ∧ ∀ i j, i < 255 → j < 255 → i ≠ j → pw g i ≠ pw g j
theorem Xl_ne {K : Type} [Lean.Grind.Field K] {g : K} (hg : Gen g) {W i j : Nat} (hW : W ≤ 255) (hi : i < W) (hj : j < W) (h : i ≠ j) : Xl g W i ≠ Xl g W j := hg.2 _ _ (by omega) (by omega) (by omega)
theorem Xl_nz {K : Type} [Lean.Grind.Field K] {g : K} (hg : Gen g) (W i : Nat) : Xl g W i ≠ 0 := pw_nz hg.1 _
theorem syn_sup {K : Type} [Lean.Grind.Field K] {g : K} {e : Nat → K} {W n b : Nat} {P : Nat → Nat} (h1 : ∀ i, i < n → P i < W) (h2 : ∀ i j, i < n → j < n → i ≠ j → P i ≠ P j) (h4 : ∀ k, k < W → e k ≠ 0 → ∃ i, i < n ∧ P i = k) (m : Nat) : hr e (pw g (b + m)) W = sm (fun i => e (P i) * pw (Xl g W (P i)) b * pw (Xl g W (P i)) m) n := by
  rw [syn_at]
  apply sm_inj n W _ P h1 h2
  intro k hk hne
  apply h4 k hk
  intro hz
  apply hne
  show e k * pw (Xl g W k) b * pw (Xl g W k) m = 0
  rw [hz]; grind
/-- a codeword with few places that are not 0 has none -/
theorem dist {K : Type} [Lean.Grind.Field K] {g : K} (hg : Gen g) {e : Nat → K} {W E n b : Nat} (hW : W ≤ 255) {P : Nat → Nat} (h1 : ∀ i, i < n → P i < W) (h2 : ∀ i j, i < n → j < n → i ≠ j → P i ≠ P j) (h4 : ∀ k, k < W → e k ≠ 0 → ∃ i, i < n ∧ P i = k) (hn : n ≤ 2 * E) (hc : Code g W E b e) : ∀ k, k < W → e k = 0 := by
  have hz := vd_b n (fun i => e (P i) * pw (Xl g W (P i)) b) (fun i => Xl g W (P i)) (fun i j hi hj hne => Xl_ne hg hW (h1 i hi) (h1 j hj) (h2 i j hi hj hne)) (fun t ht => by
    have := hc t (by omega)
    rw [syn_sup h1 h2 h4] at this
    exact this)
  intro k hk
  by_cases h0 : e k = 0
  · exact h0
  · obtain ⟨i, hi, hp⟩ := h4 k hk h0
    have := mul_z (hz i hi) (pw_nz (Xl_nz hg W (P i)) b)
    rw [hp] at this
    exact this
theorem hr_sub {K : Type} [Lean.Grind.Field K] (w c : Nat → K) (x : K) (n : Nat) : hr (fun k => w k - c k) x n = hr w x n - hr c x n := by
  rw [hr_sm, hr_sm, hr_sm, ← sm_sub]
  apply sm_congr
  intro k _
  grind
theorem hr_congr {K : Type} [Lean.Grind.Field K] {w c : Nat → K} (x : K) {n : Nat} (h : ∀ k, k < n → w k = c k) : hr w x n = hr c x n := by
  rw [hr_sm, hr_sm]
  apply sm_congr
  intro k hk
  show w k * _ = c k * _
  rw [h k hk]
/-- c is a codeword that differs from w at just d places, and no more than E -/
def Near {K : Type} [Lean.Grind.Field K] (g : K) (W E b : Nat) (w c : Nat → K) (d : Nat) : Prop := Code g W E b c ∧ d ≤ E ∧ ∃ P, Supp (fun k => w k - c k) W d P
theorem near_one {K : Type} [Lean.Grind.Field K] {g : K} (hg : Gen g) {W E b : Nat} (hW : W ≤ 255) {w c c' : Nat → K} {d d' : Nat} (h : Near g W E b w c d) (h' : Near g W E b w c' d') : d = d' ∧ ∀ k, k < W → c k = c' k := by
  obtain ⟨a1, a2, P, a3⟩ := h
  obtain ⟨b1, b2, Q, b3⟩ := h'
  obtain ⟨n, R, hR⟩ := sup_ex (fun k => c k - c' k) W
  have hn : n ≤ d + d' := by
    apply sup_le hR (Q := fun j => if j < d then P j else Q (j - d))
    intro k hk hne
    by_cases h1 : w k - c k = 0
    · have h3 : w k - c' k ≠ 0 := by
        intro h4
        apply hne
        show c k - c' k = 0
        grind
      obtain ⟨j, hj, e⟩ := b3.2.2.2 k hk h3
      exact ⟨d + j, by omega, by show (if d + j < d then P (d + j) else Q (d + j - d)) = k; rw [if_neg (by omega), show d + j - d = j by omega, e]⟩
    · obtain ⟨j, hj, e⟩ := a3.2.2.2 k hk h1
      exact ⟨j, by omega, by show (if j < d then P j else Q (j - d)) = k; rw [if_pos hj, e]⟩
  have hz := dist hg (e := fun k => c k - c' k) (E := E) (b := b) hW hR.1 hR.2.1 hR.2.2.2 (by omega) (fun m hm => by
    rw [hr_sub, a1 m hm, b1 m hm]; grind)
  have hcc : ∀ k, k < W → c k = c' k := by
    intro k hk
    have : c k - c' k = 0 := hz k hk
    grind
  refine ⟨?_, hcc⟩
  have l1 : d ≤ d' := sup_le a3 (Q := Q) (fun k hk hne => b3.2.2.2 k hk (by
    have : w k - c k ≠ 0 := hne
    rw [hcc k hk] at this; exact this))
  have l2 : d' ≤ d := sup_le b3 (Q := P) (fun k hk hne => a3.2.2.2 k hk (by
    have : w k - c' k ≠ 0 := hne
    rw [← hcc k hk] at this; exact this))
  omega
end
