/-! PURE PART: sums, powers and polynomials over a field -/
section
def sm {K : Type} [Lean.Grind.Field K] (f : Nat → K) : Nat → K
  | 0 => 0
  | n + 1 => sm f n + f n
def pw {K : Type} [Lean.Grind.Field K] (x : K) : Nat → K
  | 0 => 1
  | n + 1 => pw x n * x
theorem sm_0 {K : Type} [Lean.Grind.Field K] (f : Nat → K) : sm f 0 = 0 := rfl
theorem sm_s {K : Type} [Lean.Grind.Field K] (f : Nat → K) (n : Nat) : sm f (n + 1) = sm f n + f n := rfl
theorem pw_0 {K : Type} [Lean.Grind.Field K] (x : K) : pw x 0 = 1 := rfl
theorem pw_s {K : Type} [Lean.Grind.Field K] (x : K) (n : Nat) : pw x (n + 1) = pw x n * x := rfl
theorem sm_congr {K : Type} [Lean.Grind.Field K] {f g : Nat → K} {n : Nat} (h : ∀ i, i < n → f i = g i) : sm f n = sm g n := by
  induction n with
  | zero => rfl
  | succ n ih => rw [sm_s, sm_s, ih (fun i hi => h i (by omega)), h n (by omega)]
theorem sm_zero {K : Type} [Lean.Grind.Field K] {f : Nat → K} {n : Nat} (h : ∀ i, i < n → f i = 0) : sm f n = 0 := by
  induction n with
  | zero => rfl
  | succ n ih => rw [sm_s, ih (fun i hi => h i (by omega)), h n (by omega)]; grind
theorem sm_add {K : Type} [Lean.Grind.Field K] (f g : Nat → K) (n : Nat) : sm (fun i => f i + g i) n = sm f n + sm g n := by
  induction n with
  | zero => simp only [sm_0]; grind
  | succ n ih => simp only [sm_s, ih]; grind
theorem sm_sub {K : Type} [Lean.Grind.Field K] (f g : Nat → K) (n : Nat) : sm (fun i => f i - g i) n = sm f n - sm g n := by
  induction n with
  | zero => simp only [sm_0]; grind
  | succ n ih => simp only [sm_s, ih]; grind
theorem sm_mul {K : Type} [Lean.Grind.Field K] (c : K) (f : Nat → K) (n : Nat) : sm (fun i => c * f i) n = c * sm f n := by
  induction n with
  | zero => simp only [sm_0]; grind
  | succ n ih => simp only [sm_s, ih]; grind
theorem sm_head {K : Type} [Lean.Grind.Field K] (f : Nat → K) (n : Nat) : sm f (n + 1) = f 0 + sm (fun i => f (i + 1)) n := by
  induction n with
  | zero => simp only [sm_0, sm_s]; grind
  | succ n ih => rw [sm_s, ih, sm_s]; grind
theorem sm_swap {K : Type} [Lean.Grind.Field K] (f : Nat → Nat → K) (n m : Nat) : sm (fun i => sm (fun j => f i j) m) n = sm (fun j => sm (fun i => f i j) n) m := by
  induction n with
  | zero =>
    rw [sm_0]
    exact (sm_zero (fun i _ => rfl)).symm
  | succ n ih =>
    rw [sm_s, ih, ← sm_add]
    rfl
theorem sm_one {K : Type} [Lean.Grind.Field K] {f : Nat → K} {n a : Nat} (ha : a < n) (h : ∀ i, i < n → i ≠ a → f i = 0) : sm f n = f a := by
  induction n with
  | zero => omega
  | succ n ih =>
    rw [sm_s]
    by_cases e : a = n
    · subst e
      rw [sm_zero (fun i hi => h i (by omega) (by omega))]; grind
    · rw [ih (by omega) (fun i hi hn => h i (by omega) hn), h n (by omega) (by omega)]; grind
theorem sm_split {K : Type} [Lean.Grind.Field K] (f : Nat → K) (n m : Nat) : sm f (n + m) = sm f n + sm (fun i => f (n + i)) m := by
  induction m with
  | zero => simp only [sm_0, Nat.add_zero]; grind
  | succ m ih => rw [← Nat.add_assoc, sm_s, ih, sm_s]; grind
theorem pw_add {K : Type} [Lean.Grind.Field K] (x : K) (n m : Nat) : pw x (n + m) = pw x n * pw x m := by
  induction m with
  | zero => simp only [pw_0, Nat.add_zero]; grind
  | succ m ih => rw [← Nat.add_assoc, pw_s, ih, pw_s]; grind
theorem pw_mul {K : Type} [Lean.Grind.Field K] (x : K) (n m : Nat) : pw x (n * m) = pw (pw x n) m := by
  induction m with
  | zero => simp only [pw_0, Nat.mul_zero]
  | succ m ih => rw [Nat.mul_succ, pw_add, ih, pw_s]
theorem pw_xy {K : Type} [Lean.Grind.Field K] (x y : K) (n : Nat) : pw (x * y) n = pw x n * pw y n := by
  induction n with
  | zero => simp only [pw_0]; grind
  | succ n ih => simp only [pw_s, ih]; grind
theorem pw_one {K : Type} [Lean.Grind.Field K] (n : Nat) : pw (1 : K) n = 1 := by
  induction n with
  | zero => rfl
  | succ n ih => rw [pw_s, ih]; grind
theorem mul_z {K : Type} [Lean.Grind.Field K] {a b : K} (h : a * b = 0) (hb : b ≠ 0) : a = 0 := by
  have h1 := Lean.Grind.Field.mul_inv_cancel hb
  grind
theorem mul_nz {K : Type} [Lean.Grind.Field K] {a b : K} (ha : a ≠ 0) (hb : b ≠ 0) : a * b ≠ 0 := fun h => ha (mul_z h hb)
theorem pw_nz {K : Type} [Lean.Grind.Field K] {x : K} (hx : x ≠ 0) (n : Nat) : pw x n ≠ 0 := by
  induction n with
  | zero => exact fun h => Lean.Grind.Field.zero_ne_one h.symm
  | succ n ih => exact mul_nz ih hx
/-- the values of a row at the powers: none but the row of zeros has none -/
theorem vd_b {K : Type} [Lean.Grind.Field K] (n : Nat) (z X : Nat → K) (hX : ∀ i j, i < n → j < n → i ≠ j → X i ≠ X j) (h : ∀ t, t < n → sm (fun i => z i * pw (X i) t) n = 0) : ∀ i, i < n → z i = 0 := by
  induction n generalizing z with
  | zero => intro i hi; omega
  | succ n ih =>
    have h1 : ∀ i, i < n → z i * (X i - X n) = 0 := by
      apply ih (fun i => z i * (X i - X n)) (fun i j hi hj => hX i j (by omega) (by omega))
      intro t ht
      have a1 := h t (by omega)
      have a2 := h (t + 1) (by omega)
      rw [sm_s] at a1 a2
      have a3 : sm (fun i => z i * (X i - X n) * pw (X i) t) n = sm (fun i => z i * pw (X i) (t + 1)) n - X n * sm (fun i => z i * pw (X i) t) n := by
        rw [← sm_mul, ← sm_sub]
        apply sm_congr
        intro i _
        rw [pw_s]
        grind
      rw [a3]
      rw [pw_s] at a2
      grind
    have h2 : ∀ i, i < n → z i = 0 := by
      intro i hi
      apply mul_z (h1 i hi)
      have := hX i n (by omega) (by omega) (by omega)
      grind
    intro i hi
    by_cases e : i = n
    · subst e
      have a1 := h 0 (by omega)
      rw [sm_s, sm_zero (fun k hk => by rw [h2 k hk]; grind), pw_0] at a1
      grind
    · exact h2 i (by omega)
def ev {K : Type} [Lean.Grind.Field K] (a : Nat → K) (n : Nat) (x : K) : K := sm (fun i => a i * pw x i) n
theorem ev_head {K : Type} [Lean.Grind.Field K] (a : Nat → K) (n : Nat) (x : K) : ev a (n + 1) x = a 0 + x * ev (fun i => a (i + 1)) n x := by
  unfold ev
  rw [sm_head, ← sm_mul, pw_0]
  have : sm (fun i => a (i + 1) * pw x (i + 1)) n = sm (fun i => x * (a (i + 1) * pw x i)) n := by
    apply sm_congr
    intro i _
    rw [pw_s]; grind
  rw [this]; grind
theorem ev_div {K : Type} [Lean.Grind.Field K] (n : Nat) (a : Nat → K) (r : K) : ∃ b : Nat → K, (∀ x, ev a (n + 1) x = ev a (n + 1) r + (x - r) * ev b n x) ∧ ((∀ i, i < n → b i = 0) → ∀ i, 1 ≤ i → i < n + 1 → a i = 0) := by
  induction n generalizing a with
  | zero =>
    refine ⟨fun _ => 0, fun x => ?_, fun _ i h1 h2 => by omega⟩
    rw [ev_head, ev_head]
    unfold ev
    rw [sm_0, sm_0, sm_0]; grind
  | succ n ih =>
    obtain ⟨b, hb, hz⟩ := ih (fun i => a (i + 1))
    refine ⟨fun i => if i = 0 then ev (fun i => a (i + 1)) (n + 1) r else b (i - 1), fun x => ?_, fun h i h1 h2 => ?_⟩
    · rw [ev_head a, ev_head a (n + 1) r, hb x]
      rw [ev_head (fun i => if i = 0 then ev (fun i => a (i + 1)) (n + 1) r else b (i - 1))]
      have e : ev (fun i => (fun i => if i = 0 then ev (fun i => a (i + 1)) (n + 1) r else b (i - 1)) (i + 1)) n x = ev b n x := rfl
      rw [e]
      simp only [if_true]
      grind
    · have h0 : ev (fun i => a (i + 1)) (n + 1) r = 0 := h 0 (by omega)
      have hb0 : ∀ i, i < n → b i = 0 := fun i hi => h (i + 1) (by omega)
      have h3 := hz hb0
      by_cases e : i = 1
      · subst e
        rw [ev_head] at h0
        have h4 : ev (fun i => a (i + 1 + 1)) n r = 0 := by
          unfold ev
          apply sm_zero
          intro k hk
          show a (k + 1 + 1) * pw r k = 0
          rw [h3 (k + 1) (by omega) (by omega)]
          grind
        rw [h4] at h0
        grind
      · have := h3 (i - 1) (by omega) (by omega)
        rw [show i - 1 + 1 = i by omega] at this
        exact this
/-- as many zeros as coefficients: all are 0 -/
theorem vd_a {K : Type} [Lean.Grind.Field K] (n : Nat) (a X : Nat → K) (hX : ∀ i j, i < n → j < n → i ≠ j → X i ≠ X j) (h : ∀ i, i < n → ev a n (X i) = 0) : ∀ i, i < n → a i = 0 := by
  induction n generalizing a with
  | zero => intro i hi; omega
  | succ n ih =>
    obtain ⟨b, hb, hz⟩ := ev_div n a (X n)
    have h0 := h n (by omega)
    have hb0 : ∀ i, i < n → b i = 0 := by
      apply ih b (fun i j hi hj => hX i j (by omega) (by omega))
      intro i hi
      have h1 := hb (X i)
      rw [h i (by omega), h0] at h1
      have hne := hX i n (by omega) (by omega) (by omega)
      apply mul_z (b := X i - X n) _ (by grind)
      grind
    have h3 := hz hb0
    intro i hi
    by_cases e : i = 0
    · subst e
      rw [ev_head] at h0
      have h4 : ev (fun i => a (i + 1)) n (X n) = 0 := by
        unfold ev
        apply sm_zero
        intro k hk
        show a (k + 1) * pw (X n) k = 0
        rw [h3 (k + 1) (by omega) (by omega)]
        grind
      rw [h4] at h0
      grind
    · exact h3 i (by omega) hi
end
