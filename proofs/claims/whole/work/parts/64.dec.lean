/-! PURE PART: what the shortest recurrence tells (places, and what is wrong there); equations solved -/
section
def rv {K : Type} [Lean.Grind.Field K] (C : Nat → K) (L : Nat) (x : K) : K := sm (fun j => C j * pw x (L - j)) (L + 1)
theorem rv_ev {K : Type} [Lean.Grind.Field K] (C : Nat → K) (L : Nat) {x u : K} (h : x * u = 1) : ev C (L + 1) u = pw u L * rv C L x := by
  unfold ev rv
  rw [← sm_mul]
  apply sm_congr
  intro j hj
  have e : pw x (L - j) * pw u (L - j) = 1 := by rw [← pw_xy, h, pw_one]
  have e2 : pw u L = pw u j * pw u (L - j) := by rw [← pw_add, show j + (L - j) = L by omega]
  show C j * pw u j = pw u L * (C j * pw x (L - j))
  rw [e2]; grind
theorem rv_rev {K : Type} [Lean.Grind.Field K] (C : Nat → K) (L : Nat) (x : K) : rv C L x = ev (fun i => C (L - i)) (L + 1) x := by
  unfold ev rv
  have : ∀ (n : Nat) (f : Nat → K), sm f (n + 1) = sm (fun i => f (n - i)) (n + 1) := by
    intro n
    induction n with
    | zero => intro f; rfl
    | succ n ih =>
      intro f
      rw [sm_s, ih, sm_head (fun i => f (n + 1 - i))]
      have e : sm (fun i => f (n + 1 - (i + 1))) (n + 1) = sm (fun i => f (n - i)) (n + 1) := by
        apply sm_congr
        intro i _
        show f (n + 1 - (i + 1)) = f (n - i)
        rw [show n + 1 - (i + 1) = n - i by omega]
      rw [e]
      show _ = f (n + 1 - 0) + _
      rw [Nat.sub_zero]; grind
  rw [this]
  apply sm_congr
  intro i hi
  show C (L - i) * pw x (L - (L - i)) = C (L - i) * pw x i
  rw [show L - (L - i) = i by omega]
theorem ex_loc {K : Type} [Lean.Grind.Field K] (d : Nat) (X : Nat → K) : ∃ D : Nat → K, D 0 = 1 ∧ (∀ i, d < i → D i = 0) ∧ ∀ i, i < d → rv D d (X i) = 0 := by
  induction d with
  | zero => exact ⟨fun i => if i = 0 then 1 else 0, rfl, fun i hi => if_neg (by omega), fun i hi => by omega⟩
  | succ d ih =>
    obtain ⟨D, h1, h2, h3⟩ := ih
    have key : ∀ x, rv (fun i => D i - X d * sh D i) (d + 1) x = (x - X d) * rv D d x := by
      intro x
      unfold rv
      have e1 : sm (fun j => (D j - X d * sh D j) * pw x (d + 1 - j)) (d + 1 + 1) = sm (fun j => D j * pw x (d + 1 - j)) (d + 1 + 1) - X d * sm (fun j => sh D j * pw x (d + 1 - j)) (d + 1 + 1) := by
        rw [← sm_mul, ← sm_sub]
        apply sm_congr
        intro j _
        grind
      rw [e1, sm_s, sm_head (fun j => sh D j * pw x (d + 1 - j)), h2 (d + 1) (by omega)]
      have e2 : sm (fun j => D j * pw x (d + 1 - j)) (d + 1) = x * sm (fun j => D j * pw x (d - j)) (d + 1) := by
        rw [← sm_mul]
        apply sm_congr
        intro j hj
        show D j * pw x (d + 1 - j) = x * (D j * pw x (d - j))
        rw [show d + 1 - j = d - j + 1 by omega, pw_s]; grind
      have e3 : sm (fun i => sh D (i + 1) * pw x (d + 1 - (i + 1))) (d + 1) = sm (fun j => D j * pw x (d - j)) (d + 1) := by
        apply sm_congr
        intro j hj
        show D (j + 1 - 1) * pw x (d + 1 - (j + 1)) = D j * pw x (d - j)
        rw [show j + 1 - 1 = j by omega, show d + 1 - (j + 1) = d - j by omega]
      rw [e2, e3]
      have e4 : sh D 0 = 0 := rfl
      rw [e4]
      grind
    refine ⟨fun i => D i - X d * sh D i, ?_, fun i hi => ?_, fun i hi => ?_⟩
    · show D 0 - X d * 0 = 1
      rw [h1]; grind
    · show D i - X d * (if i = 0 then 0 else D (i - 1)) = 0
      rw [if_neg (by omega), h2 i (by omega), h2 (i - 1) (by omega)]; grind
    · rw [key]
      by_cases e : i = d
      · rw [e]; grind
      · rw [h3 i (by omega)]; grind
/-- a row that is a sum of powers goes on under a recurrence as its places do -/
theorem cv_pows {K : Type} [Lean.Grind.Field K] {S Y X C : Nat → K} {M d L : Nat} (hS : ∀ k, k < M → S k = sm (fun i => Y i * pw (X i) k) d) (hC : ∀ i, L < i → C i = 0) (k : Nat) (k1 : L ≤ k) (k2 : k < M) : cv C S k = sm (fun i => Y i * rv C L (X i) * pw (X i) (k - L)) d := by
  unfold cv
  rw [sm_trunc (n := k + 1) (m := L + 1) (by omega) (fun i h1 h2 => by rw [hC i (by omega)]; grind)]
  have e1 : sm (fun i => C i * S (k - i)) (L + 1) = sm (fun i => sm (fun l => C i * (Y l * pw (X l) (k - i))) d) (L + 1) := by
    apply sm_congr
    intro i hi
    rw [hS (k - i) (by omega), sm_mul]
  rw [e1, sm_swap]
  apply sm_congr
  intro l _
  unfold rv
  have e2 : sm (fun i => C i * (Y l * pw (X l) (k - i))) (L + 1) = sm (fun i => Y l * pw (X l) (k - L) * (C i * pw (X l) (L - i))) (L + 1) := by
    apply sm_congr
    intro i hi
    show C i * (Y l * pw (X l) (k - i)) = Y l * pw (X l) (k - L) * (C i * pw (X l) (L - i))
    rw [show k - i = (k - L) + (L - i) by omega, pw_add]; grind
  rw [e2, sm_mul]; grind
/-- the shortest recurrence of a sum of few powers: it has their length and their places -/
theorem bm_right {K : Type} [Lean.Grind.Field K] {S Y X C B : Nat → K} {E d L : Nat} {b : K} (h : BM S (2 * E) (2 * E) L C B b) (hd : d ≤ E) (hX : ∀ i j, i < d → j < d → i ≠ j → X i ≠ X j) (hY : ∀ i, i < d → Y i ≠ 0) (hS : ∀ k, k < 2 * E → S k = sm (fun i => Y i * pw (X i) k) d) : L = d ∧ ∀ i, i < d → rv C L (X i) = 0 := by
  obtain ⟨h1, ⟨h2, h3, h4⟩, h5, h6, h7, h8, h9⟩ := h
  obtain ⟨D, D1, D2, D3⟩ := ex_loc d X
  have hLd : L ≤ d := by
    apply h9 D d
    refine ⟨D1, D2, fun k k1 k2 => ?_⟩
    rw [cv_pows hS D2 k k1 k2]
    apply sm_zero
    intro i hi
    rw [D3 i hi]; grind
  have hz : ∀ i, i < d → Y i * rv C L (X i) = 0 := by
    apply vd_b d (fun i => Y i * rv C L (X i)) X hX
    intro t ht
    have := cv_pows hS h3 (L + t) (by omega) (by omega)
    rw [h4 (L + t) (by omega) (by omega), show L + t - L = t by omega] at this
    exact this.symm
  have hr : ∀ i, i < d → rv C L (X i) = 0 := by
    intro i hi
    apply mul_z (b := Y i) _ (hY i hi)
    have := hz i hi
    grind
  refine ⟨?_, hr⟩
  rcases Nat.lt_or_ge L d with hlt | hge
  · exfalso
    have := vd_a (L + 1) (fun i => C (L - i)) X (fun i j hi hj => hX i j (by omega) (by omega)) (fun i hi => by rw [← rv_rev]; exact hr i (by omega)) L (by omega)
    have h0 : C (L - L) = 0 := this
    rw [Nat.sub_self, h2] at h0
    exact Lean.Grind.Field.zero_ne_one h0.symm
  · omega
/-- as many places as a recurrence is long: the row is a sum of their powers -/
theorem vd_ex {K : Type} [Lean.Grind.Field K] (n : Nat) (X S : Nat → K) (hX : ∀ i j, i < n → j < n → i ≠ j → X i ≠ X j) : ∃ Y : Nat → K, ∀ k, k < n → sm (fun i => Y i * pw (X i) k) n = S k := by
  induction n generalizing S with
  | zero => exact ⟨fun _ => 0, fun k hk => by omega⟩
  | succ n ih =>
    obtain ⟨Z, hZ⟩ := ih (fun k => S (k + 1) - X n * S k) (fun i j hi hj => hX i j (by omega) (by omega))
    refine ⟨fun i => if i = n then S 0 - sm (fun l => Z l * (X l - X n)⁻¹) n else Z i * (X i - X n)⁻¹, ?_⟩
    have e0 : ∀ k, sm (fun i => (if i = n then S 0 - sm (fun l => Z l * (X l - X n)⁻¹) n else Z i * (X i - X n)⁻¹) * pw (X i) k) n = sm (fun i => Z i * (X i - X n)⁻¹ * pw (X i) k) n := by
      intro k
      apply sm_congr
      intro i hi
      rw [if_neg (by omega)]
    intro k
    induction k with
    | zero =>
      intro _
      rw [sm_s, e0]
      dsimp only
      rw [if_pos rfl]
      have : sm (fun i => Z i * (X i - X n)⁻¹ * pw (X i) 0) n = sm (fun l => Z l * (X l - X n)⁻¹) n := by
        apply sm_congr
        intro i _
        rw [pw_0]; grind
      rw [this, pw_0]; grind
    | succ k ihk =>
      intro hk
      have a := ihk (by omega)
      rw [sm_s, e0] at a ⊢
      dsimp only at a ⊢
      rw [if_pos rfl] at a ⊢
      have hz := hZ k (by omega)
      have e1 : sm (fun i => Z i * pw (X i) k) n = sm (fun i => Z i * (X i - X n)⁻¹ * pw (X i) (k + 1)) n - X n * sm (fun i => Z i * (X i - X n)⁻¹ * pw (X i) k) n := by
        rw [← sm_mul, ← sm_sub]
        apply sm_congr
        intro i hi
        have hne : X i - X n ≠ 0 := by
          have := hX i n (by omega) (by omega) (by omega)
          grind
        have h1 := Lean.Grind.Field.mul_inv_cancel hne
        show Z i * pw (X i) k = Z i * (X i - X n)⁻¹ * pw (X i) (k + 1) - X n * (Z i * (X i - X n)⁻¹ * pw (X i) k)
        rw [pw_s]; grind
      rw [hz] at e1
      rw [pw_s]
      grind
theorem rec_pows {K : Type} [Lean.Grind.Field K] {S X C : Nat → K} {M L : Nat} (h : Rec S M C L) (hX : ∀ i j, i < L → j < L → i ≠ j → X i ≠ X j) (hr : ∀ i, i < L → rv C L (X i) = 0) : ∃ Y : Nat → K, ∀ k, k < M → S k = sm (fun i => Y i * pw (X i) k) L := by
  obtain ⟨h1, h2, h3⟩ := h
  obtain ⟨Y, hY⟩ := vd_ex L X S hX
  refine ⟨Y, ?_⟩
  have key : ∀ n k, k < n → k < M → S k - sm (fun i => Y i * pw (X i) k) L = 0 := by
    intro n
    induction n with
    | zero => intro k hk; omega
    | succ n ih =>
      intro k hk hM
      by_cases e : k < L
      · rw [hY k e]; grind
      · have c1 := h3 k (by omega) hM
        have c2 : cv C (fun k => sm (fun i => Y i * pw (X i) k) L) k = 0 := by
          rw [cv_pows (M := M) (Y := Y) (X := X) (d := L) (fun k _ => rfl) h2 k (by omega) hM]
          apply sm_zero
          intro i hi
          rw [hr i hi]; grind
        unfold cv at c1 c2
        have c3 : sm (fun i => C i * (S (k - i) - sm (fun l => Y l * pw (X l) (k - i)) L)) (k + 1) = 0 := by
          have : sm (fun i => C i * (S (k - i) - sm (fun l => Y l * pw (X l) (k - i)) L)) (k + 1) = sm (fun i => C i * S (k - i)) (k + 1) - sm (fun i => C i * sm (fun l => Y l * pw (X l) (k - i)) L) (k + 1) := by
            rw [← sm_sub]
            apply sm_congr
            intro i _
            grind
          rw [this, c1, c2]; grind
        rw [sm_one (a := 0) (by omega)] at c3
        · have c4 : C 0 * (S (k - 0) - sm (fun l => Y l * pw (X l) (k - 0)) L) = 0 := c3
          rw [h1, Nat.sub_zero] at c4
          grind
        · intro i hi h0
          show C i * (S (k - i) - sm (fun l => Y l * pw (X l) (k - i)) L) = 0
          rw [ih (k - i) (by omega) (by omega)]; grind
  intro k hk
  have := key (k + 1) k (by omega) hk
  grind
end
