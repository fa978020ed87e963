/-! PURE PART: recurrences (Berlekamp, Massey) -/
section
theorem sm_trunc {K : Type} [Lean.Grind.Field K] {f : Nat → K} {n m : Nat} (hm : m ≤ n) (h : ∀ i, m ≤ i → i < n → f i = 0) : sm f n = sm f m := by
  obtain ⟨k, rfl⟩ : ∃ k, n = m + k := ⟨n - m, by omega⟩
  rw [sm_split, sm_zero (n := k) (f := fun i => f (m + i)) (fun i hi => h (m + i) (by omega) (by omega))]
  grind
def cv {K : Type} [Lean.Grind.Field K] (c s : Nat → K) (k : Nat) : K := sm (fun i => c i * s (k - i)) (k + 1)
def sh {K : Type} [Lean.Grind.Field K] (f : Nat → K) (i : Nat) : K := if i = 0 then 0 else f (i - 1)
theorem cv_sh0 {K : Type} [Lean.Grind.Field K] (f s : Nat → K) : cv (sh f) s 0 = 0 := by
  unfold cv
  rw [sm_s, sm_0]
  show (0 : K) + 0 * s 0 = 0
  grind
theorem cv_sh {K : Type} [Lean.Grind.Field K] (f s : Nat → K) (k : Nat) : cv (sh f) s (k + 1) = cv f s k := by
  unfold cv
  rw [sm_head]
  have e : sm (fun i => sh f (i + 1) * s (k + 1 - (i + 1))) (k + 1) = sm (fun i => f i * s (k - i)) (k + 1) := by
    apply sm_congr
    intro i _
    show f (i + 1 - 1) * s (k + 1 - (i + 1)) = f i * s (k - i)
    rw [show i + 1 - 1 = i by omega, show k + 1 - (i + 1) = k - i by omega]
  rw [e]
  show (0 : K) * s (k + 1 - 0) + _ = _
  grind
theorem cv_lin {K : Type} [Lean.Grind.Field K] (f g s : Nat → K) (q : K) (k : Nat) : cv (fun i => f i - q * g i) s k = cv f s k - q * cv g s k := by
  unfold cv
  rw [← sm_mul, ← sm_sub]
  apply sm_congr
  intro i _
  grind
theorem cv_z {K : Type} [Lean.Grind.Field K] {f s : Nat → K} {k : Nat} (h : ∀ i, i ≤ k → f i = 0) : cv f s k = 0 := by
  unfold cv
  apply sm_zero
  intro i hi
  rw [h i (by omega)]
  grind
/-- a product of three does not hang on the order -/
theorem cv_comm {K : Type} [Lean.Grind.Field K] (c d s : Nat → K) (n : Nat) : cv d (cv c s) n = cv c (cv d s) n := by
  have key : ∀ (c d : Nat → K), cv d (cv c s) n = sm (fun i => sm (fun j => if i + j ≤ n then d i * c j * s (n - i - j) else 0) (n + 1)) (n + 1) := by
    intro c d
    unfold cv
    apply sm_congr
    intro i hi
    rw [← sm_mul]
    rw [sm_trunc (n := n + 1) (m := n - i + 1) (f := fun j => if i + j ≤ n then d i * c j * s (n - i - j) else 0) (by omega) (fun k h1 h2 => if_neg (by omega))]
    apply sm_congr
    intro j hj
    show d i * (c j * s (n - i - j)) = if i + j ≤ n then d i * c j * s (n - i - j) else 0
    rw [if_pos (by omega)]
    grind
  rw [key c d, key d c, sm_swap]
  apply sm_congr
  intro i _
  apply sm_congr
  intro j _
  by_cases h : j + i ≤ n
  · rw [if_pos h, if_pos (by omega), show n - j - i = n - i - j by omega]
    grind
  · rw [if_neg h, if_neg (by omega)]
/-- a row of coefficients that goes on from 1, of a length, under which a row goes on as far as M -/
def Rec {K : Type} [Lean.Grind.Field K] (S : Nat → K) (M : Nat) (D : Nat → K) (d : Nat) : Prop := D 0 = 1 ∧ (∀ i, d < i → D i = 0) ∧ (∀ k, d ≤ k → k < M → cv D S k = 0)
def BM {K : Type} [Lean.Grind.Field K] (S : Nat → K) (M N L : Nat) (C B : Nat → K) (b : K) : Prop :=
  L ≤ N ∧ Rec S N C L ∧ b ≠ 0 ∧ B 0 = 0 ∧ (∀ i, N + 1 - L < i → B i = 0) ∧
  ((L = 0 ∧ (∀ i, B i = if i = N + 1 then 1 else 0) ∧ b = 1) ∨ (1 ≤ L ∧ (∀ k, N + 1 - L ≤ k → k < N → cv B S k = 0) ∧ cv B S N = b)) ∧
  (∀ D d, Rec S M D d → L ≤ d)
theorem bm_start {K : Type} [Lean.Grind.Field K] (S : Nat → K) (M : Nat) : BM S M 0 0 (fun i => if i = 0 then 1 else 0) (fun i => if i = 1 then 1 else 0) 1 := by
  refine ⟨by omega, ⟨rfl, fun i hi => if_neg (by omega), fun k h1 h2 => by omega⟩, fun h => Lean.Grind.Field.zero_ne_one h.symm, rfl, fun i hi => if_neg (by omega), Or.inl ⟨rfl, fun i => rfl, rfl⟩, fun D d _ => by omega⟩
theorem bm_same {K : Type} [Lean.Grind.Field K] {S : Nat → K} {M N L : Nat} {C B : Nat → K} {b : K} (h : BM S M N L C B b) (hd : cv C S N = 0) : BM S M (N + 1) L C (sh B) b := by
  obtain ⟨h1, ⟨h2, h3, h4⟩, h5, h6, h7, h8, h9⟩ := h
  refine ⟨by omega, ⟨h2, h3, fun k k1 k2 => ?_⟩, h5, rfl, fun i hi => ?_, ?_, h9⟩
  · by_cases e : k = N
    · rw [e]; exact hd
    · exact h4 k k1 (by omega)
  · show (if i = 0 then 0 else B (i - 1)) = 0
    rw [if_neg (by omega)]
    exact h7 _ (by omega)
  · rcases h8 with ⟨a1, a2, a3⟩ | ⟨a1, a2, a3⟩
    · left
      refine ⟨a1, fun i => ?_, a3⟩
      show (if i = 0 then 0 else B (i - 1)) = _
      by_cases e : i = 0
      · rw [if_pos e, if_neg (by omega)]
      · rw [if_neg e, a2]
        by_cases e2 : i = N + 1 + 1
        · rw [if_pos (by omega), if_pos e2]
        · rw [if_neg (by omega), if_neg e2]
    · right
      refine ⟨a1, fun k k1 k2 => ?_, ?_⟩
      · obtain ⟨m, rfl⟩ : ∃ m, k = m + 1 := ⟨k - 1, by omega⟩
        rw [cv_sh]
        exact a2 m (by omega) (by omega)
      · rw [cv_sh]; exact a3
theorem bm_fix {K : Type} [Lean.Grind.Field K] {S : Nat → K} {M N L : Nat} {C B : Nat → K} {b : K} (h : BM S M N L C B b) (q : K) (hq : q * b = cv C S N) (k : Nat) (k1 : L ≤ k ∧ N + 1 - L ≤ k) (k2 : k < N + 1) : cv (fun i => C i - q * B i) S k = 0 := by
  obtain ⟨h1, ⟨h2, h3, h4⟩, h5, h6, h7, h8, h9⟩ := h
  rw [cv_lin]
  rcases h8 with ⟨a1, a2, a3⟩ | ⟨a1, a2, a3⟩
  · omega
  · by_cases e : k = N
    · rw [e, a3]; grind
    · rw [h4 k k1.1 (by omega), a2 k k1.2 (by omega)]; grind
theorem bm_in {K : Type} [Lean.Grind.Field K] {S : Nat → K} {M N L : Nat} {C B : Nat → K} {b : K} (h : BM S M N L C B b) (q : K) (hq : q * b = cv C S N) (hL : N < 2 * L) : BM S M (N + 1) L (fun i => C i - q * B i) (sh B) b := by
  have hf := bm_fix h q hq
  obtain ⟨h1, ⟨h2, h3, h4⟩, h5, h6, h7, h8, h9⟩ := h
  refine ⟨by omega, ⟨?_, fun i hi => ?_, fun k k1 k2 => hf k ⟨k1, by omega⟩ k2⟩, h5, rfl, fun i hi => ?_, ?_, h9⟩
  · show C 0 - q * B 0 = 1
    rw [h2, h6]; grind
  · show C i - q * B i = 0
    rw [h3 i hi, h7 i (by omega)]; grind
  · show (if i = 0 then 0 else B (i - 1)) = 0
    rw [if_neg (by omega)]
    exact h7 _ (by omega)
  · rcases h8 with ⟨a1, a2, a3⟩ | ⟨a1, a2, a3⟩
    · omega
    · right
      refine ⟨a1, fun k k1 k2 => ?_, ?_⟩
      · obtain ⟨m, rfl⟩ : ∃ m, k = m + 1 := ⟨k - 1, by omega⟩
        rw [cv_sh]
        exact a2 m (by omega) (by omega)
      · rw [cv_sh]; exact a3
theorem bm_low {K : Type} [Lean.Grind.Field K] {S : Nat → K} {M N L d : Nat} {C D : Nat → K} (hC : Rec S N C L) (hD : Rec S M D d) (hN : N < M) (hd : cv C S N ≠ 0) : N + 1 ≤ L + d := by
  obtain ⟨c1, c2, c3⟩ := hC
  obtain ⟨d1, d2, d3⟩ := hD
  rcases Nat.lt_or_ge N (L + d) with h | h
  · omega
  · exfalso
    apply hd
    have e := cv_comm C D S N
    have e1 : cv C (cv D S) N = 0 := by
      unfold cv
      apply sm_zero
      intro i hi
      by_cases hi2 : i ≤ L
      · have := d3 (N - i) (by omega) (by omega)
        unfold cv at this
        rw [this]; grind
      · rw [c2 i (by omega)]; grind
    have e2 : cv D (cv C S) N = cv C S N := by
      show sm (fun i => D i * cv C S (N - i)) (N + 1) = _
      rw [sm_one (a := 0) (by omega)]
      · show D 0 * cv C S (N - 0) = _
        rw [d1, Nat.sub_zero]; grind
      · intro i hi h0
        show D i * cv C S (N - i) = 0
        by_cases hi2 : i ≤ d
        · rw [c3 (N - i) (by omega) (by omega)]; grind
        · rw [d2 i (by omega)]; grind
    rw [← e2, e, e1]
theorem bm_grow {K : Type} [Lean.Grind.Field K] {S : Nat → K} {M N L : Nat} {C B : Nat → K} {b : K} (h : BM S M N L C B b) (hN : N < M) (q : K) (hq : q * b = cv C S N) (hd : cv C S N ≠ 0) (hL : 2 * L ≤ N) : BM S M (N + 1) (N + 1 - L) (fun i => C i - q * B i) (sh C) (cv C S N) := by
  have hf := bm_fix h q hq
  have h0 := h
  obtain ⟨h1, ⟨h2, h3, h4⟩, h5, h6, h7, h8, h9⟩ := h
  refine ⟨by omega, ⟨?_, fun i hi => ?_, fun k k1 k2 => ?_⟩, hd, rfl, fun i hi => ?_, Or.inr ⟨by omega, fun k k1 k2 => ?_, ?_⟩, fun D d hD => ?_⟩
  · show C 0 - q * B 0 = 1
    rw [h2, h6]; grind
  · show C i - q * B i = 0
    rw [h3 i (by omega), h7 i (by omega)]; grind
  · by_cases e : L = 0
    · omega
    · exact hf k ⟨by omega, k1⟩ k2
  · show (if i = 0 then 0 else C (i - 1)) = 0
    rw [if_neg (by omega)]
    exact h3 _ (by omega)
  · obtain ⟨m, rfl⟩ : ∃ m, k = m + 1 := ⟨k - 1, by omega⟩
    rw [cv_sh]
    exact h4 m (by omega) (by omega)
  · rw [cv_sh]
  · have := bm_low ⟨h2, h3, h4⟩ hD hN hd
    omega
end
