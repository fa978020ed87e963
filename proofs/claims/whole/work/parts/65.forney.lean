/-! PURE PART: Forney's rule; Gauss; words and distances -/
section
def odd1 {K : Type} [Lean.Grind.Field K] (c : Nat → K) (L : Nat) : K := sm (fun i => if i % 2 = 1 then c i else 0) (L + 1)
theorem tri {K : Type} [Lean.Grind.Field K] (h2 : ∀ x : K, x + x = 0) (c : Nat → K) (L : Nat) : sm (fun n => sm c (n + 1)) L = (if L % 2 = 1 then sm c (L + 1) else 0) + odd1 c L := by
  induction L with
  | zero =>
    show (0 : K) = (if 0 % 2 = 1 then sm c (0 + 1) else 0) + ((0 : K) + (if 0 % 2 = 1 then c 0 else 0))
    rw [if_neg (by decide), if_neg (by decide)]; grind
  | succ L ih =>
    rw [sm_s, ih]
    have e : odd1 c (L + 1) = odd1 c L + (if (L + 1) % 2 = 1 then c (L + 1) else 0) := rfl
    rw [e]
    have a1 := h2 (sm c (L + 1))
    have a2 := h2 (c (L + 1))
    rcases Nat.mod_two_eq_zero_or_one L with h | h
    · rw [if_neg (by omega), if_pos (by omega), if_pos (by omega), sm_s c (L + 1)]; grind
    · rw [if_pos h, if_neg (by omega), if_neg (by omega)]; grind
/-- one place's part in the evaluator -/
def qv {K : Type} [Lean.Grind.Field K] (C : Nat → K) (x : K) (n : Nat) : K := cv C (fun k => pw x k) n
theorem cv_qv {K : Type} [Lean.Grind.Field K] {S Y X : Nat → K} {M d : Nat} (C : Nat → K) (hS : ∀ k, k < M → S k = sm (fun i => Y i * pw (X i) k) d) (n : Nat) (hn : n < M) : cv C S n = sm (fun l => Y l * qv C (X l) n) d := by
  unfold qv cv
  have e1 : sm (fun i => C i * S (n - i)) (n + 1) = sm (fun i => sm (fun l => C i * (Y l * pw (X l) (n - i))) d) (n + 1) := by
    apply sm_congr
    intro i hi
    rw [hS (n - i) (by omega), sm_mul]
  rw [e1, sm_swap]
  apply sm_congr
  intro l _
  rw [← sm_mul]
  apply sm_congr
  intro i _
  grind
theorem qv_same {K : Type} [Lean.Grind.Field K] (h2 : ∀ x : K, x + x = 0) (C : Nat → K) (L : Nat) {x u : K} (hu : x * u = 1) (hr : rv C L x = 0) : ev (qv C x) L u = odd1 (fun i => C i * pw u i) L := by
  have hz : ev C (L + 1) u = 0 := by rw [rv_ev C L hu, hr]; grind
  have e : ev (qv C x) L u = sm (fun n => sm (fun i => C i * pw u i) (n + 1)) L := by
    unfold ev qv cv
    apply sm_congr
    intro n _
    have : sm (fun i => C i * pw x (n - i)) (n + 1) * pw u n = pw u n * sm (fun i => C i * pw x (n - i)) (n + 1) := by grind
    rw [this, ← sm_mul]
    apply sm_congr
    intro i hi
    have e1 : pw x (n - i) * pw u (n - i) = 1 := by rw [← pw_xy, hu, pw_one]
    have e2 : pw u n = pw u i * pw u (n - i) := by rw [← pw_add, show i + (n - i) = n by omega]
    show pw u n * (C i * pw x (n - i)) = C i * pw u i
    rw [e2]; grind
  rw [e, tri h2]
  have hz2 : sm (fun i => C i * pw u i) (L + 1) = 0 := hz
  rw [hz2]
  by_cases h : L % 2 = 1
  · rw [if_pos h]; grind
  · rw [if_neg h]; grind
theorem qv_other {K : Type} [Lean.Grind.Field K] (C : Nat → K) (L : Nat) {x y u : K} (hu : x * u = 1) (hx : rv C L x = 0) (hy : rv C L y = 0) (hne : y ≠ x) : ev (qv C y) L u = 0 := by
  have hz : ev C (L + 1) u = 0 := by rw [rv_ev C L hu, hx]; grind
  have hs : ∀ n, qv C y (n + 1) = y * qv C y n + C (n + 1) := by
    intro n
    unfold qv cv
    dsimp only
    rw [sm_s, ← sm_mul]
    have : sm (fun i => C i * pw y (n + 1 - i)) (n + 1) = sm (fun i => y * (C i * pw y (n - i))) (n + 1) := by
      apply sm_congr
      intro i hi
      show C i * pw y (n + 1 - i) = y * (C i * pw y (n - i))
      rw [show n + 1 - i = n - i + 1 by omega, pw_s]; grind
    rw [this, Nat.sub_self, pw_0]; grind
  have h0 : qv C y 0 = C 0 := by
    unfold qv cv
    rw [sm_s, sm_0]
    show 0 + C 0 * 1 = C 0
    grind
  have hL : qv C y L = 0 := hy
  have key : ∀ n, ev (qv C y) (n + 1) u = y * u * ev (qv C y) n u + ev C (n + 1) u := by
    intro n
    induction n with
    | zero =>
      unfold ev
      rw [sm_s, sm_s, sm_0, sm_0, h0]; grind
    | succ n ih =>
      unfold ev at ih ⊢
      have a := hs n
      rw [sm_s (fun i => C i * pw u i) (n + 1), sm_s (fun i => qv C y i * pw u i) (n + 1), pw_s, a]
      rw [sm_s (fun i => qv C y i * pw u i) n] at ih ⊢
      grind
  have k1 := key L
  rw [hz] at k1
  have k2 : ev (qv C y) (L + 1) u = ev (qv C y) L u + qv C y L * pw u L := rfl
  rw [k2, hL] at k1
  apply mul_z (b := y - x)
  · grind
  · grind
/-- Forney's rule -/
theorem forney {K : Type} [Lean.Grind.Field K] (h2 : ∀ x : K, x + x = 0) {S Y X U C : Nat → K} {M L : Nat} (hC : C 0 = 1) (hM : L ≤ M) (hS : ∀ k, k < M → S k = sm (fun i => Y i * pw (X i) k) L) (hX : ∀ i j, i < L → j < L → i ≠ j → X i ≠ X j) (hU : ∀ i, i < L → X i * U i = 1) (hr : ∀ i, i < L → rv C L (X i) = 0) (a : Nat) (ha : a < L) : ev (cv C S) L (U a) = Y a * odd1 (fun i => C i * pw (U a) i) L ∧ odd1 (fun i => C i * pw (U a) i) L ≠ 0 := by
  constructor
  · have e : ev (cv C S) L (U a) = sm (fun l => Y l * ev (qv C (X l)) L (U a)) L := by
      unfold ev
      have e1 : sm (fun i => cv C S i * pw (U a) i) L = sm (fun i => sm (fun l => Y l * (qv C (X l) i * pw (U a) i)) L) L := by
        apply sm_congr
        intro i hi
        rw [cv_qv C hS i (by omega)]
        have : sm (fun l => Y l * qv C (X l) i) L * pw (U a) i = pw (U a) i * sm (fun l => Y l * qv C (X l) i) L := by grind
        rw [this, ← sm_mul]
        apply sm_congr
        intro l _
        grind
      rw [e1, sm_swap]
      apply sm_congr
      intro l _
      rw [sm_mul]
    rw [e, sm_one ha]
    · rw [qv_same h2 C L (hU a ha) (hr a ha)]
    · intro l hl hne
      rw [qv_other C L (hU a ha) (hr a ha) (hr l hl) (hX l a hl ha hne)]; grind
  · intro hz
    have hall : ∀ l, l < L → ev (qv C (X a)) L (U l) = 0 := by
      intro l hl
      by_cases e : l = a
      · subst e
        rw [qv_same h2 C L (hU l hl) (hr l hl)]
        exact hz
      · exact qv_other C L (hU l hl) (hr l hl) (hr a ha) (hX a l ha hl (fun h => e h.symm))
    have hUd : ∀ i j, i < L → j < L → i ≠ j → U i ≠ U j := by
      intro i j hi hj hne he
      apply hX i j hi hj hne
      have u1 := hU i hi
      have u2 := hU j hj
      rw [he] at u1
      grind
    have h0 := vd_a L (qv C (X a)) U hUd hall 0 (by omega)
    unfold qv cv at h0
    rw [sm_s, sm_0] at h0
    have h1 : (0 : K) + C 0 * 1 = 0 := h0
    rw [hC] at h1
    exact Lean.Grind.Field.zero_ne_one (α := K) (by grind)
/-- Gauss -/
def Ker {K : Type} [Lean.Grind.Field K] (n : Nat) (M : Nat → Nat → K) (y : Nat → K) : Prop := ∀ r, r < n → sm (fun c => M r c * y c) (n + 1) = 0
def gst {K : Type} [Lean.Grind.Field K] (M : Nat → Nat → K) (c p : Nat) (r k : Nat) : K :=
  if r = c then M p k * (M p c)⁻¹ else (if r = p then M c k else M r k) + (if r = p then M c c else M r c) * (M p k * (M p c)⁻¹)
def Unit {K : Type} [Lean.Grind.Field K] (n : Nat) (M : Nat → Nat → K) (c : Nat) : Prop := ∀ k, k < c → ∀ r, r < n → M r k = if r = k then 1 else 0
theorem gs_ker {K : Type} [Lean.Grind.Field K] (h2 : ∀ x : K, x + x = 0) {n : Nat} {M : Nat → Nat → K} {c p : Nat} (hc : c < n) (hp : p < n) (hne : M p c ≠ 0) (y : Nat → K) : Ker n (gst M c p) y ↔ Ker n M y := by
  have hi := Lean.Grind.Field.mul_inv_cancel hne
  have e1 : sm (fun k => gst M c p c k * y k) (n + 1) = (M p c)⁻¹ * sm (fun k => M p k * y k) (n + 1) := by
    rw [← sm_mul]
    apply sm_congr
    intro k _
    unfold gst
    rw [if_pos rfl]; grind
  have e2 : ∀ r, r ≠ c → sm (fun k => gst M c p r k * y k) (n + 1) = sm (fun k => (if r = p then M c k else M r k) * y k) (n + 1) + ((if r = p then M c c else M r c) * (M p c)⁻¹) * sm (fun k => M p k * y k) (n + 1) := by
    intro r hr
    rw [← sm_mul, ← sm_add]
    apply sm_congr
    intro k _
    unfold gst
    rw [if_neg hr]; grind
  constructor
  · intro h r hr
    have h0 : sm (fun k => M p k * y k) (n + 1) = 0 := by
      have := h c hc
      rw [e1] at this
      have h3 : sm (fun k => M p k * y k) (n + 1) = M p c * ((M p c)⁻¹ * sm (fun k => M p k * y k) (n + 1)) := by grind
      rw [h3, this]; grind
    by_cases er : r = p
    · rw [er]; exact h0
    · by_cases ec : r = c
      · have hpc : p ≠ c := fun h => er (ec.trans h.symm)
        have := h p hp
        rw [e2 p hpc, h0] at this
        simp only [if_true] at this
        rw [ec]
        grind
      · have := h r hr
        rw [e2 r ec, h0] at this
        simp only [er, if_false] at this
        grind
  · intro h r hr
    have h0 := h p hp
    by_cases ec : r = c
    · rw [ec, e1, h0]; grind
    · rw [e2 r ec, h0]
      by_cases er : r = p
      · simp only [er, if_true]
        rw [h c hc]; grind
      · simp only [er, if_false]
        rw [h r hr]; grind
theorem gs_unit {K : Type} [Lean.Grind.Field K] (h2 : ∀ x : K, x + x = 0) {n : Nat} {M : Nat → Nat → K} {c p : Nat} (hc : c < n) (hp : p < n) (hcp : c ≤ p) (hne : M p c ≠ 0) (hU : Unit n M c) : Unit n (gst M c p) (c + 1) := by
  have hi := Lean.Grind.Field.mul_inv_cancel hne
  intro k hk r hr
  unfold gst
  by_cases e : k = c
  · subst e
    by_cases er : r = k
    · rw [if_pos er, if_pos er]; grind
    · rw [if_neg er, if_neg er]
      have a1 := h2 (if r = p then M k k else M r k)
      have a2 : (if r = p then M k k else M r k) * (M p k * (M p k)⁻¹) = (if r = p then M k k else M r k) := by rw [hi]; grind
      rw [a2]; exact a1
  · have hk2 : k < c := by omega
    have z1 := hU k hk2 p hp
    rw [if_neg (by omega)] at z1
    have z2 := hU k hk2 c hc
    rw [if_neg (by omega)] at z2
    have z3 := hU k hk2 r hr
    by_cases er : r = c
    · rw [if_pos er, z1, if_neg (by omega)]; grind
    · rw [if_neg er, z1]
      by_cases ep : r = p
      · rw [if_pos ep, if_pos ep, z2, if_neg (by omega)]; grind
      · rw [if_neg ep, z3]; grind
theorem gs_none {K : Type} [Lean.Grind.Field K] (h2 : ∀ x : K, x + x = 0) {n : Nat} {M : Nat → Nat → K} {c : Nat} (hc : c < n) (hz : ∀ r, c ≤ r → r < n → M r c = 0) (hU : Unit n M c) : ∃ y : Nat → K, Ker n M y ∧ y n = 0 ∧ y c = 1 := by
  refine ⟨fun k => if k = c then 1 else if k < c then M k c else 0, ?_, ?_, if_pos rfl⟩
  · intro r hr
    rw [sm_trunc (n := n + 1) (m := c + 1) (by omega) (fun i h1 h3 => by show M r i * (if i = c then 1 else if i < c then M i c else 0) = 0; rw [if_neg (by omega), if_neg (by omega)]; grind), sm_s]
    simp only [if_true]
    by_cases hrc : r < c
    · rw [sm_one (a := r) hrc]
      · rw [if_neg (by omega), if_pos hrc, hU r hrc r hr, if_pos rfl]
        have := h2 (M r c)
        grind
      · intro i hi hne
        rw [hU i hi r hr, if_neg (fun h => hne h.symm)]; grind
    · rw [sm_zero, hz r (by omega) hr]
      · grind
      · intro i hi
        rw [hU i hi r hr, if_neg (by omega)]; grind
  · show (if n = c then 1 else if n < c then M n c else 0) = (0 : K)
    rw [if_neg (by omega), if_neg (by omega)]
theorem gs_done {K : Type} [Lean.Grind.Field K] (h2 : ∀ x : K, x + x = 0) {n : Nat} {M : Nat → Nat → K} (hU : Unit n M n) (y : Nat → K) (hy : y n = 1) : Ker n M y ↔ ∀ r, r < n → y r = M r n := by
  have e : ∀ r, r < n → sm (fun c => M r c * y c) (n + 1) = y r + M r n := by
    intro r hr
    rw [sm_s, hy, sm_one (a := r) hr]
    · rw [hU r hr r hr, if_pos rfl]; grind
    · intro i hi hne
      rw [hU i hi r hr, if_neg (fun h => hne h.symm)]; grind
  constructor
  · intro h r hr
    have a := h r hr
    rw [e r hr] at a
    have := h2 (M r n)
    grind
  · intro h r hr
    rw [e r hr, h r hr]
    exact h2 _
end
