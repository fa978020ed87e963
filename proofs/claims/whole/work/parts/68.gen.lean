/-! PURE PART: the check bytes by division -/
section
def gnp {K : Type} [Lean.Grind.Field K] (g : K) (b : Nat) : Nat → Nat → K
  | 0 => fun k => if k = 0 then 1 else 0
  | i + 1 => fun k => sh (gnp g b i) k + gnp g b i k * pw g (b + i)
theorem gnp_far {K : Type} [Lean.Grind.Field K] (g : K) (b i : Nat) : ∀ k, i < k → gnp g b i k = 0 := by
  induction i with
  | zero => intro k hk; exact if_neg (by omega)
  | succ i ih =>
    intro k hk
    show (if k = 0 then 0 else gnp g b i (k - 1)) + gnp g b i k * pw g (b + i) = 0
    rw [if_neg (by omega), ih (k - 1) (by omega), ih k (by omega)]; grind
theorem gnp_top {K : Type} [Lean.Grind.Field K] (g : K) (b i : Nat) : gnp g b i i = 1 := by
  induction i with
  | zero => rfl
  | succ i ih =>
    show (if i + 1 = 0 then 0 else gnp g b i (i + 1 - 1)) + gnp g b i (i + 1) * pw g (b + i) = 1
    rw [if_neg (by omega), show i + 1 - 1 = i by omega, ih, gnp_far g b i (i + 1) (by omega)]; grind
theorem ev_sh {K : Type} [Lean.Grind.Field K] (a : Nat → K) (n : Nat) (x : K) : ev (sh a) (n + 1) x = x * ev a n x := by
  rw [ev_head]
  have e1 : ev (fun i => sh a (i + 1)) n x = ev a n x := by
    unfold ev
    apply sm_congr
    intro i _
    show a (i + 1 - 1) * _ = _
    rw [show i + 1 - 1 = i by omega]
  rw [e1]
  show (0 : K) + _ = _
  grind
theorem gnp_ev {K : Type} [Lean.Grind.Field K] (g : K) (b i : Nat) (x : K) : ev (gnp g b (i + 1)) (i + 1 + 1) x = (x + pw g (b + i)) * ev (gnp g b i) (i + 1) x := by
  have e1 : ev (gnp g b (i + 1)) (i + 1 + 1) x = ev (sh (gnp g b i)) (i + 1 + 1) x + pw g (b + i) * ev (gnp g b i) (i + 1 + 1) x := by
    unfold ev
    rw [← sm_mul, ← sm_add]
    apply sm_congr
    intro k _
    show (sh (gnp g b i) k + gnp g b i k * pw g (b + i)) * pw x k = _
    grind
  have e2 : ev (gnp g b i) (i + 1 + 1) x = ev (gnp g b i) (i + 1) x := by
    unfold ev
    rw [sm_s, gnp_far g b i (i + 1) (by omega)]; grind
  rw [e1, ev_sh, e2]; grind
theorem gnp_root {K : Type} [Lean.Grind.Field K] (h2 : ∀ x : K, x + x = 0) (g : K) (b i m : Nat) (hm : m < i) : ev (gnp g b i) (i + 1) (pw g (b + m)) = 0 := by
  induction i with
  | zero => omega
  | succ i ih =>
    rw [gnp_ev]
    by_cases e : m = i
    · rw [e, h2]; grind
    · rw [ih (by omega)]; grind
def rmd {K : Type} [Lean.Grind.Field K] (gen : Nat → K) (n : Nat) (w : Nat → K) : Nat → Nat → K
  | 0 => fun _ => 0
  | t + 1 => fun k => if k < n then sh (rmd gen n w t) k + (rmd gen n w t (n - 1) + w t) * gen k else 0
theorem rmd_ev {K : Type} [Lean.Grind.Field K] (h2 : ∀ x : K, x + x = 0) {gen : Nat → K} {n : Nat} (hn : 0 < n) {x : K} (w : Nat → K) (hg : gen n = 1) (hx : ev gen (n + 1) x = 0) (t : Nat) : ev (rmd gen n w t) n x = hr w x t * pw x n := by
  induction t with
  | zero =>
    show sm (fun i => 0 * pw x i) n = 0 * pw x n
    rw [sm_zero (fun i _ => by grind)]; grind
  | succ t ih =>
    have e1 : ev (rmd gen n w (t + 1)) n x = ev (sh (rmd gen n w t)) n x + (rmd gen n w t (n - 1) + w t) * ev gen n x := by
      unfold ev
      rw [← sm_mul, ← sm_add]
      apply sm_congr
      intro k hk
      show (if k < n then sh (rmd gen n w t) k + (rmd gen n w t (n - 1) + w t) * gen k else 0) * pw x k = _
      rw [if_pos hk]; grind
    have e2 : ev gen n x = pw x n := by
      have a : ev gen n x + gen n * pw x n = 0 := hx
      have := h2 (pw x n)
      rw [hg] at a
      grind
    have e3 : ev (sh (rmd gen n w t)) n x = x * ev (rmd gen n w t) n x + rmd gen n w t (n - 1) * pw x n := by
      obtain ⟨p, rfl⟩ : ∃ p, n = p + 1 := ⟨n - 1, by omega⟩
      rw [ev_sh]
      have a : ev (rmd gen (p + 1) w t) (p + 1) x = ev (rmd gen (p + 1) w t) p x + rmd gen (p + 1) w t p * pw x p := rfl
      rw [a, show p + 1 - 1 = p by omega, pw_s]
      have := h2 (rmd gen (p + 1) w t p * pw x p * x)
      grind
    rw [e1, e2, e3, ih]
    show _ = (hr w x t * x + w t) * pw x n
    have := h2 (rmd gen n w t (n - 1) * pw x n)
    grind
/-- the check bytes by division make a codeword -/
theorem chk_g {K : Type} [Lean.Grind.Field K] (h2 : ∀ x : K, x + x = 0) (g : K) {W E b : Nat} (hE0 : 0 < E) (hE : 2 * E ≤ W) (w : Nat → K) : Code g W E b (fun k => if k < W - 2 * E then w k else rmd (gnp g b (2 * E)) (2 * E) w (W - 2 * E) (W - 1 - k)) := by
  intro m hm
  have a := rmd_ev h2 (gen := gnp g b (2 * E)) (n := 2 * E) (by omega) (x := pw g (b + m)) w (gnp_top g b _) (gnp_root h2 g b _ m hm) (W - 2 * E)
  rw [hr_sm, show W = (W - 2 * E) + 2 * E by omega, sm_split]
  have e1 : sm (fun k => (if k < W - 2 * E + 2 * E - 2 * E then w k else rmd (gnp g b (2 * E)) (2 * E) w (W - 2 * E + 2 * E - 2 * E) (W - 2 * E + 2 * E - 1 - k)) * pw (pw g (b + m)) (W - 2 * E + 2 * E - 1 - k)) (W - 2 * E) = hr w (pw g (b + m)) (W - 2 * E) * pw (pw g (b + m)) (2 * E) := by
    rw [hr_sm]
    have : sm (fun k => w k * pw (pw g (b + m)) (W - 2 * E - 1 - k)) (W - 2 * E) * pw (pw g (b + m)) (2 * E) = pw (pw g (b + m)) (2 * E) * sm (fun k => w k * pw (pw g (b + m)) (W - 2 * E - 1 - k)) (W - 2 * E) := by grind
    rw [this, ← sm_mul]
    apply sm_congr
    intro k hk
    rw [if_pos (by omega), show W - 2 * E + 2 * E - 1 - k = 2 * E + (W - 2 * E - 1 - k) by omega, pw_add]; grind
  have e2 : sm (fun i => (if W - 2 * E + i < W - 2 * E + 2 * E - 2 * E then w (W - 2 * E + i) else rmd (gnp g b (2 * E)) (2 * E) w (W - 2 * E + 2 * E - 2 * E) (W - 2 * E + 2 * E - 1 - (W - 2 * E + i))) * pw (pw g (b + m)) (W - 2 * E + 2 * E - 1 - (W - 2 * E + i))) (2 * E) = ev (rmd (gnp g b (2 * E)) (2 * E) w (W - 2 * E)) (2 * E) (pw g (b + m)) := by
    unfold ev
    rw [sm_inj (2 * E) (2 * E) (fun i => rmd (gnp g b (2 * E)) (2 * E) w (W - 2 * E) i * pw (pw g (b + m)) i) (fun i => 2 * E - 1 - i) (fun i hi => by omega) (fun i j hi hj hne => by omega) (fun k hk _ => ⟨2 * E - 1 - k, by omega, by omega⟩)]
    apply sm_congr
    intro i hi
    rw [if_neg (by omega), show W - 2 * E + 2 * E - 1 - (W - 2 * E + i) = 2 * E - 1 - i by omega, show W - 2 * E + 2 * E - 2 * E = W - 2 * E by omega]
  rw [e1, e2, a]
  exact h2 _
end
