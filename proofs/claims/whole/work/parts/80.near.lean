/-! PURE PART: the decoded row -/
section
theorem kk_mod (P n : Nat) : k1 P (n % per P) = k1 P n ∧ k2 P (n % per P) = k2 P n := by
  unfold k1 k2
  rw [Nat.mod_mod]
  exact ⟨rfl, rfl⟩
theorem per_tab : ∀ P, P < 5 → 8 * per P ≤ 7 * cnt P 0 (per P) := by decide
theorem cnt_lo {P : Nat} (hP : P ≤ 4) : ∀ n, 8 * n + 7 * cnt P 0 (n % per P) ≤ 7 * cnt P 0 n + 8 * (n % per P) := by
  have hp := (tbl_all P (by omega)).2.1
  intro n
  induction n with
  | zero => rw [Nat.zero_mod]; omega
  | succ n ih =>
    obtain ⟨m1, m2⟩ := kk_mod P n
    have h1 : cnt P 0 (n + 1) = cnt P 0 n + (k1 P n + k2 P n) := by
      show cnt P 0 n + (k1 P (0 + n) + k2 P (0 + n)) = _
      rw [Nat.zero_add]
    have h2 : cnt P 0 (n % per P + 1) = cnt P 0 (n % per P) + (k1 P n + k2 P n) := by
      show cnt P 0 (n % per P) + (k1 P (0 + n % per P) + k2 P (0 + n % per P)) = _
      rw [Nat.zero_add, m1, m2]
    have hr : n % per P < per P := Nat.mod_lt _ hp
    by_cases c : n % per P + 1 < per P
    · have e : (n + 1) % per P = n % per P + 1 := by
        rw [Nat.add_mod, Nat.mod_eq_of_lt (show 1 < per P by omega), Nat.mod_eq_of_lt c]
      rw [e, h1, h2]
      omega
    · have c2 : n % per P + 1 = per P := by omega
      have e : (n + 1) % per P = 0 := by
        have : n + 1 = per P * (n / per P) + per P := by have := Nat.div_add_mod n (per P); omega
        rw [this, Nat.add_mod_right, Nat.mul_mod_right]
      rw [e, h1]
      have := per_tab P (by omega)
      rw [c2] at h2
      show 8 * (n + 1) + 7 * 0 ≤ _
      omega
theorem cnt_hi {P : Nat} (hP : P ≤ 4) {n : Nat} (h : cnt P 0 n ≤ 4096) : n < 3600 := by
  have h1 := cnt_lo hP n
  have h2 : n % per P < per P := Nat.mod_lt _ (tbl_all P (by omega)).2.1
  have h3 := (tbl_all P (by omega)).2.2.1
  omega
def g4 (cl : Nat → Int64) (k : Nat) : Bool := decide (k < 4096) && cb cl k
def dsN (a b : Nat) (c1 c2 : Bool) (p : Nat) : Nat := (if a = 1 ∧ c1 ≠ (p % 2 == 1) then 1 else 0) + (if b = 1 ∧ c2 ≠ (p / 2 == 1) then 1 else 0)
def prv (v : Nat) : Nat := (o1 v).toNat + 2 * (o2 v).toNat
def cst (P : Nat) (cl : Nat → Int64) (t v : Nat) : Nat := dsN (k1 P t) (k2 P t) (g4 cl (cnt P 0 t)) (g4 cl (cnt P 0 t + k1 P t)) (prv v)
def lea (P : Nat) (cl : Nat → Int64) (N : Nat) : Nat → Nat → Nat
  | 0 => fun _ => 0
  | j + 1 => fun s => min (cst P cl (N - 1 - j) s + lea P cl N j (s / 2)) (cst P cl (N - 1 - j) (64 + s) + lea P cl N j (32 + s / 2))
theorem dsN_le (a b : Nat) (c1 c2 : Bool) (p : Nat) : dsN a b c1 c2 p ≤ 2 := by
  unfold dsN
  split <;> split <;> omega
theorem lea_le (P : Nat) (cl : Nat → Int64) (N : Nat) : ∀ j s, lea P cl N j s ≤ 2 * j := by
  intro j
  induction j with
  | zero => intro s; exact Nat.le_refl _
  | succ j ih =>
    intro s
    have h1 := ih (s / 2)
    have h2 : cst P cl (N - 1 - j) s ≤ 2 := dsN_le ..
    show min _ _ ≤ _
    omega
theorem prv_pr (v : Nat) : (prv v % 2 == 1) = o1 v ∧ (prv v / 2 == 1) = o2 v := by
  unfold prv
  cases o1 v <;> cases o2 v <;> decide
/-- the better bit, and the states on the way -/
def obt (P : Nat) (cl : Nat → Int64) (N t s : Nat) : Bool := decide (cst P cl t (64 + s) + lea P cl N (N - 1 - t) (32 + s / 2) < cst P cl t s + lea P cl N (N - 1 - t) (s / 2))
def pst (P : Nat) (cl : Nat → Int64) (N : Nat) : Nat → Nat
  | 0 => 0
  | t + 1 => 32 * (obt P cl N t (pst P cl N t)).toNat + pst P cl N t / 2
theorem pst_lt (P : Nat) (cl : Nat → Int64) (N t : Nat) : pst P cl N t < 64 := by
  induction t with
  | zero => show 0 < 64; decide
  | succ t ih =>
    have := tn_lt (obt P cl N t (pst P cl N t))
    show 32 * (obt P cl N t (pst P cl N t)).toNat + pst P cl N t / 2 < 64
    omega
theorem rs_all : ∀ s, s < 64 → ∀ b, b < 2 → ((nI b <<< ((6 : Int32) &&& 31)) ||| nI s) = nI (64 * b + s) ∧ ((nI b <<< ((5 : Int32) &&& 31)) ||| (nI s >>> ((1 : Int32) &&& 31))) = nI (32 * b + s / 2) ∧ ((nI s >>> ((1 : Int32) &&& 31)) ||| (nI b <<< ((5 : Int32) &&& 31))) = nI (32 * b + s / 2) := by decide +kernel
theorem bI_inj {a b : Bool} : bI a = bI b ↔ a = b := by cases a <;> cases b <;> decide
theorem bI_neq {a b : Bool} : bI a = 1 - bI b ↔ a ≠ b := by cases a <;> cases b <;> decide
/-- what one bit costs, on the reference's side -/
theorem d_cost {bg fs sc : AR} (hT : Tab bg fs sc) {P : Nat} (hP : P ≤ 4) {len : Nat} {cl : Nat → Int64} {ln pls : AR} (hR : RowEq len cl ln) {t s b : Nat} (ht : t < 3600) (hs : s < 64) (hb : b < 2) (hpl : pls t = nI (cnt P 0 t)) (hl : cnt P 0 (t + 1) ≤ len) :
    f_Mo_cost (nI P) pls bg fs sc ln (nI t) (nI s) (nI b) = some (nI (cst P cl t (64 * b + s))) := by
  obtain ⟨m1, m2⟩ := k_mo hT hP (t := t) (by omega)
  obtain ⟨c1, c2, c3⟩ := k_le hP t
  obtain ⟨r1, r2, r3⟩ := hR
  have hv : 64 * b + s < 128 := by omega
  obtain ⟨p1, p2⟩ := o_mo _ hv
  obtain ⟨q1, q2⟩ := prv_pr (64 * b + s)
  have hl2 : cnt P 0 t + (k1 P t + k2 P t) ≤ len := by
    have : cnt P 0 (t + 1) = cnt P 0 t + (k1 P t + k2 P t) := by
      show cnt P 0 t + (k1 P (0 + t) + k2 P (0 + t)) = _
      rw [Nat.zero_add]
    omega
  unfold f_Mo_cost
  rw [q_nm, (rs_all s hs b hb).1, q_rdI (by omega) (by decide), hpl, m1, q_bd, q_nm]
  have hsec : ∀ x : Nat, x ≤ 1 → x = (if k1 P t = 1 ∧ g4 cl (cnt P 0 t) ≠ o1 (64 * b + s) then 1 else 0) → f_Mo_cost_60 (nI P) bg sc ln (nI t) (nI (64 * b + s)) (nI (cnt P 0 t + k1 P t)) (nI x) = some (nI (cst P cl t (64 * b + s))) := by
    intro x hx1 hx
    unfold f_Mo_cost_60 cst dsN
    rw [m2, q_bd, q_nm, q1, q2, ← hx]
    by_cases e : k2 P t = 1
    · rw [if_pos (by rw [e]; rfl), q_rdI (by omega) (by decide), r2 _ (by omega), p2, q_bd, q_nm]
      have hg : g4 cl (cnt P 0 t + k1 P t) = cb cl (cnt P 0 t + k1 P t) := by
        unfold g4
        simp [show cnt P 0 t + k1 P t < 4096 by omega]
      by_cases c : cb cl (cnt P 0 t + k1 P t) = o2 (64 * b + s)
      · rw [if_neg (fun h => (bI_neq.1 h) c), q_nm, if_neg (by rw [hg]; exact fun h => h.2 c), Int32.add_zero, Nat.add_zero]
      · rw [if_pos (bI_neq.2 c), q_nm, if_pos ⟨e, by rw [hg]; exact c⟩, nI_1]
    · rw [if_neg (show ¬ nI (k2 P t) = 1 by rw [show k2 P t = 0 by omega]; decide), if_neg (fun h => e h.1), Nat.add_zero]
  by_cases e : k1 P t = 1
  · rw [if_pos (by rw [e]; rfl), q_rdI (by omega) (by decide), r2 _ (by omega), p1, q_bd, q_nm]
    have hg : g4 cl (cnt P 0 t) = cb cl (cnt P 0 t) := by
      unfold g4
      simp [show cnt P 0 t < 4096 by omega]
    by_cases c : cb cl (cnt P 0 t) = o1 (64 * b + s)
    · rw [if_pos (bI_inj.2 c)]
      unfold f_Mo_cost_55
      rw [q_nm, nI_1]
      have := hsec 0 (by omega) (by rw [if_neg (by rw [hg]; exact fun h => h.2 c)])
      rw [e] at this
      exact this
    · rw [if_neg (fun h => c (bI_inj.1 h))]
      unfold f_Mo_cost_55
      rw [q_nm, nI_1]
      have := hsec 1 (by omega) (by rw [if_pos ⟨e, by rw [hg]; exact c⟩])
      rw [e] at this
      exact this
  · have e0 : k1 P t = 0 := by omega
    rw [if_neg (show ¬ nI (k1 P t) = 1 by rw [e0]; decide)]
    have := hsec 0 (by omega) (by rw [if_neg (fun h => e h.1)])
    rw [e0, Nat.add_zero] at this
    exact this
theorem d_with {bg fs sc : AR} (hT : Tab bg fs sc) {P : Nat} (hP : P ≤ 4) {len : Nat} {cl : Nat → Int64} {ln pls lst : AR} (hR : RowEq len cl ln) {t s b x : Nat} (ht : t < 3600) (hs : s < 64) (hb : b < 2) (hpl : pls t = nI (cnt P 0 t)) (hl : cnt P 0 (t + 1) ≤ len) (hx : lst (64 * (t + 1) + (32 * b + s / 2)) = nI x) :
    f_Mo_with (nI P) pls bg fs sc ln lst (nI t) (nI s) (nI b) = some (nI (cst P cl t (64 * b + s) + x)) := by
  unfold f_Mo_with
  rw [d_cost hT hP hR ht hs hb hpl hl, q_bd, q_nm, (rs_all s hs b hb).2.1, nI_1, show (64 : Int32) * nI (t + 1) = nI (64 * (t + 1)) from pk_mul 64 _, nI_add, q_rdI (by omega) (by decide), hx, nI_add]
abbrev DR : Type := Option (Int32 × Int32 × AR × AR × AR)
theorem d_pl {bg fs sc : AR} (hT : Tab bg fs sc) {P : Nat} (hP : P ≤ 4) {snt : Nat} (hlen : cnt P 0 snt ≤ 4096) (ln : AR) (df : Int32) (lst row : AR) :
    ∀ fu r (pls : AR), r ≤ snt → snt - r < fu → (∀ t, t < r → pls t = nI (cnt P 0 t)) → ∃ pls', f_Mo_decode_14 (nI P) (nI (cnt P 0 snt)) bg fs sc ln fu (nI (cnt P 0 r)) (nI (cnt P r 1)) (nI r) df lst pls row = f_Mo_decode_61 (nI P) bg fs sc ln (nI snt) df lst pls' row ∧ ∀ t, t < snt → pls' t = nI (cnt P 0 t) := by
  have hs := cnt_hi hP hlen
  intro fu
  induction fu with
  | zero => intro r pls h1 h2; omega
  | succ fu ih =>
    intro r pls h1 h2 h3
    show ∃ pls', f_Mo_decode_14_b _ _ _ _ _ _ _ _ _ _ _ _ _ _ = _ ∧ _
    unfold f_Mo_decode_14_b
    have e1 : cnt P 0 r + cnt P r 1 = cnt P 0 (r + 1) := by rw [cnt_add, Nat.zero_add]
    rw [nI_add, e1]
    by_cases e : r = snt
    · subst e
      have := (cnt_le hP r 1).2
      rw [if_pos (nI_lt (by omega) (by have := (cnt_le hP 0 (r + 1)).1; omega))]
      exact ⟨pls, rfl, h3⟩
    · have hm : cnt P 0 (r + 1) ≤ cnt P 0 snt := by
        have := cnt_add P 0 (r + 1) (snt - (r + 1))
        rw [show r + 1 + (snt - (r + 1)) = snt by omega] at this
        omega
      rw [if_neg (nI_nlt hm (by omega)), q_wrI (by omega) (by decide), q_nm, q_nm, nI_1, show (1 : Int32) = nI 1 from rfl, lo_ok hT hP (by omega) (by omega), q_bd, q_nm]
      refine ih (r + 1) _ (by omega) (by omega) (fun t ht => ?_)
      by_cases c : t = r
      · subst c; exact pk_us
      · rw [pk_un c]; exact h3 t (by omega)
theorem d_z {bg fs sc : AR} {P' : Int32} {N : Nat} (hN : N ≤ 3600) (ln : AR) (df : Int32) (pls row : AR) :
    ∀ fu s (lst : AR), s ≤ 64 → 64 - s < fu → (∀ u, u < s → lst (64 * N + u) = 0) → ∃ lst', f_Mo_decode_63 P' bg fs sc ln fu (nI s) (nI N) df lst pls row = f_Mo_decode_90 P' bg fs sc ln (nI N) df lst' pls row ∧ ∀ u, u < 64 → lst' (64 * N + u) = 0 := by
  intro fu
  induction fu with
  | zero => intro s lst h1 h2; omega
  | succ fu ih =>
    intro s lst h1 h2 h3
    show ∃ lst', f_Mo_decode_63_b _ _ _ _ _ _ _ _ _ _ _ _ = _ ∧ _
    unfold f_Mo_decode_63_b
    by_cases e : s = 64
    · rw [if_pos (show (64 : Int32) ≤ nI s from nI_le (a := 64) (by omega) (by omega))]
      exact ⟨lst, rfl, e ▸ h3⟩
    · rw [if_neg (show ¬ (64 : Int32) ≤ nI s from nI_ge (b := 64) (by omega) (by decide)), show (64 : Int32) * nI N = nI (64 * N) from pk_mul 64 _, nI_add, q_wrI (by omega) (by decide), q_nm, nI_1]
      refine ih (s + 1) _ (by omega) (by omega) (fun u hu => ?_)
      by_cases c : u = s
      · subst c; exact pk_us
      · rw [pk_un (by omega)]; exact h3 u (by omega)
theorem d_in {bg fs sc : AR} (hT : Tab bg fs sc) {P : Nat} (hP : P ≤ 4) {len N t : Nat} {cl : Nat → Int64} {ln pls : AR} (hR : RowEq len cl ln) (hN : N ≤ 3600) (ht : t < N) (hl : cnt P 0 N ≤ len) (hpl : ∀ t, t < N → pls t = nI (cnt P 0 t)) (kh : Int32 → Int32 → Int32 → AR → AR → AR → DR) (df : Int32) (row : AR) :
    ∀ fu s (lst : AR), s ≤ 64 → 64 - s < fu → (∀ u, t < u → u ≤ N → ∀ s, s < 64 → lst (64 * u + s) = nI (lea P cl N (N - u) s)) → (∀ u, u < s → lst (64 * t + u) = nI (lea P cl N (N - t) u)) →
    ∃ lst', f_Mo_decode_104 (nI P) bg fs sc ln kh fu (nI t) (nI s) (nI N) df lst pls row = f_Mo_decode_163 kh (nI t) (nI N) df lst' pls row ∧ (∀ u, t ≤ u → u ≤ N → ∀ s, s < 64 → lst' (64 * u + s) = nI (lea P cl N (N - u) s)) := by
  have hl2 : cnt P 0 (t + 1) ≤ len := by
    have := cnt_add P 0 (t + 1) (N - (t + 1))
    rw [show t + 1 + (N - (t + 1)) = N by omega] at this
    omega
  intro fu
  induction fu with
  | zero => intro s lst h1 h2; omega
  | succ fu ih =>
    intro s lst h1 h2 h3 h4
    show ∃ lst', f_Mo_decode_104_b _ _ _ _ _ _ _ _ _ _ _ _ _ _ = _ ∧ _
    unfold f_Mo_decode_104_b
    by_cases e : s = 64
    · rw [if_pos (show (64 : Int32) ≤ nI s from nI_le (a := 64) (by omega) (by omega))]
      refine ⟨lst, rfl, fun u h5 h6 x hx => ?_⟩
      by_cases c : u = t
      · rw [c]; exact h4 x (by omega)
      · exact h3 u (by omega) h6 x hx
    · have hs : s < 64 := by omega
      have w0 := d_with hT hP hR (t := t) (s := s) (b := 0) (by omega) hs (by omega) (hpl t ht) hl2 (h3 (t + 1) (by omega) (by omega) _ (by omega))
      have w1 := d_with hT hP hR (t := t) (s := s) (b := 1) (by omega) hs (by omega) (hpl t ht) hl2 (h3 (t + 1) (by omega) (by omega) _ (by omega))
      rw [if_neg (show ¬ (64 : Int32) ≤ nI s from nI_ge (b := 64) hs (by decide)), show (0 : Int32) = nI 0 from rfl, show (1 : Int32) = nI 1 from rfl, w0, w1, q_bd, q_nm, q_bd, q_nm, show (64 : Int32) * nI t = nI (64 * t) from pk_mul 64 _, nI_add]
      have hL1 := lea_le P cl N (N - (t + 1)) (32 * 0 + s / 2)
      have hL2 := lea_le P cl N (N - (t + 1)) (32 * 1 + s / 2)
      have hc0 : cst P cl t (64 * 0 + s) ≤ 2 := dsN_le ..
      have hc1 : cst P cl t (64 * 1 + s) ≤ 2 := dsN_le ..
      have hmin : lea P cl N (N - t) s = min (cst P cl t (64 * 0 + s) + lea P cl N (N - (t + 1)) (32 * 0 + s / 2)) (cst P cl t (64 * 1 + s) + lea P cl N (N - (t + 1)) (32 * 1 + s / 2)) := by
        rw [show N - t = (N - (t + 1)) + 1 by omega]
        show min (cst P cl (N - 1 - (N - (t + 1))) s + lea P cl N (N - (t + 1)) (s / 2)) (cst P cl (N - 1 - (N - (t + 1))) (64 + s) + lea P cl N (N - (t + 1)) (32 + s / 2)) = _
        rw [show N - 1 - (N - (t + 1)) = t by omega, show 64 * 0 + s = s by omega, show 64 * 1 + s = 64 + s by omega, show 32 * 0 + s / 2 = s / 2 by omega, show 32 * 1 + s / 2 = 32 + s / 2 by omega]
      have hgo : ∃ lst', f_Mo_decode_156 (f_Mo_decode_104 (nI P) bg fs sc ln kh fu) (nI t) (nI s) (nI (64 * t + s)) (nI (lea P cl N (N - t) s)) (nI N) df lst pls row = f_Mo_decode_163 kh (nI t) (nI N) df lst' pls row ∧ (∀ u, t ≤ u → u ≤ N → ∀ s, s < 64 → lst' (64 * u + s) = nI (lea P cl N (N - u) s)) := by
        unfold f_Mo_decode_156
        rw [q_wrI (by omega) (by decide), q_nm, nI_1]
        refine ih (s + 1) _ (by omega) (by omega) (fun u h5 h6 x hx => ?_) (fun u hu => ?_)
        · rw [pk_un (by omega)]; exact h3 u h5 h6 x hx
        · by_cases c : u = s
          · subst c; exact pk_us
          · rw [pk_un (by omega)]; exact h4 u (by omega)
      by_cases c : cst P cl t (64 * 1 + s) + lea P cl N (N - (t + 1)) (32 * 1 + s / 2) ≤ cst P cl t (64 * 0 + s) + lea P cl N (N - (t + 1)) (32 * 0 + s / 2)
      · rw [if_pos (nI_le c (by omega))]
        rw [hmin, Nat.min_eq_right c] at hgo
        exact hgo
      · rw [if_neg (nI_ge (by omega) (by omega))]
        rw [hmin, Nat.min_eq_left (by omega)] at hgo
        exact hgo
theorem d_out {bg fs sc : AR} (hT : Tab bg fs sc) {P : Nat} (hP : P ≤ 4) {len N : Nat} {cl : Nat → Int64} {ln pls : AR} (hR : RowEq len cl ln) (hN : N ≤ 3600) (hl : cnt P 0 N ≤ len) (hpl : ∀ t, t < N → pls t = nI (cnt P 0 t)) (df : Int32) (row : AR) :
    ∀ t fu (lst : AR), t ≤ N → t < fu → (∀ u, t ≤ u → u ≤ N → ∀ s, s < 64 → lst (64 * u + s) = nI (lea P cl N (N - u) s)) →
    ∃ lst', f_Mo_decode_97 (nI P) bg fs sc ln fu (nI t + (-1)) (nI N) df lst pls row = f_Mo_decode_169 (nI P) bg fs sc ln (nI N) df lst' pls row ∧ (∀ u, u ≤ N → ∀ s, s < 64 → lst' (64 * u + s) = nI (lea P cl N (N - u) s)) := by
  intro t
  induction t with
  | zero =>
    intro fu lst h1 h2 h3
    obtain ⟨f, rfl⟩ : ∃ f, fu = f + 1 := ⟨fu - 1, by omega⟩
    show ∃ lst', f_Mo_decode_97_b _ _ _ _ _ _ _ _ _ _ _ _ = _ ∧ _
    unfold f_Mo_decode_97_b
    rw [if_pos (show nI 0 + (-1) < 0 by decide)]
    exact ⟨lst, rfl, fun u hu s hs => h3 u (by omega) hu s hs⟩
  | succ t ih =>
    intro fu lst h1 h2 h3
    obtain ⟨f, rfl⟩ : ∃ f, fu = f + 1 := ⟨fu - 1, by omega⟩
    show ∃ lst', f_Mo_decode_97_b _ _ _ _ _ _ _ _ _ _ _ _ = _ ∧ _
    unfold f_Mo_decode_97_b
    rw [pk_m1, if_neg (nI_pos (by omega))]
    obtain ⟨lst1, a1, a2⟩ := d_in hT hP hR hN (t := t) (by omega) hl hpl (f_Mo_decode_97 (nI P) bg fs sc ln f) df row 10000 0 lst (by omega) (by omega) (fun u h5 h6 => h3 u (by omega) h6) (fun u hu => by omega)
    rw [nI_0] at a1
    rw [a1]
    unfold f_Mo_decode_163
    rw [q_nm]
    exact ih f lst1 (by omega) (by omega) a2
theorem d_tr {bg fs sc : AR} (hT : Tab bg fs sc) {P : Nat} (hP : P ≤ 4) {len N : Nat} {cl : Nat → Int64} {ln pls lst : AR} (hR : RowEq len cl ln) (hN : N ≤ 3600) (hl : cnt P 0 N ≤ len) (hpl : ∀ t, t < N → pls t = nI (cnt P 0 t)) (hlst : ∀ u, u ≤ N → ∀ s, s < 64 → lst (64 * u + s) = nI (lea P cl N (N - u) s)) (df : Int32) :
    ∀ fu t (row : AR), t ≤ N → N - t < fu → (∀ u, u < t → row u = bI (obt P cl N u (pst P cl N u))) →
    ∃ row', f_Mo_decode_184 (nI P) bg fs sc ln fu (nI (pst P cl N t)) (nI t) (nI N) df lst pls row = some (nI N, df, lst, pls, row') ∧ (∀ u, u < N → row' u = bI (obt P cl N u (pst P cl N u))) := by
  intro fu
  induction fu with
  | zero => intro t row h1 h2; omega
  | succ fu ih =>
    intro t row h1 h2 h3
    show ∃ row', f_Mo_decode_184_b _ _ _ _ _ _ _ _ _ _ _ _ _ = _ ∧ _
    unfold f_Mo_decode_184_b
    by_cases e : t = N
    · rw [if_pos (nI_le (by omega) (by omega))]
      exact ⟨row, rfl, e ▸ h3⟩
    · have hp := pst_lt P cl N t
      have hl2 : cnt P 0 (t + 1) ≤ len := by
        have := cnt_add P 0 (t + 1) (N - (t + 1))
        rw [show t + 1 + (N - (t + 1)) = N by omega] at this
        omega
      have w0 := d_with hT hP hR (t := t) (s := pst P cl N t) (b := 0) (by omega) hp (by omega) (hpl t (by omega)) hl2 (hlst (t + 1) (by omega) _ (by omega))
      rw [show nI 0 = (0 : Int32) from rfl] at w0
      have hL1 := lea_le P cl N (N - (t + 1)) (pst P cl N t / 2)
      have hc0 : cst P cl t (pst P cl N t) ≤ 2 := dsN_le ..
      have hmin : lea P cl N (N - t) (pst P cl N t) = min (cst P cl t (pst P cl N t) + lea P cl N (N - (t + 1)) (pst P cl N t / 2)) (cst P cl t (64 + pst P cl N t) + lea P cl N (N - (t + 1)) (32 + pst P cl N t / 2)) := by
        rw [show N - t = (N - (t + 1)) + 1 by omega]
        show min (cst P cl (N - 1 - (N - (t + 1))) _ + _) (cst P cl (N - 1 - (N - (t + 1))) _ + _) = _
        rw [show N - 1 - (N - (t + 1)) = t by omega]
      rw [show 64 * 0 + pst P cl N t = pst P cl N t by omega, show 32 * 0 + pst P cl N t / 2 = pst P cl N t / 2 by omega] at w0
      rw [if_neg (nI_ge (by omega) (by omega)), w0, q_bd, q_nm, show (64 : Int32) * nI t = nI (64 * t) from pk_mul 64 _, nI_add, q_rdI (by omega) (by decide), hlst t (by omega) _ hp]
      have hob : obt P cl N t (pst P cl N t) = decide (cst P cl t (64 + pst P cl N t) + lea P cl N (N - (t + 1)) (32 + pst P cl N t / 2) < cst P cl t (pst P cl N t) + lea P cl N (N - (t + 1)) (pst P cl N t / 2)) := by
        unfold obt
        rw [show N - 1 - t = N - (t + 1) by omega]
      have hgo : ∃ row', f_Mo_decode_227 (f_Mo_decode_184 (nI P) bg fs sc ln fu) (nI (pst P cl N t)) (nI t) (nI t) (bI (obt P cl N t (pst P cl N t))) (nI N) df lst pls row = some (nI N, df, lst, pls, row') ∧ (∀ u, u < N → row' u = bI (obt P cl N u (pst P cl N u))) := by
        unfold f_Mo_decode_227
        rw [q_wrI (by omega) (by decide), q_rdI (by omega) (by decide), pk_us, q_nm, q_nm, nI_1]
        have := (rs_all (pst P cl N t) hp _ (tn_lt (obt P cl N t (pst P cl N t)))).2.1
        have e2 : ((bI (obt P cl N t (pst P cl N t)) <<< ((5 : Int32) &&& 31)) ||| (nI (pst P cl N t) >>> ((1 : Int32) &&& 31))) = nI (pst P cl N (t + 1)) := this
        rw [e2]
        refine ih (t + 1) _ (by omega) (by omega) (fun u hu => ?_)
        by_cases c : u = t
        · subst c; exact pk_us
        · rw [pk_un c]; exact h3 u (by omega)
      by_cases c : cst P cl t (64 + pst P cl N t) + lea P cl N (N - (t + 1)) (32 + pst P cl N t / 2) < cst P cl t (pst P cl N t) + lea P cl N (N - (t + 1)) (pst P cl N t / 2)
      · rw [if_neg (by rw [nI_eq (by omega) (by rw [hmin]; omega), hmin]; omega)]
        rw [hob, decide_eq_true c] at hgo
        exact hgo
      · rw [if_pos (by rw [hmin, Nat.min_eq_left (by omega)])]
        rw [hob, decide_eq_false c] at hgo
        exact hgo
/-- the reference's decoded row -/
theorem d_ok {bg fs sc : AR} (hT : Tab bg fs sc) {P : Nat} (hP : P ≤ 4) {snt : Nat} {cl : Nat → Int64} {ln : AR} (hR : RowEq (cnt P 0 snt) cl ln) (rs df : Int32) (lst pls row : AR) :
    ∃ lst' pls' row', f_Mo_decode (nI P) (nI (cnt P 0 snt)) rs df bg fs sc lst pls ln row = some (nI snt, nI (lea P cl snt snt 0), lst', pls', row') ∧ (∀ u, u < snt → row' u = bI (obt P cl snt u (pst P cl snt u))) := by
  have hs := cnt_hi hP hR.1
  unfold f_Mo_decode
  rw [show (0 : Int32) = nI 0 from rfl, show (1 : Int32) = nI 1 from rfl, lo_ok hT hP (by omega) (by omega), q_bd, q_nm]
  obtain ⟨pls1, a1, a2⟩ := d_pl hT hP hR.1 ln df lst row 10000 0 pls (by omega) (by omega) (fun t ht => by omega)
  rw [show cnt P 0 0 = 0 from rfl] at a1
  rw [a1]
  unfold f_Mo_decode_61
  obtain ⟨lst1, b1, b2⟩ := d_z (bg := bg) (fs := fs) (sc := sc) (P' := nI P) (N := snt) (by omega) ln df pls1 row 10000 0 lst (by omega) (by omega) (fun u hu => by omega)
  rw [show (0 : Int32) = nI 0 from rfl, b1]
  unfold f_Mo_decode_90
  rw [q_nm, Int32.sub_eq_add_neg]
  obtain ⟨lst2, c1, c2⟩ := d_out hT hP hR (N := snt) (by omega) (by omega) a2 df row snt 10000 lst1 (by omega) (by omega) (fun u h1 h2 s hs => by
    rw [show u = snt by omega, b2 s hs, show snt - snt = 0 by omega]
    rfl)
  rw [show (-(1 : Int32)) = -1 from rfl, c1]
  unfold f_Mo_decode_169
  have h00 := c2 0 (by omega) 0 (by omega)
  rw [show (0 : Int32) = nI 0 from rfl, q_rdI (by omega) (by decide), show lst2 0 = nI (lea P cl snt snt 0) from h00]
  obtain ⟨row', e1, e2⟩ := d_tr hT hP hR (N := snt) (by omega) (by omega) a2 c2 (nI (lea P cl snt snt 0)) 10000 0 row (by omega) (by omega) (fun u hu => by omega)
  exact ⟨_, _, _, e1, e2⟩
end
