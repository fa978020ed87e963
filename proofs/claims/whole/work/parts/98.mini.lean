/-! PURE PART: the constructors -/
section
theorem wl_0 {β : Type} {f : AR} {n : Nat} {x : Int32} {k : AR → Option β} (h : 0 < n) (hn : n < 2 ^ 31) : wrI f n (0 : Int32) x k = k (upd f 0 x) := q_wrI (j := 0) h hn
theorem wl_1 {β : Type} {f : AR} {n : Nat} {x : Int32} {k : AR → Option β} (h : 1 < n) (hn : n < 2 ^ 31) : wrI f n (1 : Int32) x k = k (upd f 1 x) := q_wrI (j := 1) h hn
theorem wl_2 {β : Type} {f : AR} {n : Nat} {x : Int32} {k : AR → Option β} (h : 2 < n) (hn : n < 2 ^ 31) : wrI f n (2 : Int32) x k = k (upd f 2 x) := q_wrI (j := 2) h hn
theorem wl_3 {β : Type} {f : AR} {n : Nat} {x : Int32} {k : AR → Option β} (h : 3 < n) (hn : n < 2 ^ 31) : wrI f n (3 : Int32) x k = k (upd f 3 x) := q_wrI (j := 3) h hn
theorem wl_4 {β : Type} {f : AR} {n : Nat} {x : Int32} {k : AR → Option β} (h : 4 < n) (hn : n < 2 ^ 31) : wrI f n (4 : Int32) x k = k (upd f 4 x) := q_wrI (j := 4) h hn
theorem wl_5 {β : Type} {f : AR} {n : Nat} {x : Int32} {k : AR → Option β} (h : 5 < n) (hn : n < 2 ^ 31) : wrI f n (5 : Int32) x k = k (upd f 5 x) := q_wrI (j := 5) h hn
theorem wl_6 {β : Type} {f : AR} {n : Nat} {x : Int32} {k : AR → Option β} (h : 6 < n) (hn : n < 2 ^ 31) : wrI f n (6 : Int32) x k = k (upd f 6 x) := q_wrI (j := 6) h hn
theorem wl_7 {β : Type} {f : AR} {n : Nat} {x : Int32} {k : AR → Option β} (h : 7 < n) (hn : n < 2 ^ 31) : wrI f n (7 : Int32) x k = k (upd f 7 x) := q_wrI (j := 7) h hn
theorem wl_8 {β : Type} {f : AR} {n : Nat} {x : Int32} {k : AR → Option β} (h : 8 < n) (hn : n < 2 ^ 31) : wrI f n (8 : Int32) x k = k (upd f 8 x) := q_wrI (j := 8) h hn
theorem wl_9 {β : Type} {f : AR} {n : Nat} {x : Int32} {k : AR → Option β} (h : 9 < n) (hn : n < 2 ^ 31) : wrI f n (9 : Int32) x k = k (upd f 9 x) := q_wrI (j := 9) h hn
theorem wl_10 {β : Type} {f : AR} {n : Nat} {x : Int32} {k : AR → Option β} (h : 10 < n) (hn : n < 2 ^ 31) : wrI f n (10 : Int32) x k = k (upd f 10 x) := q_wrI (j := 10) h hn
theorem wl_11 {β : Type} {f : AR} {n : Nat} {x : Int32} {k : AR → Option β} (h : 11 < n) (hn : n < 2 ^ 31) : wrI f n (11 : Int32) x k = k (upd f 11 x) := q_wrI (j := 11) h hn
theorem wl_12 {β : Type} {f : AR} {n : Nat} {x : Int32} {k : AR → Option β} (h : 12 < n) (hn : n < 2 ^ 31) : wrI f n (12 : Int32) x k = k (upd f 12 x) := q_wrI (j := 12) h hn
theorem wl_13 {β : Type} {f : AR} {n : Nat} {x : Int32} {k : AR → Option β} (h : 13 < n) (hn : n < 2 ^ 31) : wrI f n (13 : Int32) x k = k (upd f 13 x) := q_wrI (j := 13) h hn
theorem wl_14 {β : Type} {f : AR} {n : Nat} {x : Int32} {k : AR → Option β} (h : 14 < n) (hn : n < 2 ^ 31) : wrI f n (14 : Int32) x k = k (upd f 14 x) := q_wrI (j := 14) h hn
theorem wl_15 {β : Type} {f : AR} {n : Nat} {x : Int32} {k : AR → Option β} (h : 15 < n) (hn : n < 2 ^ 31) : wrI f n (15 : Int32) x k = k (upd f 15 x) := q_wrI (j := 15) h hn
theorem wl_16 {β : Type} {f : AR} {n : Nat} {x : Int32} {k : AR → Option β} (h : 16 < n) (hn : n < 2 ^ 31) : wrI f n (16 : Int32) x k = k (upd f 16 x) := q_wrI (j := 16) h hn
theorem wl_17 {β : Type} {f : AR} {n : Nat} {x : Int32} {k : AR → Option β} (h : 17 < n) (hn : n < 2 ^ 31) : wrI f n (17 : Int32) x k = k (upd f 17 x) := q_wrI (j := 17) h hn

def bgA : AR := (upd (upd (upd (upd (upd (upd (fun _ => (0 : Int32)) 0 (0 : Int32)) 1 (1 : Int32)) 2 (3 : Int32)) 3 (6 : Int32)) 4 (11 : Int32)) 5 (18 : Int32))
def fsA : AR := (upd (upd (upd (upd (upd (upd (upd (upd (upd (upd (upd (upd (upd (upd (upd (upd (upd (upd (fun _ => (0 : Int32)) 0 (1 : Int32)) 1 (1 : Int32)) 2 (0 : Int32)) 3 (1 : Int32)) 4 (0 : Int32)) 5 (1 : Int32)) 6 (1 : Int32)) 7 (0 : Int32)) 8 (1 : Int32)) 9 (0 : Int32)) 10 (1 : Int32)) 11 (1 : Int32)) 12 (0 : Int32)) 13 (0 : Int32)) 14 (0 : Int32)) 15 (1 : Int32)) 16 (0 : Int32)) 17 (1 : Int32))
def scA : AR := (upd (upd (upd (upd (upd (upd (upd (upd (upd (upd (upd (upd (upd (upd (upd (upd (upd (upd (fun _ => (0 : Int32)) 0 (1 : Int32)) 1 (1 : Int32)) 2 (1 : Int32)) 3 (1 : Int32)) 4 (1 : Int32)) 5 (0 : Int32)) 6 (1 : Int32)) 7 (1 : Int32)) 8 (0 : Int32)) 9 (1 : Int32)) 10 (0 : Int32)) 11 (1 : Int32)) 12 (1 : Int32)) 13 (1 : Int32)) 14 (1 : Int32)) 15 (0 : Int32)) 16 (1 : Int32)) 17 (0 : Int32))
theorem tabA : Tab bgA fsA scA := ⟨by decide +kernel, by decide +kernel, by decide +kernel⟩
abbrev IR : Type := Option (Int32 × Int32 × Int32 × Int32 × Int32 × Int32 × Int32 × Int32 × Int32 × Int32 × Int32 × AR × AR × AR × AR × AR × AR × AR × AR × AR)
theorem mi_eq : f_Mo_init = f_Mo_init_434 10000 1 0 1 200 8 0 0 0 0 0 0 0 0 bgA fsA scA (fun _ => 0) (fun _ => 0) (fun _ => 0) (fun _ => 0) (fun _ => 0) (fun _ => 0) := by
  unfold f_Mo_init
  rw [wl_0 (by decide) (by decide), wl_1 (by decide) (by decide), wl_2 (by decide) (by decide), wl_3 (by decide) (by decide), wl_4 (by decide) (by decide), wl_5 (by decide) (by decide), wl_0 (by decide) (by decide), wl_1 (by decide) (by decide), wl_2 (by decide) (by decide), wl_3 (by decide) (by decide), wl_4 (by decide) (by decide), wl_5 (by decide) (by decide), wl_6 (by decide) (by decide), wl_7 (by decide) (by decide), wl_8 (by decide) (by decide), wl_9 (by decide) (by decide), wl_10 (by decide) (by decide), wl_11 (by decide) (by decide), wl_12 (by decide) (by decide), wl_13 (by decide) (by decide), wl_14 (by decide) (by decide), wl_15 (by decide) (by decide), wl_16 (by decide) (by decide), wl_17 (by decide) (by decide), wl_0 (by decide) (by decide), wl_1 (by decide) (by decide), wl_2 (by decide) (by decide), wl_3 (by decide) (by decide), wl_4 (by decide) (by decide), wl_5 (by decide) (by decide), wl_6 (by decide) (by decide), wl_7 (by decide) (by decide), wl_8 (by decide) (by decide), wl_9 (by decide) (by decide), wl_10 (by decide) (by decide), wl_11 (by decide) (by decide), wl_12 (by decide) (by decide), wl_13 (by decide) (by decide), wl_14 (by decide) (by decide), wl_15 (by decide) (by decide), wl_16 (by decide) (by decide), wl_17 (by decide) (by decide)]
  unfold bgA fsA scA
  rfl
theorem xt_st : ∀ k, k < 255 → (2 * pt k ≤ 255 → 2 * pt k = pt ((k + 1) % 255)) ∧ (255 < 2 * pt k → (2 * pt k) ^^^ 391 = pt ((k + 1) % 255)) := by decide +kernel
theorem pt_inj {i k : Nat} (hi : i < 255) (hk : k < 255) (h : i ≠ k) : pt i ≠ pt k := by
  intro e
  have h1 := (pt_all i hi).2.2.1
  have h2 := (pt_all k hk).2.2.1
  rw [e, h2] at h1
  exact h h1.symm
theorem mo_pw (i1 i2 i3 i4 i5 i6 i7 i8 i9 i10 i11 : Int32) (bg fs sc fm el mx co : AR) : ∀ fu k (pr lg : AR), k ≤ 255 → 255 - k < fu → (∀ i, i < k → pr i = nI (pt i)) → (∀ i, i < k → lg (pt i) = nI i) → ∃ pr' lg', f_Mo_init_434 fu (nI (pt (k % 255))) (nI k) i1 i2 i3 i4 i5 i6 i7 i8 i9 i10 i11 bg fs sc pr lg fm el mx co = f_Mo_init_482 i1 i2 i3 i4 i5 i6 i7 i8 i9 i10 i11 bg fs sc pr' lg' fm el mx co ∧ (∀ i, i < 255 → pr' i = nI (pt i)) ∧ (∀ i, i < 255 → lg' (pt i) = nI i) := by
  intro fu
  induction fu with
  | zero => intro k pr lg h1 h2; omega
  | succ fu ih =>
    intro k pr lg h1 h2 h3 h4
    show ∃ pr' lg', f_Mo_init_434_b _ _ _ _ _ _ _ _ _ _ _ _ _ _ _ _ _ _ _ _ _ _ _ = _ ∧ _ ∧ _
    unfold f_Mo_init_434_b
    by_cases e : k = 255
    · subst e
      rw [if_pos (by decide)]
      exact ⟨pr, lg, rfl, h3, h4⟩
    · have hk : k < 255 := by omega
      have hp := pt_all k hk
      obtain ⟨x1, x2⟩ := xt_st k hk
      rw [if_neg (show ¬ (255 : Int32) ≤ nI k from nI_ge (b := 255) hk (by decide)), Nat.mod_eq_of_lt hk, q_wrI hk (by decide), q_wrI hp.1 (by decide), q_nm, pk_shlN _ 1 (by decide) (by omega), show pt k * 2 ^ 1 = 2 * pt k by omega]
      have hgo : ∃ pr' lg', f_Mo_init_475 (f_Mo_init_434 fu) (nI k) (nI (pt ((k + 1) % 255))) i1 i2 i3 i4 i5 i6 i7 i8 i9 i10 i11 bg fs sc (upd pr k (nI (pt k))) (upd lg (pt k) (nI k)) fm el mx co = f_Mo_init_482 i1 i2 i3 i4 i5 i6 i7 i8 i9 i10 i11 bg fs sc pr' lg' fm el mx co ∧ (∀ i, i < 255 → pr' i = nI (pt i)) ∧ (∀ i, i < 255 → lg' (pt i) = nI i) := by
        unfold f_Mo_init_475
        rw [q_nm, nI_1]
        refine ih (k + 1) _ _ (by omega) (by omega) (fun i hi => ?_) (fun i hi => ?_)
        · by_cases c : i = k
          · subst c; exact pk_us
          · rw [pk_un c]; exact h3 i (by omega)
        · by_cases c : i = k
          · subst c; exact pk_us
          · rw [pk_un (pt_inj (by omega) hk c)]; exact h4 i (by omega)
      by_cases c : 2 * pt k ≤ 255
      · rw [if_pos (show nI (2 * pt k) ≤ (255 : Int32) from nI_le (b := 255) c (by decide)), x1 c]
        exact hgo
      · rw [if_neg (show ¬ nI (2 * pt k) ≤ (255 : Int32) from nI_ge (a := 255) (by omega) (by omega)), show (391 : Int32) = nI 391 from rfl, nI_xor, x2 (by omega)]
        exact hgo
theorem of_mo : ∀ k, k < 256 → f_Mo_otherForm (nI k) = some (nI (ofm k)) := by decide +kernel
theorem ofm_inj {i k : Nat} (hi : i < 256) (hk : k < 256) (h : i ≠ k) : ofm i ≠ ofm k := by
  intro e
  have h1 := (of_all i hi).2.1
  have h2 := (of_all k hk).2.1
  rw [e, h2] at h1
  exact h h1.symm
theorem mo_fm (i1 i2 i3 i4 i5 i6 i7 i8 i9 i10 i11 : Int32) (bg fs sc pr lg mx co : AR) : ∀ fu k (fm el : AR), k ≤ 256 → 256 - k < fu → (∀ i, i < k → fm i = nI (ofm i)) → (∀ i, i < k → el (ofm i) = nI i) → ∃ fm' el', f_Mo_init_484 fu (nI k) i1 i2 i3 i4 i5 i6 i7 i8 i9 i10 i11 bg fs sc pr lg fm el mx co = f_Mo_init_519 i1 i2 i3 i4 i5 i6 i7 i8 i9 i10 i11 bg fs sc pr lg fm' el' mx co ∧ (∀ i, i < 256 → fm' i = nI (ofm i)) ∧ (∀ i, i < 256 → el' (ofm i) = nI i) := by
  intro fu
  induction fu with
  | zero => intro k fm el h1 h2; omega
  | succ fu ih =>
    intro k fm el h1 h2 h3 h4
    show ∃ fm' el', f_Mo_init_484_b _ _ _ _ _ _ _ _ _ _ _ _ _ _ _ _ _ _ _ _ _ _ = _ ∧ _ ∧ _
    unfold f_Mo_init_484_b
    by_cases e : k = 256
    · subst e
      rw [if_pos (by decide)]
      exact ⟨fm, el, rfl, h3, h4⟩
    · have hk : k < 256 := by omega
      have ho := of_all k hk
      rw [if_neg (show ¬ (256 : Int32) ≤ nI k from nI_ge (b := 256) hk (by decide)), of_mo k hk, q_bd, q_nm, q_wrI hk (by decide), q_rdI hk (by decide), pk_us, q_wrI ho.1 (by decide), q_nm, nI_1]
      refine ih (k + 1) _ _ (by omega) (by omega) (fun i hi => ?_) (fun i hi => ?_)
      · by_cases c : i = k
        · subst c; exact pk_us
        · rw [pk_un c]; exact h3 i (by omega)
      · by_cases c : i = k
        · subst c; exact pk_us
        · rw [pk_un (ofm_inj (by omega) hk c)]; exact h4 i (by omega)
/-- one bit more of the fixed row -/
def stp (p : Nat) : Nat := 2 * p % 256 + (p / 128 + p / 16 + p / 4 + p) % 2
def mit (p : Nat) : Nat → Nat
  | 0 => p
  | b + 1 => stp (mit p b)
def mxs : Nat → Nat
  | 0 => 255
  | t + 1 => mit (mxs t) 8
def pc9 (p : Nat) : Nat := bsm (p &&& 149) 8
theorem st_all : ∀ p, p < 256 → stp p < 256 ∧ ((nI p <<< ((1 : Int32) &&& 31)) ||| (((((nI p >>> ((7 : Int32) &&& 31)) ^^^ (nI p >>> ((4 : Int32) &&& 31))) ^^^ (nI p >>> ((2 : Int32) &&& 31))) ^^^ nI p) &&& (1 : Int32))) &&& (255 : Int32) = nI (stp p) ∧ f_Integer_bitCount (nI p &&& (149 : Int32)) = some (nI (pc9 p)) ∧ ((nI p <<< ((1 : Int32) &&& 31)) &&& (255 : Int32)) ||| (nI (pc9 p) &&& (1 : Int32)) = nI (stp p) := by decide +kernel
theorem mit_lt {p : Nat} (hp : p < 256) (b : Nat) : mit p b < 256 := by
  induction b with
  | zero => exact hp
  | succ b ih => exact (st_all _ ih).1
theorem mxs_lt (t : Nat) : mxs t < 256 := by
  induction t with
  | zero => decide
  | succ t ih => exact mit_lt ih 8
theorem mo_m8 (kh : Int32 → Int32 → Int32 → Int32 → Int32 → Int32 → Int32 → Int32 → Int32 → Int32 → Int32 → Int32 → Int32 → AR → AR → AR → AR → AR → AR → AR → AR → AR → IR) (p : Nat) (hp : p < 256) (x3 : Int32) (i1 i2 i3 i4 i5 i6 i7 i8 i9 i10 i11 : Int32) (bg fs sc pr lg fm el mx co : AR) : ∀ fu b, b ≤ 8 → 8 - b < fu → f_Mo_init_546 kh fu (nI (mit p b)) x3 (nI b) i1 i2 i3 i4 i5 i6 i7 i8 i9 i10 i11 bg fs sc pr lg fm el mx co = f_Mo_init_588 kh (nI (mit p 8)) x3 i1 i2 i3 i4 i5 i6 i7 i8 i9 i10 i11 bg fs sc pr lg fm el mx co := by
  intro fu
  induction fu with
  | zero => intro b h1 h2; omega
  | succ fu ih =>
    intro b h1 h2
    show f_Mo_init_546_b _ _ _ _ _ _ _ _ _ _ _ _ _ _ _ _ _ _ _ _ _ _ _ _ _ = _
    unfold f_Mo_init_546_b
    by_cases e : b = 8
    · subst e
      rw [if_pos (by decide)]
    · rw [if_neg (show ¬ (8 : Int32) ≤ nI b from nI_ge (b := 8) (by omega) (by decide)), q_nm, q_nm, q_nm, (st_all _ (mit_lt hp b)).2.1, nI_1]
      exact ih (b + 1) (by omega) (by omega)
theorem mo_mx (i1 i2 i3 i4 i5 i6 i7 i8 i9 i10 i11 : Int32) (bg fs sc pr lg fm el co : AR) : ∀ fu t (mx : AR), t ≤ 250 → 250 - t < fu → (∀ i, i < t → mx i = nI (mxs i)) → ∃ mx', f_Mo_init_525 fu (nI (mxs t)) (nI t) i1 i2 i3 i4 i5 i6 i7 i8 i9 i10 i11 bg fs sc pr lg fm el mx co = f_Mo_init_594 i1 i2 i3 i4 i5 i6 i7 i8 i9 i10 i11 bg fs sc pr lg fm el mx' co ∧ (∀ i, i < 250 → mx' i = nI (mxs i)) := by
  intro fu
  induction fu with
  | zero => intro t mx h1 h2; omega
  | succ fu ih =>
    intro t mx h1 h2 h3
    show ∃ mx', f_Mo_init_525_b _ _ _ _ _ _ _ _ _ _ _ _ _ _ _ _ _ _ _ _ _ _ _ = _ ∧ _
    unfold f_Mo_init_525_b
    have hl := mxs_lt t
    by_cases e : t = 250
    · subst e
      rw [if_pos (by decide)]
      exact ⟨mx, rfl, h3⟩
    · rw [if_neg (show ¬ (250 : Int32) ≤ nI t from nI_ge (b := 250) (by omega) (by decide)), pk_andN (by omega) 8 (by decide), Nat.mod_eq_of_lt hl, q_wrI (by omega) (by decide)]
      have a := mo_m8 (f_Mo_init_525 fu) (mxs t) hl (nI t) i1 i2 i3 i4 i5 i6 i7 i8 i9 i10 i11 bg fs sc pr lg fm el (upd mx t (nI (mxs t))) co 10000 0 (by omega) (by omega)
      have a' : f_Mo_init_546 (f_Mo_init_525 fu) 10000 (nI (mxs t)) (nI t) 0 i1 i2 i3 i4 i5 i6 i7 i8 i9 i10 i11 bg fs sc pr lg fm el (upd mx t (nI (mxs t))) co = f_Mo_init_588 (f_Mo_init_525 fu) (nI (mit (mxs t) 8)) (nI t) i1 i2 i3 i4 i5 i6 i7 i8 i9 i10 i11 bg fs sc pr lg fm el (upd mx t (nI (mxs t))) co := a
      rw [a']
      unfold f_Mo_init_588
      rw [q_nm, nI_1]
      refine ih (t + 1) _ (by omega) (by omega) (fun i hi => ?_)
      by_cases c : i = t
      · subst c; exact pk_us
      · rw [pk_un c]; exact h3 i (by omega)
theorem mo_ok : ∃ pr lg fm el mx co, f_Mo_init = some (1, 200, 8, 0, 0, 0, 0, 0, 0, 0, 0, bgA, fsA, scA, pr, lg, fm, el, mx, co) ∧ (∀ k, k < 255 → pr k = nI (pt k)) ∧ (∀ a, a < 256 → a ≠ 0 → lg a = nI (lt a)) ∧ (∀ a, a < 256 → fm a = nI (ofm a)) ∧ (∀ a, a < 256 → el (ofm a) = nI a) ∧ (∀ t, t < 250 → mx t = nI (mxs t)) ∧ (∀ k, k < 8 → co k = 0) := by
  obtain ⟨pr, lg, a1, a2, a3⟩ := mo_pw 1 200 8 0 0 0 0 0 0 0 0 bgA fsA scA (fun _ => 0) (fun _ => 0) (fun _ => 0) (fun _ => 0) 10000 0 (fun _ => 0) (fun _ => 0) (by omega) (by omega) (fun i hi => by omega) (fun i hi => by omega)
  obtain ⟨fm, el, b1, b2, b3⟩ := mo_fm 1 200 8 0 0 0 0 0 0 0 0 bgA fsA scA pr lg (fun _ => 0) (fun _ => 0) 10000 0 (fun _ => 0) (fun _ => 0) (by omega) (by omega) (fun i hi => by omega) (fun i hi => by omega)
  obtain ⟨mx, c1, c2⟩ := mo_mx 1 200 8 0 0 0 0 0 0 0 0 bgA fsA scA pr lg fm el (fun _ => 0) 10000 0 (fun _ => 0) (by omega) (by omega) (fun i hi => by omega)
  obtain ⟨co, d1, d2⟩ := fg_ok (fun _ => 0) 0 0 0 0 0 0 0 0
  refine ⟨pr, lg, fm, el, mx, co, ?_, a2, fun a ha h0 => ?_, b2, b3, c2, d2⟩
  · rw [show nI (pt (0 % 255)) = 1 by decide, nI_0] at a1
    rw [nI_0] at b1
    rw [show nI (mxs 0) = 255 by decide, nI_0] at c1
    rw [mi_eq, a1]
    unfold f_Mo_init_482
    rw [b1]
    unfold f_Mo_init_519
    rw [c1]
    unfold f_Mo_init_594
    rw [d1, q_bd, q_nm, q_nm, q_nm, q_nm, q_nm, q_nm, q_nm, q_nm, q_nm]
  · obtain ⟨l1, l2⟩ := lt_all a ha h0
    have := a3 (lt a) l1
    rw [l2] at this
    exact this
end
