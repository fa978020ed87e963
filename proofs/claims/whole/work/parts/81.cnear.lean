/-! PURE PART: the decoded row, on the class's side -/
section
theorem bit_at (cl : Nat → Int64) {k : Nat} (hk : k ≤ 4096) : f_BitRow_bitAt cl (nI k) = some (bI (g4 cl k)) := by
  unfold f_BitRow_bitAt
  rw [cell_ok, q_bd, q_nm, pk_shrN (by omega) _ 6 (by decide), pk_andN (by omega) 6 (by decide), b_ui _ (by omega), nI_toInt (by omega)]
  congr 2
  unfold g4 cb cz
  by_cases c : k < 4096
  · rw [if_pos (by omega), show (((k / 2 ^ 6 : Nat) : Int)).toNat = k / 64 by omega]
    simp [c]
  · rw [if_neg (by omega), bt_0]
    simp [c]
theorem ms_all : ∀ p, p < 4 → ∀ c1 c2 : Bool, ∀ a, a < 2 → ∀ b, b < 2 → f_Integer_bitCount ((nI p ^^^ (bI c1 ||| (bI c2 <<< ((1 : Int32) &&& 31)))) &&& nI (a + 2 * b)) = some (nI (dsN a b c1 c2 p)) := by decide +kernel
theorem n_lp {a b : Nat} (ha : a < 2) (hb : b < 2) (c1 c2 : Bool) : ∀ fu p (ds : AR), p ≤ 4 → 4 - p < fu → (∀ q, q < p → ds q = nI (dsN a b c1 c2 q)) → ∃ ds', f_Nearest_measure_21 fu (nI (a + 2 * b)) (bI c1) (bI c2) (nI p) ds = some ds' ∧ ∀ q, q < 4 → ds' q = nI (dsN a b c1 c2 q) := by
  intro fu
  induction fu with
  | zero => intro p ds h1 h2; omega
  | succ fu ih =>
    intro p ds h1 h2 h3
    show ∃ ds', f_Nearest_measure_21_b _ _ _ _ _ _ = _ ∧ _
    unfold f_Nearest_measure_21_b
    by_cases e : p = 4
    · rw [if_pos (show (4 : Int32) ≤ nI p from nI_le (a := 4) (by omega) (by omega))]
      exact ⟨ds, rfl, e ▸ h3⟩
    · rw [if_neg (show ¬ (4 : Int32) ≤ nI p from nI_ge (b := 4) (by omega) (by decide)), ms_all p (by omega) c1 c2 a ha b hb, q_bd, q_nm, q_wrI (by omega) (by decide), q_nm, nI_1]
      refine ih (p + 1) _ (by omega) (by omega) (fun q hq => ?_)
      by_cases c : q = p
      · subst c; exact pk_us
      · rw [pk_un c]; exact h3 q (by omega)
theorem n_ms (cl : Nat → Int64) {k a b : Nat} (hk : k + a ≤ 4096) (ha : a < 2) (hb : b < 2) (ds : AR) : ∃ ds', f_Nearest_measure cl ds (nI k) (nI (a + 2 * b)) = some ds' ∧ ∀ q, q < 4 → ds' q = nI (dsN a b (g4 cl k) (g4 cl (k + a)) q) := by
  unfold f_Nearest_measure
  rw [bit_at cl (by omega), q_bd, q_nm, (kp_all a ha b hb).2.2.1, nI_add, bit_at cl hk, q_bd, q_nm]
  obtain ⟨ds', h1, h2⟩ := n_lp ha hb (g4 cl k) (g4 cl (k + a)) 10000 0 ds (by omega) (by omega) (fun q hq => by omega)
  exact ⟨ds', h1, h2⟩
theorem pf_all : ∀ h, h < 32 → prv (2 * h) < 4 ∧ prv (64 + 2 * h) = 3 - prv (2 * h) ∧ prv (2 * h + 1) = 3 - prv (2 * h) ∧ prv (64 + (2 * h + 1)) = prv (2 * h) := by decide +kernel
theorem x3_all : ∀ v, v < 4 → nI v ^^^ (3 : Int32) = nI (3 - v) := by decide
theorem two_bit : ∀ j, j < 64 → (2#64).getLsbD j = decide (j = 1) := by decide
theorem bt_shl2 {s : Nat} (hs : s < 63) (k : Nat) (hk : k < 64) : bt ((2 : Int64) <<< ((nI s).toInt64 &&& 63)) k = decide (k = s + 1) := by
  unfold bt
  rw [b_shl _ (by omega), BitVec.getLsbD_shiftLeft]
  show (decide (k < 64) && !decide (k < s) && (2#64).getLsbD (k - s)) = _
  rw [two_bit _ (by omega)]
  by_cases h : k = s + 1
  · subst h
    simp [hk]
  · by_cases h2 : k < s
    · simp [h, h2]
    · simp [h, h2, show ¬ k - s = 1 by omega]
theorem mn_eq {x y : Nat} (hx : x < 2 ^ 30) (hy : y < 2 ^ 30) : (if nI x < nI y then nI x else nI y) = nI (min y x) := by
  by_cases c : x < y
  · rw [if_pos (nI_lt c (by omega)), Nat.min_eq_right (by omega)]
  · rw [if_neg (nI_nlt (by omega) (by omega)), Nat.min_eq_left (by omega)]
theorem n_sb {P : Nat} {cl : Nat → Int64} {N t : Nat} (hN : N ≤ 4096) (ht : t < N) {prs ds ltr : AR} (hp : ∀ h, h < 64 → prs h = nI (prv h)) (hd : ∀ q, q < 4 → ds q = nI (dsN (k1 P t) (k2 P t) (g4 cl (cnt P 0 t)) (g4 cl (cnt P 0 t + k1 P t)) q)) (hl : ∀ s, s < 64 → ltr s = nI (lea P cl N (N - (t + 1)) s)) :
    ∀ fu h (x : Int64) (now : AR), h ≤ 32 → 32 - h < fu → (∀ s, s < 2 * h → now s = nI (lea P cl N (N - t) s)) → (∀ k, k < 64 → bt x k = (decide (k < 2 * h) && obt P cl N t k)) → ∃ x' now', f_Nearest_stepBack_5 prs ds ltr 64 64 fu x (nI h) now = some (x', now') ∧ (∀ s, s < 64 → now' s = nI (lea P cl N (N - t) s)) ∧ (∀ k, k < 64 → bt x' k = obt P cl N t k) := by
  intro fu
  induction fu with
  | zero => intro h x now h1 h2; omega
  | succ fu ih =>
    intro h x now h1 h2 h3 h4
    show ∃ x' now', f_Nearest_stepBack_5_b _ _ _ _ _ _ _ _ _ = _ ∧ _ ∧ _
    unfold f_Nearest_stepBack_5_b
    by_cases e : h = 32
    · rw [if_pos (show (32 : Int32) ≤ nI h from nI_le (a := 32) (by omega) (by omega))]
      subst e
      exact ⟨x, now, rfl, fun s hs => h3 s (by omega), fun k hk => by rw [h4 k hk]; simp [show k < 64 from hk]⟩
    · obtain ⟨p1, p2, p3, p4⟩ := pf_all h (by omega)
      have hc : ∀ v, cst P cl t v = dsN (k1 P t) (k2 P t) (g4 cl (cnt P 0 t)) (g4 cl (cnt P 0 t + k1 P t)) (prv v) := fun v => rfl
      have e1 : ds (prv (2 * h)) = nI (cst P cl t (2 * h)) := by rw [hd _ p1, hc]
      have e2 : ds (3 - prv (2 * h)) = nI (cst P cl t (64 + 2 * h)) := by rw [hd _ (by omega), hc, p2]
      have e3 : cst P cl t (2 * h + 1) = cst P cl t (64 + 2 * h) := by rw [hc, hc, p3, p2]
      have e4 : cst P cl t (64 + (2 * h + 1)) = cst P cl t (2 * h) := by rw [hc, hc, p4]
      have b1 : cst P cl t (2 * h) ≤ 2 := dsN_le ..
      have b2 : cst P cl t (64 + 2 * h) ≤ 2 := dsN_le ..
      have b3 := lea_le P cl N (N - (t + 1)) h
      have b4 := lea_le P cl N (N - (t + 1)) (32 + h)
      have hle : ∀ s, lea P cl N (N - t) s = min (cst P cl t s + lea P cl N (N - (t + 1)) (s / 2)) (cst P cl t (64 + s) + lea P cl N (N - (t + 1)) (32 + s / 2)) := by
        intro s
        rw [show N - t = (N - (t + 1)) + 1 by omega]
        show min (cst P cl (N - 1 - (N - (t + 1))) _ + _) (cst P cl (N - 1 - (N - (t + 1))) _ + _) = _
        rw [show N - 1 - (N - (t + 1)) = t by omega]
      have l1 := hle (2 * h)
      have l2 := hle (2 * h + 1)
      have ob : ∀ s, obt P cl N t s = decide (cst P cl t (64 + s) + lea P cl N (N - (t + 1)) (32 + s / 2) < cst P cl t s + lea P cl N (N - (t + 1)) (s / 2)) := by
        intro s
        unfold obt
        rw [show N - 1 - t = N - (t + 1) by omega]
      have o1' := ob (2 * h)
      have o2' := ob (2 * h + 1)
      rw [show 2 * h / 2 = h by omega] at l1 o1'
      rw [show (2 * h + 1) / 2 = h by omega, e3, e4] at l2 o2'
      rw [if_neg (show ¬ (32 : Int32) ≤ nI h from nI_ge (b := 32) (by omega) (by decide)), show (2 : Int32) * nI h = nI (2 * h) from pk_mul 2 h, q_rdI (by omega) (by decide), hp _ (by omega), q_rdI p1 (by decide), q_rdI (by omega) (by decide), hp _ (by omega), x3_all _ p1, q_rdI (by omega) (by decide), q_rdI (by omega) (by decide), show nI h + (32 : Int32) = nI (32 + h) by rw [show (32 : Int32) = nI 32 from rfl, nI_add, Nat.add_comm], q_rdI (by omega) (by decide), hl h (by omega), hl (32 + h) (by omega), e1, e2, nI_add, nI_add, nI_add, nI_add, q_wrI (by omega) (by decide), nI_1, q_wrI (by omega) (by decide), mn_eq (by omega) (by omega), mn_eq (by omega) (by omega)]
      generalize lea P cl N (N - (t + 1)) h = A at *
      generalize lea P cl N (N - (t + 1)) (32 + h) = B at *
      generalize cst P cl t (2 * h) = X at *
      generalize cst P cl t (64 + 2 * h) = Z at *
      have hgo : ∀ x', (∀ k, k < 64 → bt x' k = (decide (k < 2 * (h + 1)) && obt P cl N t k)) → ∃ x'' now', f_Nearest_stepBack_147 (f_Nearest_stepBack_5 prs ds ltr 64 64 fu) x' (nI h) (upd (upd now (2 * h) (nI (min (A + X) (B + Z)))) (2 * h + 1) (nI (min (A + Z) (B + X)))) = some (x'', now') ∧ (∀ s, s < 64 → now' s = nI (lea P cl N (N - t) s)) ∧ (∀ k, k < 64 → bt x'' k = obt P cl N t k) := by
        intro x' hx'
        unfold f_Nearest_stepBack_147
        rw [q_nm, nI_1]
        refine ih (h + 1) x' _ (by omega) (by omega) (fun s hs => ?_) hx'
        by_cases c : s = 2 * h + 1
        · subst c
          rw [pk_us, l2, Nat.add_comm A, Nat.add_comm B]
        · rw [pk_un c]
          by_cases c2 : s = 2 * h
          · subst c2
            rw [pk_us, l1, Nat.add_comm A, Nat.add_comm B]
          · rw [pk_un c2]
            exact h3 s (by omega)
      have hgo2 : ∀ x', (∀ k, k < 64 → bt x' k = (decide (k < 2 * h + 1) && obt P cl N t k)) → ∃ x'' now', f_Nearest_stepBack_123 (f_Nearest_stepBack_5 prs ds ltr 64 64 fu) x' (nI h) (nI X) (nI Z) (nI A) (nI B) (upd (upd now (2 * h) (nI (min (A + X) (B + Z)))) (2 * h + 1) (nI (min (A + Z) (B + X)))) = some (x'', now') ∧ (∀ s, s < 64 → now' s = nI (lea P cl N (N - t) s)) ∧ (∀ k, k < 64 → bt x'' k = obt P cl N t k) := by
        intro x' hx'
        unfold f_Nearest_stepBack_123
        rw [nI_add, nI_add, show (2 : Int32) * nI h = nI (2 * h) from pk_mul 2 h]
        by_cases c : A + Z ≤ B + X
        · rw [if_pos (nI_le c (by omega))]
          refine hgo x' (fun k hk => ?_)
          rw [hx' k hk]
          by_cases c2 : k = 2 * h + 1
          · subst c2
            rw [o2', decide_eq_false (show ¬ X + B < Z + A by omega)]
            simp
          · by_cases c3 : k < 2 * h + 1
            · simp [c3, show k < 2 * (h + 1) by omega]
            · simp [c3, show ¬ k < 2 * (h + 1) by omega]
        · rw [if_neg (nI_ge (by omega) (by omega)), q_nm]
          refine hgo _ (fun k hk => ?_)
          rw [bt_or, bt_shl2 (by omega) k hk, hx' k hk]
          by_cases c2 : k = 2 * h + 1
          · subst c2
            rw [o2', decide_eq_true (show X + B < Z + A by omega)]
            simp [show 2 * h + 1 < 2 * (h + 1) by omega]
          · by_cases c3 : k < 2 * h + 1
            · simp [c2, c3, show k < 2 * (h + 1) by omega]
            · simp [c2, c3, show ¬ k < 2 * (h + 1) by omega]
      by_cases c : A + X ≤ B + Z
      · rw [if_pos (nI_le c (by omega))]
        refine hgo2 x (fun k hk => ?_)
        rw [h4 k hk]
        by_cases c2 : k = 2 * h
        · subst c2
          rw [o1', decide_eq_false (show ¬ Z + B < X + A by omega)]
          simp
        · by_cases c3 : k < 2 * h
          · simp [c3, show k < 2 * h + 1 by omega]
          · simp [c3, show ¬ k < 2 * h + 1 by omega]
      · rw [if_neg (nI_ge (by omega) (by omega)), q_nm]
        refine hgo2 _ (fun k hk => ?_)
        rw [bt_or, bt_shl1 (by omega) k hk, h4 k hk]
        by_cases c2 : k = 2 * h
        · subst c2
          rw [o1', decide_eq_true (show Z + B < X + A by omega)]
          simp
        · by_cases c3 : k < 2 * h
          · simp [c2, c3, show k < 2 * h + 1 by omega]
          · simp [c2, c3, show ¬ k < 2 * h + 1 by omega]
abbrev NR : Type := Option (Int32 × AR × Int32 × (Nat → Int64) × (Nat → Int64) × AR × AR)
theorem n_out {P : Nat} (hP : P ≤ 4) {cl : Nat → Int64} {N : Nat} (hlen : cnt P 0 N ≤ 4096) {prs : AR} (hp : ∀ h, h < 64 → prs h = nI (prv h)) (fl : Int32) (fc : Nat → Int64) :
    ∀ t fu sw (ltr now ds : AR) (oib : Nat → Int64), t ≤ N → t < fu → (∀ s, s < 64 → ltr s = nI (lea P cl N (N - t) s)) → (∀ u, t ≤ u → u < N → ∀ k, k < 64 → bt (oib u) k = obt P cl N u k) →
    ∃ sw' ltr' now' ds' oib', f_Nearest_decode_29 cl prs fu sw (nI P) (nI N) (nI (cnt P 0 t)) (nI t + (-1)) ltr fl fc oib ds now = f_Nearest_decode_94 sw' (nI N) ltr' fl fc oib' ds' now' ∧ (∀ s, s < 64 → ltr' s = nI (lea P cl N N s)) ∧ (∀ u, u < N → ∀ k, k < 64 → bt (oib' u) k = obt P cl N u k) := by
  have hN := cnt_hi hP hlen
  intro t
  induction t with
  | zero =>
    intro fu sw ltr now ds oib h1 h2 h3 h4
    obtain ⟨f, rfl⟩ : ∃ f, fu = f + 1 := ⟨fu - 1, by omega⟩
    show ∃ sw' ltr' now' ds' oib', f_Nearest_decode_29_b _ _ _ _ _ _ _ _ _ _ _ _ _ _ = _ ∧ _ ∧ _
    unfold f_Nearest_decode_29_b
    rw [if_pos (show nI 0 + (-1) < 0 by decide)]
    exact ⟨_, _, _, _, _, rfl, h3, fun u hu k hk => h4 u (by omega) hu k hk⟩
  | succ t ih =>
    intro fu sw ltr now ds oib h1 h2 h3 h4
    obtain ⟨f, rfl⟩ : ∃ f, fu = f + 1 := ⟨fu - 1, by omega⟩
    show ∃ sw' ltr' now' ds' oib', f_Nearest_decode_29_b _ _ _ _ _ _ _ _ _ _ _ _ _ _ = _ ∧ _ ∧ _
    unfold f_Nearest_decode_29_b
    obtain ⟨c1, c2, c3⟩ := k_le hP t
    have e1 : cnt P 0 (t + 1) = cnt P 0 t + (k1 P t + k2 P t) := by
      show cnt P 0 t + (k1 P (0 + t) + k2 P (0 + t)) = _
      rw [Nat.zero_add]
    have hm : cnt P 0 (t + 1) ≤ cnt P 0 N := by
      have := cnt_add P 0 (t + 1) (N - (t + 1))
      rw [show t + 1 + (N - (t + 1)) = N by omega] at this
      omega
    obtain ⟨ds1, d1, d2⟩ := n_ms cl (k := cnt P 0 t) (a := k1 P t) (b := k2 P t) (by omega) (by omega) (by omega) ds
    rw [pk_m1, if_neg (nI_pos (by omega)), k_cl hP (by omega), q_bd, q_nm, (kp_all _ (show k1 P t < 2 by omega) _ (show k2 P t < 2 by omega)).2.2.2.2, q_bd, q_nm, q_nm, pk_sub (by omega), show cnt P 0 (t + 1) - (k1 P t + k2 P t) = cnt P 0 t by omega, d1, q_bd, q_nm]
    obtain ⟨x1, now1, s1, s2, s3⟩ := n_sb (P := P) (cl := cl) (N := N) (t := t) (by omega) (by omega) hp d2 h3 10000 0 0 now (by omega) (by omega) (fun s hs => by omega) (fun k hk => by rw [bt_0]; simp)
    have s1' : f_Nearest_stepBack prs ds1 ltr now 64 64 = some (x1, now1) := s1
    rw [s1', q_bd, q_nm, q_nm, q_wrL (by omega) (by decide), q_nm]
    refine ih f (!sw) now1 ltr ds1 _ (by omega) (by omega) s2 (fun u h5 h6 k hk => ?_)
    by_cases c : u = t
    · subst c
      rw [pk_uLs]
      exact s3 k hk
    · rw [pk_uLn c]
      exact h4 u (by omega) h6 k hk
theorem fj_lp {n : Nat} (hn : n < 10000) (v : Int64) : ∀ fu k (f : Nat → Int64), k ≤ n → n - k < fu → ∃ f', f_Arrays_fillJ_6 n fu v (nI k) (nI n) f = some f' ∧ ∀ i, f' i = if k ≤ i ∧ i < n then v else f i := by
  intro fu
  induction fu with
  | zero => intro k f h1 h2; omega
  | succ fu ih =>
    intro k f h1 h2
    show ∃ f', f_Arrays_fillJ_6_b _ _ _ _ _ _ = _ ∧ _
    unfold f_Arrays_fillJ_6_b
    by_cases e : k = n
    · rw [if_pos (nI_le (by omega) (by omega))]
      exact ⟨f, rfl, fun i => by rw [if_neg (by omega)]⟩
    · rw [if_neg (nI_ge (by omega) (by omega)), q_wrL (by omega) (by omega), q_nm, nI_1]
      obtain ⟨f', h3, h4⟩ := ih (k + 1) (vp_updL f k v) (by omega) (by omega)
      refine ⟨f', h3, fun i => ?_⟩
      rw [h4 i]
      by_cases e2 : i = k
      · subst e2
        rw [if_neg (by omega), if_pos ⟨by omega, by omega⟩, pk_uLs]
      · rw [pk_uLn e2]
        by_cases e3 : k ≤ i ∧ i < n
        · rw [if_pos e3, if_pos ⟨by omega, e3.2⟩]
        · rw [if_neg e3, if_neg (by omega)]
theorem fj_I {n : Nat} (hn : n < 10000) (v : Int64) (f : Nat → Int64) : f_Arrays_fillJ f n v = some (fun i => if i < n then v else f i) := by
  unfold f_Arrays_fillJ
  rw [q_nm]
  obtain ⟨f', h1, h2⟩ := fj_lp hn v 10000 0 f (by omega) (by omega)
  rw [nI_0] at h1
  rw [h1]
  congr 1
  funext i
  rw [h2 i]
  by_cases e : i < n
  · rw [if_pos e, if_pos ⟨by omega, e⟩]
  · rw [if_neg e, if_neg (by omega)]
theorem em_ok (l : Int32) (c : Nat → Int64) : ∃ c', f_BitRow_empty l c = some (0, c') ∧ ∀ k, k < 4096 → cb c' k = false := by
  unfold f_BitRow_empty
  rw [fj_I (by omega), q_bd, q_nm]
  refine ⟨_, rfl, fun k hk => ?_⟩
  show bt (if k / 64 < 64 then 0 else c (k / 64)) (k % 64) = false
  rw [if_pos (by omega), bt_0]
theorem n_tr {P : Nat} {cl : Nat → Int64} {N : Nat} (hN : N < 3600) {oib : Nat → Int64} (ho : ∀ u, u < N → ∀ k, k < 64 → bt (oib u) k = obt P cl N u k) :
    ∀ fu t (c : Nat → Int64), t ≤ N → N - t < fu → (∀ k, k < 4096 → cb c k = (decide (k < t) && obt P cl N k (pst P cl N k))) → ∃ c', f_Nearest_trace_9 oib fu (nI N) (nI (pst P cl N t)) (nI t) (nI t) c = some (nI N, c') ∧ ∀ k, k < 4096 → cb c' k = (decide (k < N) && obt P cl N k (pst P cl N k)) := by
  intro fu
  induction fu with
  | zero => intro t c h1 h2; omega
  | succ fu ih =>
    intro t c h1 h2 h3
    show ∃ c', f_Nearest_trace_9_b _ _ _ _ _ _ _ = _ ∧ _
    unfold f_Nearest_trace_9_b
    by_cases e : t = N
    · rw [if_pos (nI_le (by omega) (by omega)), e]
      exact ⟨c, rfl, e ▸ h3⟩
    · have hp := pst_lt P cl N t
      obtain ⟨c1, a1, a2⟩ := a_app (len := t) (by omega) c (obt P cl N t (pst P cl N t))
      rw [if_neg (nI_ge (by omega) (by omega)), q_rdL (by omega) (by decide), q_nm, b_ui _ hp, ho t (by omega) _ hp, a1, q_bd, q_nm, q_nm, q_nm, q_nm, nI_1]
      have e2 : ((nI (pst P cl N t) >>> ((1 : Int32) &&& 31)) ||| (bI (obt P cl N t (pst P cl N t)) <<< ((5 : Int32) &&& 31))) = nI (pst P cl N (t + 1)) := (rs_all (pst P cl N t) hp _ (tn_lt (obt P cl N t (pst P cl N t)))).2.2
      rw [e2]
      refine ih (t + 1) c1 (by omega) (by omega) (fun k hk => ?_)
      rw [a2 k, h3 k hk]
      by_cases c2 : k = t
      · subst c2
        simp
      · by_cases c3 : k < t
        · simp [c2, c3, show k < t + 1 by omega]
        · simp [c2, c3, show ¬ k < t + 1 by omega]
/-- the class's decoded row -/
theorem n_ok {P : Nat} (hP : P ≤ 4) {cl : Nat → Int64} {N : Nat} (hlen : cnt P 0 N ≤ 4096) {prs : AR} (hp : ∀ h, h < 64 → prs h = nI (prv h)) (ev od ds : AR) (fl : Int32) (fc oib : Nat → Int64) :
    ∃ ev' fc' oib' ds' od', f_Nearest_decode ev (nI (cnt P 0 N)) fl fc oib cl ds prs od (nI P) (nI N) = some (nI (lea P cl N N 0), ev', nI N, fc', oib', ds', od') ∧ ∀ k, k < 4096 → cb fc' k = (decide (k < N) && obt P cl N k (pst P cl N k)) := by
  have hN := cnt_hi hP hlen
  unfold f_Nearest_decode f_BitRow_size
  rw [fi_I (by omega), q_bd, q_nm, q_bd, q_nm, q_nm, Int32.sub_eq_add_neg]
  obtain ⟨sw', l', n', d', o', a1, a2, a3⟩ := n_out hP (cl := cl) hlen hp fl fc N 10000 false (fun i => if i < 64 then 0 else ev i) od ds oib (by omega) (by omega) (fun s hs => by
    rw [if_pos hs, show N - N = 0 by omega]
    rfl) (fun u h1 h2 => by omega)
  rw [show (-(1 : Int32)) = -1 from rfl, a1]
  unfold f_Nearest_decode_94 f_Nearest_trace
  obtain ⟨c0, e1, e2⟩ := em_ok fl fc
  rw [e1, q_bd, q_nm, q_nm]
  obtain ⟨c', b1, b2⟩ := n_tr (P := P) (cl := cl) hN a3 10000 0 c0 (by omega) (by omega) (fun k hk => by rw [e2 k hk]; simp)
  have b1' : f_Nearest_trace_9 o' 10000 (nI N) 0 0 0 c0 = some (nI N, c') := b1
  show ∃ ev' fc' oib' ds' od', (bd (f_Nearest_trace_9 o' 10000 (nI N) 0 0 0 c0) _) = _ ∧ _
  rw [b1', q_bd, q_nm, q_nm, show (0 : Int32) = nI 0 from rfl, q_rdI (by omega) (by decide), a2 0 (by omega)]
  exact ⟨_, _, _, _, _, rfl, b2⟩
end
