/-! PURE PART: the class's constructor; the end of the pure part -/
section
theorem tg_all : ∀ a, a < 255 → f_Field_timesG (nI (pt a)) = some (nI (pt ((a + 11) % 255))) := by decide +kernel
theorem a8 {x : Nat} (hx : x < 256) : nI x &&& (255 : Int32) = nI x := by rw [pk_andN (by omega) 8 (by decide), Nat.mod_eq_of_lt hx]
theorem cl_pw (of el : AR) : ∀ fu k (pr lg : AR), k ≤ 255 → 255 - k < fu → (∀ i, i < k → pr i = nI (pt (11 * i % 255))) → (∀ i, i < k → lg (pt (11 * i % 255)) = nI i) → ∃ pr' lg', f_Field_init_44 fu (nI (pt (11 * k % 255))) (nI k) pr lg of el = f_Field_init_80 pr' lg' of el ∧ (∀ i, i < 255 → pr' i = nI (pt (11 * i % 255))) ∧ (∀ i, i < 255 → lg' (pt (11 * i % 255)) = nI i) := by
  intro fu
  induction fu with
  | zero => intro k pr lg h1 h2; omega
  | succ fu ih =>
    intro k pr lg h1 h2 h3 h4
    show ∃ pr' lg', f_Field_init_44_b _ _ _ _ _ _ _ = _ ∧ _ ∧ _
    unfold f_Field_init_44_b
    by_cases e : k = 255
    · subst e
      rw [if_pos (by decide)]
      exact ⟨pr, lg, rfl, h3, h4⟩
    · have hk : k < 255 := by omega
      have hm : 11 * k % 255 < 255 := Nat.mod_lt _ (by decide)
      have hp := (pt_all _ hm).1
      rw [if_neg (show ¬ (255 : Int32) ≤ nI k from nI_ge (b := 255) hk (by decide)), q_wrI hk (by decide), a8 hp, q_wrI hp (by decide), tg_all _ hm, q_bd, q_nm, q_nm, nI_1, show (11 * k % 255 + 11) % 255 = 11 * (k + 1) % 255 by omega]
      refine ih (k + 1) _ _ (by omega) (by omega) (fun i hi => ?_) (fun i hi => ?_)
      · by_cases c : i = k
        · subst c; exact pk_us
        · rw [pk_un c]; exact h3 i (by omega)
      · by_cases c : i = k
        · subst c; exact pk_us
        · rw [pk_un (pt_inj (Nat.mod_lt _ (by decide)) hm (by omega))]; exact h4 i (by omega)
theorem so_all : ∀ b, b < 8 → stO b = nI ([123, 175, 153, 250, 134, 236, 239, 141].getD b 0) := by decide
theorem cl_o8 (kh : Int32 → AR → AR → AR → AR → Option (AR × AR × AR × AR)) (x : Nat) (hx : x < 256) (pr lg of el : AR) : ∀ fu b, b ≤ 8 → 8 - b < fu → f_Field_init_94 kh fu (nI x) (nI (ofp x b)) (nI b) pr lg of el = f_Field_init_123 kh (nI x) (nI (ofm x)) pr lg of el := by
  intro fu
  induction fu with
  | zero => intro b h1 h2; omega
  | succ fu ih =>
    intro b h1 h2
    show f_Field_init_94_b _ _ _ _ _ _ _ _ _ = _
    unfold f_Field_init_94_b
    by_cases e : b = 8
    · subst e
      rw [if_pos (by decide)]
      rfl
    · rw [if_neg (show ¬ (8 : Int32) ≤ nI b from nI_ge (b := 8) (by omega) (by decide)), q_rdI (by omega) (by decide), so_all b (by omega), n_bit (by omega) (by omega), pk_mul, nI_xor, q_nm, q_nm, nI_1]
      exact ih (b + 1) (by omega) (by omega)
theorem cl_of (pr lg : AR) : ∀ fu k (of el : AR), k ≤ 256 → 256 - k < fu → (∀ i, i < k → of i = nI (ofm i)) → (∀ i, i < k → el (ofm i) = nI i) → ∃ of' el', f_Field_init_82 fu (nI k) pr lg of el = some (pr, lg, of', el') ∧ (∀ i, i < 256 → of' i = nI (ofm i)) ∧ (∀ i, i < 256 → el' (ofm i) = nI i) := by
  intro fu
  induction fu with
  | zero => intro k of el h1 h2; omega
  | succ fu ih =>
    intro k of el h1 h2 h3 h4
    show ∃ of' el', f_Field_init_82_b _ _ _ _ _ _ = _ ∧ _ ∧ _
    unfold f_Field_init_82_b
    by_cases e : k = 256
    · subst e
      rw [if_pos (by decide)]
      exact ⟨of, el, rfl, h3, h4⟩
    · have hk : k < 256 := by omega
      have ho := of_all k hk
      rw [if_neg (show ¬ (256 : Int32) ≤ nI k from nI_ge (b := 256) hk (by decide))]
      have a := cl_o8 (f_Field_init_82 fu) k hk pr lg of el 10000 0 (by omega) (by omega)
      have a' : f_Field_init_94 (f_Field_init_82 fu) 10000 (nI k) 0 0 pr lg of el = f_Field_init_123 (f_Field_init_82 fu) (nI k) (nI (ofm k)) pr lg of el := a
      rw [a']
      unfold f_Field_init_123
      rw [q_wrI hk (by decide), a8 ho.1, q_wrI ho.1 (by decide), q_nm, nI_1]
      refine ih (k + 1) _ _ (by omega) (by omega) (fun i hi => ?_) (fun i hi => ?_)
      · by_cases c : i = k
        · subst c; exact pk_us
        · rw [pk_un c]; exact h3 i (by omega)
      · by_cases c : i = k
        · subst c; exact pk_us
        · rw [pk_un (ofm_inj (by omega) hk c)]; exact h4 i (by omega)
theorem cl_fd : ∃ pr lg of el, f_Field_init = some (pr, lg, of, el) ∧ (∀ k, k < 255 → pr k = nI (pt (11 * k % 255))) ∧ (∀ a, a < 256 → a ≠ 0 → lg a = nI (lt a * 116 % 255)) ∧ (∀ a, a < 256 → of a = nI (ofm a)) ∧ (∀ a, a < 256 → el (ofm a) = nI a) := by
  obtain ⟨pr, lg, a1, a2, a3⟩ := cl_pw (fun _ => 0) (fun _ => 0) 10000 0 (fun _ => 0) (fun _ => 0) (by omega) (by omega) (fun i hi => by omega) (fun i hi => by omega)
  obtain ⟨of, el, b1, b2, b3⟩ := cl_of pr lg 10000 0 (fun _ => 0) (fun _ => 0) (by omega) (by omega) (fun i hi => by omega) (fun i hi => by omega)
  refine ⟨pr, lg, of, el, ?_, a2, fun a ha h0 => ?_, b2, b3⟩
  · rw [show nI (pt (11 * 0 % 255)) = 1 by decide, nI_0] at a1
    rw [nI_0] at b1
    unfold f_Field_init
    rw [a1]
    unfold f_Field_init_80
    exact b1
  · obtain ⟨l1, l2⟩ := lt_all a ha h0
    have := a3 (lt a * 116 % 255) (Nat.mod_lt _ (by decide))
    rw [show 11 * (lt a * 116 % 255) % 255 = lt a by omega, l2] at this
    exact this
theorem cl_m8 (kh : Int32 → Int32 → AR → Option AR) (p : Nat) (hp : p < 256) (x2 : Int32) (mx : AR) : ∀ fu b, b ≤ 8 → 8 - b < fu → f_Mixer_init_35 kh fu (nI (mit p b)) x2 (nI b) mx = f_Mixer_init_66 kh (nI (mit p 8)) x2 mx := by
  intro fu
  induction fu with
  | zero => intro b h1 h2; omega
  | succ fu ih =>
    intro b h1 h2
    show f_Mixer_init_35_b _ _ _ _ _ _ = _
    unfold f_Mixer_init_35_b
    by_cases e : b = 8
    · subst e
      rw [if_pos (by decide)]
    · have hs := st_all _ (mit_lt hp b)
      rw [if_neg (show ¬ (8 : Int32) ≤ nI b from nI_ge (b := 8) (by omega) (by decide)), hs.2.2.1, q_bd, q_nm, hs.2.2.2, q_nm, q_nm, nI_1]
      exact ih (b + 1) (by omega) (by omega)
theorem cl_mx : ∀ fu t (mx : AR), t ≤ 250 → 250 - t < fu → (∀ i, i < t → mx i = nI (mxs i)) → ∃ mx', f_Mixer_init_19 fu (nI (mxs t)) (nI t) mx = some mx' ∧ (∀ i, i < 250 → mx' i = nI (mxs i)) := by
  intro fu
  induction fu with
  | zero => intro t mx h1 h2; omega
  | succ fu ih =>
    intro t mx h1 h2 h3
    show ∃ mx', f_Mixer_init_19_b _ _ _ _ = _ ∧ _
    unfold f_Mixer_init_19_b
    by_cases e : t = 250
    · subst e
      rw [if_pos (by decide)]
      exact ⟨mx, rfl, h3⟩
    · rw [if_neg (show ¬ (250 : Int32) ≤ nI t from nI_ge (b := 250) (by omega) (by decide)), q_wrI (by omega) (by decide)]
      have a := cl_m8 (f_Mixer_init_19 fu) (mxs t) (mxs_lt t) (nI t) (upd mx t (nI (mxs t))) 10000 0 (by omega) (by omega)
      have a' : f_Mixer_init_35 (f_Mixer_init_19 fu) 10000 (nI (mxs t)) (nI t) 0 (upd mx t (nI (mxs t))) = f_Mixer_init_66 (f_Mixer_init_19 fu) (nI (mit (mxs t) 8)) (nI t) (upd mx t (nI (mxs t))) := a
      rw [a']
      unfold f_Mixer_init_66
      rw [q_nm, nI_1]
      refine ih (t + 1) _ (by omega) (by omega) (fun i hi => ?_)
      by_cases c : i = t
      · subst c; exact pk_us
      · rw [pk_un c]; exact h3 i (by omega)
theorem cl_np : ∀ fu k (np : AR), k ≤ 64 → 64 - k < fu → (∀ i, i < k → np i = nI (prv i)) → ∃ np', f_Nearest_init_46 fu (nI k) np = some np' ∧ (∀ i, i < 64 → np' i = nI (prv i)) := by
  intro fu
  induction fu with
  | zero => intro k np h1 h2; omega
  | succ fu ih =>
    intro k np h1 h2 h3
    show ∃ np', f_Nearest_init_46_b _ _ _ = _ ∧ _
    unfold f_Nearest_init_46_b
    by_cases e : k = 64
    · subst e
      rw [if_pos (by decide)]
      exact ⟨np, rfl, h3⟩
    · rw [if_neg (show ¬ (64 : Int32) ≤ nI k from nI_ge (b := 64) (by omega) (by decide)), o_cl k (by omega), q_bd, q_nm, q_wrI (by omega) (by decide), q_nm, nI_1]
      refine ih (k + 1) _ (by omega) (by omega) (fun i hi => ?_)
      by_cases c : i = k
      · subst c; exact pk_us
      · rw [pk_un c]; exact h3 i (by omega)
theorem by_0 : BY (fun _ => (0 : Int32)) := fun _ => ⟨0, by omega, rfl⟩
theorem cb_0 (k : Nat) : cb (fun _ => (0 : Int64)) k = false := bt_0 _
theorem cl_ok : ∃ pr lg of el gn mx np, f_DC_init = some (1, 55, 8, 0, pr, lg, of, el, gn, mx, 0, 0, 0, 0, 0, 0, -1, 0, 0, np, 0) ∧ (∀ k, k < 255 → pr k = nI (pt (11 * k % 255))) ∧ (∀ a, a < 256 → a ≠ 0 → lg a = nI (lt a * 116 % 255)) ∧ (∀ a, a < 256 → of a = nI (ofm a)) ∧ (∀ a, a < 256 → el (ofm a) = nI a) ∧ @GenOK GF gfF ge gG 8 gn ∧ (∀ t, t < 250 → mx t = nI (mxs t)) ∧ (∀ i, i < 64 → np i = nI (prv i)) := by
  obtain ⟨pr, lg, of, el, a1, a2, a3, a4, a5⟩ := cl_fd
  obtain ⟨gn, b1, b2⟩ := @c_prep GF gfF ge gG lg pr ge_enc (fldC a2 a3) 8 (by omega) (fun _ => ⟨0, by decide⟩)
  obtain ⟨mx, c1, c2⟩ := cl_mx 10000 0 (fun _ => 0) (by omega) (by omega) (fun i hi => by omega)
  obtain ⟨np, d1, d2⟩ := cl_np 10000 0 (fun _ => 0) (by omega) (by omega) (fun i hi => by omega)
  refine ⟨pr, lg, of, el, gn, mx, np, ?_, a2, a3, a4, a5, b2, c2, d2⟩
  have b1' : f_Words_prepare 8 (fun _ => 0) pr lg = some gn := b1
  have c1' : f_Mixer_init_19 10000 255 0 (fun _ => 0) = some mx := by
    rw [show nI (mxs 0) = 255 by decide, nI_0] at c1
    exact c1
  have d1' : f_Nearest_init_46 10000 0 (fun _ => 0) = some np := by
    rw [nI_0] at d1
    exact d1
  unfold f_DC_init f_Shape_init f_Words_init f_Locator_init f_Mixer_init f_BitRow_init f_Coder_init f_Sender_init f_Receiver_init f_Nearest_init f_BitRow_init
  rw [q_bd, q_nm, q_nm, q_nm, q_nm, a1, q_bd, q_nm, q_nm, q_nm, q_nm, q_bd, b1', c1', d1']
  simp only [p_nm, p_bd]
theorem pure_all (xs : AR) (L : Nat) (hL : L ≤ 2560) : PURE xs L := by
  obtain ⟨pr, lg, of, el, gn, mx, np, a1, a2, a3, a4, a5, a6, a7, a8'⟩ := cl_ok
  obtain ⟨prm, lgm, fmm, elm, mxm, co, b1, b2, b3, b4, b5, b6, b7⟩ := mo_ok
  refine ⟨_, _, _, _, _, _, _, _, _, _, _, _, _, _, _, _, _, _, _, _, _, a1, _, _, _, _, _, _, _, _, _, _, _, _, _, _, _, _, _, _, _, _, b1, ?_⟩
  refine @loop_ok GF gfF ge go gG mxs xs L hL 10000 0 _ _ _ _ _ _ (by omega) (by omega) ?_
  refine ⟨1, 200, 8, 0, ⟨⟨Or.inl ⟨by omega, by omega⟩, by omega, Or.inl rfl, by omega, by omega, by omega, by omega⟩, rfl, rfl, rfl, rfl, rfl, rfl, rfl, rfl⟩, ⟨0, by omega, rfl, rfl⟩, ⟨⟨0, by omega, rfl, rfl⟩, fun k hk => ⟨0, by omega, rfl, b7 k hk⟩⟩, ⟨0, by omega, rfl, rfl, fun k hk => by omega, by_0⟩, ⟨0, 0, by omega, rfl, rfl, rfl, rfl, rfl, rfl, re_0 (fun k _ => cb_0 k) _⟩, ⟨⟨gGen, ge_enc, fldM b2 b3, frm_ok b5 b4, fldC a2 a3, frm_ok a5 a4, go_sur⟩, tabA, a6, fun t ht => ⟨a7 t ht, b6 t ht, mxs_lt t⟩, a8'⟩, ⟨by_0, by_0, by_0, by_0, by_0, by_0, by_0, by_0, by_0, by_0, by_0, by_0, by_0⟩, ⟨0, by omega, rfl, rfl, rfl, re_0 (fun k _ => cb_0 k) _⟩, ⟨0, by omega, rfl, rfl, by omega, fun j hj => by omega⟩⟩
end
