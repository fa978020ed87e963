/-! PURE PART: rows on the words of the pictures -/
theorem q_nm {α β : Type} {e : α} {k : α → Option β} : nm e k = k e := rfl
theorem q_bd {α β : Type} {a : α} {k : α → Option β} : bd (some a) k = k a := rfl
theorem q_rdI {β : Type} {f : Nat → Int32} {n j : Nat} {k : Int32 → Option β} (h : j < n) (hn : n < 2 ^ 31) : rdI f n (nI j) k = k (f j) := by
  have h1 := nI_in h hn
  unfold rdI
  rw [if_neg h1, nI_clamp (by omega)]
theorem q_rdL {β : Type} {f : Nat → Int64} {n j : Nat} {k : Int64 → Option β} (h : j < n) (hn : n < 2 ^ 31) : rdL f n (nI j) k = k (f j) := by
  have h1 := nI_in h hn
  unfold rdL
  rw [if_neg h1, nI_clamp (by omega)]
theorem q_wrI {β : Type} {f : Nat → Int32} {n j : Nat} {x : Int32} {k : (Nat → Int32) → Option β} (h : j < n) (hn : n < 2 ^ 31) : wrI f n (nI j) x k = k (upd f j x) := by
  have h1 := nI_in h hn
  unfold wrI
  rw [if_neg h1, nI_clamp (by omega)]
theorem q_wrL {β : Type} {f : Nat → Int64} {n j : Nat} {x : Int64} {k : (Nat → Int64) → Option β} (h : j < n) (hn : n < 2 ^ 31) : wrL f n (nI j) x k = k (vp_updL f j x) := by
  have h1 := nI_in h hn
  unfold wrL
  rw [if_neg h1, nI_clamp (by omega)]
theorem q_dv {β : Type} {y : Int32} {k : Option β} (h : ¬ y = 0) : dv y k = k := if_neg h
theorem q_zb0 {β : Type} {k : Option β} : zb 0 k = k := if_pos (Or.inl rfl)
theorem q_zb1 {β : Type} {k : Option β} : zb 1 k = k := if_pos (Or.inr rfl)
theorem q_w0 {β : Type} {f : Nat → Int64} {x : Int64} {k : (Nat → Int64) → Option β} : wrL f 1 (0 : Int32) x k = k (vp_updL f 0 x) := q_wrL (j := 0) (by decide) (by decide)
theorem q_r0 {β : Type} {f : Nat → Int64} {k : Int64 → Option β} : rdL f 1 (0 : Int32) k = k (f 0) := q_rdL (j := 0) (by decide) (by decide)
theorem q_cmp (x : Int64) : lg_cmp x x = 0 := by simp [lg_cmp]
theorem q_upd0 {f : Nat → Int64} {x : Int64} : vp_updL f 0 x 0 = x := pk_uLs
/-- a read of the script at place k of call j -/
theorem q_scr {β : Type} {xs : Nat → Int32} {L j : Nat} {k : Int32 → Option β} (hj : 5 * j + 5 ≤ L) (hL : L ≤ 2560) (a : Nat) (ha : a < 5) : rdI xs L (nI (5 * j) + nI a) k = k (xs (5 * j + a)) := by
  rw [nI_add]
  exact q_rdI (by omega) (by omega)
/-- a form that there is -/
def FormOK (D F E P : Nat) : Prop := ((1 ≤ D ∧ D ≤ 5) ∨ D = 8) ∧ F ≤ 250 ∧ (E = 8 ∨ E = 16) ∧ P ≤ 4 ∧ 2 * E < 255 - F ∧ 9 ≤ D * (255 - F - 2 * E) ∧ D * (255 - F) ≤ 250
def IvForm (D F E P : Nat) (d w e p md mf mh mp : Int32) : Prop := FormOK D F E P ∧ d = nI D ∧ w = nI (255 - F) ∧ e = nI E ∧ p = nI P ∧ md = nI D ∧ mf = nI F ∧ mh = nI E ∧ mp = nI P
def IvCraft (c mc : Int32) : Prop := ∃ n : Nat, n ≤ 1023 ∧ c = nI n ∧ mc = nI n
def IvCount (j : Nat) (k mk : Int32) : Prop := ∃ n : Nat, n ≤ j ∧ k = nI (n % 256) ∧ mk = nI n
set_option maxHeartbeats 1000000 in
/-- promise 3, in the law's picture: the craft becomes another one; both answer what it was -/
theorem pc_craft {xs : Nat → Int32} {L j : Nat} {kh : Int32 → (Nat → Int32) → (Nat → Nat → Int32) → (Nat → Nat → Int64) → (Nat → Int32) → (Nat → Nat → Int32) → (Nat → Int64) → Option Unit} {ci : Nat → Int32} {ca : Nat → Nat → Int32} {cl : Nat → Nat → Int64} {mi : Nat → Int32} {ma : Nat → Nat → Int32} {ou : Nat → Int64}
    (hj : 5 * j + 5 ≤ L) (hL : L ≤ 2560) (hI : IvCraft (ci 8) (mi 5))
    (hk : ∀ (c' t' : Int32) (ou' : Nat → Int64), IvCraft c' c' → kh (nI (5 * j)) (lI [ci 0, ci 1, ci 2, ci 3, ci 4, ci 5, ci 6, ci 7, c', ci 9, ci 10, ci 11, ci 12, ci 13]) ca cl (lI [t', mi 1, mi 2, mi 3, mi 4, c', mi 6, mi 7, mi 8, mi 9, mi 10, mi 11, mi 12, mi 13, mi 14]) ma ou' = some ())
    (hk2 : ∀ (t' : Int32), kh (nI (5 * j)) ci ca cl (lI [t', mi 1, mi 2, mi 3, mi 4, mi 5, mi 6, mi 7, mi 8, mi 9, mi 10, mi 11, mi 12, mi 13, mi 14]) ma ou = some ()) : fla_craft xs L kh (nI (5 * j)) ci ca cl mi ma ou = some () := by
  have hs : ∀ {β : Type} (k : Int32 → Option β), rdI xs L (nI (5 * j) + (1 : Int32)) k = k (xs (5 * j + 1)) := fun k => q_scr hj hL 1 (by decide)
  obtain ⟨n, hn, h1, h2⟩ := hI
  unfold fla_craft flb_craft
  rw [hs]
  simp only [hs]
  generalize xs (5 * j + 1) = x
  by_cases c1 : x < 0
  · simp only [g_DC_craft, f_Mo_craft, f_Mo_craft_12, f_Mo_craft_17, f_Mo_thrown, c1, if_true, ch3, q_bd, q_nm]
    exact hk2 1
  · by_cases c2 : x < 1024
    · have c3 : x ≤ 1023 := by
        rw [Int32.lt_iff_toInt_lt] at c2
        rw [Int32.le_iff_toInt_le]
        have e1 : (1024 : Int32).toInt = 1024 := by decide
        have e2 : (1023 : Int32).toInt = 1023 := by decide
        omega
      obtain ⟨v, hv, rfl⟩ := nI_of2 (M := 1023) (n := 1023) (by decide) c1 c3
      simp only [g_DC_craft, f_La_craft, f_DC_craft, f_Sender_exchangeCraft, f_Mo_craft, f_Mo_craft_17, f_Mo_thrown, c1, c2, c3, if_true, if_false, ch3, q_bd, q_nm, q_w0, q_r0, q_upd0, h1, h2, q_cmp, Int32.le_refl]
      exact hk (nI v) 0 _ ⟨v, hv, rfl, rfl⟩
    · have c3 : ¬ x ≤ 1023 := by
        rw [Int32.lt_iff_toInt_lt] at c2
        rw [Int32.le_iff_toInt_le]
        have e1 : (1024 : Int32).toInt = 1024 := by decide
        have e2 : (1023 : Int32).toInt = 1023 := by decide
        omega
      simp only [g_DC_craft, f_Mo_craft, f_Mo_craft_12, f_Mo_craft_17, f_Mo_thrown, c1, c2, c3, if_true, if_false, ch3, q_bd, q_nm]
      exact hk2 1
