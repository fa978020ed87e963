/-! PURE PART: all blocks -/
section
/-- where blocks are -/
def blks (N L lim : Nat) (wg : Nat → Nat) : Nat → Nat → Option Nat → List Nat
  | 0 => fun _ _ => []
  | fu + 1 => fun p ex => if p + L ≤ N then (if wg p ≤ lim then p :: blks N L lim wg fu (p + L) (some (p + L)) else if ex = some p then p :: blks N L lim wg fu (p + L) none else blks N L lim wg fu (p + 1) ex) else []
def ei (ex : Option Nat) : Int32 := match ex with
  | none => -1
  | some q => nI q
theorem ei_eq {ex : Option Nat} {p : Nat} (hp : p < 2 ^ 31) (he : ∀ q, ex = some q → q < 2 ^ 31) : nI p = ei ex ↔ ex = some p := by
  cases ex with
  | none =>
    refine ⟨fun h => ?_, fun h => by cases h⟩
    have h : nI p = -1 := h
    exact absurd (show (0 : Int32) ≤ -1 from h ▸ nI_pos' hp) (by decide)
  | some q =>
    show nI p = nI q ↔ _
    rw [nI_eq hp (he q rfl)]
    exact ⟨fun h => by rw [h], fun h => by cases h; rfl⟩
theorem fb_lp {fc : Nat → Int64} {N L lim : Nat} (hN : N < 3600) (hL : 232 ≤ L) (hL2 : L ≤ 2100) (hlim : lim ≤ 8) :
    ∀ fu p ex k (fa : AR), N - p < fu → p ≤ N → L * k ≤ p → (∀ q, ex = some q → q < 2 ^ 31) → ∃ fa', f_Receiver_findBlocks_34 (nI N) fc fu (nI lim) (nI L) (nI 3091198808) (ei ex) (nI p) (nI k) fa = some (nI (k + (blks N L lim (fun p => mkd (fun j => cb fc (p + j)) 32) fu p ex).length), fa') ∧ k + (blks N L lim (fun p => mkd (fun j => cb fc (p + j)) 32) fu p ex).length ≤ 15 ∧ (∀ i, i < (blks N L lim (fun p => mkd (fun j => cb fc (p + j)) 32) fu p ex).length → ((blks N L lim (fun p => mkd (fun j => cb fc (p + j)) 32) fu p ex).getD i 0) + L ≤ N ∧ L * (k + i) ≤ (blks N L lim (fun p => mkd (fun j => cb fc (p + j)) 32) fu p ex).getD i 0 ∧ fa' (9 * (k + i)) = nI ((blks N L lim (fun p => mkd (fun j => cb fc (p + j)) 32) fu p ex).getD i 0 + 32) ∧ fa' (9 * (k + i) + 1) = nI (mkd (fun j => cb fc ((blks N L lim (fun p => mkd (fun j => cb fc (p + j)) 32) fu p ex).getD i 0 + j)) 32)) ∧ (∀ q, q < 9 * k → fa' q = fa q) := by
  intro fu
  induction fu with
  | zero => intro p ex k fa h1; omega
  | succ fu ih =>
    intro p ex k fa h1 h1' h2 h3
    have hk15 : k ≤ 15 := by
      have : 232 * k ≤ L * k := Nat.mul_le_mul_right _ hL
      omega
    have hst : f_Receiver_findBlocks_34 (nI N) fc (fu + 1) (nI lim) (nI L) (nI 3091198808) (ei ex) (nI p) (nI k) fa = f_Receiver_findBlocks_34_b (nI N) fc (f_Receiver_findBlocks_34 (nI N) fc fu) (nI lim) (nI L) (nI 3091198808) (ei ex) (nI p) (nI k) fa := rfl
    have hbl : blks N L lim (fun p => mkd (fun j => cb fc (p + j)) 32) (fu + 1) p ex = if p + L ≤ N then (if mkd (fun j => cb fc (p + j)) 32 ≤ lim then p :: blks N L lim (fun p => mkd (fun j => cb fc (p + j)) 32) fu (p + L) (some (p + L)) else if ex = some p then p :: blks N L lim (fun p => mkd (fun j => cb fc (p + j)) 32) fu (p + L) none else blks N L lim (fun p => mkd (fun j => cb fc (p + j)) 32) fu (p + 1) ex) else [] := rfl
    rw [hst, hbl]
    unfold f_Receiver_findBlocks_34_b f_BitRow_size
    rw [q_bd, q_nm, nI_add]
    by_cases c0 : p + L ≤ N
    rotate_left
    · rw [if_pos (nI_lt (by omega) (by omega)), if_neg c0]
      exact ⟨fa, rfl, by simpa using hk15, fun i hi => by simp at hi, fun q _ => rfl⟩
    have hk14 : k < 15 := by
      have : 232 * k ≤ L * k := Nat.mul_le_mul_right _ hL
      omega
    obtain ⟨W, w1, w2⟩ := win_ok fc (nI p)
    have hmw := mw_c W w2
    have hmk : mkd (fun b => gb fc ((nI p).toInt + (b : Int))) 32 = mkd (fun j => cb fc (p + j)) 32 := mkd_congr (fun j hj => by
      unfold gb
      rw [nI_toInt (by omega), show ((p : Int) + (j : Int)).toNat = p + j by omega]
      simp [show (0 : Int) ≤ (p : Int) + (j : Int) by omega, show (p : Int) + (j : Int) < 4096 by omega])
    rw [hmk] at hmw
    have hml := mkd_le (fun j => cb fc (p + j)) 32
    rw [if_neg (nI_nlt (by omega) (by omega)), if_neg (show ¬ (16 : Int32) ≤ nI k from nI_ge (b := 16) (by omega) (by decide)), w1, q_bd, q_nm, hmw, q_bd, q_nm, if_pos c0]
    have htake : ∀ ex', (∀ q, ex' = some q → q < 2 ^ 31) → ∃ fa', f_Receiver_findBlocks_34 (nI N) fc fu (nI lim) (nI L) (nI 3091198808) (ei ex') (nI (p + L)) (nI (k + 1)) (upd (upd fa (9 * k) (nI (p + 32))) (9 * k + 1) (nI (mkd (fun j => cb fc (p + j)) 32))) = some (nI (k + (p :: blks N L lim (fun p => mkd (fun j => cb fc (p + j)) 32) fu (p + L) ex').length), fa') ∧ k + (p :: blks N L lim (fun p => mkd (fun j => cb fc (p + j)) 32) fu (p + L) ex').length ≤ 15 ∧ (∀ i, i < (p :: blks N L lim (fun p => mkd (fun j => cb fc (p + j)) 32) fu (p + L) ex').length → ((p :: blks N L lim (fun p => mkd (fun j => cb fc (p + j)) 32) fu (p + L) ex').getD i 0) + L ≤ N ∧ L * (k + i) ≤ (p :: blks N L lim (fun p => mkd (fun j => cb fc (p + j)) 32) fu (p + L) ex').getD i 0 ∧ fa' (9 * (k + i)) = nI ((p :: blks N L lim (fun p => mkd (fun j => cb fc (p + j)) 32) fu (p + L) ex').getD i 0 + 32) ∧ fa' (9 * (k + i) + 1) = nI (mkd (fun j => cb fc ((p :: blks N L lim (fun p => mkd (fun j => cb fc (p + j)) 32) fu (p + L) ex').getD i 0 + j)) 32)) ∧ (∀ q, q < 9 * k → fa' q = fa q) := by
      intro ex' he'
      obtain ⟨fa', z1, z2, z3, z4⟩ := ih (p + L) ex' (k + 1) (upd (upd fa (9 * k) (nI (p + 32))) (9 * k + 1) (nI (mkd (fun j => cb fc (p + j)) 32))) (by omega) (by omega) (by rw [Nat.mul_add]; omega) he'
      have e1 : k + (p :: blks N L lim (fun p => mkd (fun j => cb fc (p + j)) 32) fu (p + L) ex').length = k + 1 + (blks N L lim (fun p => mkd (fun j => cb fc (p + j)) 32) fu (p + L) ex').length := by rw [List.length_cons]; omega
      rw [e1]
      refine ⟨fa', z1, z2, fun i hi => ?_, fun q hq => ?_⟩
      · cases i with
        | zero =>
          show p + L ≤ N ∧ L * (k + 0) ≤ p ∧ fa' (9 * (k + 0)) = nI (p + 32) ∧ fa' (9 * (k + 0) + 1) = nI (mkd (fun j => cb fc (p + j)) 32)
          rw [Nat.add_zero]
          refine ⟨c0, h2, ?_, ?_⟩
          · rw [z4 _ (by omega), pk_un (by omega), pk_us]
          · rw [z4 _ (by omega), pk_us]
        | succ i =>
          have := z3 i (by rw [List.length_cons] at hi; omega)
          rw [List.getD_cons_succ, show k + (i + 1) = k + 1 + i by omega]
          exact this
      · rw [z4 q (by omega), pk_un (by omega), pk_un (by omega)]
    have h87 : ∀ e, f_Receiver_findBlocks_87 (f_Receiver_findBlocks_34 (nI N) fc fu) (nI lim) (nI L) (nI 3091198808) (nI p) (nI (mkd (fun j => cb fc (p + j)) 32)) (nI k) fa = e ↔ (if nI lim < nI (mkd (fun j => cb fc (p + j)) 32) then f_Receiver_findBlocks_34 (nI N) fc fu (nI lim) (nI L) (nI 3091198808) (-1) (nI (p + L)) (nI (k + 1)) (upd (upd fa (9 * k) (nI (p + 32))) (9 * k + 1) (nI (mkd (fun j => cb fc (p + j)) 32))) else f_Receiver_findBlocks_34 (nI N) fc fu (nI lim) (nI L) (nI 3091198808) (nI (p + L)) (nI (p + L)) (nI (k + 1)) (upd (upd fa (9 * k) (nI (p + 32))) (9 * k + 1) (nI (mkd (fun j => cb fc (p + j)) 32)))) = e := by
      intro e
      have s0 : ∀ (fa : AR) (v : Int32), f_Receiver_setFact fa (nI k) 0 v = some (upd fa (9 * k) v) := fun fa v => sf_ok (w := 0) (by omega) (by omega) v
      have s1 : ∀ (fa : AR) (v : Int32), f_Receiver_setFact fa (nI k) 1 v = some (upd fa (9 * k + 1) v) := fun fa v => sf_ok (w := 1) (by omega) (by omega) v
      unfold f_Receiver_findBlocks_87 f_Receiver_findBlocks_140 f_Receiver_findBlocks_148
      rw [s0, q_bd, q_nm, s1, q_bd, q_nm, q_nm, q_nm, nI_1, nI_add, show nI p + (32 : Int32) = nI (p + 32) from nI_add p 32]
    by_cases c1 : mkd (fun j => cb fc (p + j)) 32 ≤ lim
    · rw [if_pos (nI_le c1 (by omega)), if_pos c1]
      obtain ⟨fa', z1, z⟩ := htake (some (p + L)) (fun q hq => by cases hq; omega)
      refine ⟨fa', ?_, z⟩
      rw [h87, if_neg (nI_nlt c1 (by omega))]
      exact z1
    · rw [if_neg (nI_ge (by omega) (by omega)), if_neg c1]
      by_cases c2 : ex = some p
      · rw [if_pos ((ei_eq (by omega) h3).2 c2), if_pos c2]
        obtain ⟨fa', z1, z⟩ := htake none (fun q hq => by cases hq)
        refine ⟨fa', ?_, z⟩
        rw [h87, if_pos (nI_lt (by omega) (by omega))]
        exact z1
      · rw [if_neg (fun h => c2 ((ei_eq (by omega) h3).1 h)), if_neg c2, q_nm, nI_1]
        unfold f_Receiver_findBlocks_148
        exact ih (p + 1) ex k fa (by omega) (by omega) (by omega) h3
abbrev VR : Type := Option (Int32 × Int32 × Int32 × Int32 × Int32 × Int32 × AR × AR × AR × AR × AR × AR × AR × AR × AR × AR × AR × AR × AR × AR)
/-- the blocks of a list taken, on the reference's side -/
def rGo (D' F' E' : Int32) (el pr lg fm mx : AR) (th rs df : Int32) (lea_ pla row : AR) : List Nat → Int32 → Int32 → AR → AR → AR → AR → AR → AR → AR → AR → AR → AR → AR → VR
  | [] => fun bl lm mk wr tl by_ lc wo va sy so wg ri => some (bl, th, rs, df, bl, lm, lea_, pla, row, mk, wr, tl, by_, lc, wo, va, sy, so, wg, ri)
  | p :: ps => fun bl lm mk wr tl by_ lc wo va sy so wg ri => bd (f_Mo_take D' F' E' bl lm mk row wr tl by_ lc el wo pr va lg fm sy so wg ri mx (nI p)) fun u => rGo D' F' E' el pr lg fm mx th rs df lea_ pla row ps u.1 u.2.1 u.2.2.1 u.2.2.2.1 u.2.2.2.2.1 u.2.2.2.2.2.1 u.2.2.2.2.2.2.1 u.2.2.2.2.2.2.2.1 u.2.2.2.2.2.2.2.2.1 u.2.2.2.2.2.2.2.2.2.1 u.2.2.2.2.2.2.2.2.2.2.1 u.2.2.2.2.2.2.2.2.2.2.2.1 u.2.2.2.2.2.2.2.2.2.2.2.2
theorem rc_lp {fc : Nat → Int64} {row mx el pr lg fm : AR} {D F N lim : Nat} {E' : Int32} (hF : F ≤ 250) (hDW : D * (255 - F) ≤ 250) (hN : N < 3600) (hlim : lim ≤ 8) (hr : ∀ k, k < N → row k = bI (cb fc k)) (th df : Int32) (lea_ pla : AR) :
    ∀ fu p ex (bl lm : Int32) (mk wr tl by_ lc wo va sy so wg ri : AR), N - p < fu → p ≤ N + 2100 → (∀ q, ex = some q → q < 2 ^ 31) → f_Mo_receive_67 (nI D) (nI F) E' el pr lg fm mx fu (nI lim) (nI p) (ei ex) th (nI N) df bl lm lea_ pla row mk wr tl by_ lc wo va sy so wg ri = rGo (nI D) (nI F) E' el pr lg fm mx th (nI N) df lea_ pla row (blks N (32 + 8 * (D * (255 - F))) lim (fun p => mkd (fun j => cb fc (p + j)) 32) fu p ex) bl lm mk wr tl by_ lc wo va sy so wg ri := by
  intro fu
  induction fu with
  | zero => intro p ex bl lm mk wr tl by_ lc wo va sy so wg ri h1; omega
  | succ fu ih =>
    intro p ex bl lm mk wr tl by_ lc wo va sy so wg ri h1 h1' h3
    have hbl : blks N (32 + 8 * (D * (255 - F))) lim (fun p => mkd (fun j => cb fc (p + j)) 32) (fu + 1) p ex = if p + (32 + 8 * (D * (255 - F))) ≤ N then (if mkd (fun j => cb fc (p + j)) 32 ≤ lim then p :: blks N (32 + 8 * (D * (255 - F))) lim (fun p => mkd (fun j => cb fc (p + j)) 32) fu (p + (32 + 8 * (D * (255 - F)))) (some (p + (32 + 8 * (D * (255 - F))))) else if ex = some p then p :: blks N (32 + 8 * (D * (255 - F))) lim (fun p => mkd (fun j => cb fc (p + j)) 32) fu (p + (32 + 8 * (D * (255 - F)))) none else blks N (32 + 8 * (D * (255 - F))) lim (fun p => mkd (fun j => cb fc (p + j)) 32) fu (p + 1) ex) else [] := rfl
    rw [hbl]
    show f_Mo_receive_67_b _ _ _ _ _ _ _ _ _ _ _ _ _ _ _ _ _ _ _ _ _ _ _ _ _ _ _ _ _ _ _ = _
    unfold f_Mo_receive_67_b
    have eL : nI p + (32 : Int32) + 8 * nI (D * (255 - F)) = nI (p + (32 + 8 * (D * (255 - F)))) := by
      rw [show nI p + (32 : Int32) = nI (p + 32) from nI_add p 32, show (8 : Int32) * nI (D * (255 - F)) = nI (8 * (D * (255 - F))) from pk_mul 8 _, nI_add, Nat.add_assoc]
    rw [bs_m D hF, q_bd, q_nm, eL]
    by_cases c0 : p + (32 + 8 * (D * (255 - F))) ≤ N
    rotate_left
    · rw [if_pos (nI_lt (by omega) (by omega)), if_neg c0]
      rfl
    have hml := mkd_le (fun j => cb fc (p + j)) 32
    rw [if_neg (nI_nlt c0 (by omega)), mw_ok (N := N) (f := cb fc) (by omega) (by omega) hr, q_bd, q_nm, if_pos c0]
    have h112 : ∀ x4 : Int32, f_Mo_receive_112 (nI D) (nI F) E' el pr lg fm mx (f_Mo_receive_67 (nI D) (nI F) E' el pr lg fm mx fu) (nI lim) (nI p) x4 th (nI N) df bl lm lea_ pla row mk wr tl by_ lc wo va sy so wg ri = bd (f_Mo_take (nI D) (nI F) E' bl lm mk row wr tl by_ lc el wo pr va lg fm sy so wg ri mx (nI p)) fun u => rGo (nI D) (nI F) E' el pr lg fm mx th (nI N) df lea_ pla row (blks N (32 + 8 * (D * (255 - F))) lim (fun p => mkd (fun j => cb fc (p + j)) 32) fu (p + (32 + 8 * (D * (255 - F)))) (if x4 = 0 then none else some (p + (32 + 8 * (D * (255 - F)))))) u.1 u.2.1 u.2.2.1 u.2.2.2.1 u.2.2.2.2.1 u.2.2.2.2.2.1 u.2.2.2.2.2.2.1 u.2.2.2.2.2.2.2.1 u.2.2.2.2.2.2.2.2.1 u.2.2.2.2.2.2.2.2.2.1 u.2.2.2.2.2.2.2.2.2.2.1 u.2.2.2.2.2.2.2.2.2.2.2.1 u.2.2.2.2.2.2.2.2.2.2.2.2 := by
      intro x4
      unfold f_Mo_receive_112 f_Mo_receive_140 f_Mo_receive_147
      congr 1
      funext u
      simp only [q_nm]
      rw [bs_m D hF, q_bd, eL]
      by_cases cx : x4 = 0
      · rw [if_pos cx, if_pos cx]
        exact ih (p + (32 + 8 * (D * (255 - F)))) none _ _ _ _ _ _ _ _ _ _ _ _ _ (by omega) (by omega) (fun q hq => by cases hq)
      · rw [if_neg cx, if_neg cx]
        exact ih (p + (32 + 8 * (D * (255 - F)))) (some (p + (32 + 8 * (D * (255 - F))))) _ _ _ _ _ _ _ _ _ _ _ _ _ (by omega) (by omega) (fun q hq => by cases hq; omega)
    by_cases c1 : mkd (fun j => cb fc (p + j)) 32 ≤ lim
    · rw [if_neg (nI_nlt c1 (by omega)), if_pos c1]
      unfold f_Mo_receive_100
      rw [if_neg ne10, h112 1, if_neg ne10]
      rfl
    · rw [if_pos (nI_lt (by omega) (by omega)), if_neg c1]
      unfold f_Mo_receive_100
      rw [if_pos rfl]
      by_cases c2 : ex = some p
      · rw [if_pos ((ei_eq (by omega) h3).2 c2).symm, if_pos c2, h112 0, if_pos rfl]
        rfl
      · rw [if_neg (fun h => c2 ((ei_eq (by omega) h3).1 h.symm)), if_neg c2, q_nm, nI_1]
        unfold f_Mo_receive_147
        exact ih (p + 1) ex _ _ _ _ _ _ _ _ _ _ _ _ _ (by omega) (by omega) h3
set_option maxHeartbeats 2000000 in
theorem blk_all {K : Type} [Lean.Grind.Field K] {en fo : K → Int32} {g : K} {lgm prm elm fmm lgc prc elc fmc : AR} (hV : Env en fo g lgm prm elm fmm lgc prc elc fmc) {D F E P : Nat} (hO : FormOK D F E P) {fc : Nat → Int64} {row mxc mxm : AR} {M : Nat → Nat} (hM : ∀ t, t < 250 → mxc t = nI (M t) ∧ mxm t = nI (M t) ∧ M t < 256) {N : Nat} (hN : N < 3600) (hr : ∀ k, k < N → row k = bI (cb fc k)) (th df : Int32) (lea_ pla_ : AR) :
    ∀ (ps : List Nat) (fu k : Nat) (fa cby rby mk wr tl pr ri lc lc' syn coe pol ear spa evl pla wo va sy so wg : AR) (lm lm' : Int32), ps.length < fu → k + ps.length ≤ 15 → (∀ i, i < ps.length → ps.getD i 0 + (32 + 8 * (D * (255 - F))) ≤ N ∧ (32 + 8 * (D * (255 - F))) * (k + i) ≤ ps.getD i 0 ∧ fa (9 * (k + i)) = nI (ps.getD i 0 + 32) ∧ fa (9 * (k + i) + 1) = nI (mkd (fun j => cb fc (ps.getD i 0 + j)) 32)) → LstOK lm lm' lc lc' → (BY cby ∧ BY rby ∧ BY syn ∧ BY coe ∧ BY pol ∧ BY ear ∧ BY spa ∧ BY evl ∧ BY wo ∧ BY va ∧ BY sy ∧ BY so) → (∀ j, j < k → Blk (D * (255 - F)) D j fa mk wr tl cby rby pr ri) →
    ∃ (lm1 : Int32) (lc1 fa1 cby1 syn1 coe1 pol1 ear1 spa1 pla1 evl1 pr1 mk1 wr1 tl1 rby1 lc1' wo1 va1 sy1 so1 wg1 ri1 : AR), f_Receiver_readBlocks_17 (nI (k + ps.length)) (nI D) (nI (255 - F)) (nI E) fc mxc prc lgc fmc elc fu (nI (k * (D * (255 - F)))) (nI k) lm lc fa cby syn coe pol ear spa pla evl pr = some (lm1, lc1, fa1, cby1, syn1, coe1, pol1, ear1, spa1, pla1, evl1, pr1) ∧ rGo (nI D) (nI F) (nI E) elm prm lgm fmm mxm th (nI N) df lea_ pla_ row ps (nI k) lm' mk wr tl rby lc' wo va sy so wg ri = some (nI (k + ps.length), th, nI N, df, nI (k + ps.length), lm1, lea_, pla_, row, mk1, wr1, tl1, rby1, lc1', wo1, va1, sy1, so1, wg1, ri1) ∧ (BY cby1 ∧ BY rby1 ∧ BY syn1 ∧ BY coe1 ∧ BY pol1 ∧ BY ear1 ∧ BY spa1 ∧ BY evl1 ∧ BY wo1 ∧ BY va1 ∧ BY sy1 ∧ BY so1) ∧ (∀ j, j < k + ps.length → Blk (D * (255 - F)) D j fa1 mk1 wr1 tl1 cby1 rby1 pr1 ri1) := by
  have hO0 := hO
  obtain ⟨o1, o2, o3, o4, o5, o6, o7⟩ := hO0
  intro ps
  induction ps with
  | nil =>
    intro fu k fa cby rby mk wr tl pr ri lc lc' syn coe pol ear spa evl pla wo va sy so wg lm lm' h1 h2 h3 h4 h5 h6
    obtain ⟨f, rfl⟩ : ∃ f, fu = f + 1 := ⟨fu - 1, by omega⟩
    obtain ⟨rfl, _⟩ := h4
    have hst : f_Receiver_readBlocks_17 (nI (k + ([] : List Nat).length)) (nI D) (nI (255 - F)) (nI E) fc mxc prc lgc fmc elc (f + 1) (nI (k * (D * (255 - F)))) (nI k) lm lc fa cby syn coe pol ear spa pla evl pr = f_Receiver_readBlocks_17_b (nI k) (nI D) (nI (255 - F)) (nI E) fc mxc prc lgc fmc elc (f_Receiver_readBlocks_17 (nI k) (nI D) (nI (255 - F)) (nI E) fc mxc prc lgc fmc elc f) (nI (k * (D * (255 - F)))) (nI k) lm lc fa cby syn coe pol ear spa pla evl pr := rfl
    rw [hst]
    unfold f_Receiver_readBlocks_17_b
    rw [if_pos (nI_le (by omega) (by simp at h2; omega))]
    exact ⟨lm, lc, fa, cby, syn, coe, pol, ear, spa, pla, evl, pr, mk, wr, tl, rby, lc', wo, va, sy, so, wg, ri, rfl, rfl, h5, fun j hj => h6 j hj⟩
  | cons p ps ih =>
    intro fu k fa cby rby mk wr tl pr ri lc lc' syn coe pol ear spa evl pla wo va sy so wg lm lm' h1 h2 h3 h4 h5 h6
    obtain ⟨f, rfl⟩ : ∃ f, fu = f + 1 := ⟨fu - 1, by omega⟩
    have hlen : (p :: ps).length = ps.length + 1 := List.length_cons
    rw [hlen] at h1 h2 h3 ⊢
    obtain ⟨q1, q2, q3, q4, q5, q6, q7, q8, q9, q10, q11, q12⟩ := h5
    have hp0 := h3 0 (by omega)
    have hp0' : p + (32 + 8 * (D * (255 - F))) ≤ N ∧ (32 + 8 * (D * (255 - F))) * k ≤ p ∧ fa (9 * k) = nI (p + 32) ∧ fa (9 * k + 1) = nI (mkd (fun j => cb fc (p + j)) 32) := hp0
    obtain ⟨lm1, lc1, fa1, cby1, syn1, coe1, pol1, ear1, spa1, pla1, evl1, pr1, tl1, rby1, lc1', wo1, va1, sy1, so1, wg1, ri1, z1, z2, z3, z4, z5, z6, z7, z8, z9, z10⟩ := blk_one hV hO hM hN hr hp0'.1 hp0'.2.1 (mk := mk) (wr := wr) (tl := tl) (pr := pr) (ri := ri) (pla := pla) (wg := wg) h4 hp0'.2.2.1 hp0'.2.2.2 q1 q2 q3 q4 q5 q6 q7 q8 q9 q10 q11 q12 (KK := k + (ps.length + 1)) (by omega) h2 (f_Receiver_readBlocks_17 (nI (k + (ps.length + 1))) (nI D) (nI (255 - F)) (nI E) fc mxc prc lgc fmc elc f)
    have hst : f_Receiver_readBlocks_17 (nI (k + (ps.length + 1))) (nI D) (nI (255 - F)) (nI E) fc mxc prc lgc fmc elc (f + 1) (nI (k * (D * (255 - F)))) (nI k) lm lc fa cby syn coe pol ear spa pla evl pr = f_Receiver_readBlocks_17_b (nI (k + (ps.length + 1))) (nI D) (nI (255 - F)) (nI E) fc mxc prc lgc fmc elc (f_Receiver_readBlocks_17 (nI (k + (ps.length + 1))) (nI D) (nI (255 - F)) (nI E) fc mxc prc lgc fmc elc f) (nI (k * (D * (255 - F)))) (nI k) lm lc fa cby syn coe pol ear spa pla evl pr := rfl
    have hS9 : D * (255 - F - 2 * E) ≤ D * (255 - F) := Nat.mul_le_mul_left _ (by omega)
    have hrg : rGo (nI D) (nI F) (nI E) elm prm lgm fmm mxm th (nI N) df lea_ pla_ row (p :: ps) (nI k) lm' mk wr tl rby lc' wo va sy so wg ri = rGo (nI D) (nI F) (nI E) elm prm lgm fmm mxm th (nI N) df lea_ pla_ row ps (nI (k + 1)) lm1 (upd mk k (nI (p + 32))) (upd wr k (nI (mkd (fun j => cb fc (p + j)) 32))) tl1 rby1 lc1' wo1 va1 sy1 so1 wg1 ri1 := by
      show bd (f_Mo_take (nI D) (nI F) (nI E) (nI k) lm' mk row wr tl rby lc' elm wo prm va lgm fmm sy so wg ri mxm (nI p)) _ = _
      rw [z2, q_bd]
    rw [hst, z1, hrg]
    have hk1 : k + (ps.length + 1) = k + 1 + ps.length := by omega
    rw [hk1]
    refine ih f (k + 1) fa1 cby1 rby1 (upd mk k (nI (p + 32))) (upd wr k (nI (mkd (fun j => cb fc (p + j)) 32))) tl1 pr1 ri1 lc1 lc1' syn1 coe1 pol1 ear1 spa1 evl1 pla1 wo1 va1 sy1 so1 wg1 lm1 lm1 (by omega) (by omega) (fun i hi => ?_) z3 z5 (fun j hj => ?_)
    · have := h3 (i + 1) (by omega)
      rw [List.getD_cons_succ, show k + (i + 1) = k + 1 + i by omega] at this
      rw [z6 _ (by omega), z6 _ (by omega)]
      exact this
    · by_cases c : j = k
      · rw [c]; exact z4
      · have hjk : j < k := by omega
        have hmul : j * (D * (255 - F)) + D * (255 - F) ≤ k * (D * (255 - F)) := by
          have : (j + 1) * (D * (255 - F)) ≤ k * (D * (255 - F)) := Nat.mul_le_mul_right _ hjk
          rw [Nat.add_mul, Nat.one_mul] at this
          exact this
        exact blk_congr (by omega) o7 (by omega) (h6 j hjk) (fun i hi => z6 _ (by omega)) (pk_un (by omega)) (pk_un (by omega)) (fun i hi => z7 _ (by omega)) (fun i hi => z8 _ (by omega)) (fun i hi => z9 _ (by omega)) (fun i hi => (z10 _ (by omega)).1) (fun i hi => (z10 _ (by omega)).2)
end
