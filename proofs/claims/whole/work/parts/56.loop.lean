def fl_kh (lp : Int32 → (Nat → Int32) → (Nat → Nat → Int32) → (Nat → Nat → Int64) → (Nat → Int32) → (Nat → Nat → Int32) → (Nat → Int64) → Option Unit) : Int32 → (Nat → Int32) → (Nat → Nat → Int32) → (Nat → Nat → Int64) → (Nat → Int32) → (Nat → Nat → Int32) → (Nat → Int64) → Option Unit := fun i ci ca cl mi ma ou => nm (i + (5 : Int32)) fun i2 => lp i2 ci ca cl mi ma ou
def fl_b (xs : Nat → Int32) (L : Nat) (lp : Int32 → (Nat → Int32) → (Nat → Nat → Int32) → (Nat → Nat → Int64) → (Nat → Int32) → (Nat → Nat → Int32) → (Nat → Int64) → Option Unit) (i : Int32) (ci : Nat → Int32) (ca : Nat → Nat → Int32) (cl : Nat → Nat → Int64) (mi : Nat → Int32) (ma : Nat → Nat → Int32) (ou : Nat → Int64) : Option Unit :=
  if (nI L - (5 : Int32)) < i then
    some ()
  else
  rdI xs L i fun v1 =>
  if (v1 &&& (15 : Int32)) = (0 : Int32) then
    fla_form xs L (fl_kh lp) i ci ca cl mi ma ou
  else
  if (v1 &&& (15 : Int32)) = (1 : Int32) then
    fla_craft xs L (fl_kh lp) i ci ca cl mi ma ou
  else
  if (v1 &&& (15 : Int32)) = (2 : Int32) then
    fla_told xs L (fl_kh lp) i ci ca cl mi ma ou
  else
  if (v1 &&& (15 : Int32)) = (3 : Int32) then
    fla_data xs L (fl_kh lp) i ci ca cl mi ma ou
  else
  if (v1 &&& (15 : Int32)) = (4 : Int32) then
    fla_send xs L (fl_kh lp) i ci ca cl mi ma ou
  else
  if (v1 &&& (15 : Int32)) = (5 : Int32) then
    fla_plain xs L (fl_kh lp) i ci ca cl mi ma ou
  else
  if (v1 &&& (15 : Int32)) = (6 : Int32) then
    fla_skip xs L (fl_kh lp) i ci ca cl mi ma ou
  else
  if (v1 &&& (15 : Int32)) = (7 : Int32) then
    fla_turn xs L (fl_kh lp) i ci ca cl mi ma ou
  else
  if (v1 &&& (15 : Int32)) = (8 : Int32) then
    fla_line xs L (fl_kh lp) i ci ca cl mi ma ou
  else
  if (v1 &&& (15 : Int32)) = (9 : Int32) then
    fla_receive xs L (fl_kh lp) i ci ca cl mi ma ou
  else
  if (v1 &&& (15 : Int32)) = (10 : Int32) then
    fla_decoded xs L (fl_kh lp) i ci ca cl mi ma ou
  else
  if (v1 &&& (15 : Int32)) = (11 : Int32) then
    fla_block xs L (fl_kh lp) i ci ca cl mi ma ou
  else
  if (v1 &&& (15 : Int32)) = (12 : Int32) then
    fla_word xs L (fl_kh lp) i ci ca cl mi ma ou
  else
  if (v1 &&& (15 : Int32)) = (13 : Int32) then
    fla_frame xs L (fl_kh lp) i ci ca cl mi ma ou
  else
  fl_kh lp i ci ca cl mi ma ou
def fl_loop (xs : Nat → Int32) (L : Nat) : Nat → Int32 → (Nat → Int32) → (Nat → Nat → Int32) → (Nat → Nat → Int64) → (Nat → Int32) → (Nat → Nat → Int32) → (Nat → Int64) → Option Unit
  | 0 => fun _ _ _ _ _ _ _ => none
  | n + 1 => fun i ci ca cl mi ma ou => fl_b xs L (fl_loop xs L n) i ci ca cl mi ma ou
theorem lp_in {L j : Nat} (hL : L ≤ 2560) (hj : j ≤ 512) (h : ¬ (nI L - (5 : Int32)) < nI (5 * j)) : 5 * j + 5 ≤ L := by
  have h1 : ¬ (nI L - nI 5) < nI (5 * j) := h
  rw [Int32.lt_iff_toInt_lt, pk_sub_toInt (by omega) (by omega), nI_toInt (by omega)] at h1
  omega
set_option maxHeartbeats 4000000 in
set_option maxRecDepth 100000 in
theorem law_loop {p : Program} {l : Launch} {e : Env} {s : State} {m : MethodId} {below : List Frame} {meth : Method} {c : Code} {b L : Nat} {xs : Nat → Int32} {D : va_G} {cI cJ : ClassId} {tt sa : Nat → Nat} (C0 : LX p l s m c b L xs D cI cJ tt sa) (qa qm : Nat → Nat) (qo : Nat) (hL : L ≤ 2560) (hr : meth.sig.returnType = ret) (hlocks : meth.locks = false) : ∀ (n j : Nat) (ci : Nat → Int32) (ca : Nat → Nat → Int32) (cl : Nat → Nat → Int64) (mi : Nat → Int32) (ma : Nat → Nat → Int32) (ou : Nat → Int64), fl_loop xs L n (nI (5 * j)) ci ca cl mi ma ou = some () → j ≤ 512 → ∀ (H : Heap) (locs : List Loc), va_P D classes (w_law cI cJ qa qm qo ci ca cl mi ma ou) H → va_D (fun q : Nat => s.heap.size ≤ q) (w_law cI cJ qa qm qo ci ca cl mi ma ou) → va_S (fun q : Nat => s.heap.size ≤ q) s.heap H locs → ∀ (ls : Array Slot), lv_has ls 8 [(0, .ref b), (1, .ref (qa 0)), (2, .ref (qm 0)), (3, .ref qo), (4, .int (nI (5 * j)))] → W p l e room_1 s m #[Value.ref b] below meth c H locs (100 + j) (260000 + 6 * j) (lw_Z below #[Value.ref b] s) (F0 m 23 ls []) := by
  have C1 := C0
  obtain ⟨hx, hb, hml, hown, hts, hX, hbl, hK, hE, hY, hN1, hN2, hfl⟩ := C0
  have hA : ∀ q : Nat, s.heap.size ≤ q → (fun q : Nat => s.heap.size ≤ q) q := fun _ h => h
  have F : CallFix p m c code 8 s #[Value.ref b] TB "DeepChannelLaw" := ⟨hx, hb, hml, hown, hts⟩
  intro n
  induction n with
  | zero => intro j ci ca cl mi ma ou hm; cases hm
  | succ n ih =>
    intro j ci ca cl mi ma ou hm hj H locs hP hD hS ls hl
    replace hm : fl_b xs L (fl_loop xs L n) (nI (5 * j)) ci ca cl mi ma ou = some () := hm
    unfold fl_b at hm
    refine lv_iload hx hb d_law_23 (lv_at hl 4 rfl) ?_
    refine lv_aload_n hx hb d_law_25 rfl (lv_at hl 0 rfl) ?_
    refine va_slen hx hb hX hbl (Nat.not_le.mpr hbl) hS d_law_26 ?_
    refine lv_iconst (v := (5 : Int32)) hx hb d_law_27 (by decide) ?_
    refine lv_isub hx hb d_law_28 ?_
    refine z_sp hm (fun hc hm => ?_) (fun hc hm => ?_)
    · refine lv_icmp_gt (tgt := 970) hx hb d_law_29 (by decide) (fun _ => ?_) (fun q => absurd hc q)
      refine lv_iconst (v := (1 : Int32)) hx hb d_law_970 (by decide) ?_
      refine va_forget (fun q hq => hS.2.2 q hq) ?_
      refine W.widen (k := 601024) (n := 7293034) (by omega) (by omega) ?_
      exact lw_ret hx hb hr hlocks d_law_971
    · refine lv_icmp_gt (tgt := 970) hx hb d_law_29 (by decide) (fun q => absurd q hc) (fun _ => ?_)
      have hj5 := lp_in hL hj hc
      refine lv_aload_n hx hb d_law_32 rfl (lv_at hl 0 rfl) ?_
      refine lv_iload hx hb d_law_33 (lv_at hl 4 rfl) ?_
      refine z_sld hm hx hb hX hbl hS d_law_35 (fun v1 hm => ?_)
      refine lv_bipush (v := (15 : Int32)) hx hb d_law_36 (by decide) ?_
      refine lv_iand hx hb d_law_38 ?_
      have kk : ∀ (ci : Nat → Int32) (ca : Nat → Nat → Int32) (cl : Nat → Nat → Int64) (mi : Nat → Int32) (ma : Nat → Nat → Int32) (ou : Nat → Int64), fl_kh (fl_loop xs L n) (nI (5 * j)) ci ca cl mi ma ou = some () → ∀ (H : Heap) (locs : List Loc), va_P D classes (w_law cI cJ qa qm qo ci ca cl mi ma ou) H → va_D (fun q : Nat => s.heap.size ≤ q) (w_law cI cJ qa qm qo ci ca cl mi ma ou) → va_S (fun q : Nat => s.heap.size ≤ q) s.heap H locs → ∀ (ls : Array Slot), lv_has ls 8 [(0, .ref b), (1, .ref (qa 0)), (2, .ref (qm 0)), (3, .ref qo), (4, .int (nI (5 * j)))] → W p l e room_1 s m #[Value.ref b] below meth c H locs (100 + j + 1) (260000 + 6 * j + 6) (lw_Z below #[Value.ref b] s) (F0 m 964 ls []) := by
        intro ci ca cl mi ma ou hm H locs hP hD hS ls hl
        refine lv_iinc (v := nI (5 * (j + 1))) (lv' := [(4, .int (nI (5 * (j + 1)))), (0, .ref b), (1, .ref (qa 0)), (2, .ref (qm 0)), (3, .ref qo)]) hx hb d_law_964 hl (k := 4) rfl (by rw [show 5 * (j + 1) = 5 * j + 5 by omega, ← nI_add]; rfl) (by decide) rfl (fun ls hl => ?_)
        refine lv_goto (tgt := 23) hx hb d_law_967 (by decide) ?_
        have hm2 : fl_loop xs L n (nI (5 * (j + 1))) ci ca cl mi ma ou = some () := by
          rw [show 5 * (j + 1) = 5 * j + 5 by omega, ← nI_add]; exact hm
        exact ih (j + 1) ci ca cl mi ma ou hm2 (by omega) H locs hP hD hS ls (lv_sub hl [1, 2, 3, 4, 0] rfl)
      refine z_sp hm (fun e0 hm => z_swin (tgt := 108) (off := 69) e0 hx hb d_law_39 (by decide) (by decide) (by decide) (by decide) ?_) (fun e0 hm => ?_)
      · exact la_form C1 qa qm qo (fl_kh (fl_loop xs L n)) (nI (5 * j)) ci ca cl mi ma ou hm (100 + j) (260000 + 6 * j) (by omega) (by omega) H locs hP hD hS ls hl kk
      refine z_sp hm (fun e1 hm => z_swin (tgt := 180) (off := 141) e1 hx hb d_law_39 (by decide) (by decide) (by decide) (by decide) ?_) (fun e1 hm => ?_)
      · exact la_craft C1 qa qm qo (fl_kh (fl_loop xs L n)) (nI (5 * j)) ci ca cl mi ma ou hm (100 + j) (260000 + 6 * j) (by omega) (by omega) H locs hP hD hS ls hl kk
      refine z_sp hm (fun e2 hm => z_swin (tgt := 236) (off := 197) e2 hx hb d_law_39 (by decide) (by decide) (by decide) (by decide) ?_) (fun e2 hm => ?_)
      · exact la_told C1 qa qm qo (fl_kh (fl_loop xs L n)) (nI (5 * j)) ci ca cl mi ma ou hm (100 + j) (260000 + 6 * j) (by omega) (by omega) H locs hP hD hS ls hl kk
      refine z_sp hm (fun e3 hm => z_swin (tgt := 292) (off := 253) e3 hx hb d_law_39 (by decide) (by decide) (by decide) (by decide) ?_) (fun e3 hm => ?_)
      · exact la_data C1 qa qm qo (fl_kh (fl_loop xs L n)) (nI (5 * j)) ci ca cl mi ma ou hm (100 + j) (260000 + 6 * j) (by omega) (by omega) H locs hP hD hS ls hl kk
      refine z_sp hm (fun e4 hm => z_swin (tgt := 392) (off := 353) e4 hx hb d_law_39 (by decide) (by decide) (by decide) (by decide) ?_) (fun e4 hm => ?_)
      · exact la_send C1 qa qm qo (fl_kh (fl_loop xs L n)) (nI (5 * j)) ci ca cl mi ma ou hm (100 + j) (260000 + 6 * j) (by omega) (by omega) H locs hP hD hS ls hl kk
      refine z_sp hm (fun e5 hm => z_swin (tgt := 448) (off := 409) e5 hx hb d_law_39 (by decide) (by decide) (by decide) (by decide) ?_) (fun e5 hm => ?_)
      · exact la_plain C1 qa qm qo (fl_kh (fl_loop xs L n)) (nI (5 * j)) ci ca cl mi ma ou hm (100 + j) (260000 + 6 * j) (by omega) (by omega) H locs hP hD hS ls hl kk
      refine z_sp hm (fun e6 hm => z_swin (tgt := 548) (off := 509) e6 hx hb d_law_39 (by decide) (by decide) (by decide) (by decide) ?_) (fun e6 hm => ?_)
      · exact la_skip C1 qa qm qo (fl_kh (fl_loop xs L n)) (nI (5 * j)) ci ca cl mi ma ou hm (100 + j) (260000 + 6 * j) (by omega) (by omega) H locs hP hD hS ls hl kk
      refine z_sp hm (fun e7 hm => z_swin (tgt := 584) (off := 545) e7 hx hb d_law_39 (by decide) (by decide) (by decide) (by decide) ?_) (fun e7 hm => ?_)
      · exact la_turn C1 qa qm qo (fl_kh (fl_loop xs L n)) (nI (5 * j)) ci ca cl mi ma ou hm (100 + j) (260000 + 6 * j) (by omega) (by omega) H locs hP hD hS ls hl kk
      refine z_sp hm (fun e8 hm => z_swin (tgt := 653) (off := 614) e8 hx hb d_law_39 (by decide) (by decide) (by decide) (by decide) ?_) (fun e8 hm => ?_)
      · exact la_line C1 qa qm qo (fl_kh (fl_loop xs L n)) (nI (5 * j)) ci ca cl mi ma ou hm (100 + j) (260000 + 6 * j) (by omega) (by omega) H locs hP hD hS ls hl kk
      refine z_sp hm (fun e9 hm => z_swin (tgt := 679) (off := 640) e9 hx hb d_law_39 (by decide) (by decide) (by decide) (by decide) ?_) (fun e9 hm => ?_)
      · exact la_receive C1 qa qm qo (fl_kh (fl_loop xs L n)) (nI (5 * j)) ci ca cl mi ma ou hm (100 + j) (260000 + 6 * j) (by omega) (by omega) H locs hP hD hS ls hl kk
      refine z_sp hm (fun e10 hm => z_swin (tgt := 735) (off := 696) e10 hx hb d_law_39 (by decide) (by decide) (by decide) (by decide) ?_) (fun e10 hm => ?_)
      · exact la_decoded C1 qa qm qo (fl_kh (fl_loop xs L n)) (nI (5 * j)) ci ca cl mi ma ou hm (100 + j) (260000 + 6 * j) (by omega) (by omega) H locs hP hD hS ls hl kk
      refine z_sp hm (fun e11 hm => z_swin (tgt := 761) (off := 722) e11 hx hb d_law_39 (by decide) (by decide) (by decide) (by decide) ?_) (fun e11 hm => ?_)
      · exact la_block C1 qa qm qo (fl_kh (fl_loop xs L n)) (nI (5 * j)) ci ca cl mi ma ou hm (100 + j) (260000 + 6 * j) (by omega) (by omega) H locs hP hD hS ls hl kk
      refine z_sp hm (fun e12 hm => z_swin (tgt := 829) (off := 790) e12 hx hb d_law_39 (by decide) (by decide) (by decide) (by decide) ?_) (fun e12 hm => ?_)
      · exact la_word C1 qa qm qo (fl_kh (fl_loop xs L n)) (nI (5 * j)) ci ca cl mi ma ou hm (100 + j) (260000 + 6 * j) (by omega) (by omega) H locs hP hD hS ls hl kk
      refine z_sp hm (fun e13 hm => z_swin (tgt := 897) (off := 858) e13 hx hb d_law_39 (by decide) (by decide) (by decide) (by decide) ?_) (fun e13 hm => ?_)
      · exact la_frame C1 qa qm qo (fl_kh (fl_loop xs L n)) (nI (5 * j)) ci ca cl mi ma ou hm (100 + j) (260000 + 6 * j) (by omega) (by omega) H locs hP hD hS ls hl kk
      refine z_swout (tgt := 964) (z_swl [(0 : Int32), (1 : Int32), (2 : Int32), (3 : Int32), (4 : Int32), (5 : Int32), (6 : Int32), (7 : Int32), (8 : Int32), (9 : Int32), (10 : Int32), (11 : Int32), (12 : Int32), (13 : Int32)] ⟨e0, e1, e2, e3, e4, e5, e6, e7, e8, e9, e10, e11, e12, e13, trivial⟩ (by decide)) (by decide) hx hb d_law_39 (by decide) ?_
      refine W.widen (k := 100 + j + 1) (n := 260000 + 6 * j + 6) (Nat.le_succ _) (Nat.le_add_right _ 6) ?_
      exact kk ci ca cl mi ma ou hm H locs hP hD hS ls hl
