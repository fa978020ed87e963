/-! PURE PART: a frame is laid and sent, on both sides -/
section
def Env {K : Type} [Lean.Grind.Field K] (en fo : K → Int32) (g : K) (lgm prm elm fmm lgc prc elc fmc : AR) : Prop := Gen g ∧ Enc en ∧ FldM en g lgm prm ∧ Frm en fo elm fmm ∧ FldC en g lgc prc ∧ Frm en fo elc fmc ∧ (∀ n, n < 256 → ∃ a, fo a = nI n)
theorem ws_m {F : Nat} (hF : F ≤ 250) : f_Mo_wordSize (nI F) = some (nI (255 - F)) := by
  unfold f_Mo_wordSize
  rw [show (255 : Int32) = nI 255 from rfl, pk_sub (by omega)]
theorem bs_m (D : Nat) {F : Nat} (hF : F ≤ 250) : f_Mo_blockSize (nI D) (nI F) = some (nI (D * (255 - F))) := by
  unfold f_Mo_blockSize
  rw [ws_m hF, q_bd, q_nm, pk_mul]
theorem fs_m (D : Nat) {F E : Nat} (hF : F ≤ 250) (hEW : 2 * E < 255 - F) : f_Mo_frameSize (nI D) (nI F) (nI E) = some (nI (D * (255 - F - 2 * E))) := by
  unfold f_Mo_frameSize
  rw [ws_m hF, q_bd, q_nm, show (2 : Int32) * nI E = nI (2 * E) from pk_mul 2 E, pk_sub (by omega), pk_mul]
theorem bs_c (D W : Nat) : f_Shape_blockBytes (nI D) (nI W) = some (nI (D * W)) := by
  unfold f_Shape_blockBytes
  rw [pk_mul]
theorem fs_c (D : Nat) {W E : Nat} (hEW : 2 * E < W) : f_Shape_frameBytes (nI D) (nI W) (nI E) = some (nI (D * (W - 2 * E))) := by
  unfold f_Shape_frameBytes
  rw [show (2 : Int32) * nI E = nI (2 * E) from pk_mul 2 E, pk_sub (by omega), pk_mul]
theorem db_c (D : Nat) {W E : Nat} (hEW : 2 * E < W) (h9 : 9 ≤ D * (W - 2 * E)) : f_Shape_dataBytes (nI D) (nI W) (nI E) = some (nI (D * (W - 2 * E) - 8)) := by
  unfold f_Shape_dataBytes
  rw [fs_c D hEW, q_bd, q_nm, show (6 : Int32) = nI 6 from rfl, show (2 : Int32) = nI 2 from rfl, pk_sub (by omega), pk_sub (by omega)]
  congr 2
/-- a frame with its check -/
def FrV (c h n m : Nat) (dat : Nat → Nat) (S k : Nat) : Nat := if k < S - 2 then FBy c h n m dat k else if k = S - 2 then crcA (FBy c h n m dat) 0 (S - 2) / 256 else crcA (FBy c h n m dat) 0 (S - 2) % 256
set_option maxHeartbeats 1000000 in
theorem q_lay {K : Type} [Lean.Grind.Field K] {en fo : K → Int32} {g : K} {lgm prm elm fmm lgc prc elc fmc gn : AR} (hV : Env en fo g lgm prm elm fmm lgc prc elc fmc) {D F E P : Nat} (hO : FormOK D F E P) (hgn : GenOK en g E gn) {c h n m : Nat} {dat : Nat → Nat} {sb cc mc da rb val wd sol sys rem : AR} (hc : c ≤ 1023) (hh : h ≤ 7) (hn : n < 2 ^ 30) (hm : m < 2 ^ 30) (hmc : mc h = nI m) (hcc : cc h = nI (m % 256)) (hda : ∀ k, k < D * (255 - F - 2 * E) - 8 → da k = nI (dat k) ∧ sb (6 + k) = nI (dat k) ∧ dat k < 256) (b1 : BY sb) (b2 : BY rb) (b3 : BY val) (b4 : BY wd) (b5 : BY sol) (b6 : BY sys) (b7 : BY rem) :
    ∃ g15 cr rem' sb' rb' val' wd' sol' sys', f_Sender_fillHeader (nI (n % 256)) (nI c) sb cc (nI h) = some g15 ∧ f_DC_checkOf g15 250 (0 : Int32) (nI (D * (255 - F - 2 * E) - 2)) = some cr ∧ f_Words_addChecks (nI D) (nI (255 - F)) (nI E) rem fmc (upd (upd g15 (D * (255 - F - 2 * E) - 2) (cr >>> ((8 : Int32) &&& 31))) (D * (255 - F - 2 * E) - 2 + 1) (cr &&& 255)) elc gn lgc prc 250 = some (rem', sb') ∧ f_Mo_lay (nI D) (nI F) (nI E) (nI c) (nI n) rb prm val lgm wd sol sys fmm elm mc da (3750 : Int32) (nI h) = some (rb', val', wd', sol', sys') ∧ BY sb' ∧ BY rb' ∧ BY val' ∧ BY wd' ∧ BY sol' ∧ BY sys' ∧ BY rem' ∧ (∀ i, i < D * (255 - F) → sb' i = rb' (3750 + i)) ∧ (∀ i, i < 3750 → rb' i = rb i) := by
  obtain ⟨hg, hE, hFm, hfm, hFc, hfc, hsu⟩ := hV
  obtain ⟨o1, o2, o3, o4, o5, o6, o7⟩ := hO
  have hSW : D * (255 - F - 2 * E) ≤ D * (255 - F) := Nat.mul_le_mul_left _ (by omega)
  have hD8 : D ≤ 8 := by omega
  have hE1 : 1 ≤ E := by omega
  have hE2 : E ≤ 16 := by omega
  generalize hS : D * (255 - F - 2 * E) = S at *
  obtain ⟨g15, h1, h2, h3⟩ := f_hd (n := n) (sb := sb) dat hc hh hcc
  have hfl : ∀ k, k < S - 2 → FBy c h n m dat k < 256 := fun k hk => FBy_lt hc hh (fun h6 => (hda (k - 6) (by omega)).2.2)
  have hg15 : ∀ k, k < S - 2 → g15 k = nI (FBy c h n m dat k) := by
    intro k hk
    by_cases c6 : k < 6
    · exact h2 k c6
    · rw [h3 k (by omega)]
      have := (hda (k - 6) (by omega)).2.1
      rw [show 6 + (k - 6) = k by omega] at this
      rw [this]
      unfold FBy
      rw [if_neg (by omega), if_neg (by omega), if_neg (by omega), if_neg (by omega), if_neg (by omega), if_neg (by omega)]
  have hb15 : BY g15 := by
    intro i
    by_cases c6 : i < 6
    · exact ⟨_, hfl i (by omega), h2 i c6⟩
    · rw [h3 i (by omega)]; exact b1 i
  obtain ⟨B15, e15, l15⟩ := by_nat hb15
  have hcr : crcA B15 0 (S - 2) = crcA (FBy c h n m dat) 0 (S - 2) := crcA_congr (fun i hi => by
    have h4 := hg15 i hi
    rw [e15] at h4
    have h5 : nI (B15 i) = nI (FBy c h n m dat i) := h4
    rw [Nat.zero_add]
    have h6 := l15 i
    have h7 := hfl i hi
    exact (nI_eq (by omega) (by omega)).1 h5)
  have hck : f_DC_checkOf g15 250 (0 : Int32) (nI (S - 2)) = some (nI (crcA (FBy c h n m dat) 0 (S - 2))) := by
    rw [e15, ← hcr]
    exact c_of l15 (a := 0) (by omega) (by omega)
  have hcl := crcA_lt (FBy c h n m dat) 0 (S - 2)
  have hsh : nI (crcA (FBy c h n m dat) 0 (S - 2)) >>> ((8 : Int32) &&& 31) = nI (crcA (FBy c h n m dat) 0 (S - 2) / 256) := pk_shrN (by omega) _ 8 (by decide)
  have han : nI (crcA (FBy c h n m dat) 0 (S - 2)) &&& 255 = nI (crcA (FBy c h n m dat) 0 (S - 2) % 256) := pk_andN (by omega) 8 (by decide)
  have hb23 : BY (upd (upd g15 (S - 2) (nI (crcA (FBy c h n m dat) 0 (S - 2) / 256))) (S - 2 + 1) (nI (crcA (FBy c h n m dat) 0 (S - 2) % 256))) := by_upd (by_upd hb15 _ _ (by omega)) _ _ (by omega)
  have hv23 : ∀ i, i < S → upd (upd g15 (S - 2) (nI (crcA (FBy c h n m dat) 0 (S - 2) / 256))) (S - 2 + 1) (nI (crcA (FBy c h n m dat) 0 (S - 2) % 256)) i = nI (FrV c h n m dat S i) := by
    intro i hi
    unfold FrV
    by_cases c1 : i < S - 2
    · rw [if_pos c1, pk_un (by omega), pk_un (by omega), hg15 i c1]
    · rw [if_neg c1]
      by_cases c2 : i = S - 2
      · rw [if_pos c2, c2, pk_un (by omega), pk_us]
      · rw [if_neg c2, show i = S - 2 + 1 by omega, pk_us]
  obtain ⟨Y, eY⟩ := by_K hsu hb23
  obtain ⟨Rm, eR⟩ := by_K hE.2.2.2.2.2.1 b7
  obtain ⟨Rm', Y', a1, a2⟩ := c_addAll hE hFc hfc (D := D) (F := F) (E := E) (nb := 250) o2 hE1 hE2 o5 hD8 o7 (by omega) hgn Rm Y
  -- the reference
  obtain ⟨by1, r1, r2, r3⟩ := l_fb (c := c) (h := h) (n := n) (m := m) (S := S) (a := 3750) (dat := dat) (mc := mc) (da := da) (D' := nI D) (F' := nI F) (E' := nI E) (pr := prm) (lg := lgm) (fm := fmm) (el := elm) hc hh hn hm hmc o6 (by omega) (by omega) (fun k hk => ⟨(hda k hk).1, (hda k hk).2.2⟩) val wd sol sys 10000 0 rb (by omega) (by omega)
  have hby1 : BY by1 := by
    intro i
    by_cases hx : ∃ k, k < S - 2 ∧ i = 3750 + k
    · obtain ⟨k, hk, rfl⟩ := hx
      exact ⟨_, hfl k hk, r2 k (by omega) hk⟩
    · rw [r3 i (fun k _ hk h4 => hx ⟨k, hk, h4⟩)]; exact b2 i
  have hb2 : BY (upd (upd by1 (3750 + S - 2) (nI (crcA (FBy c h n m dat) 0 (S - 2) / 256))) (3750 + S - 1) (nI (crcA (FBy c h n m dat) 0 (S - 2) % 256))) := by_upd (by_upd hby1 _ _ (by omega)) _ _ (by omega)
  have hv2 : ∀ i, i < S → upd (upd by1 (3750 + S - 2) (nI (crcA (FBy c h n m dat) 0 (S - 2) / 256))) (3750 + S - 1) (nI (crcA (FBy c h n m dat) 0 (S - 2) % 256)) (3750 + i) = nI (FrV c h n m dat S i) := by
    intro i hi
    unfold FrV
    by_cases c1 : i < S - 2
    · rw [if_pos c1, pk_un (by omega), pk_un (by omega), r2 i (by omega) c1]
    · rw [if_neg c1]
      by_cases c2 : i = S - 2
      · rw [if_pos c2, pk_un (by omega), show 3750 + i = 3750 + S - 2 by omega, pk_us]
      · rw [if_neg c2, show 3750 + i = 3750 + S - 1 by omega, pk_us]
  obtain ⟨Z, eZ⟩ := by_K hsu hb2
  obtain ⟨Vv, eV⟩ := by_K hE.2.2.2.2.2.1 b3
  obtain ⟨Wd, eW⟩ := by_K hE.2.2.2.2.2.1 b4
  obtain ⟨So, eS⟩ := by_K hE.2.2.2.2.2.1 b5
  obtain ⟨Sy, eSy⟩ := by_K hE.2.2.2.2.2.1 b6
  obtain ⟨Z', V', W', s', A', m1, m2⟩ := m_lay hg hE hFm hfm (D := D) (F := F) (E := E) (a := 3750) o2 hE1 hE2 o5 hD8 (by omega) Z 10000 0 Z Vv Wd So Sy (by omega) (by omega) ⟨fun i hi => by omega, fun q _ => rfl⟩
  refine ⟨g15, _, ea en Rm', ea fo Y', ea fo Z', ea en V', ea en W', ea en s', ea en A', h1, hck, ?_, ?_, by_fo hfc Y', by_fo hfm Z', by_en hE V', by_en hE W', by_en hE s', by_en hE A', by_en hE Rm', fun i hi => ?_, fun i hi => ?_⟩
  · rw [hsh, han, eY, eR]
    exact a1
  · unfold f_Mo_lay
    rw [fs_m D o2 o5, hS, q_bd, q_nm]
    have r1' : f_Mo_lay_12 (nI D) (nI F) (nI E) (nI c) (nI n) prm lgm fmm elm mc da 10000 3750 (nI h) (nI S) 65535 0 rb val wd sol sys = _ := r1
    rw [r1']
    unfold f_Mo_lay_55
    rw [nI_add, show (2 : Int32) = nI 2 from rfl, show (1 : Int32) = nI 1 from rfl, pk_sub (by omega), pk_sub (by omega), q_wrI (by omega) (by decide), q_wrI (by omega) (by decide), hsh, han, eZ, eV, eW, eS, eSy]
    rw [nI_0] at m1
    exact m1
  · show fo (Y' i) = fo (Z' (3750 + i))
    have hag : ∀ i, i < D * (255 - F - 2 * E) → Y (0 + i) = Z (3750 + i) := by
      intro i hi
      rw [hS] at hi
      refine fo_inj hE hfc ?_
      have e1 : ea fo Y i = nI (FrV c h n m dat S i) := by rw [← eY]; exact hv23 i hi
      have e2 : ea fo Z (3750 + i) = nI (FrV c h n m dat S i) := by rw [← eZ]; exact hv2 i hi
      rw [Nat.zero_add]
      exact e1.trans e2.symm
    have := laid_one hg (W := 255 - F) (E := E) (by omega) (by omega) a2 m2 hag i hi
    rw [Nat.zero_add] at this
    rw [this]
  · show fo (Z' i) = rb i
    rw [m2.2 i (fun j k _ _ _ h4 => by omega)]
    have e2 : ea fo Z i = rb i := by
      rw [← eZ, pk_un (by omega), pk_un (by omega)]
      exact r3 i (fun k _ _ h4 => by omega)
    exact e2
theorem mk_split : bitsD 449838109 32 = bitsD 26 8 ++ (bitsD 207 8 ++ (bitsD 252 8 ++ bitsD 29 8)) := by decide
theorem mk_bytes : ((449838109 : Int32) >>> (((8 : Int32) * 3) &&& 31)) &&& 255 = nI 26 ∧ ((449838109 : Int32) >>> (((8 : Int32) * nI 2) &&& 31)) &&& 255 = nI 207 ∧ ((449838109 : Int32) >>> (((8 : Int32) * nI 1) &&& 31)) &&& 255 = nI 252 ∧ ((449838109 : Int32) >>> (((8 : Int32) * nI 0) &&& 31)) &&& 255 = nI 29 := by decide
abbrev FR : Type := Option (Int32 × Int32 × Int32 × Int32 × Int32 × Int32 × Int32 × AR × AR × AR × AR × AR × AR × AR)
theorem q_bdn {α β : Type} {k : α → Option β} : bd (none : Option α) k = none := rfl
theorem m_mark5 {D' F' P : Int32} {bg fs sc mx : AR} (fu : Nat) (x1 x2 th wa ms l s st : Int32) (by_ va wo so sy co ln : AR) : f_Mo_send_89 D' F' P bg fs sc mx (fu + 5) x1 x2 3 th wa ms l s st by_ va wo so sy co ln = bd (mRun P bg fs sc (bitsD 449838109 32) l s st ln) fun u => f_Mo_send_114 D' F' P bg fs sc mx x1 x2 th wa ms u.1 u.2.1 u.2.2.1 by_ va wo so sy co u.2.2.2 := by
  obtain ⟨k3, k2, k1, k0⟩ := mk_bytes
  rw [mk_split, mRun_app]
  show f_Mo_send_89_b D' F' P bg fs sc mx (f_Mo_send_89 D' F' P bg fs sc mx (fu + 4)) x1 x2 3 th wa ms l s st by_ va wo so sy co ln = _
  unfold f_Mo_send_89_b
  rw [if_neg (by decide), k3, sb_ok P bg fs sc (by decide)]
  cases mRun P bg fs sc (bitsD 26 8) l s st ln with
  | none => simp only [q_bdn]
  | some u =>
    rw [q_bd, q_bd, mRun_app, q_nm, q_nm, q_nm, q_nm, q_nm, show (3 : Int32) + (-1) = nI 2 from rfl]
    show f_Mo_send_89_b D' F' P bg fs sc mx (f_Mo_send_89 D' F' P bg fs sc mx (fu + 3)) x1 x2 (nI 2) th wa ms u.1 u.2.1 u.2.2.1 by_ va wo so sy co u.2.2.2 = _
    unfold f_Mo_send_89_b
    rw [if_neg (by decide), k2, sb_ok P bg fs sc (by decide)]
    cases mRun P bg fs sc (bitsD 207 8) u.1 u.2.1 u.2.2.1 u.2.2.2 with
    | none => simp only [q_bdn]
    | some u =>
      rw [q_bd, q_bd, mRun_app, q_nm, q_nm, q_nm, q_nm, q_nm, show nI 2 + (-1) = nI 1 from rfl]
      show f_Mo_send_89_b D' F' P bg fs sc mx (f_Mo_send_89 D' F' P bg fs sc mx (fu + 2)) x1 x2 (nI 1) th wa ms u.1 u.2.1 u.2.2.1 by_ va wo so sy co u.2.2.2 = _
      unfold f_Mo_send_89_b
      rw [if_neg (by decide), k1, sb_ok P bg fs sc (by decide)]
      cases mRun P bg fs sc (bitsD 252 8) u.1 u.2.1 u.2.2.1 u.2.2.2 with
      | none => simp only [q_bdn]
      | some u =>
        rw [q_bd, q_bd, q_nm, q_nm, q_nm, q_nm, q_nm, show nI 1 + (-1) = nI 0 from rfl]
        show f_Mo_send_89_b D' F' P bg fs sc mx (f_Mo_send_89 D' F' P bg fs sc mx (fu + 1)) x1 x2 (nI 0) th wa ms u.1 u.2.1 u.2.2.1 by_ va wo so sy co u.2.2.2 = _
        unfold f_Mo_send_89_b
        rw [if_neg (by decide), k0, sb_ok P bg fs sc (by decide)]
        cases mRun P bg fs sc (bitsD 29 8) u.1 u.2.1 u.2.2.1 u.2.2.2 with
        | none => simp only [q_bdn]
        | some u =>
          rw [q_bd, q_bd, q_nm, q_nm, q_nm, q_nm, q_nm]
          show f_Mo_send_89_b D' F' P bg fs sc mx (f_Mo_send_89 D' F' P bg fs sc mx fu) x1 x2 (nI 0 + (-1)) th wa ms u.1 u.2.1 u.2.2.1 by_ va wo so sy co u.2.2.2 = _
          unfold f_Mo_send_89_b
          rw [if_pos (by decide)]
theorem m_mark {D' F' P : Int32} {bg fs sc mx : AR} (x1 x2 th wa ms l s st : Int32) (by_ va wo so sy co ln : AR) : f_Mo_send_89 D' F' P bg fs sc mx 10000 x1 x2 3 th wa ms l s st by_ va wo so sy co ln = bd (mRun P bg fs sc (bitsD 449838109 32) l s st ln) fun u => f_Mo_send_114 D' F' P bg fs sc mx x1 x2 th wa ms u.1 u.2.1 u.2.2.1 by_ va wo so sy co u.2.2.2 := by
  have h := m_mark5 (D' := D') (F' := F') (P := P) (bg := bg) (fs := fs) (sc := sc) (mx := mx) 9995 x1 x2 th wa ms l s st by_ va wo so sy co ln
  rw [show 9995 + 5 = 10000 from rfl] at h
  exact h
theorem mx_at {mx : AR} {t : Nat} (ht : t < 250) : f_Mixer_at mx (nI t) = some (mx t) := by
  unfold f_Mixer_at
  rw [if_neg (nI_pos (by omega)), if_neg (show ¬ (250 : Int32) ≤ nI t from nI_ge (b := 250) ht (by decide)), q_rdI ht (by decide)]
theorem snd_lp {bg fs sc : AR} (hT : Tab bg fs sc) {P : Nat} (hP : P ≤ 4) {D F : Nat} (hF : F ≤ 250) (hDW : D * (255 - F) ≤ 250) {mxc mxm sb rb : AR} (hmx : ∀ k, k < 250 → mxc k = mxm k) (bmx : ∀ t, t < 250 → ∃ y, y < 256 ∧ mxm t = nI y) (bsb : BY sb) (hsr : ∀ i, i < D * (255 - F) → sb i = rb (3750 + i)) (x1 mc0 dc th wa ms : Int32) (cc rem va wo so sy co : AR) :
    ∀ r fu fu' t len snt R (cl : Nat → Int64) (ln : AR), t + r = D * (255 - F) → r < fu → r < fu' → RowEq len cl ln → R < 128 → snt + 8 * r < 2 ^ 20 → len + cnt P snt (8 * r) ≤ 4096 →
    ∃ R' cl' ln', f_Sender_sendFrame_73 (nI D) (nI (255 - F)) (nI P) mxc fu x1 (nI t) mc0 dc sb cc rem (nI R) (nI snt) (nI len) cl = f_Sender_sendFrame_114 x1 mc0 dc sb cc rem (nI R') (nI (snt + 8 * r)) (nI (len + cnt P snt (8 * r))) cl' ∧ f_Mo_send_116 (nI D) (nI F) (nI P) bg fs sc mxm fu' x1 3750 (nI t) th wa ms (nI len) (nI snt) (nI (R / 2)) rb va wo so sy co ln = f_Mo_send_149 x1 th wa ms (nI (len + cnt P snt (8 * r))) (nI (snt + 8 * r)) (nI (R' / 2)) rb va wo so sy co ln' ∧ RowEq (len + cnt P snt (8 * r)) cl' ln' ∧ R' < 128 := by
  intro r
  induction r with
  | zero =>
    intro fu fu' t len snt R cl ln h1 h2 h2' h3 h4 h5 h6
    obtain ⟨f, rfl⟩ : ∃ f, fu = f + 1 := ⟨fu - 1, by omega⟩
    obtain ⟨f', rfl⟩ : ∃ f', fu' = f' + 1 := ⟨fu' - 1, by omega⟩
    show ∃ R' cl' ln', f_Sender_sendFrame_73_b _ _ _ _ _ _ _ _ _ _ _ _ _ _ _ _ = _ ∧ f_Mo_send_116_b _ _ _ _ _ _ _ _ _ _ _ _ _ _ _ _ _ _ _ _ _ _ _ _ = _ ∧ _
    unfold f_Sender_sendFrame_73_b f_Mo_send_116_b
    rw [bs_c, q_bd, q_nm, bs_m D hF, q_bd, q_nm, if_pos (nI_le (by omega) (by omega)), if_pos (nI_le (by omega) (by omega))]
    exact ⟨R, cl, ln, rfl, rfl, h3, h4⟩
  | succ r ih =>
    intro fu fu' t len snt R cl ln h1 h2 h2' h3 h4 h5 h6
    obtain ⟨f, rfl⟩ : ∃ f, fu = f + 1 := ⟨fu - 1, by omega⟩
    obtain ⟨f', rfl⟩ : ∃ f', fu' = f' + 1 := ⟨fu' - 1, by omega⟩
    show ∃ R' cl' ln', f_Sender_sendFrame_73_b _ _ _ _ _ _ _ _ _ _ _ _ _ _ _ _ = _ ∧ f_Mo_send_116_b _ _ _ _ _ _ _ _ _ _ _ _ _ _ _ _ _ _ _ _ _ _ _ _ = _ ∧ _
    unfold f_Sender_sendFrame_73_b f_Mo_send_116_b
    have e8 : 8 * (r + 1) = 8 + 8 * r := by omega
    rw [e8] at h5 h6 ⊢
    rw [cnt_add] at h6 ⊢
    obtain ⟨x, hx, ex⟩ := bsb t
    obtain ⟨y, hy, ey⟩ := bmx t (by omega)
    have hxy : x ^^^ y < 256 := Nat.xor_lt_two_pow (n := 8) hx hy
    rw [bs_c, q_bd, q_nm, bs_m D hF, q_bd, q_nm, if_neg (nI_ge (by omega) (by omega)), if_neg (nI_ge (by omega) (by omega)), q_rdI (by omega) (by decide), mx_at (by omega), q_bd, q_nm, hmx t (by omega), show (3750 : Int32) + nI t = nI (3750 + t) from nI_add 3750 t, q_rdI (by omega) (by decide), q_rdI (by omega) (by decide), ← hsr t (by omega), ex, ey, nI_xor, show (8 : Int32) = nI 8 from rfl, pb_ok (nI P) (by omega) (by omega), sb_ok (nI P) bg fs sc (by omega)]
    obtain ⟨R1, cl1, ln1, r1, r2, r3, r4⟩ := run_ok hT hP (bitsD (x ^^^ y) 8) len snt R cl ln h3 h4 (by rw [bitsD_len]; omega) (by rw [bitsD_len]; omega)
    rw [bitsD_len] at r1 r2 r3
    rw [r1, r2, q_bd, q_bd, q_nm, q_nm, q_nm, q_nm, q_nm, q_nm, q_nm, q_nm, q_nm, q_nm, nI_1]
    obtain ⟨R', cl', ln', s1, s2, s3, s4⟩ := ih f f' (t + 1) (len + cnt P snt 8) (snt + 8) R1 cl1 ln1 (by omega) (by omega) (by omega) r3 r4 (by omega) (by omega)
    rw [Nat.add_assoc len, Nat.add_assoc snt] at s1 s2
    rw [Nat.add_assoc len] at s3
    exact ⟨R', cl', ln', s1, s2, s3, s4⟩
end
