/-! Pure words for what a method computes: a method's picture is a function into Option; 'none' where the machine would leave the road (an index out of range, a division by 0, fuel that is used up). -/
def nm {α β : Type} (e : α) (k : α → Option β) : Option β := k e
def dv {β : Type} (y : Int32) (k : Option β) : Option β := if y = 0 then none else k
def rdI {β : Type} (f : Nat → Int32) (n : Nat) (i : Int32) (k : Int32 → Option β) : Option β := if i < 0 ∨ n ≤ i.toNatClampNeg then none else k (f i.toNatClampNeg)
def rdL {β : Type} (f : Nat → Int64) (n : Nat) (i : Int32) (k : Int64 → Option β) : Option β := if i < 0 ∨ n ≤ i.toNatClampNeg then none else k (f i.toNatClampNeg)
def wrI {β : Type} (f : Nat → Int32) (n : Nat) (i x : Int32) (k : (Nat → Int32) → Option β) : Option β := if i < 0 ∨ n ≤ i.toNatClampNeg then none else k (upd f i.toNatClampNeg x)
def wrL {β : Type} (f : Nat → Int64) (n : Nat) (i : Int32) (x : Int64) (k : (Nat → Int64) → Option β) : Option β := if i < 0 ∨ n ≤ i.toNatClampNeg then none else k (vp_updL f i.toNatClampNeg x)
def bd {α β : Type} (o : Option α) (k : α → Option β) : Option β := match o with
  | some a => k a
  | none => none
def cpI {β : Type} (f : Nat → Int32) (nf : Nat) (g : Nat → Int32) (ng : Nat) (sp dp n : Int32) (k : (Nat → Int32) → Option β) : Option β :=
  if sp < 0 ∨ dp < 0 ∨ n < 0 ∨ nf < sp.toNatClampNeg + n.toNatClampNeg ∨ ng < dp.toNatClampNeg + n.toNatClampNeg then none else k (va_cpy f g sp.toNatClampNeg dp.toNatClampNeg n.toNatClampNeg)
theorem bd_el {α β : Type} {o : Option α} {k : α → Option β} {r : β} (h : bd o k = some r) : ∃ a, o = some a ∧ k a = some r := by
  cases o with
  | none => cases h
  | some a => exact ⟨a, rfl, h⟩
theorem dv_el {β : Type} {y : Int32} {k : Option β} {r : β} (h : dv y k = some r) : ¬ y = 0 ∧ k = some r := by
  unfold dv at h
  split at h
  · cases h
  · rename_i h0; exact ⟨h0, h⟩
theorem rdI_el {β : Type} {f : Nat → Int32} {n : Nat} {i : Int32} {k : Int32 → Option β} {r : β} (h : rdI f n i k = some r) : vp_in i n ∧ k (f i.toNatClampNeg) = some r := by
  unfold rdI at h
  split at h
  · cases h
  · rename_i h0; exact ⟨h0, h⟩
theorem rdL_el {β : Type} {f : Nat → Int64} {n : Nat} {i : Int32} {k : Int64 → Option β} {r : β} (h : rdL f n i k = some r) : vp_in i n ∧ k (f i.toNatClampNeg) = some r := by
  unfold rdL at h
  split at h
  · cases h
  · rename_i h0; exact ⟨h0, h⟩
theorem wrI_el {β : Type} {f : Nat → Int32} {n : Nat} {i x : Int32} {k : (Nat → Int32) → Option β} {r : β} (h : wrI f n i x k = some r) : vp_in i n ∧ k (upd f i.toNatClampNeg x) = some r := by
  unfold wrI at h
  split at h
  · cases h
  · rename_i h0; exact ⟨h0, h⟩
theorem wrL_el {β : Type} {f : Nat → Int64} {n : Nat} {i : Int32} {x : Int64} {k : (Nat → Int64) → Option β} {r : β} (h : wrL f n i x k = some r) : vp_in i n ∧ k (vp_updL f i.toNatClampNeg x) = some r := by
  unfold wrL at h
  split at h
  · cases h
  · rename_i h0; exact ⟨h0, h⟩
theorem cpI_el {β : Type} {f : Nat → Int32} {nf : Nat} {g : Nat → Int32} {ng : Nat} {sp dp n : Int32} {k : (Nat → Int32) → Option β} {r : β} (h : cpI f nf g ng sp dp n k = some r) :
    (¬ sp < 0 ∧ ¬ dp < 0 ∧ ¬ n < 0 ∧ sp.toNatClampNeg + n.toNatClampNeg ≤ nf ∧ dp.toNatClampNeg + n.toNatClampNeg ≤ ng) ∧ k (va_cpy f g sp.toNatClampNeg dp.toNatClampNeg n.toNatClampNeg) = some r := by
  unfold cpI at h
  split at h
  · cases h
  · rename_i h0
    exact ⟨⟨fun q => h0 (Or.inl q), fun q => h0 (Or.inr (Or.inl q)), fun q => h0 (Or.inr (Or.inr (Or.inl q))), Nat.not_lt.mp fun q => h0 (Or.inr (Or.inr (Or.inr (Or.inl q)))), Nat.not_lt.mp fun q => h0 (Or.inr (Or.inr (Or.inr (Or.inr q))))⟩, h⟩
theorem if_el {β : Type} {c : Prop} [Decidable c] {a b : Option β} {r : β} (h : (if c then a else b) = some r) : (c → a = some r) ∧ (¬ c → b = some r) :=
  ⟨fun hc => by rwa [if_pos hc] at h, fun hc => by rwa [if_neg hc] at h⟩
theorem nm_el {α β : Type} {e : α} {k : α → Option β} {r : β} (h : nm e k = some r) : ∃ v, v = e ∧ k v = some r := ⟨e, rfl, h⟩
theorem nm_0 {β : Type} {K : Option β} {r : β} {u : Unit} (h : (fun _ : Unit => K) u = some r) : K = some r := h
theorem nm_1 {α β : Type} {a : α} {K : α → Option β} {r : β} (h : nm a (fun x => K x) = some r) : K a = some r := h
theorem nm_2 {T1 T2 β : Type} {a1 : T1} {a2 : T2} {K : T1 → T2 → Option β} {r : β} (h : nm (a1, a2).1 (fun x0 => nm (a1, a2).2 (fun x1 => K x0 x1)) = some r) : K a1 a2 = some r := h
theorem nm_3 {T1 T2 T3 β : Type} {a1 : T1} {a2 : T2} {a3 : T3} {K : T1 → T2 → T3 → Option β} {r : β} (h : nm (a1, a2, a3).1 (fun x0 => nm (a1, a2, a3).2.1 (fun x1 => nm (a1, a2, a3).2.2 (fun x2 => K x0 x1 x2))) = some r) : K a1 a2 a3 = some r := h
theorem nm_4 {T1 T2 T3 T4 β : Type} {a1 : T1} {a2 : T2} {a3 : T3} {a4 : T4} {K : T1 → T2 → T3 → T4 → Option β} {r : β} (h : nm (a1, a2, a3, a4).1 (fun x0 => nm (a1, a2, a3, a4).2.1 (fun x1 => nm (a1, a2, a3, a4).2.2.1 (fun x2 => nm (a1, a2, a3, a4).2.2.2 (fun x3 => K x0 x1 x2 x3)))) = some r) : K a1 a2 a3 a4 = some r := h
theorem nm_5 {T1 T2 T3 T4 T5 β : Type} {a1 : T1} {a2 : T2} {a3 : T3} {a4 : T4} {a5 : T5} {K : T1 → T2 → T3 → T4 → T5 → Option β} {r : β} (h : nm (a1, a2, a3, a4, a5).1 (fun x0 => nm (a1, a2, a3, a4, a5).2.1 (fun x1 => nm (a1, a2, a3, a4, a5).2.2.1 (fun x2 => nm (a1, a2, a3, a4, a5).2.2.2.1 (fun x3 => nm (a1, a2, a3, a4, a5).2.2.2.2 (fun x4 => K x0 x1 x2 x3 x4))))) = some r) : K a1 a2 a3 a4 a5 = some r := h
theorem nm_6 {T1 T2 T3 T4 T5 T6 β : Type} {a1 : T1} {a2 : T2} {a3 : T3} {a4 : T4} {a5 : T5} {a6 : T6} {K : T1 → T2 → T3 → T4 → T5 → T6 → Option β} {r : β} (h : nm (a1, a2, a3, a4, a5, a6).1 (fun x0 => nm (a1, a2, a3, a4, a5, a6).2.1 (fun x1 => nm (a1, a2, a3, a4, a5, a6).2.2.1 (fun x2 => nm (a1, a2, a3, a4, a5, a6).2.2.2.1 (fun x3 => nm (a1, a2, a3, a4, a5, a6).2.2.2.2.1 (fun x4 => nm (a1, a2, a3, a4, a5, a6).2.2.2.2.2 (fun x5 => K x0 x1 x2 x3 x4 x5)))))) = some r) : K a1 a2 a3 a4 a5 a6 = some r := h
theorem nm_7 {T1 T2 T3 T4 T5 T6 T7 β : Type} {a1 : T1} {a2 : T2} {a3 : T3} {a4 : T4} {a5 : T5} {a6 : T6} {a7 : T7} {K : T1 → T2 → T3 → T4 → T5 → T6 → T7 → Option β} {r : β} (h : nm (a1, a2, a3, a4, a5, a6, a7).1 (fun x0 => nm (a1, a2, a3, a4, a5, a6, a7).2.1 (fun x1 => nm (a1, a2, a3, a4, a5, a6, a7).2.2.1 (fun x2 => nm (a1, a2, a3, a4, a5, a6, a7).2.2.2.1 (fun x3 => nm (a1, a2, a3, a4, a5, a6, a7).2.2.2.2.1 (fun x4 => nm (a1, a2, a3, a4, a5, a6, a7).2.2.2.2.2.1 (fun x5 => nm (a1, a2, a3, a4, a5, a6, a7).2.2.2.2.2.2 (fun x6 => K x0 x1 x2 x3 x4 x5 x6))))))) = some r) : K a1 a2 a3 a4 a5 a6 a7 = some r := h
theorem nm_8 {T1 T2 T3 T4 T5 T6 T7 T8 β : Type} {a1 : T1} {a2 : T2} {a3 : T3} {a4 : T4} {a5 : T5} {a6 : T6} {a7 : T7} {a8 : T8} {K : T1 → T2 → T3 → T4 → T5 → T6 → T7 → T8 → Option β} {r : β} (h : nm (a1, a2, a3, a4, a5, a6, a7, a8).1 (fun x0 => nm (a1, a2, a3, a4, a5, a6, a7, a8).2.1 (fun x1 => nm (a1, a2, a3, a4, a5, a6, a7, a8).2.2.1 (fun x2 => nm (a1, a2, a3, a4, a5, a6, a7, a8).2.2.2.1 (fun x3 => nm (a1, a2, a3, a4, a5, a6, a7, a8).2.2.2.2.1 (fun x4 => nm (a1, a2, a3, a4, a5, a6, a7, a8).2.2.2.2.2.1 (fun x5 => nm (a1, a2, a3, a4, a5, a6, a7, a8).2.2.2.2.2.2.1 (fun x6 => nm (a1, a2, a3, a4, a5, a6, a7, a8).2.2.2.2.2.2.2 (fun x7 => K x0 x1 x2 x3 x4 x5 x6 x7)))))))) = some r) : K a1 a2 a3 a4 a5 a6 a7 a8 = some r := h
theorem nm_9 {T1 T2 T3 T4 T5 T6 T7 T8 T9 β : Type} {a1 : T1} {a2 : T2} {a3 : T3} {a4 : T4} {a5 : T5} {a6 : T6} {a7 : T7} {a8 : T8} {a9 : T9} {K : T1 → T2 → T3 → T4 → T5 → T6 → T7 → T8 → T9 → Option β} {r : β} (h : nm (a1, a2, a3, a4, a5, a6, a7, a8, a9).1 (fun x0 => nm (a1, a2, a3, a4, a5, a6, a7, a8, a9).2.1 (fun x1 => nm (a1, a2, a3, a4, a5, a6, a7, a8, a9).2.2.1 (fun x2 => nm (a1, a2, a3, a4, a5, a6, a7, a8, a9).2.2.2.1 (fun x3 => nm (a1, a2, a3, a4, a5, a6, a7, a8, a9).2.2.2.2.1 (fun x4 => nm (a1, a2, a3, a4, a5, a6, a7, a8, a9).2.2.2.2.2.1 (fun x5 => nm (a1, a2, a3, a4, a5, a6, a7, a8, a9).2.2.2.2.2.2.1 (fun x6 => nm (a1, a2, a3, a4, a5, a6, a7, a8, a9).2.2.2.2.2.2.2.1 (fun x7 => nm (a1, a2, a3, a4, a5, a6, a7, a8, a9).2.2.2.2.2.2.2.2 (fun x8 => K x0 x1 x2 x3 x4 x5 x6 x7 x8))))))))) = some r) : K a1 a2 a3 a4 a5 a6 a7 a8 a9 = some r := h
theorem nm_10 {T1 T2 T3 T4 T5 T6 T7 T8 T9 T10 β : Type} {a1 : T1} {a2 : T2} {a3 : T3} {a4 : T4} {a5 : T5} {a6 : T6} {a7 : T7} {a8 : T8} {a9 : T9} {b1 : T10} {K : T1 → T2 → T3 → T4 → T5 → T6 → T7 → T8 → T9 → T10 → Option β} {r : β} (h : nm (a1, a2, a3, a4, a5, a6, a7, a8, a9, b1).1 (fun x0 => nm (a1, a2, a3, a4, a5, a6, a7, a8, a9, b1).2.1 (fun x1 => nm (a1, a2, a3, a4, a5, a6, a7, a8, a9, b1).2.2.1 (fun x2 => nm (a1, a2, a3, a4, a5, a6, a7, a8, a9, b1).2.2.2.1 (fun x3 => nm (a1, a2, a3, a4, a5, a6, a7, a8, a9, b1).2.2.2.2.1 (fun x4 => nm (a1, a2, a3, a4, a5, a6, a7, a8, a9, b1).2.2.2.2.2.1 (fun x5 => nm (a1, a2, a3, a4, a5, a6, a7, a8, a9, b1).2.2.2.2.2.2.1 (fun x6 => nm (a1, a2, a3, a4, a5, a6, a7, a8, a9, b1).2.2.2.2.2.2.2.1 (fun x7 => nm (a1, a2, a3, a4, a5, a6, a7, a8, a9, b1).2.2.2.2.2.2.2.2.1 (fun x8 => nm (a1, a2, a3, a4, a5, a6, a7, a8, a9, b1).2.2.2.2.2.2.2.2.2 (fun x9 => K x0 x1 x2 x3 x4 x5 x6 x7 x8 x9)))))))))) = some r) : K a1 a2 a3 a4 a5 a6 a7 a8 a9 b1 = some r := h
theorem nm_11 {T1 T2 T3 T4 T5 T6 T7 T8 T9 T10 T11 β : Type} {a1 : T1} {a2 : T2} {a3 : T3} {a4 : T4} {a5 : T5} {a6 : T6} {a7 : T7} {a8 : T8} {a9 : T9} {b1 : T10} {b2 : T11} {K : T1 → T2 → T3 → T4 → T5 → T6 → T7 → T8 → T9 → T10 → T11 → Option β} {r : β} (h : nm (a1, a2, a3, a4, a5, a6, a7, a8, a9, b1, b2).1 (fun x0 => nm (a1, a2, a3, a4, a5, a6, a7, a8, a9, b1, b2).2.1 (fun x1 => nm (a1, a2, a3, a4, a5, a6, a7, a8, a9, b1, b2).2.2.1 (fun x2 => nm (a1, a2, a3, a4, a5, a6, a7, a8, a9, b1, b2).2.2.2.1 (fun x3 => nm (a1, a2, a3, a4, a5, a6, a7, a8, a9, b1, b2).2.2.2.2.1 (fun x4 => nm (a1, a2, a3, a4, a5, a6, a7, a8, a9, b1, b2).2.2.2.2.2.1 (fun x5 => nm (a1, a2, a3, a4, a5, a6, a7, a8, a9, b1, b2).2.2.2.2.2.2.1 (fun x6 => nm (a1, a2, a3, a4, a5, a6, a7, a8, a9, b1, b2).2.2.2.2.2.2.2.1 (fun x7 => nm (a1, a2, a3, a4, a5, a6, a7, a8, a9, b1, b2).2.2.2.2.2.2.2.2.1 (fun x8 => nm (a1, a2, a3, a4, a5, a6, a7, a8, a9, b1, b2).2.2.2.2.2.2.2.2.2.1 (fun x9 => nm (a1, a2, a3, a4, a5, a6, a7, a8, a9, b1, b2).2.2.2.2.2.2.2.2.2.2 (fun x10 => K x0 x1 x2 x3 x4 x5 x6 x7 x8 x9 x10))))))))))) = some r) : K a1 a2 a3 a4 a5 a6 a7 a8 a9 b1 b2 = some r := h
theorem nm_12 {T1 T2 T3 T4 T5 T6 T7 T8 T9 T10 T11 T12 β : Type} {a1 : T1} {a2 : T2} {a3 : T3} {a4 : T4} {a5 : T5} {a6 : T6} {a7 : T7} {a8 : T8} {a9 : T9} {b1 : T10} {b2 : T11} {b3 : T12} {K : T1 → T2 → T3 → T4 → T5 → T6 → T7 → T8 → T9 → T10 → T11 → T12 → Option β} {r : β} (h : nm (a1, a2, a3, a4, a5, a6, a7, a8, a9, b1, b2, b3).1 (fun x0 => nm (a1, a2, a3, a4, a5, a6, a7, a8, a9, b1, b2, b3).2.1 (fun x1 => nm (a1, a2, a3, a4, a5, a6, a7, a8, a9, b1, b2, b3).2.2.1 (fun x2 => nm (a1, a2, a3, a4, a5, a6, a7, a8, a9, b1, b2, b3).2.2.2.1 (fun x3 => nm (a1, a2, a3, a4, a5, a6, a7, a8, a9, b1, b2, b3).2.2.2.2.1 (fun x4 => nm (a1, a2, a3, a4, a5, a6, a7, a8, a9, b1, b2, b3).2.2.2.2.2.1 (fun x5 => nm (a1, a2, a3, a4, a5, a6, a7, a8, a9, b1, b2, b3).2.2.2.2.2.2.1 (fun x6 => nm (a1, a2, a3, a4, a5, a6, a7, a8, a9, b1, b2, b3).2.2.2.2.2.2.2.1 (fun x7 => nm (a1, a2, a3, a4, a5, a6, a7, a8, a9, b1, b2, b3).2.2.2.2.2.2.2.2.1 (fun x8 => nm (a1, a2, a3, a4, a5, a6, a7, a8, a9, b1, b2, b3).2.2.2.2.2.2.2.2.2.1 (fun x9 => nm (a1, a2, a3, a4, a5, a6, a7, a8, a9, b1, b2, b3).2.2.2.2.2.2.2.2.2.2.1 (fun x10 => nm (a1, a2, a3, a4, a5, a6, a7, a8, a9, b1, b2, b3).2.2.2.2.2.2.2.2.2.2.2 (fun x11 => K x0 x1 x2 x3 x4 x5 x6 x7 x8 x9 x10 x11)))))))))))) = some r) : K a1 a2 a3 a4 a5 a6 a7 a8 a9 b1 b2 b3 = some r := h
theorem nm_13 {T1 T2 T3 T4 T5 T6 T7 T8 T9 T10 T11 T12 T13 β : Type} {a1 : T1} {a2 : T2} {a3 : T3} {a4 : T4} {a5 : T5} {a6 : T6} {a7 : T7} {a8 : T8} {a9 : T9} {b1 : T10} {b2 : T11} {b3 : T12} {b4 : T13} {K : T1 → T2 → T3 → T4 → T5 → T6 → T7 → T8 → T9 → T10 → T11 → T12 → T13 → Option β} {r : β} (h : nm (a1, a2, a3, a4, a5, a6, a7, a8, a9, b1, b2, b3, b4).1 (fun x0 => nm (a1, a2, a3, a4, a5, a6, a7, a8, a9, b1, b2, b3, b4).2.1 (fun x1 => nm (a1, a2, a3, a4, a5, a6, a7, a8, a9, b1, b2, b3, b4).2.2.1 (fun x2 => nm (a1, a2, a3, a4, a5, a6, a7, a8, a9, b1, b2, b3, b4).2.2.2.1 (fun x3 => nm (a1, a2, a3, a4, a5, a6, a7, a8, a9, b1, b2, b3, b4).2.2.2.2.1 (fun x4 => nm (a1, a2, a3, a4, a5, a6, a7, a8, a9, b1, b2, b3, b4).2.2.2.2.2.1 (fun x5 => nm (a1, a2, a3, a4, a5, a6, a7, a8, a9, b1, b2, b3, b4).2.2.2.2.2.2.1 (fun x6 => nm (a1, a2, a3, a4, a5, a6, a7, a8, a9, b1, b2, b3, b4).2.2.2.2.2.2.2.1 (fun x7 => nm (a1, a2, a3, a4, a5, a6, a7, a8, a9, b1, b2, b3, b4).2.2.2.2.2.2.2.2.1 (fun x8 => nm (a1, a2, a3, a4, a5, a6, a7, a8, a9, b1, b2, b3, b4).2.2.2.2.2.2.2.2.2.1 (fun x9 => nm (a1, a2, a3, a4, a5, a6, a7, a8, a9, b1, b2, b3, b4).2.2.2.2.2.2.2.2.2.2.1 (fun x10 => nm (a1, a2, a3, a4, a5, a6, a7, a8, a9, b1, b2, b3, b4).2.2.2.2.2.2.2.2.2.2.2.1 (fun x11 => nm (a1, a2, a3, a4, a5, a6, a7, a8, a9, b1, b2, b3, b4).2.2.2.2.2.2.2.2.2.2.2.2 (fun x12 => K x0 x1 x2 x3 x4 x5 x6 x7 x8 x9 x10 x11 x12))))))))))))) = some r) : K a1 a2 a3 a4 a5 a6 a7 a8 a9 b1 b2 b3 b4 = some r := h
theorem nm_14 {T1 T2 T3 T4 T5 T6 T7 T8 T9 T10 T11 T12 T13 T14 β : Type} {a1 : T1} {a2 : T2} {a3 : T3} {a4 : T4} {a5 : T5} {a6 : T6} {a7 : T7} {a8 : T8} {a9 : T9} {b1 : T10} {b2 : T11} {b3 : T12} {b4 : T13} {b5 : T14} {K : T1 → T2 → T3 → T4 → T5 → T6 → T7 → T8 → T9 → T10 → T11 → T12 → T13 → T14 → Option β} {r : β} (h : nm (a1, a2, a3, a4, a5, a6, a7, a8, a9, b1, b2, b3, b4, b5).1 (fun x0 => nm (a1, a2, a3, a4, a5, a6, a7, a8, a9, b1, b2, b3, b4, b5).2.1 (fun x1 => nm (a1, a2, a3, a4, a5, a6, a7, a8, a9, b1, b2, b3, b4, b5).2.2.1 (fun x2 => nm (a1, a2, a3, a4, a5, a6, a7, a8, a9, b1, b2, b3, b4, b5).2.2.2.1 (fun x3 => nm (a1, a2, a3, a4, a5, a6, a7, a8, a9, b1, b2, b3, b4, b5).2.2.2.2.1 (fun x4 => nm (a1, a2, a3, a4, a5, a6, a7, a8, a9, b1, b2, b3, b4, b5).2.2.2.2.2.1 (fun x5 => nm (a1, a2, a3, a4, a5, a6, a7, a8, a9, b1, b2, b3, b4, b5).2.2.2.2.2.2.1 (fun x6 => nm (a1, a2, a3, a4, a5, a6, a7, a8, a9, b1, b2, b3, b4, b5).2.2.2.2.2.2.2.1 (fun x7 => nm (a1, a2, a3, a4, a5, a6, a7, a8, a9, b1, b2, b3, b4, b5).2.2.2.2.2.2.2.2.1 (fun x8 => nm (a1, a2, a3, a4, a5, a6, a7, a8, a9, b1, b2, b3, b4, b5).2.2.2.2.2.2.2.2.2.1 (fun x9 => nm (a1, a2, a3, a4, a5, a6, a7, a8, a9, b1, b2, b3, b4, b5).2.2.2.2.2.2.2.2.2.2.1 (fun x10 => nm (a1, a2, a3, a4, a5, a6, a7, a8, a9, b1, b2, b3, b4, b5).2.2.2.2.2.2.2.2.2.2.2.1 (fun x11 => nm (a1, a2, a3, a4, a5, a6, a7, a8, a9, b1, b2, b3, b4, b5).2.2.2.2.2.2.2.2.2.2.2.2.1 (fun x12 => nm (a1, a2, a3, a4, a5, a6, a7, a8, a9, b1, b2, b3, b4, b5).2.2.2.2.2.2.2.2.2.2.2.2.2 (fun x13 => K x0 x1 x2 x3 x4 x5 x6 x7 x8 x9 x10 x11 x12 x13)))))))))))))) = some r) : K a1 a2 a3 a4 a5 a6 a7 a8 a9 b1 b2 b3 b4 b5 = some r := h
theorem nm_15 {T1 T2 T3 T4 T5 T6 T7 T8 T9 T10 T11 T12 T13 T14 T15 β : Type} {a1 : T1} {a2 : T2} {a3 : T3} {a4 : T4} {a5 : T5} {a6 : T6} {a7 : T7} {a8 : T8} {a9 : T9} {b1 : T10} {b2 : T11} {b3 : T12} {b4 : T13} {b5 : T14} {b6 : T15} {K : T1 → T2 → T3 → T4 → T5 → T6 → T7 → T8 → T9 → T10 → T11 → T12 → T13 → T14 → T15 → Option β} {r : β} (h : nm (a1, a2, a3, a4, a5, a6, a7, a8, a9, b1, b2, b3, b4, b5, b6).1 (fun x0 => nm (a1, a2, a3, a4, a5, a6, a7, a8, a9, b1, b2, b3, b4, b5, b6).2.1 (fun x1 => nm (a1, a2, a3, a4, a5, a6, a7, a8, a9, b1, b2, b3, b4, b5, b6).2.2.1 (fun x2 => nm (a1, a2, a3, a4, a5, a6, a7, a8, a9, b1, b2, b3, b4, b5, b6).2.2.2.1 (fun x3 => nm (a1, a2, a3, a4, a5, a6, a7, a8, a9, b1, b2, b3, b4, b5, b6).2.2.2.2.1 (fun x4 => nm (a1, a2, a3, a4, a5, a6, a7, a8, a9, b1, b2, b3, b4, b5, b6).2.2.2.2.2.1 (fun x5 => nm (a1, a2, a3, a4, a5, a6, a7, a8, a9, b1, b2, b3, b4, b5, b6).2.2.2.2.2.2.1 (fun x6 => nm (a1, a2, a3, a4, a5, a6, a7, a8, a9, b1, b2, b3, b4, b5, b6).2.2.2.2.2.2.2.1 (fun x7 => nm (a1, a2, a3, a4, a5, a6, a7, a8, a9, b1, b2, b3, b4, b5, b6).2.2.2.2.2.2.2.2.1 (fun x8 => nm (a1, a2, a3, a4, a5, a6, a7, a8, a9, b1, b2, b3, b4, b5, b6).2.2.2.2.2.2.2.2.2.1 (fun x9 => nm (a1, a2, a3, a4, a5, a6, a7, a8, a9, b1, b2, b3, b4, b5, b6).2.2.2.2.2.2.2.2.2.2.1 (fun x10 => nm (a1, a2, a3, a4, a5, a6, a7, a8, a9, b1, b2, b3, b4, b5, b6).2.2.2.2.2.2.2.2.2.2.2.1 (fun x11 => nm (a1, a2, a3, a4, a5, a6, a7, a8, a9, b1, b2, b3, b4, b5, b6).2.2.2.2.2.2.2.2.2.2.2.2.1 (fun x12 => nm (a1, a2, a3, a4, a5, a6, a7, a8, a9, b1, b2, b3, b4, b5, b6).2.2.2.2.2.2.2.2.2.2.2.2.2.1 (fun x13 => nm (a1, a2, a3, a4, a5, a6, a7, a8, a9, b1, b2, b3, b4, b5, b6).2.2.2.2.2.2.2.2.2.2.2.2.2.2 (fun x14 => K x0 x1 x2 x3 x4 x5 x6 x7 x8 x9 x10 x11 x12 x13 x14))))))))))))))) = some r) : K a1 a2 a3 a4 a5 a6 a7 a8 a9 b1 b2 b3 b4 b5 b6 = some r := h
theorem nm_16 {T1 T2 T3 T4 T5 T6 T7 T8 T9 T10 T11 T12 T13 T14 T15 T16 β : Type} {a1 : T1} {a2 : T2} {a3 : T3} {a4 : T4} {a5 : T5} {a6 : T6} {a7 : T7} {a8 : T8} {a9 : T9} {b1 : T10} {b2 : T11} {b3 : T12} {b4 : T13} {b5 : T14} {b6 : T15} {b7 : T16} {K : T1 → T2 → T3 → T4 → T5 → T6 → T7 → T8 → T9 → T10 → T11 → T12 → T13 → T14 → T15 → T16 → Option β} {r : β} (h : nm (a1, a2, a3, a4, a5, a6, a7, a8, a9, b1, b2, b3, b4, b5, b6, b7).1 (fun x0 => nm (a1, a2, a3, a4, a5, a6, a7, a8, a9, b1, b2, b3, b4, b5, b6, b7).2.1 (fun x1 => nm (a1, a2, a3, a4, a5, a6, a7, a8, a9, b1, b2, b3, b4, b5, b6, b7).2.2.1 (fun x2 => nm (a1, a2, a3, a4, a5, a6, a7, a8, a9, b1, b2, b3, b4, b5, b6, b7).2.2.2.1 (fun x3 => nm (a1, a2, a3, a4, a5, a6, a7, a8, a9, b1, b2, b3, b4, b5, b6, b7).2.2.2.2.1 (fun x4 => nm (a1, a2, a3, a4, a5, a6, a7, a8, a9, b1, b2, b3, b4, b5, b6, b7).2.2.2.2.2.1 (fun x5 => nm (a1, a2, a3, a4, a5, a6, a7, a8, a9, b1, b2, b3, b4, b5, b6, b7).2.2.2.2.2.2.1 (fun x6 => nm (a1, a2, a3, a4, a5, a6, a7, a8, a9, b1, b2, b3, b4, b5, b6, b7).2.2.2.2.2.2.2.1 (fun x7 => nm (a1, a2, a3, a4, a5, a6, a7, a8, a9, b1, b2, b3, b4, b5, b6, b7).2.2.2.2.2.2.2.2.1 (fun x8 => nm (a1, a2, a3, a4, a5, a6, a7, a8, a9, b1, b2, b3, b4, b5, b6, b7).2.2.2.2.2.2.2.2.2.1 (fun x9 => nm (a1, a2, a3, a4, a5, a6, a7, a8, a9, b1, b2, b3, b4, b5, b6, b7).2.2.2.2.2.2.2.2.2.2.1 (fun x10 => nm (a1, a2, a3, a4, a5, a6, a7, a8, a9, b1, b2, b3, b4, b5, b6, b7).2.2.2.2.2.2.2.2.2.2.2.1 (fun x11 => nm (a1, a2, a3, a4, a5, a6, a7, a8, a9, b1, b2, b3, b4, b5, b6, b7).2.2.2.2.2.2.2.2.2.2.2.2.1 (fun x12 => nm (a1, a2, a3, a4, a5, a6, a7, a8, a9, b1, b2, b3, b4, b5, b6, b7).2.2.2.2.2.2.2.2.2.2.2.2.2.1 (fun x13 => nm (a1, a2, a3, a4, a5, a6, a7, a8, a9, b1, b2, b3, b4, b5, b6, b7).2.2.2.2.2.2.2.2.2.2.2.2.2.2.1 (fun x14 => nm (a1, a2, a3, a4, a5, a6, a7, a8, a9, b1, b2, b3, b4, b5, b6, b7).2.2.2.2.2.2.2.2.2.2.2.2.2.2.2 (fun x15 => K x0 x1 x2 x3 x4 x5 x6 x7 x8 x9 x10 x11 x12 x13 x14 x15)))))))))))))))) = some r) : K a1 a2 a3 a4 a5 a6 a7 a8 a9 b1 b2 b3 b4 b5 b6 b7 = some r := h
def swAll (x : Int32) : List Int32 → Prop
  | [] => True
  | k :: L => ¬ x = k ∧ swAll x L
theorem swAll_in {x : Int32} : ∀ {L : List Int32} {k : Int32}, swAll x L → k ∈ L → ¬ x = k
  | [], _, _, h => absurd h List.not_mem_nil
  | a :: L, k, h, hk => by
    rcases List.mem_cons.mp hk with rfl | q
    · exact h.1
    · exact swAll_in h.2 q
theorem z_swl {x : Int32} {hi : Int} (L : List Int32) (h : swAll x L) (hd : ((List.range (hi.toNat + 1)).all fun j => decide (nI j ∈ L)) = true) : ∀ j : Nat, (j : Int) ≤ hi → ¬ x = nI j := by
  intro j hj
  have h1 := List.all_eq_true.mp hd j (List.mem_range.mpr (by omega))
  exact swAll_in h (of_decide_eq_true h1)
theorem z_sp {β : Type} {c1 : Prop} [Decidable c1] {a1 b1 : Option β} {res : β} {P : Prop} (hm : (if c1 then a1 else b1) = some res) (ka : c1 → a1 = some res → P) (kb : ¬ c1 → b1 = some res → P) : P := by
  by_cases h : c1
  · exact ka h ((if_el hm).1 h)
  · exact kb h ((if_el hm).2 h)
/-! The tables' good words, the nest's links and the static arrays. -/
def TB : List Cond := lw_tbl.filter goodWord
theorem tb_in {w : Cond} (i : Nat) (h : lw_tbl[i]? = some w) (hg : goodWord w = true) : w ∈ TB := List.mem_filter.mpr ⟨List.mem_of_getElem? h, hg⟩
theorem tb_good {y : MethodName} {b : ByteArray} {n : Nat} {r : Option FieldType} (h : Cond.code y b n r ∈ TB) : GoodIn TB (Cond.code y b n r :: TB) := by
  intro w hw
  have h1 : w ∈ TB := by
    rcases List.mem_cons.mp hw with rfl | q
    · exact h
    · exact q
  exact ⟨h1, good_of_word (List.mem_filter.mp h1).2⟩

def zb {β : Type} (x : Int32) (k : Option β) : Option β := if x = 0 ∨ x = 1 then k else none
theorem zb_el {β : Type} {x : Int32} {k : Option β} {r : β} (h : zb x k = some r) : narrow .boolean (.int x) = .int x ∧ k = some r := by
  unfold zb at h
  split at h
  · rename_i h0
    refine ⟨?_, h⟩
    rcases h0 with rfl | rfl <;> rfl
  · cases h
def nestWs : List Cond := [.methodLinkNest "DeepChannel" 9 ⟨"DeepChannel$Shape", "<init>", "()V"⟩ "DeepChannel", .fieldLinkNest "DeepChannel$Words" 66 "DeepChannel$Shape" "depth" "I" "DeepChannel", .fieldLinkNest "DeepChannel$Receiver" 71 "DeepChannel$Shape" "depth" "I" "DeepChannel", .fieldLinkNest "DeepChannel$Words" 72 "DeepChannel$Shape" "wordBytes" "I" "DeepChannel", .fieldLinkNest "DeepChannel$Words" 44 "DeepChannel$Shape" "e" "I" "DeepChannel", .fieldLinkNest "DeepChannel$Coder" 48 "DeepChannel$Shape" "pattern" "I" "DeepChannel", .fieldLinkNest "DeepChannel$Receiver" 82 "DeepChannel$Shape" "pattern" "I" "DeepChannel", .methodLinkNest "DeepChannel" 37 ⟨"DeepChannel$BitRow", "<init>", "()V"⟩ "DeepChannel", .methodLinkNest "DeepChannel$Receiver" 20 ⟨"DeepChannel$BitRow", "<init>", "()V"⟩ "DeepChannel", .methodLinkNest "DeepChannel$Sender" 59 ⟨"DeepChannel", "checkOf", "([III)I"⟩ "DeepChannel", .methodLinkNest "DeepChannel$Receiver" 91 ⟨"DeepChannel", "mirrored", "(JI)I"⟩ "DeepChannel", .methodLinkNest "DeepChannel$Receiver" 135 ⟨"DeepChannel", "checkOf", "([III)I"⟩ "DeepChannel"]
def stO (j : Nat) : Int32 := [123, 175, 153, 250, 134, 236, 239, 141].getD j 0
def stP (j : Nat) : Int32 := [1, 2, 3, 5, 7].getD j 0
def stF (j : Nat) : Int32 := [1, 2, 5, 21, 69].getD j 0
def stS (j : Nat) : Int32 := [1, 3, 6, 26, 122].getD j 0
/-- what every method is given beside its cells: the nest's links, and the four static arrays, which lie outside of A -/
def EX (tt : Nat → Nat) (A : Nat → Prop) (U : State) : Prop := (∀ w ∈ nestWs, va_Nw w U) ∧
  (va_Z "DeepChannel$Field" "OTHER_FORM_OF_BIT" "[I" (.ref (tt 0)) A U U.heap ∧ va_T .int (tt 0) 8 (fun j => .int (stO j)) A U U.heap) ∧
  (va_Z "DeepChannel$Coder" "PERIODS" "[I" (.ref (tt 1)) A U U.heap ∧ va_T .int (tt 1) 5 (fun j => .int (stP j)) A U U.heap) ∧
  (va_Z "DeepChannel$Coder" "FIRST_KEPT" "[I" (.ref (tt 2)) A U U.heap ∧ va_T .int (tt 2) 5 (fun j => .int (stF j)) A U U.heap) ∧
  (va_Z "DeepChannel$Coder" "SECOND_KEPT" "[I" (.ref (tt 3)) A U U.heap ∧ va_T .int (tt 3) 5 (fun j => .int (stS j)) A U U.heap)
theorem nest_warm {s U : State} (hW : s.WarmedH U.vm) (h : ∀ w ∈ nestWs, va_Nw w s) : ∀ w ∈ nestWs, va_Nw w U := by
  intro w hw
  have h1 := h w hw
  simp only [nestWs, List.mem_cons, List.not_mem_nil, or_false] at hw
  rcases hw with rfl | rfl | rfl | rfl | rfl | rfl | rfl | rfl | rfl | rfl | rfl | rfl <;> first | exact va_Nw.warmF hW h1 | exact va_Nw.warmM hW h1
theorem nest_same {u U : State} (hv : u.vm = U.vm) (h : ∀ w ∈ nestWs, va_Nw w u) : ∀ w ∈ nestWs, va_Nw w U := by
  intro w hw
  have h1 := h w hw
  simp only [nestWs, List.mem_cons, List.not_mem_nil, or_false] at hw
  rcases hw with rfl | rfl | rfl | rfl | rfl | rfl | rfl | rfl | rfl | rfl | rfl | rfl <;> exact va_Nw.same rfl hv h1
theorem ex_one {C n d : String} {t N : Nat} {f : Nat → Value} {A B : Nat → Prop} {s U : State} {H : Heap} {locs : List Loc} (h : va_Z C n d (.ref t) A s s.heap ∧ va_T .int t N f A s s.heap) (hS : va_S A s.heap H locs) (hAB : ∀ q, B q → A q) (hU : U.heap = H) (hW : s.WarmedH U.vm) :
    va_Z C n d (.ref t) B U U.heap ∧ va_T .int t N f B U U.heap := by
  rw [hU]
  exact ⟨((h.1.kept hS.2.1).narrow hAB).moved hW.alike, ((h.2.kept hS.2.1).narrow hAB).moved hW.alike⟩
theorem EX.call {tt : Nat → Nat} {A B : Nat → Prop} {s U : State} {H : Heap} {locs : List Loc} (h : EX tt A s) (hS : va_S A s.heap H locs) (hAB : ∀ q, B q → A q) (hU : U.heap = H) (hW : s.WarmedH U.vm) : EX tt B U :=
  ⟨nest_warm hW h.1, ex_one h.2.1 hS hAB hU hW, ex_one h.2.2.1 hS hAB hU hW, ex_one h.2.2.2.1 hS hAB hU hW, ex_one h.2.2.2.2 hS hAB hU hW⟩
theorem EX.calling {tt : Nat → Nat} {A : Nat → Prop} {U : State} {g : JFrame} {mk : MethodId} {a : Array Value} (h : EX tt A U) : EX tt A (U.calling g mk a) :=
  ⟨nest_same (u := U) (U := U.calling g mk a) rfl h.1, ⟨va_Z.moved (u := U) (U := U.calling g mk a) (Vm.Alike.refl U.vm) h.2.1.1, va_T.moved (u := U) (U := U.calling g mk a) (Vm.Alike.refl U.vm) h.2.1.2⟩, ⟨va_Z.moved (u := U) (U := U.calling g mk a) (Vm.Alike.refl U.vm) h.2.2.1.1, va_T.moved (u := U) (U := U.calling g mk a) (Vm.Alike.refl U.vm) h.2.2.1.2⟩, ⟨va_Z.moved (u := U) (U := U.calling g mk a) (Vm.Alike.refl U.vm) h.2.2.2.1.1, va_T.moved (u := U) (U := U.calling g mk a) (Vm.Alike.refl U.vm) h.2.2.2.1.2⟩, ⟨va_Z.moved (u := U) (U := U.calling g mk a) (Vm.Alike.refl U.vm) h.2.2.2.2.1, va_T.moved (u := U) (U := U.calling g mk a) (Vm.Alike.refl U.vm) h.2.2.2.2.2⟩⟩
/-- a method's start, and its end -/
abbrev tys2 (cI cJ : ClassId) : List (ClassId × FieldType) := [(cI, .int), (cJ, .long)]
def PCx (D : va_G) (cI cJ : ClassId) (tt : Nat → Nat) (ws : va_W) (sz : Nat) : State → Prop := fun U => U.heap.size = sz ∧ va_P D classes ws U.heap ∧ va_K D classes (tys2 cI cJ) U ∧ va_D (fun _ => True) ws ∧ EX tt (va_A ws sz) U
def POx (D : va_G) (cI cJ : ClassId) (ws' : va_W) (A : Nat → Prop) : State → Prop := fun t => va_P D classes ws' t.heap ∧ va_K D classes (tys2 cI cJ) t ∧ va_D A ws'
theorem PCx.blind {D : va_G} {cI cJ : ClassId} {tt : Nat → Nat} {ws : va_W} {sz : Nat} {av : List Value} : FrameBlind (va_Pc av (PCx D cI cJ tt ws sz)) := fun a U g mk q => by
  obtain ⟨q0, q1, qP, qK, qD, qE⟩ := q
  exact ⟨q0, q1, qP, va_K.moved (u := U) (U := U.calling g mk a) (Vm.Alike.refl U.vm) qK, qD, qE.calling⟩
abbrev WD (y : MethodName) (b : ByteArray) (n : Nat) (r : Option FieldType) : List Cond := Cond.code y b n r :: TB
def CTi (l : Launch) (y : MethodName) (b : ByteArray) (n : Nat) (r : Option FieldType) (rm : Room) (D : va_G) (cI cJ : ClassId) (tt : Nat → Nat) (av : List Value) (wc wc' : va_W) (sz : Nat) (v : Int32) : Prop :=
  Met l y (WD y b n r) rm (va_Pc av (PCx D cI cJ tt wc sz)) (va_Qi (fun (r' : Int32) (_ : Unit) => r' = v) (fun _ t => POx D cI cJ wc' (va_A wc sz) t) (va_A wc sz)) 0 0 (va_A wc sz)
def CTl (l : Launch) (y : MethodName) (b : ByteArray) (n : Nat) (r : Option FieldType) (rm : Room) (D : va_G) (cI cJ : ClassId) (tt : Nat → Nat) (av : List Value) (wc wc' : va_W) (sz : Nat) (v : Int64) : Prop :=
  Met l y (WD y b n r) rm (va_Pc av (PCx D cI cJ tt wc sz)) (va_Ql (fun (r' : Int64) (_ : Unit) => r' = v) (fun _ t => POx D cI cJ wc' (va_A wc sz) t) (va_A wc sz)) 0 0 (va_A wc sz)
def CTv (l : Launch) (y : MethodName) (b : ByteArray) (n : Nat) (r : Option FieldType) (rm : Room) (D : va_G) (cI cJ : ClassId) (tt : Nat → Nat) (av : List Value) (wc wc' : va_W) (sz : Nat) : Prop :=
  Met l y (WD y b n r) rm (va_Pc av (PCx D cI cJ tt wc sz)) (va_Qv (fun (_ : Unit) => True) (fun _ t => POx D cI cJ wc' (va_A wc sz) t) (va_A wc sz)) 0 0 (va_A wc sz)
/-- what the tables say of a method that is called: an instance method of class C; a static one -/
def OKv (y : MethodName) (b : ByteArray) (n : Nat) (r : Option FieldType) (C : String) (k : Nat) : Prop := Cond.code y b n r ∈ TB ∧ Cond.instanceMethod y ∈ TB ∧ Cond.selects C y y ∈ TB ∧ Cond.initialized y.cls ∈ TB ∧ (y.cls ≠ "java/lang/invoke/MethodHandle" ∧ y.cls ≠ "java/lang/invoke/VarHandle" ∧ (parseMethodDescriptor y.desc).map (fun d => d.parameters.length) = some k)
def OKs (y : MethodName) (b : ByteArray) (n : Nat) (r : Option FieldType) (k : Nat) : Prop := Cond.code y b n r ∈ TB ∧ Cond.static y ∈ TB ∧ Cond.initialized y.cls ∈ TB ∧ (y.cls ≠ "java/lang/invoke/MethodHandle" ∧ y.cls ≠ "java/lang/invoke/VarHandle" ∧ (parseMethodDescriptor y.desc).map (fun d => d.parameters.length) = some k)
abbrev RM (f lo : Nat) : Room := { frames := f, cells := 0, slots := 0, locals := lo }
section ZR
variable {p : Program} {l : Launch} {e : Env} {R : Room} {s : State} {m : MethodId} {args : Array Value} {below : List Frame} {meth : Method} {c : Code} {H : Heap} {locs : List Loc} {cells slots : Nat} {Q : State → Prop}
variable {cc : ByteArray} {pc : Nat} {ls : Array Slot} {rest : List Value} {D : va_G} {cI cJ : ClassId} {tt : Nat → Nat} {A : Nat → Prop} {a : Nat} {ws : va_W} {nL : Nat} {own : String} {β : Type} {res : β}
theorem z_nmi {x : Int32} {K : Int32 → Option β} (hm : nm x K = some res) (k : ∀ y, K y = some res → W p l e R s m args below meth c H locs cells slots Q (F0 m pc ls (.int y :: rest))) : W p l e R s m args below meth c H locs cells slots Q (F0 m pc ls (.int x :: rest)) := k x hm
theorem z_nml {x : Int64} {K : Int64 → Option β} (hm : nm x K = some res) (k : ∀ y, K y = some res → W p l e R s m args below meth c H locs cells slots Q (F0 m pc ls (.long y :: rest))) : W p l e R s m args below meth c H locs cells slots Q (F0 m pc ls (.long x :: rest)) := k x hm
theorem z_if {c1 : Prop} [Decidable c1] {a1 b1 : Option β} {P P1 P2 : Prop} (hm : (if c1 then a1 else b1) = some res) (row : (c1 → P1) → (¬ c1 → P2) → P) (ka : a1 = some res → P1) (kb : b1 = some res → P2) : P := row (fun q => ka ((if_el hm).1 q)) (fun q => kb ((if_el hm).2 q))
theorem z_ifn {c1 : Prop} [Decidable c1] {a1 b1 : Option β} {P P1 P2 : Prop} (hm : (if c1 then a1 else b1) = some res) (row : (¬ c1 → P2) → (c1 → P1) → P) (ka : a1 = some res → P1) (kb : b1 = some res → P2) : P := row (fun q => kb ((if_el hm).2 q)) (fun q => ka ((if_el hm).1 q))
theorem z_swin {x k : Int32} {dflt lo hi : Int} {offs : Array Int} {len : Nat} {off : Int} {tgt : Nat} (hk : x = k) (hexec : p.tables.exec = Jvm.exec) (hb : c.code = cc) (hdg : decode cc pc = .ok (.tableswitch dflt lo hi offs, len)) (h1 : ¬ k.toInt < lo) (h2 : ¬ hi < k.toInt) (ho : offs[(k.toInt - lo).toNat]? = some off) (ht : (pc : Int) + off = (tgt : Int)) (kk : W p l e R s m args below meth c H locs cells slots Q (F0 m tgt ls rest)) : W p l e R s m args below meth c H locs cells slots Q (F0 m pc ls (.int x :: rest)) := by
  subst hk
  exact lv_tableIn hexec hb hdg h1 h2 ho ht kk
theorem z_swout {x : Int32} {dflt hi : Int} {offs : Array Int} {len : Nat} {tgt : Nat} (h : ∀ j : Nat, (j : Int) ≤ hi → ¬ x = nI j) (hh : hi < 1000) (hexec : p.tables.exec = Jvm.exec) (hb : c.code = cc) (hdg : decode cc pc = .ok (.tableswitch dflt 0 hi offs, len)) (ht : (pc : Int) + dflt = (tgt : Int)) (kk : W p l e R s m args below meth c H locs cells slots Q (F0 m tgt ls rest)) : W p l e R s m args below meth c H locs cells slots Q (F0 m pc ls (.int x :: rest)) := by
  refine lv_tableOut hexec hb hdg ?_ ht kk
  by_cases h0 : x.toInt < 0
  · exact Or.inl h0
  · refine Or.inr ?_
    apply Int.not_le.mp
    intro hle
    have h1 : ¬ x < 0 := fun q => h0 (by simpa using Int32.lt_iff_toInt_lt.mp q)
    obtain ⟨j, hj, rfl⟩ := nI_of h1
    rw [nI_toInt hj] at hle
    exact h j hle rfl
theorem z_iald {f : Nat → Int32} {n : Nat} {i : Int32} {K : Int32 → Option β} (hm : rdI f n i K = some res) (hexec : p.tables.exec = Jvm.exec) (hb : c.code = cc) (hK : va_K D classes (tys2 cI cJ) s) (hP : va_P D classes ws H) (q0 : Nat) (ha : ws[q0]? = some (a, .inl (cI, n, .inl f))) (hdg : decode cc pc = .ok (.iaload, 1))
    (kk : ∀ v, K v = some res → W p l e R s m args below meth c H locs cells slots Q (F0 m (pc + 1) ls (.int v :: rest))) : W p l e R s m args below meth c H locs cells slots Q (F0 m pc ls (.int i :: .ref a :: rest)) :=
  va_iald hexec hb hK hP q0 0 ha rfl (rdI_el hm).1 hdg (kk _ (rdI_el hm).2)
theorem z_lald {f : Nat → Int64} {n : Nat} {i : Int32} {K : Int64 → Option β} (hm : rdL f n i K = some res) (hexec : p.tables.exec = Jvm.exec) (hb : c.code = cc) (hK : va_K D classes (tys2 cI cJ) s) (hP : va_P D classes ws H) (q0 : Nat) (ha : ws[q0]? = some (a, .inl (cJ, n, .inr (.inl f)))) (hdg : decode cc pc = .ok (.laload, 1))
    (kk : ∀ v, K v = some res → W p l e R s m args below meth c H locs cells slots Q (F0 m (pc + 1) ls (.long v :: rest))) : W p l e R s m args below meth c H locs cells slots Q (F0 m pc ls (.int i :: .ref a :: rest)) :=
  va_lald hexec hb hK hP q0 1 ha rfl (rdL_el hm).1 hdg (kk _ (rdL_el hm).2)
theorem z_iast {f : Nat → Int32} {n : Nat} {i x : Int32} {K : (Nat → Int32) → Option β} (hm : wrI f n i x K = some res) (hexec : p.tables.exec = Jvm.exec) (hb : c.code = cc) (hK : va_K D classes (tys2 cI cJ) s) (hP : va_P D classes ws H) (hD : va_D A ws) (hS : va_S A s.heap H locs) (q0 : Nat) (ha : ws[q0]? = some (a, .inl (cI, n, .inl f))) (hdg : decode cc pc = .ok (.iastore, 1))
    (kk : ∀ g, K g = some res → ∀ (H1 : Heap) (locs1 : List Loc), va_P D classes (ws.set q0 (a, .inl (cI, n, .inl g))) H1 → va_D A (ws.set q0 (a, .inl (cI, n, .inl g))) → va_S A s.heap H1 locs1 → W p l e R s m args below meth c H1 locs1 cells slots Q (F0 m (pc + 1) ls rest)) : W p l e R s m args below meth c H locs cells slots Q (F0 m pc ls (.int x :: .int i :: .ref a :: rest)) :=
  va_iast hexec hb hK hP hD hS q0 0 ha rfl (wrI_el hm).1 hdg (kk _ (wrI_el hm).2)
theorem z_last {f : Nat → Int64} {n : Nat} {i : Int32} {x : Int64} {K : (Nat → Int64) → Option β} (hm : wrL f n i x K = some res) (hexec : p.tables.exec = Jvm.exec) (hb : c.code = cc) (hK : va_K D classes (tys2 cI cJ) s) (hP : va_P D classes ws H) (hD : va_D A ws) (hS : va_S A s.heap H locs) (q0 : Nat) (ha : ws[q0]? = some (a, .inl (cJ, n, .inr (.inl f)))) (hdg : decode cc pc = .ok (.lastore, 1))
    (kk : ∀ g, K g = some res → ∀ (H1 : Heap) (locs1 : List Loc), va_P D classes (ws.set q0 (a, .inl (cJ, n, .inr (.inl g)))) H1 → va_D A (ws.set q0 (a, .inl (cJ, n, .inr (.inl g)))) → va_S A s.heap H1 locs1 → W p l e R s m args below meth c H1 locs1 cells slots Q (F0 m (pc + 1) ls rest)) : W p l e R s m args below meth c H locs cells slots Q (F0 m pc ls (.long x :: .int i :: .ref a :: rest)) :=
  va_last hexec hb hK hP hD hS q0 1 ha rfl (wrL_el hm).1 hdg (kk _ (wrL_el hm).2)
theorem z_irem {x y : Int32} {K : Option β} (hm : dv y K = some res) (hexec : p.tables.exec = Jvm.exec) (hb : c.code = cc) (hdg : decode cc pc = .ok (.irem, 1)) (k : K = some res → W p l e R s m args below meth c H locs cells slots Q (F0 m (pc + 1) ls (.int (x - x / y * y) :: rest))) : W p l e R s m args below meth c H locs cells slots Q (F0 m pc ls (.int y :: .int x :: rest)) :=
  lv_irem hexec hb hdg (dv_el hm).1 (k (dv_el hm).2)
theorem z_tI {C n d : String} {t N : Nat} {f : Nat → Int32} {i : Int32} {K : Int32 → Option β} (hm : rdI f N i K = some res) (hexec : p.tables.exec = Jvm.exec) (hb : c.code = cc) (hT : va_Z C n d (.ref t) A s s.heap ∧ va_T .int t N (fun j => .int (f j)) A s s.heap) (hS : va_S A s.heap H locs) (hdg : decode cc pc = .ok (.iaload, 1))
    (kk : ∀ v, K v = some res → W p l e R s m args below meth c H locs cells slots Q (F0 m (pc + 1) ls (.int v :: rest))) : W p l e R s m args below meth c H locs cells slots Q (F0 m pc ls (.int i :: .ref t :: rest)) :=
  va_ti hexec hb hT.2 hS (rdI_el hm).1 rfl hdg (kk _ (rdI_el hm).2)
theorem z_gets {C n d : String} {t N index : Nat} {f : Nat → Value} (hT : va_Z C n d (.ref t) A s s.heap ∧ va_T .int t N f A s s.heap) (hexec : p.tables.exec = Jvm.exec) (hb : c.code = cc) (hS : va_S A s.heap H locs) (hown : s.vm.findClass own = some m.cls) (hts : ∀ w ∈ TB, w.before args s = true) (hlink : Cond.fieldLink own index C n d ∈ TB) (hdg : decode cc pc = .ok (.getstatic index, 3))
    (kk : W p l e R s m args below meth c H locs cells slots Q (F0 m (pc + 3) ls (.ref t :: rest))) : W p l e R s m args below meth c H locs cells slots Q (F0 m pc ls rest) :=
  va_gets hexec hb hT.1 hS hown (hts _ hlink) (fun _ h => h) hdg kk
theorem z_cpI {f g : Nat → Int32} {nf ng : Nat} {sp dp n : Int32} {a0 index : Nat} {K : (Nat → Int32) → Option β} (hm : cpI f nf g ng sp dp n K = some res) (hexec : p.tables.exec = Jvm.exec) (hb : c.code = cc) (hml : c.maxLocals = nL) (hsz : ls.size = nL) (hown : s.vm.findClass own = some m.cls) (hts : ∀ w ∈ TB, w.before args s = true) (hlink : Cond.methodLink own index arraycopyName ∈ TB) (hnat : Cond.native arraycopyName ∈ TB) (hstat : Cond.static arraycopyName ∈ TB) (hini : Cond.initialized "java/lang/System" ∈ TB)
    (hK : va_K D classes (tys2 cI cJ) s) (hP : va_P D classes ws H) (hD : va_D A ws) (hS : va_S A s.heap H locs) (q0 q1 : Nat) (ha0 : ws[q0]? = some (a0, .inl (cI, nf, .inl f))) (ha1 : ws[q1]? = some (a, .inl (cI, ng, .inl g))) (hframes : 1 ≤ R.frames) (hlocals : (rest.map fun v => v.category).sum + (nativeFrameWords "java/lang/System" "arraycopy" 5 + 11) ≤ R.locals) (hdg : decode cc pc = .ok (.invokestatic index, 3))
    (kk : ∀ g', K g' = some res → ∀ (H1 : Heap) (locs1 : List Loc), va_P D classes (ws.set q1 (a, .inl (cI, ng, .inl g'))) H1 → va_D A (ws.set q1 (a, .inl (cI, ng, .inl g'))) → va_S A s.heap H1 locs1 → W p l e R s m args below meth c H1 locs1 cells slots Q (F0 m (pc + 3) ls rest)) : W p l e R s m args below meth c H locs cells slots Q (F0 m pc ls (.int n :: .int dp :: .ref a :: .int sp :: .ref a0 :: rest)) := by
  obtain ⟨⟨h1, h2, h3, h4, h5⟩, h6⟩ := cpI_el hm
  exact va_copyi hexec hb (hml.trans hsz.symm) hown (hts _ hlink) (hts _ hnat) (hts _ hstat) (hts _ hini) hK hP hD hS q0 q1 0 0 ha0 ha1 rfl rfl rfl h1 h2 h3 h4 h5 (fun _ _ => rfl) hframes hlocals hdg (kk _ h6)
theorem z_entry {vs : List Value} {n : Nat} (h : args = vs.toArray) (hn : (lg_sl vs).length ≤ n) (k : ∀ ls, lv_has ls n (lv_args 0 vs) → W p l e R s m args below meth c H locs cells slots Q (F0 m 0 ls [])) : W p l e R s m args below meth c H locs cells slots Q (entryFrame m args n) := by
  have he : entryFrame m args n = F0 m 0 ((lg_sl vs ++ List.replicate (n - (lg_sl vs).length) Slot.unset).toArray) [] := by rw [h]; exact lg_entry_eq m vs n
  rw [he]
  exact k _ (lv_entry vs hn)
theorem z_qi {Q1 : State → Prop} {g : JFrame} (k : ∀ Q0, Q0 = Q1 → W p l e R s m args below meth c H locs cells slots Q0 g) : W p l e R s m args below meth c H locs cells slots Q1 g := k _ rfl
theorem z_qo {Q0 Q1 : State → Prop} {g : JFrame} (h : Q0 = Q1) (k : W p l e R s m args below meth c H locs cells slots Q1 g) : W p l e R s m args below meth c H locs cells slots Q0 g := by rw [h]; exact k
theorem z_ireti {v : Int32} (hr : meth.sig.returnType = some .int) (hexec : p.tables.exec = Jvm.exec) (hb : c.code = cc) (hlocks : meth.locks = false) (hK : va_K D classes (tys2 cI cJ) s) (hP : va_P D classes ws H) (hD : va_D A ws) (hS : va_S A s.heap H locs) (hdg : decode cc pc = .ok (.ireturn, 1)) :
    W p l e R s m args below meth c H locs cells slots (MQ below (va_Qi (fun (r' : Int32) (_ : Unit) => r' = v) (fun _ t => POx D cI cJ ws A t) A) args s cells slots A) (F0 m pc ls [.int v]) :=
  W.iret (v := v) hexec hb hr (fun t ht hW => ⟨⟨v, (), rfl, rfl, by rw [ht]; exact hP, va_K.moved hW.alike hK, hD⟩, hS.F ht⟩) hS.2.2 hdg hlocks
theorem z_iretz {v : Int32} (hn : narrow .boolean (.int v) = .int v) (hr : meth.sig.returnType = some .boolean) (hexec : p.tables.exec = Jvm.exec) (hb : c.code = cc) (hlocks : meth.locks = false) (hK : va_K D classes (tys2 cI cJ) s) (hP : va_P D classes ws H) (hD : va_D A ws) (hS : va_S A s.heap H locs) (hdg : decode cc pc = .ok (.ireturn, 1)) :
    W p l e R s m args below meth c H locs cells slots (MQ below (va_Qi (fun (r' : Int32) (_ : Unit) => r' = v) (fun _ t => POx D cI cJ ws A t) A) args s cells slots A) (F0 m pc ls [.int v]) :=
  W.zret (v := v) hexec hb hr hn (fun t ht hW => ⟨⟨v, (), rfl, rfl, by rw [ht]; exact hP, va_K.moved hW.alike hK, hD⟩, hS.F ht⟩) hS.2.2 hdg hlocks
theorem z_lret {v : Int64} (hr : meth.sig.returnType = some .long) (hexec : p.tables.exec = Jvm.exec) (hb : c.code = cc) (hlocks : meth.locks = false) (hK : va_K D classes (tys2 cI cJ) s) (hP : va_P D classes ws H) (hD : va_D A ws) (hS : va_S A s.heap H locs) (hdg : decode cc pc = .ok (.lreturn, 1)) :
    W p l e R s m args below meth c H locs cells slots (MQ below (va_Ql (fun (r' : Int64) (_ : Unit) => r' = v) (fun _ t => POx D cI cJ ws A t) A) args s cells slots A) (F0 m pc ls [.long v]) :=
  W.lret (v := v) hexec hb hr (fun t ht hW => ⟨⟨v, (), rfl, rfl, by rw [ht]; exact hP, va_K.moved hW.alike hK, hD⟩, hS.F ht⟩) hS.2.2 hdg hlocks
theorem z_vret (hr : meth.sig.returnType = none) (hexec : p.tables.exec = Jvm.exec) (hb : c.code = cc) (hlocks : meth.locks = false) (hK : va_K D classes (tys2 cI cJ) s) (hP : va_P D classes ws H) (hD : va_D A ws) (hS : va_S A s.heap H locs) (hdg : decode cc pc = .ok (.return_, 1)) :
    W p l e R s m args below meth c H locs cells slots (MQ below (va_Qv (fun (_ : Unit) => True) (fun _ t => POx D cI cJ ws A t) A) args s cells slots A) (F0 m pc ls []) :=
  W.vret hexec hb hr (fun t ht hW => ⟨⟨(), rfl, trivial, by rw [ht]; exact hP, va_K.moved hW.alike hK, hD⟩, hS.F ht⟩) hS.2.2 hdg hlocks
theorem tb_all {ws1 : List Cond} (h : ∀ w ∈ ws1, w ∈ TB) : GoodIn TB ws1 := fun w hw => ⟨h w hw, good_of_word (List.mem_filter.mp (h w hw)).2⟩
variable {st0 : List Value} {wc wc' wr : va_W} {aa : Array Value}
theorem z_afi {v : Int32} (hr : va_Run p l e R s m args below meth c H locs cells slots 0 0 (F0 m pc ls st0) rest (va_Qi (fun (r' : Int32) (_ : Unit) => r' = v) (fun _ t => POx D cI cJ wc' (va_A wc H.size) t) (va_A wc H.size) aa) (va_A wc H.size))
    (hP : va_P D classes ws H) (hD : va_D A ws) (hS : va_S A s.heap H locs) (hA : ∀ q, s.heap.size ≤ q → A q) (isC isR : List Nat) (hC : isC.map (fun i => ws[i]?) = wc.map some) (hR : isR.map (fun i => ws[i]?) = wr.map some) (hn : va_nd isR = true) (hdis : ∀ i ∈ isR, i ∉ isC)
    (kk : ∀ (H1 : Heap) (locs1 : List Loc), va_P D classes (wr ++ wc') H1 → va_D A (wr ++ wc') → va_S A s.heap H1 locs1 → W p l e R s m args below meth c H1 locs1 cells slots Q (F0 m (pc + 3) ls (.int v :: rest))) : W p l e R s m args below meth c H locs cells slots Q (F0 m pc ls st0) := by
  have hFc := va_free (wc := wc) hD hS hA isC hC
  refine va_calli hr hS (fun q _ h => hFc q h) hFc (fun r u t H1 locs1 ht hvm hw hB hz1 hk1 hS1 => ?_)
  obtain ⟨hP1, hK1, hD1⟩ := hB
  rw [ht] at hP1
  obtain ⟨hP2, hD2⟩ := va_join hP hD isC isR hC hR hn hdis hk1 hFc hP1 hD1
  subst hw
  exact kk H1 locs1 hP2 hD2 hS1
theorem z_afl {v : Int64} (hr : va_Run p l e R s m args below meth c H locs cells slots 0 0 (F0 m pc ls st0) rest (va_Ql (fun (r' : Int64) (_ : Unit) => r' = v) (fun _ t => POx D cI cJ wc' (va_A wc H.size) t) (va_A wc H.size) aa) (va_A wc H.size))
    (hP : va_P D classes ws H) (hD : va_D A ws) (hS : va_S A s.heap H locs) (hA : ∀ q, s.heap.size ≤ q → A q) (isC isR : List Nat) (hC : isC.map (fun i => ws[i]?) = wc.map some) (hR : isR.map (fun i => ws[i]?) = wr.map some) (hn : va_nd isR = true) (hdis : ∀ i ∈ isR, i ∉ isC)
    (kk : ∀ (H1 : Heap) (locs1 : List Loc), va_P D classes (wr ++ wc') H1 → va_D A (wr ++ wc') → va_S A s.heap H1 locs1 → W p l e R s m args below meth c H1 locs1 cells slots Q (F0 m (pc + 3) ls (.long v :: rest))) : W p l e R s m args below meth c H locs cells slots Q (F0 m pc ls st0) := by
  have hFc := va_free (wc := wc) hD hS hA isC hC
  refine va_calll hr hS (fun q _ h => hFc q h) hFc (fun r u t H1 locs1 ht hvm hw hB hz1 hk1 hS1 => ?_)
  obtain ⟨hP1, hK1, hD1⟩ := hB
  rw [ht] at hP1
  obtain ⟨hP2, hD2⟩ := va_join hP hD isC isR hC hR hn hdis hk1 hFc hP1 hD1
  subst hw
  exact kk H1 locs1 hP2 hD2 hS1
theorem z_afv (hr : va_Run p l e R s m args below meth c H locs cells slots 0 0 (F0 m pc ls st0) rest (va_Qv (fun (_ : Unit) => True) (fun _ t => POx D cI cJ wc' (va_A wc H.size) t) (va_A wc H.size) aa) (va_A wc H.size))
    (hP : va_P D classes ws H) (hD : va_D A ws) (hS : va_S A s.heap H locs) (hA : ∀ q, s.heap.size ≤ q → A q) (isC isR : List Nat) (hC : isC.map (fun i => ws[i]?) = wc.map some) (hR : isR.map (fun i => ws[i]?) = wr.map some) (hn : va_nd isR = true) (hdis : ∀ i ∈ isR, i ∉ isC)
    (kk : ∀ (H1 : Heap) (locs1 : List Loc), va_P D classes (wr ++ wc') H1 → va_D A (wr ++ wc') → va_S A s.heap H1 locs1 → W p l e R s m args below meth c H1 locs1 cells slots Q (F0 m (pc + 3) ls rest)) : W p l e R s m args below meth c H locs cells slots Q (F0 m pc ls st0) := by
  have hFc := va_free (wc := wc) hD hS hA isC hC
  refine va_callv hr hS (fun q _ h => hFc q h) hFc (fun u t H1 locs1 ht hvm hw hB hz1 hk1 hS1 => ?_)
  obtain ⟨hP1, hK1, hD1⟩ := hB
  rw [ht] at hP1
  obtain ⟨hP2, hD2⟩ := va_join hP hD isC isR hC hR hn hdis hk1 hFc hP1 hD1
  exact kk H1 locs1 hP2 hD2 hS1
/-- a callee's start out of the caller's world -/
theorem z_pre {av : List Value} (hK : va_K D classes (tys2 cI cJ) s) (hE : EX tt A s) (hP : va_P D classes ws H) (hD : va_D A ws) (hS : va_S A s.heap H locs) (hA : ∀ q, s.heap.size ≤ q → A q) (isC : List Nat) (hnC : va_nd isC = true) (hC : isC.map (fun i => ws[i]?) = wc.map some) :
    ∀ U : State, U.heap = H → s.WarmedH U.vm → va_Pc av (PCx D cI cJ tt wc H.size) av.toArray U := by
  have at' : ∀ (k : Nat) (q : Nat × va_E), wc[k]? = some q → ∃ i : Nat, ws[i]? = some q := by
    intro k q hq
    have h1 : (isC.map (fun i => ws[i]?))[k]? = some (some q) := by rw [hC, List.getElem?_map, hq]; rfl
    rw [List.getElem?_map] at h1
    cases hi : isC[k]? with
    | none => rw [hi] at h1; cases h1
    | some i => rw [hi] at h1; exact ⟨i, Option.some.inj h1⟩
  intro U hU hW
  have hFc := va_free (wc := wc) hD hS hA isC hC
  refine ⟨rfl, by rw [hU], ?_, va_K.moved hW.alike hK, (hD.sub isC hnC hC).weaken (fun _ _ _ _ => trivial), hE.call hS hFc hU hW⟩
  rw [hU]
  intro k q hk
  obtain ⟨i, hi⟩ := at' k q hk
  exact hP i q hi
theorem z_room {st : List Value} (h : (st.map fun v => v.category).sum ≤ 8) : 2 * (F0 m pc ls st0).monitorRoom + (st.map fun v => v.category).sum ≤ 8 := lv_room h
theorem z_wV {own C : String} {index : Nat} {y : MethodName} {bytes : ByteArray} {maxL : Nat} {ret : Option FieldType} {k : Nat} {rm : Room} (hts : ∀ w ∈ TB, w.before args s = true) (ok : OKv y bytes maxL ret C k) (hyC : y.cls = C) (hl : Cond.methodLink own index y ∈ TB) (hrc : rm.cells = 0) (hrs : rm.slots = 0) (hR : rm.frames + 1 ≤ R.frames ∧ 8 + (maxL + 11) + rm.locals ≤ R.locals) :
    CallW R s args own C index y bytes maxL ret (WD y bytes maxL ret) rm 0 0 k := by
  obtain ⟨h1, h2, h3, h4, h5⟩ := ok
  subst hyC
  refine cwV k hts (tb_all fun w hw => ?_) rfl hrc hrs ⟨rfl, h5⟩ hR
  simp only [wsV, List.mem_append, List.mem_cons, List.not_mem_nil, or_false] at hw
  rcases hw with (rfl | rfl | rfl | rfl) | rfl | hw
  · exact hl
  · exact h2
  · exact h3
  · exact h4
  · exact h1
  · exact hw
theorem z_wS {own : String} {index : Nat} {y : MethodName} {bytes : ByteArray} {maxL : Nat} {ret : Option FieldType} {k : Nat} {rm : Room} (hts : ∀ w ∈ TB, w.before args s = true) (ok : OKs y bytes maxL ret k) (hl : Cond.methodLink own index y ∈ TB) (hrc : rm.cells = 0) (hrs : rm.slots = 0) (hR : rm.frames + 1 ≤ R.frames ∧ 8 + (maxL + 11) + rm.locals ≤ R.locals) :
    CallB R s args own index y bytes maxL ret (WD y bytes maxL ret) rm 0 0 k ∧ (Cond.static y).before args s = true := by
  obtain ⟨h1, h2, h3, h4⟩ := ok
  refine va_cwS k hts (tb_all fun w hw => ?_) rfl hrc hrs h4 hR
  simp only [va_wsS, List.mem_append, List.mem_cons, List.not_mem_nil, or_false] at hw
  rcases hw with (rfl | rfl | rfl) | rfl | hw
  · exact hl
  · exact h2
  · exact h3
  · exact h1
  · exact hw
theorem z_wNS {own host : String} {index : Nat} {y : MethodName} {bytes : ByteArray} {maxL : Nat} {ret : Option FieldType} {k : Nat} {rm : Room} (hts : ∀ w ∈ TB, w.before args s = true) (ok : OKs y bytes maxL ret k) (hl : va_Nw (.methodLinkNest own index y host) s) (hrc : rm.cells = 0) (hrs : rm.slots = 0) (hR : rm.frames + 1 ≤ R.frames ∧ 8 + (maxL + 11) + rm.locals ≤ R.locals) :
    va_CN R s args own index y host bytes maxL ret (WD y bytes maxL ret) rm 0 0 k ∧ (Cond.static y).before args s = true ∧ True := by
  obtain ⟨h1, h2, h3, h4⟩ := ok
  exact ⟨va_cnB k hts (tb_good h1) rfl hrc hrs hl (hts _ h3) h4 hR, hts _ h2, trivial⟩
theorem z_cVi {v : Int32} {y : MethodName} {bytes : ByteArray} {maxL : Nat} {mret : Option FieldType} {rm : Room} {C : String} {index k : Nat} {b : Nat} {As : List Value} {ci : Nat} {fs : List Value} {cq : vw_C}
    (hM : CTi l y bytes maxL mret rm D cI cJ tt (.ref b :: As) wc wc' H.size v) (F : CallFix p m c cc nL s args TB own) (ok : OKv y bytes maxL mret C k) (hyC : y.cls = C) (hl : Cond.methodLink own index y ∈ TB)
    (hK : va_K D classes (tys2 cI cJ) s) (hE : EX tt A s) (hP : va_P D classes ws H) (hD : va_D A ws) (hS : va_S A s.heap H locs) (hA : ∀ q, s.heap.size ≤ q → A q) (isC isR : List Nat) (hC : isC.map (fun i => ws[i]?) = wc.map some) (hR : isR.map (fun i => ws[i]?) = wr.map some) (hnC : va_nd isC = true) (hn : va_nd isR = true) (hdis : ∀ i ∈ isR, i ∉ isC)
    (q0 : Nat) (he : wc[q0]? = some (b, .inr (ci, fs))) (hc : classes[ci]? = some cq) (hcq : cq.1 = C)
    (hrm : rm.cells = 0 ∧ rm.slots = 0 ∧ rm.frames + 1 ≤ R.frames ∧ 8 + (maxL + 11) + rm.locals ≤ R.locals) (hcs : cells ≤ R.cells ∧ slots ≤ R.slots) (hk : As.length = k) (hsize : ls.size = nL) (hst : st0 = As.reverse ++ .ref b :: rest) (hW : (rest.map fun v => v.category).sum ≤ 8) (hdg : decode cc pc = .ok (.invokevirtual index, 3))
    (kk : ∀ (H1 : Heap) (locs1 : List Loc), va_P D classes (wr ++ wc') H1 → va_D A (wr ++ wc') → va_S A s.heap H1 locs1 → W p l e R s m args below meth c H1 locs1 cells slots Q (F0 m (pc + 3) ls (.int v :: rest))) : W p l e R s m args below meth c H locs cells slots Q (F0 m pc ls st0) := by
  have hpc := z_pre (av := .ref b :: As) hK hE hP hD hS hA isC hnC hC
  have hPc : va_P D classes wc H := by
    intro k1 q1 hk1
    have h1 : (isC.map (fun i => ws[i]?))[k1]? = some (some q1) := by rw [hC, List.getElem?_map, hk1]; rfl
    rw [List.getElem?_map] at h1
    cases hi : isC[k1]? with
    | none => rw [hi] at h1; cases h1
    | some i => rw [hi] at h1; exact hP i q1 (Option.some.inj h1)
  obtain ⟨cell, r1, r2, r3⟩ := va_recv hK hPc hc he
  refine z_afi (va_runV (As := As) (rest := rest) F hM (z_wV F.2.2.2.2 ok hyC hl hrm.1 hrm.2.1 hrm.2.2) ⟨PCx.blind, ⟨cell, r1, r2, by rw [← hcq]; exact r3⟩, hpc⟩ rfl hk hsize hst (lv_room hW) hdg hcs) hP hD hS hA isC isR hC hR hn hdis kk
theorem z_cVl {v : Int64} {y : MethodName} {bytes : ByteArray} {maxL : Nat} {mret : Option FieldType} {rm : Room} {C : String} {index k : Nat} {b : Nat} {As : List Value} {ci : Nat} {fs : List Value} {cq : vw_C}
    (hM : CTl l y bytes maxL mret rm D cI cJ tt (.ref b :: As) wc wc' H.size v) (F : CallFix p m c cc nL s args TB own) (ok : OKv y bytes maxL mret C k) (hyC : y.cls = C) (hl : Cond.methodLink own index y ∈ TB)
    (hK : va_K D classes (tys2 cI cJ) s) (hE : EX tt A s) (hP : va_P D classes ws H) (hD : va_D A ws) (hS : va_S A s.heap H locs) (hA : ∀ q, s.heap.size ≤ q → A q) (isC isR : List Nat) (hC : isC.map (fun i => ws[i]?) = wc.map some) (hR : isR.map (fun i => ws[i]?) = wr.map some) (hnC : va_nd isC = true) (hn : va_nd isR = true) (hdis : ∀ i ∈ isR, i ∉ isC)
    (q0 : Nat) (he : wc[q0]? = some (b, .inr (ci, fs))) (hc : classes[ci]? = some cq) (hcq : cq.1 = C)
    (hrm : rm.cells = 0 ∧ rm.slots = 0 ∧ rm.frames + 1 ≤ R.frames ∧ 8 + (maxL + 11) + rm.locals ≤ R.locals) (hcs : cells ≤ R.cells ∧ slots ≤ R.slots) (hk : As.length = k) (hsize : ls.size = nL) (hst : st0 = As.reverse ++ .ref b :: rest) (hW : (rest.map fun v => v.category).sum ≤ 8) (hdg : decode cc pc = .ok (.invokevirtual index, 3))
    (kk : ∀ (H1 : Heap) (locs1 : List Loc), va_P D classes (wr ++ wc') H1 → va_D A (wr ++ wc') → va_S A s.heap H1 locs1 → W p l e R s m args below meth c H1 locs1 cells slots Q (F0 m (pc + 3) ls (.long v :: rest))) : W p l e R s m args below meth c H locs cells slots Q (F0 m pc ls st0) := by
  have hpc := z_pre (av := .ref b :: As) hK hE hP hD hS hA isC hnC hC
  have hPc : va_P D classes wc H := by
    intro k1 q1 hk1
    have h1 : (isC.map (fun i => ws[i]?))[k1]? = some (some q1) := by rw [hC, List.getElem?_map, hk1]; rfl
    rw [List.getElem?_map] at h1
    cases hi : isC[k1]? with
    | none => rw [hi] at h1; cases h1
    | some i => rw [hi] at h1; exact hP i q1 (Option.some.inj h1)
  obtain ⟨cell, r1, r2, r3⟩ := va_recv hK hPc hc he
  refine z_afl (va_runV (As := As) (rest := rest) F hM (z_wV F.2.2.2.2 ok hyC hl hrm.1 hrm.2.1 hrm.2.2) ⟨PCx.blind, ⟨cell, r1, r2, by rw [← hcq]; exact r3⟩, hpc⟩ rfl hk hsize hst (lv_room hW) hdg hcs) hP hD hS hA isC isR hC hR hn hdis kk
theorem z_cVv {y : MethodName} {bytes : ByteArray} {maxL : Nat} {mret : Option FieldType} {rm : Room} {C : String} {index k : Nat} {b : Nat} {As : List Value} {ci : Nat} {fs : List Value} {cq : vw_C}
    (hM : CTv l y bytes maxL mret rm D cI cJ tt (.ref b :: As) wc wc' H.size) (F : CallFix p m c cc nL s args TB own) (ok : OKv y bytes maxL mret C k) (hyC : y.cls = C) (hl : Cond.methodLink own index y ∈ TB)
    (hK : va_K D classes (tys2 cI cJ) s) (hE : EX tt A s) (hP : va_P D classes ws H) (hD : va_D A ws) (hS : va_S A s.heap H locs) (hA : ∀ q, s.heap.size ≤ q → A q) (isC isR : List Nat) (hC : isC.map (fun i => ws[i]?) = wc.map some) (hR : isR.map (fun i => ws[i]?) = wr.map some) (hnC : va_nd isC = true) (hn : va_nd isR = true) (hdis : ∀ i ∈ isR, i ∉ isC)
    (q0 : Nat) (he : wc[q0]? = some (b, .inr (ci, fs))) (hc : classes[ci]? = some cq) (hcq : cq.1 = C)
    (hrm : rm.cells = 0 ∧ rm.slots = 0 ∧ rm.frames + 1 ≤ R.frames ∧ 8 + (maxL + 11) + rm.locals ≤ R.locals) (hcs : cells ≤ R.cells ∧ slots ≤ R.slots) (hk : As.length = k) (hsize : ls.size = nL) (hst : st0 = As.reverse ++ .ref b :: rest) (hW : (rest.map fun v => v.category).sum ≤ 8) (hdg : decode cc pc = .ok (.invokevirtual index, 3))
    (kk : ∀ (H1 : Heap) (locs1 : List Loc), va_P D classes (wr ++ wc') H1 → va_D A (wr ++ wc') → va_S A s.heap H1 locs1 → W p l e R s m args below meth c H1 locs1 cells slots Q (F0 m (pc + 3) ls rest)) : W p l e R s m args below meth c H locs cells slots Q (F0 m pc ls st0) := by
  have hpc := z_pre (av := .ref b :: As) hK hE hP hD hS hA isC hnC hC
  have hPc : va_P D classes wc H := by
    intro k1 q1 hk1
    have h1 : (isC.map (fun i => ws[i]?))[k1]? = some (some q1) := by rw [hC, List.getElem?_map, hk1]; rfl
    rw [List.getElem?_map] at h1
    cases hi : isC[k1]? with
    | none => rw [hi] at h1; cases h1
    | some i => rw [hi] at h1; exact hP i q1 (Option.some.inj h1)
  obtain ⟨cell, r1, r2, r3⟩ := va_recv hK hPc hc he
  refine z_afv (va_runV (As := As) (rest := rest) F hM (z_wV F.2.2.2.2 ok hyC hl hrm.1 hrm.2.1 hrm.2.2) ⟨PCx.blind, ⟨cell, r1, r2, by rw [← hcq]; exact r3⟩, hpc⟩ rfl hk hsize hst (lv_room hW) hdg hcs) hP hD hS hA isC isR hC hR hn hdis kk
theorem z_cSi {v : Int32} {y : MethodName} {bytes : ByteArray} {maxL : Nat} {mret : Option FieldType} {rm : Room} {index k : Nat} {As : List Value}
    (hM : CTi l y bytes maxL mret rm D cI cJ tt As wc wc' H.size v) (F : CallFix p m c cc nL s args TB own) (ok : OKs y bytes maxL mret k) (hl : Cond.methodLink own index y ∈ TB)
    (hK : va_K D classes (tys2 cI cJ) s) (hE : EX tt A s) (hP : va_P D classes ws H) (hD : va_D A ws) (hS : va_S A s.heap H locs) (hA : ∀ q, s.heap.size ≤ q → A q) (isC isR : List Nat) (hC : isC.map (fun i => ws[i]?) = wc.map some) (hR : isR.map (fun i => ws[i]?) = wr.map some) (hnC : va_nd isC = true) (hn : va_nd isR = true) (hdis : ∀ i ∈ isR, i ∉ isC)
    (hrm : rm.cells = 0 ∧ rm.slots = 0 ∧ rm.frames + 1 ≤ R.frames ∧ 8 + (maxL + 11) + rm.locals ≤ R.locals) (hcs : cells ≤ R.cells ∧ slots ≤ R.slots) (hk : As.length = k) (hsize : ls.size = nL) (hst : st0 = As.reverse ++ rest) (hW : (rest.map fun v => v.category).sum ≤ 8) (hdg : decode cc pc = .ok (.invokestatic index, 3))
    (kk : ∀ (H1 : Heap) (locs1 : List Loc), va_P D classes (wr ++ wc') H1 → va_D A (wr ++ wc') → va_S A s.heap H1 locs1 → W p l e R s m args below meth c H1 locs1 cells slots Q (F0 m (pc + 3) ls (.int v :: rest))) : W p l e R s m args below meth c H locs cells slots Q (F0 m pc ls st0) := by
  have hpc := z_pre (av := As) hK hE hP hD hS hA isC hnC hC
  refine z_afi (va_runS (As := As) (rest := rest) F hM (z_wS F.2.2.2.2 ok hl hrm.1 hrm.2.1 hrm.2.2) ⟨PCx.blind, hpc⟩ rfl hk hsize hst (lv_room hW) hdg hcs) hP hD hS hA isC isR hC hR hn hdis kk
theorem z_cSl {v : Int64} {y : MethodName} {bytes : ByteArray} {maxL : Nat} {mret : Option FieldType} {rm : Room} {index k : Nat} {As : List Value}
    (hM : CTl l y bytes maxL mret rm D cI cJ tt As wc wc' H.size v) (F : CallFix p m c cc nL s args TB own) (ok : OKs y bytes maxL mret k) (hl : Cond.methodLink own index y ∈ TB)
    (hK : va_K D classes (tys2 cI cJ) s) (hE : EX tt A s) (hP : va_P D classes ws H) (hD : va_D A ws) (hS : va_S A s.heap H locs) (hA : ∀ q, s.heap.size ≤ q → A q) (isC isR : List Nat) (hC : isC.map (fun i => ws[i]?) = wc.map some) (hR : isR.map (fun i => ws[i]?) = wr.map some) (hnC : va_nd isC = true) (hn : va_nd isR = true) (hdis : ∀ i ∈ isR, i ∉ isC)
    (hrm : rm.cells = 0 ∧ rm.slots = 0 ∧ rm.frames + 1 ≤ R.frames ∧ 8 + (maxL + 11) + rm.locals ≤ R.locals) (hcs : cells ≤ R.cells ∧ slots ≤ R.slots) (hk : As.length = k) (hsize : ls.size = nL) (hst : st0 = As.reverse ++ rest) (hW : (rest.map fun v => v.category).sum ≤ 8) (hdg : decode cc pc = .ok (.invokestatic index, 3))
    (kk : ∀ (H1 : Heap) (locs1 : List Loc), va_P D classes (wr ++ wc') H1 → va_D A (wr ++ wc') → va_S A s.heap H1 locs1 → W p l e R s m args below meth c H1 locs1 cells slots Q (F0 m (pc + 3) ls (.long v :: rest))) : W p l e R s m args below meth c H locs cells slots Q (F0 m pc ls st0) := by
  have hpc := z_pre (av := As) hK hE hP hD hS hA isC hnC hC
  refine z_afl (va_runS (As := As) (rest := rest) F hM (z_wS F.2.2.2.2 ok hl hrm.1 hrm.2.1 hrm.2.2) ⟨PCx.blind, hpc⟩ rfl hk hsize hst (lv_room hW) hdg hcs) hP hD hS hA isC isR hC hR hn hdis kk
theorem z_cSv {y : MethodName} {bytes : ByteArray} {maxL : Nat} {mret : Option FieldType} {rm : Room} {index k : Nat} {As : List Value}
    (hM : CTv l y bytes maxL mret rm D cI cJ tt As wc wc' H.size) (F : CallFix p m c cc nL s args TB own) (ok : OKs y bytes maxL mret k) (hl : Cond.methodLink own index y ∈ TB)
    (hK : va_K D classes (tys2 cI cJ) s) (hE : EX tt A s) (hP : va_P D classes ws H) (hD : va_D A ws) (hS : va_S A s.heap H locs) (hA : ∀ q, s.heap.size ≤ q → A q) (isC isR : List Nat) (hC : isC.map (fun i => ws[i]?) = wc.map some) (hR : isR.map (fun i => ws[i]?) = wr.map some) (hnC : va_nd isC = true) (hn : va_nd isR = true) (hdis : ∀ i ∈ isR, i ∉ isC)
    (hrm : rm.cells = 0 ∧ rm.slots = 0 ∧ rm.frames + 1 ≤ R.frames ∧ 8 + (maxL + 11) + rm.locals ≤ R.locals) (hcs : cells ≤ R.cells ∧ slots ≤ R.slots) (hk : As.length = k) (hsize : ls.size = nL) (hst : st0 = As.reverse ++ rest) (hW : (rest.map fun v => v.category).sum ≤ 8) (hdg : decode cc pc = .ok (.invokestatic index, 3))
    (kk : ∀ (H1 : Heap) (locs1 : List Loc), va_P D classes (wr ++ wc') H1 → va_D A (wr ++ wc') → va_S A s.heap H1 locs1 → W p l e R s m args below meth c H1 locs1 cells slots Q (F0 m (pc + 3) ls rest)) : W p l e R s m args below meth c H locs cells slots Q (F0 m pc ls st0) := by
  have hpc := z_pre (av := As) hK hE hP hD hS hA isC hnC hC
  refine z_afv (va_runS (As := As) (rest := rest) F hM (z_wS F.2.2.2.2 ok hl hrm.1 hrm.2.1 hrm.2.2) ⟨PCx.blind, hpc⟩ rfl hk hsize hst (lv_room hW) hdg hcs) hP hD hS hA isC isR hC hR hn hdis kk
theorem z_cNSi {v : Int32} {y : MethodName} {bytes : ByteArray} {maxL : Nat} {mret : Option FieldType} {rm : Room} {host : String} {index k : Nat} {As : List Value}
    (hM : CTi l y bytes maxL mret rm D cI cJ tt As wc wc' H.size v) (F : CallFix p m c cc nL s args TB own) (ok : OKs y bytes maxL mret k) (hl : va_Nw (.methodLinkNest own index y host) s)
    (hK : va_K D classes (tys2 cI cJ) s) (hE : EX tt A s) (hP : va_P D classes ws H) (hD : va_D A ws) (hS : va_S A s.heap H locs) (hA : ∀ q, s.heap.size ≤ q → A q) (isC isR : List Nat) (hC : isC.map (fun i => ws[i]?) = wc.map some) (hR : isR.map (fun i => ws[i]?) = wr.map some) (hnC : va_nd isC = true) (hn : va_nd isR = true) (hdis : ∀ i ∈ isR, i ∉ isC)
    (hrm : rm.cells = 0 ∧ rm.slots = 0 ∧ rm.frames + 1 ≤ R.frames ∧ 8 + (maxL + 11) + rm.locals ≤ R.locals) (hcs : cells ≤ R.cells ∧ slots ≤ R.slots) (hk : As.length = k) (hsize : ls.size = nL) (hst : st0 = As.reverse ++ rest) (hW : (rest.map fun v => v.category).sum ≤ 8) (hdg : decode cc pc = .ok (.invokestatic index, 3))
    (kk : ∀ (H1 : Heap) (locs1 : List Loc), va_P D classes (wr ++ wc') H1 → va_D A (wr ++ wc') → va_S A s.heap H1 locs1 → W p l e R s m args below meth c H1 locs1 cells slots Q (F0 m (pc + 3) ls (.int v :: rest))) : W p l e R s m args below meth c H locs cells slots Q (F0 m pc ls st0) := by
  have hpc := z_pre (av := As) hK hE hP hD hS hA isC hnC hC
  refine z_afi (va_runSN (As := As) (rest := rest) F hM (z_wNS F.2.2.2.2 ok hl hrm.1 hrm.2.1 hrm.2.2) ⟨PCx.blind, hpc⟩ rfl hk hsize hst (lv_room hW) hdg hcs) hP hD hS hA isC isR hC hR hn hdis kk
theorem z_cNSl {v : Int64} {y : MethodName} {bytes : ByteArray} {maxL : Nat} {mret : Option FieldType} {rm : Room} {host : String} {index k : Nat} {As : List Value}
    (hM : CTl l y bytes maxL mret rm D cI cJ tt As wc wc' H.size v) (F : CallFix p m c cc nL s args TB own) (ok : OKs y bytes maxL mret k) (hl : va_Nw (.methodLinkNest own index y host) s)
    (hK : va_K D classes (tys2 cI cJ) s) (hE : EX tt A s) (hP : va_P D classes ws H) (hD : va_D A ws) (hS : va_S A s.heap H locs) (hA : ∀ q, s.heap.size ≤ q → A q) (isC isR : List Nat) (hC : isC.map (fun i => ws[i]?) = wc.map some) (hR : isR.map (fun i => ws[i]?) = wr.map some) (hnC : va_nd isC = true) (hn : va_nd isR = true) (hdis : ∀ i ∈ isR, i ∉ isC)
    (hrm : rm.cells = 0 ∧ rm.slots = 0 ∧ rm.frames + 1 ≤ R.frames ∧ 8 + (maxL + 11) + rm.locals ≤ R.locals) (hcs : cells ≤ R.cells ∧ slots ≤ R.slots) (hk : As.length = k) (hsize : ls.size = nL) (hst : st0 = As.reverse ++ rest) (hW : (rest.map fun v => v.category).sum ≤ 8) (hdg : decode cc pc = .ok (.invokestatic index, 3))
    (kk : ∀ (H1 : Heap) (locs1 : List Loc), va_P D classes (wr ++ wc') H1 → va_D A (wr ++ wc') → va_S A s.heap H1 locs1 → W p l e R s m args below meth c H1 locs1 cells slots Q (F0 m (pc + 3) ls (.long v :: rest))) : W p l e R s m args below meth c H locs cells slots Q (F0 m pc ls st0) := by
  have hpc := z_pre (av := As) hK hE hP hD hS hA isC hnC hC
  refine z_afl (va_runSN (As := As) (rest := rest) F hM (z_wNS F.2.2.2.2 ok hl hrm.1 hrm.2.1 hrm.2.2) ⟨PCx.blind, hpc⟩ rfl hk hsize hst (lv_room hW) hdg hcs) hP hD hS hA isC isR hC hR hn hdis kk
theorem z_cNSv {y : MethodName} {bytes : ByteArray} {maxL : Nat} {mret : Option FieldType} {rm : Room} {host : String} {index k : Nat} {As : List Value}
    (hM : CTv l y bytes maxL mret rm D cI cJ tt As wc wc' H.size) (F : CallFix p m c cc nL s args TB own) (ok : OKs y bytes maxL mret k) (hl : va_Nw (.methodLinkNest own index y host) s)
    (hK : va_K D classes (tys2 cI cJ) s) (hE : EX tt A s) (hP : va_P D classes ws H) (hD : va_D A ws) (hS : va_S A s.heap H locs) (hA : ∀ q, s.heap.size ≤ q → A q) (isC isR : List Nat) (hC : isC.map (fun i => ws[i]?) = wc.map some) (hR : isR.map (fun i => ws[i]?) = wr.map some) (hnC : va_nd isC = true) (hn : va_nd isR = true) (hdis : ∀ i ∈ isR, i ∉ isC)
    (hrm : rm.cells = 0 ∧ rm.slots = 0 ∧ rm.frames + 1 ≤ R.frames ∧ 8 + (maxL + 11) + rm.locals ≤ R.locals) (hcs : cells ≤ R.cells ∧ slots ≤ R.slots) (hk : As.length = k) (hsize : ls.size = nL) (hst : st0 = As.reverse ++ rest) (hW : (rest.map fun v => v.category).sum ≤ 8) (hdg : decode cc pc = .ok (.invokestatic index, 3))
    (kk : ∀ (H1 : Heap) (locs1 : List Loc), va_P D classes (wr ++ wc') H1 → va_D A (wr ++ wc') → va_S A s.heap H1 locs1 → W p l e R s m args below meth c H1 locs1 cells slots Q (F0 m (pc + 3) ls rest)) : W p l e R s m args below meth c H locs cells slots Q (F0 m pc ls st0) := by
  have hpc := z_pre (av := As) hK hE hP hD hS hA isC hnC hC
  refine z_afv (va_runSN (As := As) (rest := rest) F hM (z_wNS F.2.2.2.2 ok hl hrm.1 hrm.2.1 hrm.2.2) ⟨PCx.blind, hpc⟩ rfl hk hsize hst (lv_room hW) hdg hcs) hP hD hS hA isC isR hC hR hn hdis kk
theorem z_mV {y : MethodName} {bytes : ByteArray} {maxL : Nat} {mret : Option FieldType} (s1 : State) (h : ∀ w ∈ WD y bytes maxL mret, w.before args s1 = true) : ∀ w ∈ TB, w.before args s1 = true := fun w hw => h w (List.mem_cons_of_mem _ hw)
end ZR
