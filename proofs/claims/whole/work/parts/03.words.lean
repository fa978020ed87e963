/-! words of the tables that the rows use, by their places -/
theorem u_BitRow : ∀ w ∈ u_ws "DeepChannel$BitRow" fT_BitRow 2, w ∈ TB := by
  intro w hw
  obtain ⟨k, hk, rfl⟩ := List.mem_map.mp hw
  have hk := List.mem_range.mp hk
  have h : ∀ k : Nat, k < 2 → (lw_tbl[([214, 216] : List Nat).getD k 0]? = some (u_lay "DeepChannel$BitRow" fT_BitRow k) ∧ goodWord (u_lay "DeepChannel$BitRow" fT_BitRow k) = true) := by decide +kernel
  exact tb_in _ (h k hk).1 (h k hk).2
theorem u_Coder : ∀ w ∈ u_ws "DeepChannel$Coder" fT_Coder 4, w ∈ TB := by
  intro w hw
  obtain ⟨k, hk, rfl⟩ := List.mem_map.mp hw
  have hk := List.mem_range.mp hk
  have h : ∀ k : Nat, k < 4 → (lw_tbl[([230, 232, 234, 236] : List Nat).getD k 0]? = some (u_lay "DeepChannel$Coder" fT_Coder k) ∧ goodWord (u_lay "DeepChannel$Coder" fT_Coder k) = true) := by decide +kernel
  exact tb_in _ (h k hk).1 (h k hk).2
theorem u_Field : ∀ w ∈ u_ws "DeepChannel$Field" fT_Field 4, w ∈ TB := by
  intro w hw
  obtain ⟨k, hk, rfl⟩ := List.mem_map.mp hw
  have hk := List.mem_range.mp hk
  have h : ∀ k : Nat, k < 4 → (lw_tbl[([114, 116, 118, 120] : List Nat).getD k 0]? = some (u_lay "DeepChannel$Field" fT_Field k) ∧ goodWord (u_lay "DeepChannel$Field" fT_Field k) = true) := by decide +kernel
  exact tb_in _ (h k hk).1 (h k hk).2
theorem u_Locator : ∀ w ∈ u_ws "DeepChannel$Locator" fT_Locator 6, w ∈ TB := by
  intro w hw
  obtain ⟨k, hk, rfl⟩ := List.mem_map.mp hw
  have hk := List.mem_range.mp hk
  have h : ∀ k : Nat, k < 6 → (lw_tbl[([140, 142, 144, 146, 148, 150] : List Nat).getD k 0]? = some (u_lay "DeepChannel$Locator" fT_Locator k) ∧ goodWord (u_lay "DeepChannel$Locator" fT_Locator k) = true) := by decide +kernel
  exact tb_in _ (h k hk).1 (h k hk).2
theorem u_Mixer : ∀ w ∈ u_ws "DeepChannel$Mixer" fT_Mixer 1, w ∈ TB := by
  intro w hw
  obtain ⟨k, hk, rfl⟩ := List.mem_map.mp hw
  have hk := List.mem_range.mp hk
  have h : ∀ k : Nat, k < 1 → (lw_tbl[([203] : List Nat).getD k 0]? = some (u_lay "DeepChannel$Mixer" fT_Mixer k) ∧ goodWord (u_lay "DeepChannel$Mixer" fT_Mixer k) = true) := by decide +kernel
  exact tb_in _ (h k hk).1 (h k hk).2
theorem u_Nearest : ∀ w ∈ u_ws "DeepChannel$Nearest" fT_Nearest 5, w ∈ TB := by
  intro w hw
  obtain ⟨k, hk, rfl⟩ := List.mem_map.mp hw
  have hk := List.mem_range.mp hk
  have h : ∀ k : Nat, k < 5 → (lw_tbl[([291, 293, 295, 297, 299] : List Nat).getD k 0]? = some (u_lay "DeepChannel$Nearest" fT_Nearest k) ∧ goodWord (u_lay "DeepChannel$Nearest" fT_Nearest k) = true) := by decide +kernel
  exact tb_in _ (h k hk).1 (h k hk).2
theorem u_Receiver : ∀ w ∈ u_ws "DeepChannel$Receiver" fT_Receiver 12, w ∈ TB := by
  intro w hw
  obtain ⟨k, hk, rfl⟩ := List.mem_map.mp hw
  have hk := List.mem_range.mp hk
  have h : ∀ k : Nat, k < 12 → (lw_tbl[([316, 318, 320, 322, 324, 326, 328, 330, 332, 334, 336, 338] : List Nat).getD k 0]? = some (u_lay "DeepChannel$Receiver" fT_Receiver k) ∧ goodWord (u_lay "DeepChannel$Receiver" fT_Receiver k) = true) := by decide +kernel
  exact tb_in _ (h k hk).1 (h k hk).2
theorem u_Sender : ∀ w ∈ u_ws "DeepChannel$Sender" fT_Sender 8, w ∈ TB := by
  intro w hw
  obtain ⟨k, hk, rfl⟩ := List.mem_map.mp hw
  have hk := List.mem_range.mp hk
  have h : ∀ k : Nat, k < 8 → (lw_tbl[([253, 255, 257, 259, 261, 263, 265, 267] : List Nat).getD k 0]? = some (u_lay "DeepChannel$Sender" fT_Sender k) ∧ goodWord (u_lay "DeepChannel$Sender" fT_Sender k) = true) := by decide +kernel
  exact tb_in _ (h k hk).1 (h k hk).2
theorem u_Shape : ∀ w ∈ u_ws "DeepChannel$Shape" fT_Shape 4, w ∈ TB := by
  intro w hw
  obtain ⟨k, hk, rfl⟩ := List.mem_map.mp hw
  have hk := List.mem_range.mp hk
  have h : ∀ k : Nat, k < 4 → (lw_tbl[([88, 90, 92, 94] : List Nat).getD k 0]? = some (u_lay "DeepChannel$Shape" fT_Shape k) ∧ goodWord (u_lay "DeepChannel$Shape" fT_Shape k) = true) := by decide +kernel
  exact tb_in _ (h k hk).1 (h k hk).2
theorem u_Words : ∀ w ∈ u_ws "DeepChannel$Words" fT_Words 7, w ∈ TB := by
  intro w hw
  obtain ⟨k, hk, rfl⟩ := List.mem_map.mp hw
  have hk := List.mem_range.mp hk
  have h : ∀ k : Nat, k < 7 → (lw_tbl[([175, 177, 179, 181, 183, 185, 187] : List Nat).getD k 0]? = some (u_lay "DeepChannel$Words" fT_Words k) ∧ goodWord (u_lay "DeepChannel$Words" fT_Words k) = true) := by decide +kernel
  exact tb_in _ (h k hk).1 (h k hk).2
theorem u_DC : ∀ w ∈ u_ws "DeepChannel" fT_DC 7, w ∈ TB := by
  intro w hw
  obtain ⟨k, hk, rfl⟩ := List.mem_map.mp hw
  have hk := List.mem_range.mp hk
  have h : ∀ k : Nat, k < 7 → (lw_tbl[([348, 350, 352, 354, 356, 358, 360] : List Nat).getD k 0]? = some (u_lay "DeepChannel" fT_DC k) ∧ goodWord (u_lay "DeepChannel" fT_DC k) = true) := by decide +kernel
  exact tb_in _ (h k hk).1 (h k hk).2
theorem u_Mo : ∀ w ∈ u_ws "DeepChannelModel" fT_Mo 40, w ∈ TB := by
  intro w hw
  obtain ⟨k, hk, rfl⟩ := List.mem_map.mp hw
  have hk := List.mem_range.mp hk
  have h : ∀ k : Nat, k < 40 → (lw_tbl[([926, 928, 930, 932, 934, 936, 938, 940, 942, 944, 946, 948, 950, 952, 954, 956, 958, 960, 962, 964, 966, 968, 970, 972, 974, 976, 978, 980, 982, 984, 986, 988, 990, 992, 994, 996, 998, 1000, 1002, 1004] : List Nat).getD k 0]? = some (u_lay "DeepChannelModel" fT_Mo k) ∧ goodWord (u_lay "DeepChannelModel" fT_Mo k) = true) := by decide +kernel
  exact tb_in _ (h k hk).1 (h k hk).2
theorem k_0 : Cond.selects "DeepChannel$BitRow" ⟨"DeepChannel$BitRow", "cellAt", "(I)J"⟩ ⟨"DeepChannel$BitRow", "cellAt", "(I)J"⟩ ∈ TB := tb_in 0 (by decide +kernel) (by decide +kernel)
theorem k_47 : Cond.initialized "java/util/Arrays" ∈ TB := tb_in 47 (by decide +kernel) (by decide +kernel)
theorem k_49 : Cond.initialized "java/lang/Integer" ∈ TB := tb_in 49 (by decide +kernel) (by decide +kernel)
theorem k_50 : Cond.initialized "DeepChannel$BitRow" ∈ TB := tb_in 50 (by decide +kernel) (by decide +kernel)
theorem k_51 : Cond.initialized "DeepChannel$Coder" ∈ TB := tb_in 51 (by decide +kernel) (by decide +kernel)
theorem k_197 : Cond.static ⟨"java/lang/Integer", "bitCount", "(I)I"⟩ ∈ TB := tb_in 197 (by decide +kernel) (by decide +kernel)
theorem k_198 : Cond.code ⟨"java/lang/Integer", "bitCount", "(I)I"⟩ prog_18_method_49_code 1 (some .int) ∈ TB := tb_in 198 (by decide +kernel) (by decide +kernel)
theorem k_199 : Cond.constant "java/lang/Integer" 265 1431655765 ∈ TB := tb_in 199 (by decide +kernel) (by decide +kernel)
theorem k_200 : Cond.constant "java/lang/Integer" 266 858993459 ∈ TB := tb_in 200 (by decide +kernel) (by decide +kernel)
theorem k_201 : Cond.constant "java/lang/Integer" 267 252645135 ∈ TB := tb_in 201 (by decide +kernel) (by decide +kernel)
theorem k_212 : Cond.fieldLink "DeepChannel$BitRow" 9 "DeepChannel$BitRow" "cells" "[J" ∈ TB := tb_in 212 (by decide +kernel) (by decide +kernel)
theorem k_213 : Cond.fieldLink "DeepChannel$BitRow" 15 "DeepChannel$BitRow" "length" "I" ∈ TB := tb_in 213 (by decide +kernel) (by decide +kernel)
theorem k_283 : Cond.static ⟨"DeepChannel$Coder", "pairOf", "(I)I"⟩ ∈ TB := tb_in 283 (by decide +kernel) (by decide +kernel)
theorem k_284 : Cond.code ⟨"DeepChannel$Coder", "pairOf", "(I)I"⟩ prog_3_method_4_code 3 (some .int) ∈ TB := tb_in 284 (by decide +kernel) (by decide +kernel)
theorem k_285 : Cond.methodLink "DeepChannel$Coder" 26 ⟨"java/lang/Integer", "bitCount", "(I)I"⟩ ∈ TB := tb_in 285 (by decide +kernel) (by decide +kernel)
theorem k_377 : Cond.instanceMethod ⟨"DeepChannel$BitRow", "window", "(I)J"⟩ ∈ TB := tb_in 377 (by decide +kernel) (by decide +kernel)
theorem k_378 : Cond.selects "DeepChannel$BitRow" ⟨"DeepChannel$BitRow", "window", "(I)J"⟩ ⟨"DeepChannel$BitRow", "window", "(I)J"⟩ ∈ TB := tb_in 378 (by decide +kernel) (by decide +kernel)
theorem k_379 : Cond.code ⟨"DeepChannel$BitRow", "window", "(I)J"⟩ prog_2_method_7_code 6 (some .long) ∈ TB := tb_in 379 (by decide +kernel) (by decide +kernel)
theorem k_380 : Cond.methodLink "DeepChannel$BitRow" 25 ⟨"DeepChannel$BitRow", "cellAt", "(I)J"⟩ ∈ TB := tb_in 380 (by decide +kernel) (by decide +kernel)
theorem k_382 : Cond.instanceMethod ⟨"DeepChannel$BitRow", "cellAt", "(I)J"⟩ ∈ TB := tb_in 382 (by decide +kernel) (by decide +kernel)
theorem k_383 : Cond.code ⟨"DeepChannel$BitRow", "cellAt", "(I)J"⟩ prog_2_method_5_code 2 (some .long) ∈ TB := tb_in 383 (by decide +kernel) (by decide +kernel)
theorem k_478 : Cond.instanceMethod ⟨"DeepChannel$BitRow", "empty", "()V"⟩ ∈ TB := tb_in 478 (by decide +kernel) (by decide +kernel)
theorem k_479 : Cond.selects "DeepChannel$BitRow" ⟨"DeepChannel$BitRow", "empty", "()V"⟩ ⟨"DeepChannel$BitRow", "empty", "()V"⟩ ∈ TB := tb_in 479 (by decide +kernel) (by decide +kernel)
theorem k_480 : Cond.code ⟨"DeepChannel$BitRow", "empty", "()V"⟩ prog_2_method_3_code 1 none ∈ TB := tb_in 480 (by decide +kernel) (by decide +kernel)
theorem k_481 : Cond.methodLink "DeepChannel$BitRow" 19 ⟨"java/util/Arrays", "fill", "([JJ)V"⟩ ∈ TB := tb_in 481 (by decide +kernel) (by decide +kernel)
theorem k_482 : Cond.static ⟨"java/util/Arrays", "fill", "([JJ)V"⟩ ∈ TB := tb_in 482 (by decide +kernel) (by decide +kernel)
theorem k_483 : Cond.code ⟨"java/util/Arrays", "fill", "([JJ)V"⟩ prog_24_method_101_code 5 none ∈ TB := tb_in 483 (by decide +kernel) (by decide +kernel)
theorem k_531 : Cond.instanceMethod ⟨"DeepChannel$BitRow", "size", "()I"⟩ ∈ TB := tb_in 531 (by decide +kernel) (by decide +kernel)
theorem k_532 : Cond.selects "DeepChannel$BitRow" ⟨"DeepChannel$BitRow", "size", "()I"⟩ ⟨"DeepChannel$BitRow", "size", "()I"⟩ ∈ TB := tb_in 532 (by decide +kernel) (by decide +kernel)
theorem k_533 : Cond.code ⟨"DeepChannel$BitRow", "size", "()I"⟩ prog_2_method_2_code 1 (some .int) ∈ TB := tb_in 533 (by decide +kernel) (by decide +kernel)
theorem k_647 : Cond.instanceMethod ⟨"DeepChannel$BitRow", "append", "(I)V"⟩ ∈ TB := tb_in 647 (by decide +kernel) (by decide +kernel)
theorem k_648 : Cond.selects "DeepChannel$BitRow" ⟨"DeepChannel$BitRow", "append", "(I)V"⟩ ⟨"DeepChannel$BitRow", "append", "(I)V"⟩ ∈ TB := tb_in 648 (by decide +kernel) (by decide +kernel)
theorem k_649 : Cond.code ⟨"DeepChannel$BitRow", "append", "(I)V"⟩ prog_2_method_4_code 2 none ∈ TB := tb_in 649 (by decide +kernel) (by decide +kernel)
theorem k_705 : Cond.instanceMethod ⟨"DeepChannel$BitRow", "bitAt", "(I)I"⟩ ∈ TB := tb_in 705 (by decide +kernel) (by decide +kernel)
theorem k_706 : Cond.selects "DeepChannel$BitRow" ⟨"DeepChannel$BitRow", "bitAt", "(I)I"⟩ ⟨"DeepChannel$BitRow", "bitAt", "(I)I"⟩ ∈ TB := tb_in 706 (by decide +kernel) (by decide +kernel)
theorem k_707 : Cond.code ⟨"DeepChannel$BitRow", "bitAt", "(I)I"⟩ prog_2_method_6_code 2 (some .int) ∈ TB := tb_in 707 (by decide +kernel) (by decide +kernel)
