/-! the methods that may throw, the law's wrappers, the law -/
abbrev yU : Type := Nat × Nat × (Nat → Int32)
def yn2 : List Cond := [.castable "java/lang/IllegalArgumentException" "java/lang/IllegalArgumentException", .castable "java/lang/IllegalStateException" "java/lang/IllegalStateException", .castable "java/util/NoSuchElementException" "java/util/NoSuchElementException", .castable "java/lang/IndexOutOfBoundsException" "java/lang/IndexOutOfBoundsException", .castable "java/lang/UnsupportedOperationException" "java/lang/UnsupportedOperationException", .castable "java/lang/ArithmeticException" "java/lang/ArithmeticException", .declares ⟨"java/lang/RuntimeException", "<init>", "(Ljava/lang/String;)V"⟩, .declares ⟨"java/lang/Exception", "<init>", "(Ljava/lang/String;)V"⟩, .declares ⟨"java/lang/Throwable", "<init>", "(Ljava/lang/String;)V"⟩, .not (.castable "java/lang/IllegalStateException" "java/lang/IllegalArgumentException"), .not (.castable "java/lang/IndexOutOfBoundsException" "java/util/NoSuchElementException"), .not (.castable "java/lang/IllegalStateException" "java/util/NoSuchElementException"), .not (.castable "java/lang/IllegalStateException" "java/lang/IndexOutOfBoundsException"), .not (.castable "java/lang/UnsupportedOperationException" "java/util/NoSuchElementException"), .not (.castable "java/lang/UnsupportedOperationException" "java/lang/IndexOutOfBoundsException"), .not (.castable "java/lang/UnsupportedOperationException" "java/lang/IllegalStateException"), .not (.castable "java/lang/ArithmeticException" "java/util/NoSuchElementException"), .not (.castable "java/lang/ArithmeticException" "java/lang/IndexOutOfBoundsException"), .not (.castable "java/lang/ArithmeticException" "java/lang/IllegalStateException"), .not (.castable "java/lang/ArithmeticException" "java/lang/UnsupportedOperationException"), .not (.castable "java/lang/IndexOutOfBoundsException" "java/lang/IllegalStateException"), .not (.castable "java/util/NoSuchElementException" "java/lang/IllegalArgumentException")]
theorem yn2_st : ww_st yn2 := by
  unfold ww_st yn2
  refine za ⟨fun s U e h => va_Nw.same rfl e h, fun s U hW h => va_Nw.warmC hW h⟩ ?_
  refine za ⟨fun s U e h => va_Nw.same rfl e h, fun s U hW h => va_Nw.warmC hW h⟩ ?_
  refine za ⟨fun s U e h => va_Nw.same rfl e h, fun s U hW h => va_Nw.warmC hW h⟩ ?_
  refine za ⟨fun s U e h => va_Nw.same rfl e h, fun s U hW h => va_Nw.warmC hW h⟩ ?_
  refine za ⟨fun s U e h => va_Nw.same rfl e h, fun s U hW h => va_Nw.warmC hW h⟩ ?_
  refine za ⟨fun s U e h => va_Nw.same rfl e h, fun s U hW h => va_Nw.warmC hW h⟩ ?_
  refine za ⟨fun s U e h => va_Nw.same rfl e h, fun s U hW h => va_Nw.warmD hW h⟩ ?_
  refine za ⟨fun s U e h => va_Nw.same rfl e h, fun s U hW h => va_Nw.warmD hW h⟩ ?_
  refine za ⟨fun s U e h => va_Nw.same rfl e h, fun s U hW h => va_Nw.warmD hW h⟩ ?_
  refine za ⟨fun s U e h => zst_nc (e ▸ Vm.Alike.refl _) h, fun s U hW h => zst_nc hW.alike h⟩ ?_
  refine za ⟨fun s U e h => zst_nc (e ▸ Vm.Alike.refl _) h, fun s U hW h => zst_nc hW.alike h⟩ ?_
  refine za ⟨fun s U e h => zst_nc (e ▸ Vm.Alike.refl _) h, fun s U hW h => zst_nc hW.alike h⟩ ?_
  refine za ⟨fun s U e h => zst_nc (e ▸ Vm.Alike.refl _) h, fun s U hW h => zst_nc hW.alike h⟩ ?_
  refine za ⟨fun s U e h => zst_nc (e ▸ Vm.Alike.refl _) h, fun s U hW h => zst_nc hW.alike h⟩ ?_
  refine za ⟨fun s U e h => zst_nc (e ▸ Vm.Alike.refl _) h, fun s U hW h => zst_nc hW.alike h⟩ ?_
  refine za ⟨fun s U e h => zst_nc (e ▸ Vm.Alike.refl _) h, fun s U hW h => zst_nc hW.alike h⟩ ?_
  refine za ⟨fun s U e h => zst_nc (e ▸ Vm.Alike.refl _) h, fun s U hW h => zst_nc hW.alike h⟩ ?_
  refine za ⟨fun s U e h => zst_nc (e ▸ Vm.Alike.refl _) h, fun s U hW h => zst_nc hW.alike h⟩ ?_
  refine za ⟨fun s U e h => zst_nc (e ▸ Vm.Alike.refl _) h, fun s U hW h => zst_nc hW.alike h⟩ ?_
  refine za ⟨fun s U e h => zst_nc (e ▸ Vm.Alike.refl _) h, fun s U hW h => zst_nc hW.alike h⟩ ?_
  refine za ⟨fun s U e h => zst_nc (e ▸ Vm.Alike.refl _) h, fun s U hW h => zst_nc hW.alike h⟩ ?_
  refine za ⟨fun s U e h => zst_nc (e ▸ Vm.Alike.refl _) h, fun s U hW h => zst_nc hW.alike h⟩ ?_
  exact zn
def ynst : List Cond := znst ++ yn2
theorem ynst_st : ww_st ynst := fun w hw => (List.mem_append.mp hw).elim (znst_st w) (yn2_st w)
theorem ynsub : ∀ w ∈ znst, w ∈ ynst := fun _ h => List.mem_append_left _ h
theorem ynl {i : Nat} {w : Cond} (h : znst[i]? = some w) : w ∈ ynst := List.mem_append_left _ (List.mem_of_getElem? h)
theorem ynr {i : Nat} {w : Cond} (h : yn2[i]? = some w) : w ∈ ynst := List.mem_append_right _ (List.mem_of_getElem? h)
theorem yzx {l : Launch} {D : va_G} {dA : Nat → ClassId} {b0 : Nat} : ∀ (d K N μ pc : Nat) (L : zV) (st : List Value) (w : ww_W) (k n : Nat) (Q : zQ), zx dA d K N μ pc L st w k n Q → zM l zmt zbig znst D zcls (ztys dA) b0 d K N μ pc L st w k n Q := fun _ _ _ _ _ _ _ _ _ _ _ h => zx_sound h
def ymtl : List (MethodName × ByteArray × Nat × Option FieldType) := [
  (⟨"VectorLanguage", "refuse", "(I)I"⟩, prog_1_method_10_code, 1, (some .int)),
  (⟨"VectorLanguage", "expression", "(IIII)I"⟩, prog_1_method_2_code, 5, (some .int)),
  (⟨"VectorLanguage", "run", "(I)I"⟩, prog_1_method_3_code, 3, (some .int)),
  (⟨"VectorLanguage", "element", "(I)I"⟩, prog_1_method_4_code, 4, (some .int)),
  (⟨"VectorLanguage", "variable", "(I)I"⟩, prog_1_method_6_code, 4, (some .int)),
  (⟨"VectorLanguage", "value", "(II)I"⟩, prog_1_method_7_code, 5, (some .int)),
  (⟨"VectorLanguage", "count", "(I)I"⟩, prog_1_method_9_code, 2, (some .int)),
  (⟨"VectorLanguageLaw", "expression", "(LVectorLanguage;IIII[J)I"⟩, method_3_code, 7, (some .int)),
  (⟨"VectorLanguageLaw", "run", "(LVectorLanguage;I[J)I"⟩, method_4_code, 4, (some .int)),
  (⟨"VectorLanguageLaw", "element", "(LVectorLanguage;I[J)I"⟩, method_5_code, 4, (some .int)),
  (⟨"VectorLanguageLaw", "variable", "(LVectorLanguage;I[J)I"⟩, method_6_code, 4, (some .int)),
  (⟨"VectorLanguageLaw", "value", "(LVectorLanguage;II[J)I"⟩, method_7_code, 5, (some .int)),
  (⟨"VectorLanguageLaw", "count", "(LVectorLanguage;I[J)I"⟩, method_8_code, 4, (some .int)),
  (⟨"VectorLanguageLaw", "law", "([I)Z"⟩, code, 7, (some .boolean))]
def ymt : zMt := fun μ => (ymtl[μ]?).getD (⟨"", "", ""⟩, ⟨#[]⟩, 0, none)
def yehl : List (List (Nat × Nat × Nat × Nat)) := [[], [], [], [], [], [], [], [(0, 14, 17, 13), (0, 14, 21, 15)], [(0, 9, 12, 21), (0, 9, 15, 23), (0, 9, 18, 15), (0, 9, 21, 25), (0, 9, 24, 27)], [(0, 9, 12, 15), (0, 9, 15, 23)], [(0, 9, 12, 13)], [(0, 10, 13, 13), (0, 10, 17, 21)], [(0, 9, 12, 13)], []]
def yeh : Nat → List (Nat × Nat × Nat × Nat) := fun μ => (yehl[μ]?).getD []
abbrev Y_refuse : Nat := 0
abbrev Y_expression : Nat := 1
abbrev Y_run : Nat := 2
abbrev Y_element : Nat := 3
abbrev Y_variable : Nat := 4
abbrev Y_value : Nat := 5
abbrev Y_count : Nat := 6
abbrev Y_wexpression : Nat := 7
abbrev Y_wrun : Nat := 8
abbrev Y_welement : Nat := 9
abbrev Y_wvariable : Nat := 10
abbrev Y_wvalue : Nat := 11
abbrev Y_wcount : Nat := 12
abbrev Y_law : Nat := 13
def yns : List String := ["java/lang/RuntimeException", "java/lang/Exception"]
def yns1 : List String := ["java/lang/Exception"]
theorem yns1_fit : ∀ n ∈ yns1, Bundle.fit n = true := by decide +kernel
theorem yns_fit : ∀ n ∈ yns, Bundle.fit n = true := by decide +kernel
/-- the texts of the throws, by their places -/
def ystr : List (Nat × String) := [(129, "too many elements, or a wrong index"), (131, "an argument wanted within itself, or a limit reached"), (135, "a wrong sort of value, or a wrong call"), (138, "a variable without a value"), (142, "no element, no condition, or a failure raised"), (35, "no expression can be made of this"), (46, "all expressions were made"), (64, "no such expression"), (91, "no such element"), (98, "no vector was answered"), (103, "no such variable"), (127, "nothing is counted by this number")]
/-- what holds at the law's start and stays: two statics of Throwable, the texts, the script -/
def yXX (b0 : Nat) (U : yU) (s : State) : Prop := vx_Zq Bundle.tN "UNASSIGNED_STACK" Bundle.steD (ww_F b0) s s.heap ∧ vx_Zq Bundle.tN "SUPPRESSED_SENTINEL" Bundle.listD (ww_F b0) s s.heap ∧ (∀ q ∈ ystr, ∃ sa : Nat, vk_R "VectorLanguage" q.1 q.2 sa s) ∧ va_X U.1 U.2.1 U.2.2 s s.heap
theorem yXX_kp {b0 : Nat} {U : yU} (hb : U.1 < b0) : yKp b0 (yXX b0 U) := by
  intro s T hX hW hs hq
  obtain ⟨h1, h2, h3, h4⟩ := hX
  have hk : ∀ a : Nat, a < s.heap.size → ¬ ww_F b0 a → T.heap[a]? = s.heap[a]? := fun a _ ha => hq a (Nat.not_le.mp ha)
  exact ⟨vx_Zq.moved hW.alike (h1.kept hk), vx_Zq.moved hW.alike (h2.kept hk), fun q hq => by
    obtain ⟨sa, h⟩ := h3 q hq
    exact ⟨sa, vk_R.warm hW h⟩, va_X.moved hW.alike (h4.kept (hq U.1 hb))⟩
theorem yhat {L : List Cond} {is : List Nat} (h1 : L = is.filterMap (fun i => tables_1[i]?)) (h2 : L.all (fun w => goodWord w || (decide (w ∈ yn2) && w.onTables)) = true) : ∀ w ∈ L, w ∈ zbig ∨ (w ∈ ynst ∧ w.onTables = true) := by
  intro w hw
  have h4 := List.all_eq_true.mp h2 w hw
  simp only [Bool.or_eq_true, Bool.and_eq_true, decide_eq_true_eq] at h4
  rcases h4 with h4 | h4
  · refine Or.inl ?_
    rw [h1] at hw
    obtain ⟨i, _, hi⟩ := List.mem_filterMap.mp hw
    exact zin i hi h4
  · exact Or.inr ⟨List.mem_append_right _ h4.1, h4.2⟩
theorem yw_0 : ∀ w ∈ vx_atS "VectorLanguage" 93 "java/lang/IndexOutOfBoundsException" yns, w ∈ zbig ∨ (w ∈ ynst ∧ w.onTables = true) := yhat (is := [10, 258, 267, 274, 277, 279, 259, 260, 32, 33, 261, 266, 275, 295, 248, 296, 250, 297, 252, 262, 264, 254, 291, 292, 294, 254, 660, 661, 662, 285, 240, 285, 286, 287, 288, 242, 288, 289, 290, 291, 244, 659, 650, 651, 652, 271, 653, 654, 655, 656, 257, 256, 657]) (by decide +kernel) (by decide +kernel)
theorem yg_0 : ∀ w ∈ Cond.classLink "VectorLanguage" 89 "java/lang/IndexOutOfBoundsException" :: Cond.initialized "java/lang/IndexOutOfBoundsException" :: vx_atS "VectorLanguage" 93 "java/lang/IndexOutOfBoundsException" yns, vx_ot w = true := by decide +kernel
theorem yw_1 : ∀ w ∈ vx_atS "VectorLanguage" 48 "java/lang/IllegalStateException" yns, w ∈ zbig ∨ (w ∈ ynst ∧ w.onTables = true) := yhat (is := [10, 258, 267, 274, 277, 279, 259, 260, 32, 33, 261, 266, 275, 295, 248, 296, 250, 297, 252, 262, 264, 254, 291, 292, 294, 254, 318, 319, 320, 285, 240, 285, 286, 287, 288, 242, 288, 289, 290, 291, 244, 317, 308, 309, 310, 270, 311, 312, 313, 314, 257, 256, 315]) (by decide +kernel) (by decide +kernel)
theorem yg_1 : ∀ w ∈ Cond.classLink "VectorLanguage" 44 "java/lang/IllegalStateException" :: Cond.initialized "java/lang/IllegalStateException" :: vx_atS "VectorLanguage" 48 "java/lang/IllegalStateException" yns, vx_ot w = true := by decide +kernel
theorem yw_2 : ∀ w ∈ vx_atS "VectorLanguage" 137 "java/lang/UnsupportedOperationException" yns, w ∈ zbig ∨ (w ∈ ynst ∧ w.onTables = true) := yhat (is := [10, 258, 267, 274, 277, 279, 259, 260, 32, 33, 261, 266, 275, 295, 248, 296, 250, 297, 252, 262, 264, 254, 291, 292, 294, 254, 677, 678, 679, 285, 240, 285, 286, 287, 288, 242, 288, 289, 290, 291, 244, 676, 667, 668, 669, 272, 670, 671, 672, 673, 257, 256, 674]) (by decide +kernel) (by decide +kernel)
theorem yg_2 : ∀ w ∈ Cond.classLink "VectorLanguage" 133 "java/lang/UnsupportedOperationException" :: Cond.initialized "java/lang/UnsupportedOperationException" :: vx_atS "VectorLanguage" 137 "java/lang/UnsupportedOperationException" yns, vx_ot w = true := by decide +kernel
theorem yw_3 : ∀ w ∈ vx_atY "VectorLanguage" 66 "java/util/NoSuchElementException" "java/lang/RuntimeException" 13 prog_28_method_4_code yns1, w ∈ zbig ∨ (w ∈ ynst ∧ w.onTables = true) := yhat (is := [10, 258, 267, 274, 277, 279, 259, 260, 32, 33, 261, 266, 275, 295, 248, 296, 250, 297, 252, 262, 264, 254, 291, 292, 294, 254, 379, 380, 381, 285, 240, 285, 286, 287, 288, 242, 288, 289, 290, 291, 244, 378, 369, 370, 371, 273, 372, 373, 374, 375, 257, 256, 376]) (by decide +kernel) (by decide +kernel)
theorem yg_3 : ∀ w ∈ Cond.classLink "VectorLanguage" 62 "java/util/NoSuchElementException" :: Cond.initialized "java/util/NoSuchElementException" :: vx_atY "VectorLanguage" 66 "java/util/NoSuchElementException" "java/lang/RuntimeException" 13 prog_28_method_4_code yns1, vx_ot w = true := by decide +kernel
theorem yw_4 : ∀ w ∈ vx_atS "VectorLanguage" 144 "java/lang/ArithmeticException" yns, w ∈ zbig ∨ (w ∈ ynst ∧ w.onTables = true) := yhat (is := [10, 258, 267, 274, 277, 279, 259, 260, 32, 33, 261, 266, 275, 295, 248, 296, 250, 297, 252, 262, 264, 254, 291, 292, 294, 254, 694, 695, 696, 285, 240, 285, 286, 287, 288, 242, 288, 289, 290, 291, 244, 693, 684, 685, 686, 269, 687, 688, 689, 690, 257, 256, 691]) (by decide +kernel) (by decide +kernel)
theorem yg_4 : ∀ w ∈ Cond.classLink "VectorLanguage" 140 "java/lang/ArithmeticException" :: Cond.initialized "java/lang/ArithmeticException" :: vx_atS "VectorLanguage" 144 "java/lang/ArithmeticException" yns, vx_ot w = true := by decide +kernel
theorem yw_5 : ∀ w ∈ vx_atS "VectorLanguage" 37 "java/lang/IllegalArgumentException" yns, w ∈ zbig ∨ (w ∈ ynst ∧ w.onTables = true) := yhat (is := [10, 258, 267, 274, 277, 279, 259, 260, 32, 33, 261, 266, 275, 295, 248, 296, 250, 297, 252, 262, 264, 254, 291, 292, 294, 254, 282, 283, 284, 285, 240, 285, 286, 287, 288, 242, 288, 289, 290, 291, 244, 281, 237, 238, 245, 246, 247, 249, 251, 253, 257, 256, 255]) (by decide +kernel) (by decide +kernel)
theorem yg_5 : ∀ w ∈ Cond.classLink "VectorLanguage" 33 "java/lang/IllegalArgumentException" :: Cond.initialized "java/lang/IllegalArgumentException" :: vx_atS "VectorLanguage" 37 "java/lang/IllegalArgumentException" yns, vx_ot w = true := by decide +kernel
def yOK (l : Launch) (D : va_G) (dA : Nat → ClassId) (b0 : Nat) (U : yU) (μ pc : Nat) (tr : zP → zP) : Prop := yS l ymt yeh zbig ynst D zcls (ztys dA) b0 (yXX b0 U) μ pc tr
theorem yap {l : Launch} {D : va_G} {dA : Nat → ClassId} {b0 μ pc : Nat} {U : yU} {tr : zP → zP} {L : List (Nat × (zP → zP))} (h2 : yS l ymt yeh zbig ynst D zcls (ztys dA) b0 (yXX b0 U) μ pc tr) (t : ∀ q ∈ L, yOK l D dA b0 U μ q.1 q.2) : ∀ q ∈ (pc, tr) :: L, yOK l D dA b0 U μ q.1 q.2 := List.forall_mem_cons.mpr ⟨h2, t⟩
theorem yam {pc : Nat} {tr : zP → zP} {L : List (Nat × (zP → zP))} (h : zMono tr) (t : ∀ q ∈ L, zMono q.2) : ∀ q ∈ (pc, tr) :: L, zMono q.2 := List.forall_mem_cons.mpr ⟨h, t⟩
/-- VectorLanguage.refuse(I)I -/
def ytb0 (_ : Nat → ClassId) (_ : yU) : List (Nat × (zP → zP)) := [(0, zi (gIl 0) 1), (1, zsw [(1, 52), (2, 62), (3, 72), (4, 82), (5, 92), (6, 72), (7, 92), (8, 52), (9, 62)] 92), (52, ythr 3), (62, ythr 1), (72, ythr 4), (82, ythr 2), (92, ythr 5)]
set_option maxRecDepth 100000 in
theorem ymo0 (dA : Nat → ClassId) (U : yU) : ∀ q ∈ ytb0 dA U, zMono q.2 := by
  refine yam (zi_mono _ _) ?_
  refine yam (zsw_mono _ _) ?_
  refine yam (ythr_mono _) ?_
  refine yam (ythr_mono _) ?_
  refine yam (ythr_mono _) ?_
  refine yam (ythr_mono _) ?_
  refine yam (ythr_mono _) ?_
  exact zn
set_option maxRecDepth 100000 in
theorem yok0 (l : Launch) (hl : l.stackTraces = false) (D : va_G) (dA : Nat → ClassId) (b0 : Nat) (U : yU) (hb : U.1 < b0) : ∀ q ∈ ytb0 dA U, yOK l D dA b0 U 0 q.1 q.2 := by
  refine yap (yi_ok (zg_iload_n (j := 0) (by decide +kernel) rfl)) ?_
  refine yap (ysw_tab (off := 91) (lo := 1) (hi := 9) (offs := #[51, 61, 71, 81, 91, 71, 91, 51, 61]) (len := 51) (by decide +kernel) (by decide +kernel) (by decide +kernel) (by decide +kernel)) ?_
  refine yap (ythr_ok hl (E := "java/lang/IndexOutOfBoundsException") (text := "too many elements, or a wrong index") (names := yns) (ik := 89) (is := 129) (ic := 93) (x := 3) rfl (fun s h => ⟨h.1, h.2.1, h.2.2.1 (129, "too many elements, or a wrong index") (List.mem_of_getElem? (i := 0) rfl)⟩) rfl (by decide +kernel) yns_fit (by decide +kernel) (zin 649 (by decide +kernel) rfl) (zin 23 (by decide +kernel) rfl) yw_0 yg_0 (by decide +kernel) (by decide +kernel) (by decide +kernel) (by decide +kernel) (by decide +kernel)) ?_
  refine yap (ythr_ok hl (E := "java/lang/IllegalStateException") (text := "an argument wanted within itself, or a limit reached") (names := yns) (ik := 44) (is := 131) (ic := 48) (x := 1) rfl (fun s h => ⟨h.1, h.2.1, h.2.2.1 (131, "an argument wanted within itself, or a limit reached") (List.mem_of_getElem? (i := 1) rfl)⟩) rfl (by decide +kernel) yns_fit (by decide +kernel) (zin 307 (by decide +kernel) rfl) (zin 14 (by decide +kernel) rfl) yw_1 yg_1 (by decide +kernel) (by decide +kernel) (by decide +kernel) (by decide +kernel) (by decide +kernel)) ?_
  refine yap (ythr_ok hl (E := "java/lang/UnsupportedOperationException") (text := "a wrong sort of value, or a wrong call") (names := yns) (ik := 133) (is := 135) (ic := 137) (x := 4) rfl (fun s h => ⟨h.1, h.2.1, h.2.2.1 (135, "a wrong sort of value, or a wrong call") (List.mem_of_getElem? (i := 2) rfl)⟩) rfl (by decide +kernel) yns_fit (by decide +kernel) (zin 666 (by decide +kernel) rfl) (zin 24 (by decide +kernel) rfl) yw_2 yg_2 (by decide +kernel) (by decide +kernel) (by decide +kernel) (by decide +kernel) (by decide +kernel)) ?_
  refine yap (ythrN_ok hl (E := "java/util/NoSuchElementException") (sup := "java/lang/RuntimeException") (text := "a variable without a value") (bytes := prog_28_method_4_code) (ix := 13) (names := yns1) (ik := 62) (is := 138) (ic := 66) (x := 2) rfl (fun s h => ⟨h.1, h.2.1, h.2.2.1 (138, "a variable without a value") (List.mem_of_getElem? (i := 3) rfl)⟩) rfl (by decide +kernel) (by decide +kernel) (by decide +kernel) (by decide +kernel) (by decide +kernel) (by decide +kernel) yns1_fit (by decide +kernel) (zin 368 (by decide +kernel) rfl) (zin 16 (by decide +kernel) rfl) yw_3 yg_3 (by decide +kernel) (by decide +kernel) (by decide +kernel) (by decide +kernel) (by decide +kernel)) ?_
  refine yap (ythr_ok hl (E := "java/lang/ArithmeticException") (text := "no element, no condition, or a failure raised") (names := yns) (ik := 140) (is := 142) (ic := 144) (x := 5) rfl (fun s h => ⟨h.1, h.2.1, h.2.2.1 (142, "no element, no condition, or a failure raised") (List.mem_of_getElem? (i := 4) rfl)⟩) rfl (by decide +kernel) yns_fit (by decide +kernel) (zin 683 (by decide +kernel) rfl) (zin 25 (by decide +kernel) rfl) yw_4 yg_4 (by decide +kernel) (by decide +kernel) (by decide +kernel) (by decide +kernel) (by decide +kernel)) ?_
  exact zn
/-- VectorLanguage.expression(IIII)I -/
def ytb1 (dA : Nat → ClassId) (_ : yU) : List (Nat × (zP → zP)) := [(0, zi (gAl 0) 1), (1, zget 0 0), (4, zi (gIl 1) 1), (5, zi (gIl 2) 1), (6, zi (gIl 3) 1), (7, zi (gIl 4) 2), (9, ycV (zx dA) 5 14 4 1), (12, zb (c1 (fun x => ¬ x = 0)) 25), (15, ythr 0), (25, zi (gAl 0) 1), (26, zget 0 0), (29, zget 1 1), (32, zi (gC (.int (120))) 2), (34, zb (c2 (fun x y => x < y)) 47), (37, ythr 1), (47, zi (gAl 0) 1), (48, zget 0 0), (51, znew 6 5 dC6), (54, zi (gDup) 1), (55, zi (gIl 1) 1), (56, zi (gIl 2) 1), (57, zi (gIl 3) 1), (58, zi (gIl 4) 2), (60, ycI (zx dA) 5 20 4), (63, ycV (zx dA) 2 21 1 1), (66, zretI)]
set_option maxRecDepth 100000 in
theorem ymo1 (dA : Nat → ClassId) (U : yU) : ∀ q ∈ ytb1 dA U, zMono q.2 := by
  refine yam (zi_mono _ _) ?_
  refine yam (zget_mono _ _) ?_
  refine yam (zi_mono _ _) ?_
  refine yam (zi_mono _ _) ?_
  refine yam (zi_mono _ _) ?_
  refine yam (zi_mono _ _) ?_
  refine yam (ycV_mono _ _ _ _ _) ?_
  refine yam (zb_mono _ _) ?_
  refine yam (ythr_mono _) ?_
  refine yam (zi_mono _ _) ?_
  refine yam (zget_mono _ _) ?_
  refine yam (zget_mono _ _) ?_
  refine yam (zi_mono _ _) ?_
  refine yam (zb_mono _ _) ?_
  refine yam (ythr_mono _) ?_
  refine yam (zi_mono _ _) ?_
  refine yam (zget_mono _ _) ?_
  refine yam (znew_mono _ _ _) ?_
  refine yam (zi_mono _ _) ?_
  refine yam (zi_mono _ _) ?_
  refine yam (zi_mono _ _) ?_
  refine yam (zi_mono _ _) ?_
  refine yam (zi_mono _ _) ?_
  refine yam (ycI_mono _ _ _ _) ?_
  refine yam (ycV_mono _ _ _ _ _) ?_
  refine yam (zretI_mono) ?_
  exact zn
set_option maxRecDepth 100000 in
theorem yok1 (l : Launch) (hl : l.stackTraces = false) (D : va_G) (dA : Nat → ClassId) (b0 : Nat) (U : yU) (hb : U.1 < b0) : ∀ q ∈ ytb1 dA U, yOK l D dA b0 U 1 q.1 q.2 := by
  refine yap (yi_ok (zg_aload_n (j := 0) (by decide +kernel) rfl)) ?_
  refine yap (yget_ok (index := 10) (C := RC0) (ref := "VectorLanguage") (T := FC0) (NN := 3) (by decide +kernel) rfl iC0 (by decide +kernel) (zin 177 (by decide +kernel) rfl) rfl) ?_
  refine yap (yi_ok (zg_iload_n (j := 1) (by decide +kernel) rfl)) ?_
  refine yap (yi_ok (zg_iload_n (j := 2) (by decide +kernel) rfl)) ?_
  refine yap (yi_ok (zg_iload_n (j := 3) (by decide +kernel) rfl)) ?_
  refine yap (yi_ok (zg_iload (by decide +kernel))) ?_
  refine yap (ycV_ok (mt0 := zmt) znst_st ynsub yzx (μ' := 14) (na := 4) (ci := 1) (index := 29) (q := (RC1, FC1, 2)) (by decide +kernel) (by decide +kernel) rfl (zgV (zin 212 (by decide +kernel) rfl) (zin 213 (by decide +kernel) rfl) (zin 214 (by decide +kernel) rfl) (zin 2 (by decide +kernel) rfl) (zin 215 (by decide +kernel) rfl)) (by decide +kernel) (by decide +kernel)) ?_
  refine yap (yb_ok (zb_ne (off := 13) (by decide +kernel) (by decide +kernel))) ?_
  refine yap (ythr_ok hl (E := "java/lang/IllegalArgumentException") (text := "no expression can be made of this") (names := yns) (ik := 33) (is := 35) (ic := 37) (x := 0) rfl (fun s h => ⟨h.1, h.2.1, h.2.2.1 (35, "no expression can be made of this") (List.mem_of_getElem? (i := 5) rfl)⟩) rfl (by decide +kernel) yns_fit (by decide +kernel) (zin 236 (by decide +kernel) rfl) (zin 13 (by decide +kernel) rfl) yw_5 yg_5 (by decide +kernel) (by decide +kernel) (by decide +kernel) (by decide +kernel) (by decide +kernel)) ?_
  refine yap (yi_ok (zg_aload_n (j := 0) (by decide +kernel) rfl)) ?_
  refine yap (yget_ok (index := 10) (C := RC0) (ref := "VectorLanguage") (T := FC0) (NN := 3) (by decide +kernel) rfl iC0 (by decide +kernel) (zin 177 (by decide +kernel) rfl) rfl) ?_
  refine yap (yget_ok (index := 40) (C := RC1) (ref := "VectorLanguage$Program") (T := FC1) (NN := 2) (by decide +kernel) rfl iC1 (by decide +kernel) (zin 45 (by decide +kernel) rfl) rfl) ?_
  refine yap (yi_ok (zg_bipush (n := 120) (by decide +kernel) (by decide +kernel))) ?_
  refine yap (yb_ok (zb_ilt (off := 13) (by decide +kernel) (by decide +kernel))) ?_
  refine yap (ythr_ok hl (E := "java/lang/IllegalStateException") (text := "all expressions were made") (names := yns) (ik := 44) (is := 46) (ic := 48) (x := 1) rfl (fun s h => ⟨h.1, h.2.1, h.2.2.1 (46, "all expressions were made") (List.mem_of_getElem? (i := 6) rfl)⟩) rfl (by decide +kernel) yns_fit (by decide +kernel) (zin 307 (by decide +kernel) rfl) (zin 14 (by decide +kernel) rfl) yw_1 yg_1 (by decide +kernel) (by decide +kernel) (by decide +kernel) (by decide +kernel) (by decide +kernel)) ?_
  refine yap (yi_ok (zg_aload_n (j := 0) (by decide +kernel) rfl)) ?_
  refine yap (yget_ok (index := 10) (C := RC0) (ref := "VectorLanguage") (T := FC0) (NN := 3) (by decide +kernel) rfl iC0 (by decide +kernel) (zin 177 (by decide +kernel) rfl) rfl) ?_
  refine yap (ynew_ok (index := 49) (C := RC6) (T := FC6) tC6 (by decide +kernel) rfl iC6 tC6_ok (zin 323 (by decide +kernel) rfl) (zin 324 (by decide +kernel) rfl) (zin 15 (by decide +kernel) rfl) dC6_ok) ?_
  refine yap (yi_ok (zg_dup (by decide +kernel))) ?_
  refine yap (yi_ok (zg_iload_n (j := 1) (by decide +kernel) rfl)) ?_
  refine yap (yi_ok (zg_iload_n (j := 2) (by decide +kernel) rfl)) ?_
  refine yap (yi_ok (zg_iload_n (j := 3) (by decide +kernel) rfl)) ?_
  refine yap (yi_ok (zg_iload (by decide +kernel))) ?_
  refine yap (ycI_ok (mt0 := zmt) znst_st ynsub yzx (μ' := 20) (na := 4) (index := 51) (by decide +kernel) (by decide +kernel) rfl rfl (zgI (zin 327 (by decide +kernel) rfl)) (zin 15 (by decide +kernel) rfl) (zin 325 (by decide +kernel) rfl) (zin 326 (by decide +kernel) rfl) (by decide +kernel) (by decide +kernel)) ?_
  refine yap (ycV_ok (mt0 := zmt) znst_st ynsub yzx (μ' := 21) (na := 1) (ci := 1) (index := 54) (q := (RC1, FC1, 2)) (by decide +kernel) (by decide +kernel) rfl (zgV (zin 352 (by decide +kernel) rfl) (zin 353 (by decide +kernel) rfl) (zin 354 (by decide +kernel) rfl) (zin 2 (by decide +kernel) rfl) (zin 355 (by decide +kernel) rfl)) (by decide +kernel) (by decide +kernel)) ?_
  refine yap (yretI_ok (by decide +kernel) rfl) ?_
  exact zn
/-- VectorLanguage.run(I)I -/
def ytb2 (dA : Nat → ClassId) (_ : yU) : List (Nat × (zP → zP)) := [(0, zi (gAl 0) 1), (1, zget 0 0), (4, zi (gIl 1) 1), (5, ycV (zx dA) 2 16 1 1), (8, zb (c1 (fun x => ¬ x = 0)) 21), (11, ythr 2), (21, zi (gAl 0) 1), (22, zget 0 1), (25, zi (gIl 1) 1), (26, ycV (zx dA) 3 23 1 2), (29, zi (gAs 2) 1), (30, zi (gAl 2) 1), (31, zb (cNN) 45), (34, zi (gAl 0) 1), (35, zget 0 1), (38, zget 2 5), (41, ytS 1 0 1), (44, zretI), (45, zi (gAl 0) 1), (46, zi (gAl 2) 1), (47, zput (.object "VectorLanguage$Value") 0 2), (50, zi (gAl 2) 1), (51, zor (ycV (zx dA) 1 81 0 5) (ycV (zx dA) 1 80 0 7)), (54, zretI)]
set_option maxRecDepth 100000 in
theorem ymo2 (dA : Nat → ClassId) (U : yU) : ∀ q ∈ ytb2 dA U, zMono q.2 := by
  refine yam (zi_mono _ _) ?_
  refine yam (zget_mono _ _) ?_
  refine yam (zi_mono _ _) ?_
  refine yam (ycV_mono _ _ _ _ _) ?_
  refine yam (zb_mono _ _) ?_
  refine yam (ythr_mono _) ?_
  refine yam (zi_mono _ _) ?_
  refine yam (zget_mono _ _) ?_
  refine yam (zi_mono _ _) ?_
  refine yam (ycV_mono _ _ _ _ _) ?_
  refine yam (zi_mono _ _) ?_
  refine yam (zi_mono _ _) ?_
  refine yam (zb_mono _ _) ?_
  refine yam (zi_mono _ _) ?_
  refine yam (zget_mono _ _) ?_
  refine yam (zget_mono _ _) ?_
  refine yam (ytS_mono _ _ _) ?_
  refine yam (zretI_mono) ?_
  refine yam (zi_mono _ _) ?_
  refine yam (zi_mono _ _) ?_
  refine yam (zput_mono _ _ _) ?_
  refine yam (zi_mono _ _) ?_
  refine yam (zor_mono (ycV_mono _ _ _ _ _) (ycV_mono _ _ _ _ _)) ?_
  refine yam (zretI_mono) ?_
  exact zn
set_option maxRecDepth 100000 in
theorem yok2 (l : Launch) (hl : l.stackTraces = false) (D : va_G) (dA : Nat → ClassId) (b0 : Nat) (U : yU) (hb : U.1 < b0) : ∀ q ∈ ytb2 dA U, yOK l D dA b0 U 2 q.1 q.2 := by
  refine yap (yi_ok (zg_aload_n (j := 0) (by decide +kernel) rfl)) ?_
  refine yap (yget_ok (index := 10) (C := RC0) (ref := "VectorLanguage") (T := FC0) (NN := 3) (by decide +kernel) rfl iC0 (by decide +kernel) (zin 177 (by decide +kernel) rfl) rfl) ?_
  refine yap (yi_ok (zg_iload_n (j := 1) (by decide +kernel) rfl)) ?_
  refine yap (ycV_ok (mt0 := zmt) znst_st ynsub yzx (μ' := 16) (na := 1) (ci := 1) (index := 58) (q := (RC1, FC1, 2)) (by decide +kernel) (by decide +kernel) rfl (zgV (zin 367 (by decide +kernel) rfl) (zin 222 (by decide +kernel) rfl) (zin 223 (by decide +kernel) rfl) (zin 2 (by decide +kernel) rfl) (zin 224 (by decide +kernel) rfl)) (by decide +kernel) (by decide +kernel)) ?_
  refine yap (yb_ok (zb_ne (off := 13) (by decide +kernel) (by decide +kernel))) ?_
  refine yap (ythrN_ok hl (E := "java/util/NoSuchElementException") (sup := "java/lang/RuntimeException") (text := "no such expression") (bytes := prog_28_method_4_code) (ix := 13) (names := yns1) (ik := 62) (is := 64) (ic := 66) (x := 2) rfl (fun s h => ⟨h.1, h.2.1, h.2.2.1 (64, "no such expression") (List.mem_of_getElem? (i := 7) rfl)⟩) rfl (by decide +kernel) (by decide +kernel) (by decide +kernel) (by decide +kernel) (by decide +kernel) (by decide +kernel) yns1_fit (by decide +kernel) (zin 368 (by decide +kernel) rfl) (zin 16 (by decide +kernel) rfl) yw_3 yg_3 (by decide +kernel) (by decide +kernel) (by decide +kernel) (by decide +kernel) (by decide +kernel)) ?_
  refine yap (yi_ok (zg_aload_n (j := 0) (by decide +kernel) rfl)) ?_
  refine yap (yget_ok (index := 21) (C := RC0) (ref := "VectorLanguage") (T := FC0) (NN := 3) (by decide +kernel) rfl iC0 (by decide +kernel) (zin 178 (by decide +kernel) rfl) rfl) ?_
  refine yap (yi_ok (zg_iload_n (j := 1) (by decide +kernel) rfl)) ?_
  refine yap (ycV_ok (mt0 := zmt) znst_st ynsub yzx (μ' := 23) (na := 1) (ci := 2) (index := 67) (q := (RC2, FC2, 13)) (by decide +kernel) (by decide +kernel) rfl (zgV (zin 384 (by decide +kernel) rfl) (zin 385 (by decide +kernel) rfl) (zin 386 (by decide +kernel) rfl) (zin 3 (by decide +kernel) rfl) (zin 387 (by decide +kernel) rfl)) (by decide +kernel) (by decide +kernel)) ?_
  refine yap (yi_ok (zg_astore_n (j := 2) (by decide +kernel) rfl (by decide +kernel))) ?_
  refine yap (yi_ok (zg_aload_n (j := 2) (by decide +kernel) rfl)) ?_
  refine yap (yb_ok (zb_nonnull (off := 14) (by decide +kernel) (by decide +kernel))) ?_
  refine yap (yi_ok (zg_aload_n (j := 0) (by decide +kernel) rfl)) ?_
  refine yap (yget_ok (index := 21) (C := RC0) (ref := "VectorLanguage") (T := FC0) (NN := 3) (by decide +kernel) rfl iC0 (by decide +kernel) (zin 178 (by decide +kernel) rfl) rfl) ?_
  refine yap (yget_ok (index := 71) (C := RC2) (ref := "VectorLanguage$Evaluator") (T := FC2) (NN := 13) (by decide +kernel) rfl iC2 (by decide +kernel) (zin 142 (by decide +kernel) rfl) rfl) ?_
  refine yap (ytS_ok ynst_st (yXX_kp hb) (μ' := 0) (na := 1) (index := 74) (by decide +kernel) (by decide +kernel) rfl rfl (zgS (zin 646 (by decide +kernel) rfl) (zin 647 (by decide +kernel) rfl) (zin 1 (by decide +kernel) rfl) (zin 648 (by decide +kernel) rfl)) (by decide +kernel) (by decide +kernel)) ?_
  refine yap (yretI_ok (by decide +kernel) rfl) ?_
  refine yap (yi_ok (zg_aload_n (j := 0) (by decide +kernel) rfl)) ?_
  refine yap (yi_ok (zg_aload_n (j := 2) (by decide +kernel) rfl)) ?_
  refine yap (yput_ok (index := 25) (C := RC0) (ref := "VectorLanguage") (T := FC0) (NN := 3) tC0 (by decide +kernel) rfl iC0 tC0_ok nC0 (by decide +kernel) (zin 179 (by decide +kernel) rfl) rfl (Or.inl rfl) rfl) ?_
  refine yap (yi_ok (zg_aload_n (j := 2) (by decide +kernel) rfl)) ?_
  refine yap (yor_ok (ycA_ok (mt0 := zmt) znst_st ynsub yzx (μ' := 81) (na := 0) (ci := 5) (index := 78) (owner := "VectorLanguage$Value") (x := ⟨"VectorLanguage$Value", "size", "()I"⟩) (q := (RC5, FC5, 1)) (by decide +kernel) (by decide +kernel) rfl (zgU (zin 699 (by decide +kernel) rfl) (zin 701 (by decide +kernel) rfl) (zin 705 (by decide +kernel) rfl) (zin 706 (by decide +kernel) rfl) (zin 8 (by decide +kernel) rfl) (zin 707 (by decide +kernel) rfl)) (ynl (i := 16) rfl) (by decide +kernel) (by decide +kernel)) (ycA_ok (mt0 := zmt) znst_st ynsub yzx (μ' := 80) (na := 0) (ci := 7) (index := 78) (owner := "VectorLanguage$Value") (x := ⟨"VectorLanguage$Value", "size", "()I"⟩) (q := (RC7, FC7, 4)) (by decide +kernel) (by decide +kernel) rfl (zgU (zin 699 (by decide +kernel) rfl) (zin 701 (by decide +kernel) rfl) (zin 702 (by decide +kernel) rfl) (zin 703 (by decide +kernel) rfl) (zin 21 (by decide +kernel) rfl) (zin 704 (by decide +kernel) rfl)) (ynl (i := 16) rfl) (by decide +kernel) (by decide +kernel))) ?_
  refine yap (yretI_ok (by decide +kernel) rfl) ?_
  exact zn
/-- VectorLanguage.element(I)I -/
def ytb3 (dA : Nat → ClassId) (_ : yU) : List (Nat × (zP → zP)) := [(0, zi (gAl 0) 1), (1, zget 0 2), (4, zi (gAs 3) 1), (5, zi (gAl 3) 1), (6, zinst [5] [7, 8]), (9, zb (c1 (fun x => x = 0)) 42), (12, zi (gAl 3) 1), (13, zcast [5]), (16, zi (gAs 2) 1), (17, zi (gAl 2) 1), (18, zi (gIl 1) 1), (19, ycV (zx dA) 2 83 1 5), (22, zb (c1 (fun x => ¬ x = 0)) 35), (25, ythr 3), (35, zi (gAl 2) 1), (36, zget 5 0), (39, zi (gIl 1) 1), (40, ziald (ztys dA)), (41, zretI), (42, ythr 1)]
set_option maxRecDepth 100000 in
theorem ymo3 (dA : Nat → ClassId) (U : yU) : ∀ q ∈ ytb3 dA U, zMono q.2 := by
  refine yam (zi_mono _ _) ?_
  refine yam (zget_mono _ _) ?_
  refine yam (zi_mono _ _) ?_
  refine yam (zi_mono _ _) ?_
  refine yam (zinst_mono _ _) ?_
  refine yam (zb_mono _ _) ?_
  refine yam (zi_mono _ _) ?_
  refine yam (zcast_mono _) ?_
  refine yam (zi_mono _ _) ?_
  refine yam (zi_mono _ _) ?_
  refine yam (zi_mono _ _) ?_
  refine yam (ycV_mono _ _ _ _ _) ?_
  refine yam (zb_mono _ _) ?_
  refine yam (ythr_mono _) ?_
  refine yam (zi_mono _ _) ?_
  refine yam (zget_mono _ _) ?_
  refine yam (zi_mono _ _) ?_
  refine yam (ziald_mono _) ?_
  refine yam (zretI_mono) ?_
  refine yam (ythr_mono _) ?_
  exact zn
set_option maxRecDepth 100000 in
theorem yok3 (l : Launch) (hl : l.stackTraces = false) (D : va_G) (dA : Nat → ClassId) (b0 : Nat) (U : yU) (hb : U.1 < b0) : ∀ q ∈ ytb3 dA U, yOK l D dA b0 U 3 q.1 q.2 := by
  refine yap (yi_ok (zg_aload_n (j := 0) (by decide +kernel) rfl)) ?_
  refine yap (yget_ok (index := 25) (C := RC0) (ref := "VectorLanguage") (T := FC0) (NN := 3) (by decide +kernel) rfl iC0 (by decide +kernel) (zin 179 (by decide +kernel) rfl) rfl) ?_
  refine yap (yi_ok (zg_astore_n (j := 3) (by decide +kernel) rfl (by decide +kernel))) ?_
  refine yap (yi_ok (zg_aload_n (j := 3) (by decide +kernel) rfl)) ?_
  refine yap (yinst_ok (index := 84) (nm := "VectorLanguage$Vector") (by decide +kernel) (zin 715 (by decide +kernel) rfl) (za ⟨_, rfl, (ynl (i := 11) rfl)⟩ (zn)) (za ⟨_, rfl, (ynl (i := 22) rfl)⟩ (za ⟨_, rfl, (ynl (i := 23) rfl)⟩ (zn)))) ?_
  refine yap (yb_ok (zb_eq (off := 33) (by decide +kernel) (by decide +kernel))) ?_
  refine yap (yi_ok (zg_aload_n (j := 3) (by decide +kernel) rfl)) ?_
  refine yap (ycast_ok (index := 84) (nm := "VectorLanguage$Vector") (by decide +kernel) (zin 715 (by decide +kernel) rfl) (za ⟨_, rfl, (ynl (i := 11) rfl)⟩ (zn))) ?_
  refine yap (yi_ok (zg_astore_n (j := 2) (by decide +kernel) rfl (by decide +kernel))) ?_
  refine yap (yi_ok (zg_aload_n (j := 2) (by decide +kernel) rfl)) ?_
  refine yap (yi_ok (zg_iload_n (j := 1) (by decide +kernel) rfl)) ?_
  refine yap (ycV_ok (mt0 := zmt) znst_st ynsub yzx (μ' := 83) (na := 1) (ci := 5) (index := 86) (q := (RC5, FC5, 1)) (by decide +kernel) (by decide +kernel) rfl (zgV (zin 716 (by decide +kernel) rfl) (zin 717 (by decide +kernel) rfl) (zin 718 (by decide +kernel) rfl) (zin 8 (by decide +kernel) rfl) (zin 719 (by decide +kernel) rfl)) (by decide +kernel) (by decide +kernel)) ?_
  refine yap (yb_ok (zb_ne (off := 13) (by decide +kernel) (by decide +kernel))) ?_
  refine yap (ythr_ok hl (E := "java/lang/IndexOutOfBoundsException") (text := "no such element") (names := yns) (ik := 89) (is := 91) (ic := 93) (x := 3) rfl (fun s h => ⟨h.1, h.2.1, h.2.2.1 (91, "no such element") (List.mem_of_getElem? (i := 8) rfl)⟩) rfl (by decide +kernel) yns_fit (by decide +kernel) (zin 649 (by decide +kernel) rfl) (zin 23 (by decide +kernel) rfl) yw_0 yg_0 (by decide +kernel) (by decide +kernel) (by decide +kernel) (by decide +kernel) (by decide +kernel)) ?_
  refine yap (yi_ok (zg_aload_n (j := 2) (by decide +kernel) rfl)) ?_
  refine yap (yget_ok (index := 94) (C := RC5) (ref := "VectorLanguage$Vector") (T := FC5) (NN := 1) (by decide +kernel) rfl iC5 (by decide +kernel) (zin 123 (by decide +kernel) rfl) rfl) ?_
  refine yap (yi_ok (zg_iload_n (j := 1) (by decide +kernel) rfl)) ?_
  refine yap (yiald_ok (by decide +kernel)) ?_
  refine yap (yretI_ok (by decide +kernel) rfl) ?_
  refine yap (ythr_ok hl (E := "java/lang/IllegalStateException") (text := "no vector was answered") (names := yns) (ik := 44) (is := 98) (ic := 48) (x := 1) rfl (fun s h => ⟨h.1, h.2.1, h.2.2.1 (98, "no vector was answered") (List.mem_of_getElem? (i := 9) rfl)⟩) rfl (by decide +kernel) yns_fit (by decide +kernel) (zin 307 (by decide +kernel) rfl) (zin 14 (by decide +kernel) rfl) yw_1 yg_1 (by decide +kernel) (by decide +kernel) (by decide +kernel) (by decide +kernel) (by decide +kernel)) ?_
  exact zn
/-- VectorLanguage.variable(I)I -/
def ytb4 (dA : Nat → ClassId) (_ : yU) : List (Nat × (zP → zP)) := [(0, zi (gIl 1) 1), (1, ycS (zx dA) 1 15 1), (4, zb (c1 (fun x => ¬ x = 0)) 17), (7, ythr 0), (17, zi (gAl 0) 1), (18, zget 0 1), (21, zget 2 1), (24, zget 3 0), (27, zi (gIl 1) 1), (28, zaald (ztys dA)), (29, zi (gAs 3) 1), (30, zi (gAl 3) 1), (31, zinst [7, 5] [8]), (34, zb (c1 (fun x => x = 0)) 49), (37, zi (gAl 3) 1), (38, zcast [7, 5]), (41, zi (gAs 2) 1), (42, zi (gAl 2) 1), (43, zor (ycV (zx dA) 1 81 0 5) (ycV (zx dA) 1 80 0 7)), (46, zj 51), (49, zi (gC (.int (-2))) 2), (51, zretI)]
set_option maxRecDepth 100000 in
theorem ymo4 (dA : Nat → ClassId) (U : yU) : ∀ q ∈ ytb4 dA U, zMono q.2 := by
  refine yam (zi_mono _ _) ?_
  refine yam (ycS_mono _ _ _ _) ?_
  refine yam (zb_mono _ _) ?_
  refine yam (ythr_mono _) ?_
  refine yam (zi_mono _ _) ?_
  refine yam (zget_mono _ _) ?_
  refine yam (zget_mono _ _) ?_
  refine yam (zget_mono _ _) ?_
  refine yam (zi_mono _ _) ?_
  refine yam (zaald_mono _) ?_
  refine yam (zi_mono _ _) ?_
  refine yam (zi_mono _ _) ?_
  refine yam (zinst_mono _ _) ?_
  refine yam (zb_mono _ _) ?_
  refine yam (zi_mono _ _) ?_
  refine yam (zcast_mono _) ?_
  refine yam (zi_mono _ _) ?_
  refine yam (zi_mono _ _) ?_
  refine yam (zor_mono (ycV_mono _ _ _ _ _) (ycV_mono _ _ _ _ _)) ?_
  refine yam (zj_mono _) ?_
  refine yam (zi_mono _ _) ?_
  refine yam (zretI_mono) ?_
  exact zn
set_option maxRecDepth 100000 in
theorem yok4 (l : Launch) (hl : l.stackTraces = false) (D : va_G) (dA : Nat → ClassId) (b0 : Nat) (U : yU) (hb : U.1 < b0) : ∀ q ∈ ytb4 dA U, yOK l D dA b0 U 4 q.1 q.2 := by
  refine yap (yi_ok (zg_iload_n (j := 1) (by decide +kernel) rfl)) ?_
  refine yap (ycS_ok (mt0 := zmt) znst_st ynsub yzx (μ' := 15) (na := 1) (index := 100) (by decide +kernel) (by decide +kernel) (zgS (zin 729 (by decide +kernel) rfl) (zin 219 (by decide +kernel) rfl) (zin 1 (by decide +kernel) rfl) (zin 220 (by decide +kernel) rfl)) (by decide +kernel) (by decide +kernel)) ?_
  refine yap (yb_ok (zb_ne (off := 13) (by decide +kernel) (by decide +kernel))) ?_
  refine yap (ythr_ok hl (E := "java/lang/IllegalArgumentException") (text := "no such variable") (names := yns) (ik := 33) (is := 103) (ic := 37) (x := 0) rfl (fun s h => ⟨h.1, h.2.1, h.2.2.1 (103, "no such variable") (List.mem_of_getElem? (i := 10) rfl)⟩) rfl (by decide +kernel) yns_fit (by decide +kernel) (zin 236 (by decide +kernel) rfl) (zin 13 (by decide +kernel) rfl) yw_5 yg_5 (by decide +kernel) (by decide +kernel) (by decide +kernel) (by decide +kernel) (by decide +kernel)) ?_
  refine yap (yi_ok (zg_aload_n (j := 0) (by decide +kernel) rfl)) ?_
  refine yap (yget_ok (index := 21) (C := RC0) (ref := "VectorLanguage") (T := FC0) (NN := 3) (by decide +kernel) rfl iC0 (by decide +kernel) (zin 178 (by decide +kernel) rfl) rfl) ?_
  refine yap (yget_ok (index := 105) (C := RC2) (ref := "VectorLanguage$Evaluator") (T := FC2) (NN := 13) (by decide +kernel) rfl iC2 (by decide +kernel) (zin 134 (by decide +kernel) rfl) rfl) ?_
  refine yap (yget_ok (index := 109) (C := RC3) (ref := "VectorLanguage$Environment") (T := FC3) (NN := 5) (by decide +kernel) rfl iC3 (by decide +kernel) (zin 66 (by decide +kernel) rfl) rfl) ?_
  refine yap (yi_ok (zg_iload_n (j := 1) (by decide +kernel) rfl)) ?_
  refine yap (yaald_ok (by decide +kernel)) ?_
  refine yap (yi_ok (zg_astore_n (j := 3) (by decide +kernel) rfl (by decide +kernel))) ?_
  refine yap (yi_ok (zg_aload_n (j := 3) (by decide +kernel) rfl)) ?_
  refine yap (yinst_ok (index := 79) (nm := "VectorLanguage$Value") (by decide +kernel) (zin 731 (by decide +kernel) rfl) (za ⟨_, rfl, (ynl (i := 9) rfl)⟩ (za ⟨_, rfl, (ynl (i := 10) rfl)⟩ (zn))) (za ⟨_, rfl, (ynl (i := 21) rfl)⟩ (zn))) ?_
  refine yap (yb_ok (zb_eq (off := 15) (by decide +kernel) (by decide +kernel))) ?_
  refine yap (yi_ok (zg_aload_n (j := 3) (by decide +kernel) rfl)) ?_
  refine yap (ycast_ok (index := 79) (nm := "VectorLanguage$Value") (by decide +kernel) (zin 731 (by decide +kernel) rfl) (za ⟨_, rfl, (ynl (i := 9) rfl)⟩ (za ⟨_, rfl, (ynl (i := 10) rfl)⟩ (zn)))) ?_
  refine yap (yi_ok (zg_astore_n (j := 2) (by decide +kernel) rfl (by decide +kernel))) ?_
  refine yap (yi_ok (zg_aload_n (j := 2) (by decide +kernel) rfl)) ?_
  refine yap (yor_ok (ycA_ok (mt0 := zmt) znst_st ynsub yzx (μ' := 81) (na := 0) (ci := 5) (index := 78) (owner := "VectorLanguage$Value") (x := ⟨"VectorLanguage$Value", "size", "()I"⟩) (q := (RC5, FC5, 1)) (by decide +kernel) (by decide +kernel) rfl (zgU (zin 699 (by decide +kernel) rfl) (zin 701 (by decide +kernel) rfl) (zin 705 (by decide +kernel) rfl) (zin 706 (by decide +kernel) rfl) (zin 8 (by decide +kernel) rfl) (zin 707 (by decide +kernel) rfl)) (ynl (i := 16) rfl) (by decide +kernel) (by decide +kernel)) (ycA_ok (mt0 := zmt) znst_st ynsub yzx (μ' := 80) (na := 0) (ci := 7) (index := 78) (owner := "VectorLanguage$Value") (x := ⟨"VectorLanguage$Value", "size", "()I"⟩) (q := (RC7, FC7, 4)) (by decide +kernel) (by decide +kernel) rfl (zgU (zin 699 (by decide +kernel) rfl) (zin 701 (by decide +kernel) rfl) (zin 702 (by decide +kernel) rfl) (zin 703 (by decide +kernel) rfl) (zin 21 (by decide +kernel) rfl) (zin 704 (by decide +kernel) rfl)) (ynl (i := 16) rfl) (by decide +kernel) (by decide +kernel))) ?_
  refine yap (yj_ok (off := 5) (by decide +kernel) (by decide +kernel)) ?_
  refine yap (yi_ok (zg_bipush (n := -2) (by decide +kernel) (by decide +kernel))) ?_
  refine yap (yretI_ok (by decide +kernel) rfl) ?_
  exact zn
/-- VectorLanguage.value(II)I -/
def ytb5 (dA : Nat → ClassId) (_ : yU) : List (Nat × (zP → zP)) := [(0, zi (gIl 1) 1), (1, ycS (zx dA) 1 15 1), (4, zb (c1 (fun x => ¬ x = 0)) 17), (7, ythr 0), (17, zi (gAl 0) 1), (18, zget 0 1), (21, zget 2 1), (24, zget 3 0), (27, zi (gIl 1) 1), (28, zaald (ztys dA)), (29, zi (gAs 4) 2), (31, zi (gAl 4) 2), (33, zinst [5] [7, 8]), (36, zb (c1 (fun x => x = 0)) 60), (39, zi (gAl 4) 2), (41, zcast [5]), (44, zi (gAs 3) 1), (45, zi (gAl 3) 1), (46, zi (gIl 2) 1), (47, ycV (zx dA) 2 83 1 5), (50, zb (c1 (fun x => x = 0)) 60), (53, zi (gAl 3) 1), (54, zget 5 0), (57, zi (gIl 2) 1), (58, ziald (ztys dA)), (59, zretI), (60, ythr 2)]
set_option maxRecDepth 100000 in
theorem ymo5 (dA : Nat → ClassId) (U : yU) : ∀ q ∈ ytb5 dA U, zMono q.2 := by
  refine yam (zi_mono _ _) ?_
  refine yam (ycS_mono _ _ _ _) ?_
  refine yam (zb_mono _ _) ?_
  refine yam (ythr_mono _) ?_
  refine yam (zi_mono _ _) ?_
  refine yam (zget_mono _ _) ?_
  refine yam (zget_mono _ _) ?_
  refine yam (zget_mono _ _) ?_
  refine yam (zi_mono _ _) ?_
  refine yam (zaald_mono _) ?_
  refine yam (zi_mono _ _) ?_
  refine yam (zi_mono _ _) ?_
  refine yam (zinst_mono _ _) ?_
  refine yam (zb_mono _ _) ?_
  refine yam (zi_mono _ _) ?_
  refine yam (zcast_mono _) ?_
  refine yam (zi_mono _ _) ?_
  refine yam (zi_mono _ _) ?_
  refine yam (zi_mono _ _) ?_
  refine yam (ycV_mono _ _ _ _ _) ?_
  refine yam (zb_mono _ _) ?_
  refine yam (zi_mono _ _) ?_
  refine yam (zget_mono _ _) ?_
  refine yam (zi_mono _ _) ?_
  refine yam (ziald_mono _) ?_
  refine yam (zretI_mono) ?_
  refine yam (ythr_mono _) ?_
  exact zn
set_option maxRecDepth 100000 in
theorem yok5 (l : Launch) (hl : l.stackTraces = false) (D : va_G) (dA : Nat → ClassId) (b0 : Nat) (U : yU) (hb : U.1 < b0) : ∀ q ∈ ytb5 dA U, yOK l D dA b0 U 5 q.1 q.2 := by
  refine yap (yi_ok (zg_iload_n (j := 1) (by decide +kernel) rfl)) ?_
  refine yap (ycS_ok (mt0 := zmt) znst_st ynsub yzx (μ' := 15) (na := 1) (index := 100) (by decide +kernel) (by decide +kernel) (zgS (zin 729 (by decide +kernel) rfl) (zin 219 (by decide +kernel) rfl) (zin 1 (by decide +kernel) rfl) (zin 220 (by decide +kernel) rfl)) (by decide +kernel) (by decide +kernel)) ?_
  refine yap (yb_ok (zb_ne (off := 13) (by decide +kernel) (by decide +kernel))) ?_
  refine yap (ythr_ok hl (E := "java/lang/IllegalArgumentException") (text := "no such variable") (names := yns) (ik := 33) (is := 103) (ic := 37) (x := 0) rfl (fun s h => ⟨h.1, h.2.1, h.2.2.1 (103, "no such variable") (List.mem_of_getElem? (i := 10) rfl)⟩) rfl (by decide +kernel) yns_fit (by decide +kernel) (zin 236 (by decide +kernel) rfl) (zin 13 (by decide +kernel) rfl) yw_5 yg_5 (by decide +kernel) (by decide +kernel) (by decide +kernel) (by decide +kernel) (by decide +kernel)) ?_
  refine yap (yi_ok (zg_aload_n (j := 0) (by decide +kernel) rfl)) ?_
  refine yap (yget_ok (index := 21) (C := RC0) (ref := "VectorLanguage") (T := FC0) (NN := 3) (by decide +kernel) rfl iC0 (by decide +kernel) (zin 178 (by decide +kernel) rfl) rfl) ?_
  refine yap (yget_ok (index := 105) (C := RC2) (ref := "VectorLanguage$Evaluator") (T := FC2) (NN := 13) (by decide +kernel) rfl iC2 (by decide +kernel) (zin 134 (by decide +kernel) rfl) rfl) ?_
  refine yap (yget_ok (index := 109) (C := RC3) (ref := "VectorLanguage$Environment") (T := FC3) (NN := 5) (by decide +kernel) rfl iC3 (by decide +kernel) (zin 66 (by decide +kernel) rfl) rfl) ?_
  refine yap (yi_ok (zg_iload_n (j := 1) (by decide +kernel) rfl)) ?_
  refine yap (yaald_ok (by decide +kernel)) ?_
  refine yap (yi_ok (zg_astore (by decide +kernel) (by decide +kernel))) ?_
  refine yap (yi_ok (zg_aload (by decide +kernel))) ?_
  refine yap (yinst_ok (index := 84) (nm := "VectorLanguage$Vector") (by decide +kernel) (zin 715 (by decide +kernel) rfl) (za ⟨_, rfl, (ynl (i := 11) rfl)⟩ (zn)) (za ⟨_, rfl, (ynl (i := 22) rfl)⟩ (za ⟨_, rfl, (ynl (i := 23) rfl)⟩ (zn)))) ?_
  refine yap (yb_ok (zb_eq (off := 24) (by decide +kernel) (by decide +kernel))) ?_
  refine yap (yi_ok (zg_aload (by decide +kernel))) ?_
  refine yap (ycast_ok (index := 84) (nm := "VectorLanguage$Vector") (by decide +kernel) (zin 715 (by decide +kernel) rfl) (za ⟨_, rfl, (ynl (i := 11) rfl)⟩ (zn))) ?_
  refine yap (yi_ok (zg_astore_n (j := 3) (by decide +kernel) rfl (by decide +kernel))) ?_
  refine yap (yi_ok (zg_aload_n (j := 3) (by decide +kernel) rfl)) ?_
  refine yap (yi_ok (zg_iload_n (j := 2) (by decide +kernel) rfl)) ?_
  refine yap (ycV_ok (mt0 := zmt) znst_st ynsub yzx (μ' := 83) (na := 1) (ci := 5) (index := 86) (q := (RC5, FC5, 1)) (by decide +kernel) (by decide +kernel) rfl (zgV (zin 716 (by decide +kernel) rfl) (zin 717 (by decide +kernel) rfl) (zin 718 (by decide +kernel) rfl) (zin 8 (by decide +kernel) rfl) (zin 719 (by decide +kernel) rfl)) (by decide +kernel) (by decide +kernel)) ?_
  refine yap (yb_ok (zb_eq (off := 10) (by decide +kernel) (by decide +kernel))) ?_
  refine yap (yi_ok (zg_aload_n (j := 3) (by decide +kernel) rfl)) ?_
  refine yap (yget_ok (index := 94) (C := RC5) (ref := "VectorLanguage$Vector") (T := FC5) (NN := 1) (by decide +kernel) rfl iC5 (by decide +kernel) (zin 123 (by decide +kernel) rfl) rfl) ?_
  refine yap (yi_ok (zg_iload_n (j := 2) (by decide +kernel) rfl)) ?_
  refine yap (yiald_ok (by decide +kernel)) ?_
  refine yap (yretI_ok (by decide +kernel) rfl) ?_
  refine yap (ythrN_ok hl (E := "java/util/NoSuchElementException") (sup := "java/lang/RuntimeException") (text := "no such element") (bytes := prog_28_method_4_code) (ix := 13) (names := yns1) (ik := 62) (is := 91) (ic := 66) (x := 2) rfl (fun s h => ⟨h.1, h.2.1, h.2.2.1 (91, "no such element") (List.mem_of_getElem? (i := 8) rfl)⟩) rfl (by decide +kernel) (by decide +kernel) (by decide +kernel) (by decide +kernel) (by decide +kernel) (by decide +kernel) yns1_fit (by decide +kernel) (zin 368 (by decide +kernel) rfl) (zin 16 (by decide +kernel) rfl) yw_3 yg_3 (by decide +kernel) (by decide +kernel) (by decide +kernel) (by decide +kernel) (by decide +kernel)) ?_
  exact zn
/-- VectorLanguage.count(I)I -/
def ytb6 (_ : Nat → ClassId) (_ : yU) : List (Nat × (zP → zP)) := [(0, zi (gIl 1) 1), (1, zsw [(0, 32), (1, 40), (2, 48), (3, 56)] 64), (32, zi (gAl 0) 1), (33, zget 0 0), (36, zget 1 1), (39, zretI), (40, zi (gAl 0) 1), (41, zget 0 1), (44, zget 2 2), (47, zretI), (48, zi (gAl 0) 1), (49, zget 0 1), (52, zget 2 3), (55, zretI), (56, zi (gAl 0) 1), (57, zget 0 1), (60, zget 2 4), (63, zretI), (64, ythr 0)]
set_option maxRecDepth 100000 in
theorem ymo6 (dA : Nat → ClassId) (U : yU) : ∀ q ∈ ytb6 dA U, zMono q.2 := by
  refine yam (zi_mono _ _) ?_
  refine yam (zsw_mono _ _) ?_
  refine yam (zi_mono _ _) ?_
  refine yam (zget_mono _ _) ?_
  refine yam (zget_mono _ _) ?_
  refine yam (zretI_mono) ?_
  refine yam (zi_mono _ _) ?_
  refine yam (zget_mono _ _) ?_
  refine yam (zget_mono _ _) ?_
  refine yam (zretI_mono) ?_
  refine yam (zi_mono _ _) ?_
  refine yam (zget_mono _ _) ?_
  refine yam (zget_mono _ _) ?_
  refine yam (zretI_mono) ?_
  refine yam (zi_mono _ _) ?_
  refine yam (zget_mono _ _) ?_
  refine yam (zget_mono _ _) ?_
  refine yam (zretI_mono) ?_
  refine yam (ythr_mono _) ?_
  exact zn
set_option maxRecDepth 100000 in
theorem yok6 (l : Launch) (hl : l.stackTraces = false) (D : va_G) (dA : Nat → ClassId) (b0 : Nat) (U : yU) (hb : U.1 < b0) : ∀ q ∈ ytb6 dA U, yOK l D dA b0 U 6 q.1 q.2 := by
  refine yap (yi_ok (zg_iload_n (j := 1) (by decide +kernel) rfl)) ?_
  refine yap (ysw_tab (off := 63) (lo := 0) (hi := 3) (offs := #[31, 39, 47, 55]) (len := 31) (by decide +kernel) (by decide +kernel) (by decide +kernel) (by decide +kernel)) ?_
  refine yap (yi_ok (zg_aload_n (j := 0) (by decide +kernel) rfl)) ?_
  refine yap (yget_ok (index := 10) (C := RC0) (ref := "VectorLanguage") (T := FC0) (NN := 3) (by decide +kernel) rfl iC0 (by decide +kernel) (zin 177 (by decide +kernel) rfl) rfl) ?_
  refine yap (yget_ok (index := 40) (C := RC1) (ref := "VectorLanguage$Program") (T := FC1) (NN := 2) (by decide +kernel) rfl iC1 (by decide +kernel) (zin 45 (by decide +kernel) rfl) rfl) ?_
  refine yap (yretI_ok (by decide +kernel) rfl) ?_
  refine yap (yi_ok (zg_aload_n (j := 0) (by decide +kernel) rfl)) ?_
  refine yap (yget_ok (index := 21) (C := RC0) (ref := "VectorLanguage") (T := FC0) (NN := 3) (by decide +kernel) rfl iC0 (by decide +kernel) (zin 178 (by decide +kernel) rfl) rfl) ?_
  refine yap (yget_ok (index := 118) (C := RC2) (ref := "VectorLanguage$Evaluator") (T := FC2) (NN := 13) (by decide +kernel) rfl iC2 (by decide +kernel) (zin 136 (by decide +kernel) rfl) rfl) ?_
  refine yap (yretI_ok (by decide +kernel) rfl) ?_
  refine yap (yi_ok (zg_aload_n (j := 0) (by decide +kernel) rfl)) ?_
  refine yap (yget_ok (index := 21) (C := RC0) (ref := "VectorLanguage") (T := FC0) (NN := 3) (by decide +kernel) rfl iC0 (by decide +kernel) (zin 178 (by decide +kernel) rfl) rfl) ?_
  refine yap (yget_ok (index := 121) (C := RC2) (ref := "VectorLanguage$Evaluator") (T := FC2) (NN := 13) (by decide +kernel) rfl iC2 (by decide +kernel) (zin 138 (by decide +kernel) rfl) rfl) ?_
  refine yap (yretI_ok (by decide +kernel) rfl) ?_
  refine yap (yi_ok (zg_aload_n (j := 0) (by decide +kernel) rfl)) ?_
  refine yap (yget_ok (index := 21) (C := RC0) (ref := "VectorLanguage") (T := FC0) (NN := 3) (by decide +kernel) rfl iC0 (by decide +kernel) (zin 178 (by decide +kernel) rfl) rfl) ?_
  refine yap (yget_ok (index := 124) (C := RC2) (ref := "VectorLanguage$Evaluator") (T := FC2) (NN := 13) (by decide +kernel) rfl iC2 (by decide +kernel) (zin 140 (by decide +kernel) rfl) rfl) ?_
  refine yap (yretI_ok (by decide +kernel) rfl) ?_
  refine yap (ythr_ok hl (E := "java/lang/IllegalArgumentException") (text := "nothing is counted by this number") (names := yns) (ik := 33) (is := 127) (ic := 37) (x := 0) rfl (fun s h => ⟨h.1, h.2.1, h.2.2.1 (127, "nothing is counted by this number") (List.mem_of_getElem? (i := 11) rfl)⟩) rfl (by decide +kernel) yns_fit (by decide +kernel) (zin 236 (by decide +kernel) rfl) (zin 13 (by decide +kernel) rfl) yw_5 yg_5 (by decide +kernel) (by decide +kernel) (by decide +kernel) (by decide +kernel) (by decide +kernel)) ?_
  exact zn
/-- VectorLanguageLaw.expression(LVectorLanguage;IIII[J)I -/
def ytb7 (dA : Nat → ClassId) (_ : yU) : List (Nat × (zP → zP)) := [(0, zi (gAl 5) 2), (2, zi (gC (.int (0))) 1), (3, zi (gAl 0) 1), (4, zi (gIl 1) 1), (5, zi (gIl 2) 1), (6, zi (gIl 3) 1), (7, zi (gIl 4) 2), (9, yhV [(0, 17), (1, 21)] 5 1 4 0), (12, zi (gI2l) 1), (13, zlast (ztys dA)), (14, zj 25), (17, zi (gAs 6) 2), (19, zi (gC (.int (1))) 1), (20, zretI), (21, zi (gAs 6) 2), (23, zi (gC (.int (2))) 1), (24, zretI), (25, zi (gC (.int (0))) 1), (26, zretI)]
set_option maxRecDepth 100000 in
theorem ymo7 (dA : Nat → ClassId) (U : yU) : ∀ q ∈ ytb7 dA U, zMono q.2 := by
  refine yam (zi_mono _ _) ?_
  refine yam (zi_mono _ _) ?_
  refine yam (zi_mono _ _) ?_
  refine yam (zi_mono _ _) ?_
  refine yam (zi_mono _ _) ?_
  refine yam (zi_mono _ _) ?_
  refine yam (zi_mono _ _) ?_
  refine yam (yhV_mono _ _ _ _ _) ?_
  refine yam (zi_mono _ _) ?_
  refine yam (zlast_mono _) ?_
  refine yam (zj_mono _) ?_
  refine yam (zi_mono _ _) ?_
  refine yam (zi_mono _ _) ?_
  refine yam (zretI_mono) ?_
  refine yam (zi_mono _ _) ?_
  refine yam (zi_mono _ _) ?_
  refine yam (zretI_mono) ?_
  refine yam (zi_mono _ _) ?_
  refine yam (zretI_mono) ?_
  exact zn
set_option maxRecDepth 100000 in
theorem yok7 (l : Launch) (hl : l.stackTraces = false) (D : va_G) (dA : Nat → ClassId) (b0 : Nat) (U : yU) (hb : U.1 < b0) : ∀ q ∈ ytb7 dA U, yOK l D dA b0 U 7 q.1 q.2 := by
  refine yap (yi_ok (zg_aload (by decide +kernel))) ?_
  refine yap (yi_ok (zg_iconst (n := 0) (by decide +kernel) (by decide +kernel))) ?_
  refine yap (yi_ok (zg_aload_n (j := 0) (by decide +kernel) rfl)) ?_
  refine yap (yi_ok (zg_iload_n (j := 1) (by decide +kernel) rfl)) ?_
  refine yap (yi_ok (zg_iload_n (j := 2) (by decide +kernel) rfl)) ?_
  refine yap (yi_ok (zg_iload_n (j := 3) (by decide +kernel) rfl)) ?_
  refine yap (yi_ok (zg_iload (by decide +kernel))) ?_
  refine yap (yhV_ok ynst_st (yXX_kp hb) (μ' := 1) (na := 4) (ci := 0) (index := 7) (q := (RC0, FC0, 3)) (za ⟨"java/lang/IllegalArgumentException", [], ⟨0, 14, 17, 13⟩, [⟨0, 14, 21, 15⟩], "java/lang/IllegalArgumentException", rfl, rfl, zn, (by decide +kernel), (by decide +kernel), (zin 206 (by decide +kernel) rfl), (ynr (i := 0) rfl), rfl⟩ (za ⟨"java/lang/IllegalStateException", [⟨0, 14, 17, 13⟩], ⟨0, 14, 21, 15⟩, [], "java/lang/IllegalStateException", rfl, rfl, za ⟨(by decide +kernel), "java/lang/IllegalArgumentException", (zin 206 (by decide +kernel) rfl), (ynr (i := 9) rfl)⟩ (zn), (by decide +kernel), (by decide +kernel), (zin 207 (by decide +kernel) rfl), (ynr (i := 1) rfl), rfl⟩ (zn))) (by decide +kernel) (by decide +kernel) rfl rfl (zgV (zin 208 (by decide +kernel) rfl) (zin 209 (by decide +kernel) rfl) (zin 210 (by decide +kernel) rfl) (zin 1 (by decide +kernel) rfl) (zin 211 (by decide +kernel) rfl)) (by decide +kernel) (by decide +kernel)) ?_
  refine yap (yi_ok (zg_i2l (by decide +kernel))) ?_
  refine yap (ylast_ok (by decide +kernel)) ?_
  refine yap (yj_ok (off := 11) (by decide +kernel) (by decide +kernel)) ?_
  refine yap (yi_ok (zg_astore (by decide +kernel) (by decide +kernel))) ?_
  refine yap (yi_ok (zg_iconst (n := 1) (by decide +kernel) (by decide +kernel))) ?_
  refine yap (yretI_ok (by decide +kernel) rfl) ?_
  refine yap (yi_ok (zg_astore (by decide +kernel) (by decide +kernel))) ?_
  refine yap (yi_ok (zg_iconst (n := 2) (by decide +kernel) (by decide +kernel))) ?_
  refine yap (yretI_ok (by decide +kernel) rfl) ?_
  refine yap (yi_ok (zg_iconst (n := 0) (by decide +kernel) (by decide +kernel))) ?_
  refine yap (yretI_ok (by decide +kernel) rfl) ?_
  exact zn
/-- VectorLanguageLaw.run(LVectorLanguage;I[J)I -/
def ytb8 (dA : Nat → ClassId) (_ : yU) : List (Nat × (zP → zP)) := [(0, zi (gAl 2) 1), (1, zi (gC (.int (0))) 1), (2, zi (gAl 0) 1), (3, zi (gIl 1) 1), (4, yhV [(2, 12), (3, 15), (1, 18), (4, 21), (5, 24)] 3 2 1 0), (7, zi (gI2l) 1), (8, zlast (ztys dA)), (9, zj 27), (12, zi (gAs 3) 1), (13, zi (gC (.int (1))) 1), (14, zretI), (15, zi (gAs 3) 1), (16, zi (gC (.int (2))) 1), (17, zretI), (18, zi (gAs 3) 1), (19, zi (gC (.int (3))) 1), (20, zretI), (21, zi (gAs 3) 1), (22, zi (gC (.int (4))) 1), (23, zretI), (24, zi (gAs 3) 1), (25, zi (gC (.int (5))) 1), (26, zretI), (27, zi (gC (.int (0))) 1), (28, zretI)]
set_option maxRecDepth 100000 in
theorem ymo8 (dA : Nat → ClassId) (U : yU) : ∀ q ∈ ytb8 dA U, zMono q.2 := by
  refine yam (zi_mono _ _) ?_
  refine yam (zi_mono _ _) ?_
  refine yam (zi_mono _ _) ?_
  refine yam (zi_mono _ _) ?_
  refine yam (yhV_mono _ _ _ _ _) ?_
  refine yam (zi_mono _ _) ?_
  refine yam (zlast_mono _) ?_
  refine yam (zj_mono _) ?_
  refine yam (zi_mono _ _) ?_
  refine yam (zi_mono _ _) ?_
  refine yam (zretI_mono) ?_
  refine yam (zi_mono _ _) ?_
  refine yam (zi_mono _ _) ?_
  refine yam (zretI_mono) ?_
  refine yam (zi_mono _ _) ?_
  refine yam (zi_mono _ _) ?_
  refine yam (zretI_mono) ?_
  refine yam (zi_mono _ _) ?_
  refine yam (zi_mono _ _) ?_
  refine yam (zretI_mono) ?_
  refine yam (zi_mono _ _) ?_
  refine yam (zi_mono _ _) ?_
  refine yam (zretI_mono) ?_
  refine yam (zi_mono _ _) ?_
  refine yam (zretI_mono) ?_
  exact zn
set_option maxRecDepth 100000 in
theorem yok8 (l : Launch) (hl : l.stackTraces = false) (D : va_G) (dA : Nat → ClassId) (b0 : Nat) (U : yU) (hb : U.1 < b0) : ∀ q ∈ ytb8 dA U, yOK l D dA b0 U 8 q.1 q.2 := by
  refine yap (yi_ok (zg_aload_n (j := 2) (by decide +kernel) rfl)) ?_
  refine yap (yi_ok (zg_iconst (n := 0) (by decide +kernel) (by decide +kernel))) ?_
  refine yap (yi_ok (zg_aload_n (j := 0) (by decide +kernel) rfl)) ?_
  refine yap (yi_ok (zg_iload_n (j := 1) (by decide +kernel) rfl)) ?_
  refine yap (yhV_ok ynst_st (yXX_kp hb) (μ' := 2) (na := 1) (ci := 0) (index := 17) (q := (RC0, FC0, 3)) (za ⟨"java/util/NoSuchElementException", [], ⟨0, 9, 12, 21⟩, [⟨0, 9, 15, 23⟩, ⟨0, 9, 18, 15⟩, ⟨0, 9, 21, 25⟩, ⟨0, 9, 24, 27⟩], "java/util/NoSuchElementException", rfl, rfl, zn, (by decide +kernel), (by decide +kernel), (zin 359 (by decide +kernel) rfl), (ynr (i := 2) rfl), rfl⟩ (za ⟨"java/lang/IndexOutOfBoundsException", [⟨0, 9, 12, 21⟩], ⟨0, 9, 15, 23⟩, [⟨0, 9, 18, 15⟩, ⟨0, 9, 21, 25⟩, ⟨0, 9, 24, 27⟩], "java/lang/IndexOutOfBoundsException", rfl, rfl, za ⟨(by decide +kernel), "java/util/NoSuchElementException", (zin 359 (by decide +kernel) rfl), (ynr (i := 10) rfl)⟩ (zn), (by decide +kernel), (by decide +kernel), (zin 360 (by decide +kernel) rfl), (ynr (i := 3) rfl), rfl⟩ (za ⟨"java/lang/IllegalStateException", [⟨0, 9, 12, 21⟩, ⟨0, 9, 15, 23⟩], ⟨0, 9, 18, 15⟩, [⟨0, 9, 21, 25⟩, ⟨0, 9, 24, 27⟩], "java/lang/IllegalStateException", rfl, rfl, za ⟨(by decide +kernel), "java/util/NoSuchElementException", (zin 359 (by decide +kernel) rfl), (ynr (i := 11) rfl)⟩ (za ⟨(by decide +kernel), "java/lang/IndexOutOfBoundsException", (zin 360 (by decide +kernel) rfl), (ynr (i := 12) rfl)⟩ (zn)), (by decide +kernel), (by decide +kernel), (zin 207 (by decide +kernel) rfl), (ynr (i := 1) rfl), rfl⟩ (za ⟨"java/lang/UnsupportedOperationException", [⟨0, 9, 12, 21⟩, ⟨0, 9, 15, 23⟩, ⟨0, 9, 18, 15⟩], ⟨0, 9, 21, 25⟩, [⟨0, 9, 24, 27⟩], "java/lang/UnsupportedOperationException", rfl, rfl, za ⟨(by decide +kernel), "java/util/NoSuchElementException", (zin 359 (by decide +kernel) rfl), (ynr (i := 13) rfl)⟩ (za ⟨(by decide +kernel), "java/lang/IndexOutOfBoundsException", (zin 360 (by decide +kernel) rfl), (ynr (i := 14) rfl)⟩ (za ⟨(by decide +kernel), "java/lang/IllegalStateException", (zin 207 (by decide +kernel) rfl), (ynr (i := 15) rfl)⟩ (zn))), (by decide +kernel), (by decide +kernel), (zin 361 (by decide +kernel) rfl), (ynr (i := 4) rfl), rfl⟩ (za ⟨"java/lang/ArithmeticException", [⟨0, 9, 12, 21⟩, ⟨0, 9, 15, 23⟩, ⟨0, 9, 18, 15⟩, ⟨0, 9, 21, 25⟩], ⟨0, 9, 24, 27⟩, [], "java/lang/ArithmeticException", rfl, rfl, za ⟨(by decide +kernel), "java/util/NoSuchElementException", (zin 359 (by decide +kernel) rfl), (ynr (i := 16) rfl)⟩ (za ⟨(by decide +kernel), "java/lang/IndexOutOfBoundsException", (zin 360 (by decide +kernel) rfl), (ynr (i := 17) rfl)⟩ (za ⟨(by decide +kernel), "java/lang/IllegalStateException", (zin 207 (by decide +kernel) rfl), (ynr (i := 18) rfl)⟩ (za ⟨(by decide +kernel), "java/lang/UnsupportedOperationException", (zin 361 (by decide +kernel) rfl), (ynr (i := 19) rfl)⟩ (zn)))), (by decide +kernel), (by decide +kernel), (zin 362 (by decide +kernel) rfl), (ynr (i := 5) rfl), rfl⟩ (zn)))))) (by decide +kernel) (by decide +kernel) rfl rfl (zgV (zin 363 (by decide +kernel) rfl) (zin 364 (by decide +kernel) rfl) (zin 365 (by decide +kernel) rfl) (zin 1 (by decide +kernel) rfl) (zin 366 (by decide +kernel) rfl)) (by decide +kernel) (by decide +kernel)) ?_
  refine yap (yi_ok (zg_i2l (by decide +kernel))) ?_
  refine yap (ylast_ok (by decide +kernel)) ?_
  refine yap (yj_ok (off := 18) (by decide +kernel) (by decide +kernel)) ?_
  refine yap (yi_ok (zg_astore_n (j := 3) (by decide +kernel) rfl (by decide +kernel))) ?_
  refine yap (yi_ok (zg_iconst (n := 1) (by decide +kernel) (by decide +kernel))) ?_
  refine yap (yretI_ok (by decide +kernel) rfl) ?_
  refine yap (yi_ok (zg_astore_n (j := 3) (by decide +kernel) rfl (by decide +kernel))) ?_
  refine yap (yi_ok (zg_iconst (n := 2) (by decide +kernel) (by decide +kernel))) ?_
  refine yap (yretI_ok (by decide +kernel) rfl) ?_
  refine yap (yi_ok (zg_astore_n (j := 3) (by decide +kernel) rfl (by decide +kernel))) ?_
  refine yap (yi_ok (zg_iconst (n := 3) (by decide +kernel) (by decide +kernel))) ?_
  refine yap (yretI_ok (by decide +kernel) rfl) ?_
  refine yap (yi_ok (zg_astore_n (j := 3) (by decide +kernel) rfl (by decide +kernel))) ?_
  refine yap (yi_ok (zg_iconst (n := 4) (by decide +kernel) (by decide +kernel))) ?_
  refine yap (yretI_ok (by decide +kernel) rfl) ?_
  refine yap (yi_ok (zg_astore_n (j := 3) (by decide +kernel) rfl (by decide +kernel))) ?_
  refine yap (yi_ok (zg_iconst (n := 5) (by decide +kernel) (by decide +kernel))) ?_
  refine yap (yretI_ok (by decide +kernel) rfl) ?_
  refine yap (yi_ok (zg_iconst (n := 0) (by decide +kernel) (by decide +kernel))) ?_
  refine yap (yretI_ok (by decide +kernel) rfl) ?_
  exact zn
/-- VectorLanguageLaw.element(LVectorLanguage;I[J)I -/
def ytb9 (dA : Nat → ClassId) (_ : yU) : List (Nat × (zP → zP)) := [(0, zi (gAl 2) 1), (1, zi (gC (.int (0))) 1), (2, zi (gAl 0) 1), (3, zi (gIl 1) 1), (4, yhV [(1, 12), (3, 15)] 4 3 1 0), (7, zi (gI2l) 1), (8, zlast (ztys dA)), (9, zj 18), (12, zi (gAs 3) 1), (13, zi (gC (.int (1))) 1), (14, zretI), (15, zi (gAs 3) 1), (16, zi (gC (.int (2))) 1), (17, zretI), (18, zi (gC (.int (0))) 1), (19, zretI)]
set_option maxRecDepth 100000 in
theorem ymo9 (dA : Nat → ClassId) (U : yU) : ∀ q ∈ ytb9 dA U, zMono q.2 := by
  refine yam (zi_mono _ _) ?_
  refine yam (zi_mono _ _) ?_
  refine yam (zi_mono _ _) ?_
  refine yam (zi_mono _ _) ?_
  refine yam (yhV_mono _ _ _ _ _) ?_
  refine yam (zi_mono _ _) ?_
  refine yam (zlast_mono _) ?_
  refine yam (zj_mono _) ?_
  refine yam (zi_mono _ _) ?_
  refine yam (zi_mono _ _) ?_
  refine yam (zretI_mono) ?_
  refine yam (zi_mono _ _) ?_
  refine yam (zi_mono _ _) ?_
  refine yam (zretI_mono) ?_
  refine yam (zi_mono _ _) ?_
  refine yam (zretI_mono) ?_
  exact zn
set_option maxRecDepth 100000 in
theorem yok9 (l : Launch) (hl : l.stackTraces = false) (D : va_G) (dA : Nat → ClassId) (b0 : Nat) (U : yU) (hb : U.1 < b0) : ∀ q ∈ ytb9 dA U, yOK l D dA b0 U 9 q.1 q.2 := by
  refine yap (yi_ok (zg_aload_n (j := 2) (by decide +kernel) rfl)) ?_
  refine yap (yi_ok (zg_iconst (n := 0) (by decide +kernel) (by decide +kernel))) ?_
  refine yap (yi_ok (zg_aload_n (j := 0) (by decide +kernel) rfl)) ?_
  refine yap (yi_ok (zg_iload_n (j := 1) (by decide +kernel) rfl)) ?_
  refine yap (yhV_ok ynst_st (yXX_kp hb) (μ' := 3) (na := 1) (ci := 0) (index := 29) (q := (RC0, FC0, 3)) (za ⟨"java/lang/IllegalStateException", [], ⟨0, 9, 12, 15⟩, [⟨0, 9, 15, 23⟩], "java/lang/IllegalStateException", rfl, rfl, zn, (by decide +kernel), (by decide +kernel), (zin 207 (by decide +kernel) rfl), (ynr (i := 1) rfl), rfl⟩ (za ⟨"java/lang/IndexOutOfBoundsException", [⟨0, 9, 12, 15⟩], ⟨0, 9, 15, 23⟩, [], "java/lang/IndexOutOfBoundsException", rfl, rfl, za ⟨(by decide +kernel), "java/lang/IllegalStateException", (zin 207 (by decide +kernel) rfl), (ynr (i := 20) rfl)⟩ (zn), (by decide +kernel), (by decide +kernel), (zin 360 (by decide +kernel) rfl), (ynr (i := 3) rfl), rfl⟩ (zn))) (by decide +kernel) (by decide +kernel) rfl rfl (zgV (zin 711 (by decide +kernel) rfl) (zin 712 (by decide +kernel) rfl) (zin 713 (by decide +kernel) rfl) (zin 1 (by decide +kernel) rfl) (zin 714 (by decide +kernel) rfl)) (by decide +kernel) (by decide +kernel)) ?_
  refine yap (yi_ok (zg_i2l (by decide +kernel))) ?_
  refine yap (ylast_ok (by decide +kernel)) ?_
  refine yap (yj_ok (off := 9) (by decide +kernel) (by decide +kernel)) ?_
  refine yap (yi_ok (zg_astore_n (j := 3) (by decide +kernel) rfl (by decide +kernel))) ?_
  refine yap (yi_ok (zg_iconst (n := 1) (by decide +kernel) (by decide +kernel))) ?_
  refine yap (yretI_ok (by decide +kernel) rfl) ?_
  refine yap (yi_ok (zg_astore_n (j := 3) (by decide +kernel) rfl (by decide +kernel))) ?_
  refine yap (yi_ok (zg_iconst (n := 2) (by decide +kernel) (by decide +kernel))) ?_
  refine yap (yretI_ok (by decide +kernel) rfl) ?_
  refine yap (yi_ok (zg_iconst (n := 0) (by decide +kernel) (by decide +kernel))) ?_
  refine yap (yretI_ok (by decide +kernel) rfl) ?_
  exact zn
/-- VectorLanguageLaw.variable(LVectorLanguage;I[J)I -/
def ytb10 (dA : Nat → ClassId) (_ : yU) : List (Nat × (zP → zP)) := [(0, zi (gAl 2) 1), (1, zi (gC (.int (0))) 1), (2, zi (gAl 0) 1), (3, zi (gIl 1) 1), (4, yhV [(0, 12)] 4 4 1 0), (7, zi (gI2l) 1), (8, zlast (ztys dA)), (9, zj 15), (12, zi (gAs 3) 1), (13, zi (gC (.int (1))) 1), (14, zretI), (15, zi (gC (.int (0))) 1), (16, zretI)]
set_option maxRecDepth 100000 in
theorem ymo10 (dA : Nat → ClassId) (U : yU) : ∀ q ∈ ytb10 dA U, zMono q.2 := by
  refine yam (zi_mono _ _) ?_
  refine yam (zi_mono _ _) ?_
  refine yam (zi_mono _ _) ?_
  refine yam (zi_mono _ _) ?_
  refine yam (yhV_mono _ _ _ _ _) ?_
  refine yam (zi_mono _ _) ?_
  refine yam (zlast_mono _) ?_
  refine yam (zj_mono _) ?_
  refine yam (zi_mono _ _) ?_
  refine yam (zi_mono _ _) ?_
  refine yam (zretI_mono) ?_
  refine yam (zi_mono _ _) ?_
  refine yam (zretI_mono) ?_
  exact zn
set_option maxRecDepth 100000 in
theorem yok10 (l : Launch) (hl : l.stackTraces = false) (D : va_G) (dA : Nat → ClassId) (b0 : Nat) (U : yU) (hb : U.1 < b0) : ∀ q ∈ ytb10 dA U, yOK l D dA b0 U 10 q.1 q.2 := by
  refine yap (yi_ok (zg_aload_n (j := 2) (by decide +kernel) rfl)) ?_
  refine yap (yi_ok (zg_iconst (n := 0) (by decide +kernel) (by decide +kernel))) ?_
  refine yap (yi_ok (zg_aload_n (j := 0) (by decide +kernel) rfl)) ?_
  refine yap (yi_ok (zg_iload_n (j := 1) (by decide +kernel) rfl)) ?_
  refine yap (yhV_ok ynst_st (yXX_kp hb) (μ' := 4) (na := 1) (ci := 0) (index := 32) (q := (RC0, FC0, 3)) (za ⟨"java/lang/IllegalArgumentException", [], ⟨0, 9, 12, 13⟩, [], "java/lang/IllegalArgumentException", rfl, rfl, zn, (by decide +kernel), (by decide +kernel), (zin 206 (by decide +kernel) rfl), (ynr (i := 0) rfl), rfl⟩ (zn)) (by decide +kernel) (by decide +kernel) rfl rfl (zgV (zin 725 (by decide +kernel) rfl) (zin 726 (by decide +kernel) rfl) (zin 727 (by decide +kernel) rfl) (zin 1 (by decide +kernel) rfl) (zin 728 (by decide +kernel) rfl)) (by decide +kernel) (by decide +kernel)) ?_
  refine yap (yi_ok (zg_i2l (by decide +kernel))) ?_
  refine yap (ylast_ok (by decide +kernel)) ?_
  refine yap (yj_ok (off := 6) (by decide +kernel) (by decide +kernel)) ?_
  refine yap (yi_ok (zg_astore_n (j := 3) (by decide +kernel) rfl (by decide +kernel))) ?_
  refine yap (yi_ok (zg_iconst (n := 1) (by decide +kernel) (by decide +kernel))) ?_
  refine yap (yretI_ok (by decide +kernel) rfl) ?_
  refine yap (yi_ok (zg_iconst (n := 0) (by decide +kernel) (by decide +kernel))) ?_
  refine yap (yretI_ok (by decide +kernel) rfl) ?_
  exact zn
/-- VectorLanguageLaw.value(LVectorLanguage;II[J)I -/
def ytb11 (dA : Nat → ClassId) (_ : yU) : List (Nat × (zP → zP)) := [(0, zi (gAl 3) 1), (1, zi (gC (.int (0))) 1), (2, zi (gAl 0) 1), (3, zi (gIl 1) 1), (4, zi (gIl 2) 1), (5, yhV [(0, 13), (2, 17)] 5 5 2 0), (8, zi (gI2l) 1), (9, zlast (ztys dA)), (10, zj 21), (13, zi (gAs 4) 2), (15, zi (gC (.int (1))) 1), (16, zretI), (17, zi (gAs 4) 2), (19, zi (gC (.int (2))) 1), (20, zretI), (21, zi (gC (.int (0))) 1), (22, zretI)]
set_option maxRecDepth 100000 in
theorem ymo11 (dA : Nat → ClassId) (U : yU) : ∀ q ∈ ytb11 dA U, zMono q.2 := by
  refine yam (zi_mono _ _) ?_
  refine yam (zi_mono _ _) ?_
  refine yam (zi_mono _ _) ?_
  refine yam (zi_mono _ _) ?_
  refine yam (zi_mono _ _) ?_
  refine yam (yhV_mono _ _ _ _ _) ?_
  refine yam (zi_mono _ _) ?_
  refine yam (zlast_mono _) ?_
  refine yam (zj_mono _) ?_
  refine yam (zi_mono _ _) ?_
  refine yam (zi_mono _ _) ?_
  refine yam (zretI_mono) ?_
  refine yam (zi_mono _ _) ?_
  refine yam (zi_mono _ _) ?_
  refine yam (zretI_mono) ?_
  refine yam (zi_mono _ _) ?_
  refine yam (zretI_mono) ?_
  exact zn
set_option maxRecDepth 100000 in
theorem yok11 (l : Launch) (hl : l.stackTraces = false) (D : va_G) (dA : Nat → ClassId) (b0 : Nat) (U : yU) (hb : U.1 < b0) : ∀ q ∈ ytb11 dA U, yOK l D dA b0 U 11 q.1 q.2 := by
  refine yap (yi_ok (zg_aload_n (j := 3) (by decide +kernel) rfl)) ?_
  refine yap (yi_ok (zg_iconst (n := 0) (by decide +kernel) (by decide +kernel))) ?_
  refine yap (yi_ok (zg_aload_n (j := 0) (by decide +kernel) rfl)) ?_
  refine yap (yi_ok (zg_iload_n (j := 1) (by decide +kernel) rfl)) ?_
  refine yap (yi_ok (zg_iload_n (j := 2) (by decide +kernel) rfl)) ?_
  refine yap (yhV_ok ynst_st (yXX_kp hb) (μ' := 5) (na := 2) (ci := 0) (index := 35) (q := (RC0, FC0, 3)) (za ⟨"java/lang/IllegalArgumentException", [], ⟨0, 10, 13, 13⟩, [⟨0, 10, 17, 21⟩], "java/lang/IllegalArgumentException", rfl, rfl, zn, (by decide +kernel), (by decide +kernel), (zin 206 (by decide +kernel) rfl), (ynr (i := 0) rfl), rfl⟩ (za ⟨"java/util/NoSuchElementException", [⟨0, 10, 13, 13⟩], ⟨0, 10, 17, 21⟩, [], "java/util/NoSuchElementException", rfl, rfl, za ⟨(by decide +kernel), "java/lang/IllegalArgumentException", (zin 206 (by decide +kernel) rfl), (ynr (i := 21) rfl)⟩ (zn), (by decide +kernel), (by decide +kernel), (zin 359 (by decide +kernel) rfl), (ynr (i := 2) rfl), rfl⟩ (zn))) (by decide +kernel) (by decide +kernel) rfl rfl (zgV (zin 735 (by decide +kernel) rfl) (zin 736 (by decide +kernel) rfl) (zin 737 (by decide +kernel) rfl) (zin 1 (by decide +kernel) rfl) (zin 738 (by decide +kernel) rfl)) (by decide +kernel) (by decide +kernel)) ?_
  refine yap (yi_ok (zg_i2l (by decide +kernel))) ?_
  refine yap (ylast_ok (by decide +kernel)) ?_
  refine yap (yj_ok (off := 11) (by decide +kernel) (by decide +kernel)) ?_
  refine yap (yi_ok (zg_astore (by decide +kernel) (by decide +kernel))) ?_
  refine yap (yi_ok (zg_iconst (n := 1) (by decide +kernel) (by decide +kernel))) ?_
  refine yap (yretI_ok (by decide +kernel) rfl) ?_
  refine yap (yi_ok (zg_astore (by decide +kernel) (by decide +kernel))) ?_
  refine yap (yi_ok (zg_iconst (n := 2) (by decide +kernel) (by decide +kernel))) ?_
  refine yap (yretI_ok (by decide +kernel) rfl) ?_
  refine yap (yi_ok (zg_iconst (n := 0) (by decide +kernel) (by decide +kernel))) ?_
  refine yap (yretI_ok (by decide +kernel) rfl) ?_
  exact zn
/-- VectorLanguageLaw.count(LVectorLanguage;I[J)I -/
def ytb12 (dA : Nat → ClassId) (_ : yU) : List (Nat × (zP → zP)) := [(0, zi (gAl 2) 1), (1, zi (gC (.int (0))) 1), (2, zi (gAl 0) 1), (3, zi (gIl 1) 1), (4, yhV [(0, 12)] 2 6 1 0), (7, zi (gI2l) 1), (8, zlast (ztys dA)), (9, zj 15), (12, zi (gAs 3) 1), (13, zi (gC (.int (1))) 1), (14, zretI), (15, zi (gC (.int (0))) 1), (16, zretI)]
set_option maxRecDepth 100000 in
theorem ymo12 (dA : Nat → ClassId) (U : yU) : ∀ q ∈ ytb12 dA U, zMono q.2 := by
  refine yam (zi_mono _ _) ?_
  refine yam (zi_mono _ _) ?_
  refine yam (zi_mono _ _) ?_
  refine yam (zi_mono _ _) ?_
  refine yam (yhV_mono _ _ _ _ _) ?_
  refine yam (zi_mono _ _) ?_
  refine yam (zlast_mono _) ?_
  refine yam (zj_mono _) ?_
  refine yam (zi_mono _ _) ?_
  refine yam (zi_mono _ _) ?_
  refine yam (zretI_mono) ?_
  refine yam (zi_mono _ _) ?_
  refine yam (zretI_mono) ?_
  exact zn
set_option maxRecDepth 100000 in
theorem yok12 (l : Launch) (hl : l.stackTraces = false) (D : va_G) (dA : Nat → ClassId) (b0 : Nat) (U : yU) (hb : U.1 < b0) : ∀ q ∈ ytb12 dA U, yOK l D dA b0 U 12 q.1 q.2 := by
  refine yap (yi_ok (zg_aload_n (j := 2) (by decide +kernel) rfl)) ?_
  refine yap (yi_ok (zg_iconst (n := 0) (by decide +kernel) (by decide +kernel))) ?_
  refine yap (yi_ok (zg_aload_n (j := 0) (by decide +kernel) rfl)) ?_
  refine yap (yi_ok (zg_iload_n (j := 1) (by decide +kernel) rfl)) ?_
  refine yap (yhV_ok ynst_st (yXX_kp hb) (μ' := 6) (na := 1) (ci := 0) (index := 39) (q := (RC0, FC0, 3)) (za ⟨"java/lang/IllegalArgumentException", [], ⟨0, 9, 12, 13⟩, [], "java/lang/IllegalArgumentException", rfl, rfl, zn, (by decide +kernel), (by decide +kernel), (zin 206 (by decide +kernel) rfl), (ynr (i := 0) rfl), rfl⟩ (zn)) (by decide +kernel) (by decide +kernel) rfl rfl (zgV (zin 742 (by decide +kernel) rfl) (zin 743 (by decide +kernel) rfl) (zin 744 (by decide +kernel) rfl) (zin 1 (by decide +kernel) rfl) (zin 745 (by decide +kernel) rfl)) (by decide +kernel) (by decide +kernel)) ?_
  refine yap (yi_ok (zg_i2l (by decide +kernel))) ?_
  refine yap (ylast_ok (by decide +kernel)) ?_
  refine yap (yj_ok (off := 6) (by decide +kernel) (by decide +kernel)) ?_
  refine yap (yi_ok (zg_astore_n (j := 3) (by decide +kernel) rfl (by decide +kernel))) ?_
  refine yap (yi_ok (zg_iconst (n := 1) (by decide +kernel) (by decide +kernel))) ?_
  refine yap (yretI_ok (by decide +kernel) rfl) ?_
  refine yap (yi_ok (zg_iconst (n := 0) (by decide +kernel) (by decide +kernel))) ?_
  refine yap (yretI_ok (by decide +kernel) rfl) ?_
  exact zn
/-- VectorLanguageLaw.law([I)Z -/
def ytb13 (dA : Nat → ClassId) (U : yU) : List (Nat × (zP → zP)) := [(0, znew 0 3 dC0), (3, zi (gDup) 1), (4, ycI (zx dA) 1 0 0), (7, zi (gAs 1) 1), (8, znew 9 33 dC9), (11, zi (gDup) 1), (12, ycI (zx dA) 1 87 0), (15, zi (gAs 2) 1), (16, zi (gC (.int (1))) 1), (17, znewl (ztys dA)), (19, zi (gAs 3) 1), (20, zi (gC (.int (0))) 1), (21, zi (gIs 4) 2), (23, zi (gIl 4) 2), (25, zi (gAl 0) 1), (26, yslen U.1 U.2.1), (27, zi (gC (.int (5))) 1), (28, zi (gII (fun x y => x - y)) 1), (29, zb (c2 (fun x y => y < x)) 500), (32, zi (gAl 0) 1), (33, zi (gIl 4) 2), (35, ysld U.1 U.2.1 U.2.2), (36, zi (gC (.int (7))) 2), (38, zi (gII (fun x y => x &&& y)) 1), (39, zsw [(0, 84), (1, 176), (2, 232), (3, 288), (4, 301), (5, 357), (6, 425), (7, 438)] 494), (84, zi (gAl 1) 1), (85, zi (gAl 0) 1), (86, zi (gIl 4) 2), (88, zi (gC (.int (1))) 1), (89, zi (gII (fun x y => x + y)) 1), (90, ysld U.1 U.2.1 U.2.2), (91, zi (gAl 0) 1), (92, zi (gIl 4) 2), (94, zi (gC (.int (2))) 1), (95, zi (gII (fun x y => x + y)) 1), (96, ysld U.1 U.2.1 U.2.2), (97, zi (gAl 0) 1), (98, zi (gIl 4) 2), (100, zi (gC (.int (3))) 1), (101, zi (gII (fun x y => x + y)) 1), (102, ysld U.1 U.2.1 U.2.2), (103, zi (gAl 0) 1), (104, zi (gIl 4) 2), (106, zi (gC (.int (4))) 1), (107, zi (gII (fun x y => x + y)) 1), (108, ysld U.1 U.2.1 U.2.2), (109, zi (gAl 3) 1), (110, yhS [] 7 7 6), (113, zi (gIs 5) 2), (115, zi (gAl 2) 1), (116, zi (gAl 0) 1), (117, zi (gIl 4) 2), (119, zi (gC (.int (1))) 1), (120, zi (gII (fun x y => x + y)) 1), (121, ysld U.1 U.2.1 U.2.2), (122, zi (gAl 0) 1), (123, zi (gIl 4) 2), (125, zi (gC (.int (2))) 1), (126, zi (gII (fun x y => x + y)) 1), (127, ysld U.1 U.2.1 U.2.2), (128, zi (gAl 0) 1), (129, zi (gIl 4) 2), (131, zi (gC (.int (3))) 1), (132, zi (gII (fun x y => x + y)) 1), (133, ysld U.1 U.2.1 U.2.2), (134, zi (gAl 0) 1), (135, zi (gIl 4) 2), (137, zi (gC (.int (4))) 1), (138, zi (gII (fun x y => x + y)) 1), (139, ysld U.1 U.2.1 U.2.2), (140, ycV (zx dA) 5 89 4 9), (143, zi (gIs 6) 2), (145, zi (gAl 2) 1), (146, ycV (zx dA) 1 88 0 9), (149, zi (gIl 5) 2), (151, zb (c2 (fun x y => x = y)) 156), (154, zi (gC (.int (0))) 1), (155, zretZ), (156, zi (gIl 5) 2), (158, zb (c1 (fun x => ¬ x = 0)) 173), (161, zi (gAl 3) 1), (162, zi (gC (.int (0))) 1), (163, zlald (ztys dA)), (164, zi (gIl 6) 2), (166, zi (gI2l) 1), (167, zi (gLcmp) 1), (168, zb (c1 (fun x => x = 0)) 173), (171, zi (gC (.int (0))) 1), (172, zretZ), (173, zj 494), (176, zi (gAl 1) 1), (177, zi (gAl 0) 1), (178, zi (gIl 4) 2), (180, zi (gC (.int (1))) 1), (181, zi (gII (fun x y => x + y)) 1), (182, ysld U.1 U.2.1 U.2.2), (183, zi (gAl 3) 1), (184, yhS [] 4 8 3), (187, zi (gIs 5) 2), (189, zi (gAl 2) 1), (190, zi (gAl 0) 1), (191, zi (gIl 4) 2), (193, zi (gC (.int (1))) 1), (194, zi (gII (fun x y => x + y)) 1), (195, ysld U.1 U.2.1 U.2.2), (196, ycV (zx dA) 3 94 1 9), (199, zi (gIs 6) 2), (201, zi (gAl 2) 1), (202, ycV (zx dA) 1 88 0 9), (205, zi (gIl 5) 2), (207, zb (c2 (fun x y => x = y)) 212), (210, zi (gC (.int (0))) 1), (211, zretZ), (212, zi (gIl 5) 2), (214, zb (c1 (fun x => ¬ x = 0)) 229), (217, zi (gAl 3) 1), (218, zi (gC (.int (0))) 1), (219, zlald (ztys dA)), (220, zi (gIl 6) 2), (222, zi (gI2l) 1), (223, zi (gLcmp) 1), (224, zb (c1 (fun x => x = 0)) 229), (227, zi (gC (.int (0))) 1), (228, zretZ), (229, zj 494), (232, zi (gAl 1) 1), (233, zi (gAl 0) 1), (234, zi (gIl 4) 2), (236, zi (gC (.int (1))) 1), (237, zi (gII (fun x y => x + y)) 1), (238, ysld U.1 U.2.1 U.2.2), (239, zi (gAl 3) 1), (240, yhS [] 4 9 3), (243, zi (gIs 5) 2), (245, zi (gAl 2) 1), (246, zi (gAl 0) 1), (247, zi (gIl 4) 2), (249, zi (gC (.int (1))) 1), (250, zi (gII (fun x y => x + y)) 1), (251, ysld U.1 U.2.1 U.2.2), (252, ycV (zx dA) 2 140 1 9), (255, zi (gIs 6) 2), (257, zi (gAl 2) 1), (258, ycV (zx dA) 1 88 0 9), (261, zi (gIl 5) 2), (263, zb (c2 (fun x y => x = y)) 268), (266, zi (gC (.int (0))) 1), (267, zretZ), (268, zi (gIl 5) 2), (270, zb (c1 (fun x => ¬ x = 0)) 285), (273, zi (gAl 3) 1), (274, zi (gC (.int (0))) 1), (275, zlald (ztys dA)), (276, zi (gIl 6) 2), (278, zi (gI2l) 1), (279, zi (gLcmp) 1), (280, zb (c1 (fun x => x = 0)) 285), (283, zi (gC (.int (0))) 1), (284, zretZ), (285, zj 494), (288, zi (gAl 1) 1), (289, ycV (zx dA) 1 9 0 0), (292, zi (gAl 2) 1), (293, ycV (zx dA) 1 141 0 9), (296, zb (c2 (fun x y => x = y)) 494), (299, zi (gC (.int (0))) 1), (300, zretZ), (301, zi (gAl 1) 1), (302, zi (gAl 0) 1), (303, zi (gIl 4) 2), (305, zi (gC (.int (1))) 1), (306, zi (gII (fun x y => x + y)) 1), (307, ysld U.1 U.2.1 U.2.2), (308, zi (gAl 3) 1), (309, yhS [] 4 10 3), (312, zi (gIs 5) 2), (314, zi (gAl 2) 1), (315, zi (gAl 0) 1), (316, zi (gIl 4) 2), (318, zi (gC (.int (1))) 1), (319, zi (gII (fun x y => x + y)) 1), (320, ysld U.1 U.2.1 U.2.2), (321, ycV (zx dA) 2 142 1 9), (324, zi (gIs 6) 2), (326, zi (gAl 2) 1), (327, ycV (zx dA) 1 88 0 9), (330, zi (gIl 5) 2), (332, zb (c2 (fun x y => x = y)) 337), (335, zi (gC (.int (0))) 1), (336, zretZ), (337, zi (gIl 5) 2), (339, zb (c1 (fun x => ¬ x = 0)) 354), (342, zi (gAl 3) 1), (343, zi (gC (.int (0))) 1), (344, zlald (ztys dA)), (345, zi (gIl 6) 2), (347, zi (gI2l) 1), (348, zi (gLcmp) 1), (349, zb (c1 (fun x => x = 0)) 354), (352, zi (gC (.int (0))) 1), (353, zretZ), (354, zj 494), (357, zi (gAl 1) 1), (358, zi (gAl 0) 1), (359, zi (gIl 4) 2), (361, zi (gC (.int (1))) 1), (362, zi (gII (fun x y => x + y)) 1), (363, ysld U.1 U.2.1 U.2.2), (364, zi (gAl 0) 1), (365, zi (gIl 4) 2), (367, zi (gC (.int (2))) 1), (368, zi (gII (fun x y => x + y)) 1), (369, ysld U.1 U.2.1 U.2.2), (370, zi (gAl 3) 1), (371, yhS [] 5 11 4), (374, zi (gIs 5) 2), (376, zi (gAl 2) 1), (377, zi (gAl 0) 1), (378, zi (gIl 4) 2), (380, zi (gC (.int (1))) 1), (381, zi (gII (fun x y => x + y)) 1), (382, ysld U.1 U.2.1 U.2.2), (383, zi (gAl 0) 1), (384, zi (gIl 4) 2), (386, zi (gC (.int (2))) 1), (387, zi (gII (fun x y => x + y)) 1), (388, ysld U.1 U.2.1 U.2.2), (389, ycV (zx dA) 3 143 2 9), (392, zi (gIs 6) 2), (394, zi (gAl 2) 1), (395, ycV (zx dA) 1 88 0 9), (398, zi (gIl 5) 2), (400, zb (c2 (fun x y => x = y)) 405), (403, zi (gC (.int (0))) 1), (404, zretZ), (405, zi (gIl 5) 2), (407, zb (c1 (fun x => ¬ x = 0)) 422), (410, zi (gAl 3) 1), (411, zi (gC (.int (0))) 1), (412, zlald (ztys dA)), (413, zi (gIl 6) 2), (415, zi (gI2l) 1), (416, zi (gLcmp) 1), (417, zb (c1 (fun x => x = 0)) 422), (420, zi (gC (.int (0))) 1), (421, zretZ), (422, zj 494), (425, zi (gAl 1) 1), (426, ycV (zx dA) 1 10 0 0), (429, zi (gAl 2) 1), (430, ycV (zx dA) 3 144 0 9), (433, zb (c2 (fun x y => x = y)) 494), (436, zi (gC (.int (0))) 1), (437, zretZ), (438, zi (gAl 1) 1), (439, zi (gAl 0) 1), (440, zi (gIl 4) 2), (442, zi (gC (.int (1))) 1), (443, zi (gII (fun x y => x + y)) 1), (444, ysld U.1 U.2.1 U.2.2), (445, zi (gAl 3) 1), (446, yhS [] 4 12 3), (449, zi (gIs 5) 2), (451, zi (gAl 2) 1), (452, zi (gAl 0) 1), (453, zi (gIl 4) 2), (455, zi (gC (.int (1))) 1), (456, zi (gII (fun x y => x + y)) 1), (457, ysld U.1 U.2.1 U.2.2), (458, ycV (zx dA) 2 145 1 9), (461, zi (gIs 6) 2), (463, zi (gAl 2) 1), (464, ycV (zx dA) 1 88 0 9), (467, zi (gIl 5) 2), (469, zb (c2 (fun x y => x = y)) 474), (472, zi (gC (.int (0))) 1), (473, zretZ), (474, zi (gIl 5) 2), (476, zb (c1 (fun x => ¬ x = 0)) 491), (479, zi (gAl 3) 1), (480, zi (gC (.int (0))) 1), (481, zlald (ztys dA)), (482, zi (gIl 6) 2), (484, zi (gI2l) 1), (485, zi (gLcmp) 1), (486, zb (c1 (fun x => x = 0)) 491), (489, zi (gC (.int (0))) 1), (490, zretZ), (491, zj 494), (494, zi (gIinc 4 (5)) 3), (497, zj 23), (500, zi (gC (.int (1))) 1), (501, zretZ)]
set_option maxRecDepth 100000 in
theorem ymo13 (dA : Nat → ClassId) (U : yU) : ∀ q ∈ ytb13 dA U, zMono q.2 := by
  refine yam (znew_mono _ _ _) ?_
  refine yam (zi_mono _ _) ?_
  refine yam (ycI_mono _ _ _ _) ?_
  refine yam (zi_mono _ _) ?_
  refine yam (znew_mono _ _ _) ?_
  refine yam (zi_mono _ _) ?_
  refine yam (ycI_mono _ _ _ _) ?_
  refine yam (zi_mono _ _) ?_
  refine yam (zi_mono _ _) ?_
  refine yam (znewl_mono _) ?_
  refine yam (zi_mono _ _) ?_
  refine yam (zi_mono _ _) ?_
  refine yam (zi_mono _ _) ?_
  refine yam (zi_mono _ _) ?_
  refine yam (zi_mono _ _) ?_
  refine yam (yslen_mono _ _) ?_
  refine yam (zi_mono _ _) ?_
  refine yam (zi_mono _ _) ?_
  refine yam (zb_mono _ _) ?_
  refine yam (zi_mono _ _) ?_
  refine yam (zi_mono _ _) ?_
  refine yam (ysld_mono _ _ _) ?_
  refine yam (zi_mono _ _) ?_
  refine yam (zi_mono _ _) ?_
  refine yam (zsw_mono _ _) ?_
  refine yam (zi_mono _ _) ?_
  refine yam (zi_mono _ _) ?_
  refine yam (zi_mono _ _) ?_
  refine yam (zi_mono _ _) ?_
  refine yam (zi_mono _ _) ?_
  refine yam (ysld_mono _ _ _) ?_
  refine yam (zi_mono _ _) ?_
  refine yam (zi_mono _ _) ?_
  refine yam (zi_mono _ _) ?_
  refine yam (zi_mono _ _) ?_
  refine yam (ysld_mono _ _ _) ?_
  refine yam (zi_mono _ _) ?_
  refine yam (zi_mono _ _) ?_
  refine yam (zi_mono _ _) ?_
  refine yam (zi_mono _ _) ?_
  refine yam (ysld_mono _ _ _) ?_
  refine yam (zi_mono _ _) ?_
  refine yam (zi_mono _ _) ?_
  refine yam (zi_mono _ _) ?_
  refine yam (zi_mono _ _) ?_
  refine yam (ysld_mono _ _ _) ?_
  refine yam (zi_mono _ _) ?_
  refine yam (yhS_mono _ _ _ _) ?_
  refine yam (zi_mono _ _) ?_
  refine yam (zi_mono _ _) ?_
  refine yam (zi_mono _ _) ?_
  refine yam (zi_mono _ _) ?_
  refine yam (zi_mono _ _) ?_
  refine yam (zi_mono _ _) ?_
  refine yam (ysld_mono _ _ _) ?_
  refine yam (zi_mono _ _) ?_
  refine yam (zi_mono _ _) ?_
  refine yam (zi_mono _ _) ?_
  refine yam (zi_mono _ _) ?_
  refine yam (ysld_mono _ _ _) ?_
  refine yam (zi_mono _ _) ?_
  refine yam (zi_mono _ _) ?_
  refine yam (zi_mono _ _) ?_
  refine yam (zi_mono _ _) ?_
  refine yam (ysld_mono _ _ _) ?_
  refine yam (zi_mono _ _) ?_
  refine yam (zi_mono _ _) ?_
  refine yam (zi_mono _ _) ?_
  refine yam (zi_mono _ _) ?_
  refine yam (ysld_mono _ _ _) ?_
  refine yam (ycV_mono _ _ _ _ _) ?_
  refine yam (zi_mono _ _) ?_
  refine yam (zi_mono _ _) ?_
  refine yam (ycV_mono _ _ _ _ _) ?_
  refine yam (zi_mono _ _) ?_
  refine yam (zb_mono _ _) ?_
  refine yam (zi_mono _ _) ?_
  refine yam (zretZ_mono) ?_
  refine yam (zi_mono _ _) ?_
  refine yam (zb_mono _ _) ?_
  refine yam (zi_mono _ _) ?_
  refine yam (zi_mono _ _) ?_
  refine yam (zlald_mono _) ?_
  refine yam (zi_mono _ _) ?_
  refine yam (zi_mono _ _) ?_
  refine yam (zi_mono _ _) ?_
  refine yam (zb_mono _ _) ?_
  refine yam (zi_mono _ _) ?_
  refine yam (zretZ_mono) ?_
  refine yam (zj_mono _) ?_
  refine yam (zi_mono _ _) ?_
  refine yam (zi_mono _ _) ?_
  refine yam (zi_mono _ _) ?_
  refine yam (zi_mono _ _) ?_
  refine yam (zi_mono _ _) ?_
  refine yam (ysld_mono _ _ _) ?_
  refine yam (zi_mono _ _) ?_
  refine yam (yhS_mono _ _ _ _) ?_
  refine yam (zi_mono _ _) ?_
  refine yam (zi_mono _ _) ?_
  refine yam (zi_mono _ _) ?_
  refine yam (zi_mono _ _) ?_
  refine yam (zi_mono _ _) ?_
  refine yam (zi_mono _ _) ?_
  refine yam (ysld_mono _ _ _) ?_
  refine yam (ycV_mono _ _ _ _ _) ?_
  refine yam (zi_mono _ _) ?_
  refine yam (zi_mono _ _) ?_
  refine yam (ycV_mono _ _ _ _ _) ?_
  refine yam (zi_mono _ _) ?_
  refine yam (zb_mono _ _) ?_
  refine yam (zi_mono _ _) ?_
  refine yam (zretZ_mono) ?_
  refine yam (zi_mono _ _) ?_
  refine yam (zb_mono _ _) ?_
  refine yam (zi_mono _ _) ?_
  refine yam (zi_mono _ _) ?_
  refine yam (zlald_mono _) ?_
  refine yam (zi_mono _ _) ?_
  refine yam (zi_mono _ _) ?_
  refine yam (zi_mono _ _) ?_
  refine yam (zb_mono _ _) ?_
  refine yam (zi_mono _ _) ?_
  refine yam (zretZ_mono) ?_
  refine yam (zj_mono _) ?_
  refine yam (zi_mono _ _) ?_
  refine yam (zi_mono _ _) ?_
  refine yam (zi_mono _ _) ?_
  refine yam (zi_mono _ _) ?_
  refine yam (zi_mono _ _) ?_
  refine yam (ysld_mono _ _ _) ?_
  refine yam (zi_mono _ _) ?_
  refine yam (yhS_mono _ _ _ _) ?_
  refine yam (zi_mono _ _) ?_
  refine yam (zi_mono _ _) ?_
  refine yam (zi_mono _ _) ?_
  refine yam (zi_mono _ _) ?_
  refine yam (zi_mono _ _) ?_
  refine yam (zi_mono _ _) ?_
  refine yam (ysld_mono _ _ _) ?_
  refine yam (ycV_mono _ _ _ _ _) ?_
  refine yam (zi_mono _ _) ?_
  refine yam (zi_mono _ _) ?_
  refine yam (ycV_mono _ _ _ _ _) ?_
  refine yam (zi_mono _ _) ?_
  refine yam (zb_mono _ _) ?_
  refine yam (zi_mono _ _) ?_
  refine yam (zretZ_mono) ?_
  refine yam (zi_mono _ _) ?_
  refine yam (zb_mono _ _) ?_
  refine yam (zi_mono _ _) ?_
  refine yam (zi_mono _ _) ?_
  refine yam (zlald_mono _) ?_
  refine yam (zi_mono _ _) ?_
  refine yam (zi_mono _ _) ?_
  refine yam (zi_mono _ _) ?_
  refine yam (zb_mono _ _) ?_
  refine yam (zi_mono _ _) ?_
  refine yam (zretZ_mono) ?_
  refine yam (zj_mono _) ?_
  refine yam (zi_mono _ _) ?_
  refine yam (ycV_mono _ _ _ _ _) ?_
  refine yam (zi_mono _ _) ?_
  refine yam (ycV_mono _ _ _ _ _) ?_
  refine yam (zb_mono _ _) ?_
  refine yam (zi_mono _ _) ?_
  refine yam (zretZ_mono) ?_
  refine yam (zi_mono _ _) ?_
  refine yam (zi_mono _ _) ?_
  refine yam (zi_mono _ _) ?_
  refine yam (zi_mono _ _) ?_
  refine yam (zi_mono _ _) ?_
  refine yam (ysld_mono _ _ _) ?_
  refine yam (zi_mono _ _) ?_
  refine yam (yhS_mono _ _ _ _) ?_
  refine yam (zi_mono _ _) ?_
  refine yam (zi_mono _ _) ?_
  refine yam (zi_mono _ _) ?_
  refine yam (zi_mono _ _) ?_
  refine yam (zi_mono _ _) ?_
  refine yam (zi_mono _ _) ?_
  refine yam (ysld_mono _ _ _) ?_
  refine yam (ycV_mono _ _ _ _ _) ?_
  refine yam (zi_mono _ _) ?_
  refine yam (zi_mono _ _) ?_
  refine yam (ycV_mono _ _ _ _ _) ?_
  refine yam (zi_mono _ _) ?_
  refine yam (zb_mono _ _) ?_
  refine yam (zi_mono _ _) ?_
  refine yam (zretZ_mono) ?_
  refine yam (zi_mono _ _) ?_
  refine yam (zb_mono _ _) ?_
  refine yam (zi_mono _ _) ?_
  refine yam (zi_mono _ _) ?_
  refine yam (zlald_mono _) ?_
  refine yam (zi_mono _ _) ?_
  refine yam (zi_mono _ _) ?_
  refine yam (zi_mono _ _) ?_
  refine yam (zb_mono _ _) ?_
  refine yam (zi_mono _ _) ?_
  refine yam (zretZ_mono) ?_
  refine yam (zj_mono _) ?_
  refine yam (zi_mono _ _) ?_
  refine yam (zi_mono _ _) ?_
  refine yam (zi_mono _ _) ?_
  refine yam (zi_mono _ _) ?_
  refine yam (zi_mono _ _) ?_
  refine yam (ysld_mono _ _ _) ?_
  refine yam (zi_mono _ _) ?_
  refine yam (zi_mono _ _) ?_
  refine yam (zi_mono _ _) ?_
  refine yam (zi_mono _ _) ?_
  refine yam (ysld_mono _ _ _) ?_
  refine yam (zi_mono _ _) ?_
  refine yam (yhS_mono _ _ _ _) ?_
  refine yam (zi_mono _ _) ?_
  refine yam (zi_mono _ _) ?_
  refine yam (zi_mono _ _) ?_
  refine yam (zi_mono _ _) ?_
  refine yam (zi_mono _ _) ?_
  refine yam (zi_mono _ _) ?_
  refine yam (ysld_mono _ _ _) ?_
  refine yam (zi_mono _ _) ?_
  refine yam (zi_mono _ _) ?_
  refine yam (zi_mono _ _) ?_
  refine yam (zi_mono _ _) ?_
  refine yam (ysld_mono _ _ _) ?_
  refine yam (ycV_mono _ _ _ _ _) ?_
  refine yam (zi_mono _ _) ?_
  refine yam (zi_mono _ _) ?_
  refine yam (ycV_mono _ _ _ _ _) ?_
  refine yam (zi_mono _ _) ?_
  refine yam (zb_mono _ _) ?_
  refine yam (zi_mono _ _) ?_
  refine yam (zretZ_mono) ?_
  refine yam (zi_mono _ _) ?_
  refine yam (zb_mono _ _) ?_
  refine yam (zi_mono _ _) ?_
  refine yam (zi_mono _ _) ?_
  refine yam (zlald_mono _) ?_
  refine yam (zi_mono _ _) ?_
  refine yam (zi_mono _ _) ?_
  refine yam (zi_mono _ _) ?_
  refine yam (zb_mono _ _) ?_
  refine yam (zi_mono _ _) ?_
  refine yam (zretZ_mono) ?_
  refine yam (zj_mono _) ?_
  refine yam (zi_mono _ _) ?_
  refine yam (ycV_mono _ _ _ _ _) ?_
  refine yam (zi_mono _ _) ?_
  refine yam (ycV_mono _ _ _ _ _) ?_
  refine yam (zb_mono _ _) ?_
  refine yam (zi_mono _ _) ?_
  refine yam (zretZ_mono) ?_
  refine yam (zi_mono _ _) ?_
  refine yam (zi_mono _ _) ?_
  refine yam (zi_mono _ _) ?_
  refine yam (zi_mono _ _) ?_
  refine yam (zi_mono _ _) ?_
  refine yam (ysld_mono _ _ _) ?_
  refine yam (zi_mono _ _) ?_
  refine yam (yhS_mono _ _ _ _) ?_
  refine yam (zi_mono _ _) ?_
  refine yam (zi_mono _ _) ?_
  refine yam (zi_mono _ _) ?_
  refine yam (zi_mono _ _) ?_
  refine yam (zi_mono _ _) ?_
  refine yam (zi_mono _ _) ?_
  refine yam (ysld_mono _ _ _) ?_
  refine yam (ycV_mono _ _ _ _ _) ?_
  refine yam (zi_mono _ _) ?_
  refine yam (zi_mono _ _) ?_
  refine yam (ycV_mono _ _ _ _ _) ?_
  refine yam (zi_mono _ _) ?_
  refine yam (zb_mono _ _) ?_
  refine yam (zi_mono _ _) ?_
  refine yam (zretZ_mono) ?_
  refine yam (zi_mono _ _) ?_
  refine yam (zb_mono _ _) ?_
  refine yam (zi_mono _ _) ?_
  refine yam (zi_mono _ _) ?_
  refine yam (zlald_mono _) ?_
  refine yam (zi_mono _ _) ?_
  refine yam (zi_mono _ _) ?_
  refine yam (zi_mono _ _) ?_
  refine yam (zb_mono _ _) ?_
  refine yam (zi_mono _ _) ?_
  refine yam (zretZ_mono) ?_
  refine yam (zj_mono _) ?_
  refine yam (zi_mono _ _) ?_
  refine yam (zj_mono _) ?_
  refine yam (zi_mono _ _) ?_
  refine yam (zretZ_mono) ?_
  exact zn
set_option maxRecDepth 100000 in
theorem yok13 (l : Launch) (hl : l.stackTraces = false) (D : va_G) (dA : Nat → ClassId) (b0 : Nat) (U : yU) (hb : U.1 < b0) : ∀ q ∈ ytb13 dA U, yOK l D dA b0 U 13 q.1 q.2 := by
  refine yap (ynew_ok (index := 8) (C := RC0) (T := FC0) tC0 (by decide +kernel) rfl iC0 tC0_ok (zin 26 (by decide +kernel) rfl) (zin 27 (by decide +kernel) rfl) (zin 1 (by decide +kernel) rfl) dC0_ok) ?_
  refine yap (yi_ok (zg_dup (by decide +kernel))) ?_
  refine yap (ycI_ok (mt0 := zmt) znst_st ynsub yzx (μ' := 0) (na := 0) (index := 42) (by decide +kernel) (by decide +kernel) rfl rfl (zgI (zin 30 (by decide +kernel) rfl)) (zin 1 (by decide +kernel) rfl) (zin 28 (by decide +kernel) rfl) (zin 29 (by decide +kernel) rfl) (by decide +kernel) (by decide +kernel)) ?_
  refine yap (yi_ok (zg_astore_n (j := 1) (by decide +kernel) rfl (by decide +kernel))) ?_
  refine yap (ynew_ok (index := 43) (C := RC9) (T := FC9) tC9 (by decide +kernel) rfl iC9 tC9_ok (zin 747 (by decide +kernel) rfl) (zin 748 (by decide +kernel) rfl) (zin 9 (by decide +kernel) rfl) dC9_ok) ?_
  refine yap (yi_ok (zg_dup (by decide +kernel))) ?_
  refine yap (ycI_ok (mt0 := zmt) znst_st ynsub yzx (μ' := 87) (na := 0) (index := 45) (by decide +kernel) (by decide +kernel) rfl rfl (zgI (zin 751 (by decide +kernel) rfl)) (zin 9 (by decide +kernel) rfl) (zin 749 (by decide +kernel) rfl) (zin 750 (by decide +kernel) rfl) (by decide +kernel) (by decide +kernel)) ?_
  refine yap (yi_ok (zg_astore_n (j := 2) (by decide +kernel) rfl (by decide +kernel))) ?_
  refine yap (yi_ok (zg_iconst (n := 1) (by decide +kernel) (by decide +kernel))) ?_
  refine yap (ynewl_ok (by decide +kernel) (zin 853 (by decide +kernel) rfl)) ?_
  refine yap (yi_ok (zg_astore_n (j := 3) (by decide +kernel) rfl (by decide +kernel))) ?_
  refine yap (yi_ok (zg_iconst (n := 0) (by decide +kernel) (by decide +kernel))) ?_
  refine yap (yi_ok (zg_istore (by decide +kernel) (by decide +kernel))) ?_
  refine yap (yi_ok (zg_iload (by decide +kernel))) ?_
  refine yap (yi_ok (zg_aload_n (j := 0) (by decide +kernel) rfl)) ?_
  refine yap (yslen_ok hb (fun s h => h.2.2.2) (by decide +kernel)) ?_
  refine yap (yi_ok (zg_iconst (n := 5) (by decide +kernel) (by decide +kernel))) ?_
  refine yap (yi_ok (zg_isub (by decide +kernel))) ?_
  refine yap (yb_ok (zb_igt (off := 471) (by decide +kernel) (by decide +kernel))) ?_
  refine yap (yi_ok (zg_aload_n (j := 0) (by decide +kernel) rfl)) ?_
  refine yap (yi_ok (zg_iload (by decide +kernel))) ?_
  refine yap (ysld_ok hb (fun s h => h.2.2.2) (by decide +kernel)) ?_
  refine yap (yi_ok (zg_bipush (n := 7) (by decide +kernel) (by decide +kernel))) ?_
  refine yap (yi_ok (zg_iand (by decide +kernel))) ?_
  refine yap (ysw_tab (off := 455) (lo := 0) (hi := 7) (offs := #[45, 137, 193, 249, 262, 318, 386, 399]) (len := 45) (by decide +kernel) (by decide +kernel) (by decide +kernel) (by decide +kernel)) ?_
  refine yap (yi_ok (zg_aload_n (j := 1) (by decide +kernel) rfl)) ?_
  refine yap (yi_ok (zg_aload_n (j := 0) (by decide +kernel) rfl)) ?_
  refine yap (yi_ok (zg_iload (by decide +kernel))) ?_
  refine yap (yi_ok (zg_iconst (n := 1) (by decide +kernel) (by decide +kernel))) ?_
  refine yap (yi_ok (zg_iadd (by decide +kernel))) ?_
  refine yap (ysld_ok hb (fun s h => h.2.2.2) (by decide +kernel)) ?_
  refine yap (yi_ok (zg_aload_n (j := 0) (by decide +kernel) rfl)) ?_
  refine yap (yi_ok (zg_iload (by decide +kernel))) ?_
  refine yap (yi_ok (zg_iconst (n := 2) (by decide +kernel) (by decide +kernel))) ?_
  refine yap (yi_ok (zg_iadd (by decide +kernel))) ?_
  refine yap (ysld_ok hb (fun s h => h.2.2.2) (by decide +kernel)) ?_
  refine yap (yi_ok (zg_aload_n (j := 0) (by decide +kernel) rfl)) ?_
  refine yap (yi_ok (zg_iload (by decide +kernel))) ?_
  refine yap (yi_ok (zg_iconst (n := 3) (by decide +kernel) (by decide +kernel))) ?_
  refine yap (yi_ok (zg_iadd (by decide +kernel))) ?_
  refine yap (ysld_ok hb (fun s h => h.2.2.2) (by decide +kernel)) ?_
  refine yap (yi_ok (zg_aload_n (j := 0) (by decide +kernel) rfl)) ?_
  refine yap (yi_ok (zg_iload (by decide +kernel))) ?_
  refine yap (yi_ok (zg_iconst (n := 4) (by decide +kernel) (by decide +kernel))) ?_
  refine yap (yi_ok (zg_iadd (by decide +kernel))) ?_
  refine yap (ysld_ok hb (fun s h => h.2.2.2) (by decide +kernel)) ?_
  refine yap (yi_ok (zg_aload_n (j := 3) (by decide +kernel) rfl)) ?_
  refine yap (yhS_ok ynst_st (yXX_kp hb) (μ' := 7) (na := 6) (index := 46) (by decide +kernel) (by decide +kernel) (zgS (zin 203 (by decide +kernel) rfl) (zin 204 (by decide +kernel) rfl) (zin 0 (by decide +kernel) rfl) (zin 205 (by decide +kernel) rfl)) (by decide +kernel) (by decide +kernel)) ?_
  refine yap (yi_ok (zg_istore (by decide +kernel) (by decide +kernel))) ?_
  refine yap (yi_ok (zg_aload_n (j := 2) (by decide +kernel) rfl)) ?_
  refine yap (yi_ok (zg_aload_n (j := 0) (by decide +kernel) rfl)) ?_
  refine yap (yi_ok (zg_iload (by decide +kernel))) ?_
  refine yap (yi_ok (zg_iconst (n := 1) (by decide +kernel) (by decide +kernel))) ?_
  refine yap (yi_ok (zg_iadd (by decide +kernel))) ?_
  refine yap (ysld_ok hb (fun s h => h.2.2.2) (by decide +kernel)) ?_
  refine yap (yi_ok (zg_aload_n (j := 0) (by decide +kernel) rfl)) ?_
  refine yap (yi_ok (zg_iload (by decide +kernel))) ?_
  refine yap (yi_ok (zg_iconst (n := 2) (by decide +kernel) (by decide +kernel))) ?_
  refine yap (yi_ok (zg_iadd (by decide +kernel))) ?_
  refine yap (ysld_ok hb (fun s h => h.2.2.2) (by decide +kernel)) ?_
  refine yap (yi_ok (zg_aload_n (j := 0) (by decide +kernel) rfl)) ?_
  refine yap (yi_ok (zg_iload (by decide +kernel))) ?_
  refine yap (yi_ok (zg_iconst (n := 3) (by decide +kernel) (by decide +kernel))) ?_
  refine yap (yi_ok (zg_iadd (by decide +kernel))) ?_
  refine yap (ysld_ok hb (fun s h => h.2.2.2) (by decide +kernel)) ?_
  refine yap (yi_ok (zg_aload_n (j := 0) (by decide +kernel) rfl)) ?_
  refine yap (yi_ok (zg_iload (by decide +kernel))) ?_
  refine yap (yi_ok (zg_iconst (n := 4) (by decide +kernel) (by decide +kernel))) ?_
  refine yap (yi_ok (zg_iadd (by decide +kernel))) ?_
  refine yap (ysld_ok hb (fun s h => h.2.2.2) (by decide +kernel)) ?_
  refine yap (ycV_ok (mt0 := zmt) znst_st ynsub yzx (μ' := 89) (na := 4) (ci := 9) (index := 51) (q := (RC9, FC9, 33)) (by decide +kernel) (by decide +kernel) rfl (zgV (zin 859 (by decide +kernel) rfl) (zin 860 (by decide +kernel) rfl) (zin 861 (by decide +kernel) rfl) (zin 9 (by decide +kernel) rfl) (zin 862 (by decide +kernel) rfl)) (by decide +kernel) (by decide +kernel)) ?_
  refine yap (yi_ok (zg_istore (by decide +kernel) (by decide +kernel))) ?_
  refine yap (yi_ok (zg_aload_n (j := 2) (by decide +kernel) rfl)) ?_
  refine yap (ycV_ok (mt0 := zmt) znst_st ynsub yzx (μ' := 88) (na := 0) (ci := 9) (index := 52) (q := (RC9, FC9, 33)) (by decide +kernel) (by decide +kernel) rfl (zgV (zin 855 (by decide +kernel) rfl) (zin 856 (by decide +kernel) rfl) (zin 857 (by decide +kernel) rfl) (zin 9 (by decide +kernel) rfl) (zin 858 (by decide +kernel) rfl)) (by decide +kernel) (by decide +kernel)) ?_
  refine yap (yi_ok (zg_iload (by decide +kernel))) ?_
  refine yap (yb_ok (zb_ieq (off := 5) (by decide +kernel) (by decide +kernel))) ?_
  refine yap (yi_ok (zg_iconst (n := 0) (by decide +kernel) (by decide +kernel))) ?_
  refine yap (yretZ_ok (by decide +kernel) rfl) ?_
  refine yap (yi_ok (zg_iload (by decide +kernel))) ?_
  refine yap (yb_ok (zb_ne (off := 15) (by decide +kernel) (by decide +kernel))) ?_
  refine yap (yi_ok (zg_aload_n (j := 3) (by decide +kernel) rfl)) ?_
  refine yap (yi_ok (zg_iconst (n := 0) (by decide +kernel) (by decide +kernel))) ?_
  refine yap (ylald_ok (by decide +kernel)) ?_
  refine yap (yi_ok (zg_iload (by decide +kernel))) ?_
  refine yap (yi_ok (zg_i2l (by decide +kernel))) ?_
  refine yap (yi_ok (zg_lcmp (by decide +kernel))) ?_
  refine yap (yb_ok (zb_eq (off := 5) (by decide +kernel) (by decide +kernel))) ?_
  refine yap (yi_ok (zg_iconst (n := 0) (by decide +kernel) (by decide +kernel))) ?_
  refine yap (yretZ_ok (by decide +kernel) rfl) ?_
  refine yap (yj_ok (off := 321) (by decide +kernel) (by decide +kernel)) ?_
  refine yap (yi_ok (zg_aload_n (j := 1) (by decide +kernel) rfl)) ?_
  refine yap (yi_ok (zg_aload_n (j := 0) (by decide +kernel) rfl)) ?_
  refine yap (yi_ok (zg_iload (by decide +kernel))) ?_
  refine yap (yi_ok (zg_iconst (n := 1) (by decide +kernel) (by decide +kernel))) ?_
  refine yap (yi_ok (zg_iadd (by decide +kernel))) ?_
  refine yap (ysld_ok hb (fun s h => h.2.2.2) (by decide +kernel)) ?_
  refine yap (yi_ok (zg_aload_n (j := 3) (by decide +kernel) rfl)) ?_
  refine yap (yhS_ok ynst_st (yXX_kp hb) (μ' := 8) (na := 3) (index := 56) (by decide +kernel) (by decide +kernel) (zgS (zin 356 (by decide +kernel) rfl) (zin 357 (by decide +kernel) rfl) (zin 0 (by decide +kernel) rfl) (zin 358 (by decide +kernel) rfl)) (by decide +kernel) (by decide +kernel)) ?_
  refine yap (yi_ok (zg_istore (by decide +kernel) (by decide +kernel))) ?_
  refine yap (yi_ok (zg_aload_n (j := 2) (by decide +kernel) rfl)) ?_
  refine yap (yi_ok (zg_aload_n (j := 0) (by decide +kernel) rfl)) ?_
  refine yap (yi_ok (zg_iload (by decide +kernel))) ?_
  refine yap (yi_ok (zg_iconst (n := 1) (by decide +kernel) (by decide +kernel))) ?_
  refine yap (yi_ok (zg_iadd (by decide +kernel))) ?_
  refine yap (ysld_ok hb (fun s h => h.2.2.2) (by decide +kernel)) ?_
  refine yap (ycV_ok (mt0 := zmt) znst_st ynsub yzx (μ' := 94) (na := 1) (ci := 9) (index := 59) (q := (RC9, FC9, 33)) (by decide +kernel) (by decide +kernel) rfl (zgV (zin 880 (by decide +kernel) rfl) (zin 881 (by decide +kernel) rfl) (zin 882 (by decide +kernel) rfl) (zin 9 (by decide +kernel) rfl) (zin 883 (by decide +kernel) rfl)) (by decide +kernel) (by decide +kernel)) ?_
  refine yap (yi_ok (zg_istore (by decide +kernel) (by decide +kernel))) ?_
  refine yap (yi_ok (zg_aload_n (j := 2) (by decide +kernel) rfl)) ?_
  refine yap (ycV_ok (mt0 := zmt) znst_st ynsub yzx (μ' := 88) (na := 0) (ci := 9) (index := 52) (q := (RC9, FC9, 33)) (by decide +kernel) (by decide +kernel) rfl (zgV (zin 855 (by decide +kernel) rfl) (zin 856 (by decide +kernel) rfl) (zin 857 (by decide +kernel) rfl) (zin 9 (by decide +kernel) rfl) (zin 858 (by decide +kernel) rfl)) (by decide +kernel) (by decide +kernel)) ?_
  refine yap (yi_ok (zg_iload (by decide +kernel))) ?_
  refine yap (yb_ok (zb_ieq (off := 5) (by decide +kernel) (by decide +kernel))) ?_
  refine yap (yi_ok (zg_iconst (n := 0) (by decide +kernel) (by decide +kernel))) ?_
  refine yap (yretZ_ok (by decide +kernel) rfl) ?_
  refine yap (yi_ok (zg_iload (by decide +kernel))) ?_
  refine yap (yb_ok (zb_ne (off := 15) (by decide +kernel) (by decide +kernel))) ?_
  refine yap (yi_ok (zg_aload_n (j := 3) (by decide +kernel) rfl)) ?_
  refine yap (yi_ok (zg_iconst (n := 0) (by decide +kernel) (by decide +kernel))) ?_
  refine yap (ylald_ok (by decide +kernel)) ?_
  refine yap (yi_ok (zg_iload (by decide +kernel))) ?_
  refine yap (yi_ok (zg_i2l (by decide +kernel))) ?_
  refine yap (yi_ok (zg_lcmp (by decide +kernel))) ?_
  refine yap (yb_ok (zb_eq (off := 5) (by decide +kernel) (by decide +kernel))) ?_
  refine yap (yi_ok (zg_iconst (n := 0) (by decide +kernel) (by decide +kernel))) ?_
  refine yap (yretZ_ok (by decide +kernel) rfl) ?_
  refine yap (yj_ok (off := 265) (by decide +kernel) (by decide +kernel)) ?_
  refine yap (yi_ok (zg_aload_n (j := 1) (by decide +kernel) rfl)) ?_
  refine yap (yi_ok (zg_aload_n (j := 0) (by decide +kernel) rfl)) ?_
  refine yap (yi_ok (zg_iload (by decide +kernel))) ?_
  refine yap (yi_ok (zg_iconst (n := 1) (by decide +kernel) (by decide +kernel))) ?_
  refine yap (yi_ok (zg_iadd (by decide +kernel))) ?_
  refine yap (ysld_ok hb (fun s h => h.2.2.2) (by decide +kernel)) ?_
  refine yap (yi_ok (zg_aload_n (j := 3) (by decide +kernel) rfl)) ?_
  refine yap (yhS_ok ynst_st (yXX_kp hb) (μ' := 9) (na := 3) (index := 60) (by decide +kernel) (by decide +kernel) (zgS (zin 708 (by decide +kernel) rfl) (zin 709 (by decide +kernel) rfl) (zin 0 (by decide +kernel) rfl) (zin 710 (by decide +kernel) rfl)) (by decide +kernel) (by decide +kernel)) ?_
  refine yap (yi_ok (zg_istore (by decide +kernel) (by decide +kernel))) ?_
  refine yap (yi_ok (zg_aload_n (j := 2) (by decide +kernel) rfl)) ?_
  refine yap (yi_ok (zg_aload_n (j := 0) (by decide +kernel) rfl)) ?_
  refine yap (yi_ok (zg_iload (by decide +kernel))) ?_
  refine yap (yi_ok (zg_iconst (n := 1) (by decide +kernel) (by decide +kernel))) ?_
  refine yap (yi_ok (zg_iadd (by decide +kernel))) ?_
  refine yap (ysld_ok hb (fun s h => h.2.2.2) (by decide +kernel)) ?_
  refine yap (ycV_ok (mt0 := zmt) znst_st ynsub yzx (μ' := 140) (na := 1) (ci := 9) (index := 62) (q := (RC9, FC9, 33)) (by decide +kernel) (by decide +kernel) rfl (zgV (zin 1062 (by decide +kernel) rfl) (zin 1063 (by decide +kernel) rfl) (zin 1064 (by decide +kernel) rfl) (zin 9 (by decide +kernel) rfl) (zin 1065 (by decide +kernel) rfl)) (by decide +kernel) (by decide +kernel)) ?_
  refine yap (yi_ok (zg_istore (by decide +kernel) (by decide +kernel))) ?_
  refine yap (yi_ok (zg_aload_n (j := 2) (by decide +kernel) rfl)) ?_
  refine yap (ycV_ok (mt0 := zmt) znst_st ynsub yzx (μ' := 88) (na := 0) (ci := 9) (index := 52) (q := (RC9, FC9, 33)) (by decide +kernel) (by decide +kernel) rfl (zgV (zin 855 (by decide +kernel) rfl) (zin 856 (by decide +kernel) rfl) (zin 857 (by decide +kernel) rfl) (zin 9 (by decide +kernel) rfl) (zin 858 (by decide +kernel) rfl)) (by decide +kernel) (by decide +kernel)) ?_
  refine yap (yi_ok (zg_iload (by decide +kernel))) ?_
  refine yap (yb_ok (zb_ieq (off := 5) (by decide +kernel) (by decide +kernel))) ?_
  refine yap (yi_ok (zg_iconst (n := 0) (by decide +kernel) (by decide +kernel))) ?_
  refine yap (yretZ_ok (by decide +kernel) rfl) ?_
  refine yap (yi_ok (zg_iload (by decide +kernel))) ?_
  refine yap (yb_ok (zb_ne (off := 15) (by decide +kernel) (by decide +kernel))) ?_
  refine yap (yi_ok (zg_aload_n (j := 3) (by decide +kernel) rfl)) ?_
  refine yap (yi_ok (zg_iconst (n := 0) (by decide +kernel) (by decide +kernel))) ?_
  refine yap (ylald_ok (by decide +kernel)) ?_
  refine yap (yi_ok (zg_iload (by decide +kernel))) ?_
  refine yap (yi_ok (zg_i2l (by decide +kernel))) ?_
  refine yap (yi_ok (zg_lcmp (by decide +kernel))) ?_
  refine yap (yb_ok (zb_eq (off := 5) (by decide +kernel) (by decide +kernel))) ?_
  refine yap (yi_ok (zg_iconst (n := 0) (by decide +kernel) (by decide +kernel))) ?_
  refine yap (yretZ_ok (by decide +kernel) rfl) ?_
  refine yap (yj_ok (off := 209) (by decide +kernel) (by decide +kernel)) ?_
  refine yap (yi_ok (zg_aload_n (j := 1) (by decide +kernel) rfl)) ?_
  refine yap (ycV_ok (mt0 := zmt) znst_st ynsub yzx (μ' := 9) (na := 0) (ci := 0) (index := 63) (q := (RC0, FC0, 3)) (by decide +kernel) (by decide +kernel) rfl (zgV (zin 187 (by decide +kernel) rfl) (zin 188 (by decide +kernel) rfl) (zin 189 (by decide +kernel) rfl) (zin 1 (by decide +kernel) rfl) (zin 190 (by decide +kernel) rfl)) (by decide +kernel) (by decide +kernel)) ?_
  refine yap (yi_ok (zg_aload_n (j := 2) (by decide +kernel) rfl)) ?_
  refine yap (ycV_ok (mt0 := zmt) znst_st ynsub yzx (μ' := 141) (na := 0) (ci := 9) (index := 66) (q := (RC9, FC9, 33)) (by decide +kernel) (by decide +kernel) rfl (zgV (zin 1066 (by decide +kernel) rfl) (zin 1067 (by decide +kernel) rfl) (zin 1068 (by decide +kernel) rfl) (zin 9 (by decide +kernel) rfl) (zin 1069 (by decide +kernel) rfl)) (by decide +kernel) (by decide +kernel)) ?_
  refine yap (yb_ok (zb_ieq (off := 198) (by decide +kernel) (by decide +kernel))) ?_
  refine yap (yi_ok (zg_iconst (n := 0) (by decide +kernel) (by decide +kernel))) ?_
  refine yap (yretZ_ok (by decide +kernel) rfl) ?_
  refine yap (yi_ok (zg_aload_n (j := 1) (by decide +kernel) rfl)) ?_
  refine yap (yi_ok (zg_aload_n (j := 0) (by decide +kernel) rfl)) ?_
  refine yap (yi_ok (zg_iload (by decide +kernel))) ?_
  refine yap (yi_ok (zg_iconst (n := 1) (by decide +kernel) (by decide +kernel))) ?_
  refine yap (yi_ok (zg_iadd (by decide +kernel))) ?_
  refine yap (ysld_ok hb (fun s h => h.2.2.2) (by decide +kernel)) ?_
  refine yap (yi_ok (zg_aload_n (j := 3) (by decide +kernel) rfl)) ?_
  refine yap (yhS_ok ynst_st (yXX_kp hb) (μ' := 10) (na := 3) (index := 67) (by decide +kernel) (by decide +kernel) (zgS (zin 722 (by decide +kernel) rfl) (zin 723 (by decide +kernel) rfl) (zin 0 (by decide +kernel) rfl) (zin 724 (by decide +kernel) rfl)) (by decide +kernel) (by decide +kernel)) ?_
  refine yap (yi_ok (zg_istore (by decide +kernel) (by decide +kernel))) ?_
  refine yap (yi_ok (zg_aload_n (j := 2) (by decide +kernel) rfl)) ?_
  refine yap (yi_ok (zg_aload_n (j := 0) (by decide +kernel) rfl)) ?_
  refine yap (yi_ok (zg_iload (by decide +kernel))) ?_
  refine yap (yi_ok (zg_iconst (n := 1) (by decide +kernel) (by decide +kernel))) ?_
  refine yap (yi_ok (zg_iadd (by decide +kernel))) ?_
  refine yap (ysld_ok hb (fun s h => h.2.2.2) (by decide +kernel)) ?_
  refine yap (ycV_ok (mt0 := zmt) znst_st ynsub yzx (μ' := 142) (na := 1) (ci := 9) (index := 69) (q := (RC9, FC9, 33)) (by decide +kernel) (by decide +kernel) rfl (zgV (zin 1070 (by decide +kernel) rfl) (zin 1071 (by decide +kernel) rfl) (zin 1072 (by decide +kernel) rfl) (zin 9 (by decide +kernel) rfl) (zin 1073 (by decide +kernel) rfl)) (by decide +kernel) (by decide +kernel)) ?_
  refine yap (yi_ok (zg_istore (by decide +kernel) (by decide +kernel))) ?_
  refine yap (yi_ok (zg_aload_n (j := 2) (by decide +kernel) rfl)) ?_
  refine yap (ycV_ok (mt0 := zmt) znst_st ynsub yzx (μ' := 88) (na := 0) (ci := 9) (index := 52) (q := (RC9, FC9, 33)) (by decide +kernel) (by decide +kernel) rfl (zgV (zin 855 (by decide +kernel) rfl) (zin 856 (by decide +kernel) rfl) (zin 857 (by decide +kernel) rfl) (zin 9 (by decide +kernel) rfl) (zin 858 (by decide +kernel) rfl)) (by decide +kernel) (by decide +kernel)) ?_
  refine yap (yi_ok (zg_iload (by decide +kernel))) ?_
  refine yap (yb_ok (zb_ieq (off := 5) (by decide +kernel) (by decide +kernel))) ?_
  refine yap (yi_ok (zg_iconst (n := 0) (by decide +kernel) (by decide +kernel))) ?_
  refine yap (yretZ_ok (by decide +kernel) rfl) ?_
  refine yap (yi_ok (zg_iload (by decide +kernel))) ?_
  refine yap (yb_ok (zb_ne (off := 15) (by decide +kernel) (by decide +kernel))) ?_
  refine yap (yi_ok (zg_aload_n (j := 3) (by decide +kernel) rfl)) ?_
  refine yap (yi_ok (zg_iconst (n := 0) (by decide +kernel) (by decide +kernel))) ?_
  refine yap (ylald_ok (by decide +kernel)) ?_
  refine yap (yi_ok (zg_iload (by decide +kernel))) ?_
  refine yap (yi_ok (zg_i2l (by decide +kernel))) ?_
  refine yap (yi_ok (zg_lcmp (by decide +kernel))) ?_
  refine yap (yb_ok (zb_eq (off := 5) (by decide +kernel) (by decide +kernel))) ?_
  refine yap (yi_ok (zg_iconst (n := 0) (by decide +kernel) (by decide +kernel))) ?_
  refine yap (yretZ_ok (by decide +kernel) rfl) ?_
  refine yap (yj_ok (off := 140) (by decide +kernel) (by decide +kernel)) ?_
  refine yap (yi_ok (zg_aload_n (j := 1) (by decide +kernel) rfl)) ?_
  refine yap (yi_ok (zg_aload_n (j := 0) (by decide +kernel) rfl)) ?_
  refine yap (yi_ok (zg_iload (by decide +kernel))) ?_
  refine yap (yi_ok (zg_iconst (n := 1) (by decide +kernel) (by decide +kernel))) ?_
  refine yap (yi_ok (zg_iadd (by decide +kernel))) ?_
  refine yap (ysld_ok hb (fun s h => h.2.2.2) (by decide +kernel)) ?_
  refine yap (yi_ok (zg_aload_n (j := 0) (by decide +kernel) rfl)) ?_
  refine yap (yi_ok (zg_iload (by decide +kernel))) ?_
  refine yap (yi_ok (zg_iconst (n := 2) (by decide +kernel) (by decide +kernel))) ?_
  refine yap (yi_ok (zg_iadd (by decide +kernel))) ?_
  refine yap (ysld_ok hb (fun s h => h.2.2.2) (by decide +kernel)) ?_
  refine yap (yi_ok (zg_aload_n (j := 3) (by decide +kernel) rfl)) ?_
  refine yap (yhS_ok ynst_st (yXX_kp hb) (μ' := 11) (na := 4) (index := 70) (by decide +kernel) (by decide +kernel) (zgS (zin 732 (by decide +kernel) rfl) (zin 733 (by decide +kernel) rfl) (zin 0 (by decide +kernel) rfl) (zin 734 (by decide +kernel) rfl)) (by decide +kernel) (by decide +kernel)) ?_
  refine yap (yi_ok (zg_istore (by decide +kernel) (by decide +kernel))) ?_
  refine yap (yi_ok (zg_aload_n (j := 2) (by decide +kernel) rfl)) ?_
  refine yap (yi_ok (zg_aload_n (j := 0) (by decide +kernel) rfl)) ?_
  refine yap (yi_ok (zg_iload (by decide +kernel))) ?_
  refine yap (yi_ok (zg_iconst (n := 1) (by decide +kernel) (by decide +kernel))) ?_
  refine yap (yi_ok (zg_iadd (by decide +kernel))) ?_
  refine yap (ysld_ok hb (fun s h => h.2.2.2) (by decide +kernel)) ?_
  refine yap (yi_ok (zg_aload_n (j := 0) (by decide +kernel) rfl)) ?_
  refine yap (yi_ok (zg_iload (by decide +kernel))) ?_
  refine yap (yi_ok (zg_iconst (n := 2) (by decide +kernel) (by decide +kernel))) ?_
  refine yap (yi_ok (zg_iadd (by decide +kernel))) ?_
  refine yap (ysld_ok hb (fun s h => h.2.2.2) (by decide +kernel)) ?_
  refine yap (ycV_ok (mt0 := zmt) znst_st ynsub yzx (μ' := 143) (na := 2) (ci := 9) (index := 73) (q := (RC9, FC9, 33)) (by decide +kernel) (by decide +kernel) rfl (zgV (zin 1074 (by decide +kernel) rfl) (zin 1075 (by decide +kernel) rfl) (zin 1076 (by decide +kernel) rfl) (zin 9 (by decide +kernel) rfl) (zin 1077 (by decide +kernel) rfl)) (by decide +kernel) (by decide +kernel)) ?_
  refine yap (yi_ok (zg_istore (by decide +kernel) (by decide +kernel))) ?_
  refine yap (yi_ok (zg_aload_n (j := 2) (by decide +kernel) rfl)) ?_
  refine yap (ycV_ok (mt0 := zmt) znst_st ynsub yzx (μ' := 88) (na := 0) (ci := 9) (index := 52) (q := (RC9, FC9, 33)) (by decide +kernel) (by decide +kernel) rfl (zgV (zin 855 (by decide +kernel) rfl) (zin 856 (by decide +kernel) rfl) (zin 857 (by decide +kernel) rfl) (zin 9 (by decide +kernel) rfl) (zin 858 (by decide +kernel) rfl)) (by decide +kernel) (by decide +kernel)) ?_
  refine yap (yi_ok (zg_iload (by decide +kernel))) ?_
  refine yap (yb_ok (zb_ieq (off := 5) (by decide +kernel) (by decide +kernel))) ?_
  refine yap (yi_ok (zg_iconst (n := 0) (by decide +kernel) (by decide +kernel))) ?_
  refine yap (yretZ_ok (by decide +kernel) rfl) ?_
  refine yap (yi_ok (zg_iload (by decide +kernel))) ?_
  refine yap (yb_ok (zb_ne (off := 15) (by decide +kernel) (by decide +kernel))) ?_
  refine yap (yi_ok (zg_aload_n (j := 3) (by decide +kernel) rfl)) ?_
  refine yap (yi_ok (zg_iconst (n := 0) (by decide +kernel) (by decide +kernel))) ?_
  refine yap (ylald_ok (by decide +kernel)) ?_
  refine yap (yi_ok (zg_iload (by decide +kernel))) ?_
  refine yap (yi_ok (zg_i2l (by decide +kernel))) ?_
  refine yap (yi_ok (zg_lcmp (by decide +kernel))) ?_
  refine yap (yb_ok (zb_eq (off := 5) (by decide +kernel) (by decide +kernel))) ?_
  refine yap (yi_ok (zg_iconst (n := 0) (by decide +kernel) (by decide +kernel))) ?_
  refine yap (yretZ_ok (by decide +kernel) rfl) ?_
  refine yap (yj_ok (off := 72) (by decide +kernel) (by decide +kernel)) ?_
  refine yap (yi_ok (zg_aload_n (j := 1) (by decide +kernel) rfl)) ?_
  refine yap (ycV_ok (mt0 := zmt) znst_st ynsub yzx (μ' := 10) (na := 0) (ci := 0) (index := 74) (q := (RC0, FC0, 3)) (by decide +kernel) (by decide +kernel) rfl (zgV (zin 191 (by decide +kernel) rfl) (zin 192 (by decide +kernel) rfl) (zin 193 (by decide +kernel) rfl) (zin 1 (by decide +kernel) rfl) (zin 194 (by decide +kernel) rfl)) (by decide +kernel) (by decide +kernel)) ?_
  refine yap (yi_ok (zg_aload_n (j := 2) (by decide +kernel) rfl)) ?_
  refine yap (ycV_ok (mt0 := zmt) znst_st ynsub yzx (μ' := 144) (na := 0) (ci := 9) (index := 77) (q := (RC9, FC9, 33)) (by decide +kernel) (by decide +kernel) rfl (zgV (zin 1078 (by decide +kernel) rfl) (zin 1079 (by decide +kernel) rfl) (zin 1080 (by decide +kernel) rfl) (zin 9 (by decide +kernel) rfl) (zin 1081 (by decide +kernel) rfl)) (by decide +kernel) (by decide +kernel)) ?_
  refine yap (yb_ok (zb_ieq (off := 61) (by decide +kernel) (by decide +kernel))) ?_
  refine yap (yi_ok (zg_iconst (n := 0) (by decide +kernel) (by decide +kernel))) ?_
  refine yap (yretZ_ok (by decide +kernel) rfl) ?_
  refine yap (yi_ok (zg_aload_n (j := 1) (by decide +kernel) rfl)) ?_
  refine yap (yi_ok (zg_aload_n (j := 0) (by decide +kernel) rfl)) ?_
  refine yap (yi_ok (zg_iload (by decide +kernel))) ?_
  refine yap (yi_ok (zg_iconst (n := 1) (by decide +kernel) (by decide +kernel))) ?_
  refine yap (yi_ok (zg_iadd (by decide +kernel))) ?_
  refine yap (ysld_ok hb (fun s h => h.2.2.2) (by decide +kernel)) ?_
  refine yap (yi_ok (zg_aload_n (j := 3) (by decide +kernel) rfl)) ?_
  refine yap (yhS_ok ynst_st (yXX_kp hb) (μ' := 12) (na := 3) (index := 78) (by decide +kernel) (by decide +kernel) (zgS (zin 739 (by decide +kernel) rfl) (zin 740 (by decide +kernel) rfl) (zin 0 (by decide +kernel) rfl) (zin 741 (by decide +kernel) rfl)) (by decide +kernel) (by decide +kernel)) ?_
  refine yap (yi_ok (zg_istore (by decide +kernel) (by decide +kernel))) ?_
  refine yap (yi_ok (zg_aload_n (j := 2) (by decide +kernel) rfl)) ?_
  refine yap (yi_ok (zg_aload_n (j := 0) (by decide +kernel) rfl)) ?_
  refine yap (yi_ok (zg_iload (by decide +kernel))) ?_
  refine yap (yi_ok (zg_iconst (n := 1) (by decide +kernel) (by decide +kernel))) ?_
  refine yap (yi_ok (zg_iadd (by decide +kernel))) ?_
  refine yap (ysld_ok hb (fun s h => h.2.2.2) (by decide +kernel)) ?_
  refine yap (ycV_ok (mt0 := zmt) znst_st ynsub yzx (μ' := 145) (na := 1) (ci := 9) (index := 80) (q := (RC9, FC9, 33)) (by decide +kernel) (by decide +kernel) rfl (zgV (zin 1082 (by decide +kernel) rfl) (zin 1083 (by decide +kernel) rfl) (zin 1084 (by decide +kernel) rfl) (zin 9 (by decide +kernel) rfl) (zin 1085 (by decide +kernel) rfl)) (by decide +kernel) (by decide +kernel)) ?_
  refine yap (yi_ok (zg_istore (by decide +kernel) (by decide +kernel))) ?_
  refine yap (yi_ok (zg_aload_n (j := 2) (by decide +kernel) rfl)) ?_
  refine yap (ycV_ok (mt0 := zmt) znst_st ynsub yzx (μ' := 88) (na := 0) (ci := 9) (index := 52) (q := (RC9, FC9, 33)) (by decide +kernel) (by decide +kernel) rfl (zgV (zin 855 (by decide +kernel) rfl) (zin 856 (by decide +kernel) rfl) (zin 857 (by decide +kernel) rfl) (zin 9 (by decide +kernel) rfl) (zin 858 (by decide +kernel) rfl)) (by decide +kernel) (by decide +kernel)) ?_
  refine yap (yi_ok (zg_iload (by decide +kernel))) ?_
  refine yap (yb_ok (zb_ieq (off := 5) (by decide +kernel) (by decide +kernel))) ?_
  refine yap (yi_ok (zg_iconst (n := 0) (by decide +kernel) (by decide +kernel))) ?_
  refine yap (yretZ_ok (by decide +kernel) rfl) ?_
  refine yap (yi_ok (zg_iload (by decide +kernel))) ?_
  refine yap (yb_ok (zb_ne (off := 15) (by decide +kernel) (by decide +kernel))) ?_
  refine yap (yi_ok (zg_aload_n (j := 3) (by decide +kernel) rfl)) ?_
  refine yap (yi_ok (zg_iconst (n := 0) (by decide +kernel) (by decide +kernel))) ?_
  refine yap (ylald_ok (by decide +kernel)) ?_
  refine yap (yi_ok (zg_iload (by decide +kernel))) ?_
  refine yap (yi_ok (zg_i2l (by decide +kernel))) ?_
  refine yap (yi_ok (zg_lcmp (by decide +kernel))) ?_
  refine yap (yb_ok (zb_eq (off := 5) (by decide +kernel) (by decide +kernel))) ?_
  refine yap (yi_ok (zg_iconst (n := 0) (by decide +kernel) (by decide +kernel))) ?_
  refine yap (yretZ_ok (by decide +kernel) rfl) ?_
  refine yap (yj_ok (off := 3) (by decide +kernel) (by decide +kernel)) ?_
  refine yap (yi_ok (zg_iinc (n := 5) (by decide +kernel) (by decide +kernel) (by decide +kernel))) ?_
  refine yap (yj_ok (off := -474) (by decide +kernel) (by decide +kernel)) ?_
  refine yap (yi_ok (zg_iconst (n := 1) (by decide +kernel) (by decide +kernel))) ?_
  refine yap (yretZ_ok (by decide +kernel) rfl) ?_
  exact zn
def ytbs (dA : Nat → ClassId) (U : yU) : List (List (Nat × (zP → zP))) := [ytb0 dA U, ytb1 dA U, ytb2 dA U, ytb3 dA U, ytb4 dA U, ytb5 dA U, ytb6 dA U, ytb7 dA U, ytb8 dA U, ytb9 dA U, ytb10 dA U, ytb11 dA U, ytb12 dA U, ytb13 dA U]
def yT (dA : Nat → ClassId) (U : yU) : Nat → Nat → Option (zP → zP) := fun μ pc => ((ytbs dA U)[μ]?).bind (fun t => zlk t pc)
theorem yT_mono (dA : Nat → ClassId) (U : yU) (μ pc : Nat) (tr : zP → zP) (h : yT dA U μ pc = some tr) : zMono tr := by
  unfold yT at h
  cases ht : (ytbs dA U)[μ]? with
  | none => rw [ht] at h; cases h
  | some t =>
    rw [ht, Option.bind_some] at h
    have hm := zlk_mem t pc tr h
    have : ∀ u ∈ ytbs dA U, ∀ q ∈ u, zMono q.2 := by
      unfold ytbs
      refine za (ymo0 dA U) ?_
      refine za (ymo1 dA U) ?_
      refine za (ymo2 dA U) ?_
      refine za (ymo3 dA U) ?_
      refine za (ymo4 dA U) ?_
      refine za (ymo5 dA U) ?_
      refine za (ymo6 dA U) ?_
      refine za (ymo7 dA U) ?_
      refine za (ymo8 dA U) ?_
      refine za (ymo9 dA U) ?_
      refine za (ymo10 dA U) ?_
      refine za (ymo11 dA U) ?_
      refine za (ymo12 dA U) ?_
      refine za (ymo13 dA U) ?_
      exact zn
    exact this t (List.mem_of_getElem? ht) (pc, tr) hm
def yAll (l : Launch) (D : va_G) (dA : Nat → ClassId) (b0 : Nat) (U : yU) (i0 : Nat) (L : List (List (Nat × (zP → zP)))) : Prop := ∀ (i : Nat) (t : List (Nat × (zP → zP))), L[i]? = some t → ∀ q ∈ t, yOK l D dA b0 U (i0 + i) q.1 q.2
theorem yAll_nil {l : Launch} {D : va_G} {dA : Nat → ClassId} {b0 i0 : Nat} {U : yU} : yAll l D dA b0 U i0 [] := fun i t h => by simp at h
theorem yAll_cons {l : Launch} {D : va_G} {dA : Nat → ClassId} {b0 i0 j : Nat} {U : yU} {t : List (Nat × (zP → zP))} {L : List (List (Nat × (zP → zP)))} (h : ∀ q ∈ t, yOK l D dA b0 U i0 q.1 q.2) (hj : i0 + 1 = j) (r : yAll l D dA b0 U j L) : yAll l D dA b0 U i0 (t :: L) := by
  intro i u hu
  subst hj
  cases i with
  | zero =>
    rw [List.getElem?_cons_zero] at hu
    cases hu
    exact h
  | succ i =>
    rw [show i0 + (i + 1) = i0 + 1 + i by omega]
    exact r i u (by rw [List.getElem?_cons_succ] at hu; exact hu)
theorem yT_ok (l : Launch) (hl : l.stackTraces = false) (D : va_G) (dA : Nat → ClassId) (b0 : Nat) (U : yU) (hb : U.1 < b0) (μ pc : Nat) (tr : zP → zP) (h : yT dA U μ pc = some tr) : yOK l D dA b0 U μ pc tr := by
  unfold yT at h
  cases ht : (ytbs dA U)[μ]? with
  | none => rw [ht] at h; cases h
  | some t =>
    rw [ht, Option.bind_some] at h
    have hm := zlk_mem t pc tr h
    have ha : yAll l D dA b0 U 0 (ytbs dA U) := by
      unfold ytbs
      refine yAll_cons (yok0 l hl D dA b0 U hb) (show 0 + 1 = 1 from rfl) ?_
      refine yAll_cons (yok1 l hl D dA b0 U hb) (show 1 + 1 = 2 from rfl) ?_
      refine yAll_cons (yok2 l hl D dA b0 U hb) (show 2 + 1 = 3 from rfl) ?_
      refine yAll_cons (yok3 l hl D dA b0 U hb) (show 3 + 1 = 4 from rfl) ?_
      refine yAll_cons (yok4 l hl D dA b0 U hb) (show 4 + 1 = 5 from rfl) ?_
      refine yAll_cons (yok5 l hl D dA b0 U hb) (show 5 + 1 = 6 from rfl) ?_
      refine yAll_cons (yok6 l hl D dA b0 U hb) (show 6 + 1 = 7 from rfl) ?_
      refine yAll_cons (yok7 l hl D dA b0 U hb) (show 7 + 1 = 8 from rfl) ?_
      refine yAll_cons (yok8 l hl D dA b0 U hb) (show 8 + 1 = 9 from rfl) ?_
      refine yAll_cons (yok9 l hl D dA b0 U hb) (show 9 + 1 = 10 from rfl) ?_
      refine yAll_cons (yok10 l hl D dA b0 U hb) (show 10 + 1 = 11 from rfl) ?_
      refine yAll_cons (yok11 l hl D dA b0 U hb) (show 11 + 1 = 12 from rfl) ?_
      refine yAll_cons (yok12 l hl D dA b0 U hb) (show 12 + 1 = 13 from rfl) ?_
      refine yAll_cons (yok13 l hl D dA b0 U hb) (show 13 + 1 = 14 from rfl) ?_
      exact yAll_nil
    have := ha μ t ht (pc, tr) hm
    rw [Nat.zero_add] at this
    exact this
def zy (dA : Nat → ClassId) (U : yU) : zP := zR (yT dA U)
theorem ystp {dA : Nat → ClassId} {U : yU} {d K N μ pc : Nat} {L : zV} {st : List Value} {w : ww_W} {k n : Nat} {Q : zQ} {tr : zP → zP} (h : yT dA U μ pc = some tr) (h2 : tr (zy dA U) d K N μ pc L st w k n Q) : zy dA U d K N μ pc L st w k n Q := zR.go (yT_mono dA U) h h2
theorem zy_sound {l : Launch} (hl : l.stackTraces = false) {D : va_G} {dA : Nat → ClassId} {b0 : Nat} {U : yU} (hb : U.1 < b0) {d K N μ pc : Nat} {L : zV} {st : List Value} {w : ww_W} {k n : Nat} {Q : zQ} (h : zy dA U d K N μ pc L st w k n Q) : yM l ymt yeh zbig ynst D zcls (ztys dA) b0 (yXX b0 U) d K N μ pc L st w k n Q := yR_sound (fun μ pc tr ht => yT_ok l hl D dA b0 U hb μ pc tr ht) h
