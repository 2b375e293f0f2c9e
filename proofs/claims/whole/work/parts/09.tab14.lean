/-- VectorLanguageModel.element(I)I -/
def tb140 (tys : List (ClassId × FieldType)) : List (Nat × (zP → zP)) := [(0, zi (gAl 0) 1), (1, zi (gC (.int (0))) 1), (2, zput (.int) 9 0), (5, zi (gAl 0) 1), (6, zget 9 30), (9, zb (c1 (fun x => x < 0)) 24), (12, zi (gAl 0) 1), (13, zget 9 7), (16, zi (gAl 0) 1), (17, zget 9 30), (20, ziald tys), (21, zb (c1 (fun x => 0 ≤ x)) 30), (24, zi (gAl 0) 1), (25, zi (gC (.int (1))) 1), (26, zcV 2 93 1 9), (29, zretI), (30, zi (gIl 1) 1), (31, zb (c1 (fun x => x < 0)) 47), (34, zi (gIl 1) 1), (35, zi (gAl 0) 1), (36, zget 9 7), (39, zi (gAl 0) 1), (40, zget 9 30), (43, ziald tys), (44, zb (c2 (fun x y => x < y)) 55), (47, zi (gAl 0) 1), (48, zi (gC (.int (2))) 1), (49, zcV 2 93 1 9), (52, zj 64), (55, zi (gAl 0) 1), (56, zi (gAl 0) 1), (57, zget 9 30), (60, zi (gIl 1) 1), (61, zcV 3 114 2 9), (64, zretI)]
set_option maxRecDepth 100000 in
theorem ok140 (l : Launch) (D : va_G) (dA : Nat → ClassId) (b0 : Nat) : ∀ q ∈ tb140 (ztys dA), zOK l D dA b0 140 q.1 q.2 := by
  refine zap (zi_mono _ _) (zi_ok (zg_aload_n (j := 0) (by decide +kernel) rfl)) ?_
  refine zap (zi_mono _ _) (zi_ok (zg_iconst (n := 0) (by decide +kernel) (by decide +kernel))) ?_
  refine zap (zput_mono _ _ _) (zput_ok (index := 79) (C := RC9) (ref := "VectorLanguageModel") (T := FC9) (NN := 33) tC9 (by decide +kernel) rfl iC9 tC9_ok nC9 (by decide +kernel) (zin 753 (by decide +kernel) rfl) rfl (Or.inl rfl) rfl) ?_
  refine zap (zi_mono _ _) (zi_ok (zg_aload_n (j := 0) (by decide +kernel) rfl)) ?_
  refine zap (zget_mono _ _) (zget_ok (index := 72) (C := RC9) (ref := "VectorLanguageModel") (T := FC9) (NN := 33) (by decide +kernel) rfl iC9 (by decide +kernel) (zin 783 (by decide +kernel) rfl) rfl) ?_
  refine zap (zb_mono _ _) (zb_ok (zb_lt (off := 15) (by decide +kernel) (by decide +kernel))) ?_
  refine zap (zi_mono _ _) (zi_ok (zg_aload_n (j := 0) (by decide +kernel) rfl)) ?_
  refine zap (zget_mono _ _) (zget_ok (index := 26) (C := RC9) (ref := "VectorLanguageModel") (T := FC9) (NN := 33) (by decide +kernel) rfl iC9 (by decide +kernel) (zin 760 (by decide +kernel) rfl) rfl) ?_
  refine zap (zi_mono _ _) (zi_ok (zg_aload_n (j := 0) (by decide +kernel) rfl)) ?_
  refine zap (zget_mono _ _) (zget_ok (index := 72) (C := RC9) (ref := "VectorLanguageModel") (T := FC9) (NN := 33) (by decide +kernel) rfl iC9 (by decide +kernel) (zin 783 (by decide +kernel) rfl) rfl) ?_
  refine zap (ziald_mono _) (ziald_ok (by decide +kernel)) ?_
  refine zap (zb_mono _ _) (zb_ok (zb_ge (off := 9) (by decide +kernel) (by decide +kernel))) ?_
  refine zap (zi_mono _ _) (zi_ok (zg_aload_n (j := 0) (by decide +kernel) rfl)) ?_
  refine zap (zi_mono _ _) (zi_ok (zg_iconst (n := 1) (by decide +kernel) (by decide +kernel))) ?_
  refine zap (zcV_mono _ _ _ _) (zcV_ok znst_st (μ' := 93) (na := 1) (ci := 9) (index := 99) (q := (RC9, FC9, 33)) (by decide +kernel) (by decide +kernel) rfl (zgV (zin 876 (by decide +kernel) rfl) (zin 878 (by decide +kernel) rfl) (zsel 37 (by decide +kernel) rfl) (zin 9 (by decide +kernel) rfl) (zin 879 (by decide +kernel) rfl)) (by decide +kernel) (by decide +kernel)) ?_
  refine zap (zretI_mono) (zretI_ok (by decide +kernel) rfl) ?_
  refine zap (zi_mono _ _) (zi_ok (zg_iload_n (j := 1) (by decide +kernel) rfl)) ?_
  refine zap (zb_mono _ _) (zb_ok (zb_lt (off := 16) (by decide +kernel) (by decide +kernel))) ?_
  refine zap (zi_mono _ _) (zi_ok (zg_iload_n (j := 1) (by decide +kernel) rfl)) ?_
  refine zap (zi_mono _ _) (zi_ok (zg_aload_n (j := 0) (by decide +kernel) rfl)) ?_
  refine zap (zget_mono _ _) (zget_ok (index := 26) (C := RC9) (ref := "VectorLanguageModel") (T := FC9) (NN := 33) (by decide +kernel) rfl iC9 (by decide +kernel) (zin 760 (by decide +kernel) rfl) rfl) ?_
  refine zap (zi_mono _ _) (zi_ok (zg_aload_n (j := 0) (by decide +kernel) rfl)) ?_
  refine zap (zget_mono _ _) (zget_ok (index := 72) (C := RC9) (ref := "VectorLanguageModel") (T := FC9) (NN := 33) (by decide +kernel) rfl iC9 (by decide +kernel) (zin 783 (by decide +kernel) rfl) rfl) ?_
  refine zap (ziald_mono _) (ziald_ok (by decide +kernel)) ?_
  refine zap (zb_mono _ _) (zb_ok (zb_ilt (off := 11) (by decide +kernel) (by decide +kernel))) ?_
  refine zap (zi_mono _ _) (zi_ok (zg_aload_n (j := 0) (by decide +kernel) rfl)) ?_
  refine zap (zi_mono _ _) (zi_ok (zg_iconst (n := 2) (by decide +kernel) (by decide +kernel))) ?_
  refine zap (zcV_mono _ _ _ _) (zcV_ok znst_st (μ' := 93) (na := 1) (ci := 9) (index := 99) (q := (RC9, FC9, 33)) (by decide +kernel) (by decide +kernel) rfl (zgV (zin 876 (by decide +kernel) rfl) (zin 878 (by decide +kernel) rfl) (zsel 37 (by decide +kernel) rfl) (zin 9 (by decide +kernel) rfl) (zin 879 (by decide +kernel) rfl)) (by decide +kernel) (by decide +kernel)) ?_
  refine zap (zj_mono _) (zj_ok (off := 12) (by decide +kernel) (by decide +kernel)) ?_
  refine zap (zi_mono _ _) (zi_ok (zg_aload_n (j := 0) (by decide +kernel) rfl)) ?_
  refine zap (zi_mono _ _) (zi_ok (zg_aload_n (j := 0) (by decide +kernel) rfl)) ?_
  refine zap (zget_mono _ _) (zget_ok (index := 72) (C := RC9) (ref := "VectorLanguageModel") (T := FC9) (NN := 33) (by decide +kernel) rfl iC9 (by decide +kernel) (zin 783 (by decide +kernel) rfl) rfl) ?_
  refine zap (zi_mono _ _) (zi_ok (zg_iload_n (j := 1) (by decide +kernel) rfl)) ?_
  refine zap (zcV_mono _ _ _ _) (zcV_ok znst_st (μ' := 114) (na := 2) (ci := 9) (index := 138) (q := (RC9, FC9, 33)) (by decide +kernel) (by decide +kernel) rfl (zgV (zin 961 (by decide +kernel) rfl) (zin 963 (by decide +kernel) rfl) (zsel 56 (by decide +kernel) rfl) (zin 9 (by decide +kernel) rfl) (zin 964 (by decide +kernel) rfl)) (by decide +kernel) (by decide +kernel)) ?_
  refine zap (zretI_mono) (zretI_ok (by decide +kernel) rfl) ?_
  exact zn
/-- VectorLanguageModel.failure()I -/
def tb141 (_ : List (ClassId × FieldType)) : List (Nat × (zP → zP)) := [(0, zi (gAl 0) 1), (1, zi (gC (.int (0))) 1), (2, zput (.int) 9 0), (5, zi (gAl 0) 1), (6, zget 9 31), (9, zretI)]
set_option maxRecDepth 100000 in
theorem ok141 (l : Launch) (D : va_G) (dA : Nat → ClassId) (b0 : Nat) : ∀ q ∈ tb141 (ztys dA), zOK l D dA b0 141 q.1 q.2 := by
  refine zap (zi_mono _ _) (zi_ok (zg_aload_n (j := 0) (by decide +kernel) rfl)) ?_
  refine zap (zi_mono _ _) (zi_ok (zg_iconst (n := 0) (by decide +kernel) (by decide +kernel))) ?_
  refine zap (zput_mono _ _ _) (zput_ok (index := 79) (C := RC9) (ref := "VectorLanguageModel") (T := FC9) (NN := 33) tC9 (by decide +kernel) rfl iC9 tC9_ok nC9 (by decide +kernel) (zin 753 (by decide +kernel) rfl) rfl (Or.inl rfl) rfl) ?_
  refine zap (zi_mono _ _) (zi_ok (zg_aload_n (j := 0) (by decide +kernel) rfl)) ?_
  refine zap (zget_mono _ _) (zget_ok (index := 278) (C := RC9) (ref := "VectorLanguageModel") (T := FC9) (NN := 33) (by decide +kernel) rfl iC9 (by decide +kernel) (zin 784 (by decide +kernel) rfl) rfl) ?_
  refine zap (zretI_mono) (zretI_ok (by decide +kernel) rfl) ?_
  exact zn
/-- VectorLanguageModel.variable(I)I -/
def tb142 (tys : List (ClassId × FieldType)) : List (Nat × (zP → zP)) := [(0, zi (gAl 0) 1), (1, zi (gC (.int (0))) 1), (2, zput (.int) 9 0), (5, zi (gIl 1) 1), (6, zi (gC (.int (0))) 1), (7, zi (gC (.int (9))) 2), (9, zcS 3 91 3), (12, zb (c1 (fun x => ¬ x = 0)) 21), (15, zi (gAl 0) 1), (16, zi (gC (.int (1))) 1), (17, zcV 2 93 1 9), (20, zretI), (21, zi (gAl 0) 1), (22, zget 9 15), (25, zi (gIl 1) 1), (26, ziald tys), (27, zb (c1 (fun x => ¬ x = 0)) 35), (30, zi (gC (.int (-2))) 2), (32, zj 46), (35, zi (gAl 0) 1), (36, zget 9 7), (39, zi (gAl 0) 1), (40, zget 9 16), (43, zi (gIl 1) 1), (44, ziald tys), (45, ziald tys), (46, zretI)]
set_option maxRecDepth 100000 in
theorem ok142 (l : Launch) (D : va_G) (dA : Nat → ClassId) (b0 : Nat) : ∀ q ∈ tb142 (ztys dA), zOK l D dA b0 142 q.1 q.2 := by
  refine zap (zi_mono _ _) (zi_ok (zg_aload_n (j := 0) (by decide +kernel) rfl)) ?_
  refine zap (zi_mono _ _) (zi_ok (zg_iconst (n := 0) (by decide +kernel) (by decide +kernel))) ?_
  refine zap (zput_mono _ _ _) (zput_ok (index := 79) (C := RC9) (ref := "VectorLanguageModel") (T := FC9) (NN := 33) tC9 (by decide +kernel) rfl iC9 tC9_ok nC9 (by decide +kernel) (zin 753 (by decide +kernel) rfl) rfl (Or.inl rfl) rfl) ?_
  refine zap (zi_mono _ _) (zi_ok (zg_iload_n (j := 1) (by decide +kernel) rfl)) ?_
  refine zap (zi_mono _ _) (zi_ok (zg_iconst (n := 0) (by decide +kernel) (by decide +kernel))) ?_
  refine zap (zi_mono _ _) (zi_ok (zg_bipush (n := 9) (by decide +kernel) (by decide +kernel))) ?_
  refine zap (zcS_mono _ _ _) (zcS_ok znst_st (μ' := 91) (na := 3) (index := 85) (by decide +kernel) (by decide +kernel) (zgS (zin 869 (by decide +kernel) rfl) (zin 870 (by decide +kernel) rfl) (zin 9 (by decide +kernel) rfl) (zin 871 (by decide +kernel) rfl)) (by decide +kernel) (by decide +kernel)) ?_
  refine zap (zb_mono _ _) (zb_ok (zb_ne (off := 9) (by decide +kernel) (by decide +kernel))) ?_
  refine zap (zi_mono _ _) (zi_ok (zg_aload_n (j := 0) (by decide +kernel) rfl)) ?_
  refine zap (zi_mono _ _) (zi_ok (zg_iconst (n := 1) (by decide +kernel) (by decide +kernel))) ?_
  refine zap (zcV_mono _ _ _ _) (zcV_ok znst_st (μ' := 93) (na := 1) (ci := 9) (index := 99) (q := (RC9, FC9, 33)) (by decide +kernel) (by decide +kernel) rfl (zgV (zin 876 (by decide +kernel) rfl) (zin 878 (by decide +kernel) rfl) (zsel 37 (by decide +kernel) rfl) (zin 9 (by decide +kernel) rfl) (zin 879 (by decide +kernel) rfl)) (by decide +kernel) (by decide +kernel)) ?_
  refine zap (zretI_mono) (zretI_ok (by decide +kernel) rfl) ?_
  refine zap (zi_mono _ _) (zi_ok (zg_aload_n (j := 0) (by decide +kernel) rfl)) ?_
  refine zap (zget_mono _ _) (zget_ok (index := 42) (C := RC9) (ref := "VectorLanguageModel") (T := FC9) (NN := 33) (by decide +kernel) rfl iC9 (by decide +kernel) (zin 768 (by decide +kernel) rfl) rfl) ?_
  refine zap (zi_mono _ _) (zi_ok (zg_iload_n (j := 1) (by decide +kernel) rfl)) ?_
  refine zap (ziald_mono _) (ziald_ok (by decide +kernel)) ?_
  refine zap (zb_mono _ _) (zb_ok (zb_ne (off := 8) (by decide +kernel) (by decide +kernel))) ?_
  refine zap (zi_mono _ _) (zi_ok (zg_bipush (n := -2) (by decide +kernel) (by decide +kernel))) ?_
  refine zap (zj_mono _) (zj_ok (off := 14) (by decide +kernel) (by decide +kernel)) ?_
  refine zap (zi_mono _ _) (zi_ok (zg_aload_n (j := 0) (by decide +kernel) rfl)) ?_
  refine zap (zget_mono _ _) (zget_ok (index := 26) (C := RC9) (ref := "VectorLanguageModel") (T := FC9) (NN := 33) (by decide +kernel) rfl iC9 (by decide +kernel) (zin 760 (by decide +kernel) rfl) rfl) ?_
  refine zap (zi_mono _ _) (zi_ok (zg_aload_n (j := 0) (by decide +kernel) rfl)) ?_
  refine zap (zget_mono _ _) (zget_ok (index := 45) (C := RC9) (ref := "VectorLanguageModel") (T := FC9) (NN := 33) (by decide +kernel) rfl iC9 (by decide +kernel) (zin 769 (by decide +kernel) rfl) rfl) ?_
  refine zap (zi_mono _ _) (zi_ok (zg_iload_n (j := 1) (by decide +kernel) rfl)) ?_
  refine zap (ziald_mono _) (ziald_ok (by decide +kernel)) ?_
  refine zap (ziald_mono _) (ziald_ok (by decide +kernel)) ?_
  refine zap (zretI_mono) (zretI_ok (by decide +kernel) rfl) ?_
  exact zn
/-- VectorLanguageModel.value(II)I -/
def tb143 (tys : List (ClassId × FieldType)) : List (Nat × (zP → zP)) := [(0, zi (gAl 0) 1), (1, zi (gC (.int (0))) 1), (2, zput (.int) 9 0), (5, zi (gIl 1) 1), (6, zi (gC (.int (0))) 1), (7, zi (gC (.int (9))) 2), (9, zcS 3 91 3), (12, zb (c1 (fun x => ¬ x = 0)) 21), (15, zi (gAl 0) 1), (16, zi (gC (.int (1))) 1), (17, zcV 2 93 1 9), (20, zretI), (21, zi (gAl 0) 1), (22, zget 9 15), (25, zi (gIl 1) 1), (26, ziald tys), (27, zb (c1 (fun x => x = 0)) 49), (30, zi (gIl 2) 1), (31, zb (c1 (fun x => x < 0)) 49), (34, zi (gIl 2) 1), (35, zi (gAl 0) 1), (36, zget 9 7), (39, zi (gAl 0) 1), (40, zget 9 16), (43, zi (gIl 1) 1), (44, ziald tys), (45, ziald tys), (46, zb (c2 (fun x y => x < y)) 55), (49, zi (gAl 0) 1), (50, zi (gC (.int (2))) 1), (51, zcV 2 93 1 9), (54, zretI), (55, zi (gAl 0) 1), (56, zi (gAl 0) 1), (57, zget 9 16), (60, zi (gIl 1) 1), (61, ziald tys), (62, zi (gIl 2) 1), (63, zcV 3 114 2 9), (66, zretI)]
set_option maxRecDepth 100000 in
theorem ok143 (l : Launch) (D : va_G) (dA : Nat → ClassId) (b0 : Nat) : ∀ q ∈ tb143 (ztys dA), zOK l D dA b0 143 q.1 q.2 := by
  refine zap (zi_mono _ _) (zi_ok (zg_aload_n (j := 0) (by decide +kernel) rfl)) ?_
  refine zap (zi_mono _ _) (zi_ok (zg_iconst (n := 0) (by decide +kernel) (by decide +kernel))) ?_
  refine zap (zput_mono _ _ _) (zput_ok (index := 79) (C := RC9) (ref := "VectorLanguageModel") (T := FC9) (NN := 33) tC9 (by decide +kernel) rfl iC9 tC9_ok nC9 (by decide +kernel) (zin 753 (by decide +kernel) rfl) rfl (Or.inl rfl) rfl) ?_
  refine zap (zi_mono _ _) (zi_ok (zg_iload_n (j := 1) (by decide +kernel) rfl)) ?_
  refine zap (zi_mono _ _) (zi_ok (zg_iconst (n := 0) (by decide +kernel) (by decide +kernel))) ?_
  refine zap (zi_mono _ _) (zi_ok (zg_bipush (n := 9) (by decide +kernel) (by decide +kernel))) ?_
  refine zap (zcS_mono _ _ _) (zcS_ok znst_st (μ' := 91) (na := 3) (index := 85) (by decide +kernel) (by decide +kernel) (zgS (zin 869 (by decide +kernel) rfl) (zin 870 (by decide +kernel) rfl) (zin 9 (by decide +kernel) rfl) (zin 871 (by decide +kernel) rfl)) (by decide +kernel) (by decide +kernel)) ?_
  refine zap (zb_mono _ _) (zb_ok (zb_ne (off := 9) (by decide +kernel) (by decide +kernel))) ?_
  refine zap (zi_mono _ _) (zi_ok (zg_aload_n (j := 0) (by decide +kernel) rfl)) ?_
  refine zap (zi_mono _ _) (zi_ok (zg_iconst (n := 1) (by decide +kernel) (by decide +kernel))) ?_
  refine zap (zcV_mono _ _ _ _) (zcV_ok znst_st (μ' := 93) (na := 1) (ci := 9) (index := 99) (q := (RC9, FC9, 33)) (by decide +kernel) (by decide +kernel) rfl (zgV (zin 876 (by decide +kernel) rfl) (zin 878 (by decide +kernel) rfl) (zsel 37 (by decide +kernel) rfl) (zin 9 (by decide +kernel) rfl) (zin 879 (by decide +kernel) rfl)) (by decide +kernel) (by decide +kernel)) ?_
  refine zap (zretI_mono) (zretI_ok (by decide +kernel) rfl) ?_
  refine zap (zi_mono _ _) (zi_ok (zg_aload_n (j := 0) (by decide +kernel) rfl)) ?_
  refine zap (zget_mono _ _) (zget_ok (index := 42) (C := RC9) (ref := "VectorLanguageModel") (T := FC9) (NN := 33) (by decide +kernel) rfl iC9 (by decide +kernel) (zin 768 (by decide +kernel) rfl) rfl) ?_
  refine zap (zi_mono _ _) (zi_ok (zg_iload_n (j := 1) (by decide +kernel) rfl)) ?_
  refine zap (ziald_mono _) (ziald_ok (by decide +kernel)) ?_
  refine zap (zb_mono _ _) (zb_ok (zb_eq (off := 22) (by decide +kernel) (by decide +kernel))) ?_
  refine zap (zi_mono _ _) (zi_ok (zg_iload_n (j := 2) (by decide +kernel) rfl)) ?_
  refine zap (zb_mono _ _) (zb_ok (zb_lt (off := 18) (by decide +kernel) (by decide +kernel))) ?_
  refine zap (zi_mono _ _) (zi_ok (zg_iload_n (j := 2) (by decide +kernel) rfl)) ?_
  refine zap (zi_mono _ _) (zi_ok (zg_aload_n (j := 0) (by decide +kernel) rfl)) ?_
  refine zap (zget_mono _ _) (zget_ok (index := 26) (C := RC9) (ref := "VectorLanguageModel") (T := FC9) (NN := 33) (by decide +kernel) rfl iC9 (by decide +kernel) (zin 760 (by decide +kernel) rfl) rfl) ?_
  refine zap (zi_mono _ _) (zi_ok (zg_aload_n (j := 0) (by decide +kernel) rfl)) ?_
  refine zap (zget_mono _ _) (zget_ok (index := 45) (C := RC9) (ref := "VectorLanguageModel") (T := FC9) (NN := 33) (by decide +kernel) rfl iC9 (by decide +kernel) (zin 769 (by decide +kernel) rfl) rfl) ?_
  refine zap (zi_mono _ _) (zi_ok (zg_iload_n (j := 1) (by decide +kernel) rfl)) ?_
  refine zap (ziald_mono _) (ziald_ok (by decide +kernel)) ?_
  refine zap (ziald_mono _) (ziald_ok (by decide +kernel)) ?_
  refine zap (zb_mono _ _) (zb_ok (zb_ilt (off := 9) (by decide +kernel) (by decide +kernel))) ?_
  refine zap (zi_mono _ _) (zi_ok (zg_aload_n (j := 0) (by decide +kernel) rfl)) ?_
  refine zap (zi_mono _ _) (zi_ok (zg_iconst (n := 2) (by decide +kernel) (by decide +kernel))) ?_
  refine zap (zcV_mono _ _ _ _) (zcV_ok znst_st (μ' := 93) (na := 1) (ci := 9) (index := 99) (q := (RC9, FC9, 33)) (by decide +kernel) (by decide +kernel) rfl (zgV (zin 876 (by decide +kernel) rfl) (zin 878 (by decide +kernel) rfl) (zsel 37 (by decide +kernel) rfl) (zin 9 (by decide +kernel) rfl) (zin 879 (by decide +kernel) rfl)) (by decide +kernel) (by decide +kernel)) ?_
  refine zap (zretI_mono) (zretI_ok (by decide +kernel) rfl) ?_
  refine zap (zi_mono _ _) (zi_ok (zg_aload_n (j := 0) (by decide +kernel) rfl)) ?_
  refine zap (zi_mono _ _) (zi_ok (zg_aload_n (j := 0) (by decide +kernel) rfl)) ?_
  refine zap (zget_mono _ _) (zget_ok (index := 45) (C := RC9) (ref := "VectorLanguageModel") (T := FC9) (NN := 33) (by decide +kernel) rfl iC9 (by decide +kernel) (zin 769 (by decide +kernel) rfl) rfl) ?_
  refine zap (zi_mono _ _) (zi_ok (zg_iload_n (j := 1) (by decide +kernel) rfl)) ?_
  refine zap (ziald_mono _) (ziald_ok (by decide +kernel)) ?_
  refine zap (zi_mono _ _) (zi_ok (zg_iload_n (j := 2) (by decide +kernel) rfl)) ?_
  refine zap (zcV_mono _ _ _ _) (zcV_ok znst_st (μ' := 114) (na := 2) (ci := 9) (index := 138) (q := (RC9, FC9, 33)) (by decide +kernel) (by decide +kernel) rfl (zgV (zin 961 (by decide +kernel) rfl) (zin 963 (by decide +kernel) rfl) (zsel 56 (by decide +kernel) rfl) (zin 9 (by decide +kernel) rfl) (zin 964 (by decide +kernel) rfl)) (by decide +kernel) (by decide +kernel)) ?_
  refine zap (zretI_mono) (zretI_ok (by decide +kernel) rfl) ?_
  exact zn
/-- VectorLanguageModel.reset()I -/
def tb144 (tys : List (ClassId × FieldType)) : List (Nat × (zP → zP)) := [(0, zi (gAl 0) 1), (1, zi (gC (.int (0))) 1), (2, zput (.int) 9 0), (5, zi (gAl 0) 1), (6, zget 9 14), (9, zi (gIs 1) 1), (10, zi (gAl 0) 1), (11, zi (gC (.int (0))) 1), (12, zput (.int) 9 14), (15, zi (gC (.int (0))) 1), (16, zi (gIs 2) 1), (17, zi (gIl 2) 1), (18, zi (gC (.int (910))) 3), (21, zb (c2 (fun x y => y ≤ x)) 37), (24, zi (gAl 0) 1), (25, zget 9 15), (28, zi (gIl 2) 1), (29, zi (gC (.int (0))) 1), (30, ziast tys), (31, zi (gIinc 2 (1)) 3), (34, zj 17), (37, zi (gAl 0) 1), (38, zi (gC (.int (-1))) 1), (39, zput (.int) 9 30), (42, zi (gIl 1) 1), (43, zretI)]
set_option maxRecDepth 100000 in
theorem ok144 (l : Launch) (D : va_G) (dA : Nat → ClassId) (b0 : Nat) : ∀ q ∈ tb144 (ztys dA), zOK l D dA b0 144 q.1 q.2 := by
  refine zap (zi_mono _ _) (zi_ok (zg_aload_n (j := 0) (by decide +kernel) rfl)) ?_
  refine zap (zi_mono _ _) (zi_ok (zg_iconst (n := 0) (by decide +kernel) (by decide +kernel))) ?_
  refine zap (zput_mono _ _ _) (zput_ok (index := 79) (C := RC9) (ref := "VectorLanguageModel") (T := FC9) (NN := 33) tC9 (by decide +kernel) rfl iC9 tC9_ok nC9 (by decide +kernel) (zin 753 (by decide +kernel) rfl) rfl (Or.inl rfl) rfl) ?_
  refine zap (zi_mono _ _) (zi_ok (zg_aload_n (j := 0) (by decide +kernel) rfl)) ?_
  refine zap (zget_mono _ _) (zget_ok (index := 191) (C := RC9) (ref := "VectorLanguageModel") (T := FC9) (NN := 33) (by decide +kernel) rfl iC9 (by decide +kernel) (zin 767 (by decide +kernel) rfl) rfl) ?_
  refine zap (zi_mono _ _) (zi_ok (zg_istore_n (j := 1) (by decide +kernel) rfl (by decide +kernel))) ?_
  refine zap (zi_mono _ _) (zi_ok (zg_aload_n (j := 0) (by decide +kernel) rfl)) ?_
  refine zap (zi_mono _ _) (zi_ok (zg_iconst (n := 0) (by decide +kernel) (by decide +kernel))) ?_
  refine zap (zput_mono _ _ _) (zput_ok (index := 191) (C := RC9) (ref := "VectorLanguageModel") (T := FC9) (NN := 33) tC9 (by decide +kernel) rfl iC9 tC9_ok nC9 (by decide +kernel) (zin 767 (by decide +kernel) rfl) rfl (Or.inl rfl) rfl) ?_
  refine zap (zi_mono _ _) (zi_ok (zg_iconst (n := 0) (by decide +kernel) (by decide +kernel))) ?_
  refine zap (zi_mono _ _) (zi_ok (zg_istore_n (j := 2) (by decide +kernel) rfl (by decide +kernel))) ?_
  refine zap (zi_mono _ _) (zi_ok (zg_iload_n (j := 2) (by decide +kernel) rfl)) ?_
  refine zap (zi_mono _ _) (zi_ok (zg_sipush (n := 910) (by decide +kernel) (by decide +kernel))) ?_
  refine zap (zb_mono _ _) (zb_ok (zb_ige (off := 16) (by decide +kernel) (by decide +kernel))) ?_
  refine zap (zi_mono _ _) (zi_ok (zg_aload_n (j := 0) (by decide +kernel) rfl)) ?_
  refine zap (zget_mono _ _) (zget_ok (index := 42) (C := RC9) (ref := "VectorLanguageModel") (T := FC9) (NN := 33) (by decide +kernel) rfl iC9 (by decide +kernel) (zin 768 (by decide +kernel) rfl) rfl) ?_
  refine zap (zi_mono _ _) (zi_ok (zg_iload_n (j := 2) (by decide +kernel) rfl)) ?_
  refine zap (zi_mono _ _) (zi_ok (zg_iconst (n := 0) (by decide +kernel) (by decide +kernel))) ?_
  refine zap (ziast_mono _) (ziast_ok (by decide +kernel)) ?_
  refine zap (zi_mono _ _) (zi_ok (zg_iinc (n := 1) (by decide +kernel) (by decide +kernel) (by decide +kernel))) ?_
  refine zap (zj_mono _) (zj_ok (off := -17) (by decide +kernel) (by decide +kernel)) ?_
  refine zap (zi_mono _ _) (zi_ok (zg_aload_n (j := 0) (by decide +kernel) rfl)) ?_
  refine zap (zi_mono _ _) (zi_ok (zg_iconst (n := -1) (by decide +kernel) (by decide +kernel))) ?_
  refine zap (zput_mono _ _ _) (zput_ok (index := 72) (C := RC9) (ref := "VectorLanguageModel") (T := FC9) (NN := 33) tC9 (by decide +kernel) rfl iC9 tC9_ok nC9 (by decide +kernel) (zin 783 (by decide +kernel) rfl) rfl (Or.inl rfl) rfl) ?_
  refine zap (zi_mono _ _) (zi_ok (zg_iload_n (j := 1) (by decide +kernel) rfl)) ?_
  refine zap (zretI_mono) (zretI_ok (by decide +kernel) rfl) ?_
  exact zn
/-- VectorLanguageModel.count(I)I -/
def tb145 (_ : List (ClassId × FieldType)) : List (Nat × (zP → zP)) := [(0, zi (gAl 0) 1), (1, zi (gC (.int (0))) 1), (2, zput (.int) 9 0), (5, zi (gIl 1) 1), (6, zsw [(0, 36), (1, 41), (2, 46), (3, 51)] 56), (36, zi (gAl 0) 1), (37, zget 9 5), (40, zretI), (41, zi (gAl 0) 1), (42, zget 9 14), (45, zretI), (46, zi (gAl 0) 1), (47, zget 9 27), (50, zretI), (51, zi (gAl 0) 1), (52, zget 9 28), (55, zretI), (56, zi (gAl 0) 1), (57, zi (gC (.int (1))) 1), (58, zcV 2 93 1 9), (61, zretI)]
set_option maxRecDepth 100000 in
theorem ok145 (l : Launch) (D : va_G) (dA : Nat → ClassId) (b0 : Nat) : ∀ q ∈ tb145 (ztys dA), zOK l D dA b0 145 q.1 q.2 := by
  refine zap (zi_mono _ _) (zi_ok (zg_aload_n (j := 0) (by decide +kernel) rfl)) ?_
  refine zap (zi_mono _ _) (zi_ok (zg_iconst (n := 0) (by decide +kernel) (by decide +kernel))) ?_
  refine zap (zput_mono _ _ _) (zput_ok (index := 79) (C := RC9) (ref := "VectorLanguageModel") (T := FC9) (NN := 33) tC9 (by decide +kernel) rfl iC9 tC9_ok nC9 (by decide +kernel) (zin 753 (by decide +kernel) rfl) rfl (Or.inl rfl) rfl) ?_
  refine zap (zi_mono _ _) (zi_ok (zg_iload_n (j := 1) (by decide +kernel) rfl)) ?_
  refine zap (zsw_mono _ _) (zsw_tab (off := 50) (lo := 0) (hi := 3) (offs := #[30, 35, 40, 45]) (len := 30) (by decide +kernel) (by decide +kernel) (by decide +kernel) (by decide +kernel)) ?_
  refine zap (zi_mono _ _) (zi_ok (zg_aload_n (j := 0) (by decide +kernel) rfl)) ?_
  refine zap (zget_mono _ _) (zget_ok (index := 82) (C := RC9) (ref := "VectorLanguageModel") (T := FC9) (NN := 33) (by decide +kernel) rfl iC9 (by decide +kernel) (zin 758 (by decide +kernel) rfl) rfl) ?_
  refine zap (zretI_mono) (zretI_ok (by decide +kernel) rfl) ?_
  refine zap (zi_mono _ _) (zi_ok (zg_aload_n (j := 0) (by decide +kernel) rfl)) ?_
  refine zap (zget_mono _ _) (zget_ok (index := 191) (C := RC9) (ref := "VectorLanguageModel") (T := FC9) (NN := 33) (by decide +kernel) rfl iC9 (by decide +kernel) (zin 767 (by decide +kernel) rfl) rfl) ?_
  refine zap (zretI_mono) (zretI_ok (by decide +kernel) rfl) ?_
  refine zap (zi_mono _ _) (zi_ok (zg_aload_n (j := 0) (by decide +kernel) rfl)) ?_
  refine zap (zget_mono _ _) (zget_ok (index := 168) (C := RC9) (ref := "VectorLanguageModel") (T := FC9) (NN := 33) (by decide +kernel) rfl iC9 (by decide +kernel) (zin 780 (by decide +kernel) rfl) rfl) ?_
  refine zap (zretI_mono) (zretI_ok (by decide +kernel) rfl) ?_
  refine zap (zi_mono _ _) (zi_ok (zg_aload_n (j := 0) (by decide +kernel) rfl)) ?_
  refine zap (zget_mono _ _) (zget_ok (index := 177) (C := RC9) (ref := "VectorLanguageModel") (T := FC9) (NN := 33) (by decide +kernel) rfl iC9 (by decide +kernel) (zin 781 (by decide +kernel) rfl) rfl) ?_
  refine zap (zretI_mono) (zretI_ok (by decide +kernel) rfl) ?_
  refine zap (zi_mono _ _) (zi_ok (zg_aload_n (j := 0) (by decide +kernel) rfl)) ?_
  refine zap (zi_mono _ _) (zi_ok (zg_iconst (n := 1) (by decide +kernel) (by decide +kernel))) ?_
  refine zap (zcV_mono _ _ _ _) (zcV_ok znst_st (μ' := 93) (na := 1) (ci := 9) (index := 99) (q := (RC9, FC9, 33)) (by decide +kernel) (by decide +kernel) rfl (zgV (zin 876 (by decide +kernel) rfl) (zin 878 (by decide +kernel) rfl) (zsel 37 (by decide +kernel) rfl) (zin 9 (by decide +kernel) rfl) (zin 879 (by decide +kernel) rfl)) (by decide +kernel) (by decide +kernel)) ?_
  refine zap (zretI_mono) (zretI_ok (by decide +kernel) rfl) ?_
  exact zn
