/-- VectorLanguageModel.run(I)I -/
def tb94 (tys : List (ClassId × FieldType)) : List (Nat × (zP → zP)) := [(0, zi (gAl 0) 1), (1, zi (gC (.int (0))) 1), (2, zput (.int) 9 0), (5, zi (gAl 0) 1), (6, zi (gIl 1) 1), (7, zcV 2 92 1 9), (10, zb (c1 (fun x => ¬ x = 0)) 19), (13, zi (gAl 0) 1), (14, zi (gC (.int (1))) 1), (15, zcV 2 93 1 9), (18, zretI), (19, zi (gAl 0) 1), (20, zget 9 30), (23, zi (gIs 2) 1), (24, zi (gAl 0) 1), (25, zi (gC (.int (0))) 1), (26, zput (.int) 9 25), (29, zi (gAl 0) 1), (30, zi (gC (.int (0))) 1), (31, zput (.int) 9 26), (34, zi (gAl 0) 1), (35, zi (gC (.int (0))) 1), (36, zput (.int) 9 27), (39, zi (gAl 0) 1), (40, zi (gC (.int (0))) 1), (41, zput (.int) 9 28), (44, zi (gAl 0) 1), (45, zi (gC (.int (0))) 1), (46, zput (.int) 9 29), (49, zi (gAl 0) 1), (50, zi (gIl 1) 1), (51, zi (gC (.int (0))) 1), (52, zcV 3 95 2 9), (55, zi (gAl 0) 1), (56, zget 9 25), (59, zb (c1 (fun x => x ≤ 0)) 80), (62, zi (gAl 0) 1), (63, zcV 5 97 0 9), (66, zi (gAl 0) 1), (67, zget 9 29), (70, zb (c1 (fun x => x = 0)) 55), (73, zi (gAl 0) 1), (74, zcV 4 139 0 9), (77, zj 55), (80, zi (gAl 0) 1), (81, zi (gAl 0) 1), (82, zget 9 29), (85, zput (.int) 9 31), (88, zi (gAl 0) 1), (89, zget 9 29), (92, zb (c1 (fun x => ¬ x = 0)) 105), (95, zi (gAl 0) 1), (96, zget 9 7), (99, zi (gAl 0) 1), (100, zget 9 30), (103, ziald tys), (104, zretI), (105, zi (gAl 0) 1), (106, zi (gIl 2) 1), (107, zput (.int) 9 30), (110, zi (gAl 0) 1), (111, zi (gAl 0) 1), (112, zget 9 29), (115, zi (gC (.int (4))) 1), (116, zb (c2 (fun x y => ¬ x = y)) 123), (119, zi (gC (.int (1))) 1), (120, zj 187), (123, zi (gAl 0) 1), (124, zget 9 29), (127, zi (gC (.int (1))) 1), (128, zb (c2 (fun x y => x = y)) 140), (131, zi (gAl 0) 1), (132, zget 9 29), (135, zi (gC (.int (8))) 2), (137, zb (c2 (fun x y => ¬ x = y)) 144), (140, zi (gC (.int (2))) 1), (141, zj 187), (144, zi (gAl 0) 1), (145, zget 9 29), (148, zi (gC (.int (2))) 1), (149, zb (c2 (fun x y => x = y)) 161), (152, zi (gAl 0) 1), (153, zget 9 29), (156, zi (gC (.int (9))) 2), (158, zb (c2 (fun x y => ¬ x = y)) 165), (161, zi (gC (.int (3))) 1), (162, zj 187), (165, zi (gAl 0) 1), (166, zget 9 29), (169, zi (gC (.int (3))) 1), (170, zb (c2 (fun x y => x = y)) 182), (173, zi (gAl 0) 1), (174, zget 9 29), (177, zi (gC (.int (6))) 2), (179, zb (c2 (fun x y => ¬ x = y)) 186), (182, zi (gC (.int (4))) 1), (183, zj 187), (186, zi (gC (.int (5))) 1), (187, zcV 2 93 1 9), (190, zretI)]
set_option maxRecDepth 100000 in
theorem ok94 (l : Launch) (D : va_G) (dA : Nat → ClassId) (b0 : Nat) : ∀ q ∈ tb94 (ztys dA), zOK l D dA b0 94 q.1 q.2 := by
  refine zap (zi_mono _ _) (zi_ok (zg_aload_n (j := 0) (by decide +kernel) rfl)) ?_
  refine zap (zi_mono _ _) (zi_ok (zg_iconst (n := 0) (by decide +kernel) (by decide +kernel))) ?_
  refine zap (zput_mono _ _ _) (zput_ok (index := 79) (C := RC9) (ref := "VectorLanguageModel") (T := FC9) (NN := 33) tC9 (by decide +kernel) rfl iC9 tC9_ok nC9 (by decide +kernel) (zin 753 (by decide +kernel) rfl) rfl (Or.inl rfl) rfl) ?_
  refine zap (zi_mono _ _) (zi_ok (zg_aload_n (j := 0) (by decide +kernel) rfl)) ?_
  refine zap (zi_mono _ _) (zi_ok (zg_iload_n (j := 1) (by decide +kernel) rfl)) ?_
  refine zap (zcV_mono _ _ _ _) (zcV_ok znst_st (μ' := 92) (na := 1) (ci := 9) (index := 91) (q := (RC9, FC9, 33)) (by decide +kernel) (by decide +kernel) rfl (zgV (zin 872 (by decide +kernel) rfl) (zin 874 (by decide +kernel) rfl) (zsel 36 (by decide +kernel) rfl) (zin 9 (by decide +kernel) rfl) (zin 875 (by decide +kernel) rfl)) (by decide +kernel) (by decide +kernel)) ?_
  refine zap (zb_mono _ _) (zb_ok (zb_ne (off := 9) (by decide +kernel) (by decide +kernel))) ?_
  refine zap (zi_mono _ _) (zi_ok (zg_aload_n (j := 0) (by decide +kernel) rfl)) ?_
  refine zap (zi_mono _ _) (zi_ok (zg_iconst (n := 1) (by decide +kernel) (by decide +kernel))) ?_
  refine zap (zcV_mono _ _ _ _) (zcV_ok znst_st (μ' := 93) (na := 1) (ci := 9) (index := 99) (q := (RC9, FC9, 33)) (by decide +kernel) (by decide +kernel) rfl (zgV (zin 876 (by decide +kernel) rfl) (zin 878 (by decide +kernel) rfl) (zsel 37 (by decide +kernel) rfl) (zin 9 (by decide +kernel) rfl) (zin 879 (by decide +kernel) rfl)) (by decide +kernel) (by decide +kernel)) ?_
  refine zap (zretI_mono) (zretI_ok (by decide +kernel) rfl) ?_
  refine zap (zi_mono _ _) (zi_ok (zg_aload_n (j := 0) (by decide +kernel) rfl)) ?_
  refine zap (zget_mono _ _) (zget_ok (index := 72) (C := RC9) (ref := "VectorLanguageModel") (T := FC9) (NN := 33) (by decide +kernel) rfl iC9 (by decide +kernel) (zin 783 (by decide +kernel) rfl) rfl) ?_
  refine zap (zi_mono _ _) (zi_ok (zg_istore_n (j := 2) (by decide +kernel) rfl (by decide +kernel))) ?_
  refine zap (zi_mono _ _) (zi_ok (zg_aload_n (j := 0) (by decide +kernel) rfl)) ?_
  refine zap (zi_mono _ _) (zi_ok (zg_iconst (n := 0) (by decide +kernel) (by decide +kernel))) ?_
  refine zap (zput_mono _ _ _) (zput_ok (index := 107) (C := RC9) (ref := "VectorLanguageModel") (T := FC9) (NN := 33) tC9 (by decide +kernel) rfl iC9 tC9_ok nC9 (by decide +kernel) (zin 778 (by decide +kernel) rfl) rfl (Or.inl rfl) rfl) ?_
  refine zap (zi_mono _ _) (zi_ok (zg_aload_n (j := 0) (by decide +kernel) rfl)) ?_
  refine zap (zi_mono _ _) (zi_ok (zg_iconst (n := 0) (by decide +kernel) (by decide +kernel))) ?_
  refine zap (zput_mono _ _ _) (zput_ok (index := 171) (C := RC9) (ref := "VectorLanguageModel") (T := FC9) (NN := 33) tC9 (by decide +kernel) rfl iC9 tC9_ok nC9 (by decide +kernel) (zin 779 (by decide +kernel) rfl) rfl (Or.inl rfl) rfl) ?_
  refine zap (zi_mono _ _) (zi_ok (zg_aload_n (j := 0) (by decide +kernel) rfl)) ?_
  refine zap (zi_mono _ _) (zi_ok (zg_iconst (n := 0) (by decide +kernel) (by decide +kernel))) ?_
  refine zap (zput_mono _ _ _) (zput_ok (index := 168) (C := RC9) (ref := "VectorLanguageModel") (T := FC9) (NN := 33) tC9 (by decide +kernel) rfl iC9 tC9_ok nC9 (by decide +kernel) (zin 780 (by decide +kernel) rfl) rfl (Or.inl rfl) rfl) ?_
  refine zap (zi_mono _ _) (zi_ok (zg_aload_n (j := 0) (by decide +kernel) rfl)) ?_
  refine zap (zi_mono _ _) (zi_ok (zg_iconst (n := 0) (by decide +kernel) (by decide +kernel))) ?_
  refine zap (zput_mono _ _ _) (zput_ok (index := 177) (C := RC9) (ref := "VectorLanguageModel") (T := FC9) (NN := 33) tC9 (by decide +kernel) rfl iC9 tC9_ok nC9 (by decide +kernel) (zin 781 (by decide +kernel) rfl) rfl (Or.inl rfl) rfl) ?_
  refine zap (zi_mono _ _) (zi_ok (zg_aload_n (j := 0) (by decide +kernel) rfl)) ?_
  refine zap (zi_mono _ _) (zi_ok (zg_iconst (n := 0) (by decide +kernel) (by decide +kernel))) ?_
  refine zap (zput_mono _ _ _) (zput_ok (index := 152) (C := RC9) (ref := "VectorLanguageModel") (T := FC9) (NN := 33) tC9 (by decide +kernel) rfl iC9 tC9_ok nC9 (by decide +kernel) (zin 782 (by decide +kernel) rfl) rfl (Or.inl rfl) rfl) ?_
  refine zap (zi_mono _ _) (zi_ok (zg_aload_n (j := 0) (by decide +kernel) rfl)) ?_
  refine zap (zi_mono _ _) (zi_ok (zg_iload_n (j := 1) (by decide +kernel) rfl)) ?_
  refine zap (zi_mono _ _) (zi_ok (zg_iconst (n := 0) (by decide +kernel) (by decide +kernel))) ?_
  refine zap (zcV_mono _ _ _ _) (zcV_ok znst_st (μ' := 95) (na := 2) (ci := 9) (index := 180) (q := (RC9, FC9, 33)) (by decide +kernel) (by decide +kernel) rfl (zgV (zin 884 (by decide +kernel) rfl) (zin 886 (by decide +kernel) rfl) (zsel 38 (by decide +kernel) rfl) (zin 9 (by decide +kernel) rfl) (zin 887 (by decide +kernel) rfl)) (by decide +kernel) (by decide +kernel)) ?_
  refine zap (zi_mono _ _) (zi_ok (zg_aload_n (j := 0) (by decide +kernel) rfl)) ?_
  refine zap (zget_mono _ _) (zget_ok (index := 107) (C := RC9) (ref := "VectorLanguageModel") (T := FC9) (NN := 33) (by decide +kernel) rfl iC9 (by decide +kernel) (zin 778 (by decide +kernel) rfl) rfl) ?_
  refine zap (zb_mono _ _) (zb_ok (zb_le (off := 21) (by decide +kernel) (by decide +kernel))) ?_
  refine zap (zi_mono _ _) (zi_ok (zg_aload_n (j := 0) (by decide +kernel) rfl)) ?_
  refine zap (zcV_mono _ _ _ _) (zcV_ok znst_st (μ' := 97) (na := 0) (ci := 9) (index := 272) (q := (RC9, FC9, 33)) (by decide +kernel) (by decide +kernel) rfl (zgV (zin 892 (by decide +kernel) rfl) (zin 894 (by decide +kernel) rfl) (zsel 40 (by decide +kernel) rfl) (zin 9 (by decide +kernel) rfl) (zin 895 (by decide +kernel) rfl)) (by decide +kernel) (by decide +kernel)) ?_
  refine zap (zi_mono _ _) (zi_ok (zg_aload_n (j := 0) (by decide +kernel) rfl)) ?_
  refine zap (zget_mono _ _) (zget_ok (index := 152) (C := RC9) (ref := "VectorLanguageModel") (T := FC9) (NN := 33) (by decide +kernel) rfl iC9 (by decide +kernel) (zin 782 (by decide +kernel) rfl) rfl) ?_
  refine zap (zb_mono _ _) (zb_ok (zb_eq (off := -15) (by decide +kernel) (by decide +kernel))) ?_
  refine zap (zi_mono _ _) (zi_ok (zg_aload_n (j := 0) (by decide +kernel) rfl)) ?_
  refine zap (zcV_mono _ _ _ _) (zcV_ok znst_st (μ' := 139) (na := 0) (ci := 9) (index := 275) (q := (RC9, FC9, 33)) (by decide +kernel) (by decide +kernel) rfl (zgV (zin 1058 (by decide +kernel) rfl) (zin 1060 (by decide +kernel) rfl) (zsel 76 (by decide +kernel) rfl) (zin 9 (by decide +kernel) rfl) (zin 1061 (by decide +kernel) rfl)) (by decide +kernel) (by decide +kernel)) ?_
  refine zap (zj_mono _) (zj_ok (off := -22) (by decide +kernel) (by decide +kernel)) ?_
  refine zap (zi_mono _ _) (zi_ok (zg_aload_n (j := 0) (by decide +kernel) rfl)) ?_
  refine zap (zi_mono _ _) (zi_ok (zg_aload_n (j := 0) (by decide +kernel) rfl)) ?_
  refine zap (zget_mono _ _) (zget_ok (index := 152) (C := RC9) (ref := "VectorLanguageModel") (T := FC9) (NN := 33) (by decide +kernel) rfl iC9 (by decide +kernel) (zin 782 (by decide +kernel) rfl) rfl) ?_
  refine zap (zput_mono _ _ _) (zput_ok (index := 278) (C := RC9) (ref := "VectorLanguageModel") (T := FC9) (NN := 33) tC9 (by decide +kernel) rfl iC9 tC9_ok nC9 (by decide +kernel) (zin 784 (by decide +kernel) rfl) rfl (Or.inl rfl) rfl) ?_
  refine zap (zi_mono _ _) (zi_ok (zg_aload_n (j := 0) (by decide +kernel) rfl)) ?_
  refine zap (zget_mono _ _) (zget_ok (index := 152) (C := RC9) (ref := "VectorLanguageModel") (T := FC9) (NN := 33) (by decide +kernel) rfl iC9 (by decide +kernel) (zin 782 (by decide +kernel) rfl) rfl) ?_
  refine zap (zb_mono _ _) (zb_ok (zb_ne (off := 13) (by decide +kernel) (by decide +kernel))) ?_
  refine zap (zi_mono _ _) (zi_ok (zg_aload_n (j := 0) (by decide +kernel) rfl)) ?_
  refine zap (zget_mono _ _) (zget_ok (index := 26) (C := RC9) (ref := "VectorLanguageModel") (T := FC9) (NN := 33) (by decide +kernel) rfl iC9 (by decide +kernel) (zin 760 (by decide +kernel) rfl) rfl) ?_
  refine zap (zi_mono _ _) (zi_ok (zg_aload_n (j := 0) (by decide +kernel) rfl)) ?_
  refine zap (zget_mono _ _) (zget_ok (index := 72) (C := RC9) (ref := "VectorLanguageModel") (T := FC9) (NN := 33) (by decide +kernel) rfl iC9 (by decide +kernel) (zin 783 (by decide +kernel) rfl) rfl) ?_
  refine zap (ziald_mono _) (ziald_ok (by decide +kernel)) ?_
  refine zap (zretI_mono) (zretI_ok (by decide +kernel) rfl) ?_
  refine zap (zi_mono _ _) (zi_ok (zg_aload_n (j := 0) (by decide +kernel) rfl)) ?_
  refine zap (zi_mono _ _) (zi_ok (zg_iload_n (j := 2) (by decide +kernel) rfl)) ?_
  refine zap (zput_mono _ _ _) (zput_ok (index := 72) (C := RC9) (ref := "VectorLanguageModel") (T := FC9) (NN := 33) tC9 (by decide +kernel) rfl iC9 tC9_ok nC9 (by decide +kernel) (zin 783 (by decide +kernel) rfl) rfl (Or.inl rfl) rfl) ?_
  refine zap (zi_mono _ _) (zi_ok (zg_aload_n (j := 0) (by decide +kernel) rfl)) ?_
  refine zap (zi_mono _ _) (zi_ok (zg_aload_n (j := 0) (by decide +kernel) rfl)) ?_
  refine zap (zget_mono _ _) (zget_ok (index := 152) (C := RC9) (ref := "VectorLanguageModel") (T := FC9) (NN := 33) (by decide +kernel) rfl iC9 (by decide +kernel) (zin 782 (by decide +kernel) rfl) rfl) ?_
  refine zap (zi_mono _ _) (zi_ok (zg_iconst (n := 4) (by decide +kernel) (by decide +kernel))) ?_
  refine zap (zb_mono _ _) (zb_ok (zb_ine (off := 7) (by decide +kernel) (by decide +kernel))) ?_
  refine zap (zi_mono _ _) (zi_ok (zg_iconst (n := 1) (by decide +kernel) (by decide +kernel))) ?_
  refine zap (zj_mono _) (zj_ok (off := 67) (by decide +kernel) (by decide +kernel)) ?_
  refine zap (zi_mono _ _) (zi_ok (zg_aload_n (j := 0) (by decide +kernel) rfl)) ?_
  refine zap (zget_mono _ _) (zget_ok (index := 152) (C := RC9) (ref := "VectorLanguageModel") (T := FC9) (NN := 33) (by decide +kernel) rfl iC9 (by decide +kernel) (zin 782 (by decide +kernel) rfl) rfl) ?_
  refine zap (zi_mono _ _) (zi_ok (zg_iconst (n := 1) (by decide +kernel) (by decide +kernel))) ?_
  refine zap (zb_mono _ _) (zb_ok (zb_ieq (off := 12) (by decide +kernel) (by decide +kernel))) ?_
  refine zap (zi_mono _ _) (zi_ok (zg_aload_n (j := 0) (by decide +kernel) rfl)) ?_
  refine zap (zget_mono _ _) (zget_ok (index := 152) (C := RC9) (ref := "VectorLanguageModel") (T := FC9) (NN := 33) (by decide +kernel) rfl iC9 (by decide +kernel) (zin 782 (by decide +kernel) rfl) rfl) ?_
  refine zap (zi_mono _ _) (zi_ok (zg_bipush (n := 8) (by decide +kernel) (by decide +kernel))) ?_
  refine zap (zb_mono _ _) (zb_ok (zb_ine (off := 7) (by decide +kernel) (by decide +kernel))) ?_
  refine zap (zi_mono _ _) (zi_ok (zg_iconst (n := 2) (by decide +kernel) (by decide +kernel))) ?_
  refine zap (zj_mono _) (zj_ok (off := 46) (by decide +kernel) (by decide +kernel)) ?_
  refine zap (zi_mono _ _) (zi_ok (zg_aload_n (j := 0) (by decide +kernel) rfl)) ?_
  refine zap (zget_mono _ _) (zget_ok (index := 152) (C := RC9) (ref := "VectorLanguageModel") (T := FC9) (NN := 33) (by decide +kernel) rfl iC9 (by decide +kernel) (zin 782 (by decide +kernel) rfl) rfl) ?_
  refine zap (zi_mono _ _) (zi_ok (zg_iconst (n := 2) (by decide +kernel) (by decide +kernel))) ?_
  refine zap (zb_mono _ _) (zb_ok (zb_ieq (off := 12) (by decide +kernel) (by decide +kernel))) ?_
  refine zap (zi_mono _ _) (zi_ok (zg_aload_n (j := 0) (by decide +kernel) rfl)) ?_
  refine zap (zget_mono _ _) (zget_ok (index := 152) (C := RC9) (ref := "VectorLanguageModel") (T := FC9) (NN := 33) (by decide +kernel) rfl iC9 (by decide +kernel) (zin 782 (by decide +kernel) rfl) rfl) ?_
  refine zap (zi_mono _ _) (zi_ok (zg_bipush (n := 9) (by decide +kernel) (by decide +kernel))) ?_
  refine zap (zb_mono _ _) (zb_ok (zb_ine (off := 7) (by decide +kernel) (by decide +kernel))) ?_
  refine zap (zi_mono _ _) (zi_ok (zg_iconst (n := 3) (by decide +kernel) (by decide +kernel))) ?_
  refine zap (zj_mono _) (zj_ok (off := 25) (by decide +kernel) (by decide +kernel)) ?_
  refine zap (zi_mono _ _) (zi_ok (zg_aload_n (j := 0) (by decide +kernel) rfl)) ?_
  refine zap (zget_mono _ _) (zget_ok (index := 152) (C := RC9) (ref := "VectorLanguageModel") (T := FC9) (NN := 33) (by decide +kernel) rfl iC9 (by decide +kernel) (zin 782 (by decide +kernel) rfl) rfl) ?_
  refine zap (zi_mono _ _) (zi_ok (zg_iconst (n := 3) (by decide +kernel) (by decide +kernel))) ?_
  refine zap (zb_mono _ _) (zb_ok (zb_ieq (off := 12) (by decide +kernel) (by decide +kernel))) ?_
  refine zap (zi_mono _ _) (zi_ok (zg_aload_n (j := 0) (by decide +kernel) rfl)) ?_
  refine zap (zget_mono _ _) (zget_ok (index := 152) (C := RC9) (ref := "VectorLanguageModel") (T := FC9) (NN := 33) (by decide +kernel) rfl iC9 (by decide +kernel) (zin 782 (by decide +kernel) rfl) rfl) ?_
  refine zap (zi_mono _ _) (zi_ok (zg_bipush (n := 6) (by decide +kernel) (by decide +kernel))) ?_
  refine zap (zb_mono _ _) (zb_ok (zb_ine (off := 7) (by decide +kernel) (by decide +kernel))) ?_
  refine zap (zi_mono _ _) (zi_ok (zg_iconst (n := 4) (by decide +kernel) (by decide +kernel))) ?_
  refine zap (zj_mono _) (zj_ok (off := 4) (by decide +kernel) (by decide +kernel)) ?_
  refine zap (zi_mono _ _) (zi_ok (zg_iconst (n := 5) (by decide +kernel) (by decide +kernel))) ?_
  refine zap (zcV_mono _ _ _ _) (zcV_ok znst_st (μ' := 93) (na := 1) (ci := 9) (index := 99) (q := (RC9, FC9, 33)) (by decide +kernel) (by decide +kernel) rfl (zgV (zin 876 (by decide +kernel) rfl) (zin 878 (by decide +kernel) rfl) (zsel 37 (by decide +kernel) rfl) (zin 9 (by decide +kernel) rfl) (zin 879 (by decide +kernel) rfl)) (by decide +kernel) (by decide +kernel)) ?_
  refine zap (zretI_mono) (zretI_ok (by decide +kernel) rfl) ?_
  exact zn
/-- VectorLanguageModel.begin(II)V -/
def tb95 (_ : List (ClassId × FieldType)) : List (Nat × (zP → zP)) := [(0, zi (gAl 0) 1), (1, zget 9 27), (4, zi (gC (.int (400))) 3), (7, zb (c2 (fun x y => x = y)) 19), (10, zi (gAl 0) 1), (11, zget 9 26), (14, zi (gC (.int (40))) 2), (16, zb (c2 (fun x y => ¬ x = y)) 26), (19, zi (gAl 0) 1), (20, zi (gC (.int (9))) 2), (22, zput (.int) 9 29), (25, zretV), (26, zi (gAl 0) 1), (27, zi (gDup) 1), (28, zget 9 27), (31, zi (gC (.int (1))) 1), (32, zi (gII (fun x y => x + y)) 1), (33, zput (.int) 9 27), (36, zi (gAl 0) 1), (37, zi (gIl 1) 1), (38, zi (gIl 2) 1), (39, zi (gC (.int (0))) 1), (40, zcV 4 96 3 9), (43, zretV)]
set_option maxRecDepth 100000 in
theorem ok95 (l : Launch) (D : va_G) (dA : Nat → ClassId) (b0 : Nat) : ∀ q ∈ tb95 (ztys dA), zOK l D dA b0 95 q.1 q.2 := by
  refine zap (zi_mono _ _) (zi_ok (zg_aload_n (j := 0) (by decide +kernel) rfl)) ?_
  refine zap (zget_mono _ _) (zget_ok (index := 168) (C := RC9) (ref := "VectorLanguageModel") (T := FC9) (NN := 33) (by decide +kernel) rfl iC9 (by decide +kernel) (zin 780 (by decide +kernel) rfl) rfl) ?_
  refine zap (zi_mono _ _) (zi_ok (zg_sipush (n := 400) (by decide +kernel) (by decide +kernel))) ?_
  refine zap (zb_mono _ _) (zb_ok (zb_ieq (off := 12) (by decide +kernel) (by decide +kernel))) ?_
  refine zap (zi_mono _ _) (zi_ok (zg_aload_n (j := 0) (by decide +kernel) rfl)) ?_
  refine zap (zget_mono _ _) (zget_ok (index := 171) (C := RC9) (ref := "VectorLanguageModel") (T := FC9) (NN := 33) (by decide +kernel) rfl iC9 (by decide +kernel) (zin 779 (by decide +kernel) rfl) rfl) ?_
  refine zap (zi_mono _ _) (zi_ok (zg_bipush (n := 40) (by decide +kernel) (by decide +kernel))) ?_
  refine zap (zb_mono _ _) (zb_ok (zb_ine (off := 10) (by decide +kernel) (by decide +kernel))) ?_
  refine zap (zi_mono _ _) (zi_ok (zg_aload_n (j := 0) (by decide +kernel) rfl)) ?_
  refine zap (zi_mono _ _) (zi_ok (zg_bipush (n := 9) (by decide +kernel) (by decide +kernel))) ?_
  refine zap (zput_mono _ _ _) (zput_ok (index := 152) (C := RC9) (ref := "VectorLanguageModel") (T := FC9) (NN := 33) tC9 (by decide +kernel) rfl iC9 tC9_ok nC9 (by decide +kernel) (zin 782 (by decide +kernel) rfl) rfl (Or.inl rfl) rfl) ?_
  refine zap (zretV_mono) (zretV_ok (by decide +kernel) rfl) ?_
  refine zap (zi_mono _ _) (zi_ok (zg_aload_n (j := 0) (by decide +kernel) rfl)) ?_
  refine zap (zi_mono _ _) (zi_ok (zg_dup (by decide +kernel))) ?_
  refine zap (zget_mono _ _) (zget_ok (index := 168) (C := RC9) (ref := "VectorLanguageModel") (T := FC9) (NN := 33) (by decide +kernel) rfl iC9 (by decide +kernel) (zin 780 (by decide +kernel) rfl) rfl) ?_
  refine zap (zi_mono _ _) (zi_ok (zg_iconst (n := 1) (by decide +kernel) (by decide +kernel))) ?_
  refine zap (zi_mono _ _) (zi_ok (zg_iadd (by decide +kernel))) ?_
  refine zap (zput_mono _ _ _) (zput_ok (index := 168) (C := RC9) (ref := "VectorLanguageModel") (T := FC9) (NN := 33) tC9 (by decide +kernel) rfl iC9 tC9_ok nC9 (by decide +kernel) (zin 780 (by decide +kernel) rfl) rfl (Or.inl rfl) rfl) ?_
  refine zap (zi_mono _ _) (zi_ok (zg_aload_n (j := 0) (by decide +kernel) rfl)) ?_
  refine zap (zi_mono _ _) (zi_ok (zg_iload_n (j := 1) (by decide +kernel) rfl)) ?_
  refine zap (zi_mono _ _) (zi_ok (zg_iload_n (j := 2) (by decide +kernel) rfl)) ?_
  refine zap (zi_mono _ _) (zi_ok (zg_iconst (n := 0) (by decide +kernel) (by decide +kernel))) ?_
  refine zap (zcV_mono _ _ _ _) (zcV_ok znst_st (μ' := 96) (na := 3) (ci := 9) (index := 174) (q := (RC9, FC9, 33)) (by decide +kernel) (by decide +kernel) rfl (zgV (zin 888 (by decide +kernel) rfl) (zin 890 (by decide +kernel) rfl) (zsel 39 (by decide +kernel) rfl) (zin 9 (by decide +kernel) rfl) (zin 891 (by decide +kernel) rfl)) (by decide +kernel) (by decide +kernel)) ?_
  refine zap (zretV_mono) (zretV_ok (by decide +kernel) rfl) ?_
  exact zn
/-- VectorLanguageModel.pile(III)V -/
def tb96 (tys : List (ClassId × FieldType)) : List (Nat × (zP → zP)) := [(0, zi (gAl 0) 1), (1, zget 9 19), (4, zi (gAl 0) 1), (5, zget 9 25), (8, zi (gIl 1) 1), (9, ziast tys), (10, zi (gAl 0) 1), (11, zget 9 20), (14, zi (gAl 0) 1), (15, zget 9 25), (18, zi (gIl 2) 1), (19, ziast tys), (20, zi (gAl 0) 1), (21, zget 9 21), (24, zi (gAl 0) 1), (25, zget 9 25), (28, zi (gIl 3) 1), (29, ziast tys), (30, zi (gAl 0) 1), (31, zget 9 22), (34, zi (gAl 0) 1), (35, zget 9 25), (38, zi (gC (.int (-1))) 1), (39, ziast tys), (40, zi (gAl 0) 1), (41, zget 9 23), (44, zi (gAl 0) 1), (45, zget 9 25), (48, zi (gC (.int (-1))) 1), (49, ziast tys), (50, zi (gAl 0) 1), (51, zget 9 24), (54, zi (gAl 0) 1), (55, zget 9 25), (58, zi (gC (.int (-1))) 1), (59, ziast tys), (60, zi (gAl 0) 1), (61, zi (gDup) 1), (62, zget 9 25), (65, zi (gC (.int (1))) 1), (66, zi (gII (fun x y => x + y)) 1), (67, zput (.int) 9 25), (70, zi (gIl 1) 1), (71, zb (c1 (fun x => x < 0)) 84), (74, zi (gAl 0) 1), (75, zi (gDup) 1), (76, zget 9 26), (79, zi (gC (.int (1))) 1), (80, zi (gII (fun x y => x + y)) 1), (81, zput (.int) 9 26), (84, zretV)]
set_option maxRecDepth 100000 in
theorem ok96 (l : Launch) (D : va_G) (dA : Nat → ClassId) (b0 : Nat) : ∀ q ∈ tb96 (ztys dA), zOK l D dA b0 96 q.1 q.2 := by
  refine zap (zi_mono _ _) (zi_ok (zg_aload_n (j := 0) (by decide +kernel) rfl)) ?_
  refine zap (zget_mono _ _) (zget_ok (index := 54) (C := RC9) (ref := "VectorLanguageModel") (T := FC9) (NN := 33) (by decide +kernel) rfl iC9 (by decide +kernel) (zin 772 (by decide +kernel) rfl) rfl) ?_
  refine zap (zi_mono _ _) (zi_ok (zg_aload_n (j := 0) (by decide +kernel) rfl)) ?_
  refine zap (zget_mono _ _) (zget_ok (index := 107) (C := RC9) (ref := "VectorLanguageModel") (T := FC9) (NN := 33) (by decide +kernel) rfl iC9 (by decide +kernel) (zin 778 (by decide +kernel) rfl) rfl) ?_
  refine zap (zi_mono _ _) (zi_ok (zg_iload_n (j := 1) (by decide +kernel) rfl)) ?_
  refine zap (ziast_mono _) (ziast_ok (by decide +kernel)) ?_
  refine zap (zi_mono _ _) (zi_ok (zg_aload_n (j := 0) (by decide +kernel) rfl)) ?_
  refine zap (zget_mono _ _) (zget_ok (index := 57) (C := RC9) (ref := "VectorLanguageModel") (T := FC9) (NN := 33) (by decide +kernel) rfl iC9 (by decide +kernel) (zin 773 (by decide +kernel) rfl) rfl) ?_
  refine zap (zi_mono _ _) (zi_ok (zg_aload_n (j := 0) (by decide +kernel) rfl)) ?_
  refine zap (zget_mono _ _) (zget_ok (index := 107) (C := RC9) (ref := "VectorLanguageModel") (T := FC9) (NN := 33) (by decide +kernel) rfl iC9 (by decide +kernel) (zin 778 (by decide +kernel) rfl) rfl) ?_
  refine zap (zi_mono _ _) (zi_ok (zg_iload_n (j := 2) (by decide +kernel) rfl)) ?_
  refine zap (ziast_mono _) (ziast_ok (by decide +kernel)) ?_
  refine zap (zi_mono _ _) (zi_ok (zg_aload_n (j := 0) (by decide +kernel) rfl)) ?_
  refine zap (zget_mono _ _) (zget_ok (index := 60) (C := RC9) (ref := "VectorLanguageModel") (T := FC9) (NN := 33) (by decide +kernel) rfl iC9 (by decide +kernel) (zin 774 (by decide +kernel) rfl) rfl) ?_
  refine zap (zi_mono _ _) (zi_ok (zg_aload_n (j := 0) (by decide +kernel) rfl)) ?_
  refine zap (zget_mono _ _) (zget_ok (index := 107) (C := RC9) (ref := "VectorLanguageModel") (T := FC9) (NN := 33) (by decide +kernel) rfl iC9 (by decide +kernel) (zin 778 (by decide +kernel) rfl) rfl) ?_
  refine zap (zi_mono _ _) (zi_ok (zg_iload_n (j := 3) (by decide +kernel) rfl)) ?_
  refine zap (ziast_mono _) (ziast_ok (by decide +kernel)) ?_
  refine zap (zi_mono _ _) (zi_ok (zg_aload_n (j := 0) (by decide +kernel) rfl)) ?_
  refine zap (zget_mono _ _) (zget_ok (index := 63) (C := RC9) (ref := "VectorLanguageModel") (T := FC9) (NN := 33) (by decide +kernel) rfl iC9 (by decide +kernel) (zin 775 (by decide +kernel) rfl) rfl) ?_
  refine zap (zi_mono _ _) (zi_ok (zg_aload_n (j := 0) (by decide +kernel) rfl)) ?_
  refine zap (zget_mono _ _) (zget_ok (index := 107) (C := RC9) (ref := "VectorLanguageModel") (T := FC9) (NN := 33) (by decide +kernel) rfl iC9 (by decide +kernel) (zin 778 (by decide +kernel) rfl) rfl) ?_
  refine zap (zi_mono _ _) (zi_ok (zg_iconst (n := -1) (by decide +kernel) (by decide +kernel))) ?_
  refine zap (ziast_mono _) (ziast_ok (by decide +kernel)) ?_
  refine zap (zi_mono _ _) (zi_ok (zg_aload_n (j := 0) (by decide +kernel) rfl)) ?_
  refine zap (zget_mono _ _) (zget_ok (index := 66) (C := RC9) (ref := "VectorLanguageModel") (T := FC9) (NN := 33) (by decide +kernel) rfl iC9 (by decide +kernel) (zin 776 (by decide +kernel) rfl) rfl) ?_
  refine zap (zi_mono _ _) (zi_ok (zg_aload_n (j := 0) (by decide +kernel) rfl)) ?_
  refine zap (zget_mono _ _) (zget_ok (index := 107) (C := RC9) (ref := "VectorLanguageModel") (T := FC9) (NN := 33) (by decide +kernel) rfl iC9 (by decide +kernel) (zin 778 (by decide +kernel) rfl) rfl) ?_
  refine zap (zi_mono _ _) (zi_ok (zg_iconst (n := -1) (by decide +kernel) (by decide +kernel))) ?_
  refine zap (ziast_mono _) (ziast_ok (by decide +kernel)) ?_
  refine zap (zi_mono _ _) (zi_ok (zg_aload_n (j := 0) (by decide +kernel) rfl)) ?_
  refine zap (zget_mono _ _) (zget_ok (index := 69) (C := RC9) (ref := "VectorLanguageModel") (T := FC9) (NN := 33) (by decide +kernel) rfl iC9 (by decide +kernel) (zin 777 (by decide +kernel) rfl) rfl) ?_
  refine zap (zi_mono _ _) (zi_ok (zg_aload_n (j := 0) (by decide +kernel) rfl)) ?_
  refine zap (zget_mono _ _) (zget_ok (index := 107) (C := RC9) (ref := "VectorLanguageModel") (T := FC9) (NN := 33) (by decide +kernel) rfl iC9 (by decide +kernel) (zin 778 (by decide +kernel) rfl) rfl) ?_
  refine zap (zi_mono _ _) (zi_ok (zg_iconst (n := -1) (by decide +kernel) (by decide +kernel))) ?_
  refine zap (ziast_mono _) (ziast_ok (by decide +kernel)) ?_
  refine zap (zi_mono _ _) (zi_ok (zg_aload_n (j := 0) (by decide +kernel) rfl)) ?_
  refine zap (zi_mono _ _) (zi_ok (zg_dup (by decide +kernel))) ?_
  refine zap (zget_mono _ _) (zget_ok (index := 107) (C := RC9) (ref := "VectorLanguageModel") (T := FC9) (NN := 33) (by decide +kernel) rfl iC9 (by decide +kernel) (zin 778 (by decide +kernel) rfl) rfl) ?_
  refine zap (zi_mono _ _) (zi_ok (zg_iconst (n := 1) (by decide +kernel) (by decide +kernel))) ?_
  refine zap (zi_mono _ _) (zi_ok (zg_iadd (by decide +kernel))) ?_
  refine zap (zput_mono _ _ _) (zput_ok (index := 107) (C := RC9) (ref := "VectorLanguageModel") (T := FC9) (NN := 33) tC9 (by decide +kernel) rfl iC9 tC9_ok nC9 (by decide +kernel) (zin 778 (by decide +kernel) rfl) rfl (Or.inl rfl) rfl) ?_
  refine zap (zi_mono _ _) (zi_ok (zg_iload_n (j := 1) (by decide +kernel) rfl)) ?_
  refine zap (zb_mono _ _) (zb_ok (zb_lt (off := 13) (by decide +kernel) (by decide +kernel))) ?_
  refine zap (zi_mono _ _) (zi_ok (zg_aload_n (j := 0) (by decide +kernel) rfl)) ?_
  refine zap (zi_mono _ _) (zi_ok (zg_dup (by decide +kernel))) ?_
  refine zap (zget_mono _ _) (zget_ok (index := 171) (C := RC9) (ref := "VectorLanguageModel") (T := FC9) (NN := 33) (by decide +kernel) rfl iC9 (by decide +kernel) (zin 779 (by decide +kernel) rfl) rfl) ?_
  refine zap (zi_mono _ _) (zi_ok (zg_iconst (n := 1) (by decide +kernel) (by decide +kernel))) ?_
  refine zap (zi_mono _ _) (zi_ok (zg_iadd (by decide +kernel))) ?_
  refine zap (zput_mono _ _ _) (zput_ok (index := 171) (C := RC9) (ref := "VectorLanguageModel") (T := FC9) (NN := 33) tC9 (by decide +kernel) rfl iC9 tC9_ok nC9 (by decide +kernel) (zin 779 (by decide +kernel) rfl) rfl (Or.inl rfl) rfl) ?_
  refine zap (zretV_mono) (zretV_ok (by decide +kernel) rfl) ?_
  exact zn
/-- VectorLanguageModel.advance()V -/
def tb97 (tys : List (ClassId × FieldType)) : List (Nat × (zP → zP)) := [(0, zi (gAl 0) 1), (1, zget 9 25), (4, zi (gC (.int (1))) 1), (5, zi (gII (fun x y => x - y)) 1), (6, zi (gIs 1) 1), (7, zi (gAl 0) 1), (8, zget 9 19), (11, zi (gIl 1) 1), (12, ziald tys), (13, zi (gIs 2) 1), (14, zi (gAl 0) 1), (15, zget 9 1), (18, zi (gIl 2) 1), (19, ziald tys), (20, zi (gIs 3) 1), (21, zi (gAl 0) 1), (22, zget 9 21), (25, zi (gIl 1) 1), (26, ziald tys), (27, zi (gIl 3) 1), (28, zcS 1 98 1), (31, zb (c2 (fun x y => y ≤ x)) 56), (34, zi (gAl 0) 1), (35, zi (gAl 0) 1), (36, zi (gIl 2) 1), (37, zi (gAl 0) 1), (38, zget 9 21), (41, zi (gIl 1) 1), (42, ziald tys), (43, zcV 4 99 2 9), (46, zi (gAl 0) 1), (47, zget 9 20), (50, zi (gIl 1) 1), (51, ziald tys), (52, zcV 3 95 2 9), (55, zretV), (56, zi (gIl 3) 1), (57, zsw [(0, 172), (1, 189), (2, 202), (3, 210), (4, 242), (5, 242), (6, 470), (7, 470), (8, 470), (9, 470), (10, 470), (11, 470), (12, 470), (13, 251), (14, 470), (15, 470), (16, 325), (17, 325), (18, 334), (19, 347), (20, 361), (21, 392), (22, 406), (23, 425), (24, 438)] 470), (172, zi (gAl 0) 1), (173, zi (gAl 0) 1), (174, zi (gAl 0) 1), (175, zget 9 2), (178, zi (gIl 2) 1), (179, ziald tys), (180, zcV 3 100 1 9), (183, zcV 3 105 1 9), (186, zj 491), (189, zi (gAl 0) 1), (190, zi (gAl 0) 1), (191, zi (gC (.int (-2147483648))) 2), (193, zcV 3 100 1 9), (196, zcV 3 105 1 9), (199, zj 491), (202, zi (gAl 0) 1), (203, zi (gC (.int (0))) 1), (204, zcV 3 105 1 9), (207, zj 491), (210, zi (gAl 0) 1), (211, zget 9 21), (214, zi (gIl 1) 1), (215, ziald tys), (216, zi (gC (.int (1))) 1), (217, zb (c2 (fun x y => ¬ x = y)) 233), (220, zi (gAl 0) 1), (221, zi (gAl 0) 1), (222, zget 9 22), (225, zi (gIl 1) 1), (226, ziald tys), (227, zcV 3 105 1 9), (230, zj 491), (233, zi (gAl 0) 1), (234, zi (gIl 1) 1), (235, zi (gIl 2) 1), (236, zcV 5 106 2 9), (239, zj 491), (242, zi (gAl 0) 1), (243, zi (gIl 1) 1), (244, zi (gIl 2) 1), (245, zcV 5 109 2 9), (248, zj 491), (251, zi (gAl 0) 1), (252, zget 9 21), (255, zi (gIl 1) 1), (256, ziald tys), (257, zi (gC (.int (2))) 1), (258, zb (c2 (fun x y => ¬ x = y)) 297), (261, zi (gAl 0) 1), (262, zget 9 7), (265, zi (gAl 0) 1), (266, zget 9 22), (269, zi (gIl 1) 1), (270, ziald tys), (271, ziald tys), (272, zb (c1 (fun x => x < 0)) 289), (275, zi (gAl 0) 1), (276, zget 9 7), (279, zi (gAl 0) 1), (280, zget 9 23), (283, zi (gIl 1) 1), (284, ziald tys), (285, ziald tys), (286, zb (c1 (fun x => 0 ≤ x)) 297), (289, zi (gAl 0) 1), (290, zi (gC (.int (3))) 1), (291, zput (.int) 9 29), (294, zj 491), (297, zi (gAl 0) 1), (298, zget 9 21), (301, zi (gIl 1) 1), (302, ziald tys), (303, zi (gC (.int (2))) 1), (304, zb (c2 (fun x y => ¬ x = y)) 316), (307, zi (gAl 0) 1), (308, zi (gIl 1) 1), (309, zi (gIl 2) 1), (310, zcV 5 106 2 9), (313, zj 491), (316, zi (gAl 0) 1), (317, zi (gIl 1) 1), (318, zi (gIl 2) 1), (319, zcV 5 111 2 9), (322, zj 491), (325, zi (gAl 0) 1), (326, zi (gIl 1) 1), (327, zi (gIl 2) 1), (328, zcV 6 116 2 9), (331, zj 491), (334, zi (gAl 0) 1), (335, zi (gAl 0) 1), (336, zget 9 23), (339, zi (gIl 1) 1), (340, ziald tys), (341, zcV 3 105 1 9), (344, zj 491), (347, zi (gAl 0) 1), (348, zi (gIl 2) 1), (349, zi (gAl 0) 1), (350, zget 9 20), (353, zi (gIl 1) 1), (354, ziald tys), (355, zcV 4 118 2 9), (358, zj 491), (361, zi (gAl 0) 1), (362, zget 9 21), (365, zi (gIl 1) 1), (366, ziald tys), (367, zi (gC (.int (2))) 1), (368, zb (c2 (fun x y => ¬ x = y)) 384), (371, zi (gAl 0) 1), (372, zi (gAl 0) 1), (373, zget 9 23), (376, zi (gIl 1) 1), (377, ziald tys), (378, zcV 3 105 1 9), (381, zj 491), (384, zi (gAl 0) 1), (385, zi (gIl 1) 1), (386, zcV 7 119 1 9), (389, zj 491), (392, zi (gAl 0) 1), (393, zi (gIl 1) 1), (394, zi (gAl 0) 1), (395, zget 9 2), (398, zi (gIl 2) 1), (399, ziald tys), (400, zcV 5 121 2 9), (403, zj 491), (406, zi (gAl 0) 1), (407, zi (gAl 0) 1), (408, zget 9 20), (411, zi (gIl 1) 1), (412, ziald tys), (413, zi (gAl 0) 1), (414, zget 9 22), (417, zi (gIl 1) 1), (418, ziald tys), (419, zcV 5 122 2 9), (422, zj 491), (425, zi (gAl 0) 1), (426, zi (gAl 0) 1), (427, zget 9 22), (430, zi (gIl 1) 1), (431, ziald tys), (432, zcV 3 124 1 9), (435, zj 491), (438, zi (gAl 0) 1), (439, zi (gAl 0) 1), (440, zget 9 21), (443, zi (gIl 1) 1), (444, ziald tys), (445, zi (gC (.int (2))) 1), (446, zb (c2 (fun x y => ¬ x = y)) 458), (449, zi (gAl 0) 1), (450, zget 9 23), (453, zi (gIl 1) 1), (454, ziald tys), (455, zj 464), (458, zi (gAl 0) 1), (459, zget 9 22), (462, zi (gIl 1) 1), (463, ziald tys), (464, zcV 3 105 1 9), (467, zj 491), (470, zi (gAl 0) 1), (471, zi (gIl 1) 1), (472, zi (gIl 2) 1), (473, zcV 5 125 2 9), (476, zi (gIs 4) 2), (478, zi (gAl 0) 1), (479, zget 9 29), (482, zb (c1 (fun x => ¬ x = 0)) 491), (485, zi (gAl 0) 1), (486, zi (gIl 4) 2), (488, zcV 3 105 1 9), (491, zretV)]
set_option maxRecDepth 100000 in
theorem ok97 (l : Launch) (D : va_G) (dA : Nat → ClassId) (b0 : Nat) : ∀ q ∈ tb97 (ztys dA), zOK l D dA b0 97 q.1 q.2 := by
  refine zap (zi_mono _ _) (zi_ok (zg_aload_n (j := 0) (by decide +kernel) rfl)) ?_
  refine zap (zget_mono _ _) (zget_ok (index := 107) (C := RC9) (ref := "VectorLanguageModel") (T := FC9) (NN := 33) (by decide +kernel) rfl iC9 (by decide +kernel) (zin 778 (by decide +kernel) rfl) rfl) ?_
  refine zap (zi_mono _ _) (zi_ok (zg_iconst (n := 1) (by decide +kernel) (by decide +kernel))) ?_
  refine zap (zi_mono _ _) (zi_ok (zg_isub (by decide +kernel))) ?_
  refine zap (zi_mono _ _) (zi_ok (zg_istore_n (j := 1) (by decide +kernel) rfl (by decide +kernel))) ?_
  refine zap (zi_mono _ _) (zi_ok (zg_aload_n (j := 0) (by decide +kernel) rfl)) ?_
  refine zap (zget_mono _ _) (zget_ok (index := 54) (C := RC9) (ref := "VectorLanguageModel") (T := FC9) (NN := 33) (by decide +kernel) rfl iC9 (by decide +kernel) (zin 772 (by decide +kernel) rfl) rfl) ?_
  refine zap (zi_mono _ _) (zi_ok (zg_iload_n (j := 1) (by decide +kernel) rfl)) ?_
  refine zap (ziald_mono _) (ziald_ok (by decide +kernel)) ?_
  refine zap (zi_mono _ _) (zi_ok (zg_istore_n (j := 2) (by decide +kernel) rfl (by decide +kernel))) ?_
  refine zap (zi_mono _ _) (zi_ok (zg_aload_n (j := 0) (by decide +kernel) rfl)) ?_
  refine zap (zget_mono _ _) (zget_ok (index := 7) (C := RC9) (ref := "VectorLanguageModel") (T := FC9) (NN := 33) (by decide +kernel) rfl iC9 (by decide +kernel) (zin 754 (by decide +kernel) rfl) rfl) ?_
  refine zap (zi_mono _ _) (zi_ok (zg_iload_n (j := 2) (by decide +kernel) rfl)) ?_
  refine zap (ziald_mono _) (ziald_ok (by decide +kernel)) ?_
  refine zap (zi_mono _ _) (zi_ok (zg_istore_n (j := 3) (by decide +kernel) rfl (by decide +kernel))) ?_
  refine zap (zi_mono _ _) (zi_ok (zg_aload_n (j := 0) (by decide +kernel) rfl)) ?_
  refine zap (zget_mono _ _) (zget_ok (index := 60) (C := RC9) (ref := "VectorLanguageModel") (T := FC9) (NN := 33) (by decide +kernel) rfl iC9 (by decide +kernel) (zin 774 (by decide +kernel) rfl) rfl) ?_
  refine zap (zi_mono _ _) (zi_ok (zg_iload_n (j := 1) (by decide +kernel) rfl)) ?_
  refine zap (ziald_mono _) (ziald_ok (by decide +kernel)) ?_
  refine zap (zi_mono _ _) (zi_ok (zg_iload_n (j := 3) (by decide +kernel) rfl)) ?_
  refine zap (zcS_mono _ _ _) (zcS_ok znst_st (μ' := 98) (na := 1) (index := 237) (by decide +kernel) (by decide +kernel) (zgS (zin 896 (by decide +kernel) rfl) (zin 897 (by decide +kernel) rfl) (zin 9 (by decide +kernel) rfl) (zin 898 (by decide +kernel) rfl)) (by decide +kernel) (by decide +kernel)) ?_
  refine zap (zb_mono _ _) (zb_ok (zb_ige (off := 25) (by decide +kernel) (by decide +kernel))) ?_
  refine zap (zi_mono _ _) (zi_ok (zg_aload_n (j := 0) (by decide +kernel) rfl)) ?_
  refine zap (zi_mono _ _) (zi_ok (zg_aload_n (j := 0) (by decide +kernel) rfl)) ?_
  refine zap (zi_mono _ _) (zi_ok (zg_iload_n (j := 2) (by decide +kernel) rfl)) ?_
  refine zap (zi_mono _ _) (zi_ok (zg_aload_n (j := 0) (by decide +kernel) rfl)) ?_
  refine zap (zget_mono _ _) (zget_ok (index := 60) (C := RC9) (ref := "VectorLanguageModel") (T := FC9) (NN := 33) (by decide +kernel) rfl iC9 (by decide +kernel) (zin 774 (by decide +kernel) rfl) rfl) ?_
  refine zap (zi_mono _ _) (zi_ok (zg_iload_n (j := 1) (by decide +kernel) rfl)) ?_
  refine zap (ziald_mono _) (ziald_ok (by decide +kernel)) ?_
  refine zap (zcV_mono _ _ _ _) (zcV_ok znst_st (μ' := 99) (na := 2) (ci := 9) (index := 240) (q := (RC9, FC9, 33)) (by decide +kernel) (by decide +kernel) rfl (zgV (zin 899 (by decide +kernel) rfl) (zin 901 (by decide +kernel) rfl) (zsel 41 (by decide +kernel) rfl) (zin 9 (by decide +kernel) rfl) (zin 902 (by decide +kernel) rfl)) (by decide +kernel) (by decide +kernel)) ?_
  refine zap (zi_mono _ _) (zi_ok (zg_aload_n (j := 0) (by decide +kernel) rfl)) ?_
  refine zap (zget_mono _ _) (zget_ok (index := 57) (C := RC9) (ref := "VectorLanguageModel") (T := FC9) (NN := 33) (by decide +kernel) rfl iC9 (by decide +kernel) (zin 773 (by decide +kernel) rfl) rfl) ?_
  refine zap (zi_mono _ _) (zi_ok (zg_iload_n (j := 1) (by decide +kernel) rfl)) ?_
  refine zap (ziald_mono _) (ziald_ok (by decide +kernel)) ?_
  refine zap (zcV_mono _ _ _ _) (zcV_ok znst_st (μ' := 95) (na := 2) (ci := 9) (index := 180) (q := (RC9, FC9, 33)) (by decide +kernel) (by decide +kernel) rfl (zgV (zin 884 (by decide +kernel) rfl) (zin 886 (by decide +kernel) rfl) (zsel 38 (by decide +kernel) rfl) (zin 9 (by decide +kernel) rfl) (zin 887 (by decide +kernel) rfl)) (by decide +kernel) (by decide +kernel)) ?_
  refine zap (zretV_mono) (zretV_ok (by decide +kernel) rfl) ?_
  refine zap (zi_mono _ _) (zi_ok (zg_iload_n (j := 3) (by decide +kernel) rfl)) ?_
  refine zap (zsw_mono _ _) (zsw_tab (off := 413) (lo := 0) (hi := 24) (offs := #[115, 132, 145, 153, 185, 185, 413, 413, 413, 413, 413, 413, 413, 194, 413, 413, 268, 268, 277, 290, 304, 335, 349, 368, 381]) (len := 115) (by decide +kernel) (by decide +kernel) (by decide +kernel) (by decide +kernel)) ?_
  refine zap (zi_mono _ _) (zi_ok (zg_aload_n (j := 0) (by decide +kernel) rfl)) ?_
  refine zap (zi_mono _ _) (zi_ok (zg_aload_n (j := 0) (by decide +kernel) rfl)) ?_
  refine zap (zi_mono _ _) (zi_ok (zg_aload_n (j := 0) (by decide +kernel) rfl)) ?_
  refine zap (zget_mono _ _) (zget_ok (index := 13) (C := RC9) (ref := "VectorLanguageModel") (T := FC9) (NN := 33) (by decide +kernel) rfl iC9 (by decide +kernel) (zin 755 (by decide +kernel) rfl) rfl) ?_
  refine zap (zi_mono _ _) (zi_ok (zg_iload_n (j := 2) (by decide +kernel) rfl)) ?_
  refine zap (ziald_mono _) (ziald_ok (by decide +kernel)) ?_
  refine zap (zcV_mono _ _ _ _) (zcV_ok znst_st (μ' := 100) (na := 1) (ci := 9) (index := 158) (q := (RC9, FC9, 33)) (by decide +kernel) (by decide +kernel) rfl (zgV (zin 903 (by decide +kernel) rfl) (zin 905 (by decide +kernel) rfl) (zsel 42 (by decide +kernel) rfl) (zin 9 (by decide +kernel) rfl) (zin 906 (by decide +kernel) rfl)) (by decide +kernel) (by decide +kernel)) ?_
  refine zap (zcV_mono _ _ _ _) (zcV_ok znst_st (μ' := 105) (na := 1) (ci := 9) (index := 188) (q := (RC9, FC9, 33)) (by decide +kernel) (by decide +kernel) rfl (zgV (zin 924 (by decide +kernel) rfl) (zin 926 (by decide +kernel) rfl) (zsel 47 (by decide +kernel) rfl) (zin 9 (by decide +kernel) rfl) (zin 927 (by decide +kernel) rfl)) (by decide +kernel) (by decide +kernel)) ?_
  refine zap (zj_mono _) (zj_ok (off := 305) (by decide +kernel) (by decide +kernel)) ?_
  refine zap (zi_mono _ _) (zi_ok (zg_aload_n (j := 0) (by decide +kernel) rfl)) ?_
  refine zap (zi_mono _ _) (zi_ok (zg_aload_n (j := 0) (by decide +kernel) rfl)) ?_
  refine zap (zi_mono _ _) (zi_ok (zg_ldc (index := 129) (by decide +kernel) (zin 928 (by decide +kernel) rfl))) ?_
  refine zap (zcV_mono _ _ _ _) (zcV_ok znst_st (μ' := 100) (na := 1) (ci := 9) (index := 158) (q := (RC9, FC9, 33)) (by decide +kernel) (by decide +kernel) rfl (zgV (zin 903 (by decide +kernel) rfl) (zin 905 (by decide +kernel) rfl) (zsel 42 (by decide +kernel) rfl) (zin 9 (by decide +kernel) rfl) (zin 906 (by decide +kernel) rfl)) (by decide +kernel) (by decide +kernel)) ?_
  refine zap (zcV_mono _ _ _ _) (zcV_ok znst_st (μ' := 105) (na := 1) (ci := 9) (index := 188) (q := (RC9, FC9, 33)) (by decide +kernel) (by decide +kernel) rfl (zgV (zin 924 (by decide +kernel) rfl) (zin 926 (by decide +kernel) rfl) (zsel 47 (by decide +kernel) rfl) (zin 9 (by decide +kernel) rfl) (zin 927 (by decide +kernel) rfl)) (by decide +kernel) (by decide +kernel)) ?_
  refine zap (zj_mono _) (zj_ok (off := 292) (by decide +kernel) (by decide +kernel)) ?_
  refine zap (zi_mono _ _) (zi_ok (zg_aload_n (j := 0) (by decide +kernel) rfl)) ?_
  refine zap (zi_mono _ _) (zi_ok (zg_iconst (n := 0) (by decide +kernel) (by decide +kernel))) ?_
  refine zap (zcV_mono _ _ _ _) (zcV_ok znst_st (μ' := 105) (na := 1) (ci := 9) (index := 188) (q := (RC9, FC9, 33)) (by decide +kernel) (by decide +kernel) rfl (zgV (zin 924 (by decide +kernel) rfl) (zin 926 (by decide +kernel) rfl) (zsel 47 (by decide +kernel) rfl) (zin 9 (by decide +kernel) rfl) (zin 927 (by decide +kernel) rfl)) (by decide +kernel) (by decide +kernel)) ?_
  refine zap (zj_mono _) (zj_ok (off := 284) (by decide +kernel) (by decide +kernel)) ?_
  refine zap (zi_mono _ _) (zi_ok (zg_aload_n (j := 0) (by decide +kernel) rfl)) ?_
  refine zap (zget_mono _ _) (zget_ok (index := 60) (C := RC9) (ref := "VectorLanguageModel") (T := FC9) (NN := 33) (by decide +kernel) rfl iC9 (by decide +kernel) (zin 774 (by decide +kernel) rfl) rfl) ?_
  refine zap (zi_mono _ _) (zi_ok (zg_iload_n (j := 1) (by decide +kernel) rfl)) ?_
  refine zap (ziald_mono _) (ziald_ok (by decide +kernel)) ?_
  refine zap (zi_mono _ _) (zi_ok (zg_iconst (n := 1) (by decide +kernel) (by decide +kernel))) ?_
  refine zap (zb_mono _ _) (zb_ok (zb_ine (off := 16) (by decide +kernel) (by decide +kernel))) ?_
  refine zap (zi_mono _ _) (zi_ok (zg_aload_n (j := 0) (by decide +kernel) rfl)) ?_
  refine zap (zi_mono _ _) (zi_ok (zg_aload_n (j := 0) (by decide +kernel) rfl)) ?_
  refine zap (zget_mono _ _) (zget_ok (index := 63) (C := RC9) (ref := "VectorLanguageModel") (T := FC9) (NN := 33) (by decide +kernel) rfl iC9 (by decide +kernel) (zin 775 (by decide +kernel) rfl) rfl) ?_
  refine zap (zi_mono _ _) (zi_ok (zg_iload_n (j := 1) (by decide +kernel) rfl)) ?_
  refine zap (ziald_mono _) (ziald_ok (by decide +kernel)) ?_
  refine zap (zcV_mono _ _ _ _) (zcV_ok znst_st (μ' := 105) (na := 1) (ci := 9) (index := 188) (q := (RC9, FC9, 33)) (by decide +kernel) (by decide +kernel) rfl (zgV (zin 924 (by decide +kernel) rfl) (zin 926 (by decide +kernel) rfl) (zsel 47 (by decide +kernel) rfl) (zin 9 (by decide +kernel) rfl) (zin 927 (by decide +kernel) rfl)) (by decide +kernel) (by decide +kernel)) ?_
  refine zap (zj_mono _) (zj_ok (off := 261) (by decide +kernel) (by decide +kernel)) ?_
  refine zap (zi_mono _ _) (zi_ok (zg_aload_n (j := 0) (by decide +kernel) rfl)) ?_
  refine zap (zi_mono _ _) (zi_ok (zg_iload_n (j := 1) (by decide +kernel) rfl)) ?_
  refine zap (zi_mono _ _) (zi_ok (zg_iload_n (j := 2) (by decide +kernel) rfl)) ?_
  refine zap (zcV_mono _ _ _ _) (zcV_ok znst_st (μ' := 106) (na := 2) (ci := 9) (index := 243) (q := (RC9, FC9, 33)) (by decide +kernel) (by decide +kernel) rfl (zgV (zin 929 (by decide +kernel) rfl) (zin 931 (by decide +kernel) rfl) (zsel 48 (by decide +kernel) rfl) (zin 9 (by decide +kernel) rfl) (zin 932 (by decide +kernel) rfl)) (by decide +kernel) (by decide +kernel)) ?_
  refine zap (zj_mono _) (zj_ok (off := 252) (by decide +kernel) (by decide +kernel)) ?_
  refine zap (zi_mono _ _) (zi_ok (zg_aload_n (j := 0) (by decide +kernel) rfl)) ?_
  refine zap (zi_mono _ _) (zi_ok (zg_iload_n (j := 1) (by decide +kernel) rfl)) ?_
  refine zap (zi_mono _ _) (zi_ok (zg_iload_n (j := 2) (by decide +kernel) rfl)) ?_
  refine zap (zcV_mono _ _ _ _) (zcV_ok znst_st (μ' := 109) (na := 2) (ci := 9) (index := 246) (q := (RC9, FC9, 33)) (by decide +kernel) (by decide +kernel) rfl (zgV (zin 941 (by decide +kernel) rfl) (zin 943 (by decide +kernel) rfl) (zsel 51 (by decide +kernel) rfl) (zin 9 (by decide +kernel) rfl) (zin 944 (by decide +kernel) rfl)) (by decide +kernel) (by decide +kernel)) ?_
  refine zap (zj_mono _) (zj_ok (off := 243) (by decide +kernel) (by decide +kernel)) ?_
  refine zap (zi_mono _ _) (zi_ok (zg_aload_n (j := 0) (by decide +kernel) rfl)) ?_
  refine zap (zget_mono _ _) (zget_ok (index := 60) (C := RC9) (ref := "VectorLanguageModel") (T := FC9) (NN := 33) (by decide +kernel) rfl iC9 (by decide +kernel) (zin 774 (by decide +kernel) rfl) rfl) ?_
  refine zap (zi_mono _ _) (zi_ok (zg_iload_n (j := 1) (by decide +kernel) rfl)) ?_
  refine zap (ziald_mono _) (ziald_ok (by decide +kernel)) ?_
  refine zap (zi_mono _ _) (zi_ok (zg_iconst (n := 2) (by decide +kernel) (by decide +kernel))) ?_
  refine zap (zb_mono _ _) (zb_ok (zb_ine (off := 39) (by decide +kernel) (by decide +kernel))) ?_
  refine zap (zi_mono _ _) (zi_ok (zg_aload_n (j := 0) (by decide +kernel) rfl)) ?_
  refine zap (zget_mono _ _) (zget_ok (index := 26) (C := RC9) (ref := "VectorLanguageModel") (T := FC9) (NN := 33) (by decide +kernel) rfl iC9 (by decide +kernel) (zin 760 (by decide +kernel) rfl) rfl) ?_
  refine zap (zi_mono _ _) (zi_ok (zg_aload_n (j := 0) (by decide +kernel) rfl)) ?_
  refine zap (zget_mono _ _) (zget_ok (index := 63) (C := RC9) (ref := "VectorLanguageModel") (T := FC9) (NN := 33) (by decide +kernel) rfl iC9 (by decide +kernel) (zin 775 (by decide +kernel) rfl) rfl) ?_
  refine zap (zi_mono _ _) (zi_ok (zg_iload_n (j := 1) (by decide +kernel) rfl)) ?_
  refine zap (ziald_mono _) (ziald_ok (by decide +kernel)) ?_
  refine zap (ziald_mono _) (ziald_ok (by decide +kernel)) ?_
  refine zap (zb_mono _ _) (zb_ok (zb_lt (off := 17) (by decide +kernel) (by decide +kernel))) ?_
  refine zap (zi_mono _ _) (zi_ok (zg_aload_n (j := 0) (by decide +kernel) rfl)) ?_
  refine zap (zget_mono _ _) (zget_ok (index := 26) (C := RC9) (ref := "VectorLanguageModel") (T := FC9) (NN := 33) (by decide +kernel) rfl iC9 (by decide +kernel) (zin 760 (by decide +kernel) rfl) rfl) ?_
  refine zap (zi_mono _ _) (zi_ok (zg_aload_n (j := 0) (by decide +kernel) rfl)) ?_
  refine zap (zget_mono _ _) (zget_ok (index := 66) (C := RC9) (ref := "VectorLanguageModel") (T := FC9) (NN := 33) (by decide +kernel) rfl iC9 (by decide +kernel) (zin 776 (by decide +kernel) rfl) rfl) ?_
  refine zap (zi_mono _ _) (zi_ok (zg_iload_n (j := 1) (by decide +kernel) rfl)) ?_
  refine zap (ziald_mono _) (ziald_ok (by decide +kernel)) ?_
  refine zap (ziald_mono _) (ziald_ok (by decide +kernel)) ?_
  refine zap (zb_mono _ _) (zb_ok (zb_ge (off := 11) (by decide +kernel) (by decide +kernel))) ?_
  refine zap (zi_mono _ _) (zi_ok (zg_aload_n (j := 0) (by decide +kernel) rfl)) ?_
  refine zap (zi_mono _ _) (zi_ok (zg_iconst (n := 3) (by decide +kernel) (by decide +kernel))) ?_
  refine zap (zput_mono _ _ _) (zput_ok (index := 152) (C := RC9) (ref := "VectorLanguageModel") (T := FC9) (NN := 33) tC9 (by decide +kernel) rfl iC9 tC9_ok nC9 (by decide +kernel) (zin 782 (by decide +kernel) rfl) rfl (Or.inl rfl) rfl) ?_
  refine zap (zj_mono _) (zj_ok (off := 197) (by decide +kernel) (by decide +kernel)) ?_
  refine zap (zi_mono _ _) (zi_ok (zg_aload_n (j := 0) (by decide +kernel) rfl)) ?_
  refine zap (zget_mono _ _) (zget_ok (index := 60) (C := RC9) (ref := "VectorLanguageModel") (T := FC9) (NN := 33) (by decide +kernel) rfl iC9 (by decide +kernel) (zin 774 (by decide +kernel) rfl) rfl) ?_
  refine zap (zi_mono _ _) (zi_ok (zg_iload_n (j := 1) (by decide +kernel) rfl)) ?_
  refine zap (ziald_mono _) (ziald_ok (by decide +kernel)) ?_
  refine zap (zi_mono _ _) (zi_ok (zg_iconst (n := 2) (by decide +kernel) (by decide +kernel))) ?_
  refine zap (zb_mono _ _) (zb_ok (zb_ine (off := 12) (by decide +kernel) (by decide +kernel))) ?_
  refine zap (zi_mono _ _) (zi_ok (zg_aload_n (j := 0) (by decide +kernel) rfl)) ?_
  refine zap (zi_mono _ _) (zi_ok (zg_iload_n (j := 1) (by decide +kernel) rfl)) ?_
  refine zap (zi_mono _ _) (zi_ok (zg_iload_n (j := 2) (by decide +kernel) rfl)) ?_
  refine zap (zcV_mono _ _ _ _) (zcV_ok znst_st (μ' := 106) (na := 2) (ci := 9) (index := 243) (q := (RC9, FC9, 33)) (by decide +kernel) (by decide +kernel) rfl (zgV (zin 929 (by decide +kernel) rfl) (zin 931 (by decide +kernel) rfl) (zsel 48 (by decide +kernel) rfl) (zin 9 (by decide +kernel) rfl) (zin 932 (by decide +kernel) rfl)) (by decide +kernel) (by decide +kernel)) ?_
  refine zap (zj_mono _) (zj_ok (off := 178) (by decide +kernel) (by decide +kernel)) ?_
  refine zap (zi_mono _ _) (zi_ok (zg_aload_n (j := 0) (by decide +kernel) rfl)) ?_
  refine zap (zi_mono _ _) (zi_ok (zg_iload_n (j := 1) (by decide +kernel) rfl)) ?_
  refine zap (zi_mono _ _) (zi_ok (zg_iload_n (j := 2) (by decide +kernel) rfl)) ?_
  refine zap (zcV_mono _ _ _ _) (zcV_ok znst_st (μ' := 111) (na := 2) (ci := 9) (index := 249) (q := (RC9, FC9, 33)) (by decide +kernel) (by decide +kernel) rfl (zgV (zin 949 (by decide +kernel) rfl) (zin 951 (by decide +kernel) rfl) (zsel 53 (by decide +kernel) rfl) (zin 9 (by decide +kernel) rfl) (zin 952 (by decide +kernel) rfl)) (by decide +kernel) (by decide +kernel)) ?_
  refine zap (zj_mono _) (zj_ok (off := 169) (by decide +kernel) (by decide +kernel)) ?_
  refine zap (zi_mono _ _) (zi_ok (zg_aload_n (j := 0) (by decide +kernel) rfl)) ?_
  refine zap (zi_mono _ _) (zi_ok (zg_iload_n (j := 1) (by decide +kernel) rfl)) ?_
  refine zap (zi_mono _ _) (zi_ok (zg_iload_n (j := 2) (by decide +kernel) rfl)) ?_
  refine zap (zcV_mono _ _ _ _) (zcV_ok znst_st (μ' := 116) (na := 2) (ci := 9) (index := 252) (q := (RC9, FC9, 33)) (by decide +kernel) (by decide +kernel) rfl (zgV (zin 969 (by decide +kernel) rfl) (zin 971 (by decide +kernel) rfl) (zsel 58 (by decide +kernel) rfl) (zin 9 (by decide +kernel) rfl) (zin 972 (by decide +kernel) rfl)) (by decide +kernel) (by decide +kernel)) ?_
  refine zap (zj_mono _) (zj_ok (off := 160) (by decide +kernel) (by decide +kernel)) ?_
  refine zap (zi_mono _ _) (zi_ok (zg_aload_n (j := 0) (by decide +kernel) rfl)) ?_
  refine zap (zi_mono _ _) (zi_ok (zg_aload_n (j := 0) (by decide +kernel) rfl)) ?_
  refine zap (zget_mono _ _) (zget_ok (index := 66) (C := RC9) (ref := "VectorLanguageModel") (T := FC9) (NN := 33) (by decide +kernel) rfl iC9 (by decide +kernel) (zin 776 (by decide +kernel) rfl) rfl) ?_
  refine zap (zi_mono _ _) (zi_ok (zg_iload_n (j := 1) (by decide +kernel) rfl)) ?_
  refine zap (ziald_mono _) (ziald_ok (by decide +kernel)) ?_
  refine zap (zcV_mono _ _ _ _) (zcV_ok znst_st (μ' := 105) (na := 1) (ci := 9) (index := 188) (q := (RC9, FC9, 33)) (by decide +kernel) (by decide +kernel) rfl (zgV (zin 924 (by decide +kernel) rfl) (zin 926 (by decide +kernel) rfl) (zsel 47 (by decide +kernel) rfl) (zin 9 (by decide +kernel) rfl) (zin 927 (by decide +kernel) rfl)) (by decide +kernel) (by decide +kernel)) ?_
  refine zap (zj_mono _) (zj_ok (off := 147) (by decide +kernel) (by decide +kernel)) ?_
  refine zap (zi_mono _ _) (zi_ok (zg_aload_n (j := 0) (by decide +kernel) rfl)) ?_
  refine zap (zi_mono _ _) (zi_ok (zg_iload_n (j := 2) (by decide +kernel) rfl)) ?_
  refine zap (zi_mono _ _) (zi_ok (zg_aload_n (j := 0) (by decide +kernel) rfl)) ?_
  refine zap (zget_mono _ _) (zget_ok (index := 57) (C := RC9) (ref := "VectorLanguageModel") (T := FC9) (NN := 33) (by decide +kernel) rfl iC9 (by decide +kernel) (zin 773 (by decide +kernel) rfl) rfl) ?_
  refine zap (zi_mono _ _) (zi_ok (zg_iload_n (j := 1) (by decide +kernel) rfl)) ?_
  refine zap (ziald_mono _) (ziald_ok (by decide +kernel)) ?_
  refine zap (zcV_mono _ _ _ _) (zcV_ok znst_st (μ' := 118) (na := 2) (ci := 9) (index := 255) (q := (RC9, FC9, 33)) (by decide +kernel) (by decide +kernel) rfl (zgV (zin 977 (by decide +kernel) rfl) (zin 979 (by decide +kernel) rfl) (zsel 60 (by decide +kernel) rfl) (zin 9 (by decide +kernel) rfl) (zin 980 (by decide +kernel) rfl)) (by decide +kernel) (by decide +kernel)) ?_
  refine zap (zj_mono _) (zj_ok (off := 133) (by decide +kernel) (by decide +kernel)) ?_
  refine zap (zi_mono _ _) (zi_ok (zg_aload_n (j := 0) (by decide +kernel) rfl)) ?_
  refine zap (zget_mono _ _) (zget_ok (index := 60) (C := RC9) (ref := "VectorLanguageModel") (T := FC9) (NN := 33) (by decide +kernel) rfl iC9 (by decide +kernel) (zin 774 (by decide +kernel) rfl) rfl) ?_
  refine zap (zi_mono _ _) (zi_ok (zg_iload_n (j := 1) (by decide +kernel) rfl)) ?_
  refine zap (ziald_mono _) (ziald_ok (by decide +kernel)) ?_
  refine zap (zi_mono _ _) (zi_ok (zg_iconst (n := 2) (by decide +kernel) (by decide +kernel))) ?_
  refine zap (zb_mono _ _) (zb_ok (zb_ine (off := 16) (by decide +kernel) (by decide +kernel))) ?_
  refine zap (zi_mono _ _) (zi_ok (zg_aload_n (j := 0) (by decide +kernel) rfl)) ?_
  refine zap (zi_mono _ _) (zi_ok (zg_aload_n (j := 0) (by decide +kernel) rfl)) ?_
  refine zap (zget_mono _ _) (zget_ok (index := 66) (C := RC9) (ref := "VectorLanguageModel") (T := FC9) (NN := 33) (by decide +kernel) rfl iC9 (by decide +kernel) (zin 776 (by decide +kernel) rfl) rfl) ?_
  refine zap (zi_mono _ _) (zi_ok (zg_iload_n (j := 1) (by decide +kernel) rfl)) ?_
  refine zap (ziald_mono _) (ziald_ok (by decide +kernel)) ?_
  refine zap (zcV_mono _ _ _ _) (zcV_ok znst_st (μ' := 105) (na := 1) (ci := 9) (index := 188) (q := (RC9, FC9, 33)) (by decide +kernel) (by decide +kernel) rfl (zgV (zin 924 (by decide +kernel) rfl) (zin 926 (by decide +kernel) rfl) (zsel 47 (by decide +kernel) rfl) (zin 9 (by decide +kernel) rfl) (zin 927 (by decide +kernel) rfl)) (by decide +kernel) (by decide +kernel)) ?_
  refine zap (zj_mono _) (zj_ok (off := 110) (by decide +kernel) (by decide +kernel)) ?_
  refine zap (zi_mono _ _) (zi_ok (zg_aload_n (j := 0) (by decide +kernel) rfl)) ?_
  refine zap (zi_mono _ _) (zi_ok (zg_iload_n (j := 1) (by decide +kernel) rfl)) ?_
  refine zap (zcV_mono _ _ _ _) (zcV_ok znst_st (μ' := 119) (na := 1) (ci := 9) (index := 257) (q := (RC9, FC9, 33)) (by decide +kernel) (by decide +kernel) rfl (zgV (zin 981 (by decide +kernel) rfl) (zin 983 (by decide +kernel) rfl) (zsel 61 (by decide +kernel) rfl) (zin 9 (by decide +kernel) rfl) (zin 984 (by decide +kernel) rfl)) (by decide +kernel) (by decide +kernel)) ?_
  refine zap (zj_mono _) (zj_ok (off := 102) (by decide +kernel) (by decide +kernel)) ?_
  refine zap (zi_mono _ _) (zi_ok (zg_aload_n (j := 0) (by decide +kernel) rfl)) ?_
  refine zap (zi_mono _ _) (zi_ok (zg_iload_n (j := 1) (by decide +kernel) rfl)) ?_
  refine zap (zi_mono _ _) (zi_ok (zg_aload_n (j := 0) (by decide +kernel) rfl)) ?_
  refine zap (zget_mono _ _) (zget_ok (index := 13) (C := RC9) (ref := "VectorLanguageModel") (T := FC9) (NN := 33) (by decide +kernel) rfl iC9 (by decide +kernel) (zin 755 (by decide +kernel) rfl) rfl) ?_
  refine zap (zi_mono _ _) (zi_ok (zg_iload_n (j := 2) (by decide +kernel) rfl)) ?_
  refine zap (ziald_mono _) (ziald_ok (by decide +kernel)) ?_
  refine zap (zcV_mono _ _ _ _) (zcV_ok znst_st (μ' := 121) (na := 2) (ci := 9) (index := 260) (q := (RC9, FC9, 33)) (by decide +kernel) (by decide +kernel) rfl (zgV (zin 989 (by decide +kernel) rfl) (zin 991 (by decide +kernel) rfl) (zsel 63 (by decide +kernel) rfl) (zin 9 (by decide +kernel) rfl) (zin 992 (by decide +kernel) rfl)) (by decide +kernel) (by decide +kernel)) ?_
  refine zap (zj_mono _) (zj_ok (off := 88) (by decide +kernel) (by decide +kernel)) ?_
  refine zap (zi_mono _ _) (zi_ok (zg_aload_n (j := 0) (by decide +kernel) rfl)) ?_
  refine zap (zi_mono _ _) (zi_ok (zg_aload_n (j := 0) (by decide +kernel) rfl)) ?_
  refine zap (zget_mono _ _) (zget_ok (index := 57) (C := RC9) (ref := "VectorLanguageModel") (T := FC9) (NN := 33) (by decide +kernel) rfl iC9 (by decide +kernel) (zin 773 (by decide +kernel) rfl) rfl) ?_
  refine zap (zi_mono _ _) (zi_ok (zg_iload_n (j := 1) (by decide +kernel) rfl)) ?_
  refine zap (ziald_mono _) (ziald_ok (by decide +kernel)) ?_
  refine zap (zi_mono _ _) (zi_ok (zg_aload_n (j := 0) (by decide +kernel) rfl)) ?_
  refine zap (zget_mono _ _) (zget_ok (index := 63) (C := RC9) (ref := "VectorLanguageModel") (T := FC9) (NN := 33) (by decide +kernel) rfl iC9 (by decide +kernel) (zin 775 (by decide +kernel) rfl) rfl) ?_
  refine zap (zi_mono _ _) (zi_ok (zg_iload_n (j := 1) (by decide +kernel) rfl)) ?_
  refine zap (ziald_mono _) (ziald_ok (by decide +kernel)) ?_
  refine zap (zcV_mono _ _ _ _) (zcV_ok znst_st (μ' := 122) (na := 2) (ci := 9) (index := 263) (q := (RC9, FC9, 33)) (by decide +kernel) (by decide +kernel) rfl (zgV (zin 993 (by decide +kernel) rfl) (zin 995 (by decide +kernel) rfl) (zsel 64 (by decide +kernel) rfl) (zin 9 (by decide +kernel) rfl) (zin 996 (by decide +kernel) rfl)) (by decide +kernel) (by decide +kernel)) ?_
  refine zap (zj_mono _) (zj_ok (off := 69) (by decide +kernel) (by decide +kernel)) ?_
  refine zap (zi_mono _ _) (zi_ok (zg_aload_n (j := 0) (by decide +kernel) rfl)) ?_
  refine zap (zi_mono _ _) (zi_ok (zg_aload_n (j := 0) (by decide +kernel) rfl)) ?_
  refine zap (zget_mono _ _) (zget_ok (index := 63) (C := RC9) (ref := "VectorLanguageModel") (T := FC9) (NN := 33) (by decide +kernel) rfl iC9 (by decide +kernel) (zin 775 (by decide +kernel) rfl) rfl) ?_
  refine zap (zi_mono _ _) (zi_ok (zg_iload_n (j := 1) (by decide +kernel) rfl)) ?_
  refine zap (ziald_mono _) (ziald_ok (by decide +kernel)) ?_
  refine zap (zcV_mono _ _ _ _) (zcV_ok znst_st (μ' := 124) (na := 1) (ci := 9) (index := 266) (q := (RC9, FC9, 33)) (by decide +kernel) (by decide +kernel) rfl (zgV (zin 1001 (by decide +kernel) rfl) (zin 1003 (by decide +kernel) rfl) (zsel 66 (by decide +kernel) rfl) (zin 9 (by decide +kernel) rfl) (zin 1004 (by decide +kernel) rfl)) (by decide +kernel) (by decide +kernel)) ?_
  refine zap (zj_mono _) (zj_ok (off := 56) (by decide +kernel) (by decide +kernel)) ?_
  refine zap (zi_mono _ _) (zi_ok (zg_aload_n (j := 0) (by decide +kernel) rfl)) ?_
  refine zap (zi_mono _ _) (zi_ok (zg_aload_n (j := 0) (by decide +kernel) rfl)) ?_
  refine zap (zget_mono _ _) (zget_ok (index := 60) (C := RC9) (ref := "VectorLanguageModel") (T := FC9) (NN := 33) (by decide +kernel) rfl iC9 (by decide +kernel) (zin 774 (by decide +kernel) rfl) rfl) ?_
  refine zap (zi_mono _ _) (zi_ok (zg_iload_n (j := 1) (by decide +kernel) rfl)) ?_
  refine zap (ziald_mono _) (ziald_ok (by decide +kernel)) ?_
  refine zap (zi_mono _ _) (zi_ok (zg_iconst (n := 2) (by decide +kernel) (by decide +kernel))) ?_
  refine zap (zb_mono _ _) (zb_ok (zb_ine (off := 12) (by decide +kernel) (by decide +kernel))) ?_
  refine zap (zi_mono _ _) (zi_ok (zg_aload_n (j := 0) (by decide +kernel) rfl)) ?_
  refine zap (zget_mono _ _) (zget_ok (index := 66) (C := RC9) (ref := "VectorLanguageModel") (T := FC9) (NN := 33) (by decide +kernel) rfl iC9 (by decide +kernel) (zin 776 (by decide +kernel) rfl) rfl) ?_
  refine zap (zi_mono _ _) (zi_ok (zg_iload_n (j := 1) (by decide +kernel) rfl)) ?_
  refine zap (ziald_mono _) (ziald_ok (by decide +kernel)) ?_
  refine zap (zj_mono _) (zj_ok (off := 9) (by decide +kernel) (by decide +kernel)) ?_
  refine zap (zi_mono _ _) (zi_ok (zg_aload_n (j := 0) (by decide +kernel) rfl)) ?_
  refine zap (zget_mono _ _) (zget_ok (index := 63) (C := RC9) (ref := "VectorLanguageModel") (T := FC9) (NN := 33) (by decide +kernel) rfl iC9 (by decide +kernel) (zin 775 (by decide +kernel) rfl) rfl) ?_
  refine zap (zi_mono _ _) (zi_ok (zg_iload_n (j := 1) (by decide +kernel) rfl)) ?_
  refine zap (ziald_mono _) (ziald_ok (by decide +kernel)) ?_
  refine zap (zcV_mono _ _ _ _) (zcV_ok znst_st (μ' := 105) (na := 1) (ci := 9) (index := 188) (q := (RC9, FC9, 33)) (by decide +kernel) (by decide +kernel) rfl (zgV (zin 924 (by decide +kernel) rfl) (zin 926 (by decide +kernel) rfl) (zsel 47 (by decide +kernel) rfl) (zin 9 (by decide +kernel) rfl) (zin 927 (by decide +kernel) rfl)) (by decide +kernel) (by decide +kernel)) ?_
  refine zap (zj_mono _) (zj_ok (off := 24) (by decide +kernel) (by decide +kernel)) ?_
  refine zap (zi_mono _ _) (zi_ok (zg_aload_n (j := 0) (by decide +kernel) rfl)) ?_
  refine zap (zi_mono _ _) (zi_ok (zg_iload_n (j := 1) (by decide +kernel) rfl)) ?_
  refine zap (zi_mono _ _) (zi_ok (zg_iload_n (j := 2) (by decide +kernel) rfl)) ?_
  refine zap (zcV_mono _ _ _ _) (zcV_ok znst_st (μ' := 125) (na := 2) (ci := 9) (index := 269) (q := (RC9, FC9, 33)) (by decide +kernel) (by decide +kernel) rfl (zgV (zin 1005 (by decide +kernel) rfl) (zin 1007 (by decide +kernel) rfl) (zsel 67 (by decide +kernel) rfl) (zin 9 (by decide +kernel) rfl) (zin 1008 (by decide +kernel) rfl)) (by decide +kernel) (by decide +kernel)) ?_
  refine zap (zi_mono _ _) (zi_ok (zg_istore (by decide +kernel) (by decide +kernel))) ?_
  refine zap (zi_mono _ _) (zi_ok (zg_aload_n (j := 0) (by decide +kernel) rfl)) ?_
  refine zap (zget_mono _ _) (zget_ok (index := 152) (C := RC9) (ref := "VectorLanguageModel") (T := FC9) (NN := 33) (by decide +kernel) rfl iC9 (by decide +kernel) (zin 782 (by decide +kernel) rfl) rfl) ?_
  refine zap (zb_mono _ _) (zb_ok (zb_ne (off := 9) (by decide +kernel) (by decide +kernel))) ?_
  refine zap (zi_mono _ _) (zi_ok (zg_aload_n (j := 0) (by decide +kernel) rfl)) ?_
  refine zap (zi_mono _ _) (zi_ok (zg_iload (by decide +kernel))) ?_
  refine zap (zcV_mono _ _ _ _) (zcV_ok znst_st (μ' := 105) (na := 1) (ci := 9) (index := 188) (q := (RC9, FC9, 33)) (by decide +kernel) (by decide +kernel) rfl (zgV (zin 924 (by decide +kernel) rfl) (zin 926 (by decide +kernel) rfl) (zsel 47 (by decide +kernel) rfl) (zin 9 (by decide +kernel) rfl) (zin 927 (by decide +kernel) rfl)) (by decide +kernel) (by decide +kernel)) ?_
  refine zap (zretV_mono) (zretV_ok (by decide +kernel) rfl) ?_
  exact zn
/-- VectorLanguageModel.parts(I)I -/
def tb98 (_ : List (ClassId × FieldType)) : List (Nat × (zP → zP)) := [(0, zi (gIl 0) 1), (1, zsw [(4, 104), (5, 104), (6, 106), (7, 106), (8, 106), (9, 104), (10, 106), (11, 106), (12, 106), (13, 106), (14, 104), (15, 104), (16, 108), (17, 108), (18, 106), (19, 108), (20, 104), (21, 108), (22, 104), (23, 104), (24, 104), (25, 106)] 108), (104, zi (gC (.int (1))) 1), (105, zretI), (106, zi (gC (.int (2))) 1), (107, zretI), (108, zi (gC (.int (0))) 1), (109, zretI)]
set_option maxRecDepth 100000 in
theorem ok98 (l : Launch) (D : va_G) (dA : Nat → ClassId) (b0 : Nat) : ∀ q ∈ tb98 (ztys dA), zOK l D dA b0 98 q.1 q.2 := by
  refine zap (zi_mono _ _) (zi_ok (zg_iload_n (j := 0) (by decide +kernel) rfl)) ?_
  refine zap (zsw_mono _ _) (zsw_tab (off := 107) (lo := 4) (hi := 25) (offs := #[103, 103, 105, 105, 105, 103, 105, 105, 105, 105, 103, 103, 107, 107, 105, 107, 103, 107, 103, 103, 103, 105]) (len := 103) (by decide +kernel) (by decide +kernel) (by decide +kernel) (by decide +kernel)) ?_
  refine zap (zi_mono _ _) (zi_ok (zg_iconst (n := 1) (by decide +kernel) (by decide +kernel))) ?_
  refine zap (zretI_mono) (zretI_ok (by decide +kernel) rfl) ?_
  refine zap (zi_mono _ _) (zi_ok (zg_iconst (n := 2) (by decide +kernel) (by decide +kernel))) ?_
  refine zap (zretI_mono) (zretI_ok (by decide +kernel) rfl) ?_
  refine zap (zi_mono _ _) (zi_ok (zg_iconst (n := 0) (by decide +kernel) (by decide +kernel))) ?_
  refine zap (zretI_mono) (zretI_ok (by decide +kernel) rfl) ?_
  exact zn
