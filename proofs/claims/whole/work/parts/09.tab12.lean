/-- VectorLanguageModel.worked(II)I -/
def tb125 (tys : List (ClassId × FieldType)) : List (Nat × (zP → zP)) := [(0, zi (gAl 0) 1), (1, zget 9 22), (4, zi (gIl 1) 1), (5, ziald tys), (6, zi (gIs 3) 1), (7, zi (gAl 0) 1), (8, zget 9 23), (11, zi (gIl 1) 1), (12, ziald tys), (13, zi (gIs 4) 2), (15, zi (gAl 0) 1), (16, zget 9 1), (19, zi (gIl 2) 1), (20, ziald tys), (21, zi (gC (.int (25))) 2), (23, zb (c2 (fun x y => ¬ x = y)) 46), (26, zi (gAl 0) 1), (27, zi (gAl 0) 1), (28, zi (gIl 3) 1), (29, zi (gIl 4) 2), (31, zcV 4 126 2 9), (34, zb (c1 (fun x => x = 0)) 41), (37, zi (gC (.int (1))) 1), (38, zj 42), (41, zi (gC (.int (0))) 1), (42, zcV 3 100 1 9), (45, zretI), (46, zi (gAl 0) 1), (47, zget 9 7), (50, zi (gIl 3) 1), (51, ziald tys), (52, zb (c1 (fun x => x < 0)) 70), (55, zi (gIl 4) 2), (57, zb (c1 (fun x => x < 0)) 76), (60, zi (gAl 0) 1), (61, zget 9 7), (64, zi (gIl 4) 2), (66, ziald tys), (67, zb (c1 (fun x => 0 ≤ x)) 76), (70, zi (gAl 0) 1), (71, zi (gC (.int (3))) 1), (72, zcV 2 127 1 9), (75, zretI), (76, zi (gAl 0) 1), (77, zget 9 1), (80, zi (gIl 2) 1), (81, ziald tys), (82, zsw [(6, 132), (7, 132), (8, 132), (9, 152), (10, 158), (11, 166), (12, 174), (13, 193), (14, 182)] 193), (132, zi (gAl 0) 1), (133, zi (gAl 0) 1), (134, zget 9 1), (137, zi (gIl 2) 1), (138, ziald tys), (139, zi (gAl 0) 1), (140, zget 9 4), (143, zi (gIl 2) 1), (144, ziald tys), (145, zi (gIl 3) 1), (146, zi (gIl 4) 2), (148, zcV 10 128 4 9), (151, zretI), (152, zi (gAl 0) 1), (153, zi (gIl 3) 1), (154, zcV 4 134 1 9), (157, zretI), (158, zi (gAl 0) 1), (159, zi (gIl 3) 1), (160, zi (gIl 4) 2), (162, zcV 6 135 2 9), (165, zretI), (166, zi (gAl 0) 1), (167, zi (gIl 3) 1), (168, zi (gIl 4) 2), (170, zcV 8 136 2 9), (173, zretI), (174, zi (gAl 0) 1), (175, zi (gIl 3) 1), (176, zi (gIl 4) 2), (178, zcV 6 137 2 9), (181, zretI), (182, zi (gAl 0) 1), (183, zi (gAl 0) 1), (184, zget 9 7), (187, zi (gIl 3) 1), (188, ziald tys), (189, zcV 3 100 1 9), (192, zretI), (193, zi (gAl 0) 1), (194, zi (gIl 3) 1), (195, zcV 5 138 1 9), (198, zretI)]
set_option maxRecDepth 100000 in
theorem ok125 (l : Launch) (D : va_G) (dA : Nat → ClassId) (b0 : Nat) : ∀ q ∈ tb125 (ztys dA), zOK l D dA b0 125 q.1 q.2 := by
  refine zap (zi_mono _ _) (zi_ok (zg_aload_n (j := 0) (by decide +kernel) rfl)) ?_
  refine zap (zget_mono _ _) (zget_ok (index := 63) (C := RC9) (ref := "VectorLanguageModel") (T := FC9) (NN := 33) (by decide +kernel) rfl iC9 (by decide +kernel) (zin 775 (by decide +kernel) rfl) rfl) ?_
  refine zap (zi_mono _ _) (zi_ok (zg_iload_n (j := 1) (by decide +kernel) rfl)) ?_
  refine zap (ziald_mono _) (ziald_ok (by decide +kernel)) ?_
  refine zap (zi_mono _ _) (zi_ok (zg_istore_n (j := 3) (by decide +kernel) rfl (by decide +kernel))) ?_
  refine zap (zi_mono _ _) (zi_ok (zg_aload_n (j := 0) (by decide +kernel) rfl)) ?_
  refine zap (zget_mono _ _) (zget_ok (index := 66) (C := RC9) (ref := "VectorLanguageModel") (T := FC9) (NN := 33) (by decide +kernel) rfl iC9 (by decide +kernel) (zin 776 (by decide +kernel) rfl) rfl) ?_
  refine zap (zi_mono _ _) (zi_ok (zg_iload_n (j := 1) (by decide +kernel) rfl)) ?_
  refine zap (ziald_mono _) (ziald_ok (by decide +kernel)) ?_
  refine zap (zi_mono _ _) (zi_ok (zg_istore (by decide +kernel) (by decide +kernel))) ?_
  refine zap (zi_mono _ _) (zi_ok (zg_aload_n (j := 0) (by decide +kernel) rfl)) ?_
  refine zap (zget_mono _ _) (zget_ok (index := 7) (C := RC9) (ref := "VectorLanguageModel") (T := FC9) (NN := 33) (by decide +kernel) rfl iC9 (by decide +kernel) (zin 754 (by decide +kernel) rfl) rfl) ?_
  refine zap (zi_mono _ _) (zi_ok (zg_iload_n (j := 2) (by decide +kernel) rfl)) ?_
  refine zap (ziald_mono _) (ziald_ok (by decide +kernel)) ?_
  refine zap (zi_mono _ _) (zi_ok (zg_bipush (n := 25) (by decide +kernel) (by decide +kernel))) ?_
  refine zap (zb_mono _ _) (zb_ok (zb_ine (off := 23) (by decide +kernel) (by decide +kernel))) ?_
  refine zap (zi_mono _ _) (zi_ok (zg_aload_n (j := 0) (by decide +kernel) rfl)) ?_
  refine zap (zi_mono _ _) (zi_ok (zg_aload_n (j := 0) (by decide +kernel) rfl)) ?_
  refine zap (zi_mono _ _) (zi_ok (zg_iload_n (j := 3) (by decide +kernel) rfl)) ?_
  refine zap (zi_mono _ _) (zi_ok (zg_iload (by decide +kernel))) ?_
  refine zap (zcV_mono _ _ _ _) (zcV_ok znst_st (μ' := 126) (na := 2) (ci := 9) (index := 209) (q := (RC9, FC9, 33)) (by decide +kernel) (by decide +kernel) rfl (zgV (zin 1009 (by decide +kernel) rfl) (zin 1011 (by decide +kernel) rfl) (zsel 68 (by decide +kernel) rfl) (zin 9 (by decide +kernel) rfl) (zin 1012 (by decide +kernel) rfl)) (by decide +kernel) (by decide +kernel)) ?_
  refine zap (zb_mono _ _) (zb_ok (zb_eq (off := 7) (by decide +kernel) (by decide +kernel))) ?_
  refine zap (zi_mono _ _) (zi_ok (zg_iconst (n := 1) (by decide +kernel) (by decide +kernel))) ?_
  refine zap (zj_mono _) (zj_ok (off := 4) (by decide +kernel) (by decide +kernel)) ?_
  refine zap (zi_mono _ _) (zi_ok (zg_iconst (n := 0) (by decide +kernel) (by decide +kernel))) ?_
  refine zap (zcV_mono _ _ _ _) (zcV_ok znst_st (μ' := 100) (na := 1) (ci := 9) (index := 158) (q := (RC9, FC9, 33)) (by decide +kernel) (by decide +kernel) rfl (zgV (zin 903 (by decide +kernel) rfl) (zin 905 (by decide +kernel) rfl) (zsel 42 (by decide +kernel) rfl) (zin 9 (by decide +kernel) rfl) (zin 906 (by decide +kernel) rfl)) (by decide +kernel) (by decide +kernel)) ?_
  refine zap (zretI_mono) (zretI_ok (by decide +kernel) rfl) ?_
  refine zap (zi_mono _ _) (zi_ok (zg_aload_n (j := 0) (by decide +kernel) rfl)) ?_
  refine zap (zget_mono _ _) (zget_ok (index := 26) (C := RC9) (ref := "VectorLanguageModel") (T := FC9) (NN := 33) (by decide +kernel) rfl iC9 (by decide +kernel) (zin 760 (by decide +kernel) rfl) rfl) ?_
  refine zap (zi_mono _ _) (zi_ok (zg_iload_n (j := 3) (by decide +kernel) rfl)) ?_
  refine zap (ziald_mono _) (ziald_ok (by decide +kernel)) ?_
  refine zap (zb_mono _ _) (zb_ok (zb_lt (off := 18) (by decide +kernel) (by decide +kernel))) ?_
  refine zap (zi_mono _ _) (zi_ok (zg_iload (by decide +kernel))) ?_
  refine zap (zb_mono _ _) (zb_ok (zb_lt (off := 19) (by decide +kernel) (by decide +kernel))) ?_
  refine zap (zi_mono _ _) (zi_ok (zg_aload_n (j := 0) (by decide +kernel) rfl)) ?_
  refine zap (zget_mono _ _) (zget_ok (index := 26) (C := RC9) (ref := "VectorLanguageModel") (T := FC9) (NN := 33) (by decide +kernel) rfl iC9 (by decide +kernel) (zin 760 (by decide +kernel) rfl) rfl) ?_
  refine zap (zi_mono _ _) (zi_ok (zg_iload (by decide +kernel))) ?_
  refine zap (ziald_mono _) (ziald_ok (by decide +kernel)) ?_
  refine zap (zb_mono _ _) (zb_ok (zb_ge (off := 9) (by decide +kernel) (by decide +kernel))) ?_
  refine zap (zi_mono _ _) (zi_ok (zg_aload_n (j := 0) (by decide +kernel) rfl)) ?_
  refine zap (zi_mono _ _) (zi_ok (zg_iconst (n := 3) (by decide +kernel) (by decide +kernel))) ?_
  refine zap (zcV_mono _ _ _ _) (zcV_ok znst_st (μ' := 127) (na := 1) (ci := 9) (index := 155) (q := (RC9, FC9, 33)) (by decide +kernel) (by decide +kernel) rfl (zgV (zin 1013 (by decide +kernel) rfl) (zin 1015 (by decide +kernel) rfl) (zsel 69 (by decide +kernel) rfl) (zin 9 (by decide +kernel) rfl) (zin 1016 (by decide +kernel) rfl)) (by decide +kernel) (by decide +kernel)) ?_
  refine zap (zretI_mono) (zretI_ok (by decide +kernel) rfl) ?_
  refine zap (zi_mono _ _) (zi_ok (zg_aload_n (j := 0) (by decide +kernel) rfl)) ?_
  refine zap (zget_mono _ _) (zget_ok (index := 7) (C := RC9) (ref := "VectorLanguageModel") (T := FC9) (NN := 33) (by decide +kernel) rfl iC9 (by decide +kernel) (zin 754 (by decide +kernel) rfl) rfl) ?_
  refine zap (zi_mono _ _) (zi_ok (zg_iload_n (j := 2) (by decide +kernel) rfl)) ?_
  refine zap (ziald_mono _) (ziald_ok (by decide +kernel)) ?_
  refine zap (zsw_mono _ _) (zsw_tab (off := 111) (lo := 6) (hi := 14) (offs := #[50, 50, 50, 70, 76, 84, 92, 111, 100]) (len := 50) (by decide +kernel) (by decide +kernel) (by decide +kernel) (by decide +kernel)) ?_
  refine zap (zi_mono _ _) (zi_ok (zg_aload_n (j := 0) (by decide +kernel) rfl)) ?_
  refine zap (zi_mono _ _) (zi_ok (zg_aload_n (j := 0) (by decide +kernel) rfl)) ?_
  refine zap (zget_mono _ _) (zget_ok (index := 7) (C := RC9) (ref := "VectorLanguageModel") (T := FC9) (NN := 33) (by decide +kernel) rfl iC9 (by decide +kernel) (zin 754 (by decide +kernel) rfl) rfl) ?_
  refine zap (zi_mono _ _) (zi_ok (zg_iload_n (j := 2) (by decide +kernel) rfl)) ?_
  refine zap (ziald_mono _) (ziald_ok (by decide +kernel)) ?_
  refine zap (zi_mono _ _) (zi_ok (zg_aload_n (j := 0) (by decide +kernel) rfl)) ?_
  refine zap (zget_mono _ _) (zget_ok (index := 19) (C := RC9) (ref := "VectorLanguageModel") (T := FC9) (NN := 33) (by decide +kernel) rfl iC9 (by decide +kernel) (zin 757 (by decide +kernel) rfl) rfl) ?_
  refine zap (zi_mono _ _) (zi_ok (zg_iload_n (j := 2) (by decide +kernel) rfl)) ?_
  refine zap (ziald_mono _) (ziald_ok (by decide +kernel)) ?_
  refine zap (zi_mono _ _) (zi_ok (zg_iload_n (j := 3) (by decide +kernel) rfl)) ?_
  refine zap (zi_mono _ _) (zi_ok (zg_iload (by decide +kernel))) ?_
  refine zap (zcV_mono _ _ _ _) (zcV_ok znst_st (μ' := 128) (na := 4) (ci := 9) (index := 212) (q := (RC9, FC9, 33)) (by decide +kernel) (by decide +kernel) rfl (zgV (zin 1017 (by decide +kernel) rfl) (zin 1019 (by decide +kernel) rfl) (zsel 70 (by decide +kernel) rfl) (zin 9 (by decide +kernel) rfl) (zin 1020 (by decide +kernel) rfl)) (by decide +kernel) (by decide +kernel)) ?_
  refine zap (zretI_mono) (zretI_ok (by decide +kernel) rfl) ?_
  refine zap (zi_mono _ _) (zi_ok (zg_aload_n (j := 0) (by decide +kernel) rfl)) ?_
  refine zap (zi_mono _ _) (zi_ok (zg_iload_n (j := 3) (by decide +kernel) rfl)) ?_
  refine zap (zcV_mono _ _ _ _) (zcV_ok znst_st (μ' := 134) (na := 1) (ci := 9) (index := 216) (q := (RC9, FC9, 33)) (by decide +kernel) (by decide +kernel) rfl (zgV (zin 1038 (by decide +kernel) rfl) (zin 1040 (by decide +kernel) rfl) (zsel 71 (by decide +kernel) rfl) (zin 9 (by decide +kernel) rfl) (zin 1041 (by decide +kernel) rfl)) (by decide +kernel) (by decide +kernel)) ?_
  refine zap (zretI_mono) (zretI_ok (by decide +kernel) rfl) ?_
  refine zap (zi_mono _ _) (zi_ok (zg_aload_n (j := 0) (by decide +kernel) rfl)) ?_
  refine zap (zi_mono _ _) (zi_ok (zg_iload_n (j := 3) (by decide +kernel) rfl)) ?_
  refine zap (zi_mono _ _) (zi_ok (zg_iload (by decide +kernel))) ?_
  refine zap (zcV_mono _ _ _ _) (zcV_ok znst_st (μ' := 135) (na := 2) (ci := 9) (index := 219) (q := (RC9, FC9, 33)) (by decide +kernel) (by decide +kernel) rfl (zgV (zin 1042 (by decide +kernel) rfl) (zin 1044 (by decide +kernel) rfl) (zsel 72 (by decide +kernel) rfl) (zin 9 (by decide +kernel) rfl) (zin 1045 (by decide +kernel) rfl)) (by decide +kernel) (by decide +kernel)) ?_
  refine zap (zretI_mono) (zretI_ok (by decide +kernel) rfl) ?_
  refine zap (zi_mono _ _) (zi_ok (zg_aload_n (j := 0) (by decide +kernel) rfl)) ?_
  refine zap (zi_mono _ _) (zi_ok (zg_iload_n (j := 3) (by decide +kernel) rfl)) ?_
  refine zap (zi_mono _ _) (zi_ok (zg_iload (by decide +kernel))) ?_
  refine zap (zcV_mono _ _ _ _) (zcV_ok znst_st (μ' := 136) (na := 2) (ci := 9) (index := 222) (q := (RC9, FC9, 33)) (by decide +kernel) (by decide +kernel) rfl (zgV (zin 1046 (by decide +kernel) rfl) (zin 1048 (by decide +kernel) rfl) (zsel 73 (by decide +kernel) rfl) (zin 9 (by decide +kernel) rfl) (zin 1049 (by decide +kernel) rfl)) (by decide +kernel) (by decide +kernel)) ?_
  refine zap (zretI_mono) (zretI_ok (by decide +kernel) rfl) ?_
  refine zap (zi_mono _ _) (zi_ok (zg_aload_n (j := 0) (by decide +kernel) rfl)) ?_
  refine zap (zi_mono _ _) (zi_ok (zg_iload_n (j := 3) (by decide +kernel) rfl)) ?_
  refine zap (zi_mono _ _) (zi_ok (zg_iload (by decide +kernel))) ?_
  refine zap (zcV_mono _ _ _ _) (zcV_ok znst_st (μ' := 137) (na := 2) (ci := 9) (index := 225) (q := (RC9, FC9, 33)) (by decide +kernel) (by decide +kernel) rfl (zgV (zin 1050 (by decide +kernel) rfl) (zin 1052 (by decide +kernel) rfl) (zsel 74 (by decide +kernel) rfl) (zin 9 (by decide +kernel) rfl) (zin 1053 (by decide +kernel) rfl)) (by decide +kernel) (by decide +kernel)) ?_
  refine zap (zretI_mono) (zretI_ok (by decide +kernel) rfl) ?_
  refine zap (zi_mono _ _) (zi_ok (zg_aload_n (j := 0) (by decide +kernel) rfl)) ?_
  refine zap (zi_mono _ _) (zi_ok (zg_aload_n (j := 0) (by decide +kernel) rfl)) ?_
  refine zap (zget_mono _ _) (zget_ok (index := 26) (C := RC9) (ref := "VectorLanguageModel") (T := FC9) (NN := 33) (by decide +kernel) rfl iC9 (by decide +kernel) (zin 760 (by decide +kernel) rfl) rfl) ?_
  refine zap (zi_mono _ _) (zi_ok (zg_iload_n (j := 3) (by decide +kernel) rfl)) ?_
  refine zap (ziald_mono _) (ziald_ok (by decide +kernel)) ?_
  refine zap (zcV_mono _ _ _ _) (zcV_ok znst_st (μ' := 100) (na := 1) (ci := 9) (index := 158) (q := (RC9, FC9, 33)) (by decide +kernel) (by decide +kernel) rfl (zgV (zin 903 (by decide +kernel) rfl) (zin 905 (by decide +kernel) rfl) (zsel 42 (by decide +kernel) rfl) (zin 9 (by decide +kernel) rfl) (zin 906 (by decide +kernel) rfl)) (by decide +kernel) (by decide +kernel)) ?_
  refine zap (zretI_mono) (zretI_ok (by decide +kernel) rfl) ?_
  refine zap (zi_mono _ _) (zi_ok (zg_aload_n (j := 0) (by decide +kernel) rfl)) ?_
  refine zap (zi_mono _ _) (zi_ok (zg_iload_n (j := 3) (by decide +kernel) rfl)) ?_
  refine zap (zcV_mono _ _ _ _) (zcV_ok znst_st (μ' := 138) (na := 1) (ci := 9) (index := 228) (q := (RC9, FC9, 33)) (by decide +kernel) (by decide +kernel) rfl (zgV (zin 1054 (by decide +kernel) rfl) (zin 1056 (by decide +kernel) rfl) (zsel 75 (by decide +kernel) rfl) (zin 9 (by decide +kernel) rfl) (zin 1057 (by decide +kernel) rfl)) (by decide +kernel) (by decide +kernel)) ?_
  refine zap (zretI_mono) (zretI_ok (by decide +kernel) rfl) ?_
  exact zn
/-- VectorLanguageModel.same(II)Z -/
def tb126 (tys : List (ClassId × FieldType)) : List (Nat × (zP → zP)) := [(0, zi (gAl 0) 1), (1, zget 9 7), (4, zi (gIl 1) 1), (5, ziald tys), (6, zi (gAl 0) 1), (7, zget 9 7), (10, zi (gIl 2) 1), (11, ziald tys), (12, zb (c2 (fun x y => x = y)) 17), (15, zi (gC (.int (0))) 1), (16, zretZ), (17, zi (gAl 0) 1), (18, zget 9 7), (21, zi (gIl 1) 1), (22, ziald tys), (23, zb (c1 (fun x => 0 ≤ x)) 58), (26, zi (gAl 0) 1), (27, zget 9 6), (30, zi (gC (.int (8))) 2), (32, zi (gIl 1) 1), (33, zi (gII (fun x y => x * y)) 1), (34, zi (gC (.int (2))) 1), (35, zi (gII (fun x y => x + y)) 1), (36, zlald tys), (37, zi (gAl 0) 1), (38, zget 9 6), (41, zi (gC (.int (8))) 2), (43, zi (gIl 2) 1), (44, zi (gII (fun x y => x * y)) 1), (45, zi (gC (.int (2))) 1), (46, zi (gII (fun x y => x + y)) 1), (47, zlald tys), (48, zi (gLcmp) 1), (49, zb (c1 (fun x => ¬ x = 0)) 56), (52, zi (gC (.int (1))) 1), (53, zj 57), (56, zi (gC (.int (0))) 1), (57, zretZ), (58, zi (gC (.int (0))) 1), (59, zi (gIs 3) 1), (60, zi (gIl 3) 1), (61, zi (gAl 0) 1), (62, zget 9 7), (65, zi (gIl 1) 1), (66, ziald tys), (67, zb (c2 (fun x y => y ≤ x)) 93), (70, zi (gAl 0) 1), (71, zi (gIl 1) 1), (72, zi (gIl 3) 1), (73, zcV 3 114 2 9), (76, zi (gAl 0) 1), (77, zi (gIl 2) 1), (78, zi (gIl 3) 1), (79, zcV 3 114 2 9), (82, zb (c2 (fun x y => x = y)) 87), (85, zi (gC (.int (0))) 1), (86, zretZ), (87, zi (gIinc 3 (1)) 3), (90, zj 60), (93, zi (gC (.int (1))) 1), (94, zretZ)]
set_option maxRecDepth 100000 in
theorem ok126 (l : Launch) (D : va_G) (dA : Nat → ClassId) (b0 : Nat) : ∀ q ∈ tb126 (ztys dA), zOK l D dA b0 126 q.1 q.2 := by
  refine zap (zi_mono _ _) (zi_ok (zg_aload_n (j := 0) (by decide +kernel) rfl)) ?_
  refine zap (zget_mono _ _) (zget_ok (index := 26) (C := RC9) (ref := "VectorLanguageModel") (T := FC9) (NN := 33) (by decide +kernel) rfl iC9 (by decide +kernel) (zin 760 (by decide +kernel) rfl) rfl) ?_
  refine zap (zi_mono _ _) (zi_ok (zg_iload_n (j := 1) (by decide +kernel) rfl)) ?_
  refine zap (ziald_mono _) (ziald_ok (by decide +kernel)) ?_
  refine zap (zi_mono _ _) (zi_ok (zg_aload_n (j := 0) (by decide +kernel) rfl)) ?_
  refine zap (zget_mono _ _) (zget_ok (index := 26) (C := RC9) (ref := "VectorLanguageModel") (T := FC9) (NN := 33) (by decide +kernel) rfl iC9 (by decide +kernel) (zin 760 (by decide +kernel) rfl) rfl) ?_
  refine zap (zi_mono _ _) (zi_ok (zg_iload_n (j := 2) (by decide +kernel) rfl)) ?_
  refine zap (ziald_mono _) (ziald_ok (by decide +kernel)) ?_
  refine zap (zb_mono _ _) (zb_ok (zb_ieq (off := 5) (by decide +kernel) (by decide +kernel))) ?_
  refine zap (zi_mono _ _) (zi_ok (zg_iconst (n := 0) (by decide +kernel) (by decide +kernel))) ?_
  refine zap (zretZ_mono) (zretZ_ok (by decide +kernel) rfl) ?_
  refine zap (zi_mono _ _) (zi_ok (zg_aload_n (j := 0) (by decide +kernel) rfl)) ?_
  refine zap (zget_mono _ _) (zget_ok (index := 26) (C := RC9) (ref := "VectorLanguageModel") (T := FC9) (NN := 33) (by decide +kernel) rfl iC9 (by decide +kernel) (zin 760 (by decide +kernel) rfl) rfl) ?_
  refine zap (zi_mono _ _) (zi_ok (zg_iload_n (j := 1) (by decide +kernel) rfl)) ?_
  refine zap (ziald_mono _) (ziald_ok (by decide +kernel)) ?_
  refine zap (zb_mono _ _) (zb_ok (zb_ge (off := 35) (by decide +kernel) (by decide +kernel))) ?_
  refine zap (zi_mono _ _) (zi_ok (zg_aload_n (j := 0) (by decide +kernel) rfl)) ?_
  refine zap (zget_mono _ _) (zget_ok (index := 22) (C := RC9) (ref := "VectorLanguageModel") (T := FC9) (NN := 33) (by decide +kernel) rfl iC9 (by decide +kernel) (zin 759 (by decide +kernel) rfl) rfl) ?_
  refine zap (zi_mono _ _) (zi_ok (zg_bipush (n := 8) (by decide +kernel) (by decide +kernel))) ?_
  refine zap (zi_mono _ _) (zi_ok (zg_iload_n (j := 1) (by decide +kernel) rfl)) ?_
  refine zap (zi_mono _ _) (zi_ok (zg_imul (by decide +kernel))) ?_
  refine zap (zi_mono _ _) (zi_ok (zg_iconst (n := 2) (by decide +kernel) (by decide +kernel))) ?_
  refine zap (zi_mono _ _) (zi_ok (zg_iadd (by decide +kernel))) ?_
  refine zap (zlald_mono _) (zlald_ok (by decide +kernel)) ?_
  refine zap (zi_mono _ _) (zi_ok (zg_aload_n (j := 0) (by decide +kernel) rfl)) ?_
  refine zap (zget_mono _ _) (zget_ok (index := 22) (C := RC9) (ref := "VectorLanguageModel") (T := FC9) (NN := 33) (by decide +kernel) rfl iC9 (by decide +kernel) (zin 759 (by decide +kernel) rfl) rfl) ?_
  refine zap (zi_mono _ _) (zi_ok (zg_bipush (n := 8) (by decide +kernel) (by decide +kernel))) ?_
  refine zap (zi_mono _ _) (zi_ok (zg_iload_n (j := 2) (by decide +kernel) rfl)) ?_
  refine zap (zi_mono _ _) (zi_ok (zg_imul (by decide +kernel))) ?_
  refine zap (zi_mono _ _) (zi_ok (zg_iconst (n := 2) (by decide +kernel) (by decide +kernel))) ?_
  refine zap (zi_mono _ _) (zi_ok (zg_iadd (by decide +kernel))) ?_
  refine zap (zlald_mono _) (zlald_ok (by decide +kernel)) ?_
  refine zap (zi_mono _ _) (zi_ok (zg_lcmp (by decide +kernel))) ?_
  refine zap (zb_mono _ _) (zb_ok (zb_ne (off := 7) (by decide +kernel) (by decide +kernel))) ?_
  refine zap (zi_mono _ _) (zi_ok (zg_iconst (n := 1) (by decide +kernel) (by decide +kernel))) ?_
  refine zap (zj_mono _) (zj_ok (off := 4) (by decide +kernel) (by decide +kernel)) ?_
  refine zap (zi_mono _ _) (zi_ok (zg_iconst (n := 0) (by decide +kernel) (by decide +kernel))) ?_
  refine zap (zretZ_mono) (zretZ_ok (by decide +kernel) rfl) ?_
  refine zap (zi_mono _ _) (zi_ok (zg_iconst (n := 0) (by decide +kernel) (by decide +kernel))) ?_
  refine zap (zi_mono _ _) (zi_ok (zg_istore_n (j := 3) (by decide +kernel) rfl (by decide +kernel))) ?_
  refine zap (zi_mono _ _) (zi_ok (zg_iload_n (j := 3) (by decide +kernel) rfl)) ?_
  refine zap (zi_mono _ _) (zi_ok (zg_aload_n (j := 0) (by decide +kernel) rfl)) ?_
  refine zap (zget_mono _ _) (zget_ok (index := 26) (C := RC9) (ref := "VectorLanguageModel") (T := FC9) (NN := 33) (by decide +kernel) rfl iC9 (by decide +kernel) (zin 760 (by decide +kernel) rfl) rfl) ?_
  refine zap (zi_mono _ _) (zi_ok (zg_iload_n (j := 1) (by decide +kernel) rfl)) ?_
  refine zap (ziald_mono _) (ziald_ok (by decide +kernel)) ?_
  refine zap (zb_mono _ _) (zb_ok (zb_ige (off := 26) (by decide +kernel) (by decide +kernel))) ?_
  refine zap (zi_mono _ _) (zi_ok (zg_aload_n (j := 0) (by decide +kernel) rfl)) ?_
  refine zap (zi_mono _ _) (zi_ok (zg_iload_n (j := 1) (by decide +kernel) rfl)) ?_
  refine zap (zi_mono _ _) (zi_ok (zg_iload_n (j := 3) (by decide +kernel) rfl)) ?_
  refine zap (zcV_mono _ _ _ _) (zcV_ok znst_st (μ' := 114) (na := 2) (ci := 9) (index := 138) (q := (RC9, FC9, 33)) (by decide +kernel) (by decide +kernel) rfl (zgV (zin 961 (by decide +kernel) rfl) (zin 963 (by decide +kernel) rfl) (zsel 56 (by decide +kernel) rfl) (zin 9 (by decide +kernel) rfl) (zin 964 (by decide +kernel) rfl)) (by decide +kernel) (by decide +kernel)) ?_
  refine zap (zi_mono _ _) (zi_ok (zg_aload_n (j := 0) (by decide +kernel) rfl)) ?_
  refine zap (zi_mono _ _) (zi_ok (zg_iload_n (j := 2) (by decide +kernel) rfl)) ?_
  refine zap (zi_mono _ _) (zi_ok (zg_iload_n (j := 3) (by decide +kernel) rfl)) ?_
  refine zap (zcV_mono _ _ _ _) (zcV_ok znst_st (μ' := 114) (na := 2) (ci := 9) (index := 138) (q := (RC9, FC9, 33)) (by decide +kernel) (by decide +kernel) rfl (zgV (zin 961 (by decide +kernel) rfl) (zin 963 (by decide +kernel) rfl) (zsel 56 (by decide +kernel) rfl) (zin 9 (by decide +kernel) rfl) (zin 964 (by decide +kernel) rfl)) (by decide +kernel) (by decide +kernel)) ?_
  refine zap (zb_mono _ _) (zb_ok (zb_ieq (off := 5) (by decide +kernel) (by decide +kernel))) ?_
  refine zap (zi_mono _ _) (zi_ok (zg_iconst (n := 0) (by decide +kernel) (by decide +kernel))) ?_
  refine zap (zretZ_mono) (zretZ_ok (by decide +kernel) rfl) ?_
  refine zap (zi_mono _ _) (zi_ok (zg_iinc (n := 1) (by decide +kernel) (by decide +kernel) (by decide +kernel))) ?_
  refine zap (zj_mono _) (zj_ok (off := -30) (by decide +kernel) (by decide +kernel)) ?_
  refine zap (zi_mono _ _) (zi_ok (zg_iconst (n := 1) (by decide +kernel) (by decide +kernel))) ?_
  refine zap (zretZ_mono) (zretZ_ok (by decide +kernel) rfl) ?_
  exact zn
/-- VectorLanguageModel.failed(I)I -/
def tb127 (_ : List (ClassId × FieldType)) : List (Nat × (zP → zP)) := [(0, zi (gAl 0) 1), (1, zi (gIl 1) 1), (2, zput (.int) 9 29), (5, zi (gC (.int (0))) 1), (6, zretI)]
set_option maxRecDepth 100000 in
theorem ok127 (l : Launch) (D : va_G) (dA : Nat → ClassId) (b0 : Nat) : ∀ q ∈ tb127 (ztys dA), zOK l D dA b0 127 q.1 q.2 := by
  refine zap (zi_mono _ _) (zi_ok (zg_aload_n (j := 0) (by decide +kernel) rfl)) ?_
  refine zap (zi_mono _ _) (zi_ok (zg_iload_n (j := 1) (by decide +kernel) rfl)) ?_
  refine zap (zput_mono _ _ _) (zput_ok (index := 152) (C := RC9) (ref := "VectorLanguageModel") (T := FC9) (NN := 33) tC9 (by decide +kernel) rfl iC9 tC9_ok nC9 (by decide +kernel) (zin 782 (by decide +kernel) rfl) rfl (Or.inl rfl) rfl) ?_
  refine zap (zi_mono _ _) (zi_ok (zg_iconst (n := 0) (by decide +kernel) (by decide +kernel))) ?_
  refine zap (zretI_mono) (zretI_ok (by decide +kernel) rfl) ?_
  exact zn
/-- VectorLanguageModel.pairwise(IIII)I -/
def tb128 (tys : List (ClassId × FieldType)) : List (Nat × (zP → zP)) := [(0, zi (gAl 0) 1), (1, zget 9 7), (4, zi (gIl 3) 1), (5, ziald tys), (6, zb (c1 (fun x => x = 0)) 19), (9, zi (gAl 0) 1), (10, zget 9 7), (13, zi (gIl 4) 2), (15, ziald tys), (16, zb (c1 (fun x => ¬ x = 0)) 21), (19, zi (gC (.int (0))) 1), (20, zretI), (21, zi (gAl 0) 1), (22, zget 9 7), (25, zi (gIl 3) 1), (26, ziald tys), (27, zi (gAl 0) 1), (28, zget 9 7), (31, zi (gIl 4) 2), (33, ziald tys), (34, zb (c2 (fun x y => x ≤ y)) 46), (37, zi (gAl 0) 1), (38, zget 9 7), (41, zi (gIl 3) 1), (42, ziald tys), (43, zj 53), (46, zi (gAl 0) 1), (47, zget 9 7), (50, zi (gIl 4) 2), (52, ziald tys), (53, zi (gIs 5) 2), (55, zi (gAl 0) 1), (56, zi (gIl 5) 2), (58, zcV 3 101 1 9), (61, zi (gIs 6) 2), (63, zi (gC (.int (0))) 1), (64, zi (gIs 7) 2), (66, zi (gIl 7) 2), (68, zi (gIl 5) 2), (70, zb (c2 (fun x y => y ≤ x)) 163), (73, zi (gAl 0) 1), (74, zi (gIl 3) 1), (75, zi (gIl 7) 2), (77, zi (gAl 0) 1), (78, zget 9 7), (81, zi (gIl 3) 1), (82, ziald tys), (83, zdv (fun x y => x - x / y * y)), (84, zcV 3 114 2 9), (87, zi (gIs 8) 2), (89, zi (gAl 0) 1), (90, zi (gIl 4) 2), (92, zi (gIl 7) 2), (94, zi (gAl 0) 1), (95, zget 9 7), (98, zi (gIl 4) 2), (100, ziald tys), (101, zdv (fun x y => x - x / y * y)), (102, zcV 3 114 2 9), (105, zi (gIs 9) 2), (107, zi (gAl 0) 1), (108, zi (gIl 6) 2), (110, zi (gIl 7) 2), (112, zi (gIl 1) 1), (113, zi (gC (.int (6))) 2), (115, zb (c2 (fun x y => ¬ x = y)) 129), (118, zi (gIl 2) 1), (119, zi (gIl 8) 2), (121, zi (gIl 9) 2), (123, zcS 5 129 3), (126, zj 154), (129, zi (gIl 1) 1), (130, zi (gC (.int (7))) 2), (132, zb (c2 (fun x y => ¬ x = y)) 146), (135, zi (gIl 2) 1), (136, zi (gIl 8) 2), (138, zi (gIl 9) 2), (140, zcS 3 132 3), (143, zj 154), (146, zi (gIl 2) 1), (147, zi (gIl 8) 2), (149, zi (gIl 9) 2), (151, zcS 5 133 3), (154, zcV 7 104 3 9), (157, zi (gIinc 7 (1)) 3), (160, zj 66), (163, zi (gIl 6) 2), (165, zretI)]
set_option maxRecDepth 100000 in
theorem ok128 (l : Launch) (D : va_G) (dA : Nat → ClassId) (b0 : Nat) : ∀ q ∈ tb128 (ztys dA), zOK l D dA b0 128 q.1 q.2 := by
  refine zap (zi_mono _ _) (zi_ok (zg_aload_n (j := 0) (by decide +kernel) rfl)) ?_
  refine zap (zget_mono _ _) (zget_ok (index := 26) (C := RC9) (ref := "VectorLanguageModel") (T := FC9) (NN := 33) (by decide +kernel) rfl iC9 (by decide +kernel) (zin 760 (by decide +kernel) rfl) rfl) ?_
  refine zap (zi_mono _ _) (zi_ok (zg_iload_n (j := 3) (by decide +kernel) rfl)) ?_
  refine zap (ziald_mono _) (ziald_ok (by decide +kernel)) ?_
  refine zap (zb_mono _ _) (zb_ok (zb_eq (off := 13) (by decide +kernel) (by decide +kernel))) ?_
  refine zap (zi_mono _ _) (zi_ok (zg_aload_n (j := 0) (by decide +kernel) rfl)) ?_
  refine zap (zget_mono _ _) (zget_ok (index := 26) (C := RC9) (ref := "VectorLanguageModel") (T := FC9) (NN := 33) (by decide +kernel) rfl iC9 (by decide +kernel) (zin 760 (by decide +kernel) rfl) rfl) ?_
  refine zap (zi_mono _ _) (zi_ok (zg_iload (by decide +kernel))) ?_
  refine zap (ziald_mono _) (ziald_ok (by decide +kernel)) ?_
  refine zap (zb_mono _ _) (zb_ok (zb_ne (off := 5) (by decide +kernel) (by decide +kernel))) ?_
  refine zap (zi_mono _ _) (zi_ok (zg_iconst (n := 0) (by decide +kernel) (by decide +kernel))) ?_
  refine zap (zretI_mono) (zretI_ok (by decide +kernel) rfl) ?_
  refine zap (zi_mono _ _) (zi_ok (zg_aload_n (j := 0) (by decide +kernel) rfl)) ?_
  refine zap (zget_mono _ _) (zget_ok (index := 26) (C := RC9) (ref := "VectorLanguageModel") (T := FC9) (NN := 33) (by decide +kernel) rfl iC9 (by decide +kernel) (zin 760 (by decide +kernel) rfl) rfl) ?_
  refine zap (zi_mono _ _) (zi_ok (zg_iload_n (j := 3) (by decide +kernel) rfl)) ?_
  refine zap (ziald_mono _) (ziald_ok (by decide +kernel)) ?_
  refine zap (zi_mono _ _) (zi_ok (zg_aload_n (j := 0) (by decide +kernel) rfl)) ?_
  refine zap (zget_mono _ _) (zget_ok (index := 26) (C := RC9) (ref := "VectorLanguageModel") (T := FC9) (NN := 33) (by decide +kernel) rfl iC9 (by decide +kernel) (zin 760 (by decide +kernel) rfl) rfl) ?_
  refine zap (zi_mono _ _) (zi_ok (zg_iload (by decide +kernel))) ?_
  refine zap (ziald_mono _) (ziald_ok (by decide +kernel)) ?_
  refine zap (zb_mono _ _) (zb_ok (zb_ile (off := 12) (by decide +kernel) (by decide +kernel))) ?_
  refine zap (zi_mono _ _) (zi_ok (zg_aload_n (j := 0) (by decide +kernel) rfl)) ?_
  refine zap (zget_mono _ _) (zget_ok (index := 26) (C := RC9) (ref := "VectorLanguageModel") (T := FC9) (NN := 33) (by decide +kernel) rfl iC9 (by decide +kernel) (zin 760 (by decide +kernel) rfl) rfl) ?_
  refine zap (zi_mono _ _) (zi_ok (zg_iload_n (j := 3) (by decide +kernel) rfl)) ?_
  refine zap (ziald_mono _) (ziald_ok (by decide +kernel)) ?_
  refine zap (zj_mono _) (zj_ok (off := 10) (by decide +kernel) (by decide +kernel)) ?_
  refine zap (zi_mono _ _) (zi_ok (zg_aload_n (j := 0) (by decide +kernel) rfl)) ?_
  refine zap (zget_mono _ _) (zget_ok (index := 26) (C := RC9) (ref := "VectorLanguageModel") (T := FC9) (NN := 33) (by decide +kernel) rfl iC9 (by decide +kernel) (zin 760 (by decide +kernel) rfl) rfl) ?_
  refine zap (zi_mono _ _) (zi_ok (zg_iload (by decide +kernel))) ?_
  refine zap (ziald_mono _) (ziald_ok (by decide +kernel)) ?_
  refine zap (zi_mono _ _) (zi_ok (zg_istore (by decide +kernel) (by decide +kernel))) ?_
  refine zap (zi_mono _ _) (zi_ok (zg_aload_n (j := 0) (by decide +kernel) rfl)) ?_
  refine zap (zi_mono _ _) (zi_ok (zg_iload (by decide +kernel))) ?_
  refine zap (zcV_mono _ _ _ _) (zcV_ok znst_st (μ' := 101) (na := 1) (ci := 9) (index := 118) (q := (RC9, FC9, 33)) (by decide +kernel) (by decide +kernel) rfl (zgV (zin 907 (by decide +kernel) rfl) (zin 909 (by decide +kernel) rfl) (zsel 43 (by decide +kernel) rfl) (zin 9 (by decide +kernel) rfl) (zin 910 (by decide +kernel) rfl)) (by decide +kernel) (by decide +kernel)) ?_
  refine zap (zi_mono _ _) (zi_ok (zg_istore (by decide +kernel) (by decide +kernel))) ?_
  refine zap (zi_mono _ _) (zi_ok (zg_iconst (n := 0) (by decide +kernel) (by decide +kernel))) ?_
  refine zap (zi_mono _ _) (zi_ok (zg_istore (by decide +kernel) (by decide +kernel))) ?_
  refine zap (zi_mono _ _) (zi_ok (zg_iload (by decide +kernel))) ?_
  refine zap (zi_mono _ _) (zi_ok (zg_iload (by decide +kernel))) ?_
  refine zap (zb_mono _ _) (zb_ok (zb_ige (off := 93) (by decide +kernel) (by decide +kernel))) ?_
  refine zap (zi_mono _ _) (zi_ok (zg_aload_n (j := 0) (by decide +kernel) rfl)) ?_
  refine zap (zi_mono _ _) (zi_ok (zg_iload_n (j := 3) (by decide +kernel) rfl)) ?_
  refine zap (zi_mono _ _) (zi_ok (zg_iload (by decide +kernel))) ?_
  refine zap (zi_mono _ _) (zi_ok (zg_aload_n (j := 0) (by decide +kernel) rfl)) ?_
  refine zap (zget_mono _ _) (zget_ok (index := 26) (C := RC9) (ref := "VectorLanguageModel") (T := FC9) (NN := 33) (by decide +kernel) rfl iC9 (by decide +kernel) (zin 760 (by decide +kernel) rfl) rfl) ?_
  refine zap (zi_mono _ _) (zi_ok (zg_iload_n (j := 3) (by decide +kernel) rfl)) ?_
  refine zap (ziald_mono _) (ziald_ok (by decide +kernel)) ?_
  refine zap (zdv_mono _) (zdv_rem (by decide +kernel)) ?_
  refine zap (zcV_mono _ _ _ _) (zcV_ok znst_st (μ' := 114) (na := 2) (ci := 9) (index := 138) (q := (RC9, FC9, 33)) (by decide +kernel) (by decide +kernel) rfl (zgV (zin 961 (by decide +kernel) rfl) (zin 963 (by decide +kernel) rfl) (zsel 56 (by decide +kernel) rfl) (zin 9 (by decide +kernel) rfl) (zin 964 (by decide +kernel) rfl)) (by decide +kernel) (by decide +kernel)) ?_
  refine zap (zi_mono _ _) (zi_ok (zg_istore (by decide +kernel) (by decide +kernel))) ?_
  refine zap (zi_mono _ _) (zi_ok (zg_aload_n (j := 0) (by decide +kernel) rfl)) ?_
  refine zap (zi_mono _ _) (zi_ok (zg_iload (by decide +kernel))) ?_
  refine zap (zi_mono _ _) (zi_ok (zg_iload (by decide +kernel))) ?_
  refine zap (zi_mono _ _) (zi_ok (zg_aload_n (j := 0) (by decide +kernel) rfl)) ?_
  refine zap (zget_mono _ _) (zget_ok (index := 26) (C := RC9) (ref := "VectorLanguageModel") (T := FC9) (NN := 33) (by decide +kernel) rfl iC9 (by decide +kernel) (zin 760 (by decide +kernel) rfl) rfl) ?_
  refine zap (zi_mono _ _) (zi_ok (zg_iload (by decide +kernel))) ?_
  refine zap (ziald_mono _) (ziald_ok (by decide +kernel)) ?_
  refine zap (zdv_mono _) (zdv_rem (by decide +kernel)) ?_
  refine zap (zcV_mono _ _ _ _) (zcV_ok znst_st (μ' := 114) (na := 2) (ci := 9) (index := 138) (q := (RC9, FC9, 33)) (by decide +kernel) (by decide +kernel) rfl (zgV (zin 961 (by decide +kernel) rfl) (zin 963 (by decide +kernel) rfl) (zsel 56 (by decide +kernel) rfl) (zin 9 (by decide +kernel) rfl) (zin 964 (by decide +kernel) rfl)) (by decide +kernel) (by decide +kernel)) ?_
  refine zap (zi_mono _ _) (zi_ok (zg_istore (by decide +kernel) (by decide +kernel))) ?_
  refine zap (zi_mono _ _) (zi_ok (zg_aload_n (j := 0) (by decide +kernel) rfl)) ?_
  refine zap (zi_mono _ _) (zi_ok (zg_iload (by decide +kernel))) ?_
  refine zap (zi_mono _ _) (zi_ok (zg_iload (by decide +kernel))) ?_
  refine zap (zi_mono _ _) (zi_ok (zg_iload_n (j := 1) (by decide +kernel) rfl)) ?_
  refine zap (zi_mono _ _) (zi_ok (zg_bipush (n := 6) (by decide +kernel) (by decide +kernel))) ?_
  refine zap (zb_mono _ _) (zb_ok (zb_ine (off := 14) (by decide +kernel) (by decide +kernel))) ?_
  refine zap (zi_mono _ _) (zi_ok (zg_iload_n (j := 2) (by decide +kernel) rfl)) ?_
  refine zap (zi_mono _ _) (zi_ok (zg_iload (by decide +kernel))) ?_
  refine zap (zi_mono _ _) (zi_ok (zg_iload (by decide +kernel))) ?_
  refine zap (zcS_mono _ _ _) (zcS_ok znst_st (μ' := 129) (na := 3) (index := 142) (by decide +kernel) (by decide +kernel) (zgS (zin 1021 (by decide +kernel) rfl) (zin 1022 (by decide +kernel) rfl) (zin 9 (by decide +kernel) rfl) (zin 1023 (by decide +kernel) rfl)) (by decide +kernel) (by decide +kernel)) ?_
  refine zap (zj_mono _) (zj_ok (off := 28) (by decide +kernel) (by decide +kernel)) ?_
  refine zap (zi_mono _ _) (zi_ok (zg_iload_n (j := 1) (by decide +kernel) rfl)) ?_
  refine zap (zi_mono _ _) (zi_ok (zg_bipush (n := 7) (by decide +kernel) (by decide +kernel))) ?_
  refine zap (zb_mono _ _) (zb_ok (zb_ine (off := 14) (by decide +kernel) (by decide +kernel))) ?_
  refine zap (zi_mono _ _) (zi_ok (zg_iload_n (j := 2) (by decide +kernel) rfl)) ?_
  refine zap (zi_mono _ _) (zi_ok (zg_iload (by decide +kernel))) ?_
  refine zap (zi_mono _ _) (zi_ok (zg_iload (by decide +kernel))) ?_
  refine zap (zcS_mono _ _ _) (zcS_ok znst_st (μ' := 132) (na := 3) (index := 146) (by decide +kernel) (by decide +kernel) (zgS (zin 1032 (by decide +kernel) rfl) (zin 1033 (by decide +kernel) rfl) (zin 9 (by decide +kernel) rfl) (zin 1034 (by decide +kernel) rfl)) (by decide +kernel) (by decide +kernel)) ?_
  refine zap (zj_mono _) (zj_ok (off := 11) (by decide +kernel) (by decide +kernel)) ?_
  refine zap (zi_mono _ _) (zi_ok (zg_iload_n (j := 2) (by decide +kernel) rfl)) ?_
  refine zap (zi_mono _ _) (zi_ok (zg_iload (by decide +kernel))) ?_
  refine zap (zi_mono _ _) (zi_ok (zg_iload (by decide +kernel))) ?_
  refine zap (zcS_mono _ _ _) (zcS_ok znst_st (μ' := 133) (na := 3) (index := 149) (by decide +kernel) (by decide +kernel) (zgS (zin 1035 (by decide +kernel) rfl) (zin 1036 (by decide +kernel) rfl) (zin 9 (by decide +kernel) rfl) (zin 1037 (by decide +kernel) rfl)) (by decide +kernel) (by decide +kernel)) ?_
  refine zap (zcV_mono _ _ _ _) (zcV_ok znst_st (μ' := 104) (na := 3) (ci := 9) (index := 121) (q := (RC9, FC9, 33)) (by decide +kernel) (by decide +kernel) rfl (zgV (zin 919 (by decide +kernel) rfl) (zin 921 (by decide +kernel) rfl) (zsel 46 (by decide +kernel) rfl) (zin 9 (by decide +kernel) rfl) (zin 922 (by decide +kernel) rfl)) (by decide +kernel) (by decide +kernel)) ?_
  refine zap (zi_mono _ _) (zi_ok (zg_iinc (n := 1) (by decide +kernel) (by decide +kernel) (by decide +kernel))) ?_
  refine zap (zj_mono _) (zj_ok (off := -94) (by decide +kernel) (by decide +kernel)) ?_
  refine zap (zi_mono _ _) (zi_ok (zg_iload (by decide +kernel))) ?_
  refine zap (zretI_mono) (zretI_ok (by decide +kernel) rfl) ?_
  exact zn
/-- VectorLanguageModel.arithmetic(III)I -/
def tb129 (_ : List (ClassId × FieldType)) : List (Nat × (zP → zP)) := [(0, zi (gIl 1) 1), (1, zi (gC (.int (-2147483648))) 2), (3, zb (c2 (fun x y => x = y)) 21), (6, zi (gIl 2) 1), (7, zi (gC (.int (-2147483648))) 2), (9, zb (c2 (fun x y => x = y)) 21), (12, zi (gIl 0) 1), (13, zi (gC (.int (2))) 1), (14, zb (c2 (fun x y => x ≤ y)) 24), (17, zi (gIl 2) 1), (18, zb (c1 (fun x => ¬ x = 0)) 24), (21, zi (gC (.int (-2147483648))) 2), (23, zretI), (24, zi (gIl 1) 1), (25, zi (gI2l) 1), (26, zi (gLs 3) 1), (27, zi (gIl 0) 1), (28, zsw [(0, 60), (1, 68), (2, 76), (3, 84)] 94), (60, zi (gLl 3) 1), (61, zi (gIl 2) 1), (62, zi (gI2l) 1), (63, zi (gLL (fun x y => x + y)) 1), (64, zcS 2 130 1), (67, zretI), (68, zi (gLl 3) 1), (69, zi (gIl 2) 1), (70, zi (gI2l) 1), (71, zi (gLL (fun x y => x - y)) 1), (72, zcS 2 130 1), (75, zretI), (76, zi (gLl 3) 1), (77, zi (gIl 2) 1), (78, zi (gI2l) 1), (79, zi (gLL (fun x y => x * y)) 1), (80, zcS 2 130 1), (83, zretI), (84, zi (gLl 3) 1), (85, zi (gIl 2) 1), (86, zi (gI2l) 1), (87, zcS 4 131 2), (90, zcS 2 130 1), (93, zretI), (94, zi (gLl 3) 1), (95, zi (gLl 3) 1), (96, zi (gIl 2) 1), (97, zi (gI2l) 1), (98, zcS 4 131 2), (101, zi (gIl 2) 1), (102, zi (gI2l) 1), (103, zi (gLL (fun x y => x * y)) 1), (104, zi (gLL (fun x y => x - y)) 1), (105, zcS 2 130 1), (108, zretI)]
set_option maxRecDepth 100000 in
theorem ok129 (l : Launch) (D : va_G) (dA : Nat → ClassId) (b0 : Nat) : ∀ q ∈ tb129 (ztys dA), zOK l D dA b0 129 q.1 q.2 := by
  refine zap (zi_mono _ _) (zi_ok (zg_iload_n (j := 1) (by decide +kernel) rfl)) ?_
  refine zap (zi_mono _ _) (zi_ok (zg_ldc (index := 129) (by decide +kernel) (zin 928 (by decide +kernel) rfl))) ?_
  refine zap (zb_mono _ _) (zb_ok (zb_ieq (off := 18) (by decide +kernel) (by decide +kernel))) ?_
  refine zap (zi_mono _ _) (zi_ok (zg_iload_n (j := 2) (by decide +kernel) rfl)) ?_
  refine zap (zi_mono _ _) (zi_ok (zg_ldc (index := 129) (by decide +kernel) (zin 928 (by decide +kernel) rfl))) ?_
  refine zap (zb_mono _ _) (zb_ok (zb_ieq (off := 12) (by decide +kernel) (by decide +kernel))) ?_
  refine zap (zi_mono _ _) (zi_ok (zg_iload_n (j := 0) (by decide +kernel) rfl)) ?_
  refine zap (zi_mono _ _) (zi_ok (zg_iconst (n := 2) (by decide +kernel) (by decide +kernel))) ?_
  refine zap (zb_mono _ _) (zb_ok (zb_ile (off := 10) (by decide +kernel) (by decide +kernel))) ?_
  refine zap (zi_mono _ _) (zi_ok (zg_iload_n (j := 2) (by decide +kernel) rfl)) ?_
  refine zap (zb_mono _ _) (zb_ok (zb_ne (off := 6) (by decide +kernel) (by decide +kernel))) ?_
  refine zap (zi_mono _ _) (zi_ok (zg_ldc (index := 129) (by decide +kernel) (zin 928 (by decide +kernel) rfl))) ?_
  refine zap (zretI_mono) (zretI_ok (by decide +kernel) rfl) ?_
  refine zap (zi_mono _ _) (zi_ok (zg_iload_n (j := 1) (by decide +kernel) rfl)) ?_
  refine zap (zi_mono _ _) (zi_ok (zg_i2l (by decide +kernel))) ?_
  refine zap (zi_mono _ _) (zi_ok (zg_lstore_n (j := 3) (by decide +kernel) rfl (by decide +kernel))) ?_
  refine zap (zi_mono _ _) (zi_ok (zg_iload_n (j := 0) (by decide +kernel) rfl)) ?_
  refine zap (zsw_mono _ _) (zsw_tab (off := 66) (lo := 0) (hi := 3) (offs := #[32, 40, 48, 56]) (len := 32) (by decide +kernel) (by decide +kernel) (by decide +kernel) (by decide +kernel)) ?_
  refine zap (zi_mono _ _) (zi_ok (zg_lload_n (j := 3) (by decide +kernel) rfl)) ?_
  refine zap (zi_mono _ _) (zi_ok (zg_iload_n (j := 2) (by decide +kernel) rfl)) ?_
  refine zap (zi_mono _ _) (zi_ok (zg_i2l (by decide +kernel))) ?_
  refine zap (zi_mono _ _) (zi_ok (zg_ladd (by decide +kernel))) ?_
  refine zap (zcS_mono _ _ _) (zcS_ok znst_st (μ' := 130) (na := 1) (index := 130) (by decide +kernel) (by decide +kernel) (zgS (zin 1024 (by decide +kernel) rfl) (zin 1025 (by decide +kernel) rfl) (zin 9 (by decide +kernel) rfl) (zin 1026 (by decide +kernel) rfl)) (by decide +kernel) (by decide +kernel)) ?_
  refine zap (zretI_mono) (zretI_ok (by decide +kernel) rfl) ?_
  refine zap (zi_mono _ _) (zi_ok (zg_lload_n (j := 3) (by decide +kernel) rfl)) ?_
  refine zap (zi_mono _ _) (zi_ok (zg_iload_n (j := 2) (by decide +kernel) rfl)) ?_
  refine zap (zi_mono _ _) (zi_ok (zg_i2l (by decide +kernel))) ?_
  refine zap (zi_mono _ _) (zi_ok (zg_lsub (by decide +kernel))) ?_
  refine zap (zcS_mono _ _ _) (zcS_ok znst_st (μ' := 130) (na := 1) (index := 130) (by decide +kernel) (by decide +kernel) (zgS (zin 1024 (by decide +kernel) rfl) (zin 1025 (by decide +kernel) rfl) (zin 9 (by decide +kernel) rfl) (zin 1026 (by decide +kernel) rfl)) (by decide +kernel) (by decide +kernel)) ?_
  refine zap (zretI_mono) (zretI_ok (by decide +kernel) rfl) ?_
  refine zap (zi_mono _ _) (zi_ok (zg_lload_n (j := 3) (by decide +kernel) rfl)) ?_
  refine zap (zi_mono _ _) (zi_ok (zg_iload_n (j := 2) (by decide +kernel) rfl)) ?_
  refine zap (zi_mono _ _) (zi_ok (zg_i2l (by decide +kernel))) ?_
  refine zap (zi_mono _ _) (zi_ok (zg_lmul (by decide +kernel))) ?_
  refine zap (zcS_mono _ _ _) (zcS_ok znst_st (μ' := 130) (na := 1) (index := 130) (by decide +kernel) (by decide +kernel) (zgS (zin 1024 (by decide +kernel) rfl) (zin 1025 (by decide +kernel) rfl) (zin 9 (by decide +kernel) rfl) (zin 1026 (by decide +kernel) rfl)) (by decide +kernel) (by decide +kernel)) ?_
  refine zap (zretI_mono) (zretI_ok (by decide +kernel) rfl) ?_
  refine zap (zi_mono _ _) (zi_ok (zg_lload_n (j := 3) (by decide +kernel) rfl)) ?_
  refine zap (zi_mono _ _) (zi_ok (zg_iload_n (j := 2) (by decide +kernel) rfl)) ?_
  refine zap (zi_mono _ _) (zi_ok (zg_i2l (by decide +kernel))) ?_
  refine zap (zcS_mono _ _ _) (zcS_ok znst_st (μ' := 131) (na := 2) (index := 134) (by decide +kernel) (by decide +kernel) (zgS (zin 1029 (by decide +kernel) rfl) (zin 1030 (by decide +kernel) rfl) (zin 9 (by decide +kernel) rfl) (zin 1031 (by decide +kernel) rfl)) (by decide +kernel) (by decide +kernel)) ?_
  refine zap (zcS_mono _ _ _) (zcS_ok znst_st (μ' := 130) (na := 1) (index := 130) (by decide +kernel) (by decide +kernel) (zgS (zin 1024 (by decide +kernel) rfl) (zin 1025 (by decide +kernel) rfl) (zin 9 (by decide +kernel) rfl) (zin 1026 (by decide +kernel) rfl)) (by decide +kernel) (by decide +kernel)) ?_
  refine zap (zretI_mono) (zretI_ok (by decide +kernel) rfl) ?_
  refine zap (zi_mono _ _) (zi_ok (zg_lload_n (j := 3) (by decide +kernel) rfl)) ?_
  refine zap (zi_mono _ _) (zi_ok (zg_lload_n (j := 3) (by decide +kernel) rfl)) ?_
  refine zap (zi_mono _ _) (zi_ok (zg_iload_n (j := 2) (by decide +kernel) rfl)) ?_
  refine zap (zi_mono _ _) (zi_ok (zg_i2l (by decide +kernel))) ?_
  refine zap (zcS_mono _ _ _) (zcS_ok znst_st (μ' := 131) (na := 2) (index := 134) (by decide +kernel) (by decide +kernel) (zgS (zin 1029 (by decide +kernel) rfl) (zin 1030 (by decide +kernel) rfl) (zin 9 (by decide +kernel) rfl) (zin 1031 (by decide +kernel) rfl)) (by decide +kernel) (by decide +kernel)) ?_
  refine zap (zi_mono _ _) (zi_ok (zg_iload_n (j := 2) (by decide +kernel) rfl)) ?_
  refine zap (zi_mono _ _) (zi_ok (zg_i2l (by decide +kernel))) ?_
  refine zap (zi_mono _ _) (zi_ok (zg_lmul (by decide +kernel))) ?_
  refine zap (zi_mono _ _) (zi_ok (zg_lsub (by decide +kernel))) ?_
  refine zap (zcS_mono _ _ _) (zcS_ok znst_st (μ' := 130) (na := 1) (index := 130) (by decide +kernel) (by decide +kernel) (zgS (zin 1024 (by decide +kernel) rfl) (zin 1025 (by decide +kernel) rfl) (zin 9 (by decide +kernel) rfl) (zin 1026 (by decide +kernel) rfl)) (by decide +kernel) (by decide +kernel)) ?_
  refine zap (zretI_mono) (zretI_ok (by decide +kernel) rfl) ?_
  exact zn
/-- VectorLanguageModel.limited(J)I -/
def tb130 (_ : List (ClassId × FieldType)) : List (Nat × (zP → zP)) := [(0, zi (gLl 0) 1), (1, zi (gC (.long (-1000000000))) 3), (4, zi (gLcmp) 1), (5, zb (c1 (fun x => x < 0)) 16), (8, zi (gLl 0) 1), (9, zi (gC (.long (1000000000))) 3), (12, zi (gLcmp) 1), (13, zb (c1 (fun x => x ≤ 0)) 21), (16, zi (gC (.int (-2147483648))) 2), (18, zj 23), (21, zi (gLl 0) 1), (22, zi (gL2i) 1), (23, zretI)]
set_option maxRecDepth 100000 in
theorem ok130 (l : Launch) (D : va_G) (dA : Nat → ClassId) (b0 : Nat) : ∀ q ∈ tb130 (ztys dA), zOK l D dA b0 130 q.1 q.2 := by
  refine zap (zi_mono _ _) (zi_ok (zg_lload_n (j := 0) (by decide +kernel) rfl)) ?_
  refine zap (zi_mono _ _) (zi_ok (zg_ldc2 (index := 125) (by decide +kernel) (zin 1027 (by decide +kernel) rfl))) ?_
  refine zap (zi_mono _ _) (zi_ok (zg_lcmp (by decide +kernel))) ?_
  refine zap (zb_mono _ _) (zb_ok (zb_lt (off := 11) (by decide +kernel) (by decide +kernel))) ?_
  refine zap (zi_mono _ _) (zi_ok (zg_lload_n (j := 0) (by decide +kernel) rfl)) ?_
  refine zap (zi_mono _ _) (zi_ok (zg_ldc2 (index := 127) (by decide +kernel) (zin 1028 (by decide +kernel) rfl))) ?_
  refine zap (zi_mono _ _) (zi_ok (zg_lcmp (by decide +kernel))) ?_
  refine zap (zb_mono _ _) (zb_ok (zb_le (off := 8) (by decide +kernel) (by decide +kernel))) ?_
  refine zap (zi_mono _ _) (zi_ok (zg_ldc (index := 129) (by decide +kernel) (zin 928 (by decide +kernel) rfl))) ?_
  refine zap (zj_mono _) (zj_ok (off := 5) (by decide +kernel) (by decide +kernel)) ?_
  refine zap (zi_mono _ _) (zi_ok (zg_lload_n (j := 0) (by decide +kernel) rfl)) ?_
  refine zap (zi_mono _ _) (zi_ok (zg_l2i (by decide +kernel))) ?_
  refine zap (zretI_mono) (zretI_ok (by decide +kernel) rfl) ?_
  exact zn
/-- VectorLanguageModel.down(JJ)J -/
def tb131 (_ : List (ClassId × FieldType)) : List (Nat × (zP → zP)) := [(0, zi (gLl 0) 1), (1, zi (gLl 2) 1), (2, zdvl (fun x y => x / y)), (3, zi (gLl 0) 1), (4, zi (gLl 2) 1), (5, zdvl (fun x y => x - x / y * y)), (6, zi (gC (.long 0)) 1), (7, zi (gLcmp) 1), (8, zb (c1 (fun x => x = 0)) 40), (11, zi (gLl 0) 1), (12, zi (gC (.long 0)) 1), (13, zi (gLcmp) 1), (14, zb (c1 (fun x => 0 ≤ x)) 21), (17, zi (gC (.int (1))) 1), (18, zj 22), (21, zi (gC (.int (0))) 1), (22, zi (gLl 2) 1), (23, zi (gC (.long 0)) 1), (24, zi (gLcmp) 1), (25, zb (c1 (fun x => 0 ≤ x)) 32), (28, zi (gC (.int (1))) 1), (29, zj 33), (32, zi (gC (.int (0))) 1), (33, zb (c2 (fun x y => x = y)) 40), (36, zi (gC (.int (1))) 1), (37, zj 41), (40, zi (gC (.int (0))) 1), (41, zi (gI2l) 1), (42, zi (gLL (fun x y => x - y)) 1), (43, zretL)]
set_option maxRecDepth 100000 in
theorem ok131 (l : Launch) (D : va_G) (dA : Nat → ClassId) (b0 : Nat) : ∀ q ∈ tb131 (ztys dA), zOK l D dA b0 131 q.1 q.2 := by
  refine zap (zi_mono _ _) (zi_ok (zg_lload_n (j := 0) (by decide +kernel) rfl)) ?_
  refine zap (zi_mono _ _) (zi_ok (zg_lload_n (j := 2) (by decide +kernel) rfl)) ?_
  refine zap (zdvl_mono _) (zdvl_div (by decide +kernel)) ?_
  refine zap (zi_mono _ _) (zi_ok (zg_lload_n (j := 0) (by decide +kernel) rfl)) ?_
  refine zap (zi_mono _ _) (zi_ok (zg_lload_n (j := 2) (by decide +kernel) rfl)) ?_
  refine zap (zdvl_mono _) (zdvl_rem (by decide +kernel)) ?_
  refine zap (zi_mono _ _) (zi_ok (zg_lconst (n := 0) (by decide +kernel) (by decide +kernel))) ?_
  refine zap (zi_mono _ _) (zi_ok (zg_lcmp (by decide +kernel))) ?_
  refine zap (zb_mono _ _) (zb_ok (zb_eq (off := 32) (by decide +kernel) (by decide +kernel))) ?_
  refine zap (zi_mono _ _) (zi_ok (zg_lload_n (j := 0) (by decide +kernel) rfl)) ?_
  refine zap (zi_mono _ _) (zi_ok (zg_lconst (n := 0) (by decide +kernel) (by decide +kernel))) ?_
  refine zap (zi_mono _ _) (zi_ok (zg_lcmp (by decide +kernel))) ?_
  refine zap (zb_mono _ _) (zb_ok (zb_ge (off := 7) (by decide +kernel) (by decide +kernel))) ?_
  refine zap (zi_mono _ _) (zi_ok (zg_iconst (n := 1) (by decide +kernel) (by decide +kernel))) ?_
  refine zap (zj_mono _) (zj_ok (off := 4) (by decide +kernel) (by decide +kernel)) ?_
  refine zap (zi_mono _ _) (zi_ok (zg_iconst (n := 0) (by decide +kernel) (by decide +kernel))) ?_
  refine zap (zi_mono _ _) (zi_ok (zg_lload_n (j := 2) (by decide +kernel) rfl)) ?_
  refine zap (zi_mono _ _) (zi_ok (zg_lconst (n := 0) (by decide +kernel) (by decide +kernel))) ?_
  refine zap (zi_mono _ _) (zi_ok (zg_lcmp (by decide +kernel))) ?_
  refine zap (zb_mono _ _) (zb_ok (zb_ge (off := 7) (by decide +kernel) (by decide +kernel))) ?_
  refine zap (zi_mono _ _) (zi_ok (zg_iconst (n := 1) (by decide +kernel) (by decide +kernel))) ?_
  refine zap (zj_mono _) (zj_ok (off := 4) (by decide +kernel) (by decide +kernel)) ?_
  refine zap (zi_mono _ _) (zi_ok (zg_iconst (n := 0) (by decide +kernel) (by decide +kernel))) ?_
  refine zap (zb_mono _ _) (zb_ok (zb_ieq (off := 7) (by decide +kernel) (by decide +kernel))) ?_
  refine zap (zi_mono _ _) (zi_ok (zg_iconst (n := 1) (by decide +kernel) (by decide +kernel))) ?_
  refine zap (zj_mono _) (zj_ok (off := 4) (by decide +kernel) (by decide +kernel)) ?_
  refine zap (zi_mono _ _) (zi_ok (zg_iconst (n := 0) (by decide +kernel) (by decide +kernel))) ?_
  refine zap (zi_mono _ _) (zi_ok (zg_i2l (by decide +kernel))) ?_
  refine zap (zi_mono _ _) (zi_ok (zg_lsub (by decide +kernel))) ?_
  refine zap (zretL_mono) (zretL_ok (by decide +kernel) rfl) ?_
  exact zn
/-- VectorLanguageModel.compare(III)I -/
def tb132 (_ : List (ClassId × FieldType)) : List (Nat × (zP → zP)) := [(0, zi (gIl 1) 1), (1, zi (gC (.int (-2147483648))) 2), (3, zb (c2 (fun x y => x = y)) 12), (6, zi (gIl 2) 1), (7, zi (gC (.int (-2147483648))) 2), (9, zb (c2 (fun x y => ¬ x = y)) 15), (12, zi (gC (.int (-2147483648))) 2), (14, zretI), (15, zi (gIl 0) 1), (16, zb (c1 (fun x => ¬ x = 0)) 27), (19, zi (gIl 1) 1), (20, zi (gIl 2) 1), (21, zb (c2 (fun x y => ¬ x = y)) 49), (24, zj 45), (27, zi (gIl 0) 1), (28, zi (gC (.int (1))) 1), (29, zb (c2 (fun x y => ¬ x = y)) 40), (32, zi (gIl 1) 1), (33, zi (gIl 2) 1), (34, zb (c2 (fun x y => y ≤ x)) 49), (37, zj 45), (40, zi (gIl 1) 1), (41, zi (gIl 2) 1), (42, zb (c2 (fun x y => y < x)) 49), (45, zi (gC (.int (1))) 1), (46, zj 50), (49, zi (gC (.int (0))) 1), (50, zretI)]
set_option maxRecDepth 100000 in
theorem ok132 (l : Launch) (D : va_G) (dA : Nat → ClassId) (b0 : Nat) : ∀ q ∈ tb132 (ztys dA), zOK l D dA b0 132 q.1 q.2 := by
  refine zap (zi_mono _ _) (zi_ok (zg_iload_n (j := 1) (by decide +kernel) rfl)) ?_
  refine zap (zi_mono _ _) (zi_ok (zg_ldc (index := 129) (by decide +kernel) (zin 928 (by decide +kernel) rfl))) ?_
  refine zap (zb_mono _ _) (zb_ok (zb_ieq (off := 9) (by decide +kernel) (by decide +kernel))) ?_
  refine zap (zi_mono _ _) (zi_ok (zg_iload_n (j := 2) (by decide +kernel) rfl)) ?_
  refine zap (zi_mono _ _) (zi_ok (zg_ldc (index := 129) (by decide +kernel) (zin 928 (by decide +kernel) rfl))) ?_
  refine zap (zb_mono _ _) (zb_ok (zb_ine (off := 6) (by decide +kernel) (by decide +kernel))) ?_
  refine zap (zi_mono _ _) (zi_ok (zg_ldc (index := 129) (by decide +kernel) (zin 928 (by decide +kernel) rfl))) ?_
  refine zap (zretI_mono) (zretI_ok (by decide +kernel) rfl) ?_
  refine zap (zi_mono _ _) (zi_ok (zg_iload_n (j := 0) (by decide +kernel) rfl)) ?_
  refine zap (zb_mono _ _) (zb_ok (zb_ne (off := 11) (by decide +kernel) (by decide +kernel))) ?_
  refine zap (zi_mono _ _) (zi_ok (zg_iload_n (j := 1) (by decide +kernel) rfl)) ?_
  refine zap (zi_mono _ _) (zi_ok (zg_iload_n (j := 2) (by decide +kernel) rfl)) ?_
  refine zap (zb_mono _ _) (zb_ok (zb_ine (off := 28) (by decide +kernel) (by decide +kernel))) ?_
  refine zap (zj_mono _) (zj_ok (off := 21) (by decide +kernel) (by decide +kernel)) ?_
  refine zap (zi_mono _ _) (zi_ok (zg_iload_n (j := 0) (by decide +kernel) rfl)) ?_
  refine zap (zi_mono _ _) (zi_ok (zg_iconst (n := 1) (by decide +kernel) (by decide +kernel))) ?_
  refine zap (zb_mono _ _) (zb_ok (zb_ine (off := 11) (by decide +kernel) (by decide +kernel))) ?_
  refine zap (zi_mono _ _) (zi_ok (zg_iload_n (j := 1) (by decide +kernel) rfl)) ?_
  refine zap (zi_mono _ _) (zi_ok (zg_iload_n (j := 2) (by decide +kernel) rfl)) ?_
  refine zap (zb_mono _ _) (zb_ok (zb_ige (off := 15) (by decide +kernel) (by decide +kernel))) ?_
  refine zap (zj_mono _) (zj_ok (off := 8) (by decide +kernel) (by decide +kernel)) ?_
  refine zap (zi_mono _ _) (zi_ok (zg_iload_n (j := 1) (by decide +kernel) rfl)) ?_
  refine zap (zi_mono _ _) (zi_ok (zg_iload_n (j := 2) (by decide +kernel) rfl)) ?_
  refine zap (zb_mono _ _) (zb_ok (zb_igt (off := 7) (by decide +kernel) (by decide +kernel))) ?_
  refine zap (zi_mono _ _) (zi_ok (zg_iconst (n := 1) (by decide +kernel) (by decide +kernel))) ?_
  refine zap (zj_mono _) (zj_ok (off := 4) (by decide +kernel) (by decide +kernel)) ?_
  refine zap (zi_mono _ _) (zi_ok (zg_iconst (n := 0) (by decide +kernel) (by decide +kernel))) ?_
  refine zap (zretI_mono) (zretI_ok (by decide +kernel) rfl) ?_
  exact zn
