/-- VectorLanguageModel.indexes(II)I -/
def tb113 (tys : List (ClassId × FieldType)) : List (Nat × (zP → zP)) := [(0, zi (gC (.int (0))) 1), (1, zi (gIs 3) 1), (2, zi (gC (.int (0))) 1), (3, zi (gIs 4) 2), (5, zi (gC (.int (0))) 1), (6, zi (gIs 5) 2), (8, zi (gC (.int (0))) 1), (9, zi (gIs 6) 2), (11, zi (gIl 6) 2), (13, zi (gAl 0) 1), (14, zget 9 7), (17, zi (gIl 1) 1), (18, ziald tys), (19, zb (c2 (fun x y => y ≤ x)) 96), (22, zi (gAl 0) 1), (23, zi (gIl 1) 1), (24, zi (gIl 6) 2), (26, zcV 3 114 2 9), (29, zi (gIs 7) 2), (31, zi (gIl 5) 2), (33, zi (gIl 7) 2), (35, zi (gC (.int (-2147483648))) 2), (37, zb (c2 (fun x y => ¬ x = y)) 44), (40, zi (gC (.int (1))) 1), (41, zj 45), (44, zi (gC (.int (0))) 1), (45, zi (gII (fun x y => x ||| y)) 1), (46, zi (gIs 5) 2), (48, zi (gIl 3) 1), (49, zi (gIl 7) 2), (51, zi (gC (.int (-2147483648))) 2), (53, zb (c2 (fun x y => x = y)) 65), (56, zi (gIl 7) 2), (58, zb (c1 (fun x => 0 ≤ x)) 65), (61, zi (gC (.int (1))) 1), (62, zj 66), (65, zi (gC (.int (0))) 1), (66, zi (gII (fun x y => x ||| y)) 1), (67, zi (gIs 3) 1), (68, zi (gIl 4) 2), (70, zi (gIl 7) 2), (72, zi (gC (.int (-2147483648))) 2), (74, zb (c2 (fun x y => x = y)) 86), (77, zi (gIl 7) 2), (79, zb (c1 (fun x => x ≤ 0)) 86), (82, zi (gC (.int (1))) 1), (83, zj 87), (86, zi (gC (.int (0))) 1), (87, zi (gII (fun x y => x ||| y)) 1), (88, zi (gIs 4) 2), (90, zi (gIinc 6 (1)) 3), (93, zj 11), (96, zi (gIl 3) 1), (97, zb (c1 (fun x => x = 0)) 118), (100, zi (gIl 4) 2), (102, zb (c1 (fun x => ¬ x = 0)) 110), (105, zi (gIl 5) 2), (107, zb (c1 (fun x => x = 0)) 118), (110, zi (gAl 0) 1), (111, zi (gC (.int (8))) 2), (113, zput (.int) 9 29), (116, zi (gC (.int (-1))) 1), (117, zretI), (118, zi (gC (.int (0))) 1), (119, zi (gIs 6) 2), (121, zi (gC (.int (0))) 1), (122, zi (gIs 7) 2), (124, zi (gIl 3) 1), (125, zb (c1 (fun x => x = 0)) 169), (128, zi (gIl 7) 2), (130, zi (gIl 2) 1), (131, zb (c2 (fun x y => y ≤ x)) 169), (134, zi (gAl 0) 1), (135, zi (gIl 1) 1), (136, zi (gIl 7) 2), (138, zi (gC (.int (1))) 1), (139, zi (gII (fun x y => x + y)) 1), (140, zcV 4 115 2 9), (143, zb (c1 (fun x => x = 0)) 149), (146, zj 163), (149, zi (gAl 0) 1), (150, zget 9 32), (153, zi (gIl 6) 2), (155, zi (gIl 7) 2), (157, zi (gC (.int (1))) 1), (158, zi (gII (fun x y => x + y)) 1), (159, ziast tys), (160, zi (gIinc 6 (1)) 3), (163, zi (gIinc 7 (1)) 3), (166, zj 124), (169, zi (gC (.int (0))) 1), (170, zi (gIs 7) 2), (172, zi (gIl 3) 1), (173, zb (c1 (fun x => ¬ x = 0)) 247), (176, zi (gIl 7) 2), (178, zi (gAl 0) 1), (179, zget 9 7), (182, zi (gIl 1) 1), (183, ziald tys), (184, zb (c2 (fun x y => y ≤ x)) 247), (187, zi (gAl 0) 1), (188, zi (gIl 1) 1), (189, zi (gIl 7) 2), (191, zcV 3 114 2 9), (194, zi (gIs 8) 2), (196, zi (gIl 8) 2), (198, zb (c1 (fun x => ¬ x = 0)) 204), (201, zj 241), (204, zi (gAl 0) 1), (205, zget 9 32), (208, zi (gIl 6) 2), (210, zi (gIl 8) 2), (212, zi (gC (.int (-2147483648))) 2), (214, zb (c2 (fun x y => ¬ x = y)) 221), (217, zi (gC (.int (0))) 1), (218, zj 237), (221, zi (gIl 8) 2), (223, zi (gC (.int (1000))) 3), (226, zb (c2 (fun x y => x ≤ y)) 235), (229, zi (gC (.int (1000))) 3), (232, zj 237), (235, zi (gIl 8) 2), (237, ziast tys), (238, zi (gIinc 6 (1)) 3), (241, zi (gIinc 7 (1)) 3), (244, zj 172), (247, zi (gIl 6) 2), (249, zretI)]
set_option maxRecDepth 100000 in
theorem ok113 (l : Launch) (D : va_G) (dA : Nat → ClassId) (b0 : Nat) : ∀ q ∈ tb113 (ztys dA), zOK l D dA b0 113 q.1 q.2 := by
  refine zap (zi_mono _ _) (zi_ok (zg_iconst (n := 0) (by decide +kernel) (by decide +kernel))) ?_
  refine zap (zi_mono _ _) (zi_ok (zg_istore_n (j := 3) (by decide +kernel) rfl (by decide +kernel))) ?_
  refine zap (zi_mono _ _) (zi_ok (zg_iconst (n := 0) (by decide +kernel) (by decide +kernel))) ?_
  refine zap (zi_mono _ _) (zi_ok (zg_istore (by decide +kernel) (by decide +kernel))) ?_
  refine zap (zi_mono _ _) (zi_ok (zg_iconst (n := 0) (by decide +kernel) (by decide +kernel))) ?_
  refine zap (zi_mono _ _) (zi_ok (zg_istore (by decide +kernel) (by decide +kernel))) ?_
  refine zap (zi_mono _ _) (zi_ok (zg_iconst (n := 0) (by decide +kernel) (by decide +kernel))) ?_
  refine zap (zi_mono _ _) (zi_ok (zg_istore (by decide +kernel) (by decide +kernel))) ?_
  refine zap (zi_mono _ _) (zi_ok (zg_iload (by decide +kernel))) ?_
  refine zap (zi_mono _ _) (zi_ok (zg_aload_n (j := 0) (by decide +kernel) rfl)) ?_
  refine zap (zget_mono _ _) (zget_ok (index := 26) (C := RC9) (ref := "VectorLanguageModel") (T := FC9) (NN := 33) (by decide +kernel) rfl iC9 (by decide +kernel) (zin 760 (by decide +kernel) rfl) rfl) ?_
  refine zap (zi_mono _ _) (zi_ok (zg_iload_n (j := 1) (by decide +kernel) rfl)) ?_
  refine zap (ziald_mono _) (ziald_ok (by decide +kernel)) ?_
  refine zap (zb_mono _ _) (zb_ok (zb_ige (off := 77) (by decide +kernel) (by decide +kernel))) ?_
  refine zap (zi_mono _ _) (zi_ok (zg_aload_n (j := 0) (by decide +kernel) rfl)) ?_
  refine zap (zi_mono _ _) (zi_ok (zg_iload_n (j := 1) (by decide +kernel) rfl)) ?_
  refine zap (zi_mono _ _) (zi_ok (zg_iload (by decide +kernel))) ?_
  refine zap (zcV_mono _ _ _ _) (zcV_ok znst_st (μ' := 114) (na := 2) (ci := 9) (index := 138) (q := (RC9, FC9, 33)) (by decide +kernel) (by decide +kernel) rfl (zgV (zin 961 (by decide +kernel) rfl) (zin 963 (by decide +kernel) rfl) (zsel 56 (by decide +kernel) rfl) (zin 9 (by decide +kernel) rfl) (zin 964 (by decide +kernel) rfl)) (by decide +kernel) (by decide +kernel)) ?_
  refine zap (zi_mono _ _) (zi_ok (zg_istore (by decide +kernel) (by decide +kernel))) ?_
  refine zap (zi_mono _ _) (zi_ok (zg_iload (by decide +kernel))) ?_
  refine zap (zi_mono _ _) (zi_ok (zg_iload (by decide +kernel))) ?_
  refine zap (zi_mono _ _) (zi_ok (zg_ldc (index := 129) (by decide +kernel) (zin 928 (by decide +kernel) rfl))) ?_
  refine zap (zb_mono _ _) (zb_ok (zb_ine (off := 7) (by decide +kernel) (by decide +kernel))) ?_
  refine zap (zi_mono _ _) (zi_ok (zg_iconst (n := 1) (by decide +kernel) (by decide +kernel))) ?_
  refine zap (zj_mono _) (zj_ok (off := 4) (by decide +kernel) (by decide +kernel)) ?_
  refine zap (zi_mono _ _) (zi_ok (zg_iconst (n := 0) (by decide +kernel) (by decide +kernel))) ?_
  refine zap (zi_mono _ _) (zi_ok (zg_ior (by decide +kernel))) ?_
  refine zap (zi_mono _ _) (zi_ok (zg_istore (by decide +kernel) (by decide +kernel))) ?_
  refine zap (zi_mono _ _) (zi_ok (zg_iload_n (j := 3) (by decide +kernel) rfl)) ?_
  refine zap (zi_mono _ _) (zi_ok (zg_iload (by decide +kernel))) ?_
  refine zap (zi_mono _ _) (zi_ok (zg_ldc (index := 129) (by decide +kernel) (zin 928 (by decide +kernel) rfl))) ?_
  refine zap (zb_mono _ _) (zb_ok (zb_ieq (off := 12) (by decide +kernel) (by decide +kernel))) ?_
  refine zap (zi_mono _ _) (zi_ok (zg_iload (by decide +kernel))) ?_
  refine zap (zb_mono _ _) (zb_ok (zb_ge (off := 7) (by decide +kernel) (by decide +kernel))) ?_
  refine zap (zi_mono _ _) (zi_ok (zg_iconst (n := 1) (by decide +kernel) (by decide +kernel))) ?_
  refine zap (zj_mono _) (zj_ok (off := 4) (by decide +kernel) (by decide +kernel)) ?_
  refine zap (zi_mono _ _) (zi_ok (zg_iconst (n := 0) (by decide +kernel) (by decide +kernel))) ?_
  refine zap (zi_mono _ _) (zi_ok (zg_ior (by decide +kernel))) ?_
  refine zap (zi_mono _ _) (zi_ok (zg_istore_n (j := 3) (by decide +kernel) rfl (by decide +kernel))) ?_
  refine zap (zi_mono _ _) (zi_ok (zg_iload (by decide +kernel))) ?_
  refine zap (zi_mono _ _) (zi_ok (zg_iload (by decide +kernel))) ?_
  refine zap (zi_mono _ _) (zi_ok (zg_ldc (index := 129) (by decide +kernel) (zin 928 (by decide +kernel) rfl))) ?_
  refine zap (zb_mono _ _) (zb_ok (zb_ieq (off := 12) (by decide +kernel) (by decide +kernel))) ?_
  refine zap (zi_mono _ _) (zi_ok (zg_iload (by decide +kernel))) ?_
  refine zap (zb_mono _ _) (zb_ok (zb_le (off := 7) (by decide +kernel) (by decide +kernel))) ?_
  refine zap (zi_mono _ _) (zi_ok (zg_iconst (n := 1) (by decide +kernel) (by decide +kernel))) ?_
  refine zap (zj_mono _) (zj_ok (off := 4) (by decide +kernel) (by decide +kernel)) ?_
  refine zap (zi_mono _ _) (zi_ok (zg_iconst (n := 0) (by decide +kernel) (by decide +kernel))) ?_
  refine zap (zi_mono _ _) (zi_ok (zg_ior (by decide +kernel))) ?_
  refine zap (zi_mono _ _) (zi_ok (zg_istore (by decide +kernel) (by decide +kernel))) ?_
  refine zap (zi_mono _ _) (zi_ok (zg_iinc (n := 1) (by decide +kernel) (by decide +kernel) (by decide +kernel))) ?_
  refine zap (zj_mono _) (zj_ok (off := -82) (by decide +kernel) (by decide +kernel)) ?_
  refine zap (zi_mono _ _) (zi_ok (zg_iload_n (j := 3) (by decide +kernel) rfl)) ?_
  refine zap (zb_mono _ _) (zb_ok (zb_eq (off := 21) (by decide +kernel) (by decide +kernel))) ?_
  refine zap (zi_mono _ _) (zi_ok (zg_iload (by decide +kernel))) ?_
  refine zap (zb_mono _ _) (zb_ok (zb_ne (off := 8) (by decide +kernel) (by decide +kernel))) ?_
  refine zap (zi_mono _ _) (zi_ok (zg_iload (by decide +kernel))) ?_
  refine zap (zb_mono _ _) (zb_ok (zb_eq (off := 11) (by decide +kernel) (by decide +kernel))) ?_
  refine zap (zi_mono _ _) (zi_ok (zg_aload_n (j := 0) (by decide +kernel) rfl)) ?_
  refine zap (zi_mono _ _) (zi_ok (zg_bipush (n := 8) (by decide +kernel) (by decide +kernel))) ?_
  refine zap (zput_mono _ _ _) (zput_ok (index := 152) (C := RC9) (ref := "VectorLanguageModel") (T := FC9) (NN := 33) tC9 (by decide +kernel) rfl iC9 tC9_ok nC9 (by decide +kernel) (zin 782 (by decide +kernel) rfl) rfl (Or.inl rfl) rfl) ?_
  refine zap (zi_mono _ _) (zi_ok (zg_iconst (n := -1) (by decide +kernel) (by decide +kernel))) ?_
  refine zap (zretI_mono) (zretI_ok (by decide +kernel) rfl) ?_
  refine zap (zi_mono _ _) (zi_ok (zg_iconst (n := 0) (by decide +kernel) (by decide +kernel))) ?_
  refine zap (zi_mono _ _) (zi_ok (zg_istore (by decide +kernel) (by decide +kernel))) ?_
  refine zap (zi_mono _ _) (zi_ok (zg_iconst (n := 0) (by decide +kernel) (by decide +kernel))) ?_
  refine zap (zi_mono _ _) (zi_ok (zg_istore (by decide +kernel) (by decide +kernel))) ?_
  refine zap (zi_mono _ _) (zi_ok (zg_iload_n (j := 3) (by decide +kernel) rfl)) ?_
  refine zap (zb_mono _ _) (zb_ok (zb_eq (off := 44) (by decide +kernel) (by decide +kernel))) ?_
  refine zap (zi_mono _ _) (zi_ok (zg_iload (by decide +kernel))) ?_
  refine zap (zi_mono _ _) (zi_ok (zg_iload_n (j := 2) (by decide +kernel) rfl)) ?_
  refine zap (zb_mono _ _) (zb_ok (zb_ige (off := 38) (by decide +kernel) (by decide +kernel))) ?_
  refine zap (zi_mono _ _) (zi_ok (zg_aload_n (j := 0) (by decide +kernel) rfl)) ?_
  refine zap (zi_mono _ _) (zi_ok (zg_iload_n (j := 1) (by decide +kernel) rfl)) ?_
  refine zap (zi_mono _ _) (zi_ok (zg_iload (by decide +kernel))) ?_
  refine zap (zi_mono _ _) (zi_ok (zg_iconst (n := 1) (by decide +kernel) (by decide +kernel))) ?_
  refine zap (zi_mono _ _) (zi_ok (zg_iadd (by decide +kernel))) ?_
  refine zap (zcV_mono _ _ _ _) (zcV_ok znst_st (μ' := 115) (na := 2) (ci := 9) (index := 161) (q := (RC9, FC9, 33)) (by decide +kernel) (by decide +kernel) rfl (zgV (zin 965 (by decide +kernel) rfl) (zin 967 (by decide +kernel) rfl) (zsel 57 (by decide +kernel) rfl) (zin 9 (by decide +kernel) rfl) (zin 968 (by decide +kernel) rfl)) (by decide +kernel) (by decide +kernel)) ?_
  refine zap (zb_mono _ _) (zb_ok (zb_eq (off := 6) (by decide +kernel) (by decide +kernel))) ?_
  refine zap (zj_mono _) (zj_ok (off := 17) (by decide +kernel) (by decide +kernel)) ?_
  refine zap (zi_mono _ _) (zi_ok (zg_aload_n (j := 0) (by decide +kernel) rfl)) ?_
  refine zap (zget_mono _ _) (zget_ok (index := 76) (C := RC9) (ref := "VectorLanguageModel") (T := FC9) (NN := 33) (by decide +kernel) rfl iC9 (by decide +kernel) (zin 785 (by decide +kernel) rfl) rfl) ?_
  refine zap (zi_mono _ _) (zi_ok (zg_iload (by decide +kernel))) ?_
  refine zap (zi_mono _ _) (zi_ok (zg_iload (by decide +kernel))) ?_
  refine zap (zi_mono _ _) (zi_ok (zg_iconst (n := 1) (by decide +kernel) (by decide +kernel))) ?_
  refine zap (zi_mono _ _) (zi_ok (zg_iadd (by decide +kernel))) ?_
  refine zap (ziast_mono _) (ziast_ok (by decide +kernel)) ?_
  refine zap (zi_mono _ _) (zi_ok (zg_iinc (n := 1) (by decide +kernel) (by decide +kernel) (by decide +kernel))) ?_
  refine zap (zi_mono _ _) (zi_ok (zg_iinc (n := 1) (by decide +kernel) (by decide +kernel) (by decide +kernel))) ?_
  refine zap (zj_mono _) (zj_ok (off := -42) (by decide +kernel) (by decide +kernel)) ?_
  refine zap (zi_mono _ _) (zi_ok (zg_iconst (n := 0) (by decide +kernel) (by decide +kernel))) ?_
  refine zap (zi_mono _ _) (zi_ok (zg_istore (by decide +kernel) (by decide +kernel))) ?_
  refine zap (zi_mono _ _) (zi_ok (zg_iload_n (j := 3) (by decide +kernel) rfl)) ?_
  refine zap (zb_mono _ _) (zb_ok (zb_ne (off := 74) (by decide +kernel) (by decide +kernel))) ?_
  refine zap (zi_mono _ _) (zi_ok (zg_iload (by decide +kernel))) ?_
  refine zap (zi_mono _ _) (zi_ok (zg_aload_n (j := 0) (by decide +kernel) rfl)) ?_
  refine zap (zget_mono _ _) (zget_ok (index := 26) (C := RC9) (ref := "VectorLanguageModel") (T := FC9) (NN := 33) (by decide +kernel) rfl iC9 (by decide +kernel) (zin 760 (by decide +kernel) rfl) rfl) ?_
  refine zap (zi_mono _ _) (zi_ok (zg_iload_n (j := 1) (by decide +kernel) rfl)) ?_
  refine zap (ziald_mono _) (ziald_ok (by decide +kernel)) ?_
  refine zap (zb_mono _ _) (zb_ok (zb_ige (off := 63) (by decide +kernel) (by decide +kernel))) ?_
  refine zap (zi_mono _ _) (zi_ok (zg_aload_n (j := 0) (by decide +kernel) rfl)) ?_
  refine zap (zi_mono _ _) (zi_ok (zg_iload_n (j := 1) (by decide +kernel) rfl)) ?_
  refine zap (zi_mono _ _) (zi_ok (zg_iload (by decide +kernel))) ?_
  refine zap (zcV_mono _ _ _ _) (zcV_ok znst_st (μ' := 114) (na := 2) (ci := 9) (index := 138) (q := (RC9, FC9, 33)) (by decide +kernel) (by decide +kernel) rfl (zgV (zin 961 (by decide +kernel) rfl) (zin 963 (by decide +kernel) rfl) (zsel 56 (by decide +kernel) rfl) (zin 9 (by decide +kernel) rfl) (zin 964 (by decide +kernel) rfl)) (by decide +kernel) (by decide +kernel)) ?_
  refine zap (zi_mono _ _) (zi_ok (zg_istore (by decide +kernel) (by decide +kernel))) ?_
  refine zap (zi_mono _ _) (zi_ok (zg_iload (by decide +kernel))) ?_
  refine zap (zb_mono _ _) (zb_ok (zb_ne (off := 6) (by decide +kernel) (by decide +kernel))) ?_
  refine zap (zj_mono _) (zj_ok (off := 40) (by decide +kernel) (by decide +kernel)) ?_
  refine zap (zi_mono _ _) (zi_ok (zg_aload_n (j := 0) (by decide +kernel) rfl)) ?_
  refine zap (zget_mono _ _) (zget_ok (index := 76) (C := RC9) (ref := "VectorLanguageModel") (T := FC9) (NN := 33) (by decide +kernel) rfl iC9 (by decide +kernel) (zin 785 (by decide +kernel) rfl) rfl) ?_
  refine zap (zi_mono _ _) (zi_ok (zg_iload (by decide +kernel))) ?_
  refine zap (zi_mono _ _) (zi_ok (zg_iload (by decide +kernel))) ?_
  refine zap (zi_mono _ _) (zi_ok (zg_ldc (index := 129) (by decide +kernel) (zin 928 (by decide +kernel) rfl))) ?_
  refine zap (zb_mono _ _) (zb_ok (zb_ine (off := 7) (by decide +kernel) (by decide +kernel))) ?_
  refine zap (zi_mono _ _) (zi_ok (zg_iconst (n := 0) (by decide +kernel) (by decide +kernel))) ?_
  refine zap (zj_mono _) (zj_ok (off := 19) (by decide +kernel) (by decide +kernel)) ?_
  refine zap (zi_mono _ _) (zi_ok (zg_iload (by decide +kernel))) ?_
  refine zap (zi_mono _ _) (zi_ok (zg_sipush (n := 1000) (by decide +kernel) (by decide +kernel))) ?_
  refine zap (zb_mono _ _) (zb_ok (zb_ile (off := 9) (by decide +kernel) (by decide +kernel))) ?_
  refine zap (zi_mono _ _) (zi_ok (zg_sipush (n := 1000) (by decide +kernel) (by decide +kernel))) ?_
  refine zap (zj_mono _) (zj_ok (off := 5) (by decide +kernel) (by decide +kernel)) ?_
  refine zap (zi_mono _ _) (zi_ok (zg_iload (by decide +kernel))) ?_
  refine zap (ziast_mono _) (ziast_ok (by decide +kernel)) ?_
  refine zap (zi_mono _ _) (zi_ok (zg_iinc (n := 1) (by decide +kernel) (by decide +kernel) (by decide +kernel))) ?_
  refine zap (zi_mono _ _) (zi_ok (zg_iinc (n := 1) (by decide +kernel) (by decide +kernel) (by decide +kernel))) ?_
  refine zap (zj_mono _) (zj_ok (off := -72) (by decide +kernel) (by decide +kernel)) ?_
  refine zap (zi_mono _ _) (zi_ok (zg_iload (by decide +kernel))) ?_
  refine zap (zretI_mono) (zretI_ok (by decide +kernel) rfl) ?_
  exact zn
/-- VectorLanguageModel.at(II)I -/
def tb114 (tys : List (ClassId × FieldType)) : List (Nat × (zP → zP)) := [(0, zi (gAl 0) 1), (1, zget 9 6), (4, zi (gC (.int (8))) 2), (6, zi (gIl 1) 1), (7, zi (gII (fun x y => x * y)) 1), (8, zi (gIl 2) 1), (9, zi (gC (.int (2))) 1), (10, zdv (fun x y => x / y)), (11, zi (gII (fun x y => x + y)) 1), (12, zlald tys), (13, zi (gC (.int (32))) 2), (15, zi (gIl 2) 1), (16, zi (gC (.int (2))) 1), (17, zdv (fun x y => x - x / y * y)), (18, zi (gII (fun x y => x * y)) 1), (19, zi (gLI (fun x y => x >>> (y.toInt64 &&& 63))) 1), (20, zi (gL2i) 1), (21, zretI)]
set_option maxRecDepth 100000 in
theorem ok114 (l : Launch) (D : va_G) (dA : Nat → ClassId) (b0 : Nat) : ∀ q ∈ tb114 (ztys dA), zOK l D dA b0 114 q.1 q.2 := by
  refine zap (zi_mono _ _) (zi_ok (zg_aload_n (j := 0) (by decide +kernel) rfl)) ?_
  refine zap (zget_mono _ _) (zget_ok (index := 22) (C := RC9) (ref := "VectorLanguageModel") (T := FC9) (NN := 33) (by decide +kernel) rfl iC9 (by decide +kernel) (zin 759 (by decide +kernel) rfl) rfl) ?_
  refine zap (zi_mono _ _) (zi_ok (zg_bipush (n := 8) (by decide +kernel) (by decide +kernel))) ?_
  refine zap (zi_mono _ _) (zi_ok (zg_iload_n (j := 1) (by decide +kernel) rfl)) ?_
  refine zap (zi_mono _ _) (zi_ok (zg_imul (by decide +kernel))) ?_
  refine zap (zi_mono _ _) (zi_ok (zg_iload_n (j := 2) (by decide +kernel) rfl)) ?_
  refine zap (zi_mono _ _) (zi_ok (zg_iconst (n := 2) (by decide +kernel) (by decide +kernel))) ?_
  refine zap (zdv_mono _) (zdv_div (by decide +kernel)) ?_
  refine zap (zi_mono _ _) (zi_ok (zg_iadd (by decide +kernel))) ?_
  refine zap (zlald_mono _) (zlald_ok (by decide +kernel)) ?_
  refine zap (zi_mono _ _) (zi_ok (zg_bipush (n := 32) (by decide +kernel) (by decide +kernel))) ?_
  refine zap (zi_mono _ _) (zi_ok (zg_iload_n (j := 2) (by decide +kernel) rfl)) ?_
  refine zap (zi_mono _ _) (zi_ok (zg_iconst (n := 2) (by decide +kernel) (by decide +kernel))) ?_
  refine zap (zdv_mono _) (zdv_rem (by decide +kernel)) ?_
  refine zap (zi_mono _ _) (zi_ok (zg_imul (by decide +kernel))) ?_
  refine zap (zi_mono _ _) (zi_ok (zg_lshr (by decide +kernel))) ?_
  refine zap (zi_mono _ _) (zi_ok (zg_l2i (by decide +kernel))) ?_
  refine zap (zretI_mono) (zretI_ok (by decide +kernel) rfl) ?_
  exact zn
/-- VectorLanguageModel.leaves(II)Z -/
def tb115 (tys : List (ClassId × FieldType)) : List (Nat × (zP → zP)) := [(0, zi (gC (.int (0))) 1), (1, zi (gIs 3) 1), (2, zi (gIl 3) 1), (3, zi (gAl 0) 1), (4, zget 9 7), (7, zi (gIl 1) 1), (8, ziald tys), (9, zb (c2 (fun x y => y ≤ x)) 31), (12, zi (gAl 0) 1), (13, zi (gIl 1) 1), (14, zi (gIl 3) 1), (15, zcV 3 114 2 9), (18, zi (gIl 2) 1), (19, zi (gIneg) 1), (20, zb (c2 (fun x y => ¬ x = y)) 25), (23, zi (gC (.int (1))) 1), (24, zretZ), (25, zi (gIinc 3 (1)) 3), (28, zj 2), (31, zi (gC (.int (0))) 1), (32, zretZ)]
set_option maxRecDepth 100000 in
theorem ok115 (l : Launch) (D : va_G) (dA : Nat → ClassId) (b0 : Nat) : ∀ q ∈ tb115 (ztys dA), zOK l D dA b0 115 q.1 q.2 := by
  refine zap (zi_mono _ _) (zi_ok (zg_iconst (n := 0) (by decide +kernel) (by decide +kernel))) ?_
  refine zap (zi_mono _ _) (zi_ok (zg_istore_n (j := 3) (by decide +kernel) rfl (by decide +kernel))) ?_
  refine zap (zi_mono _ _) (zi_ok (zg_iload_n (j := 3) (by decide +kernel) rfl)) ?_
  refine zap (zi_mono _ _) (zi_ok (zg_aload_n (j := 0) (by decide +kernel) rfl)) ?_
  refine zap (zget_mono _ _) (zget_ok (index := 26) (C := RC9) (ref := "VectorLanguageModel") (T := FC9) (NN := 33) (by decide +kernel) rfl iC9 (by decide +kernel) (zin 760 (by decide +kernel) rfl) rfl) ?_
  refine zap (zi_mono _ _) (zi_ok (zg_iload_n (j := 1) (by decide +kernel) rfl)) ?_
  refine zap (ziald_mono _) (ziald_ok (by decide +kernel)) ?_
  refine zap (zb_mono _ _) (zb_ok (zb_ige (off := 22) (by decide +kernel) (by decide +kernel))) ?_
  refine zap (zi_mono _ _) (zi_ok (zg_aload_n (j := 0) (by decide +kernel) rfl)) ?_
  refine zap (zi_mono _ _) (zi_ok (zg_iload_n (j := 1) (by decide +kernel) rfl)) ?_
  refine zap (zi_mono _ _) (zi_ok (zg_iload_n (j := 3) (by decide +kernel) rfl)) ?_
  refine zap (zcV_mono _ _ _ _) (zcV_ok znst_st (μ' := 114) (na := 2) (ci := 9) (index := 138) (q := (RC9, FC9, 33)) (by decide +kernel) (by decide +kernel) rfl (zgV (zin 961 (by decide +kernel) rfl) (zin 963 (by decide +kernel) rfl) (zsel 56 (by decide +kernel) rfl) (zin 9 (by decide +kernel) rfl) (zin 964 (by decide +kernel) rfl)) (by decide +kernel) (by decide +kernel)) ?_
  refine zap (zi_mono _ _) (zi_ok (zg_iload_n (j := 2) (by decide +kernel) rfl)) ?_
  refine zap (zi_mono _ _) (zi_ok (zg_ineg (by decide +kernel))) ?_
  refine zap (zb_mono _ _) (zb_ok (zb_ine (off := 5) (by decide +kernel) (by decide +kernel))) ?_
  refine zap (zi_mono _ _) (zi_ok (zg_iconst (n := 1) (by decide +kernel) (by decide +kernel))) ?_
  refine zap (zretZ_mono) (zretZ_ok (by decide +kernel) rfl) ?_
  refine zap (zi_mono _ _) (zi_ok (zg_iinc (n := 1) (by decide +kernel) (by decide +kernel) (by decide +kernel))) ?_
  refine zap (zj_mono _) (zj_ok (off := -26) (by decide +kernel) (by decide +kernel)) ?_
  refine zap (zi_mono _ _) (zi_ok (zg_iconst (n := 0) (by decide +kernel) (by decide +kernel))) ?_
  refine zap (zretZ_mono) (zretZ_ok (by decide +kernel) rfl) ?_
  exact zn
/-- VectorLanguageModel.condition(II)V -/
def tb116 (tys : List (ClassId × FieldType)) : List (Nat × (zP → zP)) := [(0, zi (gAl 0) 1), (1, zget 9 21), (4, zi (gIl 1) 1), (5, ziald tys), (6, zi (gIs 3) 1), (7, zi (gIl 3) 1), (8, zb (c1 (fun x => ¬ x = 0)) 30), (11, zi (gAl 0) 1), (12, zi (gAl 0) 1), (13, zget 9 2), (16, zi (gIl 2) 1), (17, ziald tys), (18, zi (gAl 0) 1), (19, zget 9 20), (22, zi (gIl 1) 1), (23, ziald tys), (24, zcV 3 95 2 9), (27, zj 156), (30, zi (gIl 3) 1), (31, zi (gC (.int (2))) 1), (32, zb (c2 (fun x y => ¬ x = y)) 56), (35, zi (gAl 0) 1), (36, zget 9 1), (39, zi (gIl 2) 1), (40, ziald tys), (41, zi (gC (.int (17))) 2), (43, zb (c2 (fun x y => ¬ x = y)) 56), (46, zi (gAl 0) 1), (47, zget 9 21), (50, zi (gIl 1) 1), (51, zi (gC (.int (0))) 1), (52, ziast tys), (53, zj 156), (56, zi (gIl 3) 1), (57, zi (gC (.int (2))) 1), (58, zb (c2 (fun x y => ¬ x = y)) 74), (61, zi (gAl 0) 1), (62, zi (gAl 0) 1), (63, zget 9 23), (66, zi (gIl 1) 1), (67, ziald tys), (68, zcV 3 105 1 9), (71, zj 156), (74, zi (gAl 0) 1), (75, zi (gAl 0) 1), (76, zget 9 22), (79, zi (gIl 1) 1), (80, ziald tys), (81, zcV 2 117 1 9), (84, zi (gIs 4) 2), (86, zi (gAl 0) 1), (87, zget 9 29), (90, zb (c1 (fun x => x = 0)) 94), (93, zretV), (94, zi (gIl 4) 2), (96, zb (c1 (fun x => x = 0)) 108), (99, zi (gAl 0) 1), (100, zget 9 3), (103, zi (gIl 2) 1), (104, ziald tys), (105, zj 129), (108, zi (gAl 0) 1), (109, zget 9 1), (112, zi (gIl 2) 1), (113, ziald tys), (114, zi (gC (.int (16))) 2), (116, zb (c2 (fun x y => ¬ x = y)) 128), (119, zi (gAl 0) 1), (120, zget 9 4), (123, zi (gIl 2) 1), (124, ziald tys), (125, zj 129), (128, zi (gC (.int (-1))) 1), (129, zi (gIs 5) 2), (131, zi (gIl 5) 2), (133, zb (c1 (fun x => 0 ≤ x)) 144), (136, zi (gAl 0) 1), (137, zi (gC (.int (0))) 1), (138, zcV 3 105 1 9), (141, zj 156), (144, zi (gAl 0) 1), (145, zi (gIl 5) 2), (147, zi (gAl 0) 1), (148, zget 9 20), (151, zi (gIl 1) 1), (152, ziald tys), (153, zcV 3 95 2 9), (156, zretV)]
set_option maxRecDepth 100000 in
theorem ok116 (l : Launch) (D : va_G) (dA : Nat → ClassId) (b0 : Nat) : ∀ q ∈ tb116 (ztys dA), zOK l D dA b0 116 q.1 q.2 := by
  refine zap (zi_mono _ _) (zi_ok (zg_aload_n (j := 0) (by decide +kernel) rfl)) ?_
  refine zap (zget_mono _ _) (zget_ok (index := 60) (C := RC9) (ref := "VectorLanguageModel") (T := FC9) (NN := 33) (by decide +kernel) rfl iC9 (by decide +kernel) (zin 774 (by decide +kernel) rfl) rfl) ?_
  refine zap (zi_mono _ _) (zi_ok (zg_iload_n (j := 1) (by decide +kernel) rfl)) ?_
  refine zap (ziald_mono _) (ziald_ok (by decide +kernel)) ?_
  refine zap (zi_mono _ _) (zi_ok (zg_istore_n (j := 3) (by decide +kernel) rfl (by decide +kernel))) ?_
  refine zap (zi_mono _ _) (zi_ok (zg_iload_n (j := 3) (by decide +kernel) rfl)) ?_
  refine zap (zb_mono _ _) (zb_ok (zb_ne (off := 22) (by decide +kernel) (by decide +kernel))) ?_
  refine zap (zi_mono _ _) (zi_ok (zg_aload_n (j := 0) (by decide +kernel) rfl)) ?_
  refine zap (zi_mono _ _) (zi_ok (zg_aload_n (j := 0) (by decide +kernel) rfl)) ?_
  refine zap (zget_mono _ _) (zget_ok (index := 13) (C := RC9) (ref := "VectorLanguageModel") (T := FC9) (NN := 33) (by decide +kernel) rfl iC9 (by decide +kernel) (zin 755 (by decide +kernel) rfl) rfl) ?_
  refine zap (zi_mono _ _) (zi_ok (zg_iload_n (j := 2) (by decide +kernel) rfl)) ?_
  refine zap (ziald_mono _) (ziald_ok (by decide +kernel)) ?_
  refine zap (zi_mono _ _) (zi_ok (zg_aload_n (j := 0) (by decide +kernel) rfl)) ?_
  refine zap (zget_mono _ _) (zget_ok (index := 57) (C := RC9) (ref := "VectorLanguageModel") (T := FC9) (NN := 33) (by decide +kernel) rfl iC9 (by decide +kernel) (zin 773 (by decide +kernel) rfl) rfl) ?_
  refine zap (zi_mono _ _) (zi_ok (zg_iload_n (j := 1) (by decide +kernel) rfl)) ?_
  refine zap (ziald_mono _) (ziald_ok (by decide +kernel)) ?_
  refine zap (zcV_mono _ _ _ _) (zcV_ok znst_st (μ' := 95) (na := 2) (ci := 9) (index := 180) (q := (RC9, FC9, 33)) (by decide +kernel) (by decide +kernel) rfl (zgV (zin 884 (by decide +kernel) rfl) (zin 886 (by decide +kernel) rfl) (zsel 38 (by decide +kernel) rfl) (zin 9 (by decide +kernel) rfl) (zin 887 (by decide +kernel) rfl)) (by decide +kernel) (by decide +kernel)) ?_
  refine zap (zj_mono _) (zj_ok (off := 129) (by decide +kernel) (by decide +kernel)) ?_
  refine zap (zi_mono _ _) (zi_ok (zg_iload_n (j := 3) (by decide +kernel) rfl)) ?_
  refine zap (zi_mono _ _) (zi_ok (zg_iconst (n := 2) (by decide +kernel) (by decide +kernel))) ?_
  refine zap (zb_mono _ _) (zb_ok (zb_ine (off := 24) (by decide +kernel) (by decide +kernel))) ?_
  refine zap (zi_mono _ _) (zi_ok (zg_aload_n (j := 0) (by decide +kernel) rfl)) ?_
  refine zap (zget_mono _ _) (zget_ok (index := 7) (C := RC9) (ref := "VectorLanguageModel") (T := FC9) (NN := 33) (by decide +kernel) rfl iC9 (by decide +kernel) (zin 754 (by decide +kernel) rfl) rfl) ?_
  refine zap (zi_mono _ _) (zi_ok (zg_iload_n (j := 2) (by decide +kernel) rfl)) ?_
  refine zap (ziald_mono _) (ziald_ok (by decide +kernel)) ?_
  refine zap (zi_mono _ _) (zi_ok (zg_bipush (n := 17) (by decide +kernel) (by decide +kernel))) ?_
  refine zap (zb_mono _ _) (zb_ok (zb_ine (off := 13) (by decide +kernel) (by decide +kernel))) ?_
  refine zap (zi_mono _ _) (zi_ok (zg_aload_n (j := 0) (by decide +kernel) rfl)) ?_
  refine zap (zget_mono _ _) (zget_ok (index := 60) (C := RC9) (ref := "VectorLanguageModel") (T := FC9) (NN := 33) (by decide +kernel) rfl iC9 (by decide +kernel) (zin 774 (by decide +kernel) rfl) rfl) ?_
  refine zap (zi_mono _ _) (zi_ok (zg_iload_n (j := 1) (by decide +kernel) rfl)) ?_
  refine zap (zi_mono _ _) (zi_ok (zg_iconst (n := 0) (by decide +kernel) (by decide +kernel))) ?_
  refine zap (ziast_mono _) (ziast_ok (by decide +kernel)) ?_
  refine zap (zj_mono _) (zj_ok (off := 103) (by decide +kernel) (by decide +kernel)) ?_
  refine zap (zi_mono _ _) (zi_ok (zg_iload_n (j := 3) (by decide +kernel) rfl)) ?_
  refine zap (zi_mono _ _) (zi_ok (zg_iconst (n := 2) (by decide +kernel) (by decide +kernel))) ?_
  refine zap (zb_mono _ _) (zb_ok (zb_ine (off := 16) (by decide +kernel) (by decide +kernel))) ?_
  refine zap (zi_mono _ _) (zi_ok (zg_aload_n (j := 0) (by decide +kernel) rfl)) ?_
  refine zap (zi_mono _ _) (zi_ok (zg_aload_n (j := 0) (by decide +kernel) rfl)) ?_
  refine zap (zget_mono _ _) (zget_ok (index := 66) (C := RC9) (ref := "VectorLanguageModel") (T := FC9) (NN := 33) (by decide +kernel) rfl iC9 (by decide +kernel) (zin 776 (by decide +kernel) rfl) rfl) ?_
  refine zap (zi_mono _ _) (zi_ok (zg_iload_n (j := 1) (by decide +kernel) rfl)) ?_
  refine zap (ziald_mono _) (ziald_ok (by decide +kernel)) ?_
  refine zap (zcV_mono _ _ _ _) (zcV_ok znst_st (μ' := 105) (na := 1) (ci := 9) (index := 188) (q := (RC9, FC9, 33)) (by decide +kernel) (by decide +kernel) rfl (zgV (zin 924 (by decide +kernel) rfl) (zin 926 (by decide +kernel) rfl) (zsel 47 (by decide +kernel) rfl) (zin 9 (by decide +kernel) rfl) (zin 927 (by decide +kernel) rfl)) (by decide +kernel) (by decide +kernel)) ?_
  refine zap (zj_mono _) (zj_ok (off := 85) (by decide +kernel) (by decide +kernel)) ?_
  refine zap (zi_mono _ _) (zi_ok (zg_aload_n (j := 0) (by decide +kernel) rfl)) ?_
  refine zap (zi_mono _ _) (zi_ok (zg_aload_n (j := 0) (by decide +kernel) rfl)) ?_
  refine zap (zget_mono _ _) (zget_ok (index := 63) (C := RC9) (ref := "VectorLanguageModel") (T := FC9) (NN := 33) (by decide +kernel) rfl iC9 (by decide +kernel) (zin 775 (by decide +kernel) rfl) rfl) ?_
  refine zap (zi_mono _ _) (zi_ok (zg_iload_n (j := 1) (by decide +kernel) rfl)) ?_
  refine zap (ziald_mono _) (ziald_ok (by decide +kernel)) ?_
  refine zap (zcV_mono _ _ _ _) (zcV_ok znst_st (μ' := 117) (na := 1) (ci := 9) (index := 234) (q := (RC9, FC9, 33)) (by decide +kernel) (by decide +kernel) rfl (zgV (zin 973 (by decide +kernel) rfl) (zin 975 (by decide +kernel) rfl) (zsel 59 (by decide +kernel) rfl) (zin 9 (by decide +kernel) rfl) (zin 976 (by decide +kernel) rfl)) (by decide +kernel) (by decide +kernel)) ?_
  refine zap (zi_mono _ _) (zi_ok (zg_istore (by decide +kernel) (by decide +kernel))) ?_
  refine zap (zi_mono _ _) (zi_ok (zg_aload_n (j := 0) (by decide +kernel) rfl)) ?_
  refine zap (zget_mono _ _) (zget_ok (index := 152) (C := RC9) (ref := "VectorLanguageModel") (T := FC9) (NN := 33) (by decide +kernel) rfl iC9 (by decide +kernel) (zin 782 (by decide +kernel) rfl) rfl) ?_
  refine zap (zb_mono _ _) (zb_ok (zb_eq (off := 4) (by decide +kernel) (by decide +kernel))) ?_
  refine zap (zretV_mono) (zretV_ok (by decide +kernel) rfl) ?_
  refine zap (zi_mono _ _) (zi_ok (zg_iload (by decide +kernel))) ?_
  refine zap (zb_mono _ _) (zb_ok (zb_eq (off := 12) (by decide +kernel) (by decide +kernel))) ?_
  refine zap (zi_mono _ _) (zi_ok (zg_aload_n (j := 0) (by decide +kernel) rfl)) ?_
  refine zap (zget_mono _ _) (zget_ok (index := 16) (C := RC9) (ref := "VectorLanguageModel") (T := FC9) (NN := 33) (by decide +kernel) rfl iC9 (by decide +kernel) (zin 756 (by decide +kernel) rfl) rfl) ?_
  refine zap (zi_mono _ _) (zi_ok (zg_iload_n (j := 2) (by decide +kernel) rfl)) ?_
  refine zap (ziald_mono _) (ziald_ok (by decide +kernel)) ?_
  refine zap (zj_mono _) (zj_ok (off := 24) (by decide +kernel) (by decide +kernel)) ?_
  refine zap (zi_mono _ _) (zi_ok (zg_aload_n (j := 0) (by decide +kernel) rfl)) ?_
  refine zap (zget_mono _ _) (zget_ok (index := 7) (C := RC9) (ref := "VectorLanguageModel") (T := FC9) (NN := 33) (by decide +kernel) rfl iC9 (by decide +kernel) (zin 754 (by decide +kernel) rfl) rfl) ?_
  refine zap (zi_mono _ _) (zi_ok (zg_iload_n (j := 2) (by decide +kernel) rfl)) ?_
  refine zap (ziald_mono _) (ziald_ok (by decide +kernel)) ?_
  refine zap (zi_mono _ _) (zi_ok (zg_bipush (n := 16) (by decide +kernel) (by decide +kernel))) ?_
  refine zap (zb_mono _ _) (zb_ok (zb_ine (off := 12) (by decide +kernel) (by decide +kernel))) ?_
  refine zap (zi_mono _ _) (zi_ok (zg_aload_n (j := 0) (by decide +kernel) rfl)) ?_
  refine zap (zget_mono _ _) (zget_ok (index := 19) (C := RC9) (ref := "VectorLanguageModel") (T := FC9) (NN := 33) (by decide +kernel) rfl iC9 (by decide +kernel) (zin 757 (by decide +kernel) rfl) rfl) ?_
  refine zap (zi_mono _ _) (zi_ok (zg_iload_n (j := 2) (by decide +kernel) rfl)) ?_
  refine zap (ziald_mono _) (ziald_ok (by decide +kernel)) ?_
  refine zap (zj_mono _) (zj_ok (off := 4) (by decide +kernel) (by decide +kernel)) ?_
  refine zap (zi_mono _ _) (zi_ok (zg_iconst (n := -1) (by decide +kernel) (by decide +kernel))) ?_
  refine zap (zi_mono _ _) (zi_ok (zg_istore (by decide +kernel) (by decide +kernel))) ?_
  refine zap (zi_mono _ _) (zi_ok (zg_iload (by decide +kernel))) ?_
  refine zap (zb_mono _ _) (zb_ok (zb_ge (off := 11) (by decide +kernel) (by decide +kernel))) ?_
  refine zap (zi_mono _ _) (zi_ok (zg_aload_n (j := 0) (by decide +kernel) rfl)) ?_
  refine zap (zi_mono _ _) (zi_ok (zg_iconst (n := 0) (by decide +kernel) (by decide +kernel))) ?_
  refine zap (zcV_mono _ _ _ _) (zcV_ok znst_st (μ' := 105) (na := 1) (ci := 9) (index := 188) (q := (RC9, FC9, 33)) (by decide +kernel) (by decide +kernel) rfl (zgV (zin 924 (by decide +kernel) rfl) (zin 926 (by decide +kernel) rfl) (zsel 47 (by decide +kernel) rfl) (zin 9 (by decide +kernel) rfl) (zin 927 (by decide +kernel) rfl)) (by decide +kernel) (by decide +kernel)) ?_
  refine zap (zj_mono _) (zj_ok (off := 15) (by decide +kernel) (by decide +kernel)) ?_
  refine zap (zi_mono _ _) (zi_ok (zg_aload_n (j := 0) (by decide +kernel) rfl)) ?_
  refine zap (zi_mono _ _) (zi_ok (zg_iload (by decide +kernel))) ?_
  refine zap (zi_mono _ _) (zi_ok (zg_aload_n (j := 0) (by decide +kernel) rfl)) ?_
  refine zap (zget_mono _ _) (zget_ok (index := 57) (C := RC9) (ref := "VectorLanguageModel") (T := FC9) (NN := 33) (by decide +kernel) rfl iC9 (by decide +kernel) (zin 773 (by decide +kernel) rfl) rfl) ?_
  refine zap (zi_mono _ _) (zi_ok (zg_iload_n (j := 1) (by decide +kernel) rfl)) ?_
  refine zap (ziald_mono _) (ziald_ok (by decide +kernel)) ?_
  refine zap (zcV_mono _ _ _ _) (zcV_ok znst_st (μ' := 95) (na := 2) (ci := 9) (index := 180) (q := (RC9, FC9, 33)) (by decide +kernel) (by decide +kernel) rfl (zgV (zin 884 (by decide +kernel) rfl) (zin 886 (by decide +kernel) rfl) (zsel 38 (by decide +kernel) rfl) (zin 9 (by decide +kernel) rfl) (zin 887 (by decide +kernel) rfl)) (by decide +kernel) (by decide +kernel)) ?_
  refine zap (zretV_mono) (zretV_ok (by decide +kernel) rfl) ?_
  exact zn
/-- VectorLanguageModel.holds(I)Z -/
def tb117 (tys : List (ClassId × FieldType)) : List (Nat × (zP → zP)) := [(0, zi (gAl 0) 1), (1, zget 9 7), (4, zi (gIl 1) 1), (5, ziald tys), (6, zb (c1 (fun x => 0 ≤ x)) 14), (9, zi (gAl 0) 1), (10, zi (gC (.int (3))) 1), (11, zput (.int) 9 29), (14, zi (gAl 0) 1), (15, zget 9 7), (18, zi (gIl 1) 1), (19, ziald tys), (20, zb (c1 (fun x => x = 0)) 43), (23, zi (gAl 0) 1), (24, zget 9 7), (27, zi (gIl 1) 1), (28, ziald tys), (29, zb (c1 (fun x => x ≤ 0)) 49), (32, zi (gAl 0) 1), (33, zi (gIl 1) 1), (34, zi (gC (.int (0))) 1), (35, zcV 3 114 2 9), (38, zi (gC (.int (-2147483648))) 2), (40, zb (c2 (fun x y => ¬ x = y)) 49), (43, zi (gAl 0) 1), (44, zi (gC (.int (7))) 2), (46, zput (.int) 9 29), (49, zi (gAl 0) 1), (50, zget 9 29), (53, zb (c1 (fun x => ¬ x = 0)) 69), (56, zi (gAl 0) 1), (57, zi (gIl 1) 1), (58, zi (gC (.int (0))) 1), (59, zcV 3 114 2 9), (62, zb (c1 (fun x => x = 0)) 69), (65, zi (gC (.int (1))) 1), (66, zj 70), (69, zi (gC (.int (0))) 1), (70, zretZ)]
set_option maxRecDepth 100000 in
theorem ok117 (l : Launch) (D : va_G) (dA : Nat → ClassId) (b0 : Nat) : ∀ q ∈ tb117 (ztys dA), zOK l D dA b0 117 q.1 q.2 := by
  refine zap (zi_mono _ _) (zi_ok (zg_aload_n (j := 0) (by decide +kernel) rfl)) ?_
  refine zap (zget_mono _ _) (zget_ok (index := 26) (C := RC9) (ref := "VectorLanguageModel") (T := FC9) (NN := 33) (by decide +kernel) rfl iC9 (by decide +kernel) (zin 760 (by decide +kernel) rfl) rfl) ?_
  refine zap (zi_mono _ _) (zi_ok (zg_iload_n (j := 1) (by decide +kernel) rfl)) ?_
  refine zap (ziald_mono _) (ziald_ok (by decide +kernel)) ?_
  refine zap (zb_mono _ _) (zb_ok (zb_ge (off := 8) (by decide +kernel) (by decide +kernel))) ?_
  refine zap (zi_mono _ _) (zi_ok (zg_aload_n (j := 0) (by decide +kernel) rfl)) ?_
  refine zap (zi_mono _ _) (zi_ok (zg_iconst (n := 3) (by decide +kernel) (by decide +kernel))) ?_
  refine zap (zput_mono _ _ _) (zput_ok (index := 152) (C := RC9) (ref := "VectorLanguageModel") (T := FC9) (NN := 33) tC9 (by decide +kernel) rfl iC9 tC9_ok nC9 (by decide +kernel) (zin 782 (by decide +kernel) rfl) rfl (Or.inl rfl) rfl) ?_
  refine zap (zi_mono _ _) (zi_ok (zg_aload_n (j := 0) (by decide +kernel) rfl)) ?_
  refine zap (zget_mono _ _) (zget_ok (index := 26) (C := RC9) (ref := "VectorLanguageModel") (T := FC9) (NN := 33) (by decide +kernel) rfl iC9 (by decide +kernel) (zin 760 (by decide +kernel) rfl) rfl) ?_
  refine zap (zi_mono _ _) (zi_ok (zg_iload_n (j := 1) (by decide +kernel) rfl)) ?_
  refine zap (ziald_mono _) (ziald_ok (by decide +kernel)) ?_
  refine zap (zb_mono _ _) (zb_ok (zb_eq (off := 23) (by decide +kernel) (by decide +kernel))) ?_
  refine zap (zi_mono _ _) (zi_ok (zg_aload_n (j := 0) (by decide +kernel) rfl)) ?_
  refine zap (zget_mono _ _) (zget_ok (index := 26) (C := RC9) (ref := "VectorLanguageModel") (T := FC9) (NN := 33) (by decide +kernel) rfl iC9 (by decide +kernel) (zin 760 (by decide +kernel) rfl) rfl) ?_
  refine zap (zi_mono _ _) (zi_ok (zg_iload_n (j := 1) (by decide +kernel) rfl)) ?_
  refine zap (ziald_mono _) (ziald_ok (by decide +kernel)) ?_
  refine zap (zb_mono _ _) (zb_ok (zb_le (off := 20) (by decide +kernel) (by decide +kernel))) ?_
  refine zap (zi_mono _ _) (zi_ok (zg_aload_n (j := 0) (by decide +kernel) rfl)) ?_
  refine zap (zi_mono _ _) (zi_ok (zg_iload_n (j := 1) (by decide +kernel) rfl)) ?_
  refine zap (zi_mono _ _) (zi_ok (zg_iconst (n := 0) (by decide +kernel) (by decide +kernel))) ?_
  refine zap (zcV_mono _ _ _ _) (zcV_ok znst_st (μ' := 114) (na := 2) (ci := 9) (index := 138) (q := (RC9, FC9, 33)) (by decide +kernel) (by decide +kernel) rfl (zgV (zin 961 (by decide +kernel) rfl) (zin 963 (by decide +kernel) rfl) (zsel 56 (by decide +kernel) rfl) (zin 9 (by decide +kernel) rfl) (zin 964 (by decide +kernel) rfl)) (by decide +kernel) (by decide +kernel)) ?_
  refine zap (zi_mono _ _) (zi_ok (zg_ldc (index := 129) (by decide +kernel) (zin 928 (by decide +kernel) rfl))) ?_
  refine zap (zb_mono _ _) (zb_ok (zb_ine (off := 9) (by decide +kernel) (by decide +kernel))) ?_
  refine zap (zi_mono _ _) (zi_ok (zg_aload_n (j := 0) (by decide +kernel) rfl)) ?_
  refine zap (zi_mono _ _) (zi_ok (zg_bipush (n := 7) (by decide +kernel) (by decide +kernel))) ?_
  refine zap (zput_mono _ _ _) (zput_ok (index := 152) (C := RC9) (ref := "VectorLanguageModel") (T := FC9) (NN := 33) tC9 (by decide +kernel) rfl iC9 tC9_ok nC9 (by decide +kernel) (zin 782 (by decide +kernel) rfl) rfl (Or.inl rfl) rfl) ?_
  refine zap (zi_mono _ _) (zi_ok (zg_aload_n (j := 0) (by decide +kernel) rfl)) ?_
  refine zap (zget_mono _ _) (zget_ok (index := 152) (C := RC9) (ref := "VectorLanguageModel") (T := FC9) (NN := 33) (by decide +kernel) rfl iC9 (by decide +kernel) (zin 782 (by decide +kernel) rfl) rfl) ?_
  refine zap (zb_mono _ _) (zb_ok (zb_ne (off := 16) (by decide +kernel) (by decide +kernel))) ?_
  refine zap (zi_mono _ _) (zi_ok (zg_aload_n (j := 0) (by decide +kernel) rfl)) ?_
  refine zap (zi_mono _ _) (zi_ok (zg_iload_n (j := 1) (by decide +kernel) rfl)) ?_
  refine zap (zi_mono _ _) (zi_ok (zg_iconst (n := 0) (by decide +kernel) (by decide +kernel))) ?_
  refine zap (zcV_mono _ _ _ _) (zcV_ok znst_st (μ' := 114) (na := 2) (ci := 9) (index := 138) (q := (RC9, FC9, 33)) (by decide +kernel) (by decide +kernel) rfl (zgV (zin 961 (by decide +kernel) rfl) (zin 963 (by decide +kernel) rfl) (zsel 56 (by decide +kernel) rfl) (zin 9 (by decide +kernel) rfl) (zin 964 (by decide +kernel) rfl)) (by decide +kernel) (by decide +kernel)) ?_
  refine zap (zb_mono _ _) (zb_ok (zb_eq (off := 7) (by decide +kernel) (by decide +kernel))) ?_
  refine zap (zi_mono _ _) (zi_ok (zg_iconst (n := 1) (by decide +kernel) (by decide +kernel))) ?_
  refine zap (zj_mono _) (zj_ok (off := 4) (by decide +kernel) (by decide +kernel)) ?_
  refine zap (zi_mono _ _) (zi_ok (zg_iconst (n := 0) (by decide +kernel) (by decide +kernel))) ?_
  refine zap (zretZ_mono) (zretZ_ok (by decide +kernel) rfl) ?_
  exact zn
/-- VectorLanguageModel.function(II)V -/
def tb118 (tys : List (ClassId × FieldType)) : List (Nat × (zP → zP)) := [(0, zi (gAl 0) 1), (1, zi (gC (.int (-1))) 1), (2, zcV 3 101 1 9), (5, zi (gIs 3) 1), (6, zi (gAl 0) 1), (7, zget 9 6), (10, zi (gC (.int (8))) 2), (12, zi (gIl 3) 1), (13, zi (gII (fun x y => x * y)) 1), (14, zi (gIl 1) 1), (15, zi (gI2l) 1), (16, zlast tys), (17, zi (gAl 0) 1), (18, zget 9 6), (21, zi (gC (.int (8))) 2), (23, zi (gIl 3) 1), (24, zi (gII (fun x y => x * y)) 1), (25, zi (gC (.int (1))) 1), (26, zi (gII (fun x y => x + y)) 1), (27, zi (gIl 2) 1), (28, zi (gI2l) 1), (29, zlast tys), (30, zi (gAl 0) 1), (31, zget 9 6), (34, zi (gC (.int (8))) 2), (36, zi (gIl 3) 1), (37, zi (gII (fun x y => x * y)) 1), (38, zi (gC (.int (2))) 1), (39, zi (gII (fun x y => x + y)) 1), (40, zi (gAl 0) 1), (41, zget 9 10), (44, zlast tys), (45, zi (gAl 0) 1), (46, zi (gDup) 1), (47, zget 9 10), (50, zi (gC (.long 1)) 1), (51, zi (gLL (fun x y => x + y)) 1), (52, zput (.long) 9 10), (55, zi (gAl 0) 1), (56, zi (gIl 3) 1), (57, zcV 3 105 1 9), (60, zretV)]
set_option maxRecDepth 100000 in
theorem ok118 (l : Launch) (D : va_G) (dA : Nat → ClassId) (b0 : Nat) : ∀ q ∈ tb118 (ztys dA), zOK l D dA b0 118 q.1 q.2 := by
  refine zap (zi_mono _ _) (zi_ok (zg_aload_n (j := 0) (by decide +kernel) rfl)) ?_
  refine zap (zi_mono _ _) (zi_ok (zg_iconst (n := -1) (by decide +kernel) (by decide +kernel))) ?_
  refine zap (zcV_mono _ _ _ _) (zcV_ok znst_st (μ' := 101) (na := 1) (ci := 9) (index := 118) (q := (RC9, FC9, 33)) (by decide +kernel) (by decide +kernel) rfl (zgV (zin 907 (by decide +kernel) rfl) (zin 909 (by decide +kernel) rfl) (zsel 43 (by decide +kernel) rfl) (zin 9 (by decide +kernel) rfl) (zin 910 (by decide +kernel) rfl)) (by decide +kernel) (by decide +kernel)) ?_
  refine zap (zi_mono _ _) (zi_ok (zg_istore_n (j := 3) (by decide +kernel) rfl (by decide +kernel))) ?_
  refine zap (zi_mono _ _) (zi_ok (zg_aload_n (j := 0) (by decide +kernel) rfl)) ?_
  refine zap (zget_mono _ _) (zget_ok (index := 22) (C := RC9) (ref := "VectorLanguageModel") (T := FC9) (NN := 33) (by decide +kernel) rfl iC9 (by decide +kernel) (zin 759 (by decide +kernel) rfl) rfl) ?_
  refine zap (zi_mono _ _) (zi_ok (zg_bipush (n := 8) (by decide +kernel) (by decide +kernel))) ?_
  refine zap (zi_mono _ _) (zi_ok (zg_iload_n (j := 3) (by decide +kernel) rfl)) ?_
  refine zap (zi_mono _ _) (zi_ok (zg_imul (by decide +kernel))) ?_
  refine zap (zi_mono _ _) (zi_ok (zg_iload_n (j := 1) (by decide +kernel) rfl)) ?_
  refine zap (zi_mono _ _) (zi_ok (zg_i2l (by decide +kernel))) ?_
  refine zap (zlast_mono _) (zlast_ok (by decide +kernel)) ?_
  refine zap (zi_mono _ _) (zi_ok (zg_aload_n (j := 0) (by decide +kernel) rfl)) ?_
  refine zap (zget_mono _ _) (zget_ok (index := 22) (C := RC9) (ref := "VectorLanguageModel") (T := FC9) (NN := 33) (by decide +kernel) rfl iC9 (by decide +kernel) (zin 759 (by decide +kernel) rfl) rfl) ?_
  refine zap (zi_mono _ _) (zi_ok (zg_bipush (n := 8) (by decide +kernel) (by decide +kernel))) ?_
  refine zap (zi_mono _ _) (zi_ok (zg_iload_n (j := 3) (by decide +kernel) rfl)) ?_
  refine zap (zi_mono _ _) (zi_ok (zg_imul (by decide +kernel))) ?_
  refine zap (zi_mono _ _) (zi_ok (zg_iconst (n := 1) (by decide +kernel) (by decide +kernel))) ?_
  refine zap (zi_mono _ _) (zi_ok (zg_iadd (by decide +kernel))) ?_
  refine zap (zi_mono _ _) (zi_ok (zg_iload_n (j := 2) (by decide +kernel) rfl)) ?_
  refine zap (zi_mono _ _) (zi_ok (zg_i2l (by decide +kernel))) ?_
  refine zap (zlast_mono _) (zlast_ok (by decide +kernel)) ?_
  refine zap (zi_mono _ _) (zi_ok (zg_aload_n (j := 0) (by decide +kernel) rfl)) ?_
  refine zap (zget_mono _ _) (zget_ok (index := 22) (C := RC9) (ref := "VectorLanguageModel") (T := FC9) (NN := 33) (by decide +kernel) rfl iC9 (by decide +kernel) (zin 759 (by decide +kernel) rfl) rfl) ?_
  refine zap (zi_mono _ _) (zi_ok (zg_bipush (n := 8) (by decide +kernel) (by decide +kernel))) ?_
  refine zap (zi_mono _ _) (zi_ok (zg_iload_n (j := 3) (by decide +kernel) rfl)) ?_
  refine zap (zi_mono _ _) (zi_ok (zg_imul (by decide +kernel))) ?_
  refine zap (zi_mono _ _) (zi_ok (zg_iconst (n := 2) (by decide +kernel) (by decide +kernel))) ?_
  refine zap (zi_mono _ _) (zi_ok (zg_iadd (by decide +kernel))) ?_
  refine zap (zi_mono _ _) (zi_ok (zg_aload_n (j := 0) (by decide +kernel) rfl)) ?_
  refine zap (zget_mono _ _) (zget_ok (index := 184) (C := RC9) (ref := "VectorLanguageModel") (T := FC9) (NN := 33) (by decide +kernel) rfl iC9 (by decide +kernel) (zin 763 (by decide +kernel) rfl) rfl) ?_
  refine zap (zlast_mono _) (zlast_ok (by decide +kernel)) ?_
  refine zap (zi_mono _ _) (zi_ok (zg_aload_n (j := 0) (by decide +kernel) rfl)) ?_
  refine zap (zi_mono _ _) (zi_ok (zg_dup (by decide +kernel))) ?_
  refine zap (zget_mono _ _) (zget_ok (index := 184) (C := RC9) (ref := "VectorLanguageModel") (T := FC9) (NN := 33) (by decide +kernel) rfl iC9 (by decide +kernel) (zin 763 (by decide +kernel) rfl) rfl) ?_
  refine zap (zi_mono _ _) (zi_ok (zg_lconst (n := 1) (by decide +kernel) (by decide +kernel))) ?_
  refine zap (zi_mono _ _) (zi_ok (zg_ladd (by decide +kernel))) ?_
  refine zap (zput_mono _ _ _) (zput_ok (index := 184) (C := RC9) (ref := "VectorLanguageModel") (T := FC9) (NN := 33) tC9 (by decide +kernel) rfl iC9 tC9_ok nC9 (by decide +kernel) (zin 763 (by decide +kernel) rfl) rfl (Or.inl rfl) rfl) ?_
  refine zap (zi_mono _ _) (zi_ok (zg_aload_n (j := 0) (by decide +kernel) rfl)) ?_
  refine zap (zi_mono _ _) (zi_ok (zg_iload_n (j := 3) (by decide +kernel) rfl)) ?_
  refine zap (zcV_mono _ _ _ _) (zcV_ok znst_st (μ' := 105) (na := 1) (ci := 9) (index := 188) (q := (RC9, FC9, 33)) (by decide +kernel) (by decide +kernel) rfl (zgV (zin 924 (by decide +kernel) rfl) (zin 926 (by decide +kernel) rfl) (zsel 47 (by decide +kernel) rfl) (zin 9 (by decide +kernel) rfl) (zin 927 (by decide +kernel) rfl)) (by decide +kernel) (by decide +kernel)) ?_
  refine zap (zretV_mono) (zretV_ok (by decide +kernel) rfl) ?_
  exact zn
