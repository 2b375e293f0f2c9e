/-- VectorLanguageModel.call(I)V -/
def tb119 (tys : List (ClassId × FieldType)) : List (Nat × (zP → zP)) := [(0, zi (gAl 0) 1), (1, zget 9 22), (4, zi (gIl 1) 1), (5, ziald tys), (6, zi (gIs 2) 1), (7, zi (gAl 0) 1), (8, zget 9 19), (11, zi (gIl 1) 1), (12, ziald tys), (13, zi (gIs 3) 1), (14, zi (gAl 0) 1), (15, zget 9 3), (18, zi (gIl 3) 1), (19, ziald tys), (20, zb (c1 (fun x => 0 ≤ x)) 27), (23, zi (gC (.int (0))) 1), (24, zj 41), (27, zi (gAl 0) 1), (28, zget 9 4), (31, zi (gIl 3) 1), (32, ziald tys), (33, zb (c1 (fun x => 0 ≤ x)) 40), (36, zi (gC (.int (1))) 1), (37, zj 41), (40, zi (gC (.int (2))) 1), (41, zi (gIs 4) 2), (43, zi (gAl 0) 1), (44, zget 9 7), (47, zi (gIl 2) 1), (48, ziald tys), (49, zb (c1 (fun x => x < 0)) 58), (52, zi (gAl 0) 1), (53, zi (gC (.int (3))) 1), (54, zput (.int) 9 29), (57, zretV), (58, zi (gAl 0) 1), (59, zget 9 6), (62, zi (gC (.int (8))) 2), (64, zi (gIl 2) 1), (65, zi (gII (fun x y => x * y)) 1), (66, zlald tys), (67, zi (gL2i) 1), (68, zi (gIs 5) 2), (70, zi (gIl 4) 2), (72, zi (gAl 0) 1), (73, zget 9 3), (76, zi (gIl 5) 2), (78, ziald tys), (79, zb (c2 (fun x y => x ≤ y)) 89), (82, zi (gAl 0) 1), (83, zi (gC (.int (6))) 2), (85, zput (.int) 9 29), (88, zretV), (89, zi (gAl 0) 1), (90, zget 9 14), (93, zi (gC (.int (90))) 2), (95, zb (c2 (fun x y => ¬ x = y)) 105), (98, zi (gAl 0) 1), (99, zi (gC (.int (9))) 2), (101, zput (.int) 9 29), (104, zretV), (105, zi (gAl 0) 1), (106, zi (gDup) 1), (107, zget 9 14), (110, zi (gC (.int (1))) 1), (111, zi (gII (fun x y => x + y)) 1), (112, zput (.int) 9 14), (115, zi (gAl 0) 1), (116, zget 9 13), (119, zi (gAl 0) 1), (120, zget 9 14), (123, zi (gIl 4) 2), (125, ziast tys), (126, zi (gAl 0) 1), (127, zget 9 11), (130, zi (gAl 0) 1), (131, zget 9 14), (134, zi (gAl 0) 1), (135, zget 9 6), (138, zi (gC (.int (8))) 2), (140, zi (gIl 2) 1), (141, zi (gII (fun x y => x * y)) 1), (142, zi (gC (.int (1))) 1), (143, zi (gII (fun x y => x + y)) 1), (144, zlald tys), (145, zi (gL2i) 1), (146, ziast tys), (147, zi (gAl 0) 1), (148, zget 9 12), (151, zi (gAl 0) 1), (152, zget 9 14), (155, zi (gIl 5) 2), (157, ziast tys), (158, zi (gC (.int (0))) 1), (159, zi (gIs 6) 2), (161, zi (gIl 6) 2), (163, zi (gC (.int (10))) 2), (165, zb (c2 (fun x y => y ≤ x)) 190), (168, zi (gAl 0) 1), (169, zget 9 15), (172, zi (gC (.int (10))) 2), (174, zi (gAl 0) 1), (175, zget 9 14), (178, zi (gII (fun x y => x * y)) 1), (179, zi (gIl 6) 2), (181, zi (gII (fun x y => x + y)) 1), (182, zi (gC (.int (0))) 1), (183, ziast tys), (184, zi (gIinc 6 (1)) 3), (187, zj 161), (190, zi (gIl 4) 2), (192, zb (c1 (fun x => x ≤ 0)) 222), (195, zi (gAl 0) 1), (196, zi (gAl 0) 1), (197, zget 9 14), (200, zi (gAl 0) 1), (201, zget 9 4), (204, zi (gIl 5) 2), (206, ziald tys), (207, zi (gAl 0) 1), (208, zget 9 3), (211, zi (gIl 3) 1), (212, ziald tys), (213, zi (gAl 0) 1), (214, zget 9 20), (217, zi (gIl 1) 1), (218, ziald tys), (219, zcV 5 120 4 9), (222, zi (gIl 4) 2), (224, zi (gC (.int (1))) 1), (225, zb (c2 (fun x y => x ≤ y)) 257), (228, zi (gAl 0) 1), (229, zi (gAl 0) 1), (230, zget 9 14), (233, zi (gAl 0) 1), (234, zget 9 4), (237, zi (gIl 5) 2), (239, ziald tys), (240, zi (gC (.int (1))) 1), (241, zi (gII (fun x y => x + y)) 1), (242, zi (gAl 0) 1), (243, zget 9 4), (246, zi (gIl 3) 1), (247, ziald tys), (248, zi (gAl 0) 1), (249, zget 9 20), (252, zi (gIl 1) 1), (253, ziald tys), (254, zcV 5 120 4 9), (257, zi (gAl 0) 1), (258, zi (gC (.int (-2))) 2), (260, zi (gAl 0) 1), (261, zget 9 14), (264, zi (gC (.int (0))) 1), (265, zcV 4 96 3 9), (268, zi (gAl 0) 1), (269, zi (gAl 0) 1), (270, zget 9 2), (273, zi (gIl 5) 2), (275, ziald tys), (276, zi (gAl 0) 1), (277, zget 9 14), (280, zcV 3 95 2 9), (283, zretV)]
set_option maxRecDepth 100000 in
theorem ok119 (l : Launch) (D : va_G) (dA : Nat → ClassId) (b0 : Nat) : ∀ q ∈ tb119 (ztys dA), zOK l D dA b0 119 q.1 q.2 := by
  refine zap (zi_mono _ _) (zi_ok (zg_aload_n (j := 0) (by decide +kernel) rfl)) ?_
  refine zap (zget_mono _ _) (zget_ok (index := 63) (C := RC9) (ref := "VectorLanguageModel") (T := FC9) (NN := 33) (by decide +kernel) rfl iC9 (by decide +kernel) (zin 775 (by decide +kernel) rfl) rfl) ?_
  refine zap (zi_mono _ _) (zi_ok (zg_iload_n (j := 1) (by decide +kernel) rfl)) ?_
  refine zap (ziald_mono _) (ziald_ok (by decide +kernel)) ?_
  refine zap (zi_mono _ _) (zi_ok (zg_istore_n (j := 2) (by decide +kernel) rfl (by decide +kernel))) ?_
  refine zap (zi_mono _ _) (zi_ok (zg_aload_n (j := 0) (by decide +kernel) rfl)) ?_
  refine zap (zget_mono _ _) (zget_ok (index := 54) (C := RC9) (ref := "VectorLanguageModel") (T := FC9) (NN := 33) (by decide +kernel) rfl iC9 (by decide +kernel) (zin 772 (by decide +kernel) rfl) rfl) ?_
  refine zap (zi_mono _ _) (zi_ok (zg_iload_n (j := 1) (by decide +kernel) rfl)) ?_
  refine zap (ziald_mono _) (ziald_ok (by decide +kernel)) ?_
  refine zap (zi_mono _ _) (zi_ok (zg_istore_n (j := 3) (by decide +kernel) rfl (by decide +kernel))) ?_
  refine zap (zi_mono _ _) (zi_ok (zg_aload_n (j := 0) (by decide +kernel) rfl)) ?_
  refine zap (zget_mono _ _) (zget_ok (index := 16) (C := RC9) (ref := "VectorLanguageModel") (T := FC9) (NN := 33) (by decide +kernel) rfl iC9 (by decide +kernel) (zin 756 (by decide +kernel) rfl) rfl) ?_
  refine zap (zi_mono _ _) (zi_ok (zg_iload_n (j := 3) (by decide +kernel) rfl)) ?_
  refine zap (ziald_mono _) (ziald_ok (by decide +kernel)) ?_
  refine zap (zb_mono _ _) (zb_ok (zb_ge (off := 7) (by decide +kernel) (by decide +kernel))) ?_
  refine zap (zi_mono _ _) (zi_ok (zg_iconst (n := 0) (by decide +kernel) (by decide +kernel))) ?_
  refine zap (zj_mono _) (zj_ok (off := 17) (by decide +kernel) (by decide +kernel)) ?_
  refine zap (zi_mono _ _) (zi_ok (zg_aload_n (j := 0) (by decide +kernel) rfl)) ?_
  refine zap (zget_mono _ _) (zget_ok (index := 19) (C := RC9) (ref := "VectorLanguageModel") (T := FC9) (NN := 33) (by decide +kernel) rfl iC9 (by decide +kernel) (zin 757 (by decide +kernel) rfl) rfl) ?_
  refine zap (zi_mono _ _) (zi_ok (zg_iload_n (j := 3) (by decide +kernel) rfl)) ?_
  refine zap (ziald_mono _) (ziald_ok (by decide +kernel)) ?_
  refine zap (zb_mono _ _) (zb_ok (zb_ge (off := 7) (by decide +kernel) (by decide +kernel))) ?_
  refine zap (zi_mono _ _) (zi_ok (zg_iconst (n := 1) (by decide +kernel) (by decide +kernel))) ?_
  refine zap (zj_mono _) (zj_ok (off := 4) (by decide +kernel) (by decide +kernel)) ?_
  refine zap (zi_mono _ _) (zi_ok (zg_iconst (n := 2) (by decide +kernel) (by decide +kernel))) ?_
  refine zap (zi_mono _ _) (zi_ok (zg_istore (by decide +kernel) (by decide +kernel))) ?_
  refine zap (zi_mono _ _) (zi_ok (zg_aload_n (j := 0) (by decide +kernel) rfl)) ?_
  refine zap (zget_mono _ _) (zget_ok (index := 26) (C := RC9) (ref := "VectorLanguageModel") (T := FC9) (NN := 33) (by decide +kernel) rfl iC9 (by decide +kernel) (zin 760 (by decide +kernel) rfl) rfl) ?_
  refine zap (zi_mono _ _) (zi_ok (zg_iload_n (j := 2) (by decide +kernel) rfl)) ?_
  refine zap (ziald_mono _) (ziald_ok (by decide +kernel)) ?_
  refine zap (zb_mono _ _) (zb_ok (zb_lt (off := 9) (by decide +kernel) (by decide +kernel))) ?_
  refine zap (zi_mono _ _) (zi_ok (zg_aload_n (j := 0) (by decide +kernel) rfl)) ?_
  refine zap (zi_mono _ _) (zi_ok (zg_iconst (n := 3) (by decide +kernel) (by decide +kernel))) ?_
  refine zap (zput_mono _ _ _) (zput_ok (index := 152) (C := RC9) (ref := "VectorLanguageModel") (T := FC9) (NN := 33) tC9 (by decide +kernel) rfl iC9 tC9_ok nC9 (by decide +kernel) (zin 782 (by decide +kernel) rfl) rfl (Or.inl rfl) rfl) ?_
  refine zap (zretV_mono) (zretV_ok (by decide +kernel) rfl) ?_
  refine zap (zi_mono _ _) (zi_ok (zg_aload_n (j := 0) (by decide +kernel) rfl)) ?_
  refine zap (zget_mono _ _) (zget_ok (index := 22) (C := RC9) (ref := "VectorLanguageModel") (T := FC9) (NN := 33) (by decide +kernel) rfl iC9 (by decide +kernel) (zin 759 (by decide +kernel) rfl) rfl) ?_
  refine zap (zi_mono _ _) (zi_ok (zg_bipush (n := 8) (by decide +kernel) (by decide +kernel))) ?_
  refine zap (zi_mono _ _) (zi_ok (zg_iload_n (j := 2) (by decide +kernel) rfl)) ?_
  refine zap (zi_mono _ _) (zi_ok (zg_imul (by decide +kernel))) ?_
  refine zap (zlald_mono _) (zlald_ok (by decide +kernel)) ?_
  refine zap (zi_mono _ _) (zi_ok (zg_l2i (by decide +kernel))) ?_
  refine zap (zi_mono _ _) (zi_ok (zg_istore (by decide +kernel) (by decide +kernel))) ?_
  refine zap (zi_mono _ _) (zi_ok (zg_iload (by decide +kernel))) ?_
  refine zap (zi_mono _ _) (zi_ok (zg_aload_n (j := 0) (by decide +kernel) rfl)) ?_
  refine zap (zget_mono _ _) (zget_ok (index := 16) (C := RC9) (ref := "VectorLanguageModel") (T := FC9) (NN := 33) (by decide +kernel) rfl iC9 (by decide +kernel) (zin 756 (by decide +kernel) rfl) rfl) ?_
  refine zap (zi_mono _ _) (zi_ok (zg_iload (by decide +kernel))) ?_
  refine zap (ziald_mono _) (ziald_ok (by decide +kernel)) ?_
  refine zap (zb_mono _ _) (zb_ok (zb_ile (off := 10) (by decide +kernel) (by decide +kernel))) ?_
  refine zap (zi_mono _ _) (zi_ok (zg_aload_n (j := 0) (by decide +kernel) rfl)) ?_
  refine zap (zi_mono _ _) (zi_ok (zg_bipush (n := 6) (by decide +kernel) (by decide +kernel))) ?_
  refine zap (zput_mono _ _ _) (zput_ok (index := 152) (C := RC9) (ref := "VectorLanguageModel") (T := FC9) (NN := 33) tC9 (by decide +kernel) rfl iC9 tC9_ok nC9 (by decide +kernel) (zin 782 (by decide +kernel) rfl) rfl (Or.inl rfl) rfl) ?_
  refine zap (zretV_mono) (zretV_ok (by decide +kernel) rfl) ?_
  refine zap (zi_mono _ _) (zi_ok (zg_aload_n (j := 0) (by decide +kernel) rfl)) ?_
  refine zap (zget_mono _ _) (zget_ok (index := 191) (C := RC9) (ref := "VectorLanguageModel") (T := FC9) (NN := 33) (by decide +kernel) rfl iC9 (by decide +kernel) (zin 767 (by decide +kernel) rfl) rfl) ?_
  refine zap (zi_mono _ _) (zi_ok (zg_bipush (n := 90) (by decide +kernel) (by decide +kernel))) ?_
  refine zap (zb_mono _ _) (zb_ok (zb_ine (off := 10) (by decide +kernel) (by decide +kernel))) ?_
  refine zap (zi_mono _ _) (zi_ok (zg_aload_n (j := 0) (by decide +kernel) rfl)) ?_
  refine zap (zi_mono _ _) (zi_ok (zg_bipush (n := 9) (by decide +kernel) (by decide +kernel))) ?_
  refine zap (zput_mono _ _ _) (zput_ok (index := 152) (C := RC9) (ref := "VectorLanguageModel") (T := FC9) (NN := 33) tC9 (by decide +kernel) rfl iC9 tC9_ok nC9 (by decide +kernel) (zin 782 (by decide +kernel) rfl) rfl (Or.inl rfl) rfl) ?_
  refine zap (zretV_mono) (zretV_ok (by decide +kernel) rfl) ?_
  refine zap (zi_mono _ _) (zi_ok (zg_aload_n (j := 0) (by decide +kernel) rfl)) ?_
  refine zap (zi_mono _ _) (zi_ok (zg_dup (by decide +kernel))) ?_
  refine zap (zget_mono _ _) (zget_ok (index := 191) (C := RC9) (ref := "VectorLanguageModel") (T := FC9) (NN := 33) (by decide +kernel) rfl iC9 (by decide +kernel) (zin 767 (by decide +kernel) rfl) rfl) ?_
  refine zap (zi_mono _ _) (zi_ok (zg_iconst (n := 1) (by decide +kernel) (by decide +kernel))) ?_
  refine zap (zi_mono _ _) (zi_ok (zg_iadd (by decide +kernel))) ?_
  refine zap (zput_mono _ _ _) (zput_ok (index := 191) (C := RC9) (ref := "VectorLanguageModel") (T := FC9) (NN := 33) tC9 (by decide +kernel) rfl iC9 tC9_ok nC9 (by decide +kernel) (zin 767 (by decide +kernel) rfl) rfl (Or.inl rfl) rfl) ?_
  refine zap (zi_mono _ _) (zi_ok (zg_aload_n (j := 0) (by decide +kernel) rfl)) ?_
  refine zap (zget_mono _ _) (zget_ok (index := 39) (C := RC9) (ref := "VectorLanguageModel") (T := FC9) (NN := 33) (by decide +kernel) rfl iC9 (by decide +kernel) (zin 766 (by decide +kernel) rfl) rfl) ?_
  refine zap (zi_mono _ _) (zi_ok (zg_aload_n (j := 0) (by decide +kernel) rfl)) ?_
  refine zap (zget_mono _ _) (zget_ok (index := 191) (C := RC9) (ref := "VectorLanguageModel") (T := FC9) (NN := 33) (by decide +kernel) rfl iC9 (by decide +kernel) (zin 767 (by decide +kernel) rfl) rfl) ?_
  refine zap (zi_mono _ _) (zi_ok (zg_iload (by decide +kernel))) ?_
  refine zap (ziast_mono _) (ziast_ok (by decide +kernel)) ?_
  refine zap (zi_mono _ _) (zi_ok (zg_aload_n (j := 0) (by decide +kernel) rfl)) ?_
  refine zap (zget_mono _ _) (zget_ok (index := 33) (C := RC9) (ref := "VectorLanguageModel") (T := FC9) (NN := 33) (by decide +kernel) rfl iC9 (by decide +kernel) (zin 764 (by decide +kernel) rfl) rfl) ?_
  refine zap (zi_mono _ _) (zi_ok (zg_aload_n (j := 0) (by decide +kernel) rfl)) ?_
  refine zap (zget_mono _ _) (zget_ok (index := 191) (C := RC9) (ref := "VectorLanguageModel") (T := FC9) (NN := 33) (by decide +kernel) rfl iC9 (by decide +kernel) (zin 767 (by decide +kernel) rfl) rfl) ?_
  refine zap (zi_mono _ _) (zi_ok (zg_aload_n (j := 0) (by decide +kernel) rfl)) ?_
  refine zap (zget_mono _ _) (zget_ok (index := 22) (C := RC9) (ref := "VectorLanguageModel") (T := FC9) (NN := 33) (by decide +kernel) rfl iC9 (by decide +kernel) (zin 759 (by decide +kernel) rfl) rfl) ?_
  refine zap (zi_mono _ _) (zi_ok (zg_bipush (n := 8) (by decide +kernel) (by decide +kernel))) ?_
  refine zap (zi_mono _ _) (zi_ok (zg_iload_n (j := 2) (by decide +kernel) rfl)) ?_
  refine zap (zi_mono _ _) (zi_ok (zg_imul (by decide +kernel))) ?_
  refine zap (zi_mono _ _) (zi_ok (zg_iconst (n := 1) (by decide +kernel) (by decide +kernel))) ?_
  refine zap (zi_mono _ _) (zi_ok (zg_iadd (by decide +kernel))) ?_
  refine zap (zlald_mono _) (zlald_ok (by decide +kernel)) ?_
  refine zap (zi_mono _ _) (zi_ok (zg_l2i (by decide +kernel))) ?_
  refine zap (ziast_mono _) (ziast_ok (by decide +kernel)) ?_
  refine zap (zi_mono _ _) (zi_ok (zg_aload_n (j := 0) (by decide +kernel) rfl)) ?_
  refine zap (zget_mono _ _) (zget_ok (index := 36) (C := RC9) (ref := "VectorLanguageModel") (T := FC9) (NN := 33) (by decide +kernel) rfl iC9 (by decide +kernel) (zin 765 (by decide +kernel) rfl) rfl) ?_
  refine zap (zi_mono _ _) (zi_ok (zg_aload_n (j := 0) (by decide +kernel) rfl)) ?_
  refine zap (zget_mono _ _) (zget_ok (index := 191) (C := RC9) (ref := "VectorLanguageModel") (T := FC9) (NN := 33) (by decide +kernel) rfl iC9 (by decide +kernel) (zin 767 (by decide +kernel) rfl) rfl) ?_
  refine zap (zi_mono _ _) (zi_ok (zg_iload (by decide +kernel))) ?_
  refine zap (ziast_mono _) (ziast_ok (by decide +kernel)) ?_
  refine zap (zi_mono _ _) (zi_ok (zg_iconst (n := 0) (by decide +kernel) (by decide +kernel))) ?_
  refine zap (zi_mono _ _) (zi_ok (zg_istore (by decide +kernel) (by decide +kernel))) ?_
  refine zap (zi_mono _ _) (zi_ok (zg_iload (by decide +kernel))) ?_
  refine zap (zi_mono _ _) (zi_ok (zg_bipush (n := 10) (by decide +kernel) (by decide +kernel))) ?_
  refine zap (zb_mono _ _) (zb_ok (zb_ige (off := 25) (by decide +kernel) (by decide +kernel))) ?_
  refine zap (zi_mono _ _) (zi_ok (zg_aload_n (j := 0) (by decide +kernel) rfl)) ?_
  refine zap (zget_mono _ _) (zget_ok (index := 42) (C := RC9) (ref := "VectorLanguageModel") (T := FC9) (NN := 33) (by decide +kernel) rfl iC9 (by decide +kernel) (zin 768 (by decide +kernel) rfl) rfl) ?_
  refine zap (zi_mono _ _) (zi_ok (zg_bipush (n := 10) (by decide +kernel) (by decide +kernel))) ?_
  refine zap (zi_mono _ _) (zi_ok (zg_aload_n (j := 0) (by decide +kernel) rfl)) ?_
  refine zap (zget_mono _ _) (zget_ok (index := 191) (C := RC9) (ref := "VectorLanguageModel") (T := FC9) (NN := 33) (by decide +kernel) rfl iC9 (by decide +kernel) (zin 767 (by decide +kernel) rfl) rfl) ?_
  refine zap (zi_mono _ _) (zi_ok (zg_imul (by decide +kernel))) ?_
  refine zap (zi_mono _ _) (zi_ok (zg_iload (by decide +kernel))) ?_
  refine zap (zi_mono _ _) (zi_ok (zg_iadd (by decide +kernel))) ?_
  refine zap (zi_mono _ _) (zi_ok (zg_iconst (n := 0) (by decide +kernel) (by decide +kernel))) ?_
  refine zap (ziast_mono _) (ziast_ok (by decide +kernel)) ?_
  refine zap (zi_mono _ _) (zi_ok (zg_iinc (n := 1) (by decide +kernel) (by decide +kernel) (by decide +kernel))) ?_
  refine zap (zj_mono _) (zj_ok (off := -26) (by decide +kernel) (by decide +kernel)) ?_
  refine zap (zi_mono _ _) (zi_ok (zg_iload (by decide +kernel))) ?_
  refine zap (zb_mono _ _) (zb_ok (zb_le (off := 30) (by decide +kernel) (by decide +kernel))) ?_
  refine zap (zi_mono _ _) (zi_ok (zg_aload_n (j := 0) (by decide +kernel) rfl)) ?_
  refine zap (zi_mono _ _) (zi_ok (zg_aload_n (j := 0) (by decide +kernel) rfl)) ?_
  refine zap (zget_mono _ _) (zget_ok (index := 191) (C := RC9) (ref := "VectorLanguageModel") (T := FC9) (NN := 33) (by decide +kernel) rfl iC9 (by decide +kernel) (zin 767 (by decide +kernel) rfl) rfl) ?_
  refine zap (zi_mono _ _) (zi_ok (zg_aload_n (j := 0) (by decide +kernel) rfl)) ?_
  refine zap (zget_mono _ _) (zget_ok (index := 19) (C := RC9) (ref := "VectorLanguageModel") (T := FC9) (NN := 33) (by decide +kernel) rfl iC9 (by decide +kernel) (zin 757 (by decide +kernel) rfl) rfl) ?_
  refine zap (zi_mono _ _) (zi_ok (zg_iload (by decide +kernel))) ?_
  refine zap (ziald_mono _) (ziald_ok (by decide +kernel)) ?_
  refine zap (zi_mono _ _) (zi_ok (zg_aload_n (j := 0) (by decide +kernel) rfl)) ?_
  refine zap (zget_mono _ _) (zget_ok (index := 16) (C := RC9) (ref := "VectorLanguageModel") (T := FC9) (NN := 33) (by decide +kernel) rfl iC9 (by decide +kernel) (zin 756 (by decide +kernel) rfl) rfl) ?_
  refine zap (zi_mono _ _) (zi_ok (zg_iload_n (j := 3) (by decide +kernel) rfl)) ?_
  refine zap (ziald_mono _) (ziald_ok (by decide +kernel)) ?_
  refine zap (zi_mono _ _) (zi_ok (zg_aload_n (j := 0) (by decide +kernel) rfl)) ?_
  refine zap (zget_mono _ _) (zget_ok (index := 57) (C := RC9) (ref := "VectorLanguageModel") (T := FC9) (NN := 33) (by decide +kernel) rfl iC9 (by decide +kernel) (zin 773 (by decide +kernel) rfl) rfl) ?_
  refine zap (zi_mono _ _) (zi_ok (zg_iload_n (j := 1) (by decide +kernel) rfl)) ?_
  refine zap (ziald_mono _) (ziald_ok (by decide +kernel)) ?_
  refine zap (zcV_mono _ _ _ _) (zcV_ok znst_st (μ' := 120) (na := 4) (ci := 9) (index := 193) (q := (RC9, FC9, 33)) (by decide +kernel) (by decide +kernel) rfl (zgV (zin 985 (by decide +kernel) rfl) (zin 987 (by decide +kernel) rfl) (zsel 62 (by decide +kernel) rfl) (zin 9 (by decide +kernel) rfl) (zin 988 (by decide +kernel) rfl)) (by decide +kernel) (by decide +kernel)) ?_
  refine zap (zi_mono _ _) (zi_ok (zg_iload (by decide +kernel))) ?_
  refine zap (zi_mono _ _) (zi_ok (zg_iconst (n := 1) (by decide +kernel) (by decide +kernel))) ?_
  refine zap (zb_mono _ _) (zb_ok (zb_ile (off := 32) (by decide +kernel) (by decide +kernel))) ?_
  refine zap (zi_mono _ _) (zi_ok (zg_aload_n (j := 0) (by decide +kernel) rfl)) ?_
  refine zap (zi_mono _ _) (zi_ok (zg_aload_n (j := 0) (by decide +kernel) rfl)) ?_
  refine zap (zget_mono _ _) (zget_ok (index := 191) (C := RC9) (ref := "VectorLanguageModel") (T := FC9) (NN := 33) (by decide +kernel) rfl iC9 (by decide +kernel) (zin 767 (by decide +kernel) rfl) rfl) ?_
  refine zap (zi_mono _ _) (zi_ok (zg_aload_n (j := 0) (by decide +kernel) rfl)) ?_
  refine zap (zget_mono _ _) (zget_ok (index := 19) (C := RC9) (ref := "VectorLanguageModel") (T := FC9) (NN := 33) (by decide +kernel) rfl iC9 (by decide +kernel) (zin 757 (by decide +kernel) rfl) rfl) ?_
  refine zap (zi_mono _ _) (zi_ok (zg_iload (by decide +kernel))) ?_
  refine zap (ziald_mono _) (ziald_ok (by decide +kernel)) ?_
  refine zap (zi_mono _ _) (zi_ok (zg_iconst (n := 1) (by decide +kernel) (by decide +kernel))) ?_
  refine zap (zi_mono _ _) (zi_ok (zg_iadd (by decide +kernel))) ?_
  refine zap (zi_mono _ _) (zi_ok (zg_aload_n (j := 0) (by decide +kernel) rfl)) ?_
  refine zap (zget_mono _ _) (zget_ok (index := 19) (C := RC9) (ref := "VectorLanguageModel") (T := FC9) (NN := 33) (by decide +kernel) rfl iC9 (by decide +kernel) (zin 757 (by decide +kernel) rfl) rfl) ?_
  refine zap (zi_mono _ _) (zi_ok (zg_iload_n (j := 3) (by decide +kernel) rfl)) ?_
  refine zap (ziald_mono _) (ziald_ok (by decide +kernel)) ?_
  refine zap (zi_mono _ _) (zi_ok (zg_aload_n (j := 0) (by decide +kernel) rfl)) ?_
  refine zap (zget_mono _ _) (zget_ok (index := 57) (C := RC9) (ref := "VectorLanguageModel") (T := FC9) (NN := 33) (by decide +kernel) rfl iC9 (by decide +kernel) (zin 773 (by decide +kernel) rfl) rfl) ?_
  refine zap (zi_mono _ _) (zi_ok (zg_iload_n (j := 1) (by decide +kernel) rfl)) ?_
  refine zap (ziald_mono _) (ziald_ok (by decide +kernel)) ?_
  refine zap (zcV_mono _ _ _ _) (zcV_ok znst_st (μ' := 120) (na := 4) (ci := 9) (index := 193) (q := (RC9, FC9, 33)) (by decide +kernel) (by decide +kernel) rfl (zgV (zin 985 (by decide +kernel) rfl) (zin 987 (by decide +kernel) rfl) (zsel 62 (by decide +kernel) rfl) (zin 9 (by decide +kernel) rfl) (zin 988 (by decide +kernel) rfl)) (by decide +kernel) (by decide +kernel)) ?_
  refine zap (zi_mono _ _) (zi_ok (zg_aload_n (j := 0) (by decide +kernel) rfl)) ?_
  refine zap (zi_mono _ _) (zi_ok (zg_bipush (n := -2) (by decide +kernel) (by decide +kernel))) ?_
  refine zap (zi_mono _ _) (zi_ok (zg_aload_n (j := 0) (by decide +kernel) rfl)) ?_
  refine zap (zget_mono _ _) (zget_ok (index := 191) (C := RC9) (ref := "VectorLanguageModel") (T := FC9) (NN := 33) (by decide +kernel) rfl iC9 (by decide +kernel) (zin 767 (by decide +kernel) rfl) rfl) ?_
  refine zap (zi_mono _ _) (zi_ok (zg_iconst (n := 0) (by decide +kernel) (by decide +kernel))) ?_
  refine zap (zcV_mono _ _ _ _) (zcV_ok znst_st (μ' := 96) (na := 3) (ci := 9) (index := 174) (q := (RC9, FC9, 33)) (by decide +kernel) (by decide +kernel) rfl (zgV (zin 888 (by decide +kernel) rfl) (zin 890 (by decide +kernel) rfl) (zsel 39 (by decide +kernel) rfl) (zin 9 (by decide +kernel) rfl) (zin 891 (by decide +kernel) rfl)) (by decide +kernel) (by decide +kernel)) ?_
  refine zap (zi_mono _ _) (zi_ok (zg_aload_n (j := 0) (by decide +kernel) rfl)) ?_
  refine zap (zi_mono _ _) (zi_ok (zg_aload_n (j := 0) (by decide +kernel) rfl)) ?_
  refine zap (zget_mono _ _) (zget_ok (index := 13) (C := RC9) (ref := "VectorLanguageModel") (T := FC9) (NN := 33) (by decide +kernel) rfl iC9 (by decide +kernel) (zin 755 (by decide +kernel) rfl) rfl) ?_
  refine zap (zi_mono _ _) (zi_ok (zg_iload (by decide +kernel))) ?_
  refine zap (ziald_mono _) (ziald_ok (by decide +kernel)) ?_
  refine zap (zi_mono _ _) (zi_ok (zg_aload_n (j := 0) (by decide +kernel) rfl)) ?_
  refine zap (zget_mono _ _) (zget_ok (index := 191) (C := RC9) (ref := "VectorLanguageModel") (T := FC9) (NN := 33) (by decide +kernel) rfl iC9 (by decide +kernel) (zin 767 (by decide +kernel) rfl) rfl) ?_
  refine zap (zcV_mono _ _ _ _) (zcV_ok znst_st (μ' := 95) (na := 2) (ci := 9) (index := 180) (q := (RC9, FC9, 33)) (by decide +kernel) (by decide +kernel) rfl (zgV (zin 884 (by decide +kernel) rfl) (zin 886 (by decide +kernel) rfl) (zsel 38 (by decide +kernel) rfl) (zin 9 (by decide +kernel) rfl) (zin 887 (by decide +kernel) rfl)) (by decide +kernel) (by decide +kernel)) ?_
  refine zap (zretV_mono) (zretV_ok (by decide +kernel) rfl) ?_
  exact zn
/-- VectorLanguageModel.argue(IIII)V -/
def tb120 (tys : List (ClassId × FieldType)) : List (Nat × (zP → zP)) := [(0, zi (gIl 3) 1), (1, zb (c1 (fun x => 0 ≤ x)) 5), (4, zretV), (5, zi (gAl 0) 1), (6, zget 9 15), (9, zi (gC (.int (10))) 2), (11, zi (gIl 1) 1), (12, zi (gII (fun x y => x * y)) 1), (13, zi (gIl 2) 1), (14, zi (gII (fun x y => x + y)) 1), (15, zi (gC (.int (2))) 1), (16, ziast tys), (17, zi (gAl 0) 1), (18, zget 9 17), (21, zi (gC (.int (10))) 2), (23, zi (gIl 1) 1), (24, zi (gII (fun x y => x * y)) 1), (25, zi (gIl 2) 1), (26, zi (gII (fun x y => x + y)) 1), (27, zi (gIl 3) 1), (28, ziast tys), (29, zi (gAl 0) 1), (30, zget 9 18), (33, zi (gC (.int (10))) 2), (35, zi (gIl 1) 1), (36, zi (gII (fun x y => x * y)) 1), (37, zi (gIl 2) 1), (38, zi (gII (fun x y => x + y)) 1), (39, zi (gIl 4) 2), (41, ziast tys), (42, zretV)]
set_option maxRecDepth 100000 in
theorem ok120 (l : Launch) (D : va_G) (dA : Nat → ClassId) (b0 : Nat) : ∀ q ∈ tb120 (ztys dA), zOK l D dA b0 120 q.1 q.2 := by
  refine zap (zi_mono _ _) (zi_ok (zg_iload_n (j := 3) (by decide +kernel) rfl)) ?_
  refine zap (zb_mono _ _) (zb_ok (zb_ge (off := 4) (by decide +kernel) (by decide +kernel))) ?_
  refine zap (zretV_mono) (zretV_ok (by decide +kernel) rfl) ?_
  refine zap (zi_mono _ _) (zi_ok (zg_aload_n (j := 0) (by decide +kernel) rfl)) ?_
  refine zap (zget_mono _ _) (zget_ok (index := 42) (C := RC9) (ref := "VectorLanguageModel") (T := FC9) (NN := 33) (by decide +kernel) rfl iC9 (by decide +kernel) (zin 768 (by decide +kernel) rfl) rfl) ?_
  refine zap (zi_mono _ _) (zi_ok (zg_bipush (n := 10) (by decide +kernel) (by decide +kernel))) ?_
  refine zap (zi_mono _ _) (zi_ok (zg_iload_n (j := 1) (by decide +kernel) rfl)) ?_
  refine zap (zi_mono _ _) (zi_ok (zg_imul (by decide +kernel))) ?_
  refine zap (zi_mono _ _) (zi_ok (zg_iload_n (j := 2) (by decide +kernel) rfl)) ?_
  refine zap (zi_mono _ _) (zi_ok (zg_iadd (by decide +kernel))) ?_
  refine zap (zi_mono _ _) (zi_ok (zg_iconst (n := 2) (by decide +kernel) (by decide +kernel))) ?_
  refine zap (ziast_mono _) (ziast_ok (by decide +kernel)) ?_
  refine zap (zi_mono _ _) (zi_ok (zg_aload_n (j := 0) (by decide +kernel) rfl)) ?_
  refine zap (zget_mono _ _) (zget_ok (index := 48) (C := RC9) (ref := "VectorLanguageModel") (T := FC9) (NN := 33) (by decide +kernel) rfl iC9 (by decide +kernel) (zin 770 (by decide +kernel) rfl) rfl) ?_
  refine zap (zi_mono _ _) (zi_ok (zg_bipush (n := 10) (by decide +kernel) (by decide +kernel))) ?_
  refine zap (zi_mono _ _) (zi_ok (zg_iload_n (j := 1) (by decide +kernel) rfl)) ?_
  refine zap (zi_mono _ _) (zi_ok (zg_imul (by decide +kernel))) ?_
  refine zap (zi_mono _ _) (zi_ok (zg_iload_n (j := 2) (by decide +kernel) rfl)) ?_
  refine zap (zi_mono _ _) (zi_ok (zg_iadd (by decide +kernel))) ?_
  refine zap (zi_mono _ _) (zi_ok (zg_iload_n (j := 3) (by decide +kernel) rfl)) ?_
  refine zap (ziast_mono _) (ziast_ok (by decide +kernel)) ?_
  refine zap (zi_mono _ _) (zi_ok (zg_aload_n (j := 0) (by decide +kernel) rfl)) ?_
  refine zap (zget_mono _ _) (zget_ok (index := 51) (C := RC9) (ref := "VectorLanguageModel") (T := FC9) (NN := 33) (by decide +kernel) rfl iC9 (by decide +kernel) (zin 771 (by decide +kernel) rfl) rfl) ?_
  refine zap (zi_mono _ _) (zi_ok (zg_bipush (n := 10) (by decide +kernel) (by decide +kernel))) ?_
  refine zap (zi_mono _ _) (zi_ok (zg_iload_n (j := 1) (by decide +kernel) rfl)) ?_
  refine zap (zi_mono _ _) (zi_ok (zg_imul (by decide +kernel))) ?_
  refine zap (zi_mono _ _) (zi_ok (zg_iload_n (j := 2) (by decide +kernel) rfl)) ?_
  refine zap (zi_mono _ _) (zi_ok (zg_iadd (by decide +kernel))) ?_
  refine zap (zi_mono _ _) (zi_ok (zg_iload (by decide +kernel))) ?_
  refine zap (ziast_mono _) (ziast_ok (by decide +kernel)) ?_
  refine zap (zretV_mono) (zretV_ok (by decide +kernel) rfl) ?_
  exact zn
/-- VectorLanguageModel.missing(II)V -/
def tb121 (tys : List (ClassId × FieldType)) : List (Nat × (zP → zP)) := [(0, zi (gAl 0) 1), (1, zget 9 20), (4, zi (gIl 1) 1), (5, ziald tys), (6, zi (gIs 3) 1), (7, zi (gAl 0) 1), (8, zget 9 12), (11, zi (gIl 3) 1), (12, ziald tys), (13, zi (gIs 4) 2), (15, zi (gIl 3) 1), (16, zb (c1 (fun x => x = 0)) 49), (19, zi (gIl 2) 1), (20, zi (gAl 0) 1), (21, zget 9 4), (24, zi (gIl 4) 2), (26, ziald tys), (27, zb (c2 (fun x y => x < y)) 49), (30, zi (gIl 2) 1), (31, zi (gAl 0) 1), (32, zget 9 4), (35, zi (gIl 4) 2), (37, ziald tys), (38, zi (gAl 0) 1), (39, zget 9 3), (42, zi (gIl 4) 2), (44, ziald tys), (45, zi (gII (fun x y => x + y)) 1), (46, zb (c2 (fun x y => x < y)) 58), (49, zi (gAl 0) 1), (50, zi (gC (.int (6))) 2), (52, zput (.int) 9 29), (55, zj 89), (58, zi (gAl 0) 1), (59, zi (gAl 0) 1), (60, zi (gIl 2) 1), (61, zi (gAl 0) 1), (62, zget 9 4), (65, zi (gIl 4) 2), (67, ziald tys), (68, zi (gII (fun x y => x - y)) 1), (69, zi (gAl 0) 1), (70, zget 9 13), (73, zi (gIl 3) 1), (74, ziald tys), (75, zb (c2 (fun x y => x < y)) 82), (78, zi (gC (.int (1))) 1), (79, zj 83), (82, zi (gC (.int (0))) 1), (83, zcV 3 100 1 9), (86, zcV 3 105 1 9), (89, zretV)]
set_option maxRecDepth 100000 in
theorem ok121 (l : Launch) (D : va_G) (dA : Nat → ClassId) (b0 : Nat) : ∀ q ∈ tb121 (ztys dA), zOK l D dA b0 121 q.1 q.2 := by
  refine zap (zi_mono _ _) (zi_ok (zg_aload_n (j := 0) (by decide +kernel) rfl)) ?_
  refine zap (zget_mono _ _) (zget_ok (index := 57) (C := RC9) (ref := "VectorLanguageModel") (T := FC9) (NN := 33) (by decide +kernel) rfl iC9 (by decide +kernel) (zin 773 (by decide +kernel) rfl) rfl) ?_
  refine zap (zi_mono _ _) (zi_ok (zg_iload_n (j := 1) (by decide +kernel) rfl)) ?_
  refine zap (ziald_mono _) (ziald_ok (by decide +kernel)) ?_
  refine zap (zi_mono _ _) (zi_ok (zg_istore_n (j := 3) (by decide +kernel) rfl (by decide +kernel))) ?_
  refine zap (zi_mono _ _) (zi_ok (zg_aload_n (j := 0) (by decide +kernel) rfl)) ?_
  refine zap (zget_mono _ _) (zget_ok (index := 36) (C := RC9) (ref := "VectorLanguageModel") (T := FC9) (NN := 33) (by decide +kernel) rfl iC9 (by decide +kernel) (zin 765 (by decide +kernel) rfl) rfl) ?_
  refine zap (zi_mono _ _) (zi_ok (zg_iload_n (j := 3) (by decide +kernel) rfl)) ?_
  refine zap (ziald_mono _) (ziald_ok (by decide +kernel)) ?_
  refine zap (zi_mono _ _) (zi_ok (zg_istore (by decide +kernel) (by decide +kernel))) ?_
  refine zap (zi_mono _ _) (zi_ok (zg_iload_n (j := 3) (by decide +kernel) rfl)) ?_
  refine zap (zb_mono _ _) (zb_ok (zb_eq (off := 33) (by decide +kernel) (by decide +kernel))) ?_
  refine zap (zi_mono _ _) (zi_ok (zg_iload_n (j := 2) (by decide +kernel) rfl)) ?_
  refine zap (zi_mono _ _) (zi_ok (zg_aload_n (j := 0) (by decide +kernel) rfl)) ?_
  refine zap (zget_mono _ _) (zget_ok (index := 19) (C := RC9) (ref := "VectorLanguageModel") (T := FC9) (NN := 33) (by decide +kernel) rfl iC9 (by decide +kernel) (zin 757 (by decide +kernel) rfl) rfl) ?_
  refine zap (zi_mono _ _) (zi_ok (zg_iload (by decide +kernel))) ?_
  refine zap (ziald_mono _) (ziald_ok (by decide +kernel)) ?_
  refine zap (zb_mono _ _) (zb_ok (zb_ilt (off := 22) (by decide +kernel) (by decide +kernel))) ?_
  refine zap (zi_mono _ _) (zi_ok (zg_iload_n (j := 2) (by decide +kernel) rfl)) ?_
  refine zap (zi_mono _ _) (zi_ok (zg_aload_n (j := 0) (by decide +kernel) rfl)) ?_
  refine zap (zget_mono _ _) (zget_ok (index := 19) (C := RC9) (ref := "VectorLanguageModel") (T := FC9) (NN := 33) (by decide +kernel) rfl iC9 (by decide +kernel) (zin 757 (by decide +kernel) rfl) rfl) ?_
  refine zap (zi_mono _ _) (zi_ok (zg_iload (by decide +kernel))) ?_
  refine zap (ziald_mono _) (ziald_ok (by decide +kernel)) ?_
  refine zap (zi_mono _ _) (zi_ok (zg_aload_n (j := 0) (by decide +kernel) rfl)) ?_
  refine zap (zget_mono _ _) (zget_ok (index := 16) (C := RC9) (ref := "VectorLanguageModel") (T := FC9) (NN := 33) (by decide +kernel) rfl iC9 (by decide +kernel) (zin 756 (by decide +kernel) rfl) rfl) ?_
  refine zap (zi_mono _ _) (zi_ok (zg_iload (by decide +kernel))) ?_
  refine zap (ziald_mono _) (ziald_ok (by decide +kernel)) ?_
  refine zap (zi_mono _ _) (zi_ok (zg_iadd (by decide +kernel))) ?_
  refine zap (zb_mono _ _) (zb_ok (zb_ilt (off := 12) (by decide +kernel) (by decide +kernel))) ?_
  refine zap (zi_mono _ _) (zi_ok (zg_aload_n (j := 0) (by decide +kernel) rfl)) ?_
  refine zap (zi_mono _ _) (zi_ok (zg_bipush (n := 6) (by decide +kernel) (by decide +kernel))) ?_
  refine zap (zput_mono _ _ _) (zput_ok (index := 152) (C := RC9) (ref := "VectorLanguageModel") (T := FC9) (NN := 33) tC9 (by decide +kernel) rfl iC9 tC9_ok nC9 (by decide +kernel) (zin 782 (by decide +kernel) rfl) rfl (Or.inl rfl) rfl) ?_
  refine zap (zj_mono _) (zj_ok (off := 34) (by decide +kernel) (by decide +kernel)) ?_
  refine zap (zi_mono _ _) (zi_ok (zg_aload_n (j := 0) (by decide +kernel) rfl)) ?_
  refine zap (zi_mono _ _) (zi_ok (zg_aload_n (j := 0) (by decide +kernel) rfl)) ?_
  refine zap (zi_mono _ _) (zi_ok (zg_iload_n (j := 2) (by decide +kernel) rfl)) ?_
  refine zap (zi_mono _ _) (zi_ok (zg_aload_n (j := 0) (by decide +kernel) rfl)) ?_
  refine zap (zget_mono _ _) (zget_ok (index := 19) (C := RC9) (ref := "VectorLanguageModel") (T := FC9) (NN := 33) (by decide +kernel) rfl iC9 (by decide +kernel) (zin 757 (by decide +kernel) rfl) rfl) ?_
  refine zap (zi_mono _ _) (zi_ok (zg_iload (by decide +kernel))) ?_
  refine zap (ziald_mono _) (ziald_ok (by decide +kernel)) ?_
  refine zap (zi_mono _ _) (zi_ok (zg_isub (by decide +kernel))) ?_
  refine zap (zi_mono _ _) (zi_ok (zg_aload_n (j := 0) (by decide +kernel) rfl)) ?_
  refine zap (zget_mono _ _) (zget_ok (index := 39) (C := RC9) (ref := "VectorLanguageModel") (T := FC9) (NN := 33) (by decide +kernel) rfl iC9 (by decide +kernel) (zin 766 (by decide +kernel) rfl) rfl) ?_
  refine zap (zi_mono _ _) (zi_ok (zg_iload_n (j := 3) (by decide +kernel) rfl)) ?_
  refine zap (ziald_mono _) (ziald_ok (by decide +kernel)) ?_
  refine zap (zb_mono _ _) (zb_ok (zb_ilt (off := 7) (by decide +kernel) (by decide +kernel))) ?_
  refine zap (zi_mono _ _) (zi_ok (zg_iconst (n := 1) (by decide +kernel) (by decide +kernel))) ?_
  refine zap (zj_mono _) (zj_ok (off := 4) (by decide +kernel) (by decide +kernel)) ?_
  refine zap (zi_mono _ _) (zi_ok (zg_iconst (n := 0) (by decide +kernel) (by decide +kernel))) ?_
  refine zap (zcV_mono _ _ _ _) (zcV_ok znst_st (μ' := 100) (na := 1) (ci := 9) (index := 158) (q := (RC9, FC9, 33)) (by decide +kernel) (by decide +kernel) rfl (zgV (zin 903 (by decide +kernel) rfl) (zin 905 (by decide +kernel) rfl) (zsel 42 (by decide +kernel) rfl) (zin 9 (by decide +kernel) rfl) (zin 906 (by decide +kernel) rfl)) (by decide +kernel) (by decide +kernel)) ?_
  refine zap (zcV_mono _ _ _ _) (zcV_ok znst_st (μ' := 105) (na := 1) (ci := 9) (index := 188) (q := (RC9, FC9, 33)) (by decide +kernel) (by decide +kernel) rfl (zgV (zin 924 (by decide +kernel) rfl) (zin 926 (by decide +kernel) rfl) (zsel 47 (by decide +kernel) rfl) (zin 9 (by decide +kernel) rfl) (zin 927 (by decide +kernel) rfl)) (by decide +kernel) (by decide +kernel)) ?_
  refine zap (zretV_mono) (zretV_ok (by decide +kernel) rfl) ?_
  exact zn
/-- VectorLanguageModel.leave(II)V -/
def tb122 (tys : List (ClassId × FieldType)) : List (Nat × (zP → zP)) := [(0, zi (gC (.int (0))) 1), (1, zi (gIs 3) 1), (2, zi (gC (.int (0))) 1), (3, zi (gIs 4) 2), (5, zi (gIl 4) 2), (7, zi (gAl 0) 1), (8, zget 9 25), (11, zb (c2 (fun x y => y ≤ x)) 55), (14, zi (gIl 1) 1), (15, zb (c1 (fun x => x ≤ 0)) 55), (18, zi (gIl 3) 1), (19, zi (gAl 0) 1), (20, zget 9 19), (23, zi (gIl 4) 2), (25, ziald tys), (26, zi (gC (.int (-2))) 2), (28, zb (c2 (fun x y => ¬ x = y)) 46), (31, zi (gAl 0) 1), (32, zget 9 20), (35, zi (gIl 4) 2), (37, ziald tys), (38, zi (gIl 1) 1), (39, zb (c2 (fun x y => ¬ x = y)) 46), (42, zi (gC (.int (1))) 1), (43, zj 47), (46, zi (gC (.int (0))) 1), (47, zi (gII (fun x y => x ||| y)) 1), (48, zi (gIs 3) 1), (49, zi (gIinc 4 (1)) 3), (52, zj 5), (55, zi (gIl 1) 1), (56, zb (c1 (fun x => x ≤ 0)) 70), (59, zi (gIl 3) 1), (60, zb (c1 (fun x => ¬ x = 0)) 70), (63, zi (gAl 0) 1), (64, zi (gC (.int (6))) 2), (66, zput (.int) 9 29), (69, zretV), (70, zi (gAl 0) 1), (71, zget 9 25), (74, zb (c1 (fun x => x ≤ 0)) 119), (77, zi (gIl 3) 1), (78, zb (c1 (fun x => x = 0)) 112), (81, zi (gAl 0) 1), (82, zget 9 19), (85, zi (gAl 0) 1), (86, zget 9 25), (89, zi (gC (.int (1))) 1), (90, zi (gII (fun x y => x - y)) 1), (91, ziald tys), (92, zi (gC (.int (-2))) 2), (94, zb (c2 (fun x y => ¬ x = y)) 112), (97, zi (gAl 0) 1), (98, zget 9 20), (101, zi (gAl 0) 1), (102, zget 9 25), (105, zi (gC (.int (1))) 1), (106, zi (gII (fun x y => x - y)) 1), (107, ziald tys), (108, zi (gIl 1) 1), (109, zb (c2 (fun x y => x = y)) 119), (112, zi (gAl 0) 1), (113, zcV 1 123 0 9), (116, zj 70), (119, zi (gAl 0) 1), (120, zget 9 25), (123, zb (c1 (fun x => ¬ x = 0)) 132), (126, zi (gAl 0) 1), (127, zi (gIl 2) 1), (128, zput (.int) 9 30), (131, zretV), (132, zi (gAl 0) 1), (133, zi (gC (.int (0))) 1), (134, zi (gC (.int (0))) 1), (135, zi (gC (.int (0))) 1), (136, zcV 4 96 3 9), (139, zi (gAl 0) 1), (140, zi (gIl 2) 1), (141, zcV 3 105 1 9), (144, zretV)]
set_option maxRecDepth 100000 in
theorem ok122 (l : Launch) (D : va_G) (dA : Nat → ClassId) (b0 : Nat) : ∀ q ∈ tb122 (ztys dA), zOK l D dA b0 122 q.1 q.2 := by
  refine zap (zi_mono _ _) (zi_ok (zg_iconst (n := 0) (by decide +kernel) (by decide +kernel))) ?_
  refine zap (zi_mono _ _) (zi_ok (zg_istore_n (j := 3) (by decide +kernel) rfl (by decide +kernel))) ?_
  refine zap (zi_mono _ _) (zi_ok (zg_iconst (n := 0) (by decide +kernel) (by decide +kernel))) ?_
  refine zap (zi_mono _ _) (zi_ok (zg_istore (by decide +kernel) (by decide +kernel))) ?_
  refine zap (zi_mono _ _) (zi_ok (zg_iload (by decide +kernel))) ?_
  refine zap (zi_mono _ _) (zi_ok (zg_aload_n (j := 0) (by decide +kernel) rfl)) ?_
  refine zap (zget_mono _ _) (zget_ok (index := 107) (C := RC9) (ref := "VectorLanguageModel") (T := FC9) (NN := 33) (by decide +kernel) rfl iC9 (by decide +kernel) (zin 778 (by decide +kernel) rfl) rfl) ?_
  refine zap (zb_mono _ _) (zb_ok (zb_ige (off := 44) (by decide +kernel) (by decide +kernel))) ?_
  refine zap (zi_mono _ _) (zi_ok (zg_iload_n (j := 1) (by decide +kernel) rfl)) ?_
  refine zap (zb_mono _ _) (zb_ok (zb_le (off := 40) (by decide +kernel) (by decide +kernel))) ?_
  refine zap (zi_mono _ _) (zi_ok (zg_iload_n (j := 3) (by decide +kernel) rfl)) ?_
  refine zap (zi_mono _ _) (zi_ok (zg_aload_n (j := 0) (by decide +kernel) rfl)) ?_
  refine zap (zget_mono _ _) (zget_ok (index := 54) (C := RC9) (ref := "VectorLanguageModel") (T := FC9) (NN := 33) (by decide +kernel) rfl iC9 (by decide +kernel) (zin 772 (by decide +kernel) rfl) rfl) ?_
  refine zap (zi_mono _ _) (zi_ok (zg_iload (by decide +kernel))) ?_
  refine zap (ziald_mono _) (ziald_ok (by decide +kernel)) ?_
  refine zap (zi_mono _ _) (zi_ok (zg_bipush (n := -2) (by decide +kernel) (by decide +kernel))) ?_
  refine zap (zb_mono _ _) (zb_ok (zb_ine (off := 18) (by decide +kernel) (by decide +kernel))) ?_
  refine zap (zi_mono _ _) (zi_ok (zg_aload_n (j := 0) (by decide +kernel) rfl)) ?_
  refine zap (zget_mono _ _) (zget_ok (index := 57) (C := RC9) (ref := "VectorLanguageModel") (T := FC9) (NN := 33) (by decide +kernel) rfl iC9 (by decide +kernel) (zin 773 (by decide +kernel) rfl) rfl) ?_
  refine zap (zi_mono _ _) (zi_ok (zg_iload (by decide +kernel))) ?_
  refine zap (ziald_mono _) (ziald_ok (by decide +kernel)) ?_
  refine zap (zi_mono _ _) (zi_ok (zg_iload_n (j := 1) (by decide +kernel) rfl)) ?_
  refine zap (zb_mono _ _) (zb_ok (zb_ine (off := 7) (by decide +kernel) (by decide +kernel))) ?_
  refine zap (zi_mono _ _) (zi_ok (zg_iconst (n := 1) (by decide +kernel) (by decide +kernel))) ?_
  refine zap (zj_mono _) (zj_ok (off := 4) (by decide +kernel) (by decide +kernel)) ?_
  refine zap (zi_mono _ _) (zi_ok (zg_iconst (n := 0) (by decide +kernel) (by decide +kernel))) ?_
  refine zap (zi_mono _ _) (zi_ok (zg_ior (by decide +kernel))) ?_
  refine zap (zi_mono _ _) (zi_ok (zg_istore_n (j := 3) (by decide +kernel) rfl (by decide +kernel))) ?_
  refine zap (zi_mono _ _) (zi_ok (zg_iinc (n := 1) (by decide +kernel) (by decide +kernel) (by decide +kernel))) ?_
  refine zap (zj_mono _) (zj_ok (off := -47) (by decide +kernel) (by decide +kernel)) ?_
  refine zap (zi_mono _ _) (zi_ok (zg_iload_n (j := 1) (by decide +kernel) rfl)) ?_
  refine zap (zb_mono _ _) (zb_ok (zb_le (off := 14) (by decide +kernel) (by decide +kernel))) ?_
  refine zap (zi_mono _ _) (zi_ok (zg_iload_n (j := 3) (by decide +kernel) rfl)) ?_
  refine zap (zb_mono _ _) (zb_ok (zb_ne (off := 10) (by decide +kernel) (by decide +kernel))) ?_
  refine zap (zi_mono _ _) (zi_ok (zg_aload_n (j := 0) (by decide +kernel) rfl)) ?_
  refine zap (zi_mono _ _) (zi_ok (zg_bipush (n := 6) (by decide +kernel) (by decide +kernel))) ?_
  refine zap (zput_mono _ _ _) (zput_ok (index := 152) (C := RC9) (ref := "VectorLanguageModel") (T := FC9) (NN := 33) tC9 (by decide +kernel) rfl iC9 tC9_ok nC9 (by decide +kernel) (zin 782 (by decide +kernel) rfl) rfl (Or.inl rfl) rfl) ?_
  refine zap (zretV_mono) (zretV_ok (by decide +kernel) rfl) ?_
  refine zap (zi_mono _ _) (zi_ok (zg_aload_n (j := 0) (by decide +kernel) rfl)) ?_
  refine zap (zget_mono _ _) (zget_ok (index := 107) (C := RC9) (ref := "VectorLanguageModel") (T := FC9) (NN := 33) (by decide +kernel) rfl iC9 (by decide +kernel) (zin 778 (by decide +kernel) rfl) rfl) ?_
  refine zap (zb_mono _ _) (zb_ok (zb_le (off := 45) (by decide +kernel) (by decide +kernel))) ?_
  refine zap (zi_mono _ _) (zi_ok (zg_iload_n (j := 3) (by decide +kernel) rfl)) ?_
  refine zap (zb_mono _ _) (zb_ok (zb_eq (off := 34) (by decide +kernel) (by decide +kernel))) ?_
  refine zap (zi_mono _ _) (zi_ok (zg_aload_n (j := 0) (by decide +kernel) rfl)) ?_
  refine zap (zget_mono _ _) (zget_ok (index := 54) (C := RC9) (ref := "VectorLanguageModel") (T := FC9) (NN := 33) (by decide +kernel) rfl iC9 (by decide +kernel) (zin 772 (by decide +kernel) rfl) rfl) ?_
  refine zap (zi_mono _ _) (zi_ok (zg_aload_n (j := 0) (by decide +kernel) rfl)) ?_
  refine zap (zget_mono _ _) (zget_ok (index := 107) (C := RC9) (ref := "VectorLanguageModel") (T := FC9) (NN := 33) (by decide +kernel) rfl iC9 (by decide +kernel) (zin 778 (by decide +kernel) rfl) rfl) ?_
  refine zap (zi_mono _ _) (zi_ok (zg_iconst (n := 1) (by decide +kernel) (by decide +kernel))) ?_
  refine zap (zi_mono _ _) (zi_ok (zg_isub (by decide +kernel))) ?_
  refine zap (ziald_mono _) (ziald_ok (by decide +kernel)) ?_
  refine zap (zi_mono _ _) (zi_ok (zg_bipush (n := -2) (by decide +kernel) (by decide +kernel))) ?_
  refine zap (zb_mono _ _) (zb_ok (zb_ine (off := 18) (by decide +kernel) (by decide +kernel))) ?_
  refine zap (zi_mono _ _) (zi_ok (zg_aload_n (j := 0) (by decide +kernel) rfl)) ?_
  refine zap (zget_mono _ _) (zget_ok (index := 57) (C := RC9) (ref := "VectorLanguageModel") (T := FC9) (NN := 33) (by decide +kernel) rfl iC9 (by decide +kernel) (zin 773 (by decide +kernel) rfl) rfl) ?_
  refine zap (zi_mono _ _) (zi_ok (zg_aload_n (j := 0) (by decide +kernel) rfl)) ?_
  refine zap (zget_mono _ _) (zget_ok (index := 107) (C := RC9) (ref := "VectorLanguageModel") (T := FC9) (NN := 33) (by decide +kernel) rfl iC9 (by decide +kernel) (zin 778 (by decide +kernel) rfl) rfl) ?_
  refine zap (zi_mono _ _) (zi_ok (zg_iconst (n := 1) (by decide +kernel) (by decide +kernel))) ?_
  refine zap (zi_mono _ _) (zi_ok (zg_isub (by decide +kernel))) ?_
  refine zap (ziald_mono _) (ziald_ok (by decide +kernel)) ?_
  refine zap (zi_mono _ _) (zi_ok (zg_iload_n (j := 1) (by decide +kernel) rfl)) ?_
  refine zap (zb_mono _ _) (zb_ok (zb_ieq (off := 10) (by decide +kernel) (by decide +kernel))) ?_
  refine zap (zi_mono _ _) (zi_ok (zg_aload_n (j := 0) (by decide +kernel) rfl)) ?_
  refine zap (zcV_mono _ _ _ _) (zcV_ok znst_st (μ' := 123) (na := 0) (ci := 9) (index := 197) (q := (RC9, FC9, 33)) (by decide +kernel) (by decide +kernel) rfl (zgV (zin 997 (by decide +kernel) rfl) (zin 999 (by decide +kernel) rfl) (zsel 65 (by decide +kernel) rfl) (zin 9 (by decide +kernel) rfl) (zin 1000 (by decide +kernel) rfl)) (by decide +kernel) (by decide +kernel)) ?_
  refine zap (zj_mono _) (zj_ok (off := -46) (by decide +kernel) (by decide +kernel)) ?_
  refine zap (zi_mono _ _) (zi_ok (zg_aload_n (j := 0) (by decide +kernel) rfl)) ?_
  refine zap (zget_mono _ _) (zget_ok (index := 107) (C := RC9) (ref := "VectorLanguageModel") (T := FC9) (NN := 33) (by decide +kernel) rfl iC9 (by decide +kernel) (zin 778 (by decide +kernel) rfl) rfl) ?_
  refine zap (zb_mono _ _) (zb_ok (zb_ne (off := 9) (by decide +kernel) (by decide +kernel))) ?_
  refine zap (zi_mono _ _) (zi_ok (zg_aload_n (j := 0) (by decide +kernel) rfl)) ?_
  refine zap (zi_mono _ _) (zi_ok (zg_iload_n (j := 2) (by decide +kernel) rfl)) ?_
  refine zap (zput_mono _ _ _) (zput_ok (index := 72) (C := RC9) (ref := "VectorLanguageModel") (T := FC9) (NN := 33) tC9 (by decide +kernel) rfl iC9 tC9_ok nC9 (by decide +kernel) (zin 783 (by decide +kernel) rfl) rfl (Or.inl rfl) rfl) ?_
  refine zap (zretV_mono) (zretV_ok (by decide +kernel) rfl) ?_
  refine zap (zi_mono _ _) (zi_ok (zg_aload_n (j := 0) (by decide +kernel) rfl)) ?_
  refine zap (zi_mono _ _) (zi_ok (zg_iconst (n := 0) (by decide +kernel) (by decide +kernel))) ?_
  refine zap (zi_mono _ _) (zi_ok (zg_iconst (n := 0) (by decide +kernel) (by decide +kernel))) ?_
  refine zap (zi_mono _ _) (zi_ok (zg_iconst (n := 0) (by decide +kernel) (by decide +kernel))) ?_
  refine zap (zcV_mono _ _ _ _) (zcV_ok znst_st (μ' := 96) (na := 3) (ci := 9) (index := 174) (q := (RC9, FC9, 33)) (by decide +kernel) (by decide +kernel) rfl (zgV (zin 888 (by decide +kernel) rfl) (zin 890 (by decide +kernel) rfl) (zsel 39 (by decide +kernel) rfl) (zin 9 (by decide +kernel) rfl) (zin 891 (by decide +kernel) rfl)) (by decide +kernel) (by decide +kernel)) ?_
  refine zap (zi_mono _ _) (zi_ok (zg_aload_n (j := 0) (by decide +kernel) rfl)) ?_
  refine zap (zi_mono _ _) (zi_ok (zg_iload_n (j := 2) (by decide +kernel) rfl)) ?_
  refine zap (zcV_mono _ _ _ _) (zcV_ok znst_st (μ' := 105) (na := 1) (ci := 9) (index := 188) (q := (RC9, FC9, 33)) (by decide +kernel) (by decide +kernel) rfl (zgV (zin 924 (by decide +kernel) rfl) (zin 926 (by decide +kernel) rfl) (zsel 47 (by decide +kernel) rfl) (zin 9 (by decide +kernel) rfl) (zin 927 (by decide +kernel) rfl)) (by decide +kernel) (by decide +kernel)) ?_
  refine zap (zretV_mono) (zretV_ok (by decide +kernel) rfl) ?_
  exact zn
/-- VectorLanguageModel.drop()V -/
def tb123 (tys : List (ClassId × FieldType)) : List (Nat × (zP → zP)) := [(0, zi (gAl 0) 1), (1, zi (gDup) 1), (2, zget 9 25), (5, zi (gC (.int (1))) 1), (6, zi (gII (fun x y => x - y)) 1), (7, zput (.int) 9 25), (10, zi (gAl 0) 1), (11, zget 9 19), (14, zi (gAl 0) 1), (15, zget 9 25), (18, ziald tys), (19, zb (c1 (fun x => x < 0)) 32), (22, zi (gAl 0) 1), (23, zi (gDup) 1), (24, zget 9 26), (27, zi (gC (.int (1))) 1), (28, zi (gII (fun x y => x - y)) 1), (29, zput (.int) 9 26), (32, zi (gAl 0) 1), (33, zget 9 19), (36, zi (gAl 0) 1), (37, zget 9 25), (40, ziald tys), (41, zi (gC (.int (-1))) 1), (42, zb (c2 (fun x y => ¬ x = y)) 78), (45, zi (gAl 0) 1), (46, zget 9 15), (49, zi (gAl 0) 1), (50, zget 9 21), (53, zi (gAl 0) 1), (54, zget 9 25), (57, ziald tys), (58, ziald tys), (59, zi (gC (.int (3))) 1), (60, zb (c2 (fun x y => ¬ x = y)) 78), (63, zi (gAl 0) 1), (64, zget 9 15), (67, zi (gAl 0) 1), (68, zget 9 21), (71, zi (gAl 0) 1), (72, zget 9 25), (75, ziald tys), (76, zi (gC (.int (2))) 1), (77, ziast tys), (78, zretV)]
set_option maxRecDepth 100000 in
theorem ok123 (l : Launch) (D : va_G) (dA : Nat → ClassId) (b0 : Nat) : ∀ q ∈ tb123 (ztys dA), zOK l D dA b0 123 q.1 q.2 := by
  refine zap (zi_mono _ _) (zi_ok (zg_aload_n (j := 0) (by decide +kernel) rfl)) ?_
  refine zap (zi_mono _ _) (zi_ok (zg_dup (by decide +kernel))) ?_
  refine zap (zget_mono _ _) (zget_ok (index := 107) (C := RC9) (ref := "VectorLanguageModel") (T := FC9) (NN := 33) (by decide +kernel) rfl iC9 (by decide +kernel) (zin 778 (by decide +kernel) rfl) rfl) ?_
  refine zap (zi_mono _ _) (zi_ok (zg_iconst (n := 1) (by decide +kernel) (by decide +kernel))) ?_
  refine zap (zi_mono _ _) (zi_ok (zg_isub (by decide +kernel))) ?_
  refine zap (zput_mono _ _ _) (zput_ok (index := 107) (C := RC9) (ref := "VectorLanguageModel") (T := FC9) (NN := 33) tC9 (by decide +kernel) rfl iC9 tC9_ok nC9 (by decide +kernel) (zin 778 (by decide +kernel) rfl) rfl (Or.inl rfl) rfl) ?_
  refine zap (zi_mono _ _) (zi_ok (zg_aload_n (j := 0) (by decide +kernel) rfl)) ?_
  refine zap (zget_mono _ _) (zget_ok (index := 54) (C := RC9) (ref := "VectorLanguageModel") (T := FC9) (NN := 33) (by decide +kernel) rfl iC9 (by decide +kernel) (zin 772 (by decide +kernel) rfl) rfl) ?_
  refine zap (zi_mono _ _) (zi_ok (zg_aload_n (j := 0) (by decide +kernel) rfl)) ?_
  refine zap (zget_mono _ _) (zget_ok (index := 107) (C := RC9) (ref := "VectorLanguageModel") (T := FC9) (NN := 33) (by decide +kernel) rfl iC9 (by decide +kernel) (zin 778 (by decide +kernel) rfl) rfl) ?_
  refine zap (ziald_mono _) (ziald_ok (by decide +kernel)) ?_
  refine zap (zb_mono _ _) (zb_ok (zb_lt (off := 13) (by decide +kernel) (by decide +kernel))) ?_
  refine zap (zi_mono _ _) (zi_ok (zg_aload_n (j := 0) (by decide +kernel) rfl)) ?_
  refine zap (zi_mono _ _) (zi_ok (zg_dup (by decide +kernel))) ?_
  refine zap (zget_mono _ _) (zget_ok (index := 171) (C := RC9) (ref := "VectorLanguageModel") (T := FC9) (NN := 33) (by decide +kernel) rfl iC9 (by decide +kernel) (zin 779 (by decide +kernel) rfl) rfl) ?_
  refine zap (zi_mono _ _) (zi_ok (zg_iconst (n := 1) (by decide +kernel) (by decide +kernel))) ?_
  refine zap (zi_mono _ _) (zi_ok (zg_isub (by decide +kernel))) ?_
  refine zap (zput_mono _ _ _) (zput_ok (index := 171) (C := RC9) (ref := "VectorLanguageModel") (T := FC9) (NN := 33) tC9 (by decide +kernel) rfl iC9 tC9_ok nC9 (by decide +kernel) (zin 779 (by decide +kernel) rfl) rfl (Or.inl rfl) rfl) ?_
  refine zap (zi_mono _ _) (zi_ok (zg_aload_n (j := 0) (by decide +kernel) rfl)) ?_
  refine zap (zget_mono _ _) (zget_ok (index := 54) (C := RC9) (ref := "VectorLanguageModel") (T := FC9) (NN := 33) (by decide +kernel) rfl iC9 (by decide +kernel) (zin 772 (by decide +kernel) rfl) rfl) ?_
  refine zap (zi_mono _ _) (zi_ok (zg_aload_n (j := 0) (by decide +kernel) rfl)) ?_
  refine zap (zget_mono _ _) (zget_ok (index := 107) (C := RC9) (ref := "VectorLanguageModel") (T := FC9) (NN := 33) (by decide +kernel) rfl iC9 (by decide +kernel) (zin 778 (by decide +kernel) rfl) rfl) ?_
  refine zap (ziald_mono _) (ziald_ok (by decide +kernel)) ?_
  refine zap (zi_mono _ _) (zi_ok (zg_iconst (n := -1) (by decide +kernel) (by decide +kernel))) ?_
  refine zap (zb_mono _ _) (zb_ok (zb_ine (off := 36) (by decide +kernel) (by decide +kernel))) ?_
  refine zap (zi_mono _ _) (zi_ok (zg_aload_n (j := 0) (by decide +kernel) rfl)) ?_
  refine zap (zget_mono _ _) (zget_ok (index := 42) (C := RC9) (ref := "VectorLanguageModel") (T := FC9) (NN := 33) (by decide +kernel) rfl iC9 (by decide +kernel) (zin 768 (by decide +kernel) rfl) rfl) ?_
  refine zap (zi_mono _ _) (zi_ok (zg_aload_n (j := 0) (by decide +kernel) rfl)) ?_
  refine zap (zget_mono _ _) (zget_ok (index := 60) (C := RC9) (ref := "VectorLanguageModel") (T := FC9) (NN := 33) (by decide +kernel) rfl iC9 (by decide +kernel) (zin 774 (by decide +kernel) rfl) rfl) ?_
  refine zap (zi_mono _ _) (zi_ok (zg_aload_n (j := 0) (by decide +kernel) rfl)) ?_
  refine zap (zget_mono _ _) (zget_ok (index := 107) (C := RC9) (ref := "VectorLanguageModel") (T := FC9) (NN := 33) (by decide +kernel) rfl iC9 (by decide +kernel) (zin 778 (by decide +kernel) rfl) rfl) ?_
  refine zap (ziald_mono _) (ziald_ok (by decide +kernel)) ?_
  refine zap (ziald_mono _) (ziald_ok (by decide +kernel)) ?_
  refine zap (zi_mono _ _) (zi_ok (zg_iconst (n := 3) (by decide +kernel) (by decide +kernel))) ?_
  refine zap (zb_mono _ _) (zb_ok (zb_ine (off := 18) (by decide +kernel) (by decide +kernel))) ?_
  refine zap (zi_mono _ _) (zi_ok (zg_aload_n (j := 0) (by decide +kernel) rfl)) ?_
  refine zap (zget_mono _ _) (zget_ok (index := 42) (C := RC9) (ref := "VectorLanguageModel") (T := FC9) (NN := 33) (by decide +kernel) rfl iC9 (by decide +kernel) (zin 768 (by decide +kernel) rfl) rfl) ?_
  refine zap (zi_mono _ _) (zi_ok (zg_aload_n (j := 0) (by decide +kernel) rfl)) ?_
  refine zap (zget_mono _ _) (zget_ok (index := 60) (C := RC9) (ref := "VectorLanguageModel") (T := FC9) (NN := 33) (by decide +kernel) rfl iC9 (by decide +kernel) (zin 774 (by decide +kernel) rfl) rfl) ?_
  refine zap (zi_mono _ _) (zi_ok (zg_aload_n (j := 0) (by decide +kernel) rfl)) ?_
  refine zap (zget_mono _ _) (zget_ok (index := 107) (C := RC9) (ref := "VectorLanguageModel") (T := FC9) (NN := 33) (by decide +kernel) rfl iC9 (by decide +kernel) (zin 778 (by decide +kernel) rfl) rfl) ?_
  refine zap (ziald_mono _) (ziald_ok (by decide +kernel)) ?_
  refine zap (zi_mono _ _) (zi_ok (zg_iconst (n := 2) (by decide +kernel) (by decide +kernel))) ?_
  refine zap (ziast_mono _) (ziast_ok (by decide +kernel)) ?_
  refine zap (zretV_mono) (zretV_ok (by decide +kernel) rfl) ?_
  exact zn
/-- VectorLanguageModel.complain(I)V -/
def tb124 (tys : List (ClassId × FieldType)) : List (Nat × (zP → zP)) := [(0, zi (gAl 0) 1), (1, zget 9 7), (4, zi (gIl 1) 1), (5, ziald tys), (6, zb (c1 (fun x => 0 ≤ x)) 15), (9, zi (gAl 0) 1), (10, zi (gC (.int (3))) 1), (11, zput (.int) 9 29), (14, zretV), (15, zi (gAl 0) 1), (16, zget 9 7), (19, zi (gIl 1) 1), (20, ziald tys), (21, zb (c1 (fun x => ¬ x = 0)) 29), (24, zi (gC (.int (-2147483648))) 2), (26, zj 35), (29, zi (gAl 0) 1), (30, zi (gIl 1) 1), (31, zi (gC (.int (0))) 1), (32, zcV 3 114 2 9), (35, zi (gIs 2) 1), (36, zi (gAl 0) 1), (37, zi (gC (.int (100))) 2), (39, zi (gIl 2) 1), (40, zi (gC (.int (0))) 1), (41, zi (gC (.int (99))) 2), (43, zcS 3 91 3), (46, zb (c1 (fun x => x = 0)) 53), (49, zi (gIl 2) 1), (50, zj 54), (53, zi (gC (.int (0))) 1), (54, zi (gII (fun x y => x + y)) 1), (55, zput (.int) 9 29), (58, zretV)]
set_option maxRecDepth 100000 in
theorem ok124 (l : Launch) (D : va_G) (dA : Nat → ClassId) (b0 : Nat) : ∀ q ∈ tb124 (ztys dA), zOK l D dA b0 124 q.1 q.2 := by
  refine zap (zi_mono _ _) (zi_ok (zg_aload_n (j := 0) (by decide +kernel) rfl)) ?_
  refine zap (zget_mono _ _) (zget_ok (index := 26) (C := RC9) (ref := "VectorLanguageModel") (T := FC9) (NN := 33) (by decide +kernel) rfl iC9 (by decide +kernel) (zin 760 (by decide +kernel) rfl) rfl) ?_
  refine zap (zi_mono _ _) (zi_ok (zg_iload_n (j := 1) (by decide +kernel) rfl)) ?_
  refine zap (ziald_mono _) (ziald_ok (by decide +kernel)) ?_
  refine zap (zb_mono _ _) (zb_ok (zb_ge (off := 9) (by decide +kernel) (by decide +kernel))) ?_
  refine zap (zi_mono _ _) (zi_ok (zg_aload_n (j := 0) (by decide +kernel) rfl)) ?_
  refine zap (zi_mono _ _) (zi_ok (zg_iconst (n := 3) (by decide +kernel) (by decide +kernel))) ?_
  refine zap (zput_mono _ _ _) (zput_ok (index := 152) (C := RC9) (ref := "VectorLanguageModel") (T := FC9) (NN := 33) tC9 (by decide +kernel) rfl iC9 tC9_ok nC9 (by decide +kernel) (zin 782 (by decide +kernel) rfl) rfl (Or.inl rfl) rfl) ?_
  refine zap (zretV_mono) (zretV_ok (by decide +kernel) rfl) ?_
  refine zap (zi_mono _ _) (zi_ok (zg_aload_n (j := 0) (by decide +kernel) rfl)) ?_
  refine zap (zget_mono _ _) (zget_ok (index := 26) (C := RC9) (ref := "VectorLanguageModel") (T := FC9) (NN := 33) (by decide +kernel) rfl iC9 (by decide +kernel) (zin 760 (by decide +kernel) rfl) rfl) ?_
  refine zap (zi_mono _ _) (zi_ok (zg_iload_n (j := 1) (by decide +kernel) rfl)) ?_
  refine zap (ziald_mono _) (ziald_ok (by decide +kernel)) ?_
  refine zap (zb_mono _ _) (zb_ok (zb_ne (off := 8) (by decide +kernel) (by decide +kernel))) ?_
  refine zap (zi_mono _ _) (zi_ok (zg_ldc (index := 129) (by decide +kernel) (zin 928 (by decide +kernel) rfl))) ?_
  refine zap (zj_mono _) (zj_ok (off := 9) (by decide +kernel) (by decide +kernel)) ?_
  refine zap (zi_mono _ _) (zi_ok (zg_aload_n (j := 0) (by decide +kernel) rfl)) ?_
  refine zap (zi_mono _ _) (zi_ok (zg_iload_n (j := 1) (by decide +kernel) rfl)) ?_
  refine zap (zi_mono _ _) (zi_ok (zg_iconst (n := 0) (by decide +kernel) (by decide +kernel))) ?_
  refine zap (zcV_mono _ _ _ _) (zcV_ok znst_st (μ' := 114) (na := 2) (ci := 9) (index := 138) (q := (RC9, FC9, 33)) (by decide +kernel) (by decide +kernel) rfl (zgV (zin 961 (by decide +kernel) rfl) (zin 963 (by decide +kernel) rfl) (zsel 56 (by decide +kernel) rfl) (zin 9 (by decide +kernel) rfl) (zin 964 (by decide +kernel) rfl)) (by decide +kernel) (by decide +kernel)) ?_
  refine zap (zi_mono _ _) (zi_ok (zg_istore_n (j := 2) (by decide +kernel) rfl (by decide +kernel))) ?_
  refine zap (zi_mono _ _) (zi_ok (zg_aload_n (j := 0) (by decide +kernel) rfl)) ?_
  refine zap (zi_mono _ _) (zi_ok (zg_bipush (n := 100) (by decide +kernel) (by decide +kernel))) ?_
  refine zap (zi_mono _ _) (zi_ok (zg_iload_n (j := 2) (by decide +kernel) rfl)) ?_
  refine zap (zi_mono _ _) (zi_ok (zg_iconst (n := 0) (by decide +kernel) (by decide +kernel))) ?_
  refine zap (zi_mono _ _) (zi_ok (zg_bipush (n := 99) (by decide +kernel) (by decide +kernel))) ?_
  refine zap (zcS_mono _ _ _) (zcS_ok znst_st (μ' := 91) (na := 3) (index := 85) (by decide +kernel) (by decide +kernel) (zgS (zin 869 (by decide +kernel) rfl) (zin 870 (by decide +kernel) rfl) (zin 9 (by decide +kernel) rfl) (zin 871 (by decide +kernel) rfl)) (by decide +kernel) (by decide +kernel)) ?_
  refine zap (zb_mono _ _) (zb_ok (zb_eq (off := 7) (by decide +kernel) (by decide +kernel))) ?_
  refine zap (zi_mono _ _) (zi_ok (zg_iload_n (j := 2) (by decide +kernel) rfl)) ?_
  refine zap (zj_mono _) (zj_ok (off := 4) (by decide +kernel) (by decide +kernel)) ?_
  refine zap (zi_mono _ _) (zi_ok (zg_iconst (n := 0) (by decide +kernel) (by decide +kernel))) ?_
  refine zap (zi_mono _ _) (zi_ok (zg_iadd (by decide +kernel))) ?_
  refine zap (zput_mono _ _ _) (zput_ok (index := 152) (C := RC9) (ref := "VectorLanguageModel") (T := FC9) (NN := 33) tC9 (by decide +kernel) rfl iC9 tC9_ok nC9 (by decide +kernel) (zin 782 (by decide +kernel) rfl) rfl (Or.inl rfl) rfl) ?_
  refine zap (zretV_mono) (zretV_ok (by decide +kernel) rfl) ?_
  exact zn
