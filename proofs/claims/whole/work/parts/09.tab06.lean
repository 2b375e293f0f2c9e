/-- VectorLanguageModel.<init>()V -/
def tb87 (tys : List (ClassId × FieldType)) : List (Nat × (zP → zP)) := [(0, zi (gAl 0) 1), (1, zobj), (4, zi (gAl 0) 1), (5, zi (gC (.int (120))) 2), (7, znewi tys), (9, zput (.array (.int)) 9 1), (12, zi (gAl 0) 1), (13, zi (gC (.int (120))) 2), (15, znewi tys), (17, zput (.array (.int)) 9 2), (20, zi (gAl 0) 1), (21, zi (gC (.int (120))) 2), (23, znewi tys), (25, zput (.array (.int)) 9 3), (28, zi (gAl 0) 1), (29, zi (gC (.int (120))) 2), (31, znewi tys), (33, zput (.array (.int)) 9 4), (36, zi (gAl 0) 1), (37, zi (gC (.int (8000))) 3), (40, znewl tys), (42, zput (.array (.long)) 9 6), (45, zi (gAl 0) 1), (46, zi (gC (.int (1000))) 3), (49, znewi tys), (51, zput (.array (.int)) 9 7), (54, zi (gAl 0) 1), (55, zi (gC (.int (1000))) 3), (58, znewz tys), (60, zput (.array (.boolean)) 9 8), (63, zi (gAl 0) 1), (64, zi (gC (.int (91))) 2), (66, znewi tys), (68, zput (.array (.int)) 9 11), (71, zi (gAl 0) 1), (72, zi (gC (.int (91))) 2), (74, znewi tys), (76, zput (.array (.int)) 9 12), (79, zi (gAl 0) 1), (80, zi (gC (.int (91))) 2), (82, znewi tys), (84, zput (.array (.int)) 9 13), (87, zi (gAl 0) 1), (88, zi (gC (.int (910))) 3), (91, znewi tys), (93, zput (.array (.int)) 9 15), (96, zi (gAl 0) 1), (97, zi (gC (.int (910))) 3), (100, znewi tys), (102, zput (.array (.int)) 9 16), (105, zi (gAl 0) 1), (106, zi (gC (.int (910))) 3), (109, znewi tys), (111, zput (.array (.int)) 9 17), (114, zi (gAl 0) 1), (115, zi (gC (.int (910))) 3), (118, znewi tys), (120, zput (.array (.int)) 9 18), (123, zi (gAl 0) 1), (124, zi (gC (.int (450))) 3), (127, znewi tys), (129, zput (.array (.int)) 9 19), (132, zi (gAl 0) 1), (133, zi (gC (.int (450))) 3), (136, znewi tys), (138, zput (.array (.int)) 9 20), (141, zi (gAl 0) 1), (142, zi (gC (.int (450))) 3), (145, znewi tys), (147, zput (.array (.int)) 9 21), (150, zi (gAl 0) 1), (151, zi (gC (.int (450))) 3), (154, znewi tys), (156, zput (.array (.int)) 9 22), (159, zi (gAl 0) 1), (160, zi (gC (.int (450))) 3), (163, znewi tys), (165, zput (.array (.int)) 9 23), (168, zi (gAl 0) 1), (169, zi (gC (.int (450))) 3), (172, znewi tys), (174, zput (.array (.int)) 9 24), (177, zi (gAl 0) 1), (178, zi (gC (.int (-1))) 1), (179, zput (.int) 9 30), (182, zi (gAl 0) 1), (183, zi (gC (.int (16))) 2), (185, znewi tys), (187, zput (.array (.int)) 9 32), (190, zi (gAl 0) 1), (191, zget 9 11), (194, zi (gC (.int (0))) 1), (195, zi (gC (.int (-1))) 1), (196, ziast tys), (197, zi (gAl 0) 1), (198, zget 9 8), (201, zi (gC (.int (0))) 1), (202, zi (gC (.int (1))) 1), (203, zzast tys), (204, zretV)]
set_option maxRecDepth 100000 in
theorem ok87 (l : Launch) (D : va_G) (dA : Nat → ClassId) (b0 : Nat) : ∀ q ∈ tb87 (ztys dA), zOK l D dA b0 87 q.1 q.2 := by
  refine zap (zi_mono _ _) (zi_ok (zg_aload_n (j := 0) (by decide +kernel) rfl)) ?_
  refine zap (zobj_mono) (zobj_ok (idx := 1) (by decide +kernel) (zin 752 (by decide +kernel) rfl) (zin 32 (by decide +kernel) rfl) (zin 33 (by decide +kernel) rfl)) ?_
  refine zap (zi_mono _ _) (zi_ok (zg_aload_n (j := 0) (by decide +kernel) rfl)) ?_
  refine zap (zi_mono _ _) (zi_ok (zg_bipush (n := 120) (by decide +kernel) (by decide +kernel))) ?_
  refine zap (znewi_mono _) (znewi_ok (by decide +kernel) (zin 109 (by decide +kernel) rfl)) ?_
  refine zap (zput_mono _ _ _) (zput_ok (index := 7) (C := RC9) (ref := "VectorLanguageModel") (T := FC9) (NN := 33) tC9 (by decide +kernel) rfl iC9 tC9_ok nC9 (by decide +kernel) (zin 754 (by decide +kernel) rfl) rfl (Or.inr ⟨rfl, rfl, rfl⟩) rfl) ?_
  refine zap (zi_mono _ _) (zi_ok (zg_aload_n (j := 0) (by decide +kernel) rfl)) ?_
  refine zap (zi_mono _ _) (zi_ok (zg_bipush (n := 120) (by decide +kernel) (by decide +kernel))) ?_
  refine zap (znewi_mono _) (znewi_ok (by decide +kernel) (zin 109 (by decide +kernel) rfl)) ?_
  refine zap (zput_mono _ _ _) (zput_ok (index := 13) (C := RC9) (ref := "VectorLanguageModel") (T := FC9) (NN := 33) tC9 (by decide +kernel) rfl iC9 tC9_ok nC9 (by decide +kernel) (zin 755 (by decide +kernel) rfl) rfl (Or.inr ⟨rfl, rfl, rfl⟩) rfl) ?_
  refine zap (zi_mono _ _) (zi_ok (zg_aload_n (j := 0) (by decide +kernel) rfl)) ?_
  refine zap (zi_mono _ _) (zi_ok (zg_bipush (n := 120) (by decide +kernel) (by decide +kernel))) ?_
  refine zap (znewi_mono _) (znewi_ok (by decide +kernel) (zin 109 (by decide +kernel) rfl)) ?_
  refine zap (zput_mono _ _ _) (zput_ok (index := 16) (C := RC9) (ref := "VectorLanguageModel") (T := FC9) (NN := 33) tC9 (by decide +kernel) rfl iC9 tC9_ok nC9 (by decide +kernel) (zin 756 (by decide +kernel) rfl) rfl (Or.inr ⟨rfl, rfl, rfl⟩) rfl) ?_
  refine zap (zi_mono _ _) (zi_ok (zg_aload_n (j := 0) (by decide +kernel) rfl)) ?_
  refine zap (zi_mono _ _) (zi_ok (zg_bipush (n := 120) (by decide +kernel) (by decide +kernel))) ?_
  refine zap (znewi_mono _) (znewi_ok (by decide +kernel) (zin 109 (by decide +kernel) rfl)) ?_
  refine zap (zput_mono _ _ _) (zput_ok (index := 19) (C := RC9) (ref := "VectorLanguageModel") (T := FC9) (NN := 33) tC9 (by decide +kernel) rfl iC9 tC9_ok nC9 (by decide +kernel) (zin 757 (by decide +kernel) rfl) rfl (Or.inr ⟨rfl, rfl, rfl⟩) rfl) ?_
  refine zap (zi_mono _ _) (zi_ok (zg_aload_n (j := 0) (by decide +kernel) rfl)) ?_
  refine zap (zi_mono _ _) (zi_ok (zg_sipush (n := 8000) (by decide +kernel) (by decide +kernel))) ?_
  refine zap (znewl_mono _) (znewl_ok (by decide +kernel) (zin 853 (by decide +kernel) rfl)) ?_
  refine zap (zput_mono _ _ _) (zput_ok (index := 22) (C := RC9) (ref := "VectorLanguageModel") (T := FC9) (NN := 33) tC9 (by decide +kernel) rfl iC9 tC9_ok nC9 (by decide +kernel) (zin 759 (by decide +kernel) rfl) rfl (Or.inr ⟨rfl, rfl, rfl⟩) rfl) ?_
  refine zap (zi_mono _ _) (zi_ok (zg_aload_n (j := 0) (by decide +kernel) rfl)) ?_
  refine zap (zi_mono _ _) (zi_ok (zg_sipush (n := 1000) (by decide +kernel) (by decide +kernel))) ?_
  refine zap (znewi_mono _) (znewi_ok (by decide +kernel) (zin 109 (by decide +kernel) rfl)) ?_
  refine zap (zput_mono _ _ _) (zput_ok (index := 26) (C := RC9) (ref := "VectorLanguageModel") (T := FC9) (NN := 33) tC9 (by decide +kernel) rfl iC9 tC9_ok nC9 (by decide +kernel) (zin 760 (by decide +kernel) rfl) rfl (Or.inr ⟨rfl, rfl, rfl⟩) rfl) ?_
  refine zap (zi_mono _ _) (zi_ok (zg_aload_n (j := 0) (by decide +kernel) rfl)) ?_
  refine zap (zi_mono _ _) (zi_ok (zg_sipush (n := 1000) (by decide +kernel) (by decide +kernel))) ?_
  refine zap (znewz_mono _) (znewz_ok (by decide +kernel) (zin 854 (by decide +kernel) rfl)) ?_
  refine zap (zput_mono _ _ _) (zput_ok (index := 29) (C := RC9) (ref := "VectorLanguageModel") (T := FC9) (NN := 33) tC9 (by decide +kernel) rfl iC9 tC9_ok nC9 (by decide +kernel) (zin 761 (by decide +kernel) rfl) rfl (Or.inr ⟨rfl, rfl, rfl⟩) rfl) ?_
  refine zap (zi_mono _ _) (zi_ok (zg_aload_n (j := 0) (by decide +kernel) rfl)) ?_
  refine zap (zi_mono _ _) (zi_ok (zg_bipush (n := 91) (by decide +kernel) (by decide +kernel))) ?_
  refine zap (znewi_mono _) (znewi_ok (by decide +kernel) (zin 109 (by decide +kernel) rfl)) ?_
  refine zap (zput_mono _ _ _) (zput_ok (index := 33) (C := RC9) (ref := "VectorLanguageModel") (T := FC9) (NN := 33) tC9 (by decide +kernel) rfl iC9 tC9_ok nC9 (by decide +kernel) (zin 764 (by decide +kernel) rfl) rfl (Or.inr ⟨rfl, rfl, rfl⟩) rfl) ?_
  refine zap (zi_mono _ _) (zi_ok (zg_aload_n (j := 0) (by decide +kernel) rfl)) ?_
  refine zap (zi_mono _ _) (zi_ok (zg_bipush (n := 91) (by decide +kernel) (by decide +kernel))) ?_
  refine zap (znewi_mono _) (znewi_ok (by decide +kernel) (zin 109 (by decide +kernel) rfl)) ?_
  refine zap (zput_mono _ _ _) (zput_ok (index := 36) (C := RC9) (ref := "VectorLanguageModel") (T := FC9) (NN := 33) tC9 (by decide +kernel) rfl iC9 tC9_ok nC9 (by decide +kernel) (zin 765 (by decide +kernel) rfl) rfl (Or.inr ⟨rfl, rfl, rfl⟩) rfl) ?_
  refine zap (zi_mono _ _) (zi_ok (zg_aload_n (j := 0) (by decide +kernel) rfl)) ?_
  refine zap (zi_mono _ _) (zi_ok (zg_bipush (n := 91) (by decide +kernel) (by decide +kernel))) ?_
  refine zap (znewi_mono _) (znewi_ok (by decide +kernel) (zin 109 (by decide +kernel) rfl)) ?_
  refine zap (zput_mono _ _ _) (zput_ok (index := 39) (C := RC9) (ref := "VectorLanguageModel") (T := FC9) (NN := 33) tC9 (by decide +kernel) rfl iC9 tC9_ok nC9 (by decide +kernel) (zin 766 (by decide +kernel) rfl) rfl (Or.inr ⟨rfl, rfl, rfl⟩) rfl) ?_
  refine zap (zi_mono _ _) (zi_ok (zg_aload_n (j := 0) (by decide +kernel) rfl)) ?_
  refine zap (zi_mono _ _) (zi_ok (zg_sipush (n := 910) (by decide +kernel) (by decide +kernel))) ?_
  refine zap (znewi_mono _) (znewi_ok (by decide +kernel) (zin 109 (by decide +kernel) rfl)) ?_
  refine zap (zput_mono _ _ _) (zput_ok (index := 42) (C := RC9) (ref := "VectorLanguageModel") (T := FC9) (NN := 33) tC9 (by decide +kernel) rfl iC9 tC9_ok nC9 (by decide +kernel) (zin 768 (by decide +kernel) rfl) rfl (Or.inr ⟨rfl, rfl, rfl⟩) rfl) ?_
  refine zap (zi_mono _ _) (zi_ok (zg_aload_n (j := 0) (by decide +kernel) rfl)) ?_
  refine zap (zi_mono _ _) (zi_ok (zg_sipush (n := 910) (by decide +kernel) (by decide +kernel))) ?_
  refine zap (znewi_mono _) (znewi_ok (by decide +kernel) (zin 109 (by decide +kernel) rfl)) ?_
  refine zap (zput_mono _ _ _) (zput_ok (index := 45) (C := RC9) (ref := "VectorLanguageModel") (T := FC9) (NN := 33) tC9 (by decide +kernel) rfl iC9 tC9_ok nC9 (by decide +kernel) (zin 769 (by decide +kernel) rfl) rfl (Or.inr ⟨rfl, rfl, rfl⟩) rfl) ?_
  refine zap (zi_mono _ _) (zi_ok (zg_aload_n (j := 0) (by decide +kernel) rfl)) ?_
  refine zap (zi_mono _ _) (zi_ok (zg_sipush (n := 910) (by decide +kernel) (by decide +kernel))) ?_
  refine zap (znewi_mono _) (znewi_ok (by decide +kernel) (zin 109 (by decide +kernel) rfl)) ?_
  refine zap (zput_mono _ _ _) (zput_ok (index := 48) (C := RC9) (ref := "VectorLanguageModel") (T := FC9) (NN := 33) tC9 (by decide +kernel) rfl iC9 tC9_ok nC9 (by decide +kernel) (zin 770 (by decide +kernel) rfl) rfl (Or.inr ⟨rfl, rfl, rfl⟩) rfl) ?_
  refine zap (zi_mono _ _) (zi_ok (zg_aload_n (j := 0) (by decide +kernel) rfl)) ?_
  refine zap (zi_mono _ _) (zi_ok (zg_sipush (n := 910) (by decide +kernel) (by decide +kernel))) ?_
  refine zap (znewi_mono _) (znewi_ok (by decide +kernel) (zin 109 (by decide +kernel) rfl)) ?_
  refine zap (zput_mono _ _ _) (zput_ok (index := 51) (C := RC9) (ref := "VectorLanguageModel") (T := FC9) (NN := 33) tC9 (by decide +kernel) rfl iC9 tC9_ok nC9 (by decide +kernel) (zin 771 (by decide +kernel) rfl) rfl (Or.inr ⟨rfl, rfl, rfl⟩) rfl) ?_
  refine zap (zi_mono _ _) (zi_ok (zg_aload_n (j := 0) (by decide +kernel) rfl)) ?_
  refine zap (zi_mono _ _) (zi_ok (zg_sipush (n := 450) (by decide +kernel) (by decide +kernel))) ?_
  refine zap (znewi_mono _) (znewi_ok (by decide +kernel) (zin 109 (by decide +kernel) rfl)) ?_
  refine zap (zput_mono _ _ _) (zput_ok (index := 54) (C := RC9) (ref := "VectorLanguageModel") (T := FC9) (NN := 33) tC9 (by decide +kernel) rfl iC9 tC9_ok nC9 (by decide +kernel) (zin 772 (by decide +kernel) rfl) rfl (Or.inr ⟨rfl, rfl, rfl⟩) rfl) ?_
  refine zap (zi_mono _ _) (zi_ok (zg_aload_n (j := 0) (by decide +kernel) rfl)) ?_
  refine zap (zi_mono _ _) (zi_ok (zg_sipush (n := 450) (by decide +kernel) (by decide +kernel))) ?_
  refine zap (znewi_mono _) (znewi_ok (by decide +kernel) (zin 109 (by decide +kernel) rfl)) ?_
  refine zap (zput_mono _ _ _) (zput_ok (index := 57) (C := RC9) (ref := "VectorLanguageModel") (T := FC9) (NN := 33) tC9 (by decide +kernel) rfl iC9 tC9_ok nC9 (by decide +kernel) (zin 773 (by decide +kernel) rfl) rfl (Or.inr ⟨rfl, rfl, rfl⟩) rfl) ?_
  refine zap (zi_mono _ _) (zi_ok (zg_aload_n (j := 0) (by decide +kernel) rfl)) ?_
  refine zap (zi_mono _ _) (zi_ok (zg_sipush (n := 450) (by decide +kernel) (by decide +kernel))) ?_
  refine zap (znewi_mono _) (znewi_ok (by decide +kernel) (zin 109 (by decide +kernel) rfl)) ?_
  refine zap (zput_mono _ _ _) (zput_ok (index := 60) (C := RC9) (ref := "VectorLanguageModel") (T := FC9) (NN := 33) tC9 (by decide +kernel) rfl iC9 tC9_ok nC9 (by decide +kernel) (zin 774 (by decide +kernel) rfl) rfl (Or.inr ⟨rfl, rfl, rfl⟩) rfl) ?_
  refine zap (zi_mono _ _) (zi_ok (zg_aload_n (j := 0) (by decide +kernel) rfl)) ?_
  refine zap (zi_mono _ _) (zi_ok (zg_sipush (n := 450) (by decide +kernel) (by decide +kernel))) ?_
  refine zap (znewi_mono _) (znewi_ok (by decide +kernel) (zin 109 (by decide +kernel) rfl)) ?_
  refine zap (zput_mono _ _ _) (zput_ok (index := 63) (C := RC9) (ref := "VectorLanguageModel") (T := FC9) (NN := 33) tC9 (by decide +kernel) rfl iC9 tC9_ok nC9 (by decide +kernel) (zin 775 (by decide +kernel) rfl) rfl (Or.inr ⟨rfl, rfl, rfl⟩) rfl) ?_
  refine zap (zi_mono _ _) (zi_ok (zg_aload_n (j := 0) (by decide +kernel) rfl)) ?_
  refine zap (zi_mono _ _) (zi_ok (zg_sipush (n := 450) (by decide +kernel) (by decide +kernel))) ?_
  refine zap (znewi_mono _) (znewi_ok (by decide +kernel) (zin 109 (by decide +kernel) rfl)) ?_
  refine zap (zput_mono _ _ _) (zput_ok (index := 66) (C := RC9) (ref := "VectorLanguageModel") (T := FC9) (NN := 33) tC9 (by decide +kernel) rfl iC9 tC9_ok nC9 (by decide +kernel) (zin 776 (by decide +kernel) rfl) rfl (Or.inr ⟨rfl, rfl, rfl⟩) rfl) ?_
  refine zap (zi_mono _ _) (zi_ok (zg_aload_n (j := 0) (by decide +kernel) rfl)) ?_
  refine zap (zi_mono _ _) (zi_ok (zg_sipush (n := 450) (by decide +kernel) (by decide +kernel))) ?_
  refine zap (znewi_mono _) (znewi_ok (by decide +kernel) (zin 109 (by decide +kernel) rfl)) ?_
  refine zap (zput_mono _ _ _) (zput_ok (index := 69) (C := RC9) (ref := "VectorLanguageModel") (T := FC9) (NN := 33) tC9 (by decide +kernel) rfl iC9 tC9_ok nC9 (by decide +kernel) (zin 777 (by decide +kernel) rfl) rfl (Or.inr ⟨rfl, rfl, rfl⟩) rfl) ?_
  refine zap (zi_mono _ _) (zi_ok (zg_aload_n (j := 0) (by decide +kernel) rfl)) ?_
  refine zap (zi_mono _ _) (zi_ok (zg_iconst (n := -1) (by decide +kernel) (by decide +kernel))) ?_
  refine zap (zput_mono _ _ _) (zput_ok (index := 72) (C := RC9) (ref := "VectorLanguageModel") (T := FC9) (NN := 33) tC9 (by decide +kernel) rfl iC9 tC9_ok nC9 (by decide +kernel) (zin 783 (by decide +kernel) rfl) rfl (Or.inl rfl) rfl) ?_
  refine zap (zi_mono _ _) (zi_ok (zg_aload_n (j := 0) (by decide +kernel) rfl)) ?_
  refine zap (zi_mono _ _) (zi_ok (zg_bipush (n := 16) (by decide +kernel) (by decide +kernel))) ?_
  refine zap (znewi_mono _) (znewi_ok (by decide +kernel) (zin 109 (by decide +kernel) rfl)) ?_
  refine zap (zput_mono _ _ _) (zput_ok (index := 76) (C := RC9) (ref := "VectorLanguageModel") (T := FC9) (NN := 33) tC9 (by decide +kernel) rfl iC9 tC9_ok nC9 (by decide +kernel) (zin 785 (by decide +kernel) rfl) rfl (Or.inr ⟨rfl, rfl, rfl⟩) rfl) ?_
  refine zap (zi_mono _ _) (zi_ok (zg_aload_n (j := 0) (by decide +kernel) rfl)) ?_
  refine zap (zget_mono _ _) (zget_ok (index := 33) (C := RC9) (ref := "VectorLanguageModel") (T := FC9) (NN := 33) (by decide +kernel) rfl iC9 (by decide +kernel) (zin 764 (by decide +kernel) rfl) rfl) ?_
  refine zap (zi_mono _ _) (zi_ok (zg_iconst (n := 0) (by decide +kernel) (by decide +kernel))) ?_
  refine zap (zi_mono _ _) (zi_ok (zg_iconst (n := -1) (by decide +kernel) (by decide +kernel))) ?_
  refine zap (ziast_mono _) (ziast_ok (by decide +kernel)) ?_
  refine zap (zi_mono _ _) (zi_ok (zg_aload_n (j := 0) (by decide +kernel) rfl)) ?_
  refine zap (zget_mono _ _) (zget_ok (index := 29) (C := RC9) (ref := "VectorLanguageModel") (T := FC9) (NN := 33) (by decide +kernel) rfl iC9 (by decide +kernel) (zin 761 (by decide +kernel) rfl) rfl) ?_
  refine zap (zi_mono _ _) (zi_ok (zg_iconst (n := 0) (by decide +kernel) (by decide +kernel))) ?_
  refine zap (zi_mono _ _) (zi_ok (zg_iconst (n := 1) (by decide +kernel) (by decide +kernel))) ?_
  refine zap (zzast_mono _) (zzast_ok (by decide +kernel)) ?_
  refine zap (zretV_mono) (zretV_ok (by decide +kernel) rfl) ?_
  exact zn
/-- VectorLanguageModel.thrown()I -/
def tb88 (_ : List (ClassId × FieldType)) : List (Nat × (zP → zP)) := [(0, zi (gAl 0) 1), (1, zget 9 0), (4, zretI)]
set_option maxRecDepth 100000 in
theorem ok88 (l : Launch) (D : va_G) (dA : Nat → ClassId) (b0 : Nat) : ∀ q ∈ tb88 (ztys dA), zOK l D dA b0 88 q.1 q.2 := by
  refine zap (zi_mono _ _) (zi_ok (zg_aload_n (j := 0) (by decide +kernel) rfl)) ?_
  refine zap (zget_mono _ _) (zget_ok (index := 79) (C := RC9) (ref := "VectorLanguageModel") (T := FC9) (NN := 33) (by decide +kernel) rfl iC9 (by decide +kernel) (zin 753 (by decide +kernel) rfl) rfl) ?_
  refine zap (zretI_mono) (zretI_ok (by decide +kernel) rfl) ?_
  exact zn
/-- VectorLanguageModel.expression(IIII)I -/
def tb89 (tys : List (ClassId × FieldType)) : List (Nat × (zP → zP)) := [(0, zi (gAl 0) 1), (1, zi (gC (.int (0))) 1), (2, zput (.int) 9 0), (5, zi (gAl 0) 1), (6, zi (gIl 1) 1), (7, zi (gIl 2) 1), (8, zi (gIl 3) 1), (9, zi (gIl 4) 2), (11, zcV 5 90 4 9), (14, zb (c1 (fun x => ¬ x = 0)) 23), (17, zi (gAl 0) 1), (18, zi (gC (.int (1))) 1), (19, zcV 2 93 1 9), (22, zretI), (23, zi (gAl 0) 1), (24, zget 9 5), (27, zi (gC (.int (120))) 2), (29, zb (c2 (fun x y => ¬ x = y)) 38), (32, zi (gAl 0) 1), (33, zi (gC (.int (2))) 1), (34, zcV 2 93 1 9), (37, zretI), (38, zi (gAl 0) 1), (39, zget 9 1), (42, zi (gAl 0) 1), (43, zget 9 5), (46, zi (gIl 1) 1), (47, ziast tys), (48, zi (gAl 0) 1), (49, zget 9 2), (52, zi (gAl 0) 1), (53, zget 9 5), (56, zi (gIl 2) 1), (57, ziast tys), (58, zi (gAl 0) 1), (59, zget 9 3), (62, zi (gAl 0) 1), (63, zget 9 5), (66, zi (gIl 3) 1), (67, ziast tys), (68, zi (gAl 0) 1), (69, zget 9 4), (72, zi (gAl 0) 1), (73, zget 9 5), (76, zi (gIl 4) 2), (78, ziast tys), (79, zi (gAl 0) 1), (80, zi (gDup) 1), (81, zget 9 5), (84, zi (gC (.int (1))) 1), (85, zi (gII (fun x y => x + y)) 1), (86, zput (.int) 9 5), (89, zi (gAl 0) 1), (90, zget 9 5), (93, zi (gC (.int (1))) 1), (94, zi (gII (fun x y => x - y)) 1), (95, zretI)]
set_option maxRecDepth 100000 in
theorem ok89 (l : Launch) (D : va_G) (dA : Nat → ClassId) (b0 : Nat) : ∀ q ∈ tb89 (ztys dA), zOK l D dA b0 89 q.1 q.2 := by
  refine zap (zi_mono _ _) (zi_ok (zg_aload_n (j := 0) (by decide +kernel) rfl)) ?_
  refine zap (zi_mono _ _) (zi_ok (zg_iconst (n := 0) (by decide +kernel) (by decide +kernel))) ?_
  refine zap (zput_mono _ _ _) (zput_ok (index := 79) (C := RC9) (ref := "VectorLanguageModel") (T := FC9) (NN := 33) tC9 (by decide +kernel) rfl iC9 tC9_ok nC9 (by decide +kernel) (zin 753 (by decide +kernel) rfl) rfl (Or.inl rfl) rfl) ?_
  refine zap (zi_mono _ _) (zi_ok (zg_aload_n (j := 0) (by decide +kernel) rfl)) ?_
  refine zap (zi_mono _ _) (zi_ok (zg_iload_n (j := 1) (by decide +kernel) rfl)) ?_
  refine zap (zi_mono _ _) (zi_ok (zg_iload_n (j := 2) (by decide +kernel) rfl)) ?_
  refine zap (zi_mono _ _) (zi_ok (zg_iload_n (j := 3) (by decide +kernel) rfl)) ?_
  refine zap (zi_mono _ _) (zi_ok (zg_iload (by decide +kernel))) ?_
  refine zap (zcV_mono _ _ _ _) (zcV_ok znst_st (μ' := 90) (na := 4) (ci := 9) (index := 95) (q := (RC9, FC9, 33)) (by decide +kernel) (by decide +kernel) rfl (zgV (zin 863 (by decide +kernel) rfl) (zin 865 (by decide +kernel) rfl) (zsel 35 (by decide +kernel) rfl) (zin 9 (by decide +kernel) rfl) (zin 866 (by decide +kernel) rfl)) (by decide +kernel) (by decide +kernel)) ?_
  refine zap (zb_mono _ _) (zb_ok (zb_ne (off := 9) (by decide +kernel) (by decide +kernel))) ?_
  refine zap (zi_mono _ _) (zi_ok (zg_aload_n (j := 0) (by decide +kernel) rfl)) ?_
  refine zap (zi_mono _ _) (zi_ok (zg_iconst (n := 1) (by decide +kernel) (by decide +kernel))) ?_
  refine zap (zcV_mono _ _ _ _) (zcV_ok znst_st (μ' := 93) (na := 1) (ci := 9) (index := 99) (q := (RC9, FC9, 33)) (by decide +kernel) (by decide +kernel) rfl (zgV (zin 876 (by decide +kernel) rfl) (zin 878 (by decide +kernel) rfl) (zsel 37 (by decide +kernel) rfl) (zin 9 (by decide +kernel) rfl) (zin 879 (by decide +kernel) rfl)) (by decide +kernel) (by decide +kernel)) ?_
  refine zap (zretI_mono) (zretI_ok (by decide +kernel) rfl) ?_
  refine zap (zi_mono _ _) (zi_ok (zg_aload_n (j := 0) (by decide +kernel) rfl)) ?_
  refine zap (zget_mono _ _) (zget_ok (index := 82) (C := RC9) (ref := "VectorLanguageModel") (T := FC9) (NN := 33) (by decide +kernel) rfl iC9 (by decide +kernel) (zin 758 (by decide +kernel) rfl) rfl) ?_
  refine zap (zi_mono _ _) (zi_ok (zg_bipush (n := 120) (by decide +kernel) (by decide +kernel))) ?_
  refine zap (zb_mono _ _) (zb_ok (zb_ine (off := 9) (by decide +kernel) (by decide +kernel))) ?_
  refine zap (zi_mono _ _) (zi_ok (zg_aload_n (j := 0) (by decide +kernel) rfl)) ?_
  refine zap (zi_mono _ _) (zi_ok (zg_iconst (n := 2) (by decide +kernel) (by decide +kernel))) ?_
  refine zap (zcV_mono _ _ _ _) (zcV_ok znst_st (μ' := 93) (na := 1) (ci := 9) (index := 99) (q := (RC9, FC9, 33)) (by decide +kernel) (by decide +kernel) rfl (zgV (zin 876 (by decide +kernel) rfl) (zin 878 (by decide +kernel) rfl) (zsel 37 (by decide +kernel) rfl) (zin 9 (by decide +kernel) rfl) (zin 879 (by decide +kernel) rfl)) (by decide +kernel) (by decide +kernel)) ?_
  refine zap (zretI_mono) (zretI_ok (by decide +kernel) rfl) ?_
  refine zap (zi_mono _ _) (zi_ok (zg_aload_n (j := 0) (by decide +kernel) rfl)) ?_
  refine zap (zget_mono _ _) (zget_ok (index := 7) (C := RC9) (ref := "VectorLanguageModel") (T := FC9) (NN := 33) (by decide +kernel) rfl iC9 (by decide +kernel) (zin 754 (by decide +kernel) rfl) rfl) ?_
  refine zap (zi_mono _ _) (zi_ok (zg_aload_n (j := 0) (by decide +kernel) rfl)) ?_
  refine zap (zget_mono _ _) (zget_ok (index := 82) (C := RC9) (ref := "VectorLanguageModel") (T := FC9) (NN := 33) (by decide +kernel) rfl iC9 (by decide +kernel) (zin 758 (by decide +kernel) rfl) rfl) ?_
  refine zap (zi_mono _ _) (zi_ok (zg_iload_n (j := 1) (by decide +kernel) rfl)) ?_
  refine zap (ziast_mono _) (ziast_ok (by decide +kernel)) ?_
  refine zap (zi_mono _ _) (zi_ok (zg_aload_n (j := 0) (by decide +kernel) rfl)) ?_
  refine zap (zget_mono _ _) (zget_ok (index := 13) (C := RC9) (ref := "VectorLanguageModel") (T := FC9) (NN := 33) (by decide +kernel) rfl iC9 (by decide +kernel) (zin 755 (by decide +kernel) rfl) rfl) ?_
  refine zap (zi_mono _ _) (zi_ok (zg_aload_n (j := 0) (by decide +kernel) rfl)) ?_
  refine zap (zget_mono _ _) (zget_ok (index := 82) (C := RC9) (ref := "VectorLanguageModel") (T := FC9) (NN := 33) (by decide +kernel) rfl iC9 (by decide +kernel) (zin 758 (by decide +kernel) rfl) rfl) ?_
  refine zap (zi_mono _ _) (zi_ok (zg_iload_n (j := 2) (by decide +kernel) rfl)) ?_
  refine zap (ziast_mono _) (ziast_ok (by decide +kernel)) ?_
  refine zap (zi_mono _ _) (zi_ok (zg_aload_n (j := 0) (by decide +kernel) rfl)) ?_
  refine zap (zget_mono _ _) (zget_ok (index := 16) (C := RC9) (ref := "VectorLanguageModel") (T := FC9) (NN := 33) (by decide +kernel) rfl iC9 (by decide +kernel) (zin 756 (by decide +kernel) rfl) rfl) ?_
  refine zap (zi_mono _ _) (zi_ok (zg_aload_n (j := 0) (by decide +kernel) rfl)) ?_
  refine zap (zget_mono _ _) (zget_ok (index := 82) (C := RC9) (ref := "VectorLanguageModel") (T := FC9) (NN := 33) (by decide +kernel) rfl iC9 (by decide +kernel) (zin 758 (by decide +kernel) rfl) rfl) ?_
  refine zap (zi_mono _ _) (zi_ok (zg_iload_n (j := 3) (by decide +kernel) rfl)) ?_
  refine zap (ziast_mono _) (ziast_ok (by decide +kernel)) ?_
  refine zap (zi_mono _ _) (zi_ok (zg_aload_n (j := 0) (by decide +kernel) rfl)) ?_
  refine zap (zget_mono _ _) (zget_ok (index := 19) (C := RC9) (ref := "VectorLanguageModel") (T := FC9) (NN := 33) (by decide +kernel) rfl iC9 (by decide +kernel) (zin 757 (by decide +kernel) rfl) rfl) ?_
  refine zap (zi_mono _ _) (zi_ok (zg_aload_n (j := 0) (by decide +kernel) rfl)) ?_
  refine zap (zget_mono _ _) (zget_ok (index := 82) (C := RC9) (ref := "VectorLanguageModel") (T := FC9) (NN := 33) (by decide +kernel) rfl iC9 (by decide +kernel) (zin 758 (by decide +kernel) rfl) rfl) ?_
  refine zap (zi_mono _ _) (zi_ok (zg_iload (by decide +kernel))) ?_
  refine zap (ziast_mono _) (ziast_ok (by decide +kernel)) ?_
  refine zap (zi_mono _ _) (zi_ok (zg_aload_n (j := 0) (by decide +kernel) rfl)) ?_
  refine zap (zi_mono _ _) (zi_ok (zg_dup (by decide +kernel))) ?_
  refine zap (zget_mono _ _) (zget_ok (index := 82) (C := RC9) (ref := "VectorLanguageModel") (T := FC9) (NN := 33) (by decide +kernel) rfl iC9 (by decide +kernel) (zin 758 (by decide +kernel) rfl) rfl) ?_
  refine zap (zi_mono _ _) (zi_ok (zg_iconst (n := 1) (by decide +kernel) (by decide +kernel))) ?_
  refine zap (zi_mono _ _) (zi_ok (zg_iadd (by decide +kernel))) ?_
  refine zap (zput_mono _ _ _) (zput_ok (index := 82) (C := RC9) (ref := "VectorLanguageModel") (T := FC9) (NN := 33) tC9 (by decide +kernel) rfl iC9 tC9_ok nC9 (by decide +kernel) (zin 758 (by decide +kernel) rfl) rfl (Or.inl rfl) rfl) ?_
  refine zap (zi_mono _ _) (zi_ok (zg_aload_n (j := 0) (by decide +kernel) rfl)) ?_
  refine zap (zget_mono _ _) (zget_ok (index := 82) (C := RC9) (ref := "VectorLanguageModel") (T := FC9) (NN := 33) (by decide +kernel) rfl iC9 (by decide +kernel) (zin 758 (by decide +kernel) rfl) rfl) ?_
  refine zap (zi_mono _ _) (zi_ok (zg_iconst (n := 1) (by decide +kernel) (by decide +kernel))) ?_
  refine zap (zi_mono _ _) (zi_ok (zg_isub (by decide +kernel))) ?_
  refine zap (zretI_mono) (zretI_ok (by decide +kernel) rfl) ?_
  exact zn
/-- VectorLanguageModel.fits(IIII)Z -/
def tb90 (_ : List (ClassId × FieldType)) : List (Nat × (zP → zP)) := [(0, zi (gIl 1) 1), (1, zsw [(0, 120), (1, 129), (2, 129), (3, 131), (4, 139), (5, 139), (6, 163), (7, 195), (8, 227), (9, 259), (10, 265), (11, 265), (12, 265), (13, 287), (14, 259), (15, 259), (16, 320), (17, 265), (18, 265), (19, 357), (20, 397), (21, 131), (22, 259), (23, 259), (24, 265), (25, 265)] 448), (120, zi (gIl 2) 1), (121, zi (gC (.int (-1000000000))) 2), (123, zi (gC (.int (1000000000))) 2), (125, zcS 3 91 3), (128, zretZ), (129, zi (gC (.int (1))) 1), (130, zretZ), (131, zi (gIl 2) 1), (132, zi (gC (.int (0))) 1), (133, zi (gC (.int (9))) 2), (135, zcS 3 91 3), (138, zretZ), (139, zi (gIl 2) 1), (140, zi (gC (.int (0))) 1), (141, zi (gC (.int (9))) 2), (143, zcS 3 91 3), (146, zb (c1 (fun x => x = 0)) 161), (149, zi (gAl 0) 1), (150, zi (gIl 3) 1), (151, zcV 2 92 1 9), (154, zb (c1 (fun x => x = 0)) 161), (157, zi (gC (.int (1))) 1), (158, zj 162), (161, zi (gC (.int (0))) 1), (162, zretZ), (163, zi (gAl 0) 1), (164, zi (gIl 2) 1), (165, zcV 2 92 1 9), (168, zb (c1 (fun x => x = 0)) 193), (171, zi (gAl 0) 1), (172, zi (gIl 3) 1), (173, zcV 2 92 1 9), (176, zb (c1 (fun x => x = 0)) 193), (179, zi (gIl 4) 2), (181, zi (gC (.int (0))) 1), (182, zi (gC (.int (4))) 1), (183, zcS 3 91 3), (186, zb (c1 (fun x => x = 0)) 193), (189, zi (gC (.int (1))) 1), (190, zj 194), (193, zi (gC (.int (0))) 1), (194, zretZ), (195, zi (gAl 0) 1), (196, zi (gIl 2) 1), (197, zcV 2 92 1 9), (200, zb (c1 (fun x => x = 0)) 225), (203, zi (gAl 0) 1), (204, zi (gIl 3) 1), (205, zcV 2 92 1 9), (208, zb (c1 (fun x => x = 0)) 225), (211, zi (gIl 4) 2), (213, zi (gC (.int (0))) 1), (214, zi (gC (.int (2))) 1), (215, zcS 3 91 3), (218, zb (c1 (fun x => x = 0)) 225), (221, zi (gC (.int (1))) 1), (222, zj 226), (225, zi (gC (.int (0))) 1), (226, zretZ), (227, zi (gAl 0) 1), (228, zi (gIl 2) 1), (229, zcV 2 92 1 9), (232, zb (c1 (fun x => x = 0)) 257), (235, zi (gAl 0) 1), (236, zi (gIl 3) 1), (237, zcV 2 92 1 9), (240, zb (c1 (fun x => x = 0)) 257), (243, zi (gIl 4) 2), (245, zi (gC (.int (0))) 1), (246, zi (gC (.int (1))) 1), (247, zcS 3 91 3), (250, zb (c1 (fun x => x = 0)) 257), (253, zi (gC (.int (1))) 1), (254, zj 258), (257, zi (gC (.int (0))) 1), (258, zretZ), (259, zi (gAl 0) 1), (260, zi (gIl 2) 1), (261, zcV 2 92 1 9), (264, zretZ), (265, zi (gAl 0) 1), (266, zi (gIl 2) 1), (267, zcV 2 92 1 9), (270, zb (c1 (fun x => x = 0)) 285), (273, zi (gAl 0) 1), (274, zi (gIl 3) 1), (275, zcV 2 92 1 9), (278, zb (c1 (fun x => x = 0)) 285), (281, zi (gC (.int (1))) 1), (282, zj 286), (285, zi (gC (.int (0))) 1), (286, zretZ), (287, zi (gIl 2) 1), (288, zi (gC (.int (0))) 1), (289, zi (gC (.int (9))) 2), (291, zcS 3 91 3), (294, zb (c1 (fun x => x = 0)) 318), (297, zi (gAl 0) 1), (298, zi (gIl 3) 1), (299, zcV 2 92 1 9), (302, zb (c1 (fun x => x = 0)) 318), (305, zi (gAl 0) 1), (306, zi (gIl 4) 2), (308, zcV 2 92 1 9), (311, zb (c1 (fun x => x = 0)) 318), (314, zi (gC (.int (1))) 1), (315, zj 319), (318, zi (gC (.int (0))) 1), (319, zretZ), (320, zi (gAl 0) 1), (321, zi (gIl 2) 1), (322, zcV 2 92 1 9), (325, zb (c1 (fun x => x = 0)) 355), (328, zi (gAl 0) 1), (329, zi (gIl 3) 1), (330, zcV 2 92 1 9), (333, zb (c1 (fun x => x = 0)) 355), (336, zi (gIl 4) 2), (338, zi (gC (.int (-1))) 1), (339, zb (c2 (fun x y => x = y)) 351), (342, zi (gAl 0) 1), (343, zi (gIl 4) 2), (345, zcV 2 92 1 9), (348, zb (c1 (fun x => x = 0)) 355), (351, zi (gC (.int (1))) 1), (352, zj 356), (355, zi (gC (.int (0))) 1), (356, zretZ), (357, zi (gAl 0) 1), (358, zi (gIl 2) 1), (359, zcV 2 92 1 9), (362, zb (c1 (fun x => x = 0)) 395), (365, zi (gIl 3) 1), (366, zi (gC (.int (0))) 1), (367, zi (gC (.int (2))) 1), (368, zcS 3 91 3), (371, zb (c1 (fun x => x = 0)) 395), (374, zi (gIl 3) 1), (375, zb (c1 (fun x => x = 0)) 391), (378, zi (gIl 4) 2), (380, zi (gC (.int (0))) 1), (381, zi (gC (.int (10))) 2), (383, zi (gIl 3) 1), (384, zi (gII (fun x y => x - y)) 1), (385, zcS 3 91 3), (388, zb (c1 (fun x => x = 0)) 395), (391, zi (gC (.int (1))) 1), (392, zj 396), (395, zi (gC (.int (0))) 1), (396, zretZ), (397, zi (gAl 0) 1), (398, zi (gIl 2) 1), (399, zcV 2 92 1 9), (402, zb (c1 (fun x => x = 0)) 446), (405, zi (gIl 3) 1), (406, zi (gC (.int (-1))) 1), (407, zb (c2 (fun x y => ¬ x = y)) 419), (410, zi (gIl 4) 2), (412, zi (gC (.int (-1))) 1), (413, zb (c2 (fun x y => ¬ x = y)) 446), (416, zj 442), (419, zi (gAl 0) 1), (420, zi (gIl 3) 1), (421, zcV 2 92 1 9), (424, zb (c1 (fun x => x = 0)) 446), (427, zi (gIl 4) 2), (429, zi (gC (.int (-1))) 1), (430, zb (c2 (fun x y => x = y)) 442), (433, zi (gAl 0) 1), (434, zi (gIl 4) 2), (436, zcV 2 92 1 9), (439, zb (c1 (fun x => x = 0)) 446), (442, zi (gC (.int (1))) 1), (443, zj 447), (446, zi (gC (.int (0))) 1), (447, zretZ), (448, zi (gC (.int (0))) 1), (449, zretZ)]
set_option maxRecDepth 100000 in
theorem ok90 (l : Launch) (D : va_G) (dA : Nat → ClassId) (b0 : Nat) : ∀ q ∈ tb90 (ztys dA), zOK l D dA b0 90 q.1 q.2 := by
  refine zap (zi_mono _ _) (zi_ok (zg_iload_n (j := 1) (by decide +kernel) rfl)) ?_
  refine zap (zsw_mono _ _) (zsw_tab (off := 447) (lo := 0) (hi := 25) (offs := #[119, 128, 128, 130, 138, 138, 162, 194, 226, 258, 264, 264, 264, 286, 258, 258, 319, 264, 264, 356, 396, 130, 258, 258, 264, 264]) (len := 119) (by decide +kernel) (by decide +kernel) (by decide +kernel) (by decide +kernel)) ?_
  refine zap (zi_mono _ _) (zi_ok (zg_iload_n (j := 2) (by decide +kernel) rfl)) ?_
  refine zap (zi_mono _ _) (zi_ok (zg_ldc (index := 89) (by decide +kernel) (zin 867 (by decide +kernel) rfl))) ?_
  refine zap (zi_mono _ _) (zi_ok (zg_ldc (index := 90) (by decide +kernel) (zin 868 (by decide +kernel) rfl))) ?_
  refine zap (zcS_mono _ _ _) (zcS_ok znst_st (μ' := 91) (na := 3) (index := 85) (by decide +kernel) (by decide +kernel) (zgS (zin 869 (by decide +kernel) rfl) (zin 870 (by decide +kernel) rfl) (zin 9 (by decide +kernel) rfl) (zin 871 (by decide +kernel) rfl)) (by decide +kernel) (by decide +kernel)) ?_
  refine zap (zretZ_mono) (zretZ_ok (by decide +kernel) rfl) ?_
  refine zap (zi_mono _ _) (zi_ok (zg_iconst (n := 1) (by decide +kernel) (by decide +kernel))) ?_
  refine zap (zretZ_mono) (zretZ_ok (by decide +kernel) rfl) ?_
  refine zap (zi_mono _ _) (zi_ok (zg_iload_n (j := 2) (by decide +kernel) rfl)) ?_
  refine zap (zi_mono _ _) (zi_ok (zg_iconst (n := 0) (by decide +kernel) (by decide +kernel))) ?_
  refine zap (zi_mono _ _) (zi_ok (zg_bipush (n := 9) (by decide +kernel) (by decide +kernel))) ?_
  refine zap (zcS_mono _ _ _) (zcS_ok znst_st (μ' := 91) (na := 3) (index := 85) (by decide +kernel) (by decide +kernel) (zgS (zin 869 (by decide +kernel) rfl) (zin 870 (by decide +kernel) rfl) (zin 9 (by decide +kernel) rfl) (zin 871 (by decide +kernel) rfl)) (by decide +kernel) (by decide +kernel)) ?_
  refine zap (zretZ_mono) (zretZ_ok (by decide +kernel) rfl) ?_
  refine zap (zi_mono _ _) (zi_ok (zg_iload_n (j := 2) (by decide +kernel) rfl)) ?_
  refine zap (zi_mono _ _) (zi_ok (zg_iconst (n := 0) (by decide +kernel) (by decide +kernel))) ?_
  refine zap (zi_mono _ _) (zi_ok (zg_bipush (n := 9) (by decide +kernel) (by decide +kernel))) ?_
  refine zap (zcS_mono _ _ _) (zcS_ok znst_st (μ' := 91) (na := 3) (index := 85) (by decide +kernel) (by decide +kernel) (zgS (zin 869 (by decide +kernel) rfl) (zin 870 (by decide +kernel) rfl) (zin 9 (by decide +kernel) rfl) (zin 871 (by decide +kernel) rfl)) (by decide +kernel) (by decide +kernel)) ?_
  refine zap (zb_mono _ _) (zb_ok (zb_eq (off := 15) (by decide +kernel) (by decide +kernel))) ?_
  refine zap (zi_mono _ _) (zi_ok (zg_aload_n (j := 0) (by decide +kernel) rfl)) ?_
  refine zap (zi_mono _ _) (zi_ok (zg_iload_n (j := 3) (by decide +kernel) rfl)) ?_
  refine zap (zcV_mono _ _ _ _) (zcV_ok znst_st (μ' := 92) (na := 1) (ci := 9) (index := 91) (q := (RC9, FC9, 33)) (by decide +kernel) (by decide +kernel) rfl (zgV (zin 872 (by decide +kernel) rfl) (zin 874 (by decide +kernel) rfl) (zsel 36 (by decide +kernel) rfl) (zin 9 (by decide +kernel) rfl) (zin 875 (by decide +kernel) rfl)) (by decide +kernel) (by decide +kernel)) ?_
  refine zap (zb_mono _ _) (zb_ok (zb_eq (off := 7) (by decide +kernel) (by decide +kernel))) ?_
  refine zap (zi_mono _ _) (zi_ok (zg_iconst (n := 1) (by decide +kernel) (by decide +kernel))) ?_
  refine zap (zj_mono _) (zj_ok (off := 4) (by decide +kernel) (by decide +kernel)) ?_
  refine zap (zi_mono _ _) (zi_ok (zg_iconst (n := 0) (by decide +kernel) (by decide +kernel))) ?_
  refine zap (zretZ_mono) (zretZ_ok (by decide +kernel) rfl) ?_
  refine zap (zi_mono _ _) (zi_ok (zg_aload_n (j := 0) (by decide +kernel) rfl)) ?_
  refine zap (zi_mono _ _) (zi_ok (zg_iload_n (j := 2) (by decide +kernel) rfl)) ?_
  refine zap (zcV_mono _ _ _ _) (zcV_ok znst_st (μ' := 92) (na := 1) (ci := 9) (index := 91) (q := (RC9, FC9, 33)) (by decide +kernel) (by decide +kernel) rfl (zgV (zin 872 (by decide +kernel) rfl) (zin 874 (by decide +kernel) rfl) (zsel 36 (by decide +kernel) rfl) (zin 9 (by decide +kernel) rfl) (zin 875 (by decide +kernel) rfl)) (by decide +kernel) (by decide +kernel)) ?_
  refine zap (zb_mono _ _) (zb_ok (zb_eq (off := 25) (by decide +kernel) (by decide +kernel))) ?_
  refine zap (zi_mono _ _) (zi_ok (zg_aload_n (j := 0) (by decide +kernel) rfl)) ?_
  refine zap (zi_mono _ _) (zi_ok (zg_iload_n (j := 3) (by decide +kernel) rfl)) ?_
  refine zap (zcV_mono _ _ _ _) (zcV_ok znst_st (μ' := 92) (na := 1) (ci := 9) (index := 91) (q := (RC9, FC9, 33)) (by decide +kernel) (by decide +kernel) rfl (zgV (zin 872 (by decide +kernel) rfl) (zin 874 (by decide +kernel) rfl) (zsel 36 (by decide +kernel) rfl) (zin 9 (by decide +kernel) rfl) (zin 875 (by decide +kernel) rfl)) (by decide +kernel) (by decide +kernel)) ?_
  refine zap (zb_mono _ _) (zb_ok (zb_eq (off := 17) (by decide +kernel) (by decide +kernel))) ?_
  refine zap (zi_mono _ _) (zi_ok (zg_iload (by decide +kernel))) ?_
  refine zap (zi_mono _ _) (zi_ok (zg_iconst (n := 0) (by decide +kernel) (by decide +kernel))) ?_
  refine zap (zi_mono _ _) (zi_ok (zg_iconst (n := 4) (by decide +kernel) (by decide +kernel))) ?_
  refine zap (zcS_mono _ _ _) (zcS_ok znst_st (μ' := 91) (na := 3) (index := 85) (by decide +kernel) (by decide +kernel) (zgS (zin 869 (by decide +kernel) rfl) (zin 870 (by decide +kernel) rfl) (zin 9 (by decide +kernel) rfl) (zin 871 (by decide +kernel) rfl)) (by decide +kernel) (by decide +kernel)) ?_
  refine zap (zb_mono _ _) (zb_ok (zb_eq (off := 7) (by decide +kernel) (by decide +kernel))) ?_
  refine zap (zi_mono _ _) (zi_ok (zg_iconst (n := 1) (by decide +kernel) (by decide +kernel))) ?_
  refine zap (zj_mono _) (zj_ok (off := 4) (by decide +kernel) (by decide +kernel)) ?_
  refine zap (zi_mono _ _) (zi_ok (zg_iconst (n := 0) (by decide +kernel) (by decide +kernel))) ?_
  refine zap (zretZ_mono) (zretZ_ok (by decide +kernel) rfl) ?_
  refine zap (zi_mono _ _) (zi_ok (zg_aload_n (j := 0) (by decide +kernel) rfl)) ?_
  refine zap (zi_mono _ _) (zi_ok (zg_iload_n (j := 2) (by decide +kernel) rfl)) ?_
  refine zap (zcV_mono _ _ _ _) (zcV_ok znst_st (μ' := 92) (na := 1) (ci := 9) (index := 91) (q := (RC9, FC9, 33)) (by decide +kernel) (by decide +kernel) rfl (zgV (zin 872 (by decide +kernel) rfl) (zin 874 (by decide +kernel) rfl) (zsel 36 (by decide +kernel) rfl) (zin 9 (by decide +kernel) rfl) (zin 875 (by decide +kernel) rfl)) (by decide +kernel) (by decide +kernel)) ?_
  refine zap (zb_mono _ _) (zb_ok (zb_eq (off := 25) (by decide +kernel) (by decide +kernel))) ?_
  refine zap (zi_mono _ _) (zi_ok (zg_aload_n (j := 0) (by decide +kernel) rfl)) ?_
  refine zap (zi_mono _ _) (zi_ok (zg_iload_n (j := 3) (by decide +kernel) rfl)) ?_
  refine zap (zcV_mono _ _ _ _) (zcV_ok znst_st (μ' := 92) (na := 1) (ci := 9) (index := 91) (q := (RC9, FC9, 33)) (by decide +kernel) (by decide +kernel) rfl (zgV (zin 872 (by decide +kernel) rfl) (zin 874 (by decide +kernel) rfl) (zsel 36 (by decide +kernel) rfl) (zin 9 (by decide +kernel) rfl) (zin 875 (by decide +kernel) rfl)) (by decide +kernel) (by decide +kernel)) ?_
  refine zap (zb_mono _ _) (zb_ok (zb_eq (off := 17) (by decide +kernel) (by decide +kernel))) ?_
  refine zap (zi_mono _ _) (zi_ok (zg_iload (by decide +kernel))) ?_
  refine zap (zi_mono _ _) (zi_ok (zg_iconst (n := 0) (by decide +kernel) (by decide +kernel))) ?_
  refine zap (zi_mono _ _) (zi_ok (zg_iconst (n := 2) (by decide +kernel) (by decide +kernel))) ?_
  refine zap (zcS_mono _ _ _) (zcS_ok znst_st (μ' := 91) (na := 3) (index := 85) (by decide +kernel) (by decide +kernel) (zgS (zin 869 (by decide +kernel) rfl) (zin 870 (by decide +kernel) rfl) (zin 9 (by decide +kernel) rfl) (zin 871 (by decide +kernel) rfl)) (by decide +kernel) (by decide +kernel)) ?_
  refine zap (zb_mono _ _) (zb_ok (zb_eq (off := 7) (by decide +kernel) (by decide +kernel))) ?_
  refine zap (zi_mono _ _) (zi_ok (zg_iconst (n := 1) (by decide +kernel) (by decide +kernel))) ?_
  refine zap (zj_mono _) (zj_ok (off := 4) (by decide +kernel) (by decide +kernel)) ?_
  refine zap (zi_mono _ _) (zi_ok (zg_iconst (n := 0) (by decide +kernel) (by decide +kernel))) ?_
  refine zap (zretZ_mono) (zretZ_ok (by decide +kernel) rfl) ?_
  refine zap (zi_mono _ _) (zi_ok (zg_aload_n (j := 0) (by decide +kernel) rfl)) ?_
  refine zap (zi_mono _ _) (zi_ok (zg_iload_n (j := 2) (by decide +kernel) rfl)) ?_
  refine zap (zcV_mono _ _ _ _) (zcV_ok znst_st (μ' := 92) (na := 1) (ci := 9) (index := 91) (q := (RC9, FC9, 33)) (by decide +kernel) (by decide +kernel) rfl (zgV (zin 872 (by decide +kernel) rfl) (zin 874 (by decide +kernel) rfl) (zsel 36 (by decide +kernel) rfl) (zin 9 (by decide +kernel) rfl) (zin 875 (by decide +kernel) rfl)) (by decide +kernel) (by decide +kernel)) ?_
  refine zap (zb_mono _ _) (zb_ok (zb_eq (off := 25) (by decide +kernel) (by decide +kernel))) ?_
  refine zap (zi_mono _ _) (zi_ok (zg_aload_n (j := 0) (by decide +kernel) rfl)) ?_
  refine zap (zi_mono _ _) (zi_ok (zg_iload_n (j := 3) (by decide +kernel) rfl)) ?_
  refine zap (zcV_mono _ _ _ _) (zcV_ok znst_st (μ' := 92) (na := 1) (ci := 9) (index := 91) (q := (RC9, FC9, 33)) (by decide +kernel) (by decide +kernel) rfl (zgV (zin 872 (by decide +kernel) rfl) (zin 874 (by decide +kernel) rfl) (zsel 36 (by decide +kernel) rfl) (zin 9 (by decide +kernel) rfl) (zin 875 (by decide +kernel) rfl)) (by decide +kernel) (by decide +kernel)) ?_
  refine zap (zb_mono _ _) (zb_ok (zb_eq (off := 17) (by decide +kernel) (by decide +kernel))) ?_
  refine zap (zi_mono _ _) (zi_ok (zg_iload (by decide +kernel))) ?_
  refine zap (zi_mono _ _) (zi_ok (zg_iconst (n := 0) (by decide +kernel) (by decide +kernel))) ?_
  refine zap (zi_mono _ _) (zi_ok (zg_iconst (n := 1) (by decide +kernel) (by decide +kernel))) ?_
  refine zap (zcS_mono _ _ _) (zcS_ok znst_st (μ' := 91) (na := 3) (index := 85) (by decide +kernel) (by decide +kernel) (zgS (zin 869 (by decide +kernel) rfl) (zin 870 (by decide +kernel) rfl) (zin 9 (by decide +kernel) rfl) (zin 871 (by decide +kernel) rfl)) (by decide +kernel) (by decide +kernel)) ?_
  refine zap (zb_mono _ _) (zb_ok (zb_eq (off := 7) (by decide +kernel) (by decide +kernel))) ?_
  refine zap (zi_mono _ _) (zi_ok (zg_iconst (n := 1) (by decide +kernel) (by decide +kernel))) ?_
  refine zap (zj_mono _) (zj_ok (off := 4) (by decide +kernel) (by decide +kernel)) ?_
  refine zap (zi_mono _ _) (zi_ok (zg_iconst (n := 0) (by decide +kernel) (by decide +kernel))) ?_
  refine zap (zretZ_mono) (zretZ_ok (by decide +kernel) rfl) ?_
  refine zap (zi_mono _ _) (zi_ok (zg_aload_n (j := 0) (by decide +kernel) rfl)) ?_
  refine zap (zi_mono _ _) (zi_ok (zg_iload_n (j := 2) (by decide +kernel) rfl)) ?_
  refine zap (zcV_mono _ _ _ _) (zcV_ok znst_st (μ' := 92) (na := 1) (ci := 9) (index := 91) (q := (RC9, FC9, 33)) (by decide +kernel) (by decide +kernel) rfl (zgV (zin 872 (by decide +kernel) rfl) (zin 874 (by decide +kernel) rfl) (zsel 36 (by decide +kernel) rfl) (zin 9 (by decide +kernel) rfl) (zin 875 (by decide +kernel) rfl)) (by decide +kernel) (by decide +kernel)) ?_
  refine zap (zretZ_mono) (zretZ_ok (by decide +kernel) rfl) ?_
  refine zap (zi_mono _ _) (zi_ok (zg_aload_n (j := 0) (by decide +kernel) rfl)) ?_
  refine zap (zi_mono _ _) (zi_ok (zg_iload_n (j := 2) (by decide +kernel) rfl)) ?_
  refine zap (zcV_mono _ _ _ _) (zcV_ok znst_st (μ' := 92) (na := 1) (ci := 9) (index := 91) (q := (RC9, FC9, 33)) (by decide +kernel) (by decide +kernel) rfl (zgV (zin 872 (by decide +kernel) rfl) (zin 874 (by decide +kernel) rfl) (zsel 36 (by decide +kernel) rfl) (zin 9 (by decide +kernel) rfl) (zin 875 (by decide +kernel) rfl)) (by decide +kernel) (by decide +kernel)) ?_
  refine zap (zb_mono _ _) (zb_ok (zb_eq (off := 15) (by decide +kernel) (by decide +kernel))) ?_
  refine zap (zi_mono _ _) (zi_ok (zg_aload_n (j := 0) (by decide +kernel) rfl)) ?_
  refine zap (zi_mono _ _) (zi_ok (zg_iload_n (j := 3) (by decide +kernel) rfl)) ?_
  refine zap (zcV_mono _ _ _ _) (zcV_ok znst_st (μ' := 92) (na := 1) (ci := 9) (index := 91) (q := (RC9, FC9, 33)) (by decide +kernel) (by decide +kernel) rfl (zgV (zin 872 (by decide +kernel) rfl) (zin 874 (by decide +kernel) rfl) (zsel 36 (by decide +kernel) rfl) (zin 9 (by decide +kernel) rfl) (zin 875 (by decide +kernel) rfl)) (by decide +kernel) (by decide +kernel)) ?_
  refine zap (zb_mono _ _) (zb_ok (zb_eq (off := 7) (by decide +kernel) (by decide +kernel))) ?_
  refine zap (zi_mono _ _) (zi_ok (zg_iconst (n := 1) (by decide +kernel) (by decide +kernel))) ?_
  refine zap (zj_mono _) (zj_ok (off := 4) (by decide +kernel) (by decide +kernel)) ?_
  refine zap (zi_mono _ _) (zi_ok (zg_iconst (n := 0) (by decide +kernel) (by decide +kernel))) ?_
  refine zap (zretZ_mono) (zretZ_ok (by decide +kernel) rfl) ?_
  refine zap (zi_mono _ _) (zi_ok (zg_iload_n (j := 2) (by decide +kernel) rfl)) ?_
  refine zap (zi_mono _ _) (zi_ok (zg_iconst (n := 0) (by decide +kernel) (by decide +kernel))) ?_
  refine zap (zi_mono _ _) (zi_ok (zg_bipush (n := 9) (by decide +kernel) (by decide +kernel))) ?_
  refine zap (zcS_mono _ _ _) (zcS_ok znst_st (μ' := 91) (na := 3) (index := 85) (by decide +kernel) (by decide +kernel) (zgS (zin 869 (by decide +kernel) rfl) (zin 870 (by decide +kernel) rfl) (zin 9 (by decide +kernel) rfl) (zin 871 (by decide +kernel) rfl)) (by decide +kernel) (by decide +kernel)) ?_
  refine zap (zb_mono _ _) (zb_ok (zb_eq (off := 24) (by decide +kernel) (by decide +kernel))) ?_
  refine zap (zi_mono _ _) (zi_ok (zg_aload_n (j := 0) (by decide +kernel) rfl)) ?_
  refine zap (zi_mono _ _) (zi_ok (zg_iload_n (j := 3) (by decide +kernel) rfl)) ?_
  refine zap (zcV_mono _ _ _ _) (zcV_ok znst_st (μ' := 92) (na := 1) (ci := 9) (index := 91) (q := (RC9, FC9, 33)) (by decide +kernel) (by decide +kernel) rfl (zgV (zin 872 (by decide +kernel) rfl) (zin 874 (by decide +kernel) rfl) (zsel 36 (by decide +kernel) rfl) (zin 9 (by decide +kernel) rfl) (zin 875 (by decide +kernel) rfl)) (by decide +kernel) (by decide +kernel)) ?_
  refine zap (zb_mono _ _) (zb_ok (zb_eq (off := 16) (by decide +kernel) (by decide +kernel))) ?_
  refine zap (zi_mono _ _) (zi_ok (zg_aload_n (j := 0) (by decide +kernel) rfl)) ?_
  refine zap (zi_mono _ _) (zi_ok (zg_iload (by decide +kernel))) ?_
  refine zap (zcV_mono _ _ _ _) (zcV_ok znst_st (μ' := 92) (na := 1) (ci := 9) (index := 91) (q := (RC9, FC9, 33)) (by decide +kernel) (by decide +kernel) rfl (zgV (zin 872 (by decide +kernel) rfl) (zin 874 (by decide +kernel) rfl) (zsel 36 (by decide +kernel) rfl) (zin 9 (by decide +kernel) rfl) (zin 875 (by decide +kernel) rfl)) (by decide +kernel) (by decide +kernel)) ?_
  refine zap (zb_mono _ _) (zb_ok (zb_eq (off := 7) (by decide +kernel) (by decide +kernel))) ?_
  refine zap (zi_mono _ _) (zi_ok (zg_iconst (n := 1) (by decide +kernel) (by decide +kernel))) ?_
  refine zap (zj_mono _) (zj_ok (off := 4) (by decide +kernel) (by decide +kernel)) ?_
  refine zap (zi_mono _ _) (zi_ok (zg_iconst (n := 0) (by decide +kernel) (by decide +kernel))) ?_
  refine zap (zretZ_mono) (zretZ_ok (by decide +kernel) rfl) ?_
  refine zap (zi_mono _ _) (zi_ok (zg_aload_n (j := 0) (by decide +kernel) rfl)) ?_
  refine zap (zi_mono _ _) (zi_ok (zg_iload_n (j := 2) (by decide +kernel) rfl)) ?_
  refine zap (zcV_mono _ _ _ _) (zcV_ok znst_st (μ' := 92) (na := 1) (ci := 9) (index := 91) (q := (RC9, FC9, 33)) (by decide +kernel) (by decide +kernel) rfl (zgV (zin 872 (by decide +kernel) rfl) (zin 874 (by decide +kernel) rfl) (zsel 36 (by decide +kernel) rfl) (zin 9 (by decide +kernel) rfl) (zin 875 (by decide +kernel) rfl)) (by decide +kernel) (by decide +kernel)) ?_
  refine zap (zb_mono _ _) (zb_ok (zb_eq (off := 30) (by decide +kernel) (by decide +kernel))) ?_
  refine zap (zi_mono _ _) (zi_ok (zg_aload_n (j := 0) (by decide +kernel) rfl)) ?_
  refine zap (zi_mono _ _) (zi_ok (zg_iload_n (j := 3) (by decide +kernel) rfl)) ?_
  refine zap (zcV_mono _ _ _ _) (zcV_ok znst_st (μ' := 92) (na := 1) (ci := 9) (index := 91) (q := (RC9, FC9, 33)) (by decide +kernel) (by decide +kernel) rfl (zgV (zin 872 (by decide +kernel) rfl) (zin 874 (by decide +kernel) rfl) (zsel 36 (by decide +kernel) rfl) (zin 9 (by decide +kernel) rfl) (zin 875 (by decide +kernel) rfl)) (by decide +kernel) (by decide +kernel)) ?_
  refine zap (zb_mono _ _) (zb_ok (zb_eq (off := 22) (by decide +kernel) (by decide +kernel))) ?_
  refine zap (zi_mono _ _) (zi_ok (zg_iload (by decide +kernel))) ?_
  refine zap (zi_mono _ _) (zi_ok (zg_iconst (n := -1) (by decide +kernel) (by decide +kernel))) ?_
  refine zap (zb_mono _ _) (zb_ok (zb_ieq (off := 12) (by decide +kernel) (by decide +kernel))) ?_
  refine zap (zi_mono _ _) (zi_ok (zg_aload_n (j := 0) (by decide +kernel) rfl)) ?_
  refine zap (zi_mono _ _) (zi_ok (zg_iload (by decide +kernel))) ?_
  refine zap (zcV_mono _ _ _ _) (zcV_ok znst_st (μ' := 92) (na := 1) (ci := 9) (index := 91) (q := (RC9, FC9, 33)) (by decide +kernel) (by decide +kernel) rfl (zgV (zin 872 (by decide +kernel) rfl) (zin 874 (by decide +kernel) rfl) (zsel 36 (by decide +kernel) rfl) (zin 9 (by decide +kernel) rfl) (zin 875 (by decide +kernel) rfl)) (by decide +kernel) (by decide +kernel)) ?_
  refine zap (zb_mono _ _) (zb_ok (zb_eq (off := 7) (by decide +kernel) (by decide +kernel))) ?_
  refine zap (zi_mono _ _) (zi_ok (zg_iconst (n := 1) (by decide +kernel) (by decide +kernel))) ?_
  refine zap (zj_mono _) (zj_ok (off := 4) (by decide +kernel) (by decide +kernel)) ?_
  refine zap (zi_mono _ _) (zi_ok (zg_iconst (n := 0) (by decide +kernel) (by decide +kernel))) ?_
  refine zap (zretZ_mono) (zretZ_ok (by decide +kernel) rfl) ?_
  refine zap (zi_mono _ _) (zi_ok (zg_aload_n (j := 0) (by decide +kernel) rfl)) ?_
  refine zap (zi_mono _ _) (zi_ok (zg_iload_n (j := 2) (by decide +kernel) rfl)) ?_
  refine zap (zcV_mono _ _ _ _) (zcV_ok znst_st (μ' := 92) (na := 1) (ci := 9) (index := 91) (q := (RC9, FC9, 33)) (by decide +kernel) (by decide +kernel) rfl (zgV (zin 872 (by decide +kernel) rfl) (zin 874 (by decide +kernel) rfl) (zsel 36 (by decide +kernel) rfl) (zin 9 (by decide +kernel) rfl) (zin 875 (by decide +kernel) rfl)) (by decide +kernel) (by decide +kernel)) ?_
  refine zap (zb_mono _ _) (zb_ok (zb_eq (off := 33) (by decide +kernel) (by decide +kernel))) ?_
  refine zap (zi_mono _ _) (zi_ok (zg_iload_n (j := 3) (by decide +kernel) rfl)) ?_
  refine zap (zi_mono _ _) (zi_ok (zg_iconst (n := 0) (by decide +kernel) (by decide +kernel))) ?_
  refine zap (zi_mono _ _) (zi_ok (zg_iconst (n := 2) (by decide +kernel) (by decide +kernel))) ?_
  refine zap (zcS_mono _ _ _) (zcS_ok znst_st (μ' := 91) (na := 3) (index := 85) (by decide +kernel) (by decide +kernel) (zgS (zin 869 (by decide +kernel) rfl) (zin 870 (by decide +kernel) rfl) (zin 9 (by decide +kernel) rfl) (zin 871 (by decide +kernel) rfl)) (by decide +kernel) (by decide +kernel)) ?_
  refine zap (zb_mono _ _) (zb_ok (zb_eq (off := 24) (by decide +kernel) (by decide +kernel))) ?_
  refine zap (zi_mono _ _) (zi_ok (zg_iload_n (j := 3) (by decide +kernel) rfl)) ?_
  refine zap (zb_mono _ _) (zb_ok (zb_eq (off := 16) (by decide +kernel) (by decide +kernel))) ?_
  refine zap (zi_mono _ _) (zi_ok (zg_iload (by decide +kernel))) ?_
  refine zap (zi_mono _ _) (zi_ok (zg_iconst (n := 0) (by decide +kernel) (by decide +kernel))) ?_
  refine zap (zi_mono _ _) (zi_ok (zg_bipush (n := 10) (by decide +kernel) (by decide +kernel))) ?_
  refine zap (zi_mono _ _) (zi_ok (zg_iload_n (j := 3) (by decide +kernel) rfl)) ?_
  refine zap (zi_mono _ _) (zi_ok (zg_isub (by decide +kernel))) ?_
  refine zap (zcS_mono _ _ _) (zcS_ok znst_st (μ' := 91) (na := 3) (index := 85) (by decide +kernel) (by decide +kernel) (zgS (zin 869 (by decide +kernel) rfl) (zin 870 (by decide +kernel) rfl) (zin 9 (by decide +kernel) rfl) (zin 871 (by decide +kernel) rfl)) (by decide +kernel) (by decide +kernel)) ?_
  refine zap (zb_mono _ _) (zb_ok (zb_eq (off := 7) (by decide +kernel) (by decide +kernel))) ?_
  refine zap (zi_mono _ _) (zi_ok (zg_iconst (n := 1) (by decide +kernel) (by decide +kernel))) ?_
  refine zap (zj_mono _) (zj_ok (off := 4) (by decide +kernel) (by decide +kernel)) ?_
  refine zap (zi_mono _ _) (zi_ok (zg_iconst (n := 0) (by decide +kernel) (by decide +kernel))) ?_
  refine zap (zretZ_mono) (zretZ_ok (by decide +kernel) rfl) ?_
  refine zap (zi_mono _ _) (zi_ok (zg_aload_n (j := 0) (by decide +kernel) rfl)) ?_
  refine zap (zi_mono _ _) (zi_ok (zg_iload_n (j := 2) (by decide +kernel) rfl)) ?_
  refine zap (zcV_mono _ _ _ _) (zcV_ok znst_st (μ' := 92) (na := 1) (ci := 9) (index := 91) (q := (RC9, FC9, 33)) (by decide +kernel) (by decide +kernel) rfl (zgV (zin 872 (by decide +kernel) rfl) (zin 874 (by decide +kernel) rfl) (zsel 36 (by decide +kernel) rfl) (zin 9 (by decide +kernel) rfl) (zin 875 (by decide +kernel) rfl)) (by decide +kernel) (by decide +kernel)) ?_
  refine zap (zb_mono _ _) (zb_ok (zb_eq (off := 44) (by decide +kernel) (by decide +kernel))) ?_
  refine zap (zi_mono _ _) (zi_ok (zg_iload_n (j := 3) (by decide +kernel) rfl)) ?_
  refine zap (zi_mono _ _) (zi_ok (zg_iconst (n := -1) (by decide +kernel) (by decide +kernel))) ?_
  refine zap (zb_mono _ _) (zb_ok (zb_ine (off := 12) (by decide +kernel) (by decide +kernel))) ?_
  refine zap (zi_mono _ _) (zi_ok (zg_iload (by decide +kernel))) ?_
  refine zap (zi_mono _ _) (zi_ok (zg_iconst (n := -1) (by decide +kernel) (by decide +kernel))) ?_
  refine zap (zb_mono _ _) (zb_ok (zb_ine (off := 33) (by decide +kernel) (by decide +kernel))) ?_
  refine zap (zj_mono _) (zj_ok (off := 26) (by decide +kernel) (by decide +kernel)) ?_
  refine zap (zi_mono _ _) (zi_ok (zg_aload_n (j := 0) (by decide +kernel) rfl)) ?_
  refine zap (zi_mono _ _) (zi_ok (zg_iload_n (j := 3) (by decide +kernel) rfl)) ?_
  refine zap (zcV_mono _ _ _ _) (zcV_ok znst_st (μ' := 92) (na := 1) (ci := 9) (index := 91) (q := (RC9, FC9, 33)) (by decide +kernel) (by decide +kernel) rfl (zgV (zin 872 (by decide +kernel) rfl) (zin 874 (by decide +kernel) rfl) (zsel 36 (by decide +kernel) rfl) (zin 9 (by decide +kernel) rfl) (zin 875 (by decide +kernel) rfl)) (by decide +kernel) (by decide +kernel)) ?_
  refine zap (zb_mono _ _) (zb_ok (zb_eq (off := 22) (by decide +kernel) (by decide +kernel))) ?_
  refine zap (zi_mono _ _) (zi_ok (zg_iload (by decide +kernel))) ?_
  refine zap (zi_mono _ _) (zi_ok (zg_iconst (n := -1) (by decide +kernel) (by decide +kernel))) ?_
  refine zap (zb_mono _ _) (zb_ok (zb_ieq (off := 12) (by decide +kernel) (by decide +kernel))) ?_
  refine zap (zi_mono _ _) (zi_ok (zg_aload_n (j := 0) (by decide +kernel) rfl)) ?_
  refine zap (zi_mono _ _) (zi_ok (zg_iload (by decide +kernel))) ?_
  refine zap (zcV_mono _ _ _ _) (zcV_ok znst_st (μ' := 92) (na := 1) (ci := 9) (index := 91) (q := (RC9, FC9, 33)) (by decide +kernel) (by decide +kernel) rfl (zgV (zin 872 (by decide +kernel) rfl) (zin 874 (by decide +kernel) rfl) (zsel 36 (by decide +kernel) rfl) (zin 9 (by decide +kernel) rfl) (zin 875 (by decide +kernel) rfl)) (by decide +kernel) (by decide +kernel)) ?_
  refine zap (zb_mono _ _) (zb_ok (zb_eq (off := 7) (by decide +kernel) (by decide +kernel))) ?_
  refine zap (zi_mono _ _) (zi_ok (zg_iconst (n := 1) (by decide +kernel) (by decide +kernel))) ?_
  refine zap (zj_mono _) (zj_ok (off := 4) (by decide +kernel) (by decide +kernel)) ?_
  refine zap (zi_mono _ _) (zi_ok (zg_iconst (n := 0) (by decide +kernel) (by decide +kernel))) ?_
  refine zap (zretZ_mono) (zretZ_ok (by decide +kernel) rfl) ?_
  refine zap (zi_mono _ _) (zi_ok (zg_iconst (n := 0) (by decide +kernel) (by decide +kernel))) ?_
  refine zap (zretZ_mono) (zretZ_ok (by decide +kernel) rfl) ?_
  exact zn
/-- VectorLanguageModel.between(III)Z -/
def tb91 (_ : List (ClassId × FieldType)) : List (Nat × (zP → zP)) := [(0, zi (gIl 0) 1), (1, zi (gIl 1) 1), (2, zb (c2 (fun x y => x < y)) 14), (5, zi (gIl 0) 1), (6, zi (gIl 2) 1), (7, zb (c2 (fun x y => y < x)) 14), (10, zi (gC (.int (1))) 1), (11, zj 15), (14, zi (gC (.int (0))) 1), (15, zretZ)]
set_option maxRecDepth 100000 in
theorem ok91 (l : Launch) (D : va_G) (dA : Nat → ClassId) (b0 : Nat) : ∀ q ∈ tb91 (ztys dA), zOK l D dA b0 91 q.1 q.2 := by
  refine zap (zi_mono _ _) (zi_ok (zg_iload_n (j := 0) (by decide +kernel) rfl)) ?_
  refine zap (zi_mono _ _) (zi_ok (zg_iload_n (j := 1) (by decide +kernel) rfl)) ?_
  refine zap (zb_mono _ _) (zb_ok (zb_ilt (off := 12) (by decide +kernel) (by decide +kernel))) ?_
  refine zap (zi_mono _ _) (zi_ok (zg_iload_n (j := 0) (by decide +kernel) rfl)) ?_
  refine zap (zi_mono _ _) (zi_ok (zg_iload_n (j := 2) (by decide +kernel) rfl)) ?_
  refine zap (zb_mono _ _) (zb_ok (zb_igt (off := 7) (by decide +kernel) (by decide +kernel))) ?_
  refine zap (zi_mono _ _) (zi_ok (zg_iconst (n := 1) (by decide +kernel) (by decide +kernel))) ?_
  refine zap (zj_mono _) (zj_ok (off := 4) (by decide +kernel) (by decide +kernel)) ?_
  refine zap (zi_mono _ _) (zi_ok (zg_iconst (n := 0) (by decide +kernel) (by decide +kernel))) ?_
  refine zap (zretZ_mono) (zretZ_ok (by decide +kernel) rfl) ?_
  exact zn
/-- VectorLanguageModel.made(I)Z -/
def tb92 (_ : List (ClassId × FieldType)) : List (Nat × (zP → zP)) := [(0, zi (gIl 1) 1), (1, zi (gC (.int (0))) 1), (2, zi (gAl 0) 1), (3, zget 9 5), (6, zi (gC (.int (1))) 1), (7, zi (gII (fun x y => x - y)) 1), (8, zcS 3 91 3), (11, zretZ)]
set_option maxRecDepth 100000 in
theorem ok92 (l : Launch) (D : va_G) (dA : Nat → ClassId) (b0 : Nat) : ∀ q ∈ tb92 (ztys dA), zOK l D dA b0 92 q.1 q.2 := by
  refine zap (zi_mono _ _) (zi_ok (zg_iload_n (j := 1) (by decide +kernel) rfl)) ?_
  refine zap (zi_mono _ _) (zi_ok (zg_iconst (n := 0) (by decide +kernel) (by decide +kernel))) ?_
  refine zap (zi_mono _ _) (zi_ok (zg_aload_n (j := 0) (by decide +kernel) rfl)) ?_
  refine zap (zget_mono _ _) (zget_ok (index := 82) (C := RC9) (ref := "VectorLanguageModel") (T := FC9) (NN := 33) (by decide +kernel) rfl iC9 (by decide +kernel) (zin 758 (by decide +kernel) rfl) rfl) ?_
  refine zap (zi_mono _ _) (zi_ok (zg_iconst (n := 1) (by decide +kernel) (by decide +kernel))) ?_
  refine zap (zi_mono _ _) (zi_ok (zg_isub (by decide +kernel))) ?_
  refine zap (zcS_mono _ _ _) (zcS_ok znst_st (μ' := 91) (na := 3) (index := 85) (by decide +kernel) (by decide +kernel) (zgS (zin 869 (by decide +kernel) rfl) (zin 870 (by decide +kernel) rfl) (zin 9 (by decide +kernel) rfl) (zin 871 (by decide +kernel) rfl)) (by decide +kernel) (by decide +kernel)) ?_
  refine zap (zretZ_mono) (zretZ_ok (by decide +kernel) rfl) ?_
  exact zn
/-- VectorLanguageModel.raise(I)I -/
def tb93 (_ : List (ClassId × FieldType)) : List (Nat × (zP → zP)) := [(0, zi (gAl 0) 1), (1, zi (gIl 1) 1), (2, zput (.int) 9 0), (5, zi (gC (.int (0))) 1), (6, zretI)]
set_option maxRecDepth 100000 in
theorem ok93 (l : Launch) (D : va_G) (dA : Nat → ClassId) (b0 : Nat) : ∀ q ∈ tb93 (ztys dA), zOK l D dA b0 93 q.1 q.2 := by
  refine zap (zi_mono _ _) (zi_ok (zg_aload_n (j := 0) (by decide +kernel) rfl)) ?_
  refine zap (zi_mono _ _) (zi_ok (zg_iload_n (j := 1) (by decide +kernel) rfl)) ?_
  refine zap (zput_mono _ _ _) (zput_ok (index := 79) (C := RC9) (ref := "VectorLanguageModel") (T := FC9) (NN := 33) tC9 (by decide +kernel) rfl iC9 tC9_ok nC9 (by decide +kernel) (zin 753 (by decide +kernel) rfl) rfl (Or.inl rfl) rfl) ?_
  refine zap (zi_mono _ _) (zi_ok (zg_iconst (n := 0) (by decide +kernel) (by decide +kernel))) ?_
  refine zap (zretI_mono) (zretI_ok (by decide +kernel) rfl) ?_
  exact zn
