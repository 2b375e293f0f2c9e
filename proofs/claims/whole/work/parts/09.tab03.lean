/-- VectorLanguage$Places.addOthers([II)V -/
def tb45 (tys : List (ClassId × FieldType)) : List (Nat × (zP → zP)) := [(0, zi (gC (.int (0))) 1), (1, zi (gIs 3) 1), (2, zi (gIl 3) 1), (3, zi (gIl 2) 1), (4, zb (c2 (fun x y => y ≤ x)) 101), (7, zi (gAl 0) 1), (8, zget 4 1), (11, zi (gC (.int (16))) 2), (13, zb (c2 (fun x y => y ≤ x)) 101), (16, zi (gC (.int (0))) 1), (17, zi (gIs 4) 2), (19, zi (gAl 1) 1), (20, zi (gAs 5) 2), (22, zi (gAl 5) 2), (24, zalen tys), (25, zi (gIs 6) 2), (27, zi (gC (.int (0))) 1), (28, zi (gIs 7) 2), (30, zi (gIl 7) 2), (32, zi (gIl 6) 2), (34, zb (c2 (fun x y => y ≤ x)) 70), (37, zi (gAl 5) 2), (39, zi (gIl 7) 2), (41, ziald tys), (42, zi (gIs 8) 2), (44, zi (gIl 4) 2), (46, zb (c1 (fun x => ¬ x = 0)) 57), (49, zi (gIl 8) 2), (51, zi (gC (.int (-1))) 1), (52, zi (gIl 3) 1), (53, zi (gII (fun x y => x - y)) 1), (54, zb (c2 (fun x y => ¬ x = y)) 61), (57, zi (gC (.int (1))) 1), (58, zj 62), (61, zi (gC (.int (0))) 1), (62, zi (gIs 4) 2), (64, zi (gIinc 7 (1)) 3), (67, zj 30), (70, zi (gIl 4) 2), (72, zb (c1 (fun x => ¬ x = 0)) 95), (75, zi (gAl 0) 1), (76, zget 4 0), (79, zi (gAl 0) 1), (80, zget 4 1), (83, zi (gIl 3) 1), (84, ziast tys), (85, zi (gAl 0) 1), (86, zi (gDup) 1), (87, zget 4 1), (90, zi (gC (.int (1))) 1), (91, zi (gII (fun x y => x + y)) 1), (92, zput (.int) 4 1), (95, zi (gIinc 3 (1)) 3), (98, zj 2), (101, zretV)]
set_option maxRecDepth 100000 in
theorem ok45 (l : Launch) (D : va_G) (dA : Nat → ClassId) (b0 : Nat) : ∀ q ∈ tb45 (ztys dA), zOK l D dA b0 45 q.1 q.2 := by
  refine zap (zi_mono _ _) (zi_ok (zg_iconst (n := 0) (by decide +kernel) (by decide +kernel))) ?_
  refine zap (zi_mono _ _) (zi_ok (zg_istore_n (j := 3) (by decide +kernel) rfl (by decide +kernel))) ?_
  refine zap (zi_mono _ _) (zi_ok (zg_iload_n (j := 3) (by decide +kernel) rfl)) ?_
  refine zap (zi_mono _ _) (zi_ok (zg_iload_n (j := 2) (by decide +kernel) rfl)) ?_
  refine zap (zb_mono _ _) (zb_ok (zb_ige (off := 97) (by decide +kernel) (by decide +kernel))) ?_
  refine zap (zi_mono _ _) (zi_ok (zg_aload_n (j := 0) (by decide +kernel) rfl)) ?_
  refine zap (zget_mono _ _) (zget_ok (index := 15) (C := RC4) (ref := "VectorLanguage$Places") (T := FC4) (NN := 5) (by decide +kernel) rfl iC4 (by decide +kernel) (zin 93 (by decide +kernel) rfl) rfl) ?_
  refine zap (zi_mono _ _) (zi_ok (zg_bipush (n := 16) (by decide +kernel) (by decide +kernel))) ?_
  refine zap (zb_mono _ _) (zb_ok (zb_ige (off := 88) (by decide +kernel) (by decide +kernel))) ?_
  refine zap (zi_mono _ _) (zi_ok (zg_iconst (n := 0) (by decide +kernel) (by decide +kernel))) ?_
  refine zap (zi_mono _ _) (zi_ok (zg_istore (by decide +kernel) (by decide +kernel))) ?_
  refine zap (zi_mono _ _) (zi_ok (zg_aload_n (j := 1) (by decide +kernel) rfl)) ?_
  refine zap (zi_mono _ _) (zi_ok (zg_astore (by decide +kernel) (by decide +kernel))) ?_
  refine zap (zi_mono _ _) (zi_ok (zg_aload (by decide +kernel))) ?_
  refine zap (zalen_mono _) (zalen_ok (by decide +kernel)) ?_
  refine zap (zi_mono _ _) (zi_ok (zg_istore (by decide +kernel) (by decide +kernel))) ?_
  refine zap (zi_mono _ _) (zi_ok (zg_iconst (n := 0) (by decide +kernel) (by decide +kernel))) ?_
  refine zap (zi_mono _ _) (zi_ok (zg_istore (by decide +kernel) (by decide +kernel))) ?_
  refine zap (zi_mono _ _) (zi_ok (zg_iload (by decide +kernel))) ?_
  refine zap (zi_mono _ _) (zi_ok (zg_iload (by decide +kernel))) ?_
  refine zap (zb_mono _ _) (zb_ok (zb_ige (off := 36) (by decide +kernel) (by decide +kernel))) ?_
  refine zap (zi_mono _ _) (zi_ok (zg_aload (by decide +kernel))) ?_
  refine zap (zi_mono _ _) (zi_ok (zg_iload (by decide +kernel))) ?_
  refine zap (ziald_mono _) (ziald_ok (by decide +kernel)) ?_
  refine zap (zi_mono _ _) (zi_ok (zg_istore (by decide +kernel) (by decide +kernel))) ?_
  refine zap (zi_mono _ _) (zi_ok (zg_iload (by decide +kernel))) ?_
  refine zap (zb_mono _ _) (zb_ok (zb_ne (off := 11) (by decide +kernel) (by decide +kernel))) ?_
  refine zap (zi_mono _ _) (zi_ok (zg_iload (by decide +kernel))) ?_
  refine zap (zi_mono _ _) (zi_ok (zg_iconst (n := -1) (by decide +kernel) (by decide +kernel))) ?_
  refine zap (zi_mono _ _) (zi_ok (zg_iload_n (j := 3) (by decide +kernel) rfl)) ?_
  refine zap (zi_mono _ _) (zi_ok (zg_isub (by decide +kernel))) ?_
  refine zap (zb_mono _ _) (zb_ok (zb_ine (off := 7) (by decide +kernel) (by decide +kernel))) ?_
  refine zap (zi_mono _ _) (zi_ok (zg_iconst (n := 1) (by decide +kernel) (by decide +kernel))) ?_
  refine zap (zj_mono _) (zj_ok (off := 4) (by decide +kernel) (by decide +kernel)) ?_
  refine zap (zi_mono _ _) (zi_ok (zg_iconst (n := 0) (by decide +kernel) (by decide +kernel))) ?_
  refine zap (zi_mono _ _) (zi_ok (zg_istore (by decide +kernel) (by decide +kernel))) ?_
  refine zap (zi_mono _ _) (zi_ok (zg_iinc (n := 1) (by decide +kernel) (by decide +kernel) (by decide +kernel))) ?_
  refine zap (zj_mono _) (zj_ok (off := -37) (by decide +kernel) (by decide +kernel)) ?_
  refine zap (zi_mono _ _) (zi_ok (zg_iload (by decide +kernel))) ?_
  refine zap (zb_mono _ _) (zb_ok (zb_ne (off := 23) (by decide +kernel) (by decide +kernel))) ?_
  refine zap (zi_mono _ _) (zi_ok (zg_aload_n (j := 0) (by decide +kernel) rfl)) ?_
  refine zap (zget_mono _ _) (zget_ok (index := 9) (C := RC4) (ref := "VectorLanguage$Places") (T := FC4) (NN := 5) (by decide +kernel) rfl iC4 (by decide +kernel) (zin 91 (by decide +kernel) rfl) rfl) ?_
  refine zap (zi_mono _ _) (zi_ok (zg_aload_n (j := 0) (by decide +kernel) rfl)) ?_
  refine zap (zget_mono _ _) (zget_ok (index := 15) (C := RC4) (ref := "VectorLanguage$Places") (T := FC4) (NN := 5) (by decide +kernel) rfl iC4 (by decide +kernel) (zin 93 (by decide +kernel) rfl) rfl) ?_
  refine zap (zi_mono _ _) (zi_ok (zg_iload_n (j := 3) (by decide +kernel) rfl)) ?_
  refine zap (ziast_mono _) (ziast_ok (by decide +kernel)) ?_
  refine zap (zi_mono _ _) (zi_ok (zg_aload_n (j := 0) (by decide +kernel) rfl)) ?_
  refine zap (zi_mono _ _) (zi_ok (zg_dup (by decide +kernel))) ?_
  refine zap (zget_mono _ _) (zget_ok (index := 15) (C := RC4) (ref := "VectorLanguage$Places") (T := FC4) (NN := 5) (by decide +kernel) rfl iC4 (by decide +kernel) (zin 93 (by decide +kernel) rfl) rfl) ?_
  refine zap (zi_mono _ _) (zi_ok (zg_iconst (n := 1) (by decide +kernel) (by decide +kernel))) ?_
  refine zap (zi_mono _ _) (zi_ok (zg_iadd (by decide +kernel))) ?_
  refine zap (zput_mono _ _ _) (zput_ok (index := 15) (C := RC4) (ref := "VectorLanguage$Places") (T := FC4) (NN := 5) tC4 (by decide +kernel) rfl iC4 tC4_ok nC4 (by decide +kernel) (zin 93 (by decide +kernel) rfl) rfl (Or.inl rfl) rfl) ?_
  refine zap (zi_mono _ _) (zi_ok (zg_iinc (n := 1) (by decide +kernel) (by decide +kernel) (by decide +kernel))) ?_
  refine zap (zj_mono _) (zj_ok (off := -96) (by decide +kernel) (by decide +kernel)) ?_
  refine zap (zretV_mono) (zretV_ok (by decide +kernel) rfl) ?_
  exact zn
/-- VectorLanguage$Places.reach()I -/
def tb46 (tys : List (ClassId × FieldType)) : List (Nat × (zP → zP)) := [(0, zi (gC (.int (0))) 1), (1, zi (gIs 1) 1), (2, zi (gC (.int (0))) 1), (3, zi (gIs 2) 1), (4, zi (gIl 2) 1), (5, zi (gAl 0) 1), (6, zget 4 1), (9, zb (c2 (fun x y => y ≤ x)) 31), (12, zi (gIl 1) 1), (13, zi (gAl 0) 1), (14, zget 4 0), (17, zi (gIl 2) 1), (18, ziald tys), (19, zi (gC (.int (1))) 1), (20, zi (gII (fun x y => x + y)) 1), (21, zcS 2 47 2), (24, zi (gIs 1) 1), (25, zi (gIinc 2 (1)) 3), (28, zj 4), (31, zi (gIl 1) 1), (32, zretI)]
set_option maxRecDepth 100000 in
theorem ok46 (l : Launch) (D : va_G) (dA : Nat → ClassId) (b0 : Nat) : ∀ q ∈ tb46 (ztys dA), zOK l D dA b0 46 q.1 q.2 := by
  refine zap (zi_mono _ _) (zi_ok (zg_iconst (n := 0) (by decide +kernel) (by decide +kernel))) ?_
  refine zap (zi_mono _ _) (zi_ok (zg_istore_n (j := 1) (by decide +kernel) rfl (by decide +kernel))) ?_
  refine zap (zi_mono _ _) (zi_ok (zg_iconst (n := 0) (by decide +kernel) (by decide +kernel))) ?_
  refine zap (zi_mono _ _) (zi_ok (zg_istore_n (j := 2) (by decide +kernel) rfl (by decide +kernel))) ?_
  refine zap (zi_mono _ _) (zi_ok (zg_iload_n (j := 2) (by decide +kernel) rfl)) ?_
  refine zap (zi_mono _ _) (zi_ok (zg_aload_n (j := 0) (by decide +kernel) rfl)) ?_
  refine zap (zget_mono _ _) (zget_ok (index := 15) (C := RC4) (ref := "VectorLanguage$Places") (T := FC4) (NN := 5) (by decide +kernel) rfl iC4 (by decide +kernel) (zin 93 (by decide +kernel) rfl) rfl) ?_
  refine zap (zb_mono _ _) (zb_ok (zb_ige (off := 22) (by decide +kernel) (by decide +kernel))) ?_
  refine zap (zi_mono _ _) (zi_ok (zg_iload_n (j := 1) (by decide +kernel) rfl)) ?_
  refine zap (zi_mono _ _) (zi_ok (zg_aload_n (j := 0) (by decide +kernel) rfl)) ?_
  refine zap (zget_mono _ _) (zget_ok (index := 9) (C := RC4) (ref := "VectorLanguage$Places") (T := FC4) (NN := 5) (by decide +kernel) rfl iC4 (by decide +kernel) (zin 91 (by decide +kernel) rfl) rfl) ?_
  refine zap (zi_mono _ _) (zi_ok (zg_iload_n (j := 2) (by decide +kernel) rfl)) ?_
  refine zap (ziald_mono _) (ziald_ok (by decide +kernel)) ?_
  refine zap (zi_mono _ _) (zi_ok (zg_iconst (n := 1) (by decide +kernel) (by decide +kernel))) ?_
  refine zap (zi_mono _ _) (zi_ok (zg_iadd (by decide +kernel))) ?_
  refine zap (zcS_mono _ _ _) (zcS_ok znst_st (μ' := 47) (na := 2) (index := 40) (by decide +kernel) (by decide +kernel) (zgS (zin 482 (by decide +kernel) rfl) (zin 483 (by decide +kernel) rfl) (zin 18 (by decide +kernel) rfl) (zin 484 (by decide +kernel) rfl)) (by decide +kernel) (by decide +kernel)) ?_
  refine zap (zi_mono _ _) (zi_ok (zg_istore_n (j := 1) (by decide +kernel) rfl (by decide +kernel))) ?_
  refine zap (zi_mono _ _) (zi_ok (zg_iinc (n := 1) (by decide +kernel) (by decide +kernel) (by decide +kernel))) ?_
  refine zap (zj_mono _) (zj_ok (off := -24) (by decide +kernel) (by decide +kernel)) ?_
  refine zap (zi_mono _ _) (zi_ok (zg_iload_n (j := 1) (by decide +kernel) rfl)) ?_
  refine zap (zretI_mono) (zretI_ok (by decide +kernel) rfl) ?_
  exact zn
/-- java/lang/Math.max(II)I -/
def tb47 (_ : List (ClassId × FieldType)) : List (Nat × (zP → zP)) := [(0, zi (gIl 0) 1), (1, zi (gIl 1) 1), (2, zb (c2 (fun x y => x < y)) 9), (5, zi (gIl 0) 1), (6, zj 10), (9, zi (gIl 1) 1), (10, zretI)]
set_option maxRecDepth 100000 in
theorem ok47 (l : Launch) (D : va_G) (dA : Nat → ClassId) (b0 : Nat) : ∀ q ∈ tb47 (ztys dA), zOK l D dA b0 47 q.1 q.2 := by
  refine zap (zi_mono _ _) (zi_ok (zg_iload_n (j := 0) (by decide +kernel) rfl)) ?_
  refine zap (zi_mono _ _) (zi_ok (zg_iload_n (j := 1) (by decide +kernel) rfl)) ?_
  refine zap (zb_mono _ _) (zb_ok (zb_ilt (off := 7) (by decide +kernel) (by decide +kernel))) ?_
  refine zap (zi_mono _ _) (zi_ok (zg_iload_n (j := 0) (by decide +kernel) rfl)) ?_
  refine zap (zj_mono _) (zj_ok (off := 4) (by decide +kernel) (by decide +kernel)) ?_
  refine zap (zi_mono _ _) (zi_ok (zg_iload_n (j := 1) (by decide +kernel) rfl)) ?_
  refine zap (zretI_mono) (zretI_ok (by decide +kernel) rfl) ?_
  exact zn
/-- VectorLanguage$Evaluator.replaced([II[I)[I -/
def tb48 (tys : List (ClassId × FieldType)) : List (Nat × (zP → zP)) := [(0, zi (gAl 1) 1), (1, zi (gIl 2) 1), (2, zcS 3 49 2), (5, zi (gAs 4) 2), (7, zi (gAl 1) 1), (8, zalen tys), (9, zi (gIs 5) 2), (11, zi (gIl 5) 2), (13, zi (gIl 2) 1), (14, zb (c2 (fun x y => y ≤ x)) 30), (17, zi (gAl 4) 2), (19, zi (gIl 5) 2), (21, zi (gC (.int (-2147483648))) 2), (23, ziast tys), (24, zi (gIinc 5 (1)) 3), (27, zj 11), (30, zi (gC (.int (0))) 1), (31, zi (gIs 5) 2), (33, zi (gIl 5) 2), (35, zi (gAl 0) 1), (36, zget 2 8), (39, zget 4 1), (42, zb (c2 (fun x y => y ≤ x)) 71), (45, zi (gAl 4) 2), (47, zi (gAl 0) 1), (48, zget 2 8), (51, zget 4 0), (54, zi (gIl 5) 2), (56, ziald tys), (57, zi (gAl 3) 1), (58, zi (gIl 5) 2), (60, zi (gAl 3) 1), (61, zalen tys), (62, zdv (fun x y => x - x / y * y)), (63, ziald tys), (64, ziast tys), (65, zi (gIinc 5 (1)) 3), (68, zj 33), (71, zi (gAl 4) 2), (73, zretA)]
set_option maxRecDepth 100000 in
theorem ok48 (l : Launch) (D : va_G) (dA : Nat → ClassId) (b0 : Nat) : ∀ q ∈ tb48 (ztys dA), zOK l D dA b0 48 q.1 q.2 := by
  refine zap (zi_mono _ _) (zi_ok (zg_aload_n (j := 1) (by decide +kernel) rfl)) ?_
  refine zap (zi_mono _ _) (zi_ok (zg_iload_n (j := 2) (by decide +kernel) rfl)) ?_
  refine zap (zcS_mono _ _ _) (zcS_ok znst_st (μ' := 49) (na := 2) (index := 246) (by decide +kernel) (by decide +kernel) (zgS (zin 490 (by decide +kernel) rfl) (zin 491 (by decide +kernel) rfl) (zin 19 (by decide +kernel) rfl) (zin 492 (by decide +kernel) rfl)) (by decide +kernel) (by decide +kernel)) ?_
  refine zap (zi_mono _ _) (zi_ok (zg_astore (by decide +kernel) (by decide +kernel))) ?_
  refine zap (zi_mono _ _) (zi_ok (zg_aload_n (j := 1) (by decide +kernel) rfl)) ?_
  refine zap (zalen_mono _) (zalen_ok (by decide +kernel)) ?_
  refine zap (zi_mono _ _) (zi_ok (zg_istore (by decide +kernel) (by decide +kernel))) ?_
  refine zap (zi_mono _ _) (zi_ok (zg_iload (by decide +kernel))) ?_
  refine zap (zi_mono _ _) (zi_ok (zg_iload_n (j := 2) (by decide +kernel) rfl)) ?_
  refine zap (zb_mono _ _) (zb_ok (zb_ige (off := 16) (by decide +kernel) (by decide +kernel))) ?_
  refine zap (zi_mono _ _) (zi_ok (zg_aload (by decide +kernel))) ?_
  refine zap (zi_mono _ _) (zi_ok (zg_iload (by decide +kernel))) ?_
  refine zap (zi_mono _ _) (zi_ok (zg_ldc (index := 36) (by decide +kernel) (zin 128 (by decide +kernel) rfl))) ?_
  refine zap (ziast_mono _) (ziast_ok (by decide +kernel)) ?_
  refine zap (zi_mono _ _) (zi_ok (zg_iinc (n := 1) (by decide +kernel) (by decide +kernel) (by decide +kernel))) ?_
  refine zap (zj_mono _) (zj_ok (off := -16) (by decide +kernel) (by decide +kernel)) ?_
  refine zap (zi_mono _ _) (zi_ok (zg_iconst (n := 0) (by decide +kernel) (by decide +kernel))) ?_
  refine zap (zi_mono _ _) (zi_ok (zg_istore (by decide +kernel) (by decide +kernel))) ?_
  refine zap (zi_mono _ _) (zi_ok (zg_iload (by decide +kernel))) ?_
  refine zap (zi_mono _ _) (zi_ok (zg_aload_n (j := 0) (by decide +kernel) rfl)) ?_
  refine zap (zget_mono _ _) (zget_ok (index := 23) (C := RC2) (ref := "VectorLanguage$Evaluator") (T := FC2) (NN := 13) (by decide +kernel) rfl iC2 (by decide +kernel) (zin 145 (by decide +kernel) rfl) rfl) ?_
  refine zap (zget_mono _ _) (zget_ok (index := 265) (C := RC4) (ref := "VectorLanguage$Places") (T := FC4) (NN := 5) (by decide +kernel) rfl iC4 (by decide +kernel) (zin 94 (by decide +kernel) rfl) rfl) ?_
  refine zap (zb_mono _ _) (zb_ok (zb_ige (off := 29) (by decide +kernel) (by decide +kernel))) ?_
  refine zap (zi_mono _ _) (zi_ok (zg_aload (by decide +kernel))) ?_
  refine zap (zi_mono _ _) (zi_ok (zg_aload_n (j := 0) (by decide +kernel) rfl)) ?_
  refine zap (zget_mono _ _) (zget_ok (index := 23) (C := RC2) (ref := "VectorLanguage$Evaluator") (T := FC2) (NN := 13) (by decide +kernel) rfl iC2 (by decide +kernel) (zin 145 (by decide +kernel) rfl) rfl) ?_
  refine zap (zget_mono _ _) (zget_ok (index := 268) (C := RC4) (ref := "VectorLanguage$Places") (T := FC4) (NN := 5) (by decide +kernel) rfl iC4 (by decide +kernel) (zin 92 (by decide +kernel) rfl) rfl) ?_
  refine zap (zi_mono _ _) (zi_ok (zg_iload (by decide +kernel))) ?_
  refine zap (ziald_mono _) (ziald_ok (by decide +kernel)) ?_
  refine zap (zi_mono _ _) (zi_ok (zg_aload_n (j := 3) (by decide +kernel) rfl)) ?_
  refine zap (zi_mono _ _) (zi_ok (zg_iload (by decide +kernel))) ?_
  refine zap (zi_mono _ _) (zi_ok (zg_aload_n (j := 3) (by decide +kernel) rfl)) ?_
  refine zap (zalen_mono _) (zalen_ok (by decide +kernel)) ?_
  refine zap (zdv_mono _) (zdv_rem (by decide +kernel)) ?_
  refine zap (ziald_mono _) (ziald_ok (by decide +kernel)) ?_
  refine zap (ziast_mono _) (ziast_ok (by decide +kernel)) ?_
  refine zap (zi_mono _ _) (zi_ok (zg_iinc (n := 1) (by decide +kernel) (by decide +kernel) (by decide +kernel))) ?_
  refine zap (zj_mono _) (zj_ok (off := -35) (by decide +kernel) (by decide +kernel)) ?_
  refine zap (zi_mono _ _) (zi_ok (zg_aload (by decide +kernel))) ?_
  refine zap (zretA_mono) (zretA_ok (by decide +kernel) rfl (Or.inr ⟨_, rfl⟩)) ?_
  exact zn
/-- java/util/Arrays.copyOf([II)[I -/
def tb49 (tys : List (ClassId × FieldType)) : List (Nat × (zP → zP)) := [(0, zi (gIl 1) 1), (1, zi (gAl 0) 1), (2, zalen tys), (3, zb (c2 (fun x y => ¬ x = y)) 14), (6, zi (gAl 0) 1), (7, zclone tys), (10, zcastI tys), (13, zretA), (14, zi (gIl 1) 1), (15, znewi tys), (17, zi (gAs 2) 1), (18, zi (gAl 0) 1), (19, zi (gC (.int (0))) 1), (20, zi (gAl 2) 1), (21, zi (gC (.int (0))) 1), (22, zi (gAl 0) 1), (23, zalen tys), (24, zi (gIl 1) 1), (25, zcS 2 50 2), (28, zcopy tys), (31, zi (gAl 2) 1), (32, zretA)]
set_option maxRecDepth 100000 in
theorem ok49 (l : Launch) (D : va_G) (dA : Nat → ClassId) (b0 : Nat) : ∀ q ∈ tb49 (ztys dA), zOK l D dA b0 49 q.1 q.2 := by
  refine zap (zi_mono _ _) (zi_ok (zg_iload_n (j := 1) (by decide +kernel) rfl)) ?_
  refine zap (zi_mono _ _) (zi_ok (zg_aload_n (j := 0) (by decide +kernel) rfl)) ?_
  refine zap (zalen_mono _) (zalen_ok (by decide +kernel)) ?_
  refine zap (zb_mono _ _) (zb_ok (zb_ine (off := 11) (by decide +kernel) (by decide +kernel))) ?_
  refine zap (zi_mono _ _) (zi_ok (zg_aload_n (j := 0) (by decide +kernel) rfl)) ?_
  refine zap (zclone_mono _) (zclone_ok (index := 316) (by decide +kernel) (zin 493 (by decide +kernel) rfl) (zin 494 (by decide +kernel) rfl) (zin 495 (by decide +kernel) rfl) (zin 496 (by decide +kernel) rfl) (zin 497 (by decide +kernel) rfl) (List.mem_of_getElem? (i := 7) rfl)) ?_
  refine zap (zcastI_mono _) (zcastI_ok (index := 317) (by decide +kernel) (zin 499 (by decide +kernel) rfl)) ?_
  refine zap (zretA_mono) (zretA_ok (by decide +kernel) rfl (Or.inr ⟨_, rfl⟩)) ?_
  refine zap (zi_mono _ _) (zi_ok (zg_iload_n (j := 1) (by decide +kernel) rfl)) ?_
  refine zap (znewi_mono _) (znewi_ok (by decide +kernel) (zin 109 (by decide +kernel) rfl)) ?_
  refine zap (zi_mono _ _) (zi_ok (zg_astore_n (j := 2) (by decide +kernel) rfl (by decide +kernel))) ?_
  refine zap (zi_mono _ _) (zi_ok (zg_aload_n (j := 0) (by decide +kernel) rfl)) ?_
  refine zap (zi_mono _ _) (zi_ok (zg_iconst (n := 0) (by decide +kernel) (by decide +kernel))) ?_
  refine zap (zi_mono _ _) (zi_ok (zg_aload_n (j := 2) (by decide +kernel) rfl)) ?_
  refine zap (zi_mono _ _) (zi_ok (zg_iconst (n := 0) (by decide +kernel) (by decide +kernel))) ?_
  refine zap (zi_mono _ _) (zi_ok (zg_aload_n (j := 0) (by decide +kernel) rfl)) ?_
  refine zap (zalen_mono _) (zalen_ok (by decide +kernel)) ?_
  refine zap (zi_mono _ _) (zi_ok (zg_iload_n (j := 1) (by decide +kernel) rfl)) ?_
  refine zap (zcS_mono _ _ _) (zcS_ok znst_st (μ' := 50) (na := 2) (index := 304) (by decide +kernel) (by decide +kernel) (zgS (zin 500 (by decide +kernel) rfl) (zin 501 (by decide +kernel) rfl) (zin 18 (by decide +kernel) rfl) (zin 502 (by decide +kernel) rfl)) (by decide +kernel) (by decide +kernel)) ?_
  refine zap (zcopy_mono _) (zcopy_ok (index := 150) (by decide +kernel) (zin 503 (by decide +kernel) rfl) (zin 505 (by decide +kernel) rfl) (zin 504 (by decide +kernel) rfl) (zin 20 (by decide +kernel) rfl) (by decide +kernel)) ?_
  refine zap (zi_mono _ _) (zi_ok (zg_aload_n (j := 2) (by decide +kernel) rfl)) ?_
  refine zap (zretA_mono) (zretA_ok (by decide +kernel) rfl (Or.inr ⟨_, rfl⟩)) ?_
  exact zn
/-- java/lang/Math.min(II)I -/
def tb50 (_ : List (ClassId × FieldType)) : List (Nat × (zP → zP)) := [(0, zi (gIl 0) 1), (1, zi (gIl 1) 1), (2, zb (c2 (fun x y => y < x)) 9), (5, zi (gIl 0) 1), (6, zj 10), (9, zi (gIl 1) 1), (10, zretI)]
set_option maxRecDepth 100000 in
theorem ok50 (l : Launch) (D : va_G) (dA : Nat → ClassId) (b0 : Nat) : ∀ q ∈ tb50 (ztys dA), zOK l D dA b0 50 q.1 q.2 := by
  refine zap (zi_mono _ _) (zi_ok (zg_iload_n (j := 0) (by decide +kernel) rfl)) ?_
  refine zap (zi_mono _ _) (zi_ok (zg_iload_n (j := 1) (by decide +kernel) rfl)) ?_
  refine zap (zb_mono _ _) (zb_ok (zb_igt (off := 7) (by decide +kernel) (by decide +kernel))) ?_
  refine zap (zi_mono _ _) (zi_ok (zg_iload_n (j := 0) (by decide +kernel) rfl)) ?_
  refine zap (zj_mono _) (zj_ok (off := 4) (by decide +kernel) (by decide +kernel)) ?_
  refine zap (zi_mono _ _) (zi_ok (zg_iload_n (j := 1) (by decide +kernel) rfl)) ?_
  refine zap (zretI_mono) (zretI_ok (by decide +kernel) rfl) ?_
  exact zn
/-- VectorLanguage$Evaluator.choose(LVectorLanguage$Expression;LVectorLanguage$Environment;I)LVectorLanguage$Value; -/
def tb51 (_ : List (ClassId × FieldType)) : List (Nat × (zP → zP)) := [(0, zi (gAl 0) 1), (1, zi (gAl 1) 1), (2, zget 6 1), (5, zi (gAl 2) 1), (6, zi (gIl 3) 1), (7, zcV 6 52 3 2), (10, zi (gIs 4) 2), (12, zi (gIl 4) 2), (14, zi (gC (.int (-2147483648))) 2), (16, zb (c2 (fun x y => ¬ x = y)) 21), (19, zi (gC .null) 1), (20, zretA), (21, zi (gIl 4) 2), (23, zb (c1 (fun x => x = 0)) 37), (26, zi (gAl 0) 1), (27, zi (gAl 1) 1), (28, zget 6 2), (31, zi (gAl 2) 1), (32, zi (gIl 3) 1), (33, zcV 5 24 3 2), (36, zretA), (37, zi (gAl 1) 1), (38, zget 6 3), (41, zi (gC (.int (-1))) 1), (42, zb (c2 (fun x y => ¬ x = y)) 52), (45, zi (gAl 0) 1), (46, zget 2 9), (49, zj 62), (52, zi (gAl 0) 1), (53, zi (gAl 1) 1), (54, zget 6 3), (57, zi (gAl 2) 1), (58, zi (gIl 3) 1), (59, zcV 5 24 3 2), (62, zretA)]
set_option maxRecDepth 100000 in
theorem ok51 (l : Launch) (D : va_G) (dA : Nat → ClassId) (b0 : Nat) : ∀ q ∈ tb51 (ztys dA), zOK l D dA b0 51 q.1 q.2 := by
  refine zap (zi_mono _ _) (zi_ok (zg_aload_n (j := 0) (by decide +kernel) rfl)) ?_
  refine zap (zi_mono _ _) (zi_ok (zg_aload_n (j := 1) (by decide +kernel) rfl)) ?_
  refine zap (zget_mono _ _) (zget_ok (index := 114) (C := RC6) (ref := "VectorLanguage$Expression") (T := FC6) (NN := 5) (by decide +kernel) rfl iC6 (by decide +kernel) (zin 334 (by decide +kernel) rfl) rfl) ?_
  refine zap (zi_mono _ _) (zi_ok (zg_aload_n (j := 2) (by decide +kernel) rfl)) ?_
  refine zap (zi_mono _ _) (zi_ok (zg_iload_n (j := 3) (by decide +kernel) rfl)) ?_
  refine zap (zcV_mono _ _ _ _) (zcV_ok znst_st (μ' := 52) (na := 3) (ci := 2) (index := 283) (q := (RC2, FC2, 13)) (by decide +kernel) (by decide +kernel) rfl (zgV (zin 510 (by decide +kernel) rfl) (zin 512 (by decide +kernel) rfl) (zsel 20 (by decide +kernel) rfl) (zin 3 (by decide +kernel) rfl) (zin 513 (by decide +kernel) rfl)) (by decide +kernel) (by decide +kernel)) ?_
  refine zap (zi_mono _ _) (zi_ok (zg_istore (by decide +kernel) (by decide +kernel))) ?_
  refine zap (zi_mono _ _) (zi_ok (zg_iload (by decide +kernel))) ?_
  refine zap (zi_mono _ _) (zi_ok (zg_ldc (index := 36) (by decide +kernel) (zin 128 (by decide +kernel) rfl))) ?_
  refine zap (zb_mono _ _) (zb_ok (zb_ine (off := 5) (by decide +kernel) (by decide +kernel))) ?_
  refine zap (zi_mono _ _) (zi_ok (zg_null (by decide +kernel))) ?_
  refine zap (zretA_mono) (zretA_ok (by decide +kernel) rfl (Or.inl ⟨_, rfl⟩)) ?_
  refine zap (zi_mono _ _) (zi_ok (zg_iload (by decide +kernel))) ?_
  refine zap (zb_mono _ _) (zb_ok (zb_eq (off := 14) (by decide +kernel) (by decide +kernel))) ?_
  refine zap (zi_mono _ _) (zi_ok (zg_aload_n (j := 0) (by decide +kernel) rfl)) ?_
  refine zap (zi_mono _ _) (zi_ok (zg_aload_n (j := 1) (by decide +kernel) rfl)) ?_
  refine zap (zget_mono _ _) (zget_ok (index := 117) (C := RC6) (ref := "VectorLanguage$Expression") (T := FC6) (NN := 5) (by decide +kernel) rfl iC6 (by decide +kernel) (zin 336 (by decide +kernel) rfl) rfl) ?_
  refine zap (zi_mono _ _) (zi_ok (zg_aload_n (j := 2) (by decide +kernel) rfl)) ?_
  refine zap (zi_mono _ _) (zi_ok (zg_iload_n (j := 3) (by decide +kernel) rfl)) ?_
  refine zap (zcV_mono _ _ _ _) (zcV_ok znst_st (μ' := 24) (na := 3) (ci := 2) (index := 63) (q := (RC2, FC2, 13)) (by decide +kernel) (by decide +kernel) rfl (zgV (zin 388 (by decide +kernel) rfl) (zin 390 (by decide +kernel) rfl) (zsel 3 (by decide +kernel) rfl) (zin 3 (by decide +kernel) rfl) (zin 391 (by decide +kernel) rfl)) (by decide +kernel) (by decide +kernel)) ?_
  refine zap (zretA_mono) (zretA_ok (by decide +kernel) rfl (Or.inl ⟨_, rfl⟩)) ?_
  refine zap (zi_mono _ _) (zi_ok (zg_aload_n (j := 1) (by decide +kernel) rfl)) ?_
  refine zap (zget_mono _ _) (zget_ok (index := 122) (C := RC6) (ref := "VectorLanguage$Expression") (T := FC6) (NN := 5) (by decide +kernel) rfl iC6 (by decide +kernel) (zin 338 (by decide +kernel) rfl) rfl) ?_
  refine zap (zi_mono _ _) (zi_ok (zg_iconst (n := -1) (by decide +kernel) (by decide +kernel))) ?_
  refine zap (zb_mono _ _) (zb_ok (zb_ine (off := 10) (by decide +kernel) (by decide +kernel))) ?_
  refine zap (zi_mono _ _) (zi_ok (zg_aload_n (j := 0) (by decide +kernel) rfl)) ?_
  refine zap (zget_mono _ _) (zget_ok (index := 32) (C := RC2) (ref := "VectorLanguage$Evaluator") (T := FC2) (NN := 13) (by decide +kernel) rfl iC2 (by decide +kernel) (zin 146 (by decide +kernel) rfl) rfl) ?_
  refine zap (zj_mono _) (zj_ok (off := 13) (by decide +kernel) (by decide +kernel)) ?_
  refine zap (zi_mono _ _) (zi_ok (zg_aload_n (j := 0) (by decide +kernel) rfl)) ?_
  refine zap (zi_mono _ _) (zi_ok (zg_aload_n (j := 1) (by decide +kernel) rfl)) ?_
  refine zap (zget_mono _ _) (zget_ok (index := 122) (C := RC6) (ref := "VectorLanguage$Expression") (T := FC6) (NN := 5) (by decide +kernel) rfl iC6 (by decide +kernel) (zin 338 (by decide +kernel) rfl) rfl) ?_
  refine zap (zi_mono _ _) (zi_ok (zg_aload_n (j := 2) (by decide +kernel) rfl)) ?_
  refine zap (zi_mono _ _) (zi_ok (zg_iload_n (j := 3) (by decide +kernel) rfl)) ?_
  refine zap (zcV_mono _ _ _ _) (zcV_ok znst_st (μ' := 24) (na := 3) (ci := 2) (index := 63) (q := (RC2, FC2, 13)) (by decide +kernel) (by decide +kernel) rfl (zgV (zin 388 (by decide +kernel) rfl) (zin 390 (by decide +kernel) rfl) (zsel 3 (by decide +kernel) rfl) (zin 3 (by decide +kernel) rfl) (zin 391 (by decide +kernel) rfl)) (by decide +kernel) (by decide +kernel)) ?_
  refine zap (zretA_mono) (zretA_ok (by decide +kernel) rfl (Or.inl ⟨_, rfl⟩)) ?_
  exact zn
/-- VectorLanguage$Evaluator.condition(ILVectorLanguage$Environment;I)I -/
def tb52 (_ : List (ClassId × FieldType)) : List (Nat × (zP → zP)) := [(0, zi (gAl 0) 1), (1, zi (gIl 1) 1), (2, zi (gAl 2) 1), (3, zi (gIl 3) 1), (4, zcV 6 33 3 2), (7, zi (gAs 4) 2), (9, zi (gAl 4) 2), (11, zb (cNN) 17), (14, zi (gC (.int (-2147483648))) 2), (16, zretI), (17, zi (gAl 4) 2), (19, zcS 1 38 1), (22, zi (gIs 5) 2), (24, zi (gIl 5) 2), (26, zi (gC (.int (-2147483648))) 2), (28, zb (c2 (fun x y => ¬ x = y)) 38), (31, zi (gAl 0) 1), (32, zi (gC (.int (7))) 2), (34, zcV 2 25 1 2), (37, zi (gPop) 1), (38, zi (gIl 5) 2), (40, zretI)]
set_option maxRecDepth 100000 in
theorem ok52 (l : Launch) (D : va_G) (dA : Nat → ClassId) (b0 : Nat) : ∀ q ∈ tb52 (ztys dA), zOK l D dA b0 52 q.1 q.2 := by
  refine zap (zi_mono _ _) (zi_ok (zg_aload_n (j := 0) (by decide +kernel) rfl)) ?_
  refine zap (zi_mono _ _) (zi_ok (zg_iload_n (j := 1) (by decide +kernel) rfl)) ?_
  refine zap (zi_mono _ _) (zi_ok (zg_aload_n (j := 2) (by decide +kernel) rfl)) ?_
  refine zap (zi_mono _ _) (zi_ok (zg_iload_n (j := 3) (by decide +kernel) rfl)) ?_
  refine zap (zcV_mono _ _ _ _) (zcV_ok znst_st (μ' := 33) (na := 3) (ci := 2) (index := 186) (q := (RC2, FC2, 13)) (by decide +kernel) (by decide +kernel) rfl (zgV (zin 426 (by decide +kernel) rfl) (zin 428 (by decide +kernel) rfl) (zsel 10 (by decide +kernel) rfl) (zin 3 (by decide +kernel) rfl) (zin 429 (by decide +kernel) rfl)) (by decide +kernel) (by decide +kernel)) ?_
  refine zap (zi_mono _ _) (zi_ok (zg_astore (by decide +kernel) (by decide +kernel))) ?_
  refine zap (zi_mono _ _) (zi_ok (zg_aload (by decide +kernel))) ?_
  refine zap (zb_mono _ _) (zb_ok (zb_nonnull (off := 6) (by decide +kernel) (by decide +kernel))) ?_
  refine zap (zi_mono _ _) (zi_ok (zg_ldc (index := 36) (by decide +kernel) (zin 128 (by decide +kernel) rfl))) ?_
  refine zap (zretI_mono) (zretI_ok (by decide +kernel) rfl) ?_
  refine zap (zi_mono _ _) (zi_ok (zg_aload (by decide +kernel))) ?_
  refine zap (zcS_mono _ _ _) (zcS_ok znst_st (μ' := 38) (na := 1) (index := 200) (by decide +kernel) (by decide +kernel) (zgS (zin 446 (by decide +kernel) rfl) (zin 447 (by decide +kernel) rfl) (zin 17 (by decide +kernel) rfl) (zin 448 (by decide +kernel) rfl)) (by decide +kernel) (by decide +kernel)) ?_
  refine zap (zi_mono _ _) (zi_ok (zg_istore (by decide +kernel) (by decide +kernel))) ?_
  refine zap (zi_mono _ _) (zi_ok (zg_iload (by decide +kernel))) ?_
  refine zap (zi_mono _ _) (zi_ok (zg_ldc (index := 36) (by decide +kernel) (zin 128 (by decide +kernel) rfl))) ?_
  refine zap (zb_mono _ _) (zb_ok (zb_ine (off := 10) (by decide +kernel) (by decide +kernel))) ?_
  refine zap (zi_mono _ _) (zi_ok (zg_aload_n (j := 0) (by decide +kernel) rfl)) ?_
  refine zap (zi_mono _ _) (zi_ok (zg_bipush (n := 7) (by decide +kernel) (by decide +kernel))) ?_
  refine zap (zcV_mono _ _ _ _) (zcV_ok znst_st (μ' := 25) (na := 1) (ci := 2) (index := 77) (q := (RC2, FC2, 13)) (by decide +kernel) (by decide +kernel) rfl (zgV (zin 392 (by decide +kernel) rfl) (zin 394 (by decide +kernel) rfl) (zsel 4 (by decide +kernel) rfl) (zin 3 (by decide +kernel) rfl) (zin 395 (by decide +kernel) rfl)) (by decide +kernel) (by decide +kernel)) ?_
  refine zap (zi_mono _ _) (zi_ok (zg_pop (by decide +kernel))) ?_
  refine zap (zi_mono _ _) (zi_ok (zg_iload (by decide +kernel))) ?_
  refine zap (zretI_mono) (zretI_ok (by decide +kernel) rfl) ?_
  exact zn
/-- VectorLanguage$Evaluator.repeat(LVectorLanguage$Expression;LVectorLanguage$Environment;I)LVectorLanguage$Value; -/
def tb53 (_ : List (ClassId × FieldType)) : List (Nat × (zP → zP)) := [(0, zi (gC (.int (0))) 1), (1, zi (gIs 4) 2), (3, zi (gIl 4) 2), (5, zi (gC (.int (400))) 3), (8, zb (c2 (fun x y => y < x)) 61), (11, zi (gAl 0) 1), (12, zi (gAl 1) 1), (13, zget 6 1), (16, zi (gAl 2) 1), (17, zi (gIl 3) 1), (18, zcV 6 52 3 2), (21, zi (gIs 5) 2), (23, zi (gIl 5) 2), (25, zb (c1 (fun x => ¬ x = 0)) 33), (28, zi (gAl 0) 1), (29, zget 2 9), (32, zretA), (33, zi (gIl 5) 2), (35, zi (gC (.int (-2147483648))) 2), (37, zb (c2 (fun x y => x = y)) 53), (40, zi (gAl 0) 1), (41, zi (gAl 1) 1), (42, zget 6 2), (45, zi (gAl 2) 1), (46, zi (gIl 3) 1), (47, zcV 5 24 3 2), (50, zb (cNN) 55), (53, zi (gC .null) 1), (54, zretA), (55, zi (gIinc 4 (1)) 3), (58, zj 3), (61, zi (gAl 0) 1), (62, zi (gC (.int (9))) 2), (64, zcV 2 25 1 2), (67, zretA)]
set_option maxRecDepth 100000 in
theorem ok53 (l : Launch) (D : va_G) (dA : Nat → ClassId) (b0 : Nat) : ∀ q ∈ tb53 (ztys dA), zOK l D dA b0 53 q.1 q.2 := by
  refine zap (zi_mono _ _) (zi_ok (zg_iconst (n := 0) (by decide +kernel) (by decide +kernel))) ?_
  refine zap (zi_mono _ _) (zi_ok (zg_istore (by decide +kernel) (by decide +kernel))) ?_
  refine zap (zi_mono _ _) (zi_ok (zg_iload (by decide +kernel))) ?_
  refine zap (zi_mono _ _) (zi_ok (zg_sipush (n := 400) (by decide +kernel) (by decide +kernel))) ?_
  refine zap (zb_mono _ _) (zb_ok (zb_igt (off := 53) (by decide +kernel) (by decide +kernel))) ?_
  refine zap (zi_mono _ _) (zi_ok (zg_aload_n (j := 0) (by decide +kernel) rfl)) ?_
  refine zap (zi_mono _ _) (zi_ok (zg_aload_n (j := 1) (by decide +kernel) rfl)) ?_
  refine zap (zget_mono _ _) (zget_ok (index := 114) (C := RC6) (ref := "VectorLanguage$Expression") (T := FC6) (NN := 5) (by decide +kernel) rfl iC6 (by decide +kernel) (zin 334 (by decide +kernel) rfl) rfl) ?_
  refine zap (zi_mono _ _) (zi_ok (zg_aload_n (j := 2) (by decide +kernel) rfl)) ?_
  refine zap (zi_mono _ _) (zi_ok (zg_iload_n (j := 3) (by decide +kernel) rfl)) ?_
  refine zap (zcV_mono _ _ _ _) (zcV_ok znst_st (μ' := 52) (na := 3) (ci := 2) (index := 283) (q := (RC2, FC2, 13)) (by decide +kernel) (by decide +kernel) rfl (zgV (zin 510 (by decide +kernel) rfl) (zin 512 (by decide +kernel) rfl) (zsel 20 (by decide +kernel) rfl) (zin 3 (by decide +kernel) rfl) (zin 513 (by decide +kernel) rfl)) (by decide +kernel) (by decide +kernel)) ?_
  refine zap (zi_mono _ _) (zi_ok (zg_istore (by decide +kernel) (by decide +kernel))) ?_
  refine zap (zi_mono _ _) (zi_ok (zg_iload (by decide +kernel))) ?_
  refine zap (zb_mono _ _) (zb_ok (zb_ne (off := 8) (by decide +kernel) (by decide +kernel))) ?_
  refine zap (zi_mono _ _) (zi_ok (zg_aload_n (j := 0) (by decide +kernel) rfl)) ?_
  refine zap (zget_mono _ _) (zget_ok (index := 32) (C := RC2) (ref := "VectorLanguage$Evaluator") (T := FC2) (NN := 13) (by decide +kernel) rfl iC2 (by decide +kernel) (zin 146 (by decide +kernel) rfl) rfl) ?_
  refine zap (zretA_mono) (zretA_ok (by decide +kernel) rfl (Or.inl ⟨_, rfl⟩)) ?_
  refine zap (zi_mono _ _) (zi_ok (zg_iload (by decide +kernel))) ?_
  refine zap (zi_mono _ _) (zi_ok (zg_ldc (index := 36) (by decide +kernel) (zin 128 (by decide +kernel) rfl))) ?_
  refine zap (zb_mono _ _) (zb_ok (zb_ieq (off := 16) (by decide +kernel) (by decide +kernel))) ?_
  refine zap (zi_mono _ _) (zi_ok (zg_aload_n (j := 0) (by decide +kernel) rfl)) ?_
  refine zap (zi_mono _ _) (zi_ok (zg_aload_n (j := 1) (by decide +kernel) rfl)) ?_
  refine zap (zget_mono _ _) (zget_ok (index := 117) (C := RC6) (ref := "VectorLanguage$Expression") (T := FC6) (NN := 5) (by decide +kernel) rfl iC6 (by decide +kernel) (zin 336 (by decide +kernel) rfl) rfl) ?_
  refine zap (zi_mono _ _) (zi_ok (zg_aload_n (j := 2) (by decide +kernel) rfl)) ?_
  refine zap (zi_mono _ _) (zi_ok (zg_iload_n (j := 3) (by decide +kernel) rfl)) ?_
  refine zap (zcV_mono _ _ _ _) (zcV_ok znst_st (μ' := 24) (na := 3) (ci := 2) (index := 63) (q := (RC2, FC2, 13)) (by decide +kernel) (by decide +kernel) rfl (zgV (zin 388 (by decide +kernel) rfl) (zin 390 (by decide +kernel) rfl) (zsel 3 (by decide +kernel) rfl) (zin 3 (by decide +kernel) rfl) (zin 391 (by decide +kernel) rfl)) (by decide +kernel) (by decide +kernel)) ?_
  refine zap (zb_mono _ _) (zb_ok (zb_nonnull (off := 5) (by decide +kernel) (by decide +kernel))) ?_
  refine zap (zi_mono _ _) (zi_ok (zg_null (by decide +kernel))) ?_
  refine zap (zretA_mono) (zretA_ok (by decide +kernel) rfl (Or.inl ⟨_, rfl⟩)) ?_
  refine zap (zi_mono _ _) (zi_ok (zg_iinc (n := 1) (by decide +kernel) (by decide +kernel) (by decide +kernel))) ?_
  refine zap (zj_mono _) (zj_ok (off := -55) (by decide +kernel) (by decide +kernel)) ?_
  refine zap (zi_mono _ _) (zi_ok (zg_aload_n (j := 0) (by decide +kernel) rfl)) ?_
  refine zap (zi_mono _ _) (zi_ok (zg_bipush (n := 9) (by decide +kernel) (by decide +kernel))) ?_
  refine zap (zcV_mono _ _ _ _) (zcV_ok znst_st (μ' := 25) (na := 1) (ci := 2) (index := 77) (q := (RC2, FC2, 13)) (by decide +kernel) (by decide +kernel) rfl (zgV (zin 392 (by decide +kernel) rfl) (zin 394 (by decide +kernel) rfl) (zsel 4 (by decide +kernel) rfl) (zin 3 (by decide +kernel) rfl) (zin 395 (by decide +kernel) rfl)) (by decide +kernel) (by decide +kernel)) ?_
  refine zap (zretA_mono) (zretA_ok (by decide +kernel) rfl (Or.inl ⟨_, rfl⟩)) ?_
  exact zn
/-- VectorLanguage$Function.<init>(IIILVectorLanguage$Environment;)V -/
def tb54 (_ : List (ClassId × FieldType)) : List (Nat × (zP → zP)) := [(0, zi (gAl 0) 1), (1, zcI 1 6 0), (4, zi (gAl 0) 1), (5, zi (gIl 1) 1), (6, zput (.int) 7 0), (9, zi (gAl 0) 1), (10, zi (gIl 2) 1), (11, zput (.int) 7 1), (14, zi (gAl 0) 1), (15, zi (gIl 3) 1), (16, zput (.int) 7 2), (19, zi (gAl 0) 1), (20, zi (gAl 4) 2), (22, zput (.object "VectorLanguage$Environment") 7 3), (25, zretV)]
set_option maxRecDepth 100000 in
theorem ok54 (l : Launch) (D : va_G) (dA : Nat → ClassId) (b0 : Nat) : ∀ q ∈ tb54 (ztys dA), zOK l D dA b0 54 q.1 q.2 := by
  refine zap (zi_mono _ _) (zi_ok (zg_aload_n (j := 0) (by decide +kernel) rfl)) ?_
  refine zap (zcI_mono _ _ _) (zcIN_ok znst_st (μ' := 6) (na := 0) (index := 1) (host := "VectorLanguage") (by decide +kernel) (by decide +kernel) rfl rfl (zgI (zin 117 (by decide +kernel) rfl)) (List.mem_of_getElem? (i := 5) rfl) (zin 7 (by decide +kernel) rfl) (zin 116 (by decide +kernel) rfl) (by decide +kernel) (by decide +kernel)) ?_
  refine zap (zi_mono _ _) (zi_ok (zg_aload_n (j := 0) (by decide +kernel) rfl)) ?_
  refine zap (zi_mono _ _) (zi_ok (zg_iload_n (j := 1) (by decide +kernel) rfl)) ?_
  refine zap (zput_mono _ _ _) (zput_ok (index := 7) (C := RC7) (ref := "VectorLanguage$Function") (T := FC7) (NN := 4) tC7 (by decide +kernel) rfl iC7 tC7_ok nC7 (by decide +kernel) (zin 524 (by decide +kernel) rfl) rfl (Or.inr ⟨rfl, rfl, rfl⟩) rfl) ?_
  refine zap (zi_mono _ _) (zi_ok (zg_aload_n (j := 0) (by decide +kernel) rfl)) ?_
  refine zap (zi_mono _ _) (zi_ok (zg_iload_n (j := 2) (by decide +kernel) rfl)) ?_
  refine zap (zput_mono _ _ _) (zput_ok (index := 13) (C := RC7) (ref := "VectorLanguage$Function") (T := FC7) (NN := 4) tC7 (by decide +kernel) rfl iC7 tC7_ok nC7 (by decide +kernel) (zin 526 (by decide +kernel) rfl) rfl (Or.inr ⟨rfl, rfl, rfl⟩) rfl) ?_
  refine zap (zi_mono _ _) (zi_ok (zg_aload_n (j := 0) (by decide +kernel) rfl)) ?_
  refine zap (zi_mono _ _) (zi_ok (zg_iload_n (j := 3) (by decide +kernel) rfl)) ?_
  refine zap (zput_mono _ _ _) (zput_ok (index := 16) (C := RC7) (ref := "VectorLanguage$Function") (T := FC7) (NN := 4) tC7 (by decide +kernel) rfl iC7 tC7_ok nC7 (by decide +kernel) (zin 528 (by decide +kernel) rfl) rfl (Or.inr ⟨rfl, rfl, rfl⟩) rfl) ?_
  refine zap (zi_mono _ _) (zi_ok (zg_aload_n (j := 0) (by decide +kernel) rfl)) ?_
  refine zap (zi_mono _ _) (zi_ok (zg_aload (by decide +kernel))) ?_
  refine zap (zput_mono _ _ _) (zput_ok (index := 19) (C := RC7) (ref := "VectorLanguage$Function") (T := FC7) (NN := 4) tC7 (by decide +kernel) rfl iC7 tC7_ok nC7 (by decide +kernel) (zin 530 (by decide +kernel) rfl) rfl (Or.inr ⟨rfl, rfl, rfl⟩) rfl) ?_
  refine zap (zretV_mono) (zretV_ok (by decide +kernel) rfl) ?_
  exact zn
/-- VectorLanguage$Evaluator.call(LVectorLanguage$Expression;LVectorLanguage$Environment;I)LVectorLanguage$Value; -/
def tb55 (_ : List (ClassId × FieldType)) : List (Nat × (zP → zP)) := [(0, zi (gAl 0) 1), (1, zi (gAl 1) 1), (2, zget 6 1), (5, zi (gAl 2) 1), (6, zi (gIl 3) 1), (7, zcV 5 24 3 2), (10, zi (gAs 4) 2), (12, zi (gAl 4) 2), (14, zb (cNN) 19), (17, zi (gC .null) 1), (18, zretA), (19, zi (gAl 4) 2), (21, zinst [7] [5, 8]), (24, zb (c1 (fun x => x = 0)) 46), (27, zi (gAl 4) 2), (29, zcast [7]), (32, zi (gAs 5) 2), (34, zi (gAl 0) 1), (35, zi (gAl 5) 2), (37, zi (gAl 1) 1), (38, zi (gAl 2) 1), (39, zi (gIl 3) 1), (40, zcV 8 56 4 2), (43, zj 51), (46, zi (gAl 0) 1), (47, zi (gC (.int (3))) 1), (48, zcV 2 25 1 2), (51, zretA)]
set_option maxRecDepth 100000 in
theorem ok55 (l : Launch) (D : va_G) (dA : Nat → ClassId) (b0 : Nat) : ∀ q ∈ tb55 (ztys dA), zOK l D dA b0 55 q.1 q.2 := by
  refine zap (zi_mono _ _) (zi_ok (zg_aload_n (j := 0) (by decide +kernel) rfl)) ?_
  refine zap (zi_mono _ _) (zi_ok (zg_aload_n (j := 1) (by decide +kernel) rfl)) ?_
  refine zap (zget_mono _ _) (zget_ok (index := 114) (C := RC6) (ref := "VectorLanguage$Expression") (T := FC6) (NN := 5) (by decide +kernel) rfl iC6 (by decide +kernel) (zin 334 (by decide +kernel) rfl) rfl) ?_
  refine zap (zi_mono _ _) (zi_ok (zg_aload_n (j := 2) (by decide +kernel) rfl)) ?_
  refine zap (zi_mono _ _) (zi_ok (zg_iload_n (j := 3) (by decide +kernel) rfl)) ?_
  refine zap (zcV_mono _ _ _ _) (zcV_ok znst_st (μ' := 24) (na := 3) (ci := 2) (index := 63) (q := (RC2, FC2, 13)) (by decide +kernel) (by decide +kernel) rfl (zgV (zin 388 (by decide +kernel) rfl) (zin 390 (by decide +kernel) rfl) (zsel 3 (by decide +kernel) rfl) (zin 3 (by decide +kernel) rfl) (zin 391 (by decide +kernel) rfl)) (by decide +kernel) (by decide +kernel)) ?_
  refine zap (zi_mono _ _) (zi_ok (zg_astore (by decide +kernel) (by decide +kernel))) ?_
  refine zap (zi_mono _ _) (zi_ok (zg_aload (by decide +kernel))) ?_
  refine zap (zb_mono _ _) (zb_ok (zb_nonnull (off := 5) (by decide +kernel) (by decide +kernel))) ?_
  refine zap (zi_mono _ _) (zi_ok (zg_null (by decide +kernel))) ?_
  refine zap (zretA_mono) (zretA_ok (by decide +kernel) rfl (Or.inl ⟨_, rfl⟩)) ?_
  refine zap (zi_mono _ _) (zi_ok (zg_aload (by decide +kernel))) ?_
  refine zap (zinst_mono _ _) (zinst_ok (index := 120) (nm := "VectorLanguage$Function") (by decide +kernel) (zin 518 (by decide +kernel) rfl) (za ⟨_, rfl, (List.mem_of_getElem? (i := 12) rfl)⟩ (zn)) (za ⟨_, rfl, (List.mem_of_getElem? (i := 24) rfl)⟩ (za ⟨_, rfl, (List.mem_of_getElem? (i := 25) rfl)⟩ (zn)))) ?_
  refine zap (zb_mono _ _) (zb_ok (zb_eq (off := 22) (by decide +kernel) (by decide +kernel))) ?_
  refine zap (zi_mono _ _) (zi_ok (zg_aload (by decide +kernel))) ?_
  refine zap (zcast_mono _) (zcast_ok (index := 120) (nm := "VectorLanguage$Function") (by decide +kernel) (zin 518 (by decide +kernel) rfl) (za ⟨_, rfl, (List.mem_of_getElem? (i := 12) rfl)⟩ (zn))) ?_
  refine zap (zi_mono _ _) (zi_ok (zg_astore (by decide +kernel) (by decide +kernel))) ?_
  refine zap (zi_mono _ _) (zi_ok (zg_aload_n (j := 0) (by decide +kernel) rfl)) ?_
  refine zap (zi_mono _ _) (zi_ok (zg_aload (by decide +kernel))) ?_
  refine zap (zi_mono _ _) (zi_ok (zg_aload_n (j := 1) (by decide +kernel) rfl)) ?_
  refine zap (zi_mono _ _) (zi_ok (zg_aload_n (j := 2) (by decide +kernel) rfl)) ?_
  refine zap (zi_mono _ _) (zi_ok (zg_iload_n (j := 3) (by decide +kernel) rfl)) ?_
  refine zap (zcV_mono _ _ _ _) (zcV_ok znst_st (μ' := 56) (na := 4) (ci := 2) (index := 287) (q := (RC2, FC2, 13)) (by decide +kernel) (by decide +kernel) rfl (zgV (zin 545 (by decide +kernel) rfl) (zin 547 (by decide +kernel) rfl) (zsel 23 (by decide +kernel) rfl) (zin 3 (by decide +kernel) rfl) (zin 548 (by decide +kernel) rfl)) (by decide +kernel) (by decide +kernel)) ?_
  refine zap (zj_mono _) (zj_ok (off := 8) (by decide +kernel) (by decide +kernel)) ?_
  refine zap (zi_mono _ _) (zi_ok (zg_aload_n (j := 0) (by decide +kernel) rfl)) ?_
  refine zap (zi_mono _ _) (zi_ok (zg_iconst (n := 3) (by decide +kernel) (by decide +kernel))) ?_
  refine zap (zcV_mono _ _ _ _) (zcV_ok znst_st (μ' := 25) (na := 1) (ci := 2) (index := 77) (q := (RC2, FC2, 13)) (by decide +kernel) (by decide +kernel) rfl (zgV (zin 392 (by decide +kernel) rfl) (zin 394 (by decide +kernel) rfl) (zsel 4 (by decide +kernel) rfl) (zin 3 (by decide +kernel) rfl) (zin 395 (by decide +kernel) rfl)) (by decide +kernel) (by decide +kernel)) ?_
  refine zap (zretA_mono) (zretA_ok (by decide +kernel) rfl (Or.inl ⟨_, rfl⟩)) ?_
  exact zn
/-- VectorLanguage$Evaluator.enter(LVectorLanguage$Function;LVectorLanguage$Expression;LVectorLanguage$Environment;I)LVectorLanguage$Value; -/
def tb56 (tys : List (ClassId × FieldType)) : List (Nat × (zP → zP)) := [(0, zi (gAl 2) 1), (1, zget 6 2), (4, zi (gC (.int (-1))) 1), (5, zb (c2 (fun x y => ¬ x = y)) 12), (8, zi (gC (.int (0))) 1), (9, zj 13), (12, zi (gC (.int (1))) 1), (13, zi (gAl 2) 1), (14, zget 6 3), (17, zi (gC (.int (-1))) 1), (18, zb (c2 (fun x y => ¬ x = y)) 25), (21, zi (gC (.int (0))) 1), (22, zj 26), (25, zi (gC (.int (1))) 1), (26, zi (gII (fun x y => x + y)) 1), (27, zi (gIs 5) 2), (29, zi (gIl 5) 2), (31, zi (gAl 1) 1), (32, zget 7 1), (35, zb (c2 (fun x y => x ≤ y)) 45), (38, zi (gAl 0) 1), (39, zi (gC (.int (6))) 2), (41, zcV 2 25 1 2), (44, zretA), (45, zi (gAl 0) 1), (46, zget 2 2), (49, zi (gC (.int (90))) 2), (51, zb (c2 (fun x y => x < y)) 61), (54, zi (gAl 0) 1), (55, zi (gC (.int (9))) 2), (57, zcV 2 25 1 2), (60, zretA), (61, zi (gAl 0) 1), (62, zi (gDup) 1), (63, zget 2 2), (66, zi (gC (.int (1))) 1), (67, zi (gII (fun x y => x + y)) 1), (68, zput (.int) 2 2), (71, znew 3 5 dC3), (74, zi (gDup) 1), (75, zi (gAl 1) 1), (76, zi (gIl 5) 2), (78, zcI 3 3 2), (81, zi (gAs 6) 2), (83, zi (gIl 5) 2), (85, zb (c1 (fun x => x ≤ 0)) 110), (88, zi (gAl 6) 2), (90, zget 3 0), (93, zi (gAl 1) 1), (94, zget 7 2), (97, znew 8 4 dC8), (100, zi (gDup) 1), (101, zi (gAl 2) 1), (102, zget 6 2), (105, zi (gAl 3) 1), (106, zcI 3 57 2), (109, zaast tys "VectorLanguage$Held" [5, 7, 8]), (110, zi (gIl 5) 2), (112, zi (gC (.int (1))) 1), (113, zb (c2 (fun x y => x ≤ y)) 140), (116, zi (gAl 6) 2), (118, zget 3 0), (121, zi (gAl 1) 1), (122, zget 7 2), (125, zi (gC (.int (1))) 1), (126, zi (gII (fun x y => x + y)) 1), (127, znew 8 4 dC8), (130, zi (gDup) 1), (131, zi (gAl 2) 1), (132, zget 6 3), (135, zi (gAl 3) 1), (136, zcI 3 57 2), (139, zaast tys "VectorLanguage$Held" [5, 7, 8]), (140, zi (gAl 0) 1), (141, zi (gAl 1) 1), (142, zget 7 0), (145, zi (gAl 6) 2), (147, zi (gIl 4) 2), (149, zcV 5 24 3 2), (152, zi (gAs 7) 2), (154, zi (gAl 6) 2), (156, zi (gC (.int (1))) 1), (157, zput (.boolean) 3 4), (160, zi (gAl 7) 2), (162, zb (cNN) 174), (165, zi (gAl 0) 1), (166, zi (gAl 6) 2), (168, zcV 3 58 1 2), (171, zj 176), (174, zi (gAl 7) 2), (176, zretA)]
set_option maxRecDepth 100000 in
theorem ok56 (l : Launch) (D : va_G) (dA : Nat → ClassId) (b0 : Nat) : ∀ q ∈ tb56 (ztys dA), zOK l D dA b0 56 q.1 q.2 := by
  refine zap (zi_mono _ _) (zi_ok (zg_aload_n (j := 2) (by decide +kernel) rfl)) ?_
  refine zap (zget_mono _ _) (zget_ok (index := 117) (C := RC6) (ref := "VectorLanguage$Expression") (T := FC6) (NN := 5) (by decide +kernel) rfl iC6 (by decide +kernel) (zin 336 (by decide +kernel) rfl) rfl) ?_
  refine zap (zi_mono _ _) (zi_ok (zg_iconst (n := -1) (by decide +kernel) (by decide +kernel))) ?_
  refine zap (zb_mono _ _) (zb_ok (zb_ine (off := 7) (by decide +kernel) (by decide +kernel))) ?_
  refine zap (zi_mono _ _) (zi_ok (zg_iconst (n := 0) (by decide +kernel) (by decide +kernel))) ?_
  refine zap (zj_mono _) (zj_ok (off := 4) (by decide +kernel) (by decide +kernel)) ?_
  refine zap (zi_mono _ _) (zi_ok (zg_iconst (n := 1) (by decide +kernel) (by decide +kernel))) ?_
  refine zap (zi_mono _ _) (zi_ok (zg_aload_n (j := 2) (by decide +kernel) rfl)) ?_
  refine zap (zget_mono _ _) (zget_ok (index := 122) (C := RC6) (ref := "VectorLanguage$Expression") (T := FC6) (NN := 5) (by decide +kernel) rfl iC6 (by decide +kernel) (zin 338 (by decide +kernel) rfl) rfl) ?_
  refine zap (zi_mono _ _) (zi_ok (zg_iconst (n := -1) (by decide +kernel) (by decide +kernel))) ?_
  refine zap (zb_mono _ _) (zb_ok (zb_ine (off := 7) (by decide +kernel) (by decide +kernel))) ?_
  refine zap (zi_mono _ _) (zi_ok (zg_iconst (n := 0) (by decide +kernel) (by decide +kernel))) ?_
  refine zap (zj_mono _) (zj_ok (off := 4) (by decide +kernel) (by decide +kernel)) ?_
  refine zap (zi_mono _ _) (zi_ok (zg_iconst (n := 1) (by decide +kernel) (by decide +kernel))) ?_
  refine zap (zi_mono _ _) (zi_ok (zg_iadd (by decide +kernel))) ?_
  refine zap (zi_mono _ _) (zi_ok (zg_istore (by decide +kernel) (by decide +kernel))) ?_
  refine zap (zi_mono _ _) (zi_ok (zg_iload (by decide +kernel))) ?_
  refine zap (zi_mono _ _) (zi_ok (zg_aload_n (j := 1) (by decide +kernel) rfl)) ?_
  refine zap (zget_mono _ _) (zget_ok (index := 291) (C := RC7) (ref := "VectorLanguage$Function") (T := FC7) (NN := 4) (by decide +kernel) rfl iC7 (by decide +kernel) (zin 527 (by decide +kernel) rfl) rfl) ?_
  refine zap (zb_mono _ _) (zb_ok (zb_ile (off := 10) (by decide +kernel) (by decide +kernel))) ?_
  refine zap (zi_mono _ _) (zi_ok (zg_aload_n (j := 0) (by decide +kernel) rfl)) ?_
  refine zap (zi_mono _ _) (zi_ok (zg_bipush (n := 6) (by decide +kernel) (by decide +kernel))) ?_
  refine zap (zcV_mono _ _ _ _) (zcV_ok znst_st (μ' := 25) (na := 1) (ci := 2) (index := 77) (q := (RC2, FC2, 13)) (by decide +kernel) (by decide +kernel) rfl (zgV (zin 392 (by decide +kernel) rfl) (zin 394 (by decide +kernel) rfl) (zsel 4 (by decide +kernel) rfl) (zin 3 (by decide +kernel) rfl) (zin 395 (by decide +kernel) rfl)) (by decide +kernel) (by decide +kernel)) ?_
  refine zap (zretA_mono) (zretA_ok (by decide +kernel) rfl (Or.inl ⟨_, rfl⟩)) ?_
  refine zap (zi_mono _ _) (zi_ok (zg_aload_n (j := 0) (by decide +kernel) rfl)) ?_
  refine zap (zget_mono _ _) (zget_ok (index := 71) (C := RC2) (ref := "VectorLanguage$Evaluator") (T := FC2) (NN := 13) (by decide +kernel) rfl iC2 (by decide +kernel) (zin 135 (by decide +kernel) rfl) rfl) ?_
  refine zap (zi_mono _ _) (zi_ok (zg_bipush (n := 90) (by decide +kernel) (by decide +kernel))) ?_
  refine zap (zb_mono _ _) (zb_ok (zb_ilt (off := 10) (by decide +kernel) (by decide +kernel))) ?_
  refine zap (zi_mono _ _) (zi_ok (zg_aload_n (j := 0) (by decide +kernel) rfl)) ?_
  refine zap (zi_mono _ _) (zi_ok (zg_bipush (n := 9) (by decide +kernel) (by decide +kernel))) ?_
  refine zap (zcV_mono _ _ _ _) (zcV_ok znst_st (μ' := 25) (na := 1) (ci := 2) (index := 77) (q := (RC2, FC2, 13)) (by decide +kernel) (by decide +kernel) rfl (zgV (zin 392 (by decide +kernel) rfl) (zin 394 (by decide +kernel) rfl) (zsel 4 (by decide +kernel) rfl) (zin 3 (by decide +kernel) rfl) (zin 395 (by decide +kernel) rfl)) (by decide +kernel) (by decide +kernel)) ?_
  refine zap (zretA_mono) (zretA_ok (by decide +kernel) rfl (Or.inl ⟨_, rfl⟩)) ?_
  refine zap (zi_mono _ _) (zi_ok (zg_aload_n (j := 0) (by decide +kernel) rfl)) ?_
  refine zap (zi_mono _ _) (zi_ok (zg_dup (by decide +kernel))) ?_
  refine zap (zget_mono _ _) (zget_ok (index := 71) (C := RC2) (ref := "VectorLanguage$Evaluator") (T := FC2) (NN := 13) (by decide +kernel) rfl iC2 (by decide +kernel) (zin 135 (by decide +kernel) rfl) rfl) ?_
  refine zap (zi_mono _ _) (zi_ok (zg_iconst (n := 1) (by decide +kernel) (by decide +kernel))) ?_
  refine zap (zi_mono _ _) (zi_ok (zg_iadd (by decide +kernel))) ?_
  refine zap (zput_mono _ _ _) (zput_ok (index := 71) (C := RC2) (ref := "VectorLanguage$Evaluator") (T := FC2) (NN := 13) tC2 (by decide +kernel) rfl iC2 tC2_ok nC2 (by decide +kernel) (zin 135 (by decide +kernel) rfl) rfl (Or.inl rfl) rfl) ?_
  refine zap (znew_mono _ _ _) (znew_ok (index := 9) (C := RC3) (T := FC3) tC3 (by decide +kernel) rfl iC3 tC3_ok (zin 57 (by decide +kernel) rfl) (zin 58 (by decide +kernel) rfl) (zin 4 (by decide +kernel) rfl) dC3_ok) ?_
  refine zap (zi_mono _ _) (zi_ok (zg_dup (by decide +kernel))) ?_
  refine zap (zi_mono _ _) (zi_ok (zg_aload_n (j := 1) (by decide +kernel) rfl)) ?_
  refine zap (zi_mono _ _) (zi_ok (zg_iload (by decide +kernel))) ?_
  refine zap (zcI_mono _ _ _) (zcI_ok znst_st (μ' := 3) (na := 2) (index := 11) (by decide +kernel) (by decide +kernel) rfl rfl (zgI (zin 61 (by decide +kernel) rfl)) (zin 4 (by decide +kernel) rfl) (zin 59 (by decide +kernel) rfl) (zin 60 (by decide +kernel) rfl) (by decide +kernel) (by decide +kernel)) ?_
  refine zap (zi_mono _ _) (zi_ok (zg_astore (by decide +kernel) (by decide +kernel))) ?_
  refine zap (zi_mono _ _) (zi_ok (zg_iload (by decide +kernel))) ?_
  refine zap (zb_mono _ _) (zb_ok (zb_le (off := 25) (by decide +kernel) (by decide +kernel))) ?_
  refine zap (zi_mono _ _) (zi_ok (zg_aload (by decide +kernel))) ?_
  refine zap (zget_mono _ _) (zget_ok (index := 178) (C := RC3) (ref := "VectorLanguage$Environment") (T := FC3) (NN := 5) (by decide +kernel) rfl iC3 (by decide +kernel) (zin 67 (by decide +kernel) rfl) rfl) ?_
  refine zap (zi_mono _ _) (zi_ok (zg_aload_n (j := 1) (by decide +kernel) rfl)) ?_
  refine zap (zget_mono _ _) (zget_ok (index := 294) (C := RC7) (ref := "VectorLanguage$Function") (T := FC7) (NN := 4) (by decide +kernel) rfl iC7 (by decide +kernel) (zin 529 (by decide +kernel) rfl) rfl) ?_
  refine zap (znew_mono _ _ _) (znew_ok (index := 152) (C := RC8) (T := FC8) tC8 (by decide +kernel) rfl iC8 tC8_ok (zin 408 (by decide +kernel) rfl) (zin 549 (by decide +kernel) rfl) (zin 22 (by decide +kernel) rfl) dC8_ok) ?_
  refine zap (zi_mono _ _) (zi_ok (zg_dup (by decide +kernel))) ?_
  refine zap (zi_mono _ _) (zi_ok (zg_aload_n (j := 2) (by decide +kernel) rfl)) ?_
  refine zap (zget_mono _ _) (zget_ok (index := 117) (C := RC6) (ref := "VectorLanguage$Expression") (T := FC6) (NN := 5) (by decide +kernel) rfl iC6 (by decide +kernel) (zin 336 (by decide +kernel) rfl) rfl) ?_
  refine zap (zi_mono _ _) (zi_ok (zg_aload_n (j := 3) (by decide +kernel) rfl)) ?_
  refine zap (zcI_mono _ _ _) (zcI_ok znst_st (μ' := 57) (na := 2) (index := 296) (by decide +kernel) (by decide +kernel) rfl rfl (zgI (zin 552 (by decide +kernel) rfl)) (zin 22 (by decide +kernel) rfl) (zin 550 (by decide +kernel) rfl) (zin 551 (by decide +kernel) rfl) (by decide +kernel) (by decide +kernel)) ?_
  refine zap (zaast_mono _ _ _) (zaast_ok (by decide +kernel) (za ⟨_, rfl, Or.inr (List.mem_of_getElem? (i := 15) rfl)⟩ (za ⟨_, rfl, Or.inr (List.mem_of_getElem? (i := 14) rfl)⟩ (za ⟨_, rfl, Or.inr (List.mem_of_getElem? (i := 13) rfl)⟩ zn)))) ?_
  refine zap (zi_mono _ _) (zi_ok (zg_iload (by decide +kernel))) ?_
  refine zap (zi_mono _ _) (zi_ok (zg_iconst (n := 1) (by decide +kernel) (by decide +kernel))) ?_
  refine zap (zb_mono _ _) (zb_ok (zb_ile (off := 27) (by decide +kernel) (by decide +kernel))) ?_
  refine zap (zi_mono _ _) (zi_ok (zg_aload (by decide +kernel))) ?_
  refine zap (zget_mono _ _) (zget_ok (index := 178) (C := RC3) (ref := "VectorLanguage$Environment") (T := FC3) (NN := 5) (by decide +kernel) rfl iC3 (by decide +kernel) (zin 67 (by decide +kernel) rfl) rfl) ?_
  refine zap (zi_mono _ _) (zi_ok (zg_aload_n (j := 1) (by decide +kernel) rfl)) ?_
  refine zap (zget_mono _ _) (zget_ok (index := 294) (C := RC7) (ref := "VectorLanguage$Function") (T := FC7) (NN := 4) (by decide +kernel) rfl iC7 (by decide +kernel) (zin 529 (by decide +kernel) rfl) rfl) ?_
  refine zap (zi_mono _ _) (zi_ok (zg_iconst (n := 1) (by decide +kernel) (by decide +kernel))) ?_
  refine zap (zi_mono _ _) (zi_ok (zg_iadd (by decide +kernel))) ?_
  refine zap (znew_mono _ _ _) (znew_ok (index := 152) (C := RC8) (T := FC8) tC8 (by decide +kernel) rfl iC8 tC8_ok (zin 408 (by decide +kernel) rfl) (zin 549 (by decide +kernel) rfl) (zin 22 (by decide +kernel) rfl) dC8_ok) ?_
  refine zap (zi_mono _ _) (zi_ok (zg_dup (by decide +kernel))) ?_
  refine zap (zi_mono _ _) (zi_ok (zg_aload_n (j := 2) (by decide +kernel) rfl)) ?_
  refine zap (zget_mono _ _) (zget_ok (index := 122) (C := RC6) (ref := "VectorLanguage$Expression") (T := FC6) (NN := 5) (by decide +kernel) rfl iC6 (by decide +kernel) (zin 338 (by decide +kernel) rfl) rfl) ?_
  refine zap (zi_mono _ _) (zi_ok (zg_aload_n (j := 3) (by decide +kernel) rfl)) ?_
  refine zap (zcI_mono _ _ _) (zcI_ok znst_st (μ' := 57) (na := 2) (index := 296) (by decide +kernel) (by decide +kernel) rfl rfl (zgI (zin 552 (by decide +kernel) rfl)) (zin 22 (by decide +kernel) rfl) (zin 550 (by decide +kernel) rfl) (zin 551 (by decide +kernel) rfl) (by decide +kernel) (by decide +kernel)) ?_
  refine zap (zaast_mono _ _ _) (zaast_ok (by decide +kernel) (za ⟨_, rfl, Or.inr (List.mem_of_getElem? (i := 15) rfl)⟩ (za ⟨_, rfl, Or.inr (List.mem_of_getElem? (i := 14) rfl)⟩ (za ⟨_, rfl, Or.inr (List.mem_of_getElem? (i := 13) rfl)⟩ zn)))) ?_
  refine zap (zi_mono _ _) (zi_ok (zg_aload_n (j := 0) (by decide +kernel) rfl)) ?_
  refine zap (zi_mono _ _) (zi_ok (zg_aload_n (j := 1) (by decide +kernel) rfl)) ?_
  refine zap (zget_mono _ _) (zget_ok (index := 299) (C := RC7) (ref := "VectorLanguage$Function") (T := FC7) (NN := 4) (by decide +kernel) rfl iC7 (by decide +kernel) (zin 525 (by decide +kernel) rfl) rfl) ?_
  refine zap (zi_mono _ _) (zi_ok (zg_aload (by decide +kernel))) ?_
  refine zap (zi_mono _ _) (zi_ok (zg_iload (by decide +kernel))) ?_
  refine zap (zcV_mono _ _ _ _) (zcV_ok znst_st (μ' := 24) (na := 3) (ci := 2) (index := 63) (q := (RC2, FC2, 13)) (by decide +kernel) (by decide +kernel) rfl (zgV (zin 388 (by decide +kernel) rfl) (zin 390 (by decide +kernel) rfl) (zsel 3 (by decide +kernel) rfl) (zin 3 (by decide +kernel) rfl) (zin 391 (by decide +kernel) rfl)) (by decide +kernel) (by decide +kernel)) ?_
  refine zap (zi_mono _ _) (zi_ok (zg_astore (by decide +kernel) (by decide +kernel))) ?_
  refine zap (zi_mono _ _) (zi_ok (zg_aload (by decide +kernel))) ?_
  refine zap (zi_mono _ _) (zi_ok (zg_iconst (n := 1) (by decide +kernel) (by decide +kernel))) ?_
  refine zap (zput_mono _ _ _) (zput_ok (index := 302) (C := RC3) (ref := "VectorLanguage$Environment") (T := FC3) (NN := 5) tC3 (by decide +kernel) rfl iC3 tC3_ok nC3 (by decide +kernel) (zin 73 (by decide +kernel) rfl) rfl (Or.inl rfl) rfl) ?_
  refine zap (zi_mono _ _) (zi_ok (zg_aload (by decide +kernel))) ?_
  refine zap (zb_mono _ _) (zb_ok (zb_nonnull (off := 12) (by decide +kernel) (by decide +kernel))) ?_
  refine zap (zi_mono _ _) (zi_ok (zg_aload_n (j := 0) (by decide +kernel) rfl)) ?_
  refine zap (zi_mono _ _) (zi_ok (zg_aload (by decide +kernel))) ?_
  refine zap (zcV_mono _ _ _ _) (zcV_ok znst_st (μ' := 58) (na := 1) (ci := 2) (index := 67) (q := (RC2, FC2, 13)) (by decide +kernel) (by decide +kernel) rfl (zgV (zin 569 (by decide +kernel) rfl) (zin 571 (by decide +kernel) rfl) (zsel 24 (by decide +kernel) rfl) (zin 3 (by decide +kernel) rfl) (zin 572 (by decide +kernel) rfl)) (by decide +kernel) (by decide +kernel)) ?_
  refine zap (zj_mono _) (zj_ok (off := 5) (by decide +kernel) (by decide +kernel)) ?_
  refine zap (zi_mono _ _) (zi_ok (zg_aload (by decide +kernel))) ?_
  refine zap (zretA_mono) (zretA_ok (by decide +kernel) rfl (Or.inl ⟨_, rfl⟩)) ?_
  exact zn
/-- VectorLanguage$Argument.<init>(ILVectorLanguage$Environment;)V -/
def tb57 (_ : List (ClassId × FieldType)) : List (Nat × (zP → zP)) := [(0, zi (gAl 0) 1), (1, zcI 1 7 0), (4, zi (gAl 0) 1), (5, zi (gIl 1) 1), (6, zput (.int) 8 0), (9, zi (gAl 0) 1), (10, zi (gAl 2) 1), (11, zput (.object "VectorLanguage$Environment") 8 1), (14, zretV)]
set_option maxRecDepth 100000 in
theorem ok57 (l : Launch) (D : va_G) (dA : Nat → ClassId) (b0 : Nat) : ∀ q ∈ tb57 (ztys dA), zOK l D dA b0 57 q.1 q.2 := by
  refine zap (zi_mono _ _) (zi_ok (zg_aload_n (j := 0) (by decide +kernel) rfl)) ?_
  refine zap (zcI_mono _ _ _) (zcIN_ok znst_st (μ' := 7) (na := 0) (index := 1) (host := "VectorLanguage") (by decide +kernel) (by decide +kernel) rfl rfl (zgI (zin 120 (by decide +kernel) rfl)) (List.mem_of_getElem? (i := 6) rfl) (zin 6 (by decide +kernel) rfl) (zin 119 (by decide +kernel) rfl) (by decide +kernel) (by decide +kernel)) ?_
  refine zap (zi_mono _ _) (zi_ok (zg_aload_n (j := 0) (by decide +kernel) rfl)) ?_
  refine zap (zi_mono _ _) (zi_ok (zg_iload_n (j := 1) (by decide +kernel) rfl)) ?_
  refine zap (zput_mono _ _ _) (zput_ok (index := 7) (C := RC8) (ref := "VectorLanguage$Argument") (T := FC8) (NN := 4) tC8 (by decide +kernel) rfl iC8 tC8_ok nC8 (by decide +kernel) (zin 554 (by decide +kernel) rfl) rfl (Or.inr ⟨rfl, rfl, rfl⟩) rfl) ?_
  refine zap (zi_mono _ _) (zi_ok (zg_aload_n (j := 0) (by decide +kernel) rfl)) ?_
  refine zap (zi_mono _ _) (zi_ok (zg_aload_n (j := 2) (by decide +kernel) rfl)) ?_
  refine zap (zput_mono _ _ _) (zput_ok (index := 13) (C := RC8) (ref := "VectorLanguage$Argument") (T := FC8) (NN := 4) tC8 (by decide +kernel) rfl iC8 tC8_ok nC8 (by decide +kernel) (zin 556 (by decide +kernel) rfl) rfl (Or.inr ⟨rfl, rfl, rfl⟩) rfl) ?_
  refine zap (zretV_mono) (zretV_ok (by decide +kernel) rfl) ?_
  exact zn
/-- VectorLanguage$Evaluator.takeEndValue(LVectorLanguage$Environment;)LVectorLanguage$Value; -/
def tb58 (_ : List (ClassId × FieldType)) : List (Nat × (zP → zP)) := [(0, zi (gAl 0) 1), (1, zget 2 6), (4, zi (gAl 1) 1), (5, zb (cA true) 10), (8, zi (gC .null) 1), (9, zretA), (10, zi (gAl 0) 1), (11, zget 2 7), (14, zi (gAs 2) 1), (15, zi (gAl 0) 1), (16, zi (gC .null) 1), (17, zput (.object "VectorLanguage$Environment") 2 6), (20, zi (gAl 0) 1), (21, zi (gC .null) 1), (22, zput (.object "VectorLanguage$Value") 2 7), (25, zi (gAl 2) 1), (26, zretA)]
set_option maxRecDepth 100000 in
theorem ok58 (l : Launch) (D : va_G) (dA : Nat → ClassId) (b0 : Nat) : ∀ q ∈ tb58 (ztys dA), zOK l D dA b0 58 q.1 q.2 := by
  refine zap (zi_mono _ _) (zi_ok (zg_aload_n (j := 0) (by decide +kernel) rfl)) ?_
  refine zap (zget_mono _ _) (zget_ok (index := 316) (C := RC2) (ref := "VectorLanguage$Evaluator") (T := FC2) (NN := 13) (by decide +kernel) rfl iC2 (by decide +kernel) (zin 143 (by decide +kernel) rfl) rfl) ?_
  refine zap (zi_mono _ _) (zi_ok (zg_aload_n (j := 1) (by decide +kernel) rfl)) ?_
  refine zap (zb_mono _ _) (zb_ok (zb_aeq (off := 5) (by decide +kernel) (by decide +kernel))) ?_
  refine zap (zi_mono _ _) (zi_ok (zg_null (by decide +kernel))) ?_
  refine zap (zretA_mono) (zretA_ok (by decide +kernel) rfl (Or.inl ⟨_, rfl⟩)) ?_
  refine zap (zi_mono _ _) (zi_ok (zg_aload_n (j := 0) (by decide +kernel) rfl)) ?_
  refine zap (zget_mono _ _) (zget_ok (index := 319) (C := RC2) (ref := "VectorLanguage$Evaluator") (T := FC2) (NN := 13) (by decide +kernel) rfl iC2 (by decide +kernel) (zin 144 (by decide +kernel) rfl) rfl) ?_
  refine zap (zi_mono _ _) (zi_ok (zg_astore_n (j := 2) (by decide +kernel) rfl (by decide +kernel))) ?_
  refine zap (zi_mono _ _) (zi_ok (zg_aload_n (j := 0) (by decide +kernel) rfl)) ?_
  refine zap (zi_mono _ _) (zi_ok (zg_null (by decide +kernel))) ?_
  refine zap (zput_mono _ _ _) (zput_ok (index := 316) (C := RC2) (ref := "VectorLanguage$Evaluator") (T := FC2) (NN := 13) tC2 (by decide +kernel) rfl iC2 tC2_ok nC2 (by decide +kernel) (zin 143 (by decide +kernel) rfl) rfl (Or.inl rfl) rfl) ?_
  refine zap (zi_mono _ _) (zi_ok (zg_aload_n (j := 0) (by decide +kernel) rfl)) ?_
  refine zap (zi_mono _ _) (zi_ok (zg_null (by decide +kernel))) ?_
  refine zap (zput_mono _ _ _) (zput_ok (index := 319) (C := RC2) (ref := "VectorLanguage$Evaluator") (T := FC2) (NN := 13) tC2 (by decide +kernel) rfl iC2 tC2_ok nC2 (by decide +kernel) (zin 144 (by decide +kernel) rfl) rfl (Or.inl rfl) rfl) ?_
  refine zap (zi_mono _ _) (zi_ok (zg_aload_n (j := 2) (by decide +kernel) rfl)) ?_
  refine zap (zretA_mono) (zretA_ok (by decide +kernel) rfl (Or.inl ⟨_, rfl⟩)) ?_
  exact zn
