/-- VectorLanguage$Evaluator.pairUp(LVectorLanguage$Expression;[I[I)LVectorLanguage$Vector; -/
def tb71 (tys : List (ClassId × FieldType)) : List (Nat × (zP → zP)) := [(0, zi (gAl 2) 1), (1, zalen tys), (2, zb (c1 (fun x => x = 0)) 10), (5, zi (gAl 3) 1), (6, zalen tys), (7, zb (c1 (fun x => ¬ x = 0)) 15), (10, zi (gAl 0) 1), (11, zget 2 9), (14, zretA), (15, zi (gAl 2) 1), (16, zalen tys), (17, zi (gAl 3) 1), (18, zalen tys), (19, zcS 2 47 2), (22, znewi tys), (24, zi (gAs 4) 2), (26, zi (gC (.int (0))) 1), (27, zi (gIs 5) 2), (29, zi (gIl 5) 2), (31, zi (gAl 4) 2), (33, zalen tys), (34, zb (c2 (fun x y => y ≤ x)) 73), (37, zi (gAl 4) 2), (39, zi (gIl 5) 2), (41, zi (gAl 1) 1), (42, zget 6 0), (45, zi (gAl 1) 1), (46, zget 6 3), (49, zi (gAl 2) 1), (50, zi (gIl 5) 2), (52, zi (gAl 2) 1), (53, zalen tys), (54, zdv (fun x y => x - x / y * y)), (55, ziald tys), (56, zi (gAl 3) 1), (57, zi (gIl 5) 2), (59, zi (gAl 3) 1), (60, zalen tys), (61, zdv (fun x y => x - x / y * y)), (62, ziald tys), (63, zcS 4 72 4), (66, ziast tys), (67, zi (gIinc 5 (1)) 3), (70, zj 29), (73, znew 5 1 dC5), (76, zi (gDup) 1), (77, zi (gAl 4) 2), (79, zcI 2 5 1), (82, zretA)]
set_option maxRecDepth 100000 in
theorem ok71 (l : Launch) (D : va_G) (dA : Nat → ClassId) (b0 : Nat) : ∀ q ∈ tb71 (ztys dA), zOK l D dA b0 71 q.1 q.2 := by
  refine zap (zi_mono _ _) (zi_ok (zg_aload_n (j := 2) (by decide +kernel) rfl)) ?_
  refine zap (zalen_mono _) (zalen_ok (by decide +kernel)) ?_
  refine zap (zb_mono _ _) (zb_ok (zb_eq (off := 8) (by decide +kernel) (by decide +kernel))) ?_
  refine zap (zi_mono _ _) (zi_ok (zg_aload_n (j := 3) (by decide +kernel) rfl)) ?_
  refine zap (zalen_mono _) (zalen_ok (by decide +kernel)) ?_
  refine zap (zb_mono _ _) (zb_ok (zb_ne (off := 8) (by decide +kernel) (by decide +kernel))) ?_
  refine zap (zi_mono _ _) (zi_ok (zg_aload_n (j := 0) (by decide +kernel) rfl)) ?_
  refine zap (zget_mono _ _) (zget_ok (index := 32) (C := RC2) (ref := "VectorLanguage$Evaluator") (T := FC2) (NN := 13) (by decide +kernel) rfl iC2 (by decide +kernel) (zin 146 (by decide +kernel) rfl) rfl) ?_
  refine zap (zretA_mono) (zretA_ok (by decide +kernel) rfl (Or.inl ⟨_, rfl⟩)) ?_
  refine zap (zi_mono _ _) (zi_ok (zg_aload_n (j := 2) (by decide +kernel) rfl)) ?_
  refine zap (zalen_mono _) (zalen_ok (by decide +kernel)) ?_
  refine zap (zi_mono _ _) (zi_ok (zg_aload_n (j := 3) (by decide +kernel) rfl)) ?_
  refine zap (zalen_mono _) (zalen_ok (by decide +kernel)) ?_
  refine zap (zcS_mono _ _ _) (zcS_ok znst_st (μ' := 47) (na := 2) (index := 236) (by decide +kernel) (by decide +kernel) (zgS (zin 485 (by decide +kernel) rfl) (zin 483 (by decide +kernel) rfl) (zin 18 (by decide +kernel) rfl) (zin 484 (by decide +kernel) rfl)) (by decide +kernel) (by decide +kernel)) ?_
  refine zap (znewi_mono _) (znewi_ok (by decide +kernel) (zin 109 (by decide +kernel) rfl)) ?_
  refine zap (zi_mono _ _) (zi_ok (zg_astore (by decide +kernel) (by decide +kernel))) ?_
  refine zap (zi_mono _ _) (zi_ok (zg_iconst (n := 0) (by decide +kernel) (by decide +kernel))) ?_
  refine zap (zi_mono _ _) (zi_ok (zg_istore (by decide +kernel) (by decide +kernel))) ?_
  refine zap (zi_mono _ _) (zi_ok (zg_iload (by decide +kernel))) ?_
  refine zap (zi_mono _ _) (zi_ok (zg_aload (by decide +kernel))) ?_
  refine zap (zalen_mono _) (zalen_ok (by decide +kernel)) ?_
  refine zap (zb_mono _ _) (zb_ok (zb_ige (off := 39) (by decide +kernel) (by decide +kernel))) ?_
  refine zap (zi_mono _ _) (zi_ok (zg_aload (by decide +kernel))) ?_
  refine zap (zi_mono _ _) (zi_ok (zg_iload (by decide +kernel))) ?_
  refine zap (zi_mono _ _) (zi_ok (zg_aload_n (j := 1) (by decide +kernel) rfl)) ?_
  refine zap (zget_mono _ _) (zget_ok (index := 87) (C := RC6) (ref := "VectorLanguage$Expression") (T := FC6) (NN := 5) (by decide +kernel) rfl iC6 (by decide +kernel) (zin 332 (by decide +kernel) rfl) rfl) ?_
  refine zap (zi_mono _ _) (zi_ok (zg_aload_n (j := 1) (by decide +kernel) rfl)) ?_
  refine zap (zget_mono _ _) (zget_ok (index := 122) (C := RC6) (ref := "VectorLanguage$Expression") (T := FC6) (NN := 5) (by decide +kernel) rfl iC6 (by decide +kernel) (zin 338 (by decide +kernel) rfl) rfl) ?_
  refine zap (zi_mono _ _) (zi_ok (zg_aload_n (j := 2) (by decide +kernel) rfl)) ?_
  refine zap (zi_mono _ _) (zi_ok (zg_iload (by decide +kernel))) ?_
  refine zap (zi_mono _ _) (zi_ok (zg_aload_n (j := 2) (by decide +kernel) rfl)) ?_
  refine zap (zalen_mono _) (zalen_ok (by decide +kernel)) ?_
  refine zap (zdv_mono _) (zdv_rem (by decide +kernel)) ?_
  refine zap (ziald_mono _) (ziald_ok (by decide +kernel)) ?_
  refine zap (zi_mono _ _) (zi_ok (zg_aload_n (j := 3) (by decide +kernel) rfl)) ?_
  refine zap (zi_mono _ _) (zi_ok (zg_iload (by decide +kernel))) ?_
  refine zap (zi_mono _ _) (zi_ok (zg_aload_n (j := 3) (by decide +kernel) rfl)) ?_
  refine zap (zalen_mono _) (zalen_ok (by decide +kernel)) ?_
  refine zap (zdv_mono _) (zdv_rem (by decide +kernel)) ?_
  refine zap (ziald_mono _) (ziald_ok (by decide +kernel)) ?_
  refine zap (zcS_mono _ _ _) (zcS_ok znst_st (μ' := 72) (na := 4) (index := 242) (by decide +kernel) (by decide +kernel) (zgS (zin 624 (by decide +kernel) rfl) (zin 625 (by decide +kernel) rfl) (zin 17 (by decide +kernel) rfl) (zin 626 (by decide +kernel) rfl)) (by decide +kernel) (by decide +kernel)) ?_
  refine zap (ziast_mono _) (ziast_ok (by decide +kernel)) ?_
  refine zap (zi_mono _ _) (zi_ok (zg_iinc (n := 1) (by decide +kernel) (by decide +kernel) (by decide +kernel))) ?_
  refine zap (zj_mono _) (zj_ok (off := -41) (by decide +kernel) (by decide +kernel)) ?_
  refine zap (znew_mono _ _ _) (znew_ok (index := 27) (C := RC5) (T := FC5) tC5 (by decide +kernel) rfl iC5 tC5_ok (zin 110 (by decide +kernel) rfl) (zin 111 (by decide +kernel) rfl) (zin 8 (by decide +kernel) rfl) dC5_ok) ?_
  refine zap (zi_mono _ _) (zi_ok (zg_dup (by decide +kernel))) ?_
  refine zap (zi_mono _ _) (zi_ok (zg_aload (by decide +kernel))) ?_
  refine zap (zcI_mono _ _ _) (zcI_ok znst_st (μ' := 5) (na := 1) (index := 29) (by decide +kernel) (by decide +kernel) rfl rfl (zgI (zin 114 (by decide +kernel) rfl)) (zin 8 (by decide +kernel) rfl) (zin 112 (by decide +kernel) rfl) (zin 113 (by decide +kernel) rfl) (by decide +kernel) (by decide +kernel)) ?_
  refine zap (zretA_mono) (zretA_ok (by decide +kernel) rfl (Or.inl ⟨_, rfl⟩)) ?_
  exact zn
/-- VectorLanguage$Elements.pair(IIII)I -/
def tb72 (_ : List (ClassId × FieldType)) : List (Nat × (zP → zP)) := [(0, zi (gIl 0) 1), (1, zi (gC (.int (8))) 2), (3, zb (c2 (fun x y => ¬ x = y)) 24), (6, zi (gIl 1) 1), (7, zb (c1 (fun x => ¬ x = 0)) 18), (10, zi (gIl 2) 1), (11, zi (gIl 3) 1), (12, zcS 2 73 2), (15, zj 23), (18, zi (gIl 2) 1), (19, zi (gIl 3) 1), (20, zcS 3 74 2), (23, zretI), (24, zi (gIl 2) 1), (25, zi (gC (.int (-2147483648))) 2), (27, zb (c2 (fun x y => x = y)) 36), (30, zi (gIl 3) 1), (31, zi (gC (.int (-2147483648))) 2), (33, zb (c2 (fun x y => ¬ x = y)) 39), (36, zi (gC (.int (-2147483648))) 2), (38, zretI), (39, zi (gIl 0) 1), (40, zi (gC (.int (7))) 2), (42, zb (c2 (fun x y => ¬ x = y)) 54), (45, zi (gIl 1) 1), (46, zi (gIl 2) 1), (47, zi (gIl 3) 1), (48, zcS 3 75 3), (51, zj 63), (54, zi (gIl 1) 1), (55, zi (gIl 2) 1), (56, zi (gIl 3) 1), (57, zcS 3 76 3), (60, zcS 2 37 1), (63, zretI)]
set_option maxRecDepth 100000 in
theorem ok72 (l : Launch) (D : va_G) (dA : Nat → ClassId) (b0 : Nat) : ∀ q ∈ tb72 (ztys dA), zOK l D dA b0 72 q.1 q.2 := by
  refine zap (zi_mono _ _) (zi_ok (zg_iload_n (j := 0) (by decide +kernel) rfl)) ?_
  refine zap (zi_mono _ _) (zi_ok (zg_bipush (n := 8) (by decide +kernel) (by decide +kernel))) ?_
  refine zap (zb_mono _ _) (zb_ok (zb_ine (off := 21) (by decide +kernel) (by decide +kernel))) ?_
  refine zap (zi_mono _ _) (zi_ok (zg_iload_n (j := 1) (by decide +kernel) rfl)) ?_
  refine zap (zb_mono _ _) (zb_ok (zb_ne (off := 11) (by decide +kernel) (by decide +kernel))) ?_
  refine zap (zi_mono _ _) (zi_ok (zg_iload_n (j := 2) (by decide +kernel) rfl)) ?_
  refine zap (zi_mono _ _) (zi_ok (zg_iload_n (j := 3) (by decide +kernel) rfl)) ?_
  refine zap (zcS_mono _ _ _) (zcS_ok znst_st (μ' := 73) (na := 2) (index := 14) (by decide +kernel) (by decide +kernel) (zgS (zin 627 (by decide +kernel) rfl) (zin 628 (by decide +kernel) rfl) (zin 17 (by decide +kernel) rfl) (zin 629 (by decide +kernel) rfl)) (by decide +kernel) (by decide +kernel)) ?_
  refine zap (zj_mono _) (zj_ok (off := 8) (by decide +kernel) (by decide +kernel)) ?_
  refine zap (zi_mono _ _) (zi_ok (zg_iload_n (j := 2) (by decide +kernel) rfl)) ?_
  refine zap (zi_mono _ _) (zi_ok (zg_iload_n (j := 3) (by decide +kernel) rfl)) ?_
  refine zap (zcS_mono _ _ _) (zcS_ok znst_st (μ' := 74) (na := 2) (index := 20) (by decide +kernel) (by decide +kernel) (zgS (zin 630 (by decide +kernel) rfl) (zin 631 (by decide +kernel) rfl) (zin 17 (by decide +kernel) rfl) (zin 632 (by decide +kernel) rfl)) (by decide +kernel) (by decide +kernel)) ?_
  refine zap (zretI_mono) (zretI_ok (by decide +kernel) rfl) ?_
  refine zap (zi_mono _ _) (zi_ok (zg_iload_n (j := 2) (by decide +kernel) rfl)) ?_
  refine zap (zi_mono _ _) (zi_ok (zg_ldc (index := 9) (by decide +kernel) (zin 437 (by decide +kernel) rfl))) ?_
  refine zap (zb_mono _ _) (zb_ok (zb_ieq (off := 9) (by decide +kernel) (by decide +kernel))) ?_
  refine zap (zi_mono _ _) (zi_ok (zg_iload_n (j := 3) (by decide +kernel) rfl)) ?_
  refine zap (zi_mono _ _) (zi_ok (zg_ldc (index := 9) (by decide +kernel) (zin 437 (by decide +kernel) rfl))) ?_
  refine zap (zb_mono _ _) (zb_ok (zb_ine (off := 6) (by decide +kernel) (by decide +kernel))) ?_
  refine zap (zi_mono _ _) (zi_ok (zg_ldc (index := 9) (by decide +kernel) (zin 437 (by decide +kernel) rfl))) ?_
  refine zap (zretI_mono) (zretI_ok (by decide +kernel) rfl) ?_
  refine zap (zi_mono _ _) (zi_ok (zg_iload_n (j := 0) (by decide +kernel) rfl)) ?_
  refine zap (zi_mono _ _) (zi_ok (zg_bipush (n := 7) (by decide +kernel) (by decide +kernel))) ?_
  refine zap (zb_mono _ _) (zb_ok (zb_ine (off := 12) (by decide +kernel) (by decide +kernel))) ?_
  refine zap (zi_mono _ _) (zi_ok (zg_iload_n (j := 1) (by decide +kernel) rfl)) ?_
  refine zap (zi_mono _ _) (zi_ok (zg_iload_n (j := 2) (by decide +kernel) rfl)) ?_
  refine zap (zi_mono _ _) (zi_ok (zg_iload_n (j := 3) (by decide +kernel) rfl)) ?_
  refine zap (zcS_mono _ _ _) (zcS_ok znst_st (μ' := 75) (na := 3) (index := 23) (by decide +kernel) (by decide +kernel) (zgS (zin 633 (by decide +kernel) rfl) (zin 634 (by decide +kernel) rfl) (zin 17 (by decide +kernel) rfl) (zin 635 (by decide +kernel) rfl)) (by decide +kernel) (by decide +kernel)) ?_
  refine zap (zj_mono _) (zj_ok (off := 12) (by decide +kernel) (by decide +kernel)) ?_
  refine zap (zi_mono _ _) (zi_ok (zg_iload_n (j := 1) (by decide +kernel) rfl)) ?_
  refine zap (zi_mono _ _) (zi_ok (zg_iload_n (j := 2) (by decide +kernel) rfl)) ?_
  refine zap (zi_mono _ _) (zi_ok (zg_iload_n (j := 3) (by decide +kernel) rfl)) ?_
  refine zap (zcS_mono _ _ _) (zcS_ok znst_st (μ' := 76) (na := 3) (index := 27) (by decide +kernel) (by decide +kernel) (zgS (zin 636 (by decide +kernel) rfl) (zin 637 (by decide +kernel) rfl) (zin 17 (by decide +kernel) rfl) (zin 638 (by decide +kernel) rfl)) (by decide +kernel) (by decide +kernel)) ?_
  refine zap (zcS_mono _ _ _) (zcS_ok znst_st (μ' := 37) (na := 1) (index := 31) (by decide +kernel) (by decide +kernel) (zgS (zin 441 (by decide +kernel) rfl) (zin 442 (by decide +kernel) rfl) (zin 17 (by decide +kernel) rfl) (zin 443 (by decide +kernel) rfl)) (by decide +kernel) (by decide +kernel)) ?_
  refine zap (zretI_mono) (zretI_ok (by decide +kernel) rfl) ?_
  exact zn
/-- VectorLanguage$Elements.and(II)I -/
def tb73 (_ : List (ClassId × FieldType)) : List (Nat × (zP → zP)) := [(0, zi (gIl 0) 1), (1, zb (c1 (fun x => x = 0)) 8), (4, zi (gIl 1) 1), (5, zb (c1 (fun x => ¬ x = 0)) 10), (8, zi (gC (.int (0))) 1), (9, zretI), (10, zi (gIl 0) 1), (11, zi (gC (.int (-2147483648))) 2), (13, zb (c2 (fun x y => x = y)) 22), (16, zi (gIl 1) 1), (17, zi (gC (.int (-2147483648))) 2), (19, zb (c2 (fun x y => ¬ x = y)) 27), (22, zi (gC (.int (-2147483648))) 2), (24, zj 28), (27, zi (gC (.int (1))) 1), (28, zretI)]
set_option maxRecDepth 100000 in
theorem ok73 (l : Launch) (D : va_G) (dA : Nat → ClassId) (b0 : Nat) : ∀ q ∈ tb73 (ztys dA), zOK l D dA b0 73 q.1 q.2 := by
  refine zap (zi_mono _ _) (zi_ok (zg_iload_n (j := 0) (by decide +kernel) rfl)) ?_
  refine zap (zb_mono _ _) (zb_ok (zb_eq (off := 7) (by decide +kernel) (by decide +kernel))) ?_
  refine zap (zi_mono _ _) (zi_ok (zg_iload_n (j := 1) (by decide +kernel) rfl)) ?_
  refine zap (zb_mono _ _) (zb_ok (zb_ne (off := 5) (by decide +kernel) (by decide +kernel))) ?_
  refine zap (zi_mono _ _) (zi_ok (zg_iconst (n := 0) (by decide +kernel) (by decide +kernel))) ?_
  refine zap (zretI_mono) (zretI_ok (by decide +kernel) rfl) ?_
  refine zap (zi_mono _ _) (zi_ok (zg_iload_n (j := 0) (by decide +kernel) rfl)) ?_
  refine zap (zi_mono _ _) (zi_ok (zg_ldc (index := 9) (by decide +kernel) (zin 437 (by decide +kernel) rfl))) ?_
  refine zap (zb_mono _ _) (zb_ok (zb_ieq (off := 9) (by decide +kernel) (by decide +kernel))) ?_
  refine zap (zi_mono _ _) (zi_ok (zg_iload_n (j := 1) (by decide +kernel) rfl)) ?_
  refine zap (zi_mono _ _) (zi_ok (zg_ldc (index := 9) (by decide +kernel) (zin 437 (by decide +kernel) rfl))) ?_
  refine zap (zb_mono _ _) (zb_ok (zb_ine (off := 8) (by decide +kernel) (by decide +kernel))) ?_
  refine zap (zi_mono _ _) (zi_ok (zg_ldc (index := 9) (by decide +kernel) (zin 437 (by decide +kernel) rfl))) ?_
  refine zap (zj_mono _) (zj_ok (off := 4) (by decide +kernel) (by decide +kernel)) ?_
  refine zap (zi_mono _ _) (zi_ok (zg_iconst (n := 1) (by decide +kernel) (by decide +kernel))) ?_
  refine zap (zretI_mono) (zretI_ok (by decide +kernel) rfl) ?_
  exact zn
/-- VectorLanguage$Elements.or(II)I -/
def tb74 (_ : List (ClassId × FieldType)) : List (Nat × (zP → zP)) := [(0, zi (gIl 0) 1), (1, zb (c1 (fun x => x = 0)) 10), (4, zi (gIl 0) 1), (5, zi (gC (.int (-2147483648))) 2), (7, zb (c2 (fun x y => ¬ x = y)) 20), (10, zi (gIl 1) 1), (11, zb (c1 (fun x => x = 0)) 24), (14, zi (gIl 1) 1), (15, zi (gC (.int (-2147483648))) 2), (17, zb (c2 (fun x y => x = y)) 24), (20, zi (gC (.int (1))) 1), (21, zj 25), (24, zi (gC (.int (0))) 1), (25, zi (gIs 2) 1), (26, zi (gIl 2) 1), (27, zb (c1 (fun x => x = 0)) 32), (30, zi (gC (.int (1))) 1), (31, zretI), (32, zi (gIl 0) 1), (33, zi (gC (.int (-2147483648))) 2), (35, zb (c2 (fun x y => x = y)) 44), (38, zi (gIl 1) 1), (39, zi (gC (.int (-2147483648))) 2), (41, zb (c2 (fun x y => ¬ x = y)) 49), (44, zi (gC (.int (-2147483648))) 2), (46, zj 50), (49, zi (gC (.int (0))) 1), (50, zretI)]
set_option maxRecDepth 100000 in
theorem ok74 (l : Launch) (D : va_G) (dA : Nat → ClassId) (b0 : Nat) : ∀ q ∈ tb74 (ztys dA), zOK l D dA b0 74 q.1 q.2 := by
  refine zap (zi_mono _ _) (zi_ok (zg_iload_n (j := 0) (by decide +kernel) rfl)) ?_
  refine zap (zb_mono _ _) (zb_ok (zb_eq (off := 9) (by decide +kernel) (by decide +kernel))) ?_
  refine zap (zi_mono _ _) (zi_ok (zg_iload_n (j := 0) (by decide +kernel) rfl)) ?_
  refine zap (zi_mono _ _) (zi_ok (zg_ldc (index := 9) (by decide +kernel) (zin 437 (by decide +kernel) rfl))) ?_
  refine zap (zb_mono _ _) (zb_ok (zb_ine (off := 13) (by decide +kernel) (by decide +kernel))) ?_
  refine zap (zi_mono _ _) (zi_ok (zg_iload_n (j := 1) (by decide +kernel) rfl)) ?_
  refine zap (zb_mono _ _) (zb_ok (zb_eq (off := 13) (by decide +kernel) (by decide +kernel))) ?_
  refine zap (zi_mono _ _) (zi_ok (zg_iload_n (j := 1) (by decide +kernel) rfl)) ?_
  refine zap (zi_mono _ _) (zi_ok (zg_ldc (index := 9) (by decide +kernel) (zin 437 (by decide +kernel) rfl))) ?_
  refine zap (zb_mono _ _) (zb_ok (zb_ieq (off := 7) (by decide +kernel) (by decide +kernel))) ?_
  refine zap (zi_mono _ _) (zi_ok (zg_iconst (n := 1) (by decide +kernel) (by decide +kernel))) ?_
  refine zap (zj_mono _) (zj_ok (off := 4) (by decide +kernel) (by decide +kernel)) ?_
  refine zap (zi_mono _ _) (zi_ok (zg_iconst (n := 0) (by decide +kernel) (by decide +kernel))) ?_
  refine zap (zi_mono _ _) (zi_ok (zg_istore_n (j := 2) (by decide +kernel) rfl (by decide +kernel))) ?_
  refine zap (zi_mono _ _) (zi_ok (zg_iload_n (j := 2) (by decide +kernel) rfl)) ?_
  refine zap (zb_mono _ _) (zb_ok (zb_eq (off := 5) (by decide +kernel) (by decide +kernel))) ?_
  refine zap (zi_mono _ _) (zi_ok (zg_iconst (n := 1) (by decide +kernel) (by decide +kernel))) ?_
  refine zap (zretI_mono) (zretI_ok (by decide +kernel) rfl) ?_
  refine zap (zi_mono _ _) (zi_ok (zg_iload_n (j := 0) (by decide +kernel) rfl)) ?_
  refine zap (zi_mono _ _) (zi_ok (zg_ldc (index := 9) (by decide +kernel) (zin 437 (by decide +kernel) rfl))) ?_
  refine zap (zb_mono _ _) (zb_ok (zb_ieq (off := 9) (by decide +kernel) (by decide +kernel))) ?_
  refine zap (zi_mono _ _) (zi_ok (zg_iload_n (j := 1) (by decide +kernel) rfl)) ?_
  refine zap (zi_mono _ _) (zi_ok (zg_ldc (index := 9) (by decide +kernel) (zin 437 (by decide +kernel) rfl))) ?_
  refine zap (zb_mono _ _) (zb_ok (zb_ine (off := 8) (by decide +kernel) (by decide +kernel))) ?_
  refine zap (zi_mono _ _) (zi_ok (zg_ldc (index := 9) (by decide +kernel) (zin 437 (by decide +kernel) rfl))) ?_
  refine zap (zj_mono _) (zj_ok (off := 4) (by decide +kernel) (by decide +kernel)) ?_
  refine zap (zi_mono _ _) (zi_ok (zg_iconst (n := 0) (by decide +kernel) (by decide +kernel))) ?_
  refine zap (zretI_mono) (zretI_ok (by decide +kernel) rfl) ?_
  exact zn
/-- VectorLanguage$Elements.compare(III)I -/
def tb75 (_ : List (ClassId × FieldType)) : List (Nat × (zP → zP)) := [(0, zi (gIl 0) 1), (1, zsw [(0, 28), (1, 39)] 50), (28, zi (gIl 1) 1), (29, zi (gIl 2) 1), (30, zb (c2 (fun x y => ¬ x = y)) 37), (33, zi (gC (.int (1))) 1), (34, zj 38), (37, zi (gC (.int (0))) 1), (38, zretI), (39, zi (gIl 1) 1), (40, zi (gIl 2) 1), (41, zb (c2 (fun x y => y ≤ x)) 48), (44, zi (gC (.int (1))) 1), (45, zj 49), (48, zi (gC (.int (0))) 1), (49, zretI), (50, zi (gIl 1) 1), (51, zi (gIl 2) 1), (52, zb (c2 (fun x y => y < x)) 59), (55, zi (gC (.int (1))) 1), (56, zj 60), (59, zi (gC (.int (0))) 1), (60, zretI)]
set_option maxRecDepth 100000 in
theorem ok75 (l : Launch) (D : va_G) (dA : Nat → ClassId) (b0 : Nat) : ∀ q ∈ tb75 (ztys dA), zOK l D dA b0 75 q.1 q.2 := by
  refine zap (zi_mono _ _) (zi_ok (zg_iload_n (j := 0) (by decide +kernel) rfl)) ?_
  refine zap (zsw_mono _ _) (zsw_look (off := 49) (ps := #[(0, 27), (1, 38)]) (len := 27) (by decide +kernel) (by decide +kernel) (by decide +kernel) (by decide +kernel)) ?_
  refine zap (zi_mono _ _) (zi_ok (zg_iload_n (j := 1) (by decide +kernel) rfl)) ?_
  refine zap (zi_mono _ _) (zi_ok (zg_iload_n (j := 2) (by decide +kernel) rfl)) ?_
  refine zap (zb_mono _ _) (zb_ok (zb_ine (off := 7) (by decide +kernel) (by decide +kernel))) ?_
  refine zap (zi_mono _ _) (zi_ok (zg_iconst (n := 1) (by decide +kernel) (by decide +kernel))) ?_
  refine zap (zj_mono _) (zj_ok (off := 4) (by decide +kernel) (by decide +kernel)) ?_
  refine zap (zi_mono _ _) (zi_ok (zg_iconst (n := 0) (by decide +kernel) (by decide +kernel))) ?_
  refine zap (zretI_mono) (zretI_ok (by decide +kernel) rfl) ?_
  refine zap (zi_mono _ _) (zi_ok (zg_iload_n (j := 1) (by decide +kernel) rfl)) ?_
  refine zap (zi_mono _ _) (zi_ok (zg_iload_n (j := 2) (by decide +kernel) rfl)) ?_
  refine zap (zb_mono _ _) (zb_ok (zb_ige (off := 7) (by decide +kernel) (by decide +kernel))) ?_
  refine zap (zi_mono _ _) (zi_ok (zg_iconst (n := 1) (by decide +kernel) (by decide +kernel))) ?_
  refine zap (zj_mono _) (zj_ok (off := 4) (by decide +kernel) (by decide +kernel)) ?_
  refine zap (zi_mono _ _) (zi_ok (zg_iconst (n := 0) (by decide +kernel) (by decide +kernel))) ?_
  refine zap (zretI_mono) (zretI_ok (by decide +kernel) rfl) ?_
  refine zap (zi_mono _ _) (zi_ok (zg_iload_n (j := 1) (by decide +kernel) rfl)) ?_
  refine zap (zi_mono _ _) (zi_ok (zg_iload_n (j := 2) (by decide +kernel) rfl)) ?_
  refine zap (zb_mono _ _) (zb_ok (zb_igt (off := 7) (by decide +kernel) (by decide +kernel))) ?_
  refine zap (zi_mono _ _) (zi_ok (zg_iconst (n := 1) (by decide +kernel) (by decide +kernel))) ?_
  refine zap (zj_mono _) (zj_ok (off := 4) (by decide +kernel) (by decide +kernel)) ?_
  refine zap (zi_mono _ _) (zi_ok (zg_iconst (n := 0) (by decide +kernel) (by decide +kernel))) ?_
  refine zap (zretI_mono) (zretI_ok (by decide +kernel) rfl) ?_
  exact zn
/-- VectorLanguage$Elements.calculate(III)J -/
def tb76 (_ : List (ClassId × FieldType)) : List (Nat × (zP → zP)) := [(0, zi (gIl 0) 1), (1, zsw [(0, 32), (1, 38), (2, 44), (3, 50)] 67), (32, zi (gIl 1) 1), (33, zi (gI2l) 1), (34, zi (gIl 2) 1), (35, zi (gI2l) 1), (36, zi (gLL (fun x y => x + y)) 1), (37, zretL), (38, zi (gIl 1) 1), (39, zi (gI2l) 1), (40, zi (gIl 2) 1), (41, zi (gI2l) 1), (42, zi (gLL (fun x y => x - y)) 1), (43, zretL), (44, zi (gIl 1) 1), (45, zi (gI2l) 1), (46, zi (gIl 2) 1), (47, zi (gI2l) 1), (48, zi (gLL (fun x y => x * y)) 1), (49, zretL), (50, zi (gIl 2) 1), (51, zb (c1 (fun x => ¬ x = 0)) 60), (54, zi (gC (.long (-2147483648))) 3), (57, zj 66), (60, zi (gIl 1) 1), (61, zi (gIl 2) 1), (62, zcS 3 77 2), (65, zi (gI2l) 1), (66, zretL), (67, zi (gIl 2) 1), (68, zb (c1 (fun x => ¬ x = 0)) 77), (71, zi (gC (.long (-2147483648))) 3), (74, zj 83), (77, zi (gIl 1) 1), (78, zi (gIl 2) 1), (79, zcS 3 78 2), (82, zi (gI2l) 1), (83, zretL)]
set_option maxRecDepth 100000 in
theorem ok76 (l : Launch) (D : va_G) (dA : Nat → ClassId) (b0 : Nat) : ∀ q ∈ tb76 (ztys dA), zOK l D dA b0 76 q.1 q.2 := by
  refine zap (zi_mono _ _) (zi_ok (zg_iload_n (j := 0) (by decide +kernel) rfl)) ?_
  refine zap (zsw_mono _ _) (zsw_tab (off := 66) (lo := 0) (hi := 3) (offs := #[31, 37, 43, 49]) (len := 31) (by decide +kernel) (by decide +kernel) (by decide +kernel) (by decide +kernel)) ?_
  refine zap (zi_mono _ _) (zi_ok (zg_iload_n (j := 1) (by decide +kernel) rfl)) ?_
  refine zap (zi_mono _ _) (zi_ok (zg_i2l (by decide +kernel))) ?_
  refine zap (zi_mono _ _) (zi_ok (zg_iload_n (j := 2) (by decide +kernel) rfl)) ?_
  refine zap (zi_mono _ _) (zi_ok (zg_i2l (by decide +kernel))) ?_
  refine zap (zi_mono _ _) (zi_ok (zg_ladd (by decide +kernel))) ?_
  refine zap (zretL_mono) (zretL_ok (by decide +kernel) rfl) ?_
  refine zap (zi_mono _ _) (zi_ok (zg_iload_n (j := 1) (by decide +kernel) rfl)) ?_
  refine zap (zi_mono _ _) (zi_ok (zg_i2l (by decide +kernel))) ?_
  refine zap (zi_mono _ _) (zi_ok (zg_iload_n (j := 2) (by decide +kernel) rfl)) ?_
  refine zap (zi_mono _ _) (zi_ok (zg_i2l (by decide +kernel))) ?_
  refine zap (zi_mono _ _) (zi_ok (zg_lsub (by decide +kernel))) ?_
  refine zap (zretL_mono) (zretL_ok (by decide +kernel) rfl) ?_
  refine zap (zi_mono _ _) (zi_ok (zg_iload_n (j := 1) (by decide +kernel) rfl)) ?_
  refine zap (zi_mono _ _) (zi_ok (zg_i2l (by decide +kernel))) ?_
  refine zap (zi_mono _ _) (zi_ok (zg_iload_n (j := 2) (by decide +kernel) rfl)) ?_
  refine zap (zi_mono _ _) (zi_ok (zg_i2l (by decide +kernel))) ?_
  refine zap (zi_mono _ _) (zi_ok (zg_lmul (by decide +kernel))) ?_
  refine zap (zretL_mono) (zretL_ok (by decide +kernel) rfl) ?_
  refine zap (zi_mono _ _) (zi_ok (zg_iload_n (j := 2) (by decide +kernel) rfl)) ?_
  refine zap (zb_mono _ _) (zb_ok (zb_ne (off := 9) (by decide +kernel) (by decide +kernel))) ?_
  refine zap (zi_mono _ _) (zi_ok (zg_ldc2 (index := 35) (by decide +kernel) (zin 639 (by decide +kernel) rfl))) ?_
  refine zap (zj_mono _) (zj_ok (off := 9) (by decide +kernel) (by decide +kernel)) ?_
  refine zap (zi_mono _ _) (zi_ok (zg_iload_n (j := 1) (by decide +kernel) rfl)) ?_
  refine zap (zi_mono _ _) (zi_ok (zg_iload_n (j := 2) (by decide +kernel) rfl)) ?_
  refine zap (zcS_mono _ _ _) (zcS_ok znst_st (μ' := 77) (na := 2) (index := 37) (by decide +kernel) (by decide +kernel) (zgS (zin 640 (by decide +kernel) rfl) (zin 641 (by decide +kernel) rfl) (zin 18 (by decide +kernel) rfl) (zin 642 (by decide +kernel) rfl)) (by decide +kernel) (by decide +kernel)) ?_
  refine zap (zi_mono _ _) (zi_ok (zg_i2l (by decide +kernel))) ?_
  refine zap (zretL_mono) (zretL_ok (by decide +kernel) rfl) ?_
  refine zap (zi_mono _ _) (zi_ok (zg_iload_n (j := 2) (by decide +kernel) rfl)) ?_
  refine zap (zb_mono _ _) (zb_ok (zb_ne (off := 9) (by decide +kernel) (by decide +kernel))) ?_
  refine zap (zi_mono _ _) (zi_ok (zg_ldc2 (index := 35) (by decide +kernel) (zin 639 (by decide +kernel) rfl))) ?_
  refine zap (zj_mono _) (zj_ok (off := 9) (by decide +kernel) (by decide +kernel)) ?_
  refine zap (zi_mono _ _) (zi_ok (zg_iload_n (j := 1) (by decide +kernel) rfl)) ?_
  refine zap (zi_mono _ _) (zi_ok (zg_iload_n (j := 2) (by decide +kernel) rfl)) ?_
  refine zap (zcS_mono _ _ _) (zcS_ok znst_st (μ' := 78) (na := 2) (index := 42) (by decide +kernel) (by decide +kernel) (zgS (zin 643 (by decide +kernel) rfl) (zin 644 (by decide +kernel) rfl) (zin 18 (by decide +kernel) rfl) (zin 645 (by decide +kernel) rfl)) (by decide +kernel) (by decide +kernel)) ?_
  refine zap (zi_mono _ _) (zi_ok (zg_i2l (by decide +kernel))) ?_
  refine zap (zretL_mono) (zretL_ok (by decide +kernel) rfl) ?_
  exact zn
/-- java/lang/Math.floorDiv(II)I -/
def tb77 (_ : List (ClassId × FieldType)) : List (Nat × (zP → zP)) := [(0, zi (gIl 0) 1), (1, zi (gIl 1) 1), (2, zdv (fun x y => x / y)), (3, zi (gIs 2) 1), (4, zi (gIl 0) 1), (5, zi (gIl 1) 1), (6, zi (gII (fun x y => x ^^^ y)) 1), (7, zb (c1 (fun x => 0 ≤ x)) 21), (10, zi (gIl 2) 1), (11, zi (gIl 1) 1), (12, zi (gII (fun x y => x * y)) 1), (13, zi (gIl 0) 1), (14, zb (c2 (fun x y => x = y)) 21), (17, zi (gIl 2) 1), (18, zi (gC (.int (1))) 1), (19, zi (gII (fun x y => x - y)) 1), (20, zretI), (21, zi (gIl 2) 1), (22, zretI)]
set_option maxRecDepth 100000 in
theorem ok77 (l : Launch) (D : va_G) (dA : Nat → ClassId) (b0 : Nat) : ∀ q ∈ tb77 (ztys dA), zOK l D dA b0 77 q.1 q.2 := by
  refine zap (zi_mono _ _) (zi_ok (zg_iload_n (j := 0) (by decide +kernel) rfl)) ?_
  refine zap (zi_mono _ _) (zi_ok (zg_iload_n (j := 1) (by decide +kernel) rfl)) ?_
  refine zap (zdv_mono _) (zdv_div (by decide +kernel)) ?_
  refine zap (zi_mono _ _) (zi_ok (zg_istore_n (j := 2) (by decide +kernel) rfl (by decide +kernel))) ?_
  refine zap (zi_mono _ _) (zi_ok (zg_iload_n (j := 0) (by decide +kernel) rfl)) ?_
  refine zap (zi_mono _ _) (zi_ok (zg_iload_n (j := 1) (by decide +kernel) rfl)) ?_
  refine zap (zi_mono _ _) (zi_ok (zg_ixor (by decide +kernel))) ?_
  refine zap (zb_mono _ _) (zb_ok (zb_ge (off := 14) (by decide +kernel) (by decide +kernel))) ?_
  refine zap (zi_mono _ _) (zi_ok (zg_iload_n (j := 2) (by decide +kernel) rfl)) ?_
  refine zap (zi_mono _ _) (zi_ok (zg_iload_n (j := 1) (by decide +kernel) rfl)) ?_
  refine zap (zi_mono _ _) (zi_ok (zg_imul (by decide +kernel))) ?_
  refine zap (zi_mono _ _) (zi_ok (zg_iload_n (j := 0) (by decide +kernel) rfl)) ?_
  refine zap (zb_mono _ _) (zb_ok (zb_ieq (off := 7) (by decide +kernel) (by decide +kernel))) ?_
  refine zap (zi_mono _ _) (zi_ok (zg_iload_n (j := 2) (by decide +kernel) rfl)) ?_
  refine zap (zi_mono _ _) (zi_ok (zg_iconst (n := 1) (by decide +kernel) (by decide +kernel))) ?_
  refine zap (zi_mono _ _) (zi_ok (zg_isub (by decide +kernel))) ?_
  refine zap (zretI_mono) (zretI_ok (by decide +kernel) rfl) ?_
  refine zap (zi_mono _ _) (zi_ok (zg_iload_n (j := 2) (by decide +kernel) rfl)) ?_
  refine zap (zretI_mono) (zretI_ok (by decide +kernel) rfl) ?_
  exact zn
/-- java/lang/Math.floorMod(II)I -/
def tb78 (_ : List (ClassId × FieldType)) : List (Nat × (zP → zP)) := [(0, zi (gIl 0) 1), (1, zi (gIl 1) 1), (2, zdv (fun x y => x - x / y * y)), (3, zi (gIs 2) 1), (4, zi (gIl 0) 1), (5, zi (gIl 1) 1), (6, zi (gII (fun x y => x ^^^ y)) 1), (7, zb (c1 (fun x => 0 ≤ x)) 18), (10, zi (gIl 2) 1), (11, zb (c1 (fun x => x = 0)) 18), (14, zi (gIl 2) 1), (15, zi (gIl 1) 1), (16, zi (gII (fun x y => x + y)) 1), (17, zretI), (18, zi (gIl 2) 1), (19, zretI)]
set_option maxRecDepth 100000 in
theorem ok78 (l : Launch) (D : va_G) (dA : Nat → ClassId) (b0 : Nat) : ∀ q ∈ tb78 (ztys dA), zOK l D dA b0 78 q.1 q.2 := by
  refine zap (zi_mono _ _) (zi_ok (zg_iload_n (j := 0) (by decide +kernel) rfl)) ?_
  refine zap (zi_mono _ _) (zi_ok (zg_iload_n (j := 1) (by decide +kernel) rfl)) ?_
  refine zap (zdv_mono _) (zdv_rem (by decide +kernel)) ?_
  refine zap (zi_mono _ _) (zi_ok (zg_istore_n (j := 2) (by decide +kernel) rfl (by decide +kernel))) ?_
  refine zap (zi_mono _ _) (zi_ok (zg_iload_n (j := 0) (by decide +kernel) rfl)) ?_
  refine zap (zi_mono _ _) (zi_ok (zg_iload_n (j := 1) (by decide +kernel) rfl)) ?_
  refine zap (zi_mono _ _) (zi_ok (zg_ixor (by decide +kernel))) ?_
  refine zap (zb_mono _ _) (zb_ok (zb_ge (off := 11) (by decide +kernel) (by decide +kernel))) ?_
  refine zap (zi_mono _ _) (zi_ok (zg_iload_n (j := 2) (by decide +kernel) rfl)) ?_
  refine zap (zb_mono _ _) (zb_ok (zb_eq (off := 7) (by decide +kernel) (by decide +kernel))) ?_
  refine zap (zi_mono _ _) (zi_ok (zg_iload_n (j := 2) (by decide +kernel) rfl)) ?_
  refine zap (zi_mono _ _) (zi_ok (zg_iload_n (j := 1) (by decide +kernel) rfl)) ?_
  refine zap (zi_mono _ _) (zi_ok (zg_iadd (by decide +kernel))) ?_
  refine zap (zretI_mono) (zretI_ok (by decide +kernel) rfl) ?_
  refine zap (zi_mono _ _) (zi_ok (zg_iload_n (j := 2) (by decide +kernel) rfl)) ?_
  refine zap (zretI_mono) (zretI_ok (by decide +kernel) rfl) ?_
  exact zn
/-- VectorLanguage.refuse(I)I -/
def tb79 (_ : List (ClassId × FieldType)) : List (Nat × (zP → zP)) := [(0, zi (gIl 0) 1), (1, zsw [(1, 52), (2, 62), (3, 72), (4, 82), (5, 92), (6, 72), (7, 92), (8, 52), (9, 62)] 92), (55, zi (gDup) 1), (65, zi (gDup) 1), (75, zi (gDup) 1), (85, zi (gDup) 1), (95, zi (gDup) 1)]
set_option maxRecDepth 100000 in
theorem ok79 (l : Launch) (D : va_G) (dA : Nat → ClassId) (b0 : Nat) : ∀ q ∈ tb79 (ztys dA), zOK l D dA b0 79 q.1 q.2 := by
  refine zap (zi_mono _ _) (zi_ok (zg_iload_n (j := 0) (by decide +kernel) rfl)) ?_
  refine zap (zsw_mono _ _) (zsw_tab (off := 91) (lo := 1) (hi := 9) (offs := #[51, 61, 71, 81, 91, 71, 91, 51, 61]) (len := 51) (by decide +kernel) (by decide +kernel) (by decide +kernel) (by decide +kernel)) ?_
  refine zap (zi_mono _ _) (zi_ok (zg_dup (by decide +kernel))) ?_
  refine zap (zi_mono _ _) (zi_ok (zg_dup (by decide +kernel))) ?_
  refine zap (zi_mono _ _) (zi_ok (zg_dup (by decide +kernel))) ?_
  refine zap (zi_mono _ _) (zi_ok (zg_dup (by decide +kernel))) ?_
  refine zap (zi_mono _ _) (zi_ok (zg_dup (by decide +kernel))) ?_
  exact zn
/-- VectorLanguage$Function.size()I -/
def tb80 (_ : List (ClassId × FieldType)) : List (Nat × (zP → zP)) := [(0, zi (gC (.int (-1))) 1), (1, zretI)]
set_option maxRecDepth 100000 in
theorem ok80 (l : Launch) (D : va_G) (dA : Nat → ClassId) (b0 : Nat) : ∀ q ∈ tb80 (ztys dA), zOK l D dA b0 80 q.1 q.2 := by
  refine zap (zi_mono _ _) (zi_ok (zg_iconst (n := -1) (by decide +kernel) (by decide +kernel))) ?_
  refine zap (zretI_mono) (zretI_ok (by decide +kernel) rfl) ?_
  exact zn
/-- VectorLanguage$Vector.size()I -/
def tb81 (tys : List (ClassId × FieldType)) : List (Nat × (zP → zP)) := [(0, zi (gAl 0) 1), (1, zget 5 0), (4, zalen tys), (5, zretI)]
set_option maxRecDepth 100000 in
theorem ok81 (l : Launch) (D : va_G) (dA : Nat → ClassId) (b0 : Nat) : ∀ q ∈ tb81 (ztys dA), zOK l D dA b0 81 q.1 q.2 := by
  refine zap (zi_mono _ _) (zi_ok (zg_aload_n (j := 0) (by decide +kernel) rfl)) ?_
  refine zap (zget_mono _ _) (zget_ok (index := 7) (C := RC5) (ref := "VectorLanguage$Vector") (T := FC5) (NN := 1) (by decide +kernel) rfl iC5 (by decide +kernel) (zin 122 (by decide +kernel) rfl) rfl) ?_
  refine zap (zalen_mono _) (zalen_ok (by decide +kernel)) ?_
  refine zap (zretI_mono) (zretI_ok (by decide +kernel) rfl) ?_
  exact zn
/-- VectorLanguage.element(I)I -/
def tb82 (tys : List (ClassId × FieldType)) : List (Nat × (zP → zP)) := [(0, zi (gAl 0) 1), (1, zget 0 2), (4, zi (gAs 3) 1), (5, zi (gAl 3) 1), (6, zinst [5] [7, 8]), (9, zb (c1 (fun x => x = 0)) 42), (12, zi (gAl 3) 1), (13, zcast [5]), (16, zi (gAs 2) 1), (17, zi (gAl 2) 1), (18, zi (gIl 1) 1), (19, zcV 2 83 1 5), (22, zb (c1 (fun x => ¬ x = 0)) 35), (28, zi (gDup) 1), (35, zi (gAl 2) 1), (36, zget 5 0), (39, zi (gIl 1) 1), (40, ziald tys), (41, zretI), (45, zi (gDup) 1)]
set_option maxRecDepth 100000 in
theorem ok82 (l : Launch) (D : va_G) (dA : Nat → ClassId) (b0 : Nat) : ∀ q ∈ tb82 (ztys dA), zOK l D dA b0 82 q.1 q.2 := by
  refine zap (zi_mono _ _) (zi_ok (zg_aload_n (j := 0) (by decide +kernel) rfl)) ?_
  refine zap (zget_mono _ _) (zget_ok (index := 25) (C := RC0) (ref := "VectorLanguage") (T := FC0) (NN := 3) (by decide +kernel) rfl iC0 (by decide +kernel) (zin 179 (by decide +kernel) rfl) rfl) ?_
  refine zap (zi_mono _ _) (zi_ok (zg_astore_n (j := 3) (by decide +kernel) rfl (by decide +kernel))) ?_
  refine zap (zi_mono _ _) (zi_ok (zg_aload_n (j := 3) (by decide +kernel) rfl)) ?_
  refine zap (zinst_mono _ _) (zinst_ok (index := 84) (nm := "VectorLanguage$Vector") (by decide +kernel) (zin 715 (by decide +kernel) rfl) (za ⟨_, rfl, (List.mem_of_getElem? (i := 11) rfl)⟩ (zn)) (za ⟨_, rfl, (List.mem_of_getElem? (i := 22) rfl)⟩ (za ⟨_, rfl, (List.mem_of_getElem? (i := 23) rfl)⟩ (zn)))) ?_
  refine zap (zb_mono _ _) (zb_ok (zb_eq (off := 33) (by decide +kernel) (by decide +kernel))) ?_
  refine zap (zi_mono _ _) (zi_ok (zg_aload_n (j := 3) (by decide +kernel) rfl)) ?_
  refine zap (zcast_mono _) (zcast_ok (index := 84) (nm := "VectorLanguage$Vector") (by decide +kernel) (zin 715 (by decide +kernel) rfl) (za ⟨_, rfl, (List.mem_of_getElem? (i := 11) rfl)⟩ (zn))) ?_
  refine zap (zi_mono _ _) (zi_ok (zg_astore_n (j := 2) (by decide +kernel) rfl (by decide +kernel))) ?_
  refine zap (zi_mono _ _) (zi_ok (zg_aload_n (j := 2) (by decide +kernel) rfl)) ?_
  refine zap (zi_mono _ _) (zi_ok (zg_iload_n (j := 1) (by decide +kernel) rfl)) ?_
  refine zap (zcV_mono _ _ _ _) (zcV_ok znst_st (μ' := 83) (na := 1) (ci := 5) (index := 86) (q := (RC5, FC5, 1)) (by decide +kernel) (by decide +kernel) rfl (zgV (zin 716 (by decide +kernel) rfl) (zin 717 (by decide +kernel) rfl) (zin 718 (by decide +kernel) rfl) (zin 8 (by decide +kernel) rfl) (zin 719 (by decide +kernel) rfl)) (by decide +kernel) (by decide +kernel)) ?_
  refine zap (zb_mono _ _) (zb_ok (zb_ne (off := 13) (by decide +kernel) (by decide +kernel))) ?_
  refine zap (zi_mono _ _) (zi_ok (zg_dup (by decide +kernel))) ?_
  refine zap (zi_mono _ _) (zi_ok (zg_aload_n (j := 2) (by decide +kernel) rfl)) ?_
  refine zap (zget_mono _ _) (zget_ok (index := 94) (C := RC5) (ref := "VectorLanguage$Vector") (T := FC5) (NN := 1) (by decide +kernel) rfl iC5 (by decide +kernel) (zin 123 (by decide +kernel) rfl) rfl) ?_
  refine zap (zi_mono _ _) (zi_ok (zg_iload_n (j := 1) (by decide +kernel) rfl)) ?_
  refine zap (ziald_mono _) (ziald_ok (by decide +kernel)) ?_
  refine zap (zretI_mono) (zretI_ok (by decide +kernel) rfl) ?_
  refine zap (zi_mono _ _) (zi_ok (zg_dup (by decide +kernel))) ?_
  exact zn
/-- VectorLanguage$Vector.hasPlace(I)Z -/
def tb83 (tys : List (ClassId × FieldType)) : List (Nat × (zP → zP)) := [(0, zi (gIl 1) 1), (1, zb (c1 (fun x => x < 0)) 17), (4, zi (gIl 1) 1), (5, zi (gAl 0) 1), (6, zget 5 0), (9, zalen tys), (10, zb (c2 (fun x y => y ≤ x)) 17), (13, zi (gC (.int (1))) 1), (14, zj 18), (17, zi (gC (.int (0))) 1), (18, zretZ)]
set_option maxRecDepth 100000 in
theorem ok83 (l : Launch) (D : va_G) (dA : Nat → ClassId) (b0 : Nat) : ∀ q ∈ tb83 (ztys dA), zOK l D dA b0 83 q.1 q.2 := by
  refine zap (zi_mono _ _) (zi_ok (zg_iload_n (j := 1) (by decide +kernel) rfl)) ?_
  refine zap (zb_mono _ _) (zb_ok (zb_lt (off := 16) (by decide +kernel) (by decide +kernel))) ?_
  refine zap (zi_mono _ _) (zi_ok (zg_iload_n (j := 1) (by decide +kernel) rfl)) ?_
  refine zap (zi_mono _ _) (zi_ok (zg_aload_n (j := 0) (by decide +kernel) rfl)) ?_
  refine zap (zget_mono _ _) (zget_ok (index := 7) (C := RC5) (ref := "VectorLanguage$Vector") (T := FC5) (NN := 1) (by decide +kernel) rfl iC5 (by decide +kernel) (zin 122 (by decide +kernel) rfl) rfl) ?_
  refine zap (zalen_mono _) (zalen_ok (by decide +kernel)) ?_
  refine zap (zb_mono _ _) (zb_ok (zb_ige (off := 7) (by decide +kernel) (by decide +kernel))) ?_
  refine zap (zi_mono _ _) (zi_ok (zg_iconst (n := 1) (by decide +kernel) (by decide +kernel))) ?_
  refine zap (zj_mono _) (zj_ok (off := 4) (by decide +kernel) (by decide +kernel)) ?_
  refine zap (zi_mono _ _) (zi_ok (zg_iconst (n := 0) (by decide +kernel) (by decide +kernel))) ?_
  refine zap (zretZ_mono) (zretZ_ok (by decide +kernel) rfl) ?_
  exact zn
/-- VectorLanguage.variable(I)I -/
def tb84 (tys : List (ClassId × FieldType)) : List (Nat × (zP → zP)) := [(0, zi (gIl 1) 1), (1, zcS 1 15 1), (4, zb (c1 (fun x => ¬ x = 0)) 17), (10, zi (gDup) 1), (17, zi (gAl 0) 1), (18, zget 0 1), (21, zget 2 1), (24, zget 3 0), (27, zi (gIl 1) 1), (28, zaald tys), (29, zi (gAs 3) 1), (30, zi (gAl 3) 1), (31, zinst [7, 5] [8]), (34, zb (c1 (fun x => x = 0)) 49), (37, zi (gAl 3) 1), (38, zcast [7, 5]), (41, zi (gAs 2) 1), (42, zi (gAl 2) 1), (43, zor (zcV 1 81 0 5) (zcV 1 80 0 7)), (46, zj 51), (49, zi (gC (.int (-2))) 2), (51, zretI)]
set_option maxRecDepth 100000 in
theorem ok84 (l : Launch) (D : va_G) (dA : Nat → ClassId) (b0 : Nat) : ∀ q ∈ tb84 (ztys dA), zOK l D dA b0 84 q.1 q.2 := by
  refine zap (zi_mono _ _) (zi_ok (zg_iload_n (j := 1) (by decide +kernel) rfl)) ?_
  refine zap (zcS_mono _ _ _) (zcS_ok znst_st (μ' := 15) (na := 1) (index := 100) (by decide +kernel) (by decide +kernel) (zgS (zin 729 (by decide +kernel) rfl) (zin 219 (by decide +kernel) rfl) (zin 1 (by decide +kernel) rfl) (zin 220 (by decide +kernel) rfl)) (by decide +kernel) (by decide +kernel)) ?_
  refine zap (zb_mono _ _) (zb_ok (zb_ne (off := 13) (by decide +kernel) (by decide +kernel))) ?_
  refine zap (zi_mono _ _) (zi_ok (zg_dup (by decide +kernel))) ?_
  refine zap (zi_mono _ _) (zi_ok (zg_aload_n (j := 0) (by decide +kernel) rfl)) ?_
  refine zap (zget_mono _ _) (zget_ok (index := 21) (C := RC0) (ref := "VectorLanguage") (T := FC0) (NN := 3) (by decide +kernel) rfl iC0 (by decide +kernel) (zin 178 (by decide +kernel) rfl) rfl) ?_
  refine zap (zget_mono _ _) (zget_ok (index := 105) (C := RC2) (ref := "VectorLanguage$Evaluator") (T := FC2) (NN := 13) (by decide +kernel) rfl iC2 (by decide +kernel) (zin 134 (by decide +kernel) rfl) rfl) ?_
  refine zap (zget_mono _ _) (zget_ok (index := 109) (C := RC3) (ref := "VectorLanguage$Environment") (T := FC3) (NN := 5) (by decide +kernel) rfl iC3 (by decide +kernel) (zin 66 (by decide +kernel) rfl) rfl) ?_
  refine zap (zi_mono _ _) (zi_ok (zg_iload_n (j := 1) (by decide +kernel) rfl)) ?_
  refine zap (zaald_mono _) (zaald_ok (by decide +kernel)) ?_
  refine zap (zi_mono _ _) (zi_ok (zg_astore_n (j := 3) (by decide +kernel) rfl (by decide +kernel))) ?_
  refine zap (zi_mono _ _) (zi_ok (zg_aload_n (j := 3) (by decide +kernel) rfl)) ?_
  refine zap (zinst_mono _ _) (zinst_ok (index := 79) (nm := "VectorLanguage$Value") (by decide +kernel) (zin 731 (by decide +kernel) rfl) (za ⟨_, rfl, (List.mem_of_getElem? (i := 9) rfl)⟩ (za ⟨_, rfl, (List.mem_of_getElem? (i := 10) rfl)⟩ (zn))) (za ⟨_, rfl, (List.mem_of_getElem? (i := 21) rfl)⟩ (zn))) ?_
  refine zap (zb_mono _ _) (zb_ok (zb_eq (off := 15) (by decide +kernel) (by decide +kernel))) ?_
  refine zap (zi_mono _ _) (zi_ok (zg_aload_n (j := 3) (by decide +kernel) rfl)) ?_
  refine zap (zcast_mono _) (zcast_ok (index := 79) (nm := "VectorLanguage$Value") (by decide +kernel) (zin 731 (by decide +kernel) rfl) (za ⟨_, rfl, (List.mem_of_getElem? (i := 9) rfl)⟩ (za ⟨_, rfl, (List.mem_of_getElem? (i := 10) rfl)⟩ (zn)))) ?_
  refine zap (zi_mono _ _) (zi_ok (zg_astore_n (j := 2) (by decide +kernel) rfl (by decide +kernel))) ?_
  refine zap (zi_mono _ _) (zi_ok (zg_aload_n (j := 2) (by decide +kernel) rfl)) ?_
  refine zap (zor_mono (zcV_mono _ _ _ _) (zcV_mono _ _ _ _)) (zor_ok (zcA_ok znst_st (μ' := 81) (na := 0) (ci := 5) (index := 78) (owner := "VectorLanguage$Value") (x := ⟨"VectorLanguage$Value", "size", "()I"⟩) (q := (RC5, FC5, 1)) (by decide +kernel) (by decide +kernel) rfl (zgU (zin 699 (by decide +kernel) rfl) (zin 701 (by decide +kernel) rfl) (zin 705 (by decide +kernel) rfl) (zin 706 (by decide +kernel) rfl) (zin 8 (by decide +kernel) rfl) (zin 707 (by decide +kernel) rfl)) (List.mem_of_getElem? (i := 16) rfl) (by decide +kernel) (by decide +kernel)) (zcA_ok znst_st (μ' := 80) (na := 0) (ci := 7) (index := 78) (owner := "VectorLanguage$Value") (x := ⟨"VectorLanguage$Value", "size", "()I"⟩) (q := (RC7, FC7, 4)) (by decide +kernel) (by decide +kernel) rfl (zgU (zin 699 (by decide +kernel) rfl) (zin 701 (by decide +kernel) rfl) (zin 702 (by decide +kernel) rfl) (zin 703 (by decide +kernel) rfl) (zin 21 (by decide +kernel) rfl) (zin 704 (by decide +kernel) rfl)) (List.mem_of_getElem? (i := 16) rfl) (by decide +kernel) (by decide +kernel))) ?_
  refine zap (zj_mono _) (zj_ok (off := 5) (by decide +kernel) (by decide +kernel)) ?_
  refine zap (zi_mono _ _) (zi_ok (zg_bipush (n := -2) (by decide +kernel) (by decide +kernel))) ?_
  refine zap (zretI_mono) (zretI_ok (by decide +kernel) rfl) ?_
  exact zn
/-- VectorLanguage.value(II)I -/
def tb85 (tys : List (ClassId × FieldType)) : List (Nat × (zP → zP)) := [(0, zi (gIl 1) 1), (1, zcS 1 15 1), (4, zb (c1 (fun x => ¬ x = 0)) 17), (10, zi (gDup) 1), (17, zi (gAl 0) 1), (18, zget 0 1), (21, zget 2 1), (24, zget 3 0), (27, zi (gIl 1) 1), (28, zaald tys), (29, zi (gAs 4) 2), (31, zi (gAl 4) 2), (33, zinst [5] [7, 8]), (36, zb (c1 (fun x => x = 0)) 60), (39, zi (gAl 4) 2), (41, zcast [5]), (44, zi (gAs 3) 1), (45, zi (gAl 3) 1), (46, zi (gIl 2) 1), (47, zcV 2 83 1 5), (50, zb (c1 (fun x => x = 0)) 60), (53, zi (gAl 3) 1), (54, zget 5 0), (57, zi (gIl 2) 1), (58, ziald tys), (59, zretI), (63, zi (gDup) 1)]
set_option maxRecDepth 100000 in
theorem ok85 (l : Launch) (D : va_G) (dA : Nat → ClassId) (b0 : Nat) : ∀ q ∈ tb85 (ztys dA), zOK l D dA b0 85 q.1 q.2 := by
  refine zap (zi_mono _ _) (zi_ok (zg_iload_n (j := 1) (by decide +kernel) rfl)) ?_
  refine zap (zcS_mono _ _ _) (zcS_ok znst_st (μ' := 15) (na := 1) (index := 100) (by decide +kernel) (by decide +kernel) (zgS (zin 729 (by decide +kernel) rfl) (zin 219 (by decide +kernel) rfl) (zin 1 (by decide +kernel) rfl) (zin 220 (by decide +kernel) rfl)) (by decide +kernel) (by decide +kernel)) ?_
  refine zap (zb_mono _ _) (zb_ok (zb_ne (off := 13) (by decide +kernel) (by decide +kernel))) ?_
  refine zap (zi_mono _ _) (zi_ok (zg_dup (by decide +kernel))) ?_
  refine zap (zi_mono _ _) (zi_ok (zg_aload_n (j := 0) (by decide +kernel) rfl)) ?_
  refine zap (zget_mono _ _) (zget_ok (index := 21) (C := RC0) (ref := "VectorLanguage") (T := FC0) (NN := 3) (by decide +kernel) rfl iC0 (by decide +kernel) (zin 178 (by decide +kernel) rfl) rfl) ?_
  refine zap (zget_mono _ _) (zget_ok (index := 105) (C := RC2) (ref := "VectorLanguage$Evaluator") (T := FC2) (NN := 13) (by decide +kernel) rfl iC2 (by decide +kernel) (zin 134 (by decide +kernel) rfl) rfl) ?_
  refine zap (zget_mono _ _) (zget_ok (index := 109) (C := RC3) (ref := "VectorLanguage$Environment") (T := FC3) (NN := 5) (by decide +kernel) rfl iC3 (by decide +kernel) (zin 66 (by decide +kernel) rfl) rfl) ?_
  refine zap (zi_mono _ _) (zi_ok (zg_iload_n (j := 1) (by decide +kernel) rfl)) ?_
  refine zap (zaald_mono _) (zaald_ok (by decide +kernel)) ?_
  refine zap (zi_mono _ _) (zi_ok (zg_astore (by decide +kernel) (by decide +kernel))) ?_
  refine zap (zi_mono _ _) (zi_ok (zg_aload (by decide +kernel))) ?_
  refine zap (zinst_mono _ _) (zinst_ok (index := 84) (nm := "VectorLanguage$Vector") (by decide +kernel) (zin 715 (by decide +kernel) rfl) (za ⟨_, rfl, (List.mem_of_getElem? (i := 11) rfl)⟩ (zn)) (za ⟨_, rfl, (List.mem_of_getElem? (i := 22) rfl)⟩ (za ⟨_, rfl, (List.mem_of_getElem? (i := 23) rfl)⟩ (zn)))) ?_
  refine zap (zb_mono _ _) (zb_ok (zb_eq (off := 24) (by decide +kernel) (by decide +kernel))) ?_
  refine zap (zi_mono _ _) (zi_ok (zg_aload (by decide +kernel))) ?_
  refine zap (zcast_mono _) (zcast_ok (index := 84) (nm := "VectorLanguage$Vector") (by decide +kernel) (zin 715 (by decide +kernel) rfl) (za ⟨_, rfl, (List.mem_of_getElem? (i := 11) rfl)⟩ (zn))) ?_
  refine zap (zi_mono _ _) (zi_ok (zg_astore_n (j := 3) (by decide +kernel) rfl (by decide +kernel))) ?_
  refine zap (zi_mono _ _) (zi_ok (zg_aload_n (j := 3) (by decide +kernel) rfl)) ?_
  refine zap (zi_mono _ _) (zi_ok (zg_iload_n (j := 2) (by decide +kernel) rfl)) ?_
  refine zap (zcV_mono _ _ _ _) (zcV_ok znst_st (μ' := 83) (na := 1) (ci := 5) (index := 86) (q := (RC5, FC5, 1)) (by decide +kernel) (by decide +kernel) rfl (zgV (zin 716 (by decide +kernel) rfl) (zin 717 (by decide +kernel) rfl) (zin 718 (by decide +kernel) rfl) (zin 8 (by decide +kernel) rfl) (zin 719 (by decide +kernel) rfl)) (by decide +kernel) (by decide +kernel)) ?_
  refine zap (zb_mono _ _) (zb_ok (zb_eq (off := 10) (by decide +kernel) (by decide +kernel))) ?_
  refine zap (zi_mono _ _) (zi_ok (zg_aload_n (j := 3) (by decide +kernel) rfl)) ?_
  refine zap (zget_mono _ _) (zget_ok (index := 94) (C := RC5) (ref := "VectorLanguage$Vector") (T := FC5) (NN := 1) (by decide +kernel) rfl iC5 (by decide +kernel) (zin 123 (by decide +kernel) rfl) rfl) ?_
  refine zap (zi_mono _ _) (zi_ok (zg_iload_n (j := 2) (by decide +kernel) rfl)) ?_
  refine zap (ziald_mono _) (ziald_ok (by decide +kernel)) ?_
  refine zap (zretI_mono) (zretI_ok (by decide +kernel) rfl) ?_
  refine zap (zi_mono _ _) (zi_ok (zg_dup (by decide +kernel))) ?_
  exact zn
/-- VectorLanguage.count(I)I -/
def tb86 (_ : List (ClassId × FieldType)) : List (Nat × (zP → zP)) := [(0, zi (gIl 1) 1), (1, zsw [(0, 32), (1, 40), (2, 48), (3, 56)] 64), (32, zi (gAl 0) 1), (33, zget 0 0), (36, zget 1 1), (39, zretI), (40, zi (gAl 0) 1), (41, zget 0 1), (44, zget 2 2), (47, zretI), (48, zi (gAl 0) 1), (49, zget 0 1), (52, zget 2 3), (55, zretI), (56, zi (gAl 0) 1), (57, zget 0 1), (60, zget 2 4), (63, zretI), (67, zi (gDup) 1)]
set_option maxRecDepth 100000 in
theorem ok86 (l : Launch) (D : va_G) (dA : Nat → ClassId) (b0 : Nat) : ∀ q ∈ tb86 (ztys dA), zOK l D dA b0 86 q.1 q.2 := by
  refine zap (zi_mono _ _) (zi_ok (zg_iload_n (j := 1) (by decide +kernel) rfl)) ?_
  refine zap (zsw_mono _ _) (zsw_tab (off := 63) (lo := 0) (hi := 3) (offs := #[31, 39, 47, 55]) (len := 31) (by decide +kernel) (by decide +kernel) (by decide +kernel) (by decide +kernel)) ?_
  refine zap (zi_mono _ _) (zi_ok (zg_aload_n (j := 0) (by decide +kernel) rfl)) ?_
  refine zap (zget_mono _ _) (zget_ok (index := 10) (C := RC0) (ref := "VectorLanguage") (T := FC0) (NN := 3) (by decide +kernel) rfl iC0 (by decide +kernel) (zin 177 (by decide +kernel) rfl) rfl) ?_
  refine zap (zget_mono _ _) (zget_ok (index := 40) (C := RC1) (ref := "VectorLanguage$Program") (T := FC1) (NN := 2) (by decide +kernel) rfl iC1 (by decide +kernel) (zin 45 (by decide +kernel) rfl) rfl) ?_
  refine zap (zretI_mono) (zretI_ok (by decide +kernel) rfl) ?_
  refine zap (zi_mono _ _) (zi_ok (zg_aload_n (j := 0) (by decide +kernel) rfl)) ?_
  refine zap (zget_mono _ _) (zget_ok (index := 21) (C := RC0) (ref := "VectorLanguage") (T := FC0) (NN := 3) (by decide +kernel) rfl iC0 (by decide +kernel) (zin 178 (by decide +kernel) rfl) rfl) ?_
  refine zap (zget_mono _ _) (zget_ok (index := 118) (C := RC2) (ref := "VectorLanguage$Evaluator") (T := FC2) (NN := 13) (by decide +kernel) rfl iC2 (by decide +kernel) (zin 136 (by decide +kernel) rfl) rfl) ?_
  refine zap (zretI_mono) (zretI_ok (by decide +kernel) rfl) ?_
  refine zap (zi_mono _ _) (zi_ok (zg_aload_n (j := 0) (by decide +kernel) rfl)) ?_
  refine zap (zget_mono _ _) (zget_ok (index := 21) (C := RC0) (ref := "VectorLanguage") (T := FC0) (NN := 3) (by decide +kernel) rfl iC0 (by decide +kernel) (zin 178 (by decide +kernel) rfl) rfl) ?_
  refine zap (zget_mono _ _) (zget_ok (index := 121) (C := RC2) (ref := "VectorLanguage$Evaluator") (T := FC2) (NN := 13) (by decide +kernel) rfl iC2 (by decide +kernel) (zin 138 (by decide +kernel) rfl) rfl) ?_
  refine zap (zretI_mono) (zretI_ok (by decide +kernel) rfl) ?_
  refine zap (zi_mono _ _) (zi_ok (zg_aload_n (j := 0) (by decide +kernel) rfl)) ?_
  refine zap (zget_mono _ _) (zget_ok (index := 21) (C := RC0) (ref := "VectorLanguage") (T := FC0) (NN := 3) (by decide +kernel) rfl iC0 (by decide +kernel) (zin 178 (by decide +kernel) rfl) rfl) ?_
  refine zap (zget_mono _ _) (zget_ok (index := 124) (C := RC2) (ref := "VectorLanguage$Evaluator") (T := FC2) (NN := 13) (by decide +kernel) rfl iC2 (by decide +kernel) (zin 140 (by decide +kernel) rfl) rfl) ?_
  refine zap (zretI_mono) (zretI_ok (by decide +kernel) rfl) ?_
  refine zap (zi_mono _ _) (zi_ok (zg_dup (by decide +kernel))) ?_
  exact zn
