/-- VectorLanguage$Evaluator.evaluateOfOne(LVectorLanguage$Expression;LVectorLanguage$Environment;I)LVectorLanguage$Value; -/
def tb32 (tys : List (ClassId × FieldType)) : List (Nat × (zP → zP)) := [(0, zi (gAl 0) 1), (1, zi (gAl 1) 1), (2, zget 6 1), (5, zi (gAl 2) 1), (6, zi (gIl 3) 1), (7, zcV 6 33 3 2), (10, zi (gAs 4) 2), (12, zi (gAl 4) 2), (14, zb (cNN) 19), (17, zi (gC .null) 1), (18, zretA), (19, zi (gAl 1) 1), (20, zget 6 0), (23, zsw [(9, 56), (14, 63), (15, 74)] 87), (56, zi (gAl 0) 1), (57, zi (gAl 4) 2), (59, zcV 4 34 1 2), (62, zretA), (63, znew 5 1 dC5), (66, zi (gDup) 1), (67, zi (gAl 4) 2), (69, zalen tys), (70, zcI 2 8 1), (73, zretA), (74, znew 5 1 dC5), (77, zi (gDup) 1), (78, zi (gAl 4) 2), (80, zcS 7 36 1), (83, zcI 2 8 1), (86, zretA), (87, zi (gAl 0) 1), (88, zi (gAl 4) 2), (90, zcS 1 38 1), (93, zcV 2 39 1 2), (96, zretA)]
set_option maxRecDepth 100000 in
theorem ok32 (l : Launch) (D : va_G) (dA : Nat → ClassId) (b0 : Nat) : ∀ q ∈ tb32 (ztys dA), zOK l D dA b0 32 q.1 q.2 := by
  refine zap (zi_mono _ _) (zi_ok (zg_aload_n (j := 0) (by decide +kernel) rfl)) ?_
  refine zap (zi_mono _ _) (zi_ok (zg_aload_n (j := 1) (by decide +kernel) rfl)) ?_
  refine zap (zget_mono _ _) (zget_ok (index := 114) (C := RC6) (ref := "VectorLanguage$Expression") (T := FC6) (NN := 5) (by decide +kernel) rfl iC6 (by decide +kernel) (zin 334 (by decide +kernel) rfl) rfl) ?_
  refine zap (zi_mono _ _) (zi_ok (zg_aload_n (j := 2) (by decide +kernel) rfl)) ?_
  refine zap (zi_mono _ _) (zi_ok (zg_iload_n (j := 3) (by decide +kernel) rfl)) ?_
  refine zap (zcV_mono _ _ _ _) (zcV_ok znst_st (μ' := 33) (na := 3) (ci := 2) (index := 186) (q := (RC2, FC2, 13)) (by decide +kernel) (by decide +kernel) rfl (zgV (zin 426 (by decide +kernel) rfl) (zin 428 (by decide +kernel) rfl) (zsel 10 (by decide +kernel) rfl) (zin 3 (by decide +kernel) rfl) (zin 429 (by decide +kernel) rfl)) (by decide +kernel) (by decide +kernel)) ?_
  refine zap (zi_mono _ _) (zi_ok (zg_astore (by decide +kernel) (by decide +kernel))) ?_
  refine zap (zi_mono _ _) (zi_ok (zg_aload (by decide +kernel))) ?_
  refine zap (zb_mono _ _) (zb_ok (zb_nonnull (off := 5) (by decide +kernel) (by decide +kernel))) ?_
  refine zap (zi_mono _ _) (zi_ok (zg_null (by decide +kernel))) ?_
  refine zap (zretA_mono) (zretA_ok (by decide +kernel) rfl (Or.inl ⟨_, rfl⟩)) ?_
  refine zap (zi_mono _ _) (zi_ok (zg_aload_n (j := 1) (by decide +kernel) rfl)) ?_
  refine zap (zget_mono _ _) (zget_ok (index := 87) (C := RC6) (ref := "VectorLanguage$Expression") (T := FC6) (NN := 5) (by decide +kernel) rfl iC6 (by decide +kernel) (zin 332 (by decide +kernel) rfl) rfl) ?_
  refine zap (zsw_mono _ _) (zsw_look (off := 64) (ps := #[(9, 33), (14, 40), (15, 51)]) (len := 33) (by decide +kernel) (by decide +kernel) (by decide +kernel) (by decide +kernel)) ?_
  refine zap (zi_mono _ _) (zi_ok (zg_aload_n (j := 0) (by decide +kernel) rfl)) ?_
  refine zap (zi_mono _ _) (zi_ok (zg_aload (by decide +kernel))) ?_
  refine zap (zcV_mono _ _ _ _) (zcV_ok znst_st (μ' := 34) (na := 1) (ci := 2) (index := 190) (q := (RC2, FC2, 13)) (by decide +kernel) (by decide +kernel) rfl (zgV (zin 430 (by decide +kernel) rfl) (zin 432 (by decide +kernel) rfl) (zsel 11 (by decide +kernel) rfl) (zin 3 (by decide +kernel) rfl) (zin 433 (by decide +kernel) rfl)) (by decide +kernel) (by decide +kernel)) ?_
  refine zap (zretA_mono) (zretA_ok (by decide +kernel) rfl (Or.inl ⟨_, rfl⟩)) ?_
  refine zap (znew_mono _ _ _) (znew_ok (index := 27) (C := RC5) (T := FC5) tC5 (by decide +kernel) rfl iC5 tC5_ok (zin 110 (by decide +kernel) rfl) (zin 111 (by decide +kernel) rfl) (zin 8 (by decide +kernel) rfl) dC5_ok) ?_
  refine zap (zi_mono _ _) (zi_ok (zg_dup (by decide +kernel))) ?_
  refine zap (zi_mono _ _) (zi_ok (zg_aload (by decide +kernel))) ?_
  refine zap (zalen_mono _) (zalen_ok (by decide +kernel)) ?_
  refine zap (zcI_mono _ _ _) (zcI_ok znst_st (μ' := 8) (na := 1) (index := 37) (by decide +kernel) (by decide +kernel) rfl rfl (zgI (zin 131 (by decide +kernel) rfl)) (zin 8 (by decide +kernel) rfl) (zin 129 (by decide +kernel) rfl) (zin 130 (by decide +kernel) rfl) (by decide +kernel) (by decide +kernel)) ?_
  refine zap (zretA_mono) (zretA_ok (by decide +kernel) rfl (Or.inl ⟨_, rfl⟩)) ?_
  refine zap (znew_mono _ _ _) (znew_ok (index := 27) (C := RC5) (T := FC5) tC5 (by decide +kernel) rfl iC5 tC5_ok (zin 110 (by decide +kernel) rfl) (zin 111 (by decide +kernel) rfl) (zin 8 (by decide +kernel) rfl) dC5_ok) ?_
  refine zap (zi_mono _ _) (zi_ok (zg_dup (by decide +kernel))) ?_
  refine zap (zi_mono _ _) (zi_ok (zg_aload (by decide +kernel))) ?_
  refine zap (zcS_mono _ _ _) (zcS_ok znst_st (μ' := 36) (na := 1) (index := 194) (by decide +kernel) (by decide +kernel) (zgS (zin 438 (by decide +kernel) rfl) (zin 439 (by decide +kernel) rfl) (zin 17 (by decide +kernel) rfl) (zin 440 (by decide +kernel) rfl)) (by decide +kernel) (by decide +kernel)) ?_
  refine zap (zcI_mono _ _ _) (zcI_ok znst_st (μ' := 8) (na := 1) (index := 37) (by decide +kernel) (by decide +kernel) rfl rfl (zgI (zin 131 (by decide +kernel) rfl)) (zin 8 (by decide +kernel) rfl) (zin 129 (by decide +kernel) rfl) (zin 130 (by decide +kernel) rfl) (by decide +kernel) (by decide +kernel)) ?_
  refine zap (zretA_mono) (zretA_ok (by decide +kernel) rfl (Or.inl ⟨_, rfl⟩)) ?_
  refine zap (zi_mono _ _) (zi_ok (zg_aload_n (j := 0) (by decide +kernel) rfl)) ?_
  refine zap (zi_mono _ _) (zi_ok (zg_aload (by decide +kernel))) ?_
  refine zap (zcS_mono _ _ _) (zcS_ok znst_st (μ' := 38) (na := 1) (index := 200) (by decide +kernel) (by decide +kernel) (zgS (zin 446 (by decide +kernel) rfl) (zin 447 (by decide +kernel) rfl) (zin 17 (by decide +kernel) rfl) (zin 448 (by decide +kernel) rfl)) (by decide +kernel) (by decide +kernel)) ?_
  refine zap (zcV_mono _ _ _ _) (zcV_ok znst_st (μ' := 39) (na := 1) (ci := 2) (index := 203) (q := (RC2, FC2, 13)) (by decide +kernel) (by decide +kernel) rfl (zgV (zin 449 (by decide +kernel) rfl) (zin 451 (by decide +kernel) rfl) (zsel 12 (by decide +kernel) rfl) (zin 3 (by decide +kernel) rfl) (zin 452 (by decide +kernel) rfl)) (by decide +kernel) (by decide +kernel)) ?_
  refine zap (zretA_mono) (zretA_ok (by decide +kernel) rfl (Or.inl ⟨_, rfl⟩)) ?_
  exact zn
/-- VectorLanguage$Evaluator.elementsOf(ILVectorLanguage$Environment;I)[I -/
def tb33 (_ : List (ClassId × FieldType)) : List (Nat × (zP → zP)) := [(0, zi (gAl 0) 1), (1, zi (gIl 1) 1), (2, zi (gAl 2) 1), (3, zi (gIl 3) 1), (4, zcV 5 24 3 2), (7, zi (gAs 4) 2), (9, zi (gAl 4) 2), (11, zinst [5] [7, 8]), (14, zb (c1 (fun x => x = 0)) 30), (17, zi (gAl 4) 2), (19, zcast [5]), (22, zi (gAs 5) 2), (24, zi (gAl 5) 2), (26, zget 5 0), (29, zretA), (30, zi (gAl 4) 2), (32, zb (cN) 41), (35, zi (gAl 0) 1), (36, zi (gC (.int (3))) 1), (37, zcV 2 25 1 2), (40, zi (gPop) 1), (41, zi (gC .null) 1), (42, zretA)]
set_option maxRecDepth 100000 in
theorem ok33 (l : Launch) (D : va_G) (dA : Nat → ClassId) (b0 : Nat) : ∀ q ∈ tb33 (ztys dA), zOK l D dA b0 33 q.1 q.2 := by
  refine zap (zi_mono _ _) (zi_ok (zg_aload_n (j := 0) (by decide +kernel) rfl)) ?_
  refine zap (zi_mono _ _) (zi_ok (zg_iload_n (j := 1) (by decide +kernel) rfl)) ?_
  refine zap (zi_mono _ _) (zi_ok (zg_aload_n (j := 2) (by decide +kernel) rfl)) ?_
  refine zap (zi_mono _ _) (zi_ok (zg_iload_n (j := 3) (by decide +kernel) rfl)) ?_
  refine zap (zcV_mono _ _ _ _) (zcV_ok znst_st (μ' := 24) (na := 3) (ci := 2) (index := 63) (q := (RC2, FC2, 13)) (by decide +kernel) (by decide +kernel) rfl (zgV (zin 388 (by decide +kernel) rfl) (zin 390 (by decide +kernel) rfl) (zsel 3 (by decide +kernel) rfl) (zin 3 (by decide +kernel) rfl) (zin 391 (by decide +kernel) rfl)) (by decide +kernel) (by decide +kernel)) ?_
  refine zap (zi_mono _ _) (zi_ok (zg_astore (by decide +kernel) (by decide +kernel))) ?_
  refine zap (zi_mono _ _) (zi_ok (zg_aload (by decide +kernel))) ?_
  refine zap (zinst_mono _ _) (zinst_ok (index := 27) (nm := "VectorLanguage$Vector") (by decide +kernel) (zin 110 (by decide +kernel) rfl) (za ⟨_, rfl, (List.mem_of_getElem? (i := 11) rfl)⟩ (zn)) (za ⟨_, rfl, (List.mem_of_getElem? (i := 22) rfl)⟩ (za ⟨_, rfl, (List.mem_of_getElem? (i := 23) rfl)⟩ (zn)))) ?_
  refine zap (zb_mono _ _) (zb_ok (zb_eq (off := 16) (by decide +kernel) (by decide +kernel))) ?_
  refine zap (zi_mono _ _) (zi_ok (zg_aload (by decide +kernel))) ?_
  refine zap (zcast_mono _) (zcast_ok (index := 27) (nm := "VectorLanguage$Vector") (by decide +kernel) (zin 110 (by decide +kernel) rfl) (za ⟨_, rfl, (List.mem_of_getElem? (i := 11) rfl)⟩ (zn))) ?_
  refine zap (zi_mono _ _) (zi_ok (zg_astore (by decide +kernel) (by decide +kernel))) ?_
  refine zap (zi_mono _ _) (zi_ok (zg_aload (by decide +kernel))) ?_
  refine zap (zget_mono _ _) (zget_ok (index := 182) (C := RC5) (ref := "VectorLanguage$Vector") (T := FC5) (NN := 1) (by decide +kernel) rfl iC5 (by decide +kernel) (zin 124 (by decide +kernel) rfl) rfl) ?_
  refine zap (zretA_mono) (zretA_ok (by decide +kernel) rfl (Or.inr ⟨_, rfl⟩)) ?_
  refine zap (zi_mono _ _) (zi_ok (zg_aload (by decide +kernel))) ?_
  refine zap (zb_mono _ _) (zb_ok (zb_null (off := 9) (by decide +kernel) (by decide +kernel))) ?_
  refine zap (zi_mono _ _) (zi_ok (zg_aload_n (j := 0) (by decide +kernel) rfl)) ?_
  refine zap (zi_mono _ _) (zi_ok (zg_iconst (n := 3) (by decide +kernel) (by decide +kernel))) ?_
  refine zap (zcV_mono _ _ _ _) (zcV_ok znst_st (μ' := 25) (na := 1) (ci := 2) (index := 77) (q := (RC2, FC2, 13)) (by decide +kernel) (by decide +kernel) rfl (zgV (zin 392 (by decide +kernel) rfl) (zin 394 (by decide +kernel) rfl) (zsel 4 (by decide +kernel) rfl) (zin 3 (by decide +kernel) rfl) (zin 395 (by decide +kernel) rfl)) (by decide +kernel) (by decide +kernel)) ?_
  refine zap (zi_mono _ _) (zi_ok (zg_pop (by decide +kernel))) ?_
  refine zap (zi_mono _ _) (zi_ok (zg_null (by decide +kernel))) ?_
  refine zap (zretA_mono) (zretA_ok (by decide +kernel) rfl (Or.inr ⟨_, rfl⟩)) ?_
  exact zn
/-- VectorLanguage$Evaluator.negate([I)LVectorLanguage$Vector; -/
def tb34 (tys : List (ClassId × FieldType)) : List (Nat × (zP → zP)) := [(0, zi (gAl 1) 1), (1, zalen tys), (2, znewi tys), (4, zi (gAs 2) 1), (5, zi (gC (.int (0))) 1), (6, zi (gIs 3) 1), (7, zi (gIl 3) 1), (8, zi (gAl 2) 1), (9, zalen tys), (10, zb (c2 (fun x y => y ≤ x)) 28), (13, zi (gAl 2) 1), (14, zi (gIl 3) 1), (15, zi (gAl 1) 1), (16, zi (gIl 3) 1), (17, ziald tys), (18, zcS 1 35 1), (21, ziast tys), (22, zi (gIinc 3 (1)) 3), (25, zj 7), (28, znew 5 1 dC5), (31, zi (gDup) 1), (32, zi (gAl 2) 1), (33, zcI 2 5 1), (36, zretA)]
set_option maxRecDepth 100000 in
theorem ok34 (l : Launch) (D : va_G) (dA : Nat → ClassId) (b0 : Nat) : ∀ q ∈ tb34 (ztys dA), zOK l D dA b0 34 q.1 q.2 := by
  refine zap (zi_mono _ _) (zi_ok (zg_aload_n (j := 1) (by decide +kernel) rfl)) ?_
  refine zap (zalen_mono _) (zalen_ok (by decide +kernel)) ?_
  refine zap (znewi_mono _) (znewi_ok (by decide +kernel) (zin 109 (by decide +kernel) rfl)) ?_
  refine zap (zi_mono _ _) (zi_ok (zg_astore_n (j := 2) (by decide +kernel) rfl (by decide +kernel))) ?_
  refine zap (zi_mono _ _) (zi_ok (zg_iconst (n := 0) (by decide +kernel) (by decide +kernel))) ?_
  refine zap (zi_mono _ _) (zi_ok (zg_istore_n (j := 3) (by decide +kernel) rfl (by decide +kernel))) ?_
  refine zap (zi_mono _ _) (zi_ok (zg_iload_n (j := 3) (by decide +kernel) rfl)) ?_
  refine zap (zi_mono _ _) (zi_ok (zg_aload_n (j := 2) (by decide +kernel) rfl)) ?_
  refine zap (zalen_mono _) (zalen_ok (by decide +kernel)) ?_
  refine zap (zb_mono _ _) (zb_ok (zb_ige (off := 18) (by decide +kernel) (by decide +kernel))) ?_
  refine zap (zi_mono _ _) (zi_ok (zg_aload_n (j := 2) (by decide +kernel) rfl)) ?_
  refine zap (zi_mono _ _) (zi_ok (zg_iload_n (j := 3) (by decide +kernel) rfl)) ?_
  refine zap (zi_mono _ _) (zi_ok (zg_aload_n (j := 1) (by decide +kernel) rfl)) ?_
  refine zap (zi_mono _ _) (zi_ok (zg_iload_n (j := 3) (by decide +kernel) rfl)) ?_
  refine zap (ziald_mono _) (ziald_ok (by decide +kernel)) ?_
  refine zap (zcS_mono _ _ _) (zcS_ok znst_st (μ' := 35) (na := 1) (index := 206) (by decide +kernel) (by decide +kernel) (zgS (zin 434 (by decide +kernel) rfl) (zin 435 (by decide +kernel) rfl) (zin 17 (by decide +kernel) rfl) (zin 436 (by decide +kernel) rfl)) (by decide +kernel) (by decide +kernel)) ?_
  refine zap (ziast_mono _) (ziast_ok (by decide +kernel)) ?_
  refine zap (zi_mono _ _) (zi_ok (zg_iinc (n := 1) (by decide +kernel) (by decide +kernel) (by decide +kernel))) ?_
  refine zap (zj_mono _) (zj_ok (off := -18) (by decide +kernel) (by decide +kernel)) ?_
  refine zap (znew_mono _ _ _) (znew_ok (index := 27) (C := RC5) (T := FC5) tC5 (by decide +kernel) rfl iC5 tC5_ok (zin 110 (by decide +kernel) rfl) (zin 111 (by decide +kernel) rfl) (zin 8 (by decide +kernel) rfl) dC5_ok) ?_
  refine zap (zi_mono _ _) (zi_ok (zg_dup (by decide +kernel))) ?_
  refine zap (zi_mono _ _) (zi_ok (zg_aload_n (j := 2) (by decide +kernel) rfl)) ?_
  refine zap (zcI_mono _ _ _) (zcI_ok znst_st (μ' := 5) (na := 1) (index := 29) (by decide +kernel) (by decide +kernel) rfl rfl (zgI (zin 114 (by decide +kernel) rfl)) (zin 8 (by decide +kernel) rfl) (zin 112 (by decide +kernel) rfl) (zin 113 (by decide +kernel) rfl) (by decide +kernel) (by decide +kernel)) ?_
  refine zap (zretA_mono) (zretA_ok (by decide +kernel) rfl (Or.inl ⟨_, rfl⟩)) ?_
  exact zn
/-- VectorLanguage$Elements.not(I)I -/
def tb35 (_ : List (ClassId × FieldType)) : List (Nat × (zP → zP)) := [(0, zi (gIl 0) 1), (1, zi (gC (.int (-2147483648))) 2), (3, zb (c2 (fun x y => ¬ x = y)) 9), (6, zi (gC (.int (-2147483648))) 2), (8, zretI), (9, zi (gIl 0) 1), (10, zb (c1 (fun x => ¬ x = 0)) 17), (13, zi (gC (.int (1))) 1), (14, zj 18), (17, zi (gC (.int (0))) 1), (18, zretI)]
set_option maxRecDepth 100000 in
theorem ok35 (l : Launch) (D : va_G) (dA : Nat → ClassId) (b0 : Nat) : ∀ q ∈ tb35 (ztys dA), zOK l D dA b0 35 q.1 q.2 := by
  refine zap (zi_mono _ _) (zi_ok (zg_iload_n (j := 0) (by decide +kernel) rfl)) ?_
  refine zap (zi_mono _ _) (zi_ok (zg_ldc (index := 9) (by decide +kernel) (zin 437 (by decide +kernel) rfl))) ?_
  refine zap (zb_mono _ _) (zb_ok (zb_ine (off := 6) (by decide +kernel) (by decide +kernel))) ?_
  refine zap (zi_mono _ _) (zi_ok (zg_ldc (index := 9) (by decide +kernel) (zin 437 (by decide +kernel) rfl))) ?_
  refine zap (zretI_mono) (zretI_ok (by decide +kernel) rfl) ?_
  refine zap (zi_mono _ _) (zi_ok (zg_iload_n (j := 0) (by decide +kernel) rfl)) ?_
  refine zap (zb_mono _ _) (zb_ok (zb_ne (off := 7) (by decide +kernel) (by decide +kernel))) ?_
  refine zap (zi_mono _ _) (zi_ok (zg_iconst (n := 1) (by decide +kernel) (by decide +kernel))) ?_
  refine zap (zj_mono _) (zj_ok (off := 4) (by decide +kernel) (by decide +kernel)) ?_
  refine zap (zi_mono _ _) (zi_ok (zg_iconst (n := 0) (by decide +kernel) (by decide +kernel))) ?_
  refine zap (zretI_mono) (zretI_ok (by decide +kernel) rfl) ?_
  exact zn
/-- VectorLanguage$Elements.sum([I)I -/
def tb36 (tys : List (ClassId × FieldType)) : List (Nat × (zP → zP)) := [(0, zi (gC (.long 0)) 1), (1, zi (gLs 1) 1), (2, zi (gAl 0) 1), (3, zi (gAs 3) 1), (4, zi (gAl 3) 1), (5, zalen tys), (6, zi (gIs 4) 2), (8, zi (gC (.int (0))) 1), (9, zi (gIs 5) 2), (11, zi (gIl 5) 2), (13, zi (gIl 4) 2), (15, zb (c2 (fun x y => y ≤ x)) 46), (18, zi (gAl 3) 1), (19, zi (gIl 5) 2), (21, ziald tys), (22, zi (gIs 6) 2), (24, zi (gIl 6) 2), (26, zi (gC (.int (-2147483648))) 2), (28, zb (c2 (fun x y => ¬ x = y)) 34), (31, zi (gC (.int (-2147483648))) 2), (33, zretI), (34, zi (gLl 1) 1), (35, zi (gIl 6) 2), (37, zi (gI2l) 1), (38, zi (gLL (fun x y => x + y)) 1), (39, zi (gLs 1) 1), (40, zi (gIinc 5 (1)) 3), (43, zj 11), (46, zi (gLl 1) 1), (47, zcS 2 37 1), (50, zretI)]
set_option maxRecDepth 100000 in
theorem ok36 (l : Launch) (D : va_G) (dA : Nat → ClassId) (b0 : Nat) : ∀ q ∈ tb36 (ztys dA), zOK l D dA b0 36 q.1 q.2 := by
  refine zap (zi_mono _ _) (zi_ok (zg_lconst (n := 0) (by decide +kernel) (by decide +kernel))) ?_
  refine zap (zi_mono _ _) (zi_ok (zg_lstore_n (j := 1) (by decide +kernel) rfl (by decide +kernel))) ?_
  refine zap (zi_mono _ _) (zi_ok (zg_aload_n (j := 0) (by decide +kernel) rfl)) ?_
  refine zap (zi_mono _ _) (zi_ok (zg_astore_n (j := 3) (by decide +kernel) rfl (by decide +kernel))) ?_
  refine zap (zi_mono _ _) (zi_ok (zg_aload_n (j := 3) (by decide +kernel) rfl)) ?_
  refine zap (zalen_mono _) (zalen_ok (by decide +kernel)) ?_
  refine zap (zi_mono _ _) (zi_ok (zg_istore (by decide +kernel) (by decide +kernel))) ?_
  refine zap (zi_mono _ _) (zi_ok (zg_iconst (n := 0) (by decide +kernel) (by decide +kernel))) ?_
  refine zap (zi_mono _ _) (zi_ok (zg_istore (by decide +kernel) (by decide +kernel))) ?_
  refine zap (zi_mono _ _) (zi_ok (zg_iload (by decide +kernel))) ?_
  refine zap (zi_mono _ _) (zi_ok (zg_iload (by decide +kernel))) ?_
  refine zap (zb_mono _ _) (zb_ok (zb_ige (off := 31) (by decide +kernel) (by decide +kernel))) ?_
  refine zap (zi_mono _ _) (zi_ok (zg_aload_n (j := 3) (by decide +kernel) rfl)) ?_
  refine zap (zi_mono _ _) (zi_ok (zg_iload (by decide +kernel))) ?_
  refine zap (ziald_mono _) (ziald_ok (by decide +kernel)) ?_
  refine zap (zi_mono _ _) (zi_ok (zg_istore (by decide +kernel) (by decide +kernel))) ?_
  refine zap (zi_mono _ _) (zi_ok (zg_iload (by decide +kernel))) ?_
  refine zap (zi_mono _ _) (zi_ok (zg_ldc (index := 9) (by decide +kernel) (zin 437 (by decide +kernel) rfl))) ?_
  refine zap (zb_mono _ _) (zb_ok (zb_ine (off := 6) (by decide +kernel) (by decide +kernel))) ?_
  refine zap (zi_mono _ _) (zi_ok (zg_ldc (index := 9) (by decide +kernel) (zin 437 (by decide +kernel) rfl))) ?_
  refine zap (zretI_mono) (zretI_ok (by decide +kernel) rfl) ?_
  refine zap (zi_mono _ _) (zi_ok (zg_lload_n (j := 1) (by decide +kernel) rfl)) ?_
  refine zap (zi_mono _ _) (zi_ok (zg_iload (by decide +kernel))) ?_
  refine zap (zi_mono _ _) (zi_ok (zg_i2l (by decide +kernel))) ?_
  refine zap (zi_mono _ _) (zi_ok (zg_ladd (by decide +kernel))) ?_
  refine zap (zi_mono _ _) (zi_ok (zg_lstore_n (j := 1) (by decide +kernel) rfl (by decide +kernel))) ?_
  refine zap (zi_mono _ _) (zi_ok (zg_iinc (n := 1) (by decide +kernel) (by decide +kernel) (by decide +kernel))) ?_
  refine zap (zj_mono _) (zj_ok (off := -32) (by decide +kernel) (by decide +kernel)) ?_
  refine zap (zi_mono _ _) (zi_ok (zg_lload_n (j := 1) (by decide +kernel) rfl)) ?_
  refine zap (zcS_mono _ _ _) (zcS_ok znst_st (μ' := 37) (na := 1) (index := 31) (by decide +kernel) (by decide +kernel) (zgS (zin 441 (by decide +kernel) rfl) (zin 442 (by decide +kernel) rfl) (zin 17 (by decide +kernel) rfl) (zin 443 (by decide +kernel) rfl)) (by decide +kernel) (by decide +kernel)) ?_
  refine zap (zretI_mono) (zretI_ok (by decide +kernel) rfl) ?_
  exact zn
/-- VectorLanguage$Elements.inRange(J)I -/
def tb37 (_ : List (ClassId × FieldType)) : List (Nat × (zP → zP)) := [(0, zi (gLl 0) 1), (1, zi (gC (.long (-1000000000))) 3), (4, zi (gLcmp) 1), (5, zb (c1 (fun x => x < 0)) 16), (8, zi (gLl 0) 1), (9, zi (gC (.long (1000000000))) 3), (12, zi (gLcmp) 1), (13, zb (c1 (fun x => x ≤ 0)) 21), (16, zi (gC (.int (-2147483648))) 2), (18, zj 23), (21, zi (gLl 0) 1), (22, zi (gL2i) 1), (23, zretI)]
set_option maxRecDepth 100000 in
theorem ok37 (l : Launch) (D : va_G) (dA : Nat → ClassId) (b0 : Nat) : ∀ q ∈ tb37 (ztys dA), zOK l D dA b0 37 q.1 q.2 := by
  refine zap (zi_mono _ _) (zi_ok (zg_lload_n (j := 0) (by decide +kernel) rfl)) ?_
  refine zap (zi_mono _ _) (zi_ok (zg_ldc2 (index := 10) (by decide +kernel) (zin 444 (by decide +kernel) rfl))) ?_
  refine zap (zi_mono _ _) (zi_ok (zg_lcmp (by decide +kernel))) ?_
  refine zap (zb_mono _ _) (zb_ok (zb_lt (off := 11) (by decide +kernel) (by decide +kernel))) ?_
  refine zap (zi_mono _ _) (zi_ok (zg_lload_n (j := 0) (by decide +kernel) rfl)) ?_
  refine zap (zi_mono _ _) (zi_ok (zg_ldc2 (index := 12) (by decide +kernel) (zin 445 (by decide +kernel) rfl))) ?_
  refine zap (zi_mono _ _) (zi_ok (zg_lcmp (by decide +kernel))) ?_
  refine zap (zb_mono _ _) (zb_ok (zb_le (off := 8) (by decide +kernel) (by decide +kernel))) ?_
  refine zap (zi_mono _ _) (zi_ok (zg_ldc (index := 9) (by decide +kernel) (zin 437 (by decide +kernel) rfl))) ?_
  refine zap (zj_mono _) (zj_ok (off := 5) (by decide +kernel) (by decide +kernel)) ?_
  refine zap (zi_mono _ _) (zi_ok (zg_lload_n (j := 0) (by decide +kernel) rfl)) ?_
  refine zap (zi_mono _ _) (zi_ok (zg_l2i (by decide +kernel))) ?_
  refine zap (zretI_mono) (zretI_ok (by decide +kernel) rfl) ?_
  exact zn
/-- VectorLanguage$Elements.first([I)I -/
def tb38 (tys : List (ClassId × FieldType)) : List (Nat × (zP → zP)) := [(0, zi (gAl 0) 1), (1, zalen tys), (2, zb (c1 (fun x => ¬ x = 0)) 10), (5, zi (gC (.int (-2147483648))) 2), (7, zj 13), (10, zi (gAl 0) 1), (11, zi (gC (.int (0))) 1), (12, ziald tys), (13, zretI)]
set_option maxRecDepth 100000 in
theorem ok38 (l : Launch) (D : va_G) (dA : Nat → ClassId) (b0 : Nat) : ∀ q ∈ tb38 (ztys dA), zOK l D dA b0 38 q.1 q.2 := by
  refine zap (zi_mono _ _) (zi_ok (zg_aload_n (j := 0) (by decide +kernel) rfl)) ?_
  refine zap (zalen_mono _) (zalen_ok (by decide +kernel)) ?_
  refine zap (zb_mono _ _) (zb_ok (zb_ne (off := 8) (by decide +kernel) (by decide +kernel))) ?_
  refine zap (zi_mono _ _) (zi_ok (zg_ldc (index := 9) (by decide +kernel) (zin 437 (by decide +kernel) rfl))) ?_
  refine zap (zj_mono _) (zj_ok (off := 6) (by decide +kernel) (by decide +kernel)) ?_
  refine zap (zi_mono _ _) (zi_ok (zg_aload_n (j := 0) (by decide +kernel) rfl)) ?_
  refine zap (zi_mono _ _) (zi_ok (zg_iconst (n := 0) (by decide +kernel) (by decide +kernel))) ?_
  refine zap (ziald_mono _) (ziald_ok (by decide +kernel)) ?_
  refine zap (zretI_mono) (zretI_ok (by decide +kernel) rfl) ?_
  exact zn
/-- VectorLanguage$Evaluator.raise(I)LVectorLanguage$Vector; -/
def tb39 (_ : List (ClassId × FieldType)) : List (Nat × (zP → zP)) := [(0, zi (gAl 0) 1), (1, zi (gIl 1) 1), (2, zb (c1 (fun x => x < 0)) 18), (5, zi (gIl 1) 1), (6, zi (gC (.int (100))) 2), (8, zb (c2 (fun x y => y ≤ x)) 18), (11, zi (gC (.int (100))) 2), (13, zi (gIl 1) 1), (14, zi (gII (fun x y => x + y)) 1), (15, zj 20), (18, zi (gC (.int (100))) 2), (20, zcV 2 25 1 2), (23, zretA)]
set_option maxRecDepth 100000 in
theorem ok39 (l : Launch) (D : va_G) (dA : Nat → ClassId) (b0 : Nat) : ∀ q ∈ tb39 (ztys dA), zOK l D dA b0 39 q.1 q.2 := by
  refine zap (zi_mono _ _) (zi_ok (zg_aload_n (j := 0) (by decide +kernel) rfl)) ?_
  refine zap (zi_mono _ _) (zi_ok (zg_iload_n (j := 1) (by decide +kernel) rfl)) ?_
  refine zap (zb_mono _ _) (zb_ok (zb_lt (off := 16) (by decide +kernel) (by decide +kernel))) ?_
  refine zap (zi_mono _ _) (zi_ok (zg_iload_n (j := 1) (by decide +kernel) rfl)) ?_
  refine zap (zi_mono _ _) (zi_ok (zg_bipush (n := 100) (by decide +kernel) (by decide +kernel))) ?_
  refine zap (zb_mono _ _) (zb_ok (zb_ige (off := 10) (by decide +kernel) (by decide +kernel))) ?_
  refine zap (zi_mono _ _) (zi_ok (zg_bipush (n := 100) (by decide +kernel) (by decide +kernel))) ?_
  refine zap (zi_mono _ _) (zi_ok (zg_iload_n (j := 1) (by decide +kernel) rfl)) ?_
  refine zap (zi_mono _ _) (zi_ok (zg_iadd (by decide +kernel))) ?_
  refine zap (zj_mono _) (zj_ok (off := 5) (by decide +kernel) (by decide +kernel)) ?_
  refine zap (zi_mono _ _) (zi_ok (zg_bipush (n := 100) (by decide +kernel) (by decide +kernel))) ?_
  refine zap (zcV_mono _ _ _ _) (zcV_ok znst_st (μ' := 25) (na := 1) (ci := 2) (index := 77) (q := (RC2, FC2, 13)) (by decide +kernel) (by decide +kernel) rfl (zgV (zin 392 (by decide +kernel) rfl) (zin 394 (by decide +kernel) rfl) (zsel 4 (by decide +kernel) rfl) (zin 3 (by decide +kernel) rfl) (zin 395 (by decide +kernel) rfl)) (by decide +kernel) (by decide +kernel)) ?_
  refine zap (zretA_mono) (zretA_ok (by decide +kernel) rfl (Or.inl ⟨_, rfl⟩)) ?_
  exact zn
/-- VectorLanguage$Evaluator.replace(LVectorLanguage$Expression;LVectorLanguage$Environment;I)LVectorLanguage$Value; -/
def tb40 (_ : List (ClassId × FieldType)) : List (Nat × (zP → zP)) := [(0, zi (gAl 0) 1), (1, zi (gAl 1) 1), (2, zget 6 2), (5, zi (gAl 2) 1), (6, zi (gIl 3) 1), (7, zcV 5 24 3 2), (10, zi (gAs 4) 2), (12, zi (gAl 4) 2), (14, zb (cNN) 19), (17, zi (gC .null) 1), (18, zretA), (19, zi (gAl 0) 1), (20, zi (gAl 1) 1), (21, zget 6 3), (24, zi (gAl 2) 1), (25, zi (gIl 3) 1), (26, zcV 5 24 3 2), (29, zi (gAs 5) 2), (31, zi (gAl 5) 2), (33, zb (cNN) 38), (36, zi (gC .null) 1), (37, zretA), (38, zi (gAl 4) 2), (40, zinst [5] [7, 8]), (43, zb (c1 (fun x => x = 0)) 54), (46, zi (gAl 5) 2), (48, zinst [5] [7, 8]), (51, zb (c1 (fun x => ¬ x = 0)) 60), (54, zi (gAl 0) 1), (55, zi (gC (.int (3))) 1), (56, zcV 2 25 1 2), (59, zretA), (60, zi (gAl 2) 1), (61, zi (gAl 1) 1), (62, zget 6 1), (65, zcV 3 27 1 3), (68, zi (gAs 6) 2), (70, zi (gAl 6) 2), (72, zb (cNN) 82), (75, zi (gAl 0) 1), (76, zget 2 9), (79, zj 89), (82, zi (gAl 0) 1), (83, zi (gAl 6) 2), (85, zi (gIl 3) 1), (86, zcV 4 28 2 2), (89, zi (gAs 7) 2), (91, zi (gAl 7) 2), (93, zb (cNN) 98), (96, zi (gC .null) 1), (97, zretA), (98, zi (gAl 7) 2), (100, zinst [5] [7, 8]), (103, zb (c1 (fun x => x = 0)) 165), (106, zi (gAl 7) 2), (108, zcast [5]), (111, zi (gAs 8) 2), (113, zi (gAl 4) 2), (115, zinst [5] [7, 8]), (118, zb (c1 (fun x => x = 0)) 165), (121, zi (gAl 4) 2), (123, zcast [5]), (126, zi (gAs 9) 2), (128, zi (gAl 5) 2), (130, zinst [5] [7, 8]), (133, zb (c1 (fun x => x = 0)) 165), (136, zi (gAl 5) 2), (138, zcast [5]), (141, zi (gAs 10) 2), (143, zi (gAl 0) 1), (144, zi (gAl 8) 2), (146, zget 5 0), (149, zi (gAl 9) 2), (151, zget 5 0), (154, zi (gAl 10) 2), (156, zi (gAl 2) 1), (157, zi (gAl 1) 1), (158, zget 6 1), (161, zcV 7 41 5 2), (164, zretA), (165, zi (gAl 0) 1), (166, zi (gC (.int (3))) 1), (167, zcV 2 25 1 2), (170, zretA)]
set_option maxRecDepth 100000 in
theorem ok40 (l : Launch) (D : va_G) (dA : Nat → ClassId) (b0 : Nat) : ∀ q ∈ tb40 (ztys dA), zOK l D dA b0 40 q.1 q.2 := by
  refine zap (zi_mono _ _) (zi_ok (zg_aload_n (j := 0) (by decide +kernel) rfl)) ?_
  refine zap (zi_mono _ _) (zi_ok (zg_aload_n (j := 1) (by decide +kernel) rfl)) ?_
  refine zap (zget_mono _ _) (zget_ok (index := 117) (C := RC6) (ref := "VectorLanguage$Expression") (T := FC6) (NN := 5) (by decide +kernel) rfl iC6 (by decide +kernel) (zin 336 (by decide +kernel) rfl) rfl) ?_
  refine zap (zi_mono _ _) (zi_ok (zg_aload_n (j := 2) (by decide +kernel) rfl)) ?_
  refine zap (zi_mono _ _) (zi_ok (zg_iload_n (j := 3) (by decide +kernel) rfl)) ?_
  refine zap (zcV_mono _ _ _ _) (zcV_ok znst_st (μ' := 24) (na := 3) (ci := 2) (index := 63) (q := (RC2, FC2, 13)) (by decide +kernel) (by decide +kernel) rfl (zgV (zin 388 (by decide +kernel) rfl) (zin 390 (by decide +kernel) rfl) (zsel 3 (by decide +kernel) rfl) (zin 3 (by decide +kernel) rfl) (zin 391 (by decide +kernel) rfl)) (by decide +kernel) (by decide +kernel)) ?_
  refine zap (zi_mono _ _) (zi_ok (zg_astore (by decide +kernel) (by decide +kernel))) ?_
  refine zap (zi_mono _ _) (zi_ok (zg_aload (by decide +kernel))) ?_
  refine zap (zb_mono _ _) (zb_ok (zb_nonnull (off := 5) (by decide +kernel) (by decide +kernel))) ?_
  refine zap (zi_mono _ _) (zi_ok (zg_null (by decide +kernel))) ?_
  refine zap (zretA_mono) (zretA_ok (by decide +kernel) rfl (Or.inl ⟨_, rfl⟩)) ?_
  refine zap (zi_mono _ _) (zi_ok (zg_aload_n (j := 0) (by decide +kernel) rfl)) ?_
  refine zap (zi_mono _ _) (zi_ok (zg_aload_n (j := 1) (by decide +kernel) rfl)) ?_
  refine zap (zget_mono _ _) (zget_ok (index := 122) (C := RC6) (ref := "VectorLanguage$Expression") (T := FC6) (NN := 5) (by decide +kernel) rfl iC6 (by decide +kernel) (zin 338 (by decide +kernel) rfl) rfl) ?_
  refine zap (zi_mono _ _) (zi_ok (zg_aload_n (j := 2) (by decide +kernel) rfl)) ?_
  refine zap (zi_mono _ _) (zi_ok (zg_iload_n (j := 3) (by decide +kernel) rfl)) ?_
  refine zap (zcV_mono _ _ _ _) (zcV_ok znst_st (μ' := 24) (na := 3) (ci := 2) (index := 63) (q := (RC2, FC2, 13)) (by decide +kernel) (by decide +kernel) rfl (zgV (zin 388 (by decide +kernel) rfl) (zin 390 (by decide +kernel) rfl) (zsel 3 (by decide +kernel) rfl) (zin 3 (by decide +kernel) rfl) (zin 391 (by decide +kernel) rfl)) (by decide +kernel) (by decide +kernel)) ?_
  refine zap (zi_mono _ _) (zi_ok (zg_astore (by decide +kernel) (by decide +kernel))) ?_
  refine zap (zi_mono _ _) (zi_ok (zg_aload (by decide +kernel))) ?_
  refine zap (zb_mono _ _) (zb_ok (zb_nonnull (off := 5) (by decide +kernel) (by decide +kernel))) ?_
  refine zap (zi_mono _ _) (zi_ok (zg_null (by decide +kernel))) ?_
  refine zap (zretA_mono) (zretA_ok (by decide +kernel) rfl (Or.inl ⟨_, rfl⟩)) ?_
  refine zap (zi_mono _ _) (zi_ok (zg_aload (by decide +kernel))) ?_
  refine zap (zinst_mono _ _) (zinst_ok (index := 27) (nm := "VectorLanguage$Vector") (by decide +kernel) (zin 110 (by decide +kernel) rfl) (za ⟨_, rfl, (List.mem_of_getElem? (i := 11) rfl)⟩ (zn)) (za ⟨_, rfl, (List.mem_of_getElem? (i := 22) rfl)⟩ (za ⟨_, rfl, (List.mem_of_getElem? (i := 23) rfl)⟩ (zn)))) ?_
  refine zap (zb_mono _ _) (zb_ok (zb_eq (off := 11) (by decide +kernel) (by decide +kernel))) ?_
  refine zap (zi_mono _ _) (zi_ok (zg_aload (by decide +kernel))) ?_
  refine zap (zinst_mono _ _) (zinst_ok (index := 27) (nm := "VectorLanguage$Vector") (by decide +kernel) (zin 110 (by decide +kernel) rfl) (za ⟨_, rfl, (List.mem_of_getElem? (i := 11) rfl)⟩ (zn)) (za ⟨_, rfl, (List.mem_of_getElem? (i := 22) rfl)⟩ (za ⟨_, rfl, (List.mem_of_getElem? (i := 23) rfl)⟩ (zn)))) ?_
  refine zap (zb_mono _ _) (zb_ok (zb_ne (off := 9) (by decide +kernel) (by decide +kernel))) ?_
  refine zap (zi_mono _ _) (zi_ok (zg_aload_n (j := 0) (by decide +kernel) rfl)) ?_
  refine zap (zi_mono _ _) (zi_ok (zg_iconst (n := 3) (by decide +kernel) (by decide +kernel))) ?_
  refine zap (zcV_mono _ _ _ _) (zcV_ok znst_st (μ' := 25) (na := 1) (ci := 2) (index := 77) (q := (RC2, FC2, 13)) (by decide +kernel) (by decide +kernel) rfl (zgV (zin 392 (by decide +kernel) rfl) (zin 394 (by decide +kernel) rfl) (zsel 4 (by decide +kernel) rfl) (zin 3 (by decide +kernel) rfl) (zin 395 (by decide +kernel) rfl)) (by decide +kernel) (by decide +kernel)) ?_
  refine zap (zretA_mono) (zretA_ok (by decide +kernel) rfl (Or.inl ⟨_, rfl⟩)) ?_
  refine zap (zi_mono _ _) (zi_ok (zg_aload_n (j := 2) (by decide +kernel) rfl)) ?_
  refine zap (zi_mono _ _) (zi_ok (zg_aload_n (j := 1) (by decide +kernel) rfl)) ?_
  refine zap (zget_mono _ _) (zget_ok (index := 114) (C := RC6) (ref := "VectorLanguage$Expression") (T := FC6) (NN := 5) (by decide +kernel) rfl iC6 (by decide +kernel) (zin 334 (by decide +kernel) rfl) rfl) ?_
  refine zap (zcV_mono _ _ _ _) (zcV_ok znst_st (μ' := 27) (na := 1) (ci := 3) (index := 144) (q := (RC3, FC3, 5)) (by decide +kernel) (by decide +kernel) rfl (zgV (zin 400 (by decide +kernel) rfl) (zin 401 (by decide +kernel) rfl) (zin 402 (by decide +kernel) rfl) (zin 4 (by decide +kernel) rfl) (zin 403 (by decide +kernel) rfl)) (by decide +kernel) (by decide +kernel)) ?_
  refine zap (zi_mono _ _) (zi_ok (zg_astore (by decide +kernel) (by decide +kernel))) ?_
  refine zap (zi_mono _ _) (zi_ok (zg_aload (by decide +kernel))) ?_
  refine zap (zb_mono _ _) (zb_ok (zb_nonnull (off := 10) (by decide +kernel) (by decide +kernel))) ?_
  refine zap (zi_mono _ _) (zi_ok (zg_aload_n (j := 0) (by decide +kernel) rfl)) ?_
  refine zap (zget_mono _ _) (zget_ok (index := 32) (C := RC2) (ref := "VectorLanguage$Evaluator") (T := FC2) (NN := 13) (by decide +kernel) rfl iC2 (by decide +kernel) (zin 146 (by decide +kernel) rfl) rfl) ?_
  refine zap (zj_mono _) (zj_ok (off := 10) (by decide +kernel) (by decide +kernel)) ?_
  refine zap (zi_mono _ _) (zi_ok (zg_aload_n (j := 0) (by decide +kernel) rfl)) ?_
  refine zap (zi_mono _ _) (zi_ok (zg_aload (by decide +kernel))) ?_
  refine zap (zi_mono _ _) (zi_ok (zg_iload_n (j := 3) (by decide +kernel) rfl)) ?_
  refine zap (zcV_mono _ _ _ _) (zcV_ok znst_st (μ' := 28) (na := 2) (ci := 2) (index := 148) (q := (RC2, FC2, 13)) (by decide +kernel) (by decide +kernel) rfl (zgV (zin 404 (by decide +kernel) rfl) (zin 406 (by decide +kernel) rfl) (zsel 6 (by decide +kernel) rfl) (zin 3 (by decide +kernel) rfl) (zin 407 (by decide +kernel) rfl)) (by decide +kernel) (by decide +kernel)) ?_
  refine zap (zi_mono _ _) (zi_ok (zg_astore (by decide +kernel) (by decide +kernel))) ?_
  refine zap (zi_mono _ _) (zi_ok (zg_aload (by decide +kernel))) ?_
  refine zap (zb_mono _ _) (zb_ok (zb_nonnull (off := 5) (by decide +kernel) (by decide +kernel))) ?_
  refine zap (zi_mono _ _) (zi_ok (zg_null (by decide +kernel))) ?_
  refine zap (zretA_mono) (zretA_ok (by decide +kernel) rfl (Or.inl ⟨_, rfl⟩)) ?_
  refine zap (zi_mono _ _) (zi_ok (zg_aload (by decide +kernel))) ?_
  refine zap (zinst_mono _ _) (zinst_ok (index := 27) (nm := "VectorLanguage$Vector") (by decide +kernel) (zin 110 (by decide +kernel) rfl) (za ⟨_, rfl, (List.mem_of_getElem? (i := 11) rfl)⟩ (zn)) (za ⟨_, rfl, (List.mem_of_getElem? (i := 22) rfl)⟩ (za ⟨_, rfl, (List.mem_of_getElem? (i := 23) rfl)⟩ (zn)))) ?_
  refine zap (zb_mono _ _) (zb_ok (zb_eq (off := 62) (by decide +kernel) (by decide +kernel))) ?_
  refine zap (zi_mono _ _) (zi_ok (zg_aload (by decide +kernel))) ?_
  refine zap (zcast_mono _) (zcast_ok (index := 27) (nm := "VectorLanguage$Vector") (by decide +kernel) (zin 110 (by decide +kernel) rfl) (za ⟨_, rfl, (List.mem_of_getElem? (i := 11) rfl)⟩ (zn))) ?_
  refine zap (zi_mono _ _) (zi_ok (zg_astore (by decide +kernel) (by decide +kernel))) ?_
  refine zap (zi_mono _ _) (zi_ok (zg_aload (by decide +kernel))) ?_
  refine zap (zinst_mono _ _) (zinst_ok (index := 27) (nm := "VectorLanguage$Vector") (by decide +kernel) (zin 110 (by decide +kernel) rfl) (za ⟨_, rfl, (List.mem_of_getElem? (i := 11) rfl)⟩ (zn)) (za ⟨_, rfl, (List.mem_of_getElem? (i := 22) rfl)⟩ (za ⟨_, rfl, (List.mem_of_getElem? (i := 23) rfl)⟩ (zn)))) ?_
  refine zap (zb_mono _ _) (zb_ok (zb_eq (off := 47) (by decide +kernel) (by decide +kernel))) ?_
  refine zap (zi_mono _ _) (zi_ok (zg_aload (by decide +kernel))) ?_
  refine zap (zcast_mono _) (zcast_ok (index := 27) (nm := "VectorLanguage$Vector") (by decide +kernel) (zin 110 (by decide +kernel) rfl) (za ⟨_, rfl, (List.mem_of_getElem? (i := 11) rfl)⟩ (zn))) ?_
  refine zap (zi_mono _ _) (zi_ok (zg_astore (by decide +kernel) (by decide +kernel))) ?_
  refine zap (zi_mono _ _) (zi_ok (zg_aload (by decide +kernel))) ?_
  refine zap (zinst_mono _ _) (zinst_ok (index := 27) (nm := "VectorLanguage$Vector") (by decide +kernel) (zin 110 (by decide +kernel) rfl) (za ⟨_, rfl, (List.mem_of_getElem? (i := 11) rfl)⟩ (zn)) (za ⟨_, rfl, (List.mem_of_getElem? (i := 22) rfl)⟩ (za ⟨_, rfl, (List.mem_of_getElem? (i := 23) rfl)⟩ (zn)))) ?_
  refine zap (zb_mono _ _) (zb_ok (zb_eq (off := 32) (by decide +kernel) (by decide +kernel))) ?_
  refine zap (zi_mono _ _) (zi_ok (zg_aload (by decide +kernel))) ?_
  refine zap (zcast_mono _) (zcast_ok (index := 27) (nm := "VectorLanguage$Vector") (by decide +kernel) (zin 110 (by decide +kernel) rfl) (za ⟨_, rfl, (List.mem_of_getElem? (i := 11) rfl)⟩ (zn))) ?_
  refine zap (zi_mono _ _) (zi_ok (zg_astore (by decide +kernel) (by decide +kernel))) ?_
  refine zap (zi_mono _ _) (zi_ok (zg_aload_n (j := 0) (by decide +kernel) rfl)) ?_
  refine zap (zi_mono _ _) (zi_ok (zg_aload (by decide +kernel))) ?_
  refine zap (zget_mono _ _) (zget_ok (index := 182) (C := RC5) (ref := "VectorLanguage$Vector") (T := FC5) (NN := 1) (by decide +kernel) rfl iC5 (by decide +kernel) (zin 124 (by decide +kernel) rfl) rfl) ?_
  refine zap (zi_mono _ _) (zi_ok (zg_aload (by decide +kernel))) ?_
  refine zap (zget_mono _ _) (zget_ok (index := 182) (C := RC5) (ref := "VectorLanguage$Vector") (T := FC5) (NN := 1) (by decide +kernel) rfl iC5 (by decide +kernel) (zin 124 (by decide +kernel) rfl) rfl) ?_
  refine zap (zi_mono _ _) (zi_ok (zg_aload (by decide +kernel))) ?_
  refine zap (zi_mono _ _) (zi_ok (zg_aload_n (j := 2) (by decide +kernel) rfl)) ?_
  refine zap (zi_mono _ _) (zi_ok (zg_aload_n (j := 1) (by decide +kernel) rfl)) ?_
  refine zap (zget_mono _ _) (zget_ok (index := 114) (C := RC6) (ref := "VectorLanguage$Expression") (T := FC6) (NN := 5) (by decide +kernel) rfl iC6 (by decide +kernel) (zin 334 (by decide +kernel) rfl) rfl) ?_
  refine zap (zcV_mono _ _ _ _) (zcV_ok znst_st (μ' := 41) (na := 5) (ci := 2) (index := 271) (q := (RC2, FC2, 13)) (by decide +kernel) (by decide +kernel) rfl (zgV (zin 457 (by decide +kernel) rfl) (zin 459 (by decide +kernel) rfl) (zsel 14 (by decide +kernel) rfl) (zin 3 (by decide +kernel) rfl) (zin 460 (by decide +kernel) rfl)) (by decide +kernel) (by decide +kernel)) ?_
  refine zap (zretA_mono) (zretA_ok (by decide +kernel) rfl (Or.inl ⟨_, rfl⟩)) ?_
  refine zap (zi_mono _ _) (zi_ok (zg_aload_n (j := 0) (by decide +kernel) rfl)) ?_
  refine zap (zi_mono _ _) (zi_ok (zg_iconst (n := 3) (by decide +kernel) (by decide +kernel))) ?_
  refine zap (zcV_mono _ _ _ _) (zcV_ok znst_st (μ' := 25) (na := 1) (ci := 2) (index := 77) (q := (RC2, FC2, 13)) (by decide +kernel) (by decide +kernel) rfl (zgV (zin 392 (by decide +kernel) rfl) (zin 394 (by decide +kernel) rfl) (zsel 4 (by decide +kernel) rfl) (zin 3 (by decide +kernel) rfl) (zin 395 (by decide +kernel) rfl)) (by decide +kernel) (by decide +kernel)) ?_
  refine zap (zretA_mono) (zretA_ok (by decide +kernel) rfl (Or.inl ⟨_, rfl⟩)) ?_
  exact zn
/-- VectorLanguage$Evaluator.store([I[ILVectorLanguage$Vector;LVectorLanguage$Environment;I)LVectorLanguage$Vector; -/
def tb41 (tys : List (ClassId × FieldType)) : List (Nat × (zP → zP)) := [(0, zi (gAl 0) 1), (1, zget 2 8), (4, zi (gAl 2) 1), (5, zi (gAl 1) 1), (6, zalen tys), (7, zi (gC (.int (0))) 1), (8, zcV 4 42 3 4), (11, zb (c1 (fun x => ¬ x = 0)) 21), (14, zi (gAl 0) 1), (15, zi (gC (.int (8))) 2), (17, zcV 2 25 1 2), (20, zretA), (21, zi (gAl 0) 1), (22, zget 2 8), (25, zget 4 1), (28, zb (c1 (fun x => ¬ x = 0)) 33), (31, zi (gAl 3) 1), (32, zretA), (33, zi (gAl 3) 1), (34, zget 5 0), (37, zalen tys), (38, zb (c1 (fun x => ¬ x = 0)) 47), (41, zi (gAl 0) 1), (42, zi (gC (.int (5))) 1), (43, zcV 2 25 1 2), (46, zretA), (47, zi (gAl 1) 1), (48, zalen tys), (49, zi (gAl 0) 1), (50, zget 2 8), (53, zcV 3 46 0 4), (56, zcS 2 47 2), (59, zi (gIs 6) 2), (61, zi (gIl 6) 2), (63, zi (gC (.int (16))) 2), (65, zb (c2 (fun x y => x ≤ y)) 74), (68, zi (gAl 0) 1), (69, zi (gC (.int (1))) 1), (70, zcV 2 25 1 2), (73, zretA), (74, zi (gAl 4) 2), (76, zget 3 0), (79, zi (gIl 5) 2), (81, znew 5 1 dC5), (84, zi (gDup) 1), (85, zi (gAl 0) 1), (86, zi (gAl 1) 1), (87, zi (gIl 6) 2), (89, zi (gAl 3) 1), (90, zget 5 0), (93, zcV 6 48 3 2), (96, zcI 2 5 1), (99, zaast tys "VectorLanguage$Held" [5, 7, 8]), (100, zi (gAl 3) 1), (101, zretA)]
set_option maxRecDepth 100000 in
theorem ok41 (l : Launch) (D : va_G) (dA : Nat → ClassId) (b0 : Nat) : ∀ q ∈ tb41 (ztys dA), zOK l D dA b0 41 q.1 q.2 := by
  refine zap (zi_mono _ _) (zi_ok (zg_aload_n (j := 0) (by decide +kernel) rfl)) ?_
  refine zap (zget_mono _ _) (zget_ok (index := 23) (C := RC2) (ref := "VectorLanguage$Evaluator") (T := FC2) (NN := 13) (by decide +kernel) rfl iC2 (by decide +kernel) (zin 145 (by decide +kernel) rfl) rfl) ?_
  refine zap (zi_mono _ _) (zi_ok (zg_aload_n (j := 2) (by decide +kernel) rfl)) ?_
  refine zap (zi_mono _ _) (zi_ok (zg_aload_n (j := 1) (by decide +kernel) rfl)) ?_
  refine zap (zalen_mono _) (zalen_ok (by decide +kernel)) ?_
  refine zap (zi_mono _ _) (zi_ok (zg_iconst (n := 0) (by decide +kernel) (by decide +kernel))) ?_
  refine zap (zcV_mono _ _ _ _) (zcV_ok znst_st (μ' := 42) (na := 3) (ci := 4) (index := 261) (q := (RC4, FC4, 5)) (by decide +kernel) (by decide +kernel) rfl (zgV (zin 461 (by decide +kernel) rfl) (zin 462 (by decide +kernel) rfl) (zin 463 (by decide +kernel) rfl) (zin 5 (by decide +kernel) rfl) (zin 464 (by decide +kernel) rfl)) (by decide +kernel) (by decide +kernel)) ?_
  refine zap (zb_mono _ _) (zb_ok (zb_ne (off := 10) (by decide +kernel) (by decide +kernel))) ?_
  refine zap (zi_mono _ _) (zi_ok (zg_aload_n (j := 0) (by decide +kernel) rfl)) ?_
  refine zap (zi_mono _ _) (zi_ok (zg_bipush (n := 8) (by decide +kernel) (by decide +kernel))) ?_
  refine zap (zcV_mono _ _ _ _) (zcV_ok znst_st (μ' := 25) (na := 1) (ci := 2) (index := 77) (q := (RC2, FC2, 13)) (by decide +kernel) (by decide +kernel) rfl (zgV (zin 392 (by decide +kernel) rfl) (zin 394 (by decide +kernel) rfl) (zsel 4 (by decide +kernel) rfl) (zin 3 (by decide +kernel) rfl) (zin 395 (by decide +kernel) rfl)) (by decide +kernel) (by decide +kernel)) ?_
  refine zap (zretA_mono) (zretA_ok (by decide +kernel) rfl (Or.inl ⟨_, rfl⟩)) ?_
  refine zap (zi_mono _ _) (zi_ok (zg_aload_n (j := 0) (by decide +kernel) rfl)) ?_
  refine zap (zget_mono _ _) (zget_ok (index := 23) (C := RC2) (ref := "VectorLanguage$Evaluator") (T := FC2) (NN := 13) (by decide +kernel) rfl iC2 (by decide +kernel) (zin 145 (by decide +kernel) rfl) rfl) ?_
  refine zap (zget_mono _ _) (zget_ok (index := 265) (C := RC4) (ref := "VectorLanguage$Places") (T := FC4) (NN := 5) (by decide +kernel) rfl iC4 (by decide +kernel) (zin 94 (by decide +kernel) rfl) rfl) ?_
  refine zap (zb_mono _ _) (zb_ok (zb_ne (off := 5) (by decide +kernel) (by decide +kernel))) ?_
  refine zap (zi_mono _ _) (zi_ok (zg_aload_n (j := 3) (by decide +kernel) rfl)) ?_
  refine zap (zretA_mono) (zretA_ok (by decide +kernel) rfl (Or.inl ⟨_, rfl⟩)) ?_
  refine zap (zi_mono _ _) (zi_ok (zg_aload_n (j := 3) (by decide +kernel) rfl)) ?_
  refine zap (zget_mono _ _) (zget_ok (index := 182) (C := RC5) (ref := "VectorLanguage$Vector") (T := FC5) (NN := 1) (by decide +kernel) rfl iC5 (by decide +kernel) (zin 124 (by decide +kernel) rfl) rfl) ?_
  refine zap (zalen_mono _) (zalen_ok (by decide +kernel)) ?_
  refine zap (zb_mono _ _) (zb_ok (zb_ne (off := 9) (by decide +kernel) (by decide +kernel))) ?_
  refine zap (zi_mono _ _) (zi_ok (zg_aload_n (j := 0) (by decide +kernel) rfl)) ?_
  refine zap (zi_mono _ _) (zi_ok (zg_iconst (n := 5) (by decide +kernel) (by decide +kernel))) ?_
  refine zap (zcV_mono _ _ _ _) (zcV_ok znst_st (μ' := 25) (na := 1) (ci := 2) (index := 77) (q := (RC2, FC2, 13)) (by decide +kernel) (by decide +kernel) rfl (zgV (zin 392 (by decide +kernel) rfl) (zin 394 (by decide +kernel) rfl) (zsel 4 (by decide +kernel) rfl) (zin 3 (by decide +kernel) rfl) (zin 395 (by decide +kernel) rfl)) (by decide +kernel) (by decide +kernel)) ?_
  refine zap (zretA_mono) (zretA_ok (by decide +kernel) rfl (Or.inl ⟨_, rfl⟩)) ?_
  refine zap (zi_mono _ _) (zi_ok (zg_aload_n (j := 1) (by decide +kernel) rfl)) ?_
  refine zap (zalen_mono _) (zalen_ok (by decide +kernel)) ?_
  refine zap (zi_mono _ _) (zi_ok (zg_aload_n (j := 0) (by decide +kernel) rfl)) ?_
  refine zap (zget_mono _ _) (zget_ok (index := 23) (C := RC2) (ref := "VectorLanguage$Evaluator") (T := FC2) (NN := 13) (by decide +kernel) rfl iC2 (by decide +kernel) (zin 145 (by decide +kernel) rfl) rfl) ?_
  refine zap (zcV_mono _ _ _ _) (zcV_ok znst_st (μ' := 46) (na := 0) (ci := 4) (index := 275) (q := (RC4, FC4, 5)) (by decide +kernel) (by decide +kernel) rfl (zgV (zin 478 (by decide +kernel) rfl) (zin 479 (by decide +kernel) rfl) (zin 480 (by decide +kernel) rfl) (zin 5 (by decide +kernel) rfl) (zin 481 (by decide +kernel) rfl)) (by decide +kernel) (by decide +kernel)) ?_
  refine zap (zcS_mono _ _ _) (zcS_ok znst_st (μ' := 47) (na := 2) (index := 236) (by decide +kernel) (by decide +kernel) (zgS (zin 485 (by decide +kernel) rfl) (zin 483 (by decide +kernel) rfl) (zin 18 (by decide +kernel) rfl) (zin 484 (by decide +kernel) rfl)) (by decide +kernel) (by decide +kernel)) ?_
  refine zap (zi_mono _ _) (zi_ok (zg_istore (by decide +kernel) (by decide +kernel))) ?_
  refine zap (zi_mono _ _) (zi_ok (zg_iload (by decide +kernel))) ?_
  refine zap (zi_mono _ _) (zi_ok (zg_bipush (n := 16) (by decide +kernel) (by decide +kernel))) ?_
  refine zap (zb_mono _ _) (zb_ok (zb_ile (off := 9) (by decide +kernel) (by decide +kernel))) ?_
  refine zap (zi_mono _ _) (zi_ok (zg_aload_n (j := 0) (by decide +kernel) rfl)) ?_
  refine zap (zi_mono _ _) (zi_ok (zg_iconst (n := 1) (by decide +kernel) (by decide +kernel))) ?_
  refine zap (zcV_mono _ _ _ _) (zcV_ok znst_st (μ' := 25) (na := 1) (ci := 2) (index := 77) (q := (RC2, FC2, 13)) (by decide +kernel) (by decide +kernel) rfl (zgV (zin 392 (by decide +kernel) rfl) (zin 394 (by decide +kernel) rfl) (zsel 4 (by decide +kernel) rfl) (zin 3 (by decide +kernel) rfl) (zin 395 (by decide +kernel) rfl)) (by decide +kernel) (by decide +kernel)) ?_
  refine zap (zretA_mono) (zretA_ok (by decide +kernel) rfl (Or.inl ⟨_, rfl⟩)) ?_
  refine zap (zi_mono _ _) (zi_ok (zg_aload (by decide +kernel))) ?_
  refine zap (zget_mono _ _) (zget_ok (index := 178) (C := RC3) (ref := "VectorLanguage$Environment") (T := FC3) (NN := 5) (by decide +kernel) rfl iC3 (by decide +kernel) (zin 67 (by decide +kernel) rfl) rfl) ?_
  refine zap (zi_mono _ _) (zi_ok (zg_iload (by decide +kernel))) ?_
  refine zap (znew_mono _ _ _) (znew_ok (index := 27) (C := RC5) (T := FC5) tC5 (by decide +kernel) rfl iC5 tC5_ok (zin 110 (by decide +kernel) rfl) (zin 111 (by decide +kernel) rfl) (zin 8 (by decide +kernel) rfl) dC5_ok) ?_
  refine zap (zi_mono _ _) (zi_ok (zg_dup (by decide +kernel))) ?_
  refine zap (zi_mono _ _) (zi_ok (zg_aload_n (j := 0) (by decide +kernel) rfl)) ?_
  refine zap (zi_mono _ _) (zi_ok (zg_aload_n (j := 1) (by decide +kernel) rfl)) ?_
  refine zap (zi_mono _ _) (zi_ok (zg_iload (by decide +kernel))) ?_
  refine zap (zi_mono _ _) (zi_ok (zg_aload_n (j := 3) (by decide +kernel) rfl)) ?_
  refine zap (zget_mono _ _) (zget_ok (index := 182) (C := RC5) (ref := "VectorLanguage$Vector") (T := FC5) (NN := 1) (by decide +kernel) rfl iC5 (by decide +kernel) (zin 124 (by decide +kernel) rfl) rfl) ?_
  refine zap (zcV_mono _ _ _ _) (zcV_ok znst_st (μ' := 48) (na := 3) (ci := 2) (index := 279) (q := (RC2, FC2, 13)) (by decide +kernel) (by decide +kernel) rfl (zgV (zin 486 (by decide +kernel) rfl) (zin 488 (by decide +kernel) rfl) (zsel 18 (by decide +kernel) rfl) (zin 3 (by decide +kernel) rfl) (zin 489 (by decide +kernel) rfl)) (by decide +kernel) (by decide +kernel)) ?_
  refine zap (zcI_mono _ _ _) (zcI_ok znst_st (μ' := 5) (na := 1) (index := 29) (by decide +kernel) (by decide +kernel) rfl rfl (zgI (zin 114 (by decide +kernel) rfl)) (zin 8 (by decide +kernel) rfl) (zin 112 (by decide +kernel) rfl) (zin 113 (by decide +kernel) rfl) (by decide +kernel) (by decide +kernel)) ?_
  refine zap (zaast_mono _ _ _) (zaast_ok (by decide +kernel) (za ⟨_, rfl, Or.inr (List.mem_of_getElem? (i := 15) rfl)⟩ (za ⟨_, rfl, Or.inr (List.mem_of_getElem? (i := 14) rfl)⟩ (za ⟨_, rfl, Or.inr (List.mem_of_getElem? (i := 13) rfl)⟩ zn)))) ?_
  refine zap (zi_mono _ _) (zi_ok (zg_aload_n (j := 3) (by decide +kernel) rfl)) ?_
  refine zap (zretA_mono) (zretA_ok (by decide +kernel) rfl (Or.inl ⟨_, rfl⟩)) ?_
  exact zn
/-- VectorLanguage$Places.find([IIZ)Z -/
def tb42 (_ : List (ClassId × FieldType)) : List (Nat × (zP → zP)) := [(0, zi (gAl 0) 1), (1, zi (gC (.int (0))) 1), (2, zput (.int) 4 1), (5, zi (gAl 0) 1), (6, zi (gAl 1) 1), (7, zcV 6 43 1 4), (10, zi (gAl 0) 1), (11, zget 4 4), (14, zb (c1 (fun x => x = 0)) 23), (17, zi (gIl 3) 1), (18, zb (c1 (fun x => ¬ x = 0)) 23), (21, zi (gC (.int (0))) 1), (22, zretZ), (23, zi (gAl 0) 1), (24, zget 4 2), (27, zb (c1 (fun x => ¬ x = 0)) 37), (30, zi (gAl 0) 1), (31, zi (gAl 1) 1), (32, zcV 3 44 1 4), (35, zi (gC (.int (1))) 1), (36, zretZ), (37, zi (gAl 0) 1), (38, zget 4 3), (41, zb (c1 (fun x => ¬ x = 0)) 51), (44, zi (gAl 0) 1), (45, zget 4 4), (48, zb (c1 (fun x => x = 0)) 53), (51, zi (gC (.int (0))) 1), (52, zretZ), (53, zi (gAl 0) 1), (54, zi (gAl 1) 1), (55, zi (gIl 2) 1), (56, zcV 9 45 2 4), (59, zi (gC (.int (1))) 1), (60, zretZ)]
set_option maxRecDepth 100000 in
theorem ok42 (l : Launch) (D : va_G) (dA : Nat → ClassId) (b0 : Nat) : ∀ q ∈ tb42 (ztys dA), zOK l D dA b0 42 q.1 q.2 := by
  refine zap (zi_mono _ _) (zi_ok (zg_aload_n (j := 0) (by decide +kernel) rfl)) ?_
  refine zap (zi_mono _ _) (zi_ok (zg_iconst (n := 0) (by decide +kernel) (by decide +kernel))) ?_
  refine zap (zput_mono _ _ _) (zput_ok (index := 15) (C := RC4) (ref := "VectorLanguage$Places") (T := FC4) (NN := 5) tC4 (by decide +kernel) rfl iC4 tC4_ok nC4 (by decide +kernel) (zin 93 (by decide +kernel) rfl) rfl (Or.inl rfl) rfl) ?_
  refine zap (zi_mono _ _) (zi_ok (zg_aload_n (j := 0) (by decide +kernel) rfl)) ?_
  refine zap (zi_mono _ _) (zi_ok (zg_aload_n (j := 1) (by decide +kernel) rfl)) ?_
  refine zap (zcV_mono _ _ _ _) (zcV_ok znst_st (μ' := 43) (na := 1) (ci := 4) (index := 19) (q := (RC4, FC4, 5)) (by decide +kernel) (by decide +kernel) rfl (zgV (zin 465 (by decide +kernel) rfl) (zin 467 (by decide +kernel) rfl) (zsel 15 (by decide +kernel) rfl) (zin 5 (by decide +kernel) rfl) (zin 468 (by decide +kernel) rfl)) (by decide +kernel) (by decide +kernel)) ?_
  refine zap (zi_mono _ _) (zi_ok (zg_aload_n (j := 0) (by decide +kernel) rfl)) ?_
  refine zap (zget_mono _ _) (zget_ok (index := 23) (C := RC4) (ref := "VectorLanguage$Places") (T := FC4) (NN := 5) (by decide +kernel) rfl iC4 (by decide +kernel) (zin 97 (by decide +kernel) rfl) rfl) ?_
  refine zap (zb_mono _ _) (zb_ok (zb_eq (off := 9) (by decide +kernel) (by decide +kernel))) ?_
  refine zap (zi_mono _ _) (zi_ok (zg_iload_n (j := 3) (by decide +kernel) rfl)) ?_
  refine zap (zb_mono _ _) (zb_ok (zb_ne (off := 5) (by decide +kernel) (by decide +kernel))) ?_
  refine zap (zi_mono _ _) (zi_ok (zg_iconst (n := 0) (by decide +kernel) (by decide +kernel))) ?_
  refine zap (zretZ_mono) (zretZ_ok (by decide +kernel) rfl) ?_
  refine zap (zi_mono _ _) (zi_ok (zg_aload_n (j := 0) (by decide +kernel) rfl)) ?_
  refine zap (zget_mono _ _) (zget_ok (index := 27) (C := RC4) (ref := "VectorLanguage$Places") (T := FC4) (NN := 5) (by decide +kernel) rfl iC4 (by decide +kernel) (zin 95 (by decide +kernel) rfl) rfl) ?_
  refine zap (zb_mono _ _) (zb_ok (zb_ne (off := 10) (by decide +kernel) (by decide +kernel))) ?_
  refine zap (zi_mono _ _) (zi_ok (zg_aload_n (j := 0) (by decide +kernel) rfl)) ?_
  refine zap (zi_mono _ _) (zi_ok (zg_aload_n (j := 1) (by decide +kernel) rfl)) ?_
  refine zap (zcV_mono _ _ _ _) (zcV_ok znst_st (μ' := 44) (na := 1) (ci := 4) (index := 30) (q := (RC4, FC4, 5)) (by decide +kernel) (by decide +kernel) rfl (zgV (zin 470 (by decide +kernel) rfl) (zin 472 (by decide +kernel) rfl) (zsel 16 (by decide +kernel) rfl) (zin 5 (by decide +kernel) rfl) (zin 473 (by decide +kernel) rfl)) (by decide +kernel) (by decide +kernel)) ?_
  refine zap (zi_mono _ _) (zi_ok (zg_iconst (n := 1) (by decide +kernel) (by decide +kernel))) ?_
  refine zap (zretZ_mono) (zretZ_ok (by decide +kernel) rfl) ?_
  refine zap (zi_mono _ _) (zi_ok (zg_aload_n (j := 0) (by decide +kernel) rfl)) ?_
  refine zap (zget_mono _ _) (zget_ok (index := 33) (C := RC4) (ref := "VectorLanguage$Places") (T := FC4) (NN := 5) (by decide +kernel) rfl iC4 (by decide +kernel) (zin 96 (by decide +kernel) rfl) rfl) ?_
  refine zap (zb_mono _ _) (zb_ok (zb_ne (off := 10) (by decide +kernel) (by decide +kernel))) ?_
  refine zap (zi_mono _ _) (zi_ok (zg_aload_n (j := 0) (by decide +kernel) rfl)) ?_
  refine zap (zget_mono _ _) (zget_ok (index := 23) (C := RC4) (ref := "VectorLanguage$Places") (T := FC4) (NN := 5) (by decide +kernel) rfl iC4 (by decide +kernel) (zin 97 (by decide +kernel) rfl) rfl) ?_
  refine zap (zb_mono _ _) (zb_ok (zb_eq (off := 5) (by decide +kernel) (by decide +kernel))) ?_
  refine zap (zi_mono _ _) (zi_ok (zg_iconst (n := 0) (by decide +kernel) (by decide +kernel))) ?_
  refine zap (zretZ_mono) (zretZ_ok (by decide +kernel) rfl) ?_
  refine zap (zi_mono _ _) (zi_ok (zg_aload_n (j := 0) (by decide +kernel) rfl)) ?_
  refine zap (zi_mono _ _) (zi_ok (zg_aload_n (j := 1) (by decide +kernel) rfl)) ?_
  refine zap (zi_mono _ _) (zi_ok (zg_iload_n (j := 2) (by decide +kernel) rfl)) ?_
  refine zap (zcV_mono _ _ _ _) (zcV_ok znst_st (μ' := 45) (na := 2) (ci := 4) (index := 36) (q := (RC4, FC4, 5)) (by decide +kernel) (by decide +kernel) rfl (zgV (zin 474 (by decide +kernel) rfl) (zin 476 (by decide +kernel) rfl) (zsel 17 (by decide +kernel) rfl) (zin 5 (by decide +kernel) rfl) (zin 477 (by decide +kernel) rfl)) (by decide +kernel) (by decide +kernel)) ?_
  refine zap (zi_mono _ _) (zi_ok (zg_iconst (n := 1) (by decide +kernel) (by decide +kernel))) ?_
  refine zap (zretZ_mono) (zretZ_ok (by decide +kernel) rfl) ?_
  exact zn
/-- VectorLanguage$Places.survey([I)V -/
def tb43 (tys : List (ClassId × FieldType)) : List (Nat × (zP → zP)) := [(0, zi (gAl 0) 1), (1, zi (gC (.int (0))) 1), (2, zput (.boolean) 4 2), (5, zi (gAl 0) 1), (6, zi (gC (.int (0))) 1), (7, zput (.boolean) 4 3), (10, zi (gAl 0) 1), (11, zi (gC (.int (0))) 1), (12, zput (.boolean) 4 4), (15, zi (gAl 1) 1), (16, zi (gAs 2) 1), (17, zi (gAl 2) 1), (18, zalen tys), (19, zi (gIs 3) 1), (20, zi (gC (.int (0))) 1), (21, zi (gIs 4) 2), (23, zi (gIl 4) 2), (25, zi (gIl 3) 1), (26, zb (c2 (fun x y => y ≤ x)) 79), (29, zi (gAl 2) 1), (30, zi (gIl 4) 2), (32, ziald tys), (33, zi (gIs 5) 2), (35, zi (gIl 5) 2), (37, zi (gC (.int (-2147483648))) 2), (39, zb (c2 (fun x y => ¬ x = y)) 50), (42, zi (gAl 0) 1), (43, zi (gC (.int (1))) 1), (44, zput (.boolean) 4 4), (47, zj 73), (50, zi (gIl 5) 2), (52, zb (c1 (fun x => 0 ≤ x)) 63), (55, zi (gAl 0) 1), (56, zi (gC (.int (1))) 1), (57, zput (.boolean) 4 2), (60, zj 73), (63, zi (gIl 5) 2), (65, zb (c1 (fun x => x ≤ 0)) 73), (68, zi (gAl 0) 1), (69, zi (gC (.int (1))) 1), (70, zput (.boolean) 4 3), (73, zi (gIinc 4 (1)) 3), (76, zj 23), (79, zretV)]
set_option maxRecDepth 100000 in
theorem ok43 (l : Launch) (D : va_G) (dA : Nat → ClassId) (b0 : Nat) : ∀ q ∈ tb43 (ztys dA), zOK l D dA b0 43 q.1 q.2 := by
  refine zap (zi_mono _ _) (zi_ok (zg_aload_n (j := 0) (by decide +kernel) rfl)) ?_
  refine zap (zi_mono _ _) (zi_ok (zg_iconst (n := 0) (by decide +kernel) (by decide +kernel))) ?_
  refine zap (zput_mono _ _ _) (zput_ok (index := 27) (C := RC4) (ref := "VectorLanguage$Places") (T := FC4) (NN := 5) tC4 (by decide +kernel) rfl iC4 tC4_ok nC4 (by decide +kernel) (zin 95 (by decide +kernel) rfl) rfl (Or.inl rfl) rfl) ?_
  refine zap (zi_mono _ _) (zi_ok (zg_aload_n (j := 0) (by decide +kernel) rfl)) ?_
  refine zap (zi_mono _ _) (zi_ok (zg_iconst (n := 0) (by decide +kernel) (by decide +kernel))) ?_
  refine zap (zput_mono _ _ _) (zput_ok (index := 33) (C := RC4) (ref := "VectorLanguage$Places") (T := FC4) (NN := 5) tC4 (by decide +kernel) rfl iC4 tC4_ok nC4 (by decide +kernel) (zin 96 (by decide +kernel) rfl) rfl (Or.inl rfl) rfl) ?_
  refine zap (zi_mono _ _) (zi_ok (zg_aload_n (j := 0) (by decide +kernel) rfl)) ?_
  refine zap (zi_mono _ _) (zi_ok (zg_iconst (n := 0) (by decide +kernel) (by decide +kernel))) ?_
  refine zap (zput_mono _ _ _) (zput_ok (index := 23) (C := RC4) (ref := "VectorLanguage$Places") (T := FC4) (NN := 5) tC4 (by decide +kernel) rfl iC4 tC4_ok nC4 (by decide +kernel) (zin 97 (by decide +kernel) rfl) rfl (Or.inl rfl) rfl) ?_
  refine zap (zi_mono _ _) (zi_ok (zg_aload_n (j := 1) (by decide +kernel) rfl)) ?_
  refine zap (zi_mono _ _) (zi_ok (zg_astore_n (j := 2) (by decide +kernel) rfl (by decide +kernel))) ?_
  refine zap (zi_mono _ _) (zi_ok (zg_aload_n (j := 2) (by decide +kernel) rfl)) ?_
  refine zap (zalen_mono _) (zalen_ok (by decide +kernel)) ?_
  refine zap (zi_mono _ _) (zi_ok (zg_istore_n (j := 3) (by decide +kernel) rfl (by decide +kernel))) ?_
  refine zap (zi_mono _ _) (zi_ok (zg_iconst (n := 0) (by decide +kernel) (by decide +kernel))) ?_
  refine zap (zi_mono _ _) (zi_ok (zg_istore (by decide +kernel) (by decide +kernel))) ?_
  refine zap (zi_mono _ _) (zi_ok (zg_iload (by decide +kernel))) ?_
  refine zap (zi_mono _ _) (zi_ok (zg_iload_n (j := 3) (by decide +kernel) rfl)) ?_
  refine zap (zb_mono _ _) (zb_ok (zb_ige (off := 53) (by decide +kernel) (by decide +kernel))) ?_
  refine zap (zi_mono _ _) (zi_ok (zg_aload_n (j := 2) (by decide +kernel) rfl)) ?_
  refine zap (zi_mono _ _) (zi_ok (zg_iload (by decide +kernel))) ?_
  refine zap (ziald_mono _) (ziald_ok (by decide +kernel)) ?_
  refine zap (zi_mono _ _) (zi_ok (zg_istore (by decide +kernel) (by decide +kernel))) ?_
  refine zap (zi_mono _ _) (zi_ok (zg_iload (by decide +kernel))) ?_
  refine zap (zi_mono _ _) (zi_ok (zg_ldc (index := 46) (by decide +kernel) (zin 469 (by decide +kernel) rfl))) ?_
  refine zap (zb_mono _ _) (zb_ok (zb_ine (off := 11) (by decide +kernel) (by decide +kernel))) ?_
  refine zap (zi_mono _ _) (zi_ok (zg_aload_n (j := 0) (by decide +kernel) rfl)) ?_
  refine zap (zi_mono _ _) (zi_ok (zg_iconst (n := 1) (by decide +kernel) (by decide +kernel))) ?_
  refine zap (zput_mono _ _ _) (zput_ok (index := 23) (C := RC4) (ref := "VectorLanguage$Places") (T := FC4) (NN := 5) tC4 (by decide +kernel) rfl iC4 tC4_ok nC4 (by decide +kernel) (zin 97 (by decide +kernel) rfl) rfl (Or.inl rfl) rfl) ?_
  refine zap (zj_mono _) (zj_ok (off := 26) (by decide +kernel) (by decide +kernel)) ?_
  refine zap (zi_mono _ _) (zi_ok (zg_iload (by decide +kernel))) ?_
  refine zap (zb_mono _ _) (zb_ok (zb_ge (off := 11) (by decide +kernel) (by decide +kernel))) ?_
  refine zap (zi_mono _ _) (zi_ok (zg_aload_n (j := 0) (by decide +kernel) rfl)) ?_
  refine zap (zi_mono _ _) (zi_ok (zg_iconst (n := 1) (by decide +kernel) (by decide +kernel))) ?_
  refine zap (zput_mono _ _ _) (zput_ok (index := 27) (C := RC4) (ref := "VectorLanguage$Places") (T := FC4) (NN := 5) tC4 (by decide +kernel) rfl iC4 tC4_ok nC4 (by decide +kernel) (zin 95 (by decide +kernel) rfl) rfl (Or.inl rfl) rfl) ?_
  refine zap (zj_mono _) (zj_ok (off := 13) (by decide +kernel) (by decide +kernel)) ?_
  refine zap (zi_mono _ _) (zi_ok (zg_iload (by decide +kernel))) ?_
  refine zap (zb_mono _ _) (zb_ok (zb_le (off := 8) (by decide +kernel) (by decide +kernel))) ?_
  refine zap (zi_mono _ _) (zi_ok (zg_aload_n (j := 0) (by decide +kernel) rfl)) ?_
  refine zap (zi_mono _ _) (zi_ok (zg_iconst (n := 1) (by decide +kernel) (by decide +kernel))) ?_
  refine zap (zput_mono _ _ _) (zput_ok (index := 33) (C := RC4) (ref := "VectorLanguage$Places") (T := FC4) (NN := 5) tC4 (by decide +kernel) rfl iC4 tC4_ok nC4 (by decide +kernel) (zin 96 (by decide +kernel) rfl) rfl (Or.inl rfl) rfl) ?_
  refine zap (zi_mono _ _) (zi_ok (zg_iinc (n := 1) (by decide +kernel) (by decide +kernel) (by decide +kernel))) ?_
  refine zap (zj_mono _) (zj_ok (off := -53) (by decide +kernel) (by decide +kernel)) ?_
  refine zap (zretV_mono) (zretV_ok (by decide +kernel) rfl) ?_
  exact zn
/-- VectorLanguage$Places.addThose([I)V -/
def tb44 (tys : List (ClassId × FieldType)) : List (Nat × (zP → zP)) := [(0, zi (gC (.int (0))) 1), (1, zi (gIs 2) 1), (2, zi (gIl 2) 1), (3, zi (gAl 1) 1), (4, zalen tys), (5, zb (c2 (fun x y => y ≤ x)) 66), (8, zi (gAl 0) 1), (9, zget 4 1), (12, zi (gC (.int (16))) 2), (14, zb (c2 (fun x y => y ≤ x)) 66), (17, zi (gAl 1) 1), (18, zi (gIl 2) 1), (19, ziald tys), (20, zb (c1 (fun x => x = 0)) 60), (23, zi (gAl 0) 1), (24, zget 4 0), (27, zi (gAl 0) 1), (28, zget 4 1), (31, zi (gAl 1) 1), (32, zi (gIl 2) 1), (33, ziald tys), (34, zi (gC (.int (-2147483648))) 2), (36, zb (c2 (fun x y => ¬ x = y)) 44), (39, zi (gC (.int (-2147483648))) 2), (41, zj 49), (44, zi (gAl 1) 1), (45, zi (gIl 2) 1), (46, ziald tys), (47, zi (gC (.int (1))) 1), (48, zi (gII (fun x y => x - y)) 1), (49, ziast tys), (50, zi (gAl 0) 1), (51, zi (gDup) 1), (52, zget 4 1), (55, zi (gC (.int (1))) 1), (56, zi (gII (fun x y => x + y)) 1), (57, zput (.int) 4 1), (60, zi (gIinc 2 (1)) 3), (63, zj 2), (66, zretV)]
set_option maxRecDepth 100000 in
theorem ok44 (l : Launch) (D : va_G) (dA : Nat → ClassId) (b0 : Nat) : ∀ q ∈ tb44 (ztys dA), zOK l D dA b0 44 q.1 q.2 := by
  refine zap (zi_mono _ _) (zi_ok (zg_iconst (n := 0) (by decide +kernel) (by decide +kernel))) ?_
  refine zap (zi_mono _ _) (zi_ok (zg_istore_n (j := 2) (by decide +kernel) rfl (by decide +kernel))) ?_
  refine zap (zi_mono _ _) (zi_ok (zg_iload_n (j := 2) (by decide +kernel) rfl)) ?_
  refine zap (zi_mono _ _) (zi_ok (zg_aload_n (j := 1) (by decide +kernel) rfl)) ?_
  refine zap (zalen_mono _) (zalen_ok (by decide +kernel)) ?_
  refine zap (zb_mono _ _) (zb_ok (zb_ige (off := 61) (by decide +kernel) (by decide +kernel))) ?_
  refine zap (zi_mono _ _) (zi_ok (zg_aload_n (j := 0) (by decide +kernel) rfl)) ?_
  refine zap (zget_mono _ _) (zget_ok (index := 15) (C := RC4) (ref := "VectorLanguage$Places") (T := FC4) (NN := 5) (by decide +kernel) rfl iC4 (by decide +kernel) (zin 93 (by decide +kernel) rfl) rfl) ?_
  refine zap (zi_mono _ _) (zi_ok (zg_bipush (n := 16) (by decide +kernel) (by decide +kernel))) ?_
  refine zap (zb_mono _ _) (zb_ok (zb_ige (off := 52) (by decide +kernel) (by decide +kernel))) ?_
  refine zap (zi_mono _ _) (zi_ok (zg_aload_n (j := 1) (by decide +kernel) rfl)) ?_
  refine zap (zi_mono _ _) (zi_ok (zg_iload_n (j := 2) (by decide +kernel) rfl)) ?_
  refine zap (ziald_mono _) (ziald_ok (by decide +kernel)) ?_
  refine zap (zb_mono _ _) (zb_ok (zb_eq (off := 40) (by decide +kernel) (by decide +kernel))) ?_
  refine zap (zi_mono _ _) (zi_ok (zg_aload_n (j := 0) (by decide +kernel) rfl)) ?_
  refine zap (zget_mono _ _) (zget_ok (index := 9) (C := RC4) (ref := "VectorLanguage$Places") (T := FC4) (NN := 5) (by decide +kernel) rfl iC4 (by decide +kernel) (zin 91 (by decide +kernel) rfl) rfl) ?_
  refine zap (zi_mono _ _) (zi_ok (zg_aload_n (j := 0) (by decide +kernel) rfl)) ?_
  refine zap (zget_mono _ _) (zget_ok (index := 15) (C := RC4) (ref := "VectorLanguage$Places") (T := FC4) (NN := 5) (by decide +kernel) rfl iC4 (by decide +kernel) (zin 93 (by decide +kernel) rfl) rfl) ?_
  refine zap (zi_mono _ _) (zi_ok (zg_aload_n (j := 1) (by decide +kernel) rfl)) ?_
  refine zap (zi_mono _ _) (zi_ok (zg_iload_n (j := 2) (by decide +kernel) rfl)) ?_
  refine zap (ziald_mono _) (ziald_ok (by decide +kernel)) ?_
  refine zap (zi_mono _ _) (zi_ok (zg_ldc (index := 46) (by decide +kernel) (zin 469 (by decide +kernel) rfl))) ?_
  refine zap (zb_mono _ _) (zb_ok (zb_ine (off := 8) (by decide +kernel) (by decide +kernel))) ?_
  refine zap (zi_mono _ _) (zi_ok (zg_ldc (index := 46) (by decide +kernel) (zin 469 (by decide +kernel) rfl))) ?_
  refine zap (zj_mono _) (zj_ok (off := 8) (by decide +kernel) (by decide +kernel)) ?_
  refine zap (zi_mono _ _) (zi_ok (zg_aload_n (j := 1) (by decide +kernel) rfl)) ?_
  refine zap (zi_mono _ _) (zi_ok (zg_iload_n (j := 2) (by decide +kernel) rfl)) ?_
  refine zap (ziald_mono _) (ziald_ok (by decide +kernel)) ?_
  refine zap (zi_mono _ _) (zi_ok (zg_iconst (n := 1) (by decide +kernel) (by decide +kernel))) ?_
  refine zap (zi_mono _ _) (zi_ok (zg_isub (by decide +kernel))) ?_
  refine zap (ziast_mono _) (ziast_ok (by decide +kernel)) ?_
  refine zap (zi_mono _ _) (zi_ok (zg_aload_n (j := 0) (by decide +kernel) rfl)) ?_
  refine zap (zi_mono _ _) (zi_ok (zg_dup (by decide +kernel))) ?_
  refine zap (zget_mono _ _) (zget_ok (index := 15) (C := RC4) (ref := "VectorLanguage$Places") (T := FC4) (NN := 5) (by decide +kernel) rfl iC4 (by decide +kernel) (zin 93 (by decide +kernel) rfl) rfl) ?_
  refine zap (zi_mono _ _) (zi_ok (zg_iconst (n := 1) (by decide +kernel) (by decide +kernel))) ?_
  refine zap (zi_mono _ _) (zi_ok (zg_iadd (by decide +kernel))) ?_
  refine zap (zput_mono _ _ _) (zput_ok (index := 15) (C := RC4) (ref := "VectorLanguage$Places") (T := FC4) (NN := 5) tC4 (by decide +kernel) rfl iC4 tC4_ok nC4 (by decide +kernel) (zin 93 (by decide +kernel) rfl) rfl (Or.inl rfl) rfl) ?_
  refine zap (zi_mono _ _) (zi_ok (zg_iinc (n := 1) (by decide +kernel) (by decide +kernel) (by decide +kernel))) ?_
  refine zap (zj_mono _) (zj_ok (off := -61) (by decide +kernel) (by decide +kernel)) ?_
  refine zap (zretV_mono) (zretV_ok (by decide +kernel) rfl) ?_
  exact zn
