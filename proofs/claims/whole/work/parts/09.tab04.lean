/-- VectorLanguage$Evaluator.absent(LVectorLanguage$Expression;LVectorLanguage$Environment;)LVectorLanguage$Value; -/
def tb59 (_ : List (ClassId × FieldType)) : List (Nat × (zP → zP)) := [(0, zi (gAl 2) 1), (1, zget 3 2), (4, zb (cN) 21), (7, zi (gAl 2) 1), (8, zget 3 2), (11, zi (gAl 1) 1), (12, zget 6 1), (15, zcV 2 60 1 7), (18, zb (c1 (fun x => ¬ x = 0)) 28), (21, zi (gAl 0) 1), (22, zi (gC (.int (6))) 2), (24, zcV 2 25 1 2), (27, zretA), (28, zi (gAl 0) 1), (29, zi (gAl 1) 1), (30, zget 6 1), (33, zi (gAl 2) 1), (34, zget 3 2), (37, zget 7 2), (40, zi (gII (fun x y => x - y)) 1), (41, zi (gAl 2) 1), (42, zget 3 3), (45, zb (c2 (fun x y => x < y)) 52), (48, zi (gC (.int (1))) 1), (49, zj 53), (52, zi (gC (.int (0))) 1), (53, zcV 2 61 1 2), (56, zretA)]
set_option maxRecDepth 100000 in
theorem ok59 (l : Launch) (D : va_G) (dA : Nat → ClassId) (b0 : Nat) : ∀ q ∈ tb59 (ztys dA), zOK l D dA b0 59 q.1 q.2 := by
  refine zap (zi_mono _ _) (zi_ok (zg_aload_n (j := 2) (by decide +kernel) rfl)) ?_
  refine zap (zget_mono _ _) (zget_ok (index := 305) (C := RC3) (ref := "VectorLanguage$Environment") (T := FC3) (NN := 5) (by decide +kernel) rfl iC3 (by decide +kernel) (zin 70 (by decide +kernel) rfl) rfl) ?_
  refine zap (zb_mono _ _) (zb_ok (zb_null (off := 17) (by decide +kernel) (by decide +kernel))) ?_
  refine zap (zi_mono _ _) (zi_ok (zg_aload_n (j := 2) (by decide +kernel) rfl)) ?_
  refine zap (zget_mono _ _) (zget_ok (index := 305) (C := RC3) (ref := "VectorLanguage$Environment") (T := FC3) (NN := 5) (by decide +kernel) rfl iC3 (by decide +kernel) (zin 70 (by decide +kernel) rfl) rfl) ?_
  refine zap (zi_mono _ _) (zi_ok (zg_aload_n (j := 1) (by decide +kernel) rfl)) ?_
  refine zap (zget_mono _ _) (zget_ok (index := 114) (C := RC6) (ref := "VectorLanguage$Expression") (T := FC6) (NN := 5) (by decide +kernel) rfl iC6 (by decide +kernel) (zin 334 (by decide +kernel) rfl) rfl) ?_
  refine zap (zcV_mono _ _ _ _) (zcV_ok znst_st (μ' := 60) (na := 1) (ci := 7) (index := 309) (q := (RC7, FC7, 4)) (by decide +kernel) (by decide +kernel) rfl (zgV (zin 577 (by decide +kernel) rfl) (zin 578 (by decide +kernel) rfl) (zin 579 (by decide +kernel) rfl) (zin 21 (by decide +kernel) rfl) (zin 580 (by decide +kernel) rfl)) (by decide +kernel) (by decide +kernel)) ?_
  refine zap (zb_mono _ _) (zb_ok (zb_ne (off := 10) (by decide +kernel) (by decide +kernel))) ?_
  refine zap (zi_mono _ _) (zi_ok (zg_aload_n (j := 0) (by decide +kernel) rfl)) ?_
  refine zap (zi_mono _ _) (zi_ok (zg_bipush (n := 6) (by decide +kernel) (by decide +kernel))) ?_
  refine zap (zcV_mono _ _ _ _) (zcV_ok znst_st (μ' := 25) (na := 1) (ci := 2) (index := 77) (q := (RC2, FC2, 13)) (by decide +kernel) (by decide +kernel) rfl (zgV (zin 392 (by decide +kernel) rfl) (zin 394 (by decide +kernel) rfl) (zsel 4 (by decide +kernel) rfl) (zin 3 (by decide +kernel) rfl) (zin 395 (by decide +kernel) rfl)) (by decide +kernel) (by decide +kernel)) ?_
  refine zap (zretA_mono) (zretA_ok (by decide +kernel) rfl (Or.inl ⟨_, rfl⟩)) ?_
  refine zap (zi_mono _ _) (zi_ok (zg_aload_n (j := 0) (by decide +kernel) rfl)) ?_
  refine zap (zi_mono _ _) (zi_ok (zg_aload_n (j := 1) (by decide +kernel) rfl)) ?_
  refine zap (zget_mono _ _) (zget_ok (index := 114) (C := RC6) (ref := "VectorLanguage$Expression") (T := FC6) (NN := 5) (by decide +kernel) rfl iC6 (by decide +kernel) (zin 334 (by decide +kernel) rfl) rfl) ?_
  refine zap (zi_mono _ _) (zi_ok (zg_aload_n (j := 2) (by decide +kernel) rfl)) ?_
  refine zap (zget_mono _ _) (zget_ok (index := 305) (C := RC3) (ref := "VectorLanguage$Environment") (T := FC3) (NN := 5) (by decide +kernel) rfl iC3 (by decide +kernel) (zin 70 (by decide +kernel) rfl) rfl) ?_
  refine zap (zget_mono _ _) (zget_ok (index := 294) (C := RC7) (ref := "VectorLanguage$Function") (T := FC7) (NN := 4) (by decide +kernel) rfl iC7 (by decide +kernel) (zin 529 (by decide +kernel) rfl) rfl) ?_
  refine zap (zi_mono _ _) (zi_ok (zg_isub (by decide +kernel))) ?_
  refine zap (zi_mono _ _) (zi_ok (zg_aload_n (j := 2) (by decide +kernel) rfl)) ?_
  refine zap (zget_mono _ _) (zget_ok (index := 313) (C := RC3) (ref := "VectorLanguage$Environment") (T := FC3) (NN := 5) (by decide +kernel) rfl iC3 (by decide +kernel) (zin 72 (by decide +kernel) rfl) rfl) ?_
  refine zap (zb_mono _ _) (zb_ok (zb_ilt (off := 7) (by decide +kernel) (by decide +kernel))) ?_
  refine zap (zi_mono _ _) (zi_ok (zg_iconst (n := 1) (by decide +kernel) (by decide +kernel))) ?_
  refine zap (zj_mono _) (zj_ok (off := 4) (by decide +kernel) (by decide +kernel)) ?_
  refine zap (zi_mono _ _) (zi_ok (zg_iconst (n := 0) (by decide +kernel) (by decide +kernel))) ?_
  refine zap (zcV_mono _ _ _ _) (zcV_ok znst_st (μ' := 61) (na := 1) (ci := 2) (index := 214) (q := (RC2, FC2, 13)) (by decide +kernel) (by decide +kernel) rfl (zgV (zin 581 (by decide +kernel) rfl) (zin 583 (by decide +kernel) rfl) (zsel 26 (by decide +kernel) rfl) (zin 3 (by decide +kernel) rfl) (zin 584 (by decide +kernel) rfl)) (by decide +kernel) (by decide +kernel)) ?_
  refine zap (zretA_mono) (zretA_ok (by decide +kernel) rfl (Or.inl ⟨_, rfl⟩)) ?_
  exact zn
/-- VectorLanguage$Function.hasParameter(I)Z -/
def tb60 (_ : List (ClassId × FieldType)) : List (Nat × (zP → zP)) := [(0, zi (gIl 1) 1), (1, zi (gAl 0) 1), (2, zget 7 2), (5, zb (c2 (fun x y => x < y)) 25), (8, zi (gIl 1) 1), (9, zi (gAl 0) 1), (10, zget 7 2), (13, zi (gAl 0) 1), (14, zget 7 1), (17, zi (gII (fun x y => x + y)) 1), (18, zb (c2 (fun x y => y ≤ x)) 25), (21, zi (gC (.int (1))) 1), (22, zj 26), (25, zi (gC (.int (0))) 1), (26, zretZ)]
set_option maxRecDepth 100000 in
theorem ok60 (l : Launch) (D : va_G) (dA : Nat → ClassId) (b0 : Nat) : ∀ q ∈ tb60 (ztys dA), zOK l D dA b0 60 q.1 q.2 := by
  refine zap (zi_mono _ _) (zi_ok (zg_iload_n (j := 1) (by decide +kernel) rfl)) ?_
  refine zap (zi_mono _ _) (zi_ok (zg_aload_n (j := 0) (by decide +kernel) rfl)) ?_
  refine zap (zget_mono _ _) (zget_ok (index := 16) (C := RC7) (ref := "VectorLanguage$Function") (T := FC7) (NN := 4) (by decide +kernel) rfl iC7 (by decide +kernel) (zin 528 (by decide +kernel) rfl) rfl) ?_
  refine zap (zb_mono _ _) (zb_ok (zb_ilt (off := 20) (by decide +kernel) (by decide +kernel))) ?_
  refine zap (zi_mono _ _) (zi_ok (zg_iload_n (j := 1) (by decide +kernel) rfl)) ?_
  refine zap (zi_mono _ _) (zi_ok (zg_aload_n (j := 0) (by decide +kernel) rfl)) ?_
  refine zap (zget_mono _ _) (zget_ok (index := 16) (C := RC7) (ref := "VectorLanguage$Function") (T := FC7) (NN := 4) (by decide +kernel) rfl iC7 (by decide +kernel) (zin 528 (by decide +kernel) rfl) rfl) ?_
  refine zap (zi_mono _ _) (zi_ok (zg_aload_n (j := 0) (by decide +kernel) rfl)) ?_
  refine zap (zget_mono _ _) (zget_ok (index := 13) (C := RC7) (ref := "VectorLanguage$Function") (T := FC7) (NN := 4) (by decide +kernel) rfl iC7 (by decide +kernel) (zin 526 (by decide +kernel) rfl) rfl) ?_
  refine zap (zi_mono _ _) (zi_ok (zg_iadd (by decide +kernel))) ?_
  refine zap (zb_mono _ _) (zb_ok (zb_ige (off := 7) (by decide +kernel) (by decide +kernel))) ?_
  refine zap (zi_mono _ _) (zi_ok (zg_iconst (n := 1) (by decide +kernel) (by decide +kernel))) ?_
  refine zap (zj_mono _) (zj_ok (off := 4) (by decide +kernel) (by decide +kernel)) ?_
  refine zap (zi_mono _ _) (zi_ok (zg_iconst (n := 0) (by decide +kernel) (by decide +kernel))) ?_
  refine zap (zretZ_mono) (zretZ_ok (by decide +kernel) rfl) ?_
  exact zn
/-- VectorLanguage$Evaluator.truth(Z)LVectorLanguage$Vector; -/
def tb61 (_ : List (ClassId × FieldType)) : List (Nat × (zP → zP)) := [(0, zi (gIl 1) 1), (1, zb (c1 (fun x => x = 0)) 11), (4, zi (gAl 0) 1), (5, zget 2 12), (8, zj 15), (11, zi (gAl 0) 1), (12, zget 2 11), (15, zretA)]
set_option maxRecDepth 100000 in
theorem ok61 (l : Launch) (D : va_G) (dA : Nat → ClassId) (b0 : Nat) : ∀ q ∈ tb61 (ztys dA), zOK l D dA b0 61 q.1 q.2 := by
  refine zap (zi_mono _ _) (zi_ok (zg_iload_n (j := 1) (by decide +kernel) rfl)) ?_
  refine zap (zb_mono _ _) (zb_ok (zb_eq (off := 10) (by decide +kernel) (by decide +kernel))) ?_
  refine zap (zi_mono _ _) (zi_ok (zg_aload_n (j := 0) (by decide +kernel) rfl)) ?_
  refine zap (zget_mono _ _) (zget_ok (index := 46) (C := RC2) (ref := "VectorLanguage$Evaluator") (T := FC2) (NN := 13) (by decide +kernel) rfl iC2 (by decide +kernel) (zin 149 (by decide +kernel) rfl) rfl) ?_
  refine zap (zj_mono _) (zj_ok (off := 7) (by decide +kernel) (by decide +kernel)) ?_
  refine zap (zi_mono _ _) (zi_ok (zg_aload_n (j := 0) (by decide +kernel) rfl)) ?_
  refine zap (zget_mono _ _) (zget_ok (index := 43) (C := RC2) (ref := "VectorLanguage$Evaluator") (T := FC2) (NN := 13) (by decide +kernel) rfl iC2 (by decide +kernel) (zin 148 (by decide +kernel) rfl) rfl) ?_
  refine zap (zretA_mono) (zretA_ok (by decide +kernel) rfl (Or.inl ⟨_, rfl⟩)) ?_
  exact zn
/-- VectorLanguage$Evaluator.endCall(LVectorLanguage$Expression;LVectorLanguage$Environment;I)LVectorLanguage$Value; -/
def tb62 (_ : List (ClassId × FieldType)) : List (Nat × (zP → zP)) := [(0, zi (gAl 0) 1), (1, zi (gAl 1) 1), (2, zget 6 1), (5, zi (gAl 2) 1), (6, zi (gIl 3) 1), (7, zcV 5 24 3 2), (10, zi (gAs 4) 2), (12, zi (gAl 4) 2), (14, zb (cNN) 19), (17, zi (gC .null) 1), (18, zretA), (19, zi (gAl 2) 1), (20, zget 3 4), (23, zb (c1 (fun x => x = 0)) 33), (26, zi (gAl 0) 1), (27, zi (gC (.int (6))) 2), (29, zcV 2 25 1 2), (32, zretA), (33, zi (gAl 0) 1), (34, zi (gAl 2) 1), (35, zput (.object "VectorLanguage$Environment") 2 6), (38, zi (gAl 0) 1), (39, zi (gAl 4) 2), (41, zput (.object "VectorLanguage$Value") 2 7), (44, zi (gC .null) 1), (45, zretA)]
set_option maxRecDepth 100000 in
theorem ok62 (l : Launch) (D : va_G) (dA : Nat → ClassId) (b0 : Nat) : ∀ q ∈ tb62 (ztys dA), zOK l D dA b0 62 q.1 q.2 := by
  refine zap (zi_mono _ _) (zi_ok (zg_aload_n (j := 0) (by decide +kernel) rfl)) ?_
  refine zap (zi_mono _ _) (zi_ok (zg_aload_n (j := 1) (by decide +kernel) rfl)) ?_
  refine zap (zget_mono _ _) (zget_ok (index := 114) (C := RC6) (ref := "VectorLanguage$Expression") (T := FC6) (NN := 5) (by decide +kernel) rfl iC6 (by decide +kernel) (zin 334 (by decide +kernel) rfl) rfl) ?_
  refine zap (zi_mono _ _) (zi_ok (zg_aload_n (j := 2) (by decide +kernel) rfl)) ?_
  refine zap (zi_mono _ _) (zi_ok (zg_iload_n (j := 3) (by decide +kernel) rfl)) ?_
  refine zap (zcV_mono _ _ _ _) (zcV_ok znst_st (μ' := 24) (na := 3) (ci := 2) (index := 63) (q := (RC2, FC2, 13)) (by decide +kernel) (by decide +kernel) rfl (zgV (zin 388 (by decide +kernel) rfl) (zin 390 (by decide +kernel) rfl) (zsel 3 (by decide +kernel) rfl) (zin 3 (by decide +kernel) rfl) (zin 391 (by decide +kernel) rfl)) (by decide +kernel) (by decide +kernel)) ?_
  refine zap (zi_mono _ _) (zi_ok (zg_astore (by decide +kernel) (by decide +kernel))) ?_
  refine zap (zi_mono _ _) (zi_ok (zg_aload (by decide +kernel))) ?_
  refine zap (zb_mono _ _) (zb_ok (zb_nonnull (off := 5) (by decide +kernel) (by decide +kernel))) ?_
  refine zap (zi_mono _ _) (zi_ok (zg_null (by decide +kernel))) ?_
  refine zap (zretA_mono) (zretA_ok (by decide +kernel) rfl (Or.inl ⟨_, rfl⟩)) ?_
  refine zap (zi_mono _ _) (zi_ok (zg_aload_n (j := 2) (by decide +kernel) rfl)) ?_
  refine zap (zget_mono _ _) (zget_ok (index := 302) (C := RC3) (ref := "VectorLanguage$Environment") (T := FC3) (NN := 5) (by decide +kernel) rfl iC3 (by decide +kernel) (zin 73 (by decide +kernel) rfl) rfl) ?_
  refine zap (zb_mono _ _) (zb_ok (zb_eq (off := 10) (by decide +kernel) (by decide +kernel))) ?_
  refine zap (zi_mono _ _) (zi_ok (zg_aload_n (j := 0) (by decide +kernel) rfl)) ?_
  refine zap (zi_mono _ _) (zi_ok (zg_bipush (n := 6) (by decide +kernel) (by decide +kernel))) ?_
  refine zap (zcV_mono _ _ _ _) (zcV_ok znst_st (μ' := 25) (na := 1) (ci := 2) (index := 77) (q := (RC2, FC2, 13)) (by decide +kernel) (by decide +kernel) rfl (zgV (zin 392 (by decide +kernel) rfl) (zin 394 (by decide +kernel) rfl) (zsel 4 (by decide +kernel) rfl) (zin 3 (by decide +kernel) rfl) (zin 395 (by decide +kernel) rfl)) (by decide +kernel) (by decide +kernel)) ?_
  refine zap (zretA_mono) (zretA_ok (by decide +kernel) rfl (Or.inl ⟨_, rfl⟩)) ?_
  refine zap (zi_mono _ _) (zi_ok (zg_aload_n (j := 0) (by decide +kernel) rfl)) ?_
  refine zap (zi_mono _ _) (zi_ok (zg_aload_n (j := 2) (by decide +kernel) rfl)) ?_
  refine zap (zput_mono _ _ _) (zput_ok (index := 316) (C := RC2) (ref := "VectorLanguage$Evaluator") (T := FC2) (NN := 13) tC2 (by decide +kernel) rfl iC2 tC2_ok nC2 (by decide +kernel) (zin 143 (by decide +kernel) rfl) rfl (Or.inl rfl) rfl) ?_
  refine zap (zi_mono _ _) (zi_ok (zg_aload_n (j := 0) (by decide +kernel) rfl)) ?_
  refine zap (zi_mono _ _) (zi_ok (zg_aload (by decide +kernel))) ?_
  refine zap (zput_mono _ _ _) (zput_ok (index := 319) (C := RC2) (ref := "VectorLanguage$Evaluator") (T := FC2) (NN := 13) tC2 (by decide +kernel) rfl iC2 tC2_ok nC2 (by decide +kernel) (zin 144 (by decide +kernel) rfl) rfl (Or.inl rfl) rfl) ?_
  refine zap (zi_mono _ _) (zi_ok (zg_null (by decide +kernel))) ?_
  refine zap (zretA_mono) (zretA_ok (by decide +kernel) rfl (Or.inl ⟨_, rfl⟩)) ?_
  exact zn
/-- VectorLanguage$Evaluator.attempt(LVectorLanguage$Expression;LVectorLanguage$Environment;I)LVectorLanguage$Value; -/
def tb63 (tys : List (ClassId × FieldType)) : List (Nat × (zP → zP)) := [(0, zi (gAl 0) 1), (1, zi (gAl 1) 1), (2, zget 6 1), (5, zi (gAl 2) 1), (6, zi (gIl 3) 1), (7, zcV 5 24 3 2), (10, zi (gAs 4) 2), (12, zi (gAl 4) 2), (14, zb (cNN) 33), (17, zi (gAl 0) 1), (18, zget 2 5), (21, zb (c1 (fun x => x = 0)) 33), (24, zi (gAl 0) 1), (25, zget 2 5), (28, zi (gC (.int (9))) 2), (30, zb (c2 (fun x y => ¬ x = y)) 36), (33, zi (gAl 4) 2), (35, zretA), (36, zi (gAl 2) 1), (37, zget 3 0), (40, zi (gC (.int (9))) 2), (42, znew 5 1 dC5), (45, zi (gDup) 1), (46, zi (gAl 0) 1), (47, zget 2 5), (50, zcI 2 8 1), (53, zaast tys "VectorLanguage$Held" [5, 7, 8]), (54, zi (gAl 0) 1), (55, zi (gC (.int (0))) 1), (56, zput (.int) 2 5), (59, zi (gAl 0) 1), (60, zi (gAl 1) 1), (61, zget 6 2), (64, zi (gAl 2) 1), (65, zi (gIl 3) 1), (66, zcV 5 24 3 2), (69, zretA)]
set_option maxRecDepth 100000 in
theorem ok63 (l : Launch) (D : va_G) (dA : Nat → ClassId) (b0 : Nat) : ∀ q ∈ tb63 (ztys dA), zOK l D dA b0 63 q.1 q.2 := by
  refine zap (zi_mono _ _) (zi_ok (zg_aload_n (j := 0) (by decide +kernel) rfl)) ?_
  refine zap (zi_mono _ _) (zi_ok (zg_aload_n (j := 1) (by decide +kernel) rfl)) ?_
  refine zap (zget_mono _ _) (zget_ok (index := 114) (C := RC6) (ref := "VectorLanguage$Expression") (T := FC6) (NN := 5) (by decide +kernel) rfl iC6 (by decide +kernel) (zin 334 (by decide +kernel) rfl) rfl) ?_
  refine zap (zi_mono _ _) (zi_ok (zg_aload_n (j := 2) (by decide +kernel) rfl)) ?_
  refine zap (zi_mono _ _) (zi_ok (zg_iload_n (j := 3) (by decide +kernel) rfl)) ?_
  refine zap (zcV_mono _ _ _ _) (zcV_ok znst_st (μ' := 24) (na := 3) (ci := 2) (index := 63) (q := (RC2, FC2, 13)) (by decide +kernel) (by decide +kernel) rfl (zgV (zin 388 (by decide +kernel) rfl) (zin 390 (by decide +kernel) rfl) (zsel 3 (by decide +kernel) rfl) (zin 3 (by decide +kernel) rfl) (zin 391 (by decide +kernel) rfl)) (by decide +kernel) (by decide +kernel)) ?_
  refine zap (zi_mono _ _) (zi_ok (zg_astore (by decide +kernel) (by decide +kernel))) ?_
  refine zap (zi_mono _ _) (zi_ok (zg_aload (by decide +kernel))) ?_
  refine zap (zb_mono _ _) (zb_ok (zb_nonnull (off := 19) (by decide +kernel) (by decide +kernel))) ?_
  refine zap (zi_mono _ _) (zi_ok (zg_aload_n (j := 0) (by decide +kernel) rfl)) ?_
  refine zap (zget_mono _ _) (zget_ok (index := 60) (C := RC2) (ref := "VectorLanguage$Evaluator") (T := FC2) (NN := 13) (by decide +kernel) rfl iC2 (by decide +kernel) (zin 141 (by decide +kernel) rfl) rfl) ?_
  refine zap (zb_mono _ _) (zb_ok (zb_eq (off := 12) (by decide +kernel) (by decide +kernel))) ?_
  refine zap (zi_mono _ _) (zi_ok (zg_aload_n (j := 0) (by decide +kernel) rfl)) ?_
  refine zap (zget_mono _ _) (zget_ok (index := 60) (C := RC2) (ref := "VectorLanguage$Evaluator") (T := FC2) (NN := 13) (by decide +kernel) rfl iC2 (by decide +kernel) (zin 141 (by decide +kernel) rfl) rfl) ?_
  refine zap (zi_mono _ _) (zi_ok (zg_bipush (n := 9) (by decide +kernel) (by decide +kernel))) ?_
  refine zap (zb_mono _ _) (zb_ok (zb_ine (off := 6) (by decide +kernel) (by decide +kernel))) ?_
  refine zap (zi_mono _ _) (zi_ok (zg_aload (by decide +kernel))) ?_
  refine zap (zretA_mono) (zretA_ok (by decide +kernel) rfl (Or.inl ⟨_, rfl⟩)) ?_
  refine zap (zi_mono _ _) (zi_ok (zg_aload_n (j := 2) (by decide +kernel) rfl)) ?_
  refine zap (zget_mono _ _) (zget_ok (index := 178) (C := RC3) (ref := "VectorLanguage$Environment") (T := FC3) (NN := 5) (by decide +kernel) rfl iC3 (by decide +kernel) (zin 67 (by decide +kernel) rfl) rfl) ?_
  refine zap (zi_mono _ _) (zi_ok (zg_bipush (n := 9) (by decide +kernel) (by decide +kernel))) ?_
  refine zap (znew_mono _ _ _) (znew_ok (index := 27) (C := RC5) (T := FC5) tC5 (by decide +kernel) rfl iC5 tC5_ok (zin 110 (by decide +kernel) rfl) (zin 111 (by decide +kernel) rfl) (zin 8 (by decide +kernel) rfl) dC5_ok) ?_
  refine zap (zi_mono _ _) (zi_ok (zg_dup (by decide +kernel))) ?_
  refine zap (zi_mono _ _) (zi_ok (zg_aload_n (j := 0) (by decide +kernel) rfl)) ?_
  refine zap (zget_mono _ _) (zget_ok (index := 60) (C := RC2) (ref := "VectorLanguage$Evaluator") (T := FC2) (NN := 13) (by decide +kernel) rfl iC2 (by decide +kernel) (zin 141 (by decide +kernel) rfl) rfl) ?_
  refine zap (zcI_mono _ _ _) (zcI_ok znst_st (μ' := 8) (na := 1) (index := 37) (by decide +kernel) (by decide +kernel) rfl rfl (zgI (zin 131 (by decide +kernel) rfl)) (zin 8 (by decide +kernel) rfl) (zin 129 (by decide +kernel) rfl) (zin 130 (by decide +kernel) rfl) (by decide +kernel) (by decide +kernel)) ?_
  refine zap (zaast_mono _ _ _) (zaast_ok (by decide +kernel) (za ⟨_, rfl, Or.inr (List.mem_of_getElem? (i := 15) rfl)⟩ (za ⟨_, rfl, Or.inr (List.mem_of_getElem? (i := 14) rfl)⟩ (za ⟨_, rfl, Or.inr (List.mem_of_getElem? (i := 13) rfl)⟩ zn)))) ?_
  refine zap (zi_mono _ _) (zi_ok (zg_aload_n (j := 0) (by decide +kernel) rfl)) ?_
  refine zap (zi_mono _ _) (zi_ok (zg_iconst (n := 0) (by decide +kernel) (by decide +kernel))) ?_
  refine zap (zput_mono _ _ _) (zput_ok (index := 60) (C := RC2) (ref := "VectorLanguage$Evaluator") (T := FC2) (NN := 13) tC2 (by decide +kernel) rfl iC2 tC2_ok nC2 (by decide +kernel) (zin 141 (by decide +kernel) rfl) rfl (Or.inl rfl) rfl) ?_
  refine zap (zi_mono _ _) (zi_ok (zg_aload_n (j := 0) (by decide +kernel) rfl)) ?_
  refine zap (zi_mono _ _) (zi_ok (zg_aload_n (j := 1) (by decide +kernel) rfl)) ?_
  refine zap (zget_mono _ _) (zget_ok (index := 117) (C := RC6) (ref := "VectorLanguage$Expression") (T := FC6) (NN := 5) (by decide +kernel) rfl iC6 (by decide +kernel) (zin 336 (by decide +kernel) rfl) rfl) ?_
  refine zap (zi_mono _ _) (zi_ok (zg_aload_n (j := 2) (by decide +kernel) rfl)) ?_
  refine zap (zi_mono _ _) (zi_ok (zg_iload_n (j := 3) (by decide +kernel) rfl)) ?_
  refine zap (zcV_mono _ _ _ _) (zcV_ok znst_st (μ' := 24) (na := 3) (ci := 2) (index := 63) (q := (RC2, FC2, 13)) (by decide +kernel) (by decide +kernel) rfl (zgV (zin 388 (by decide +kernel) rfl) (zin 390 (by decide +kernel) rfl) (zsel 3 (by decide +kernel) rfl) (zin 3 (by decide +kernel) rfl) (zin 391 (by decide +kernel) rfl)) (by decide +kernel) (by decide +kernel)) ?_
  refine zap (zretA_mono) (zretA_ok (by decide +kernel) rfl (Or.inl ⟨_, rfl⟩)) ?_
  exact zn
/-- VectorLanguage$Evaluator.evaluateOfTwo(LVectorLanguage$Expression;LVectorLanguage$Environment;I)LVectorLanguage$Value; -/
def tb64 (_ : List (ClassId × FieldType)) : List (Nat × (zP → zP)) := [(0, zi (gAl 0) 1), (1, zi (gAl 1) 1), (2, zget 6 1), (5, zi (gAl 2) 1), (6, zi (gIl 3) 1), (7, zcV 5 24 3 2), (10, zi (gAs 4) 2), (12, zi (gAl 4) 2), (14, zb (cNN) 19), (17, zi (gC .null) 1), (18, zretA), (19, zi (gAl 0) 1), (20, zi (gAl 1) 1), (21, zget 6 2), (24, zi (gAl 2) 1), (25, zi (gIl 3) 1), (26, zcV 5 24 3 2), (29, zi (gAs 5) 2), (31, zi (gAl 5) 2), (33, zb (cNN) 38), (36, zi (gC .null) 1), (37, zretA), (38, zi (gAl 4) 2), (40, zinst [5] [7, 8]), (43, zb (c1 (fun x => x = 0)) 84), (46, zi (gAl 4) 2), (48, zcast [5]), (51, zi (gAs 6) 2), (53, zi (gAl 5) 2), (55, zinst [5] [7, 8]), (58, zb (c1 (fun x => x = 0)) 84), (61, zi (gAl 5) 2), (63, zcast [5]), (66, zi (gAs 7) 2), (68, zi (gAl 0) 1), (69, zi (gAl 1) 1), (70, zi (gAl 6) 2), (72, zget 5 0), (75, zi (gAl 7) 2), (77, zget 5 0), (80, zcV 4 65 3 2), (83, zretA), (84, zi (gAl 1) 1), (85, zget 6 0), (88, zi (gC (.int (25))) 2), (90, zb (c2 (fun x y => ¬ x = y)) 112), (93, zi (gAl 0) 1), (94, zi (gAl 4) 2), (96, zi (gAl 5) 2), (98, zb (cA false) 105), (101, zi (gC (.int (1))) 1), (102, zj 106), (105, zi (gC (.int (0))) 1), (106, zcV 2 61 1 2), (109, zj 117), (112, zi (gAl 0) 1), (113, zi (gC (.int (3))) 1), (114, zcV 2 25 1 2), (117, zretA)]
set_option maxRecDepth 100000 in
theorem ok64 (l : Launch) (D : va_G) (dA : Nat → ClassId) (b0 : Nat) : ∀ q ∈ tb64 (ztys dA), zOK l D dA b0 64 q.1 q.2 := by
  refine zap (zi_mono _ _) (zi_ok (zg_aload_n (j := 0) (by decide +kernel) rfl)) ?_
  refine zap (zi_mono _ _) (zi_ok (zg_aload_n (j := 1) (by decide +kernel) rfl)) ?_
  refine zap (zget_mono _ _) (zget_ok (index := 114) (C := RC6) (ref := "VectorLanguage$Expression") (T := FC6) (NN := 5) (by decide +kernel) rfl iC6 (by decide +kernel) (zin 334 (by decide +kernel) rfl) rfl) ?_
  refine zap (zi_mono _ _) (zi_ok (zg_aload_n (j := 2) (by decide +kernel) rfl)) ?_
  refine zap (zi_mono _ _) (zi_ok (zg_iload_n (j := 3) (by decide +kernel) rfl)) ?_
  refine zap (zcV_mono _ _ _ _) (zcV_ok znst_st (μ' := 24) (na := 3) (ci := 2) (index := 63) (q := (RC2, FC2, 13)) (by decide +kernel) (by decide +kernel) rfl (zgV (zin 388 (by decide +kernel) rfl) (zin 390 (by decide +kernel) rfl) (zsel 3 (by decide +kernel) rfl) (zin 3 (by decide +kernel) rfl) (zin 391 (by decide +kernel) rfl)) (by decide +kernel) (by decide +kernel)) ?_
  refine zap (zi_mono _ _) (zi_ok (zg_astore (by decide +kernel) (by decide +kernel))) ?_
  refine zap (zi_mono _ _) (zi_ok (zg_aload (by decide +kernel))) ?_
  refine zap (zb_mono _ _) (zb_ok (zb_nonnull (off := 5) (by decide +kernel) (by decide +kernel))) ?_
  refine zap (zi_mono _ _) (zi_ok (zg_null (by decide +kernel))) ?_
  refine zap (zretA_mono) (zretA_ok (by decide +kernel) rfl (Or.inl ⟨_, rfl⟩)) ?_
  refine zap (zi_mono _ _) (zi_ok (zg_aload_n (j := 0) (by decide +kernel) rfl)) ?_
  refine zap (zi_mono _ _) (zi_ok (zg_aload_n (j := 1) (by decide +kernel) rfl)) ?_
  refine zap (zget_mono _ _) (zget_ok (index := 117) (C := RC6) (ref := "VectorLanguage$Expression") (T := FC6) (NN := 5) (by decide +kernel) rfl iC6 (by decide +kernel) (zin 336 (by decide +kernel) rfl) rfl) ?_
  refine zap (zi_mono _ _) (zi_ok (zg_aload_n (j := 2) (by decide +kernel) rfl)) ?_
  refine zap (zi_mono _ _) (zi_ok (zg_iload_n (j := 3) (by decide +kernel) rfl)) ?_
  refine zap (zcV_mono _ _ _ _) (zcV_ok znst_st (μ' := 24) (na := 3) (ci := 2) (index := 63) (q := (RC2, FC2, 13)) (by decide +kernel) (by decide +kernel) rfl (zgV (zin 388 (by decide +kernel) rfl) (zin 390 (by decide +kernel) rfl) (zsel 3 (by decide +kernel) rfl) (zin 3 (by decide +kernel) rfl) (zin 391 (by decide +kernel) rfl)) (by decide +kernel) (by decide +kernel)) ?_
  refine zap (zi_mono _ _) (zi_ok (zg_astore (by decide +kernel) (by decide +kernel))) ?_
  refine zap (zi_mono _ _) (zi_ok (zg_aload (by decide +kernel))) ?_
  refine zap (zb_mono _ _) (zb_ok (zb_nonnull (off := 5) (by decide +kernel) (by decide +kernel))) ?_
  refine zap (zi_mono _ _) (zi_ok (zg_null (by decide +kernel))) ?_
  refine zap (zretA_mono) (zretA_ok (by decide +kernel) rfl (Or.inl ⟨_, rfl⟩)) ?_
  refine zap (zi_mono _ _) (zi_ok (zg_aload (by decide +kernel))) ?_
  refine zap (zinst_mono _ _) (zinst_ok (index := 27) (nm := "VectorLanguage$Vector") (by decide +kernel) (zin 110 (by decide +kernel) rfl) (za ⟨_, rfl, (List.mem_of_getElem? (i := 11) rfl)⟩ (zn)) (za ⟨_, rfl, (List.mem_of_getElem? (i := 22) rfl)⟩ (za ⟨_, rfl, (List.mem_of_getElem? (i := 23) rfl)⟩ (zn)))) ?_
  refine zap (zb_mono _ _) (zb_ok (zb_eq (off := 41) (by decide +kernel) (by decide +kernel))) ?_
  refine zap (zi_mono _ _) (zi_ok (zg_aload (by decide +kernel))) ?_
  refine zap (zcast_mono _) (zcast_ok (index := 27) (nm := "VectorLanguage$Vector") (by decide +kernel) (zin 110 (by decide +kernel) rfl) (za ⟨_, rfl, (List.mem_of_getElem? (i := 11) rfl)⟩ (zn))) ?_
  refine zap (zi_mono _ _) (zi_ok (zg_astore (by decide +kernel) (by decide +kernel))) ?_
  refine zap (zi_mono _ _) (zi_ok (zg_aload (by decide +kernel))) ?_
  refine zap (zinst_mono _ _) (zinst_ok (index := 27) (nm := "VectorLanguage$Vector") (by decide +kernel) (zin 110 (by decide +kernel) rfl) (za ⟨_, rfl, (List.mem_of_getElem? (i := 11) rfl)⟩ (zn)) (za ⟨_, rfl, (List.mem_of_getElem? (i := 22) rfl)⟩ (za ⟨_, rfl, (List.mem_of_getElem? (i := 23) rfl)⟩ (zn)))) ?_
  refine zap (zb_mono _ _) (zb_ok (zb_eq (off := 26) (by decide +kernel) (by decide +kernel))) ?_
  refine zap (zi_mono _ _) (zi_ok (zg_aload (by decide +kernel))) ?_
  refine zap (zcast_mono _) (zcast_ok (index := 27) (nm := "VectorLanguage$Vector") (by decide +kernel) (zin 110 (by decide +kernel) rfl) (za ⟨_, rfl, (List.mem_of_getElem? (i := 11) rfl)⟩ (zn))) ?_
  refine zap (zi_mono _ _) (zi_ok (zg_astore (by decide +kernel) (by decide +kernel))) ?_
  refine zap (zi_mono _ _) (zi_ok (zg_aload_n (j := 0) (by decide +kernel) rfl)) ?_
  refine zap (zi_mono _ _) (zi_ok (zg_aload_n (j := 1) (by decide +kernel) rfl)) ?_
  refine zap (zi_mono _ _) (zi_ok (zg_aload (by decide +kernel))) ?_
  refine zap (zget_mono _ _) (zget_ok (index := 182) (C := RC5) (ref := "VectorLanguage$Vector") (T := FC5) (NN := 1) (by decide +kernel) rfl iC5 (by decide +kernel) (zin 124 (by decide +kernel) rfl) rfl) ?_
  refine zap (zi_mono _ _) (zi_ok (zg_aload (by decide +kernel))) ?_
  refine zap (zget_mono _ _) (zget_ok (index := 182) (C := RC5) (ref := "VectorLanguage$Vector") (T := FC5) (NN := 1) (by decide +kernel) rfl iC5 (by decide +kernel) (zin 124 (by decide +kernel) rfl) rfl) ?_
  refine zap (zcV_mono _ _ _ _) (zcV_ok znst_st (μ' := 65) (na := 3) (ci := 2) (index := 210) (q := (RC2, FC2, 13)) (by decide +kernel) (by decide +kernel) rfl (zgV (zin 597 (by decide +kernel) rfl) (zin 599 (by decide +kernel) rfl) (zsel 30 (by decide +kernel) rfl) (zin 3 (by decide +kernel) rfl) (zin 600 (by decide +kernel) rfl)) (by decide +kernel) (by decide +kernel)) ?_
  refine zap (zretA_mono) (zretA_ok (by decide +kernel) rfl (Or.inl ⟨_, rfl⟩)) ?_
  refine zap (zi_mono _ _) (zi_ok (zg_aload_n (j := 1) (by decide +kernel) rfl)) ?_
  refine zap (zget_mono _ _) (zget_ok (index := 87) (C := RC6) (ref := "VectorLanguage$Expression") (T := FC6) (NN := 5) (by decide +kernel) rfl iC6 (by decide +kernel) (zin 332 (by decide +kernel) rfl) rfl) ?_
  refine zap (zi_mono _ _) (zi_ok (zg_bipush (n := 25) (by decide +kernel) (by decide +kernel))) ?_
  refine zap (zb_mono _ _) (zb_ok (zb_ine (off := 22) (by decide +kernel) (by decide +kernel))) ?_
  refine zap (zi_mono _ _) (zi_ok (zg_aload_n (j := 0) (by decide +kernel) rfl)) ?_
  refine zap (zi_mono _ _) (zi_ok (zg_aload (by decide +kernel))) ?_
  refine zap (zi_mono _ _) (zi_ok (zg_aload (by decide +kernel))) ?_
  refine zap (zb_mono _ _) (zb_ok (zb_ane (off := 7) (by decide +kernel) (by decide +kernel))) ?_
  refine zap (zi_mono _ _) (zi_ok (zg_iconst (n := 1) (by decide +kernel) (by decide +kernel))) ?_
  refine zap (zj_mono _) (zj_ok (off := 4) (by decide +kernel) (by decide +kernel)) ?_
  refine zap (zi_mono _ _) (zi_ok (zg_iconst (n := 0) (by decide +kernel) (by decide +kernel))) ?_
  refine zap (zcV_mono _ _ _ _) (zcV_ok znst_st (μ' := 61) (na := 1) (ci := 2) (index := 214) (q := (RC2, FC2, 13)) (by decide +kernel) (by decide +kernel) rfl (zgV (zin 581 (by decide +kernel) rfl) (zin 583 (by decide +kernel) rfl) (zsel 26 (by decide +kernel) rfl) (zin 3 (by decide +kernel) rfl) (zin 584 (by decide +kernel) rfl)) (by decide +kernel) (by decide +kernel)) ?_
  refine zap (zj_mono _) (zj_ok (off := 8) (by decide +kernel) (by decide +kernel)) ?_
  refine zap (zi_mono _ _) (zi_ok (zg_aload_n (j := 0) (by decide +kernel) rfl)) ?_
  refine zap (zi_mono _ _) (zi_ok (zg_iconst (n := 3) (by decide +kernel) (by decide +kernel))) ?_
  refine zap (zcV_mono _ _ _ _) (zcV_ok znst_st (μ' := 25) (na := 1) (ci := 2) (index := 77) (q := (RC2, FC2, 13)) (by decide +kernel) (by decide +kernel) rfl (zgV (zin 392 (by decide +kernel) rfl) (zin 394 (by decide +kernel) rfl) (zsel 4 (by decide +kernel) rfl) (zin 3 (by decide +kernel) rfl) (zin 395 (by decide +kernel) rfl)) (by decide +kernel) (by decide +kernel)) ?_
  refine zap (zretA_mono) (zretA_ok (by decide +kernel) rfl (Or.inl ⟨_, rfl⟩)) ?_
  exact zn
/-- VectorLanguage$Evaluator.combine(LVectorLanguage$Expression;[I[I)LVectorLanguage$Vector; -/
def tb65 (_ : List (ClassId × FieldType)) : List (Nat × (zP → zP)) := [(0, zi (gAl 1) 1), (1, zget 6 0), (4, zsw [(10, 48), (11, 55), (12, 68), (25, 75)] 85), (48, zi (gAl 0) 1), (49, zi (gAl 2) 1), (50, zi (gAl 3) 1), (51, zcV 4 66 2 2), (54, zretA), (55, zi (gAl 0) 1), (56, zi (gAl 2) 1), (57, zcS 1 38 1), (60, zi (gAl 3) 1), (61, zcS 1 38 1), (64, zcV 6 67 2 2), (67, zretA), (68, zi (gAl 0) 1), (69, zi (gAl 2) 1), (70, zi (gAl 3) 1), (71, zcV 6 69 2 2), (74, zretA), (75, zi (gAl 0) 1), (76, zi (gAl 2) 1), (77, zi (gAl 3) 1), (78, zcS 3 70 2), (81, zcV 2 61 1 2), (84, zretA), (85, zi (gAl 0) 1), (86, zi (gAl 1) 1), (87, zi (gAl 2) 1), (88, zi (gAl 3) 1), (89, zcV 6 71 3 2), (92, zretA)]
set_option maxRecDepth 100000 in
theorem ok65 (l : Launch) (D : va_G) (dA : Nat → ClassId) (b0 : Nat) : ∀ q ∈ tb65 (ztys dA), zOK l D dA b0 65 q.1 q.2 := by
  refine zap (zi_mono _ _) (zi_ok (zg_aload_n (j := 1) (by decide +kernel) rfl)) ?_
  refine zap (zget_mono _ _) (zget_ok (index := 87) (C := RC6) (ref := "VectorLanguage$Expression") (T := FC6) (NN := 5) (by decide +kernel) rfl iC6 (by decide +kernel) (zin 332 (by decide +kernel) rfl) rfl) ?_
  refine zap (zsw_mono _ _) (zsw_look (off := 81) (ps := #[(10, 44), (11, 51), (12, 64), (25, 71)]) (len := 44) (by decide +kernel) (by decide +kernel) (by decide +kernel) (by decide +kernel)) ?_
  refine zap (zi_mono _ _) (zi_ok (zg_aload_n (j := 0) (by decide +kernel) rfl)) ?_
  refine zap (zi_mono _ _) (zi_ok (zg_aload_n (j := 2) (by decide +kernel) rfl)) ?_
  refine zap (zi_mono _ _) (zi_ok (zg_aload_n (j := 3) (by decide +kernel) rfl)) ?_
  refine zap (zcV_mono _ _ _ _) (zcV_ok znst_st (μ' := 66) (na := 2) (ci := 2) (index := 218) (q := (RC2, FC2, 13)) (by decide +kernel) (by decide +kernel) rfl (zgV (zin 601 (by decide +kernel) rfl) (zin 603 (by decide +kernel) rfl) (zsel 31 (by decide +kernel) rfl) (zin 3 (by decide +kernel) rfl) (zin 604 (by decide +kernel) rfl)) (by decide +kernel) (by decide +kernel)) ?_
  refine zap (zretA_mono) (zretA_ok (by decide +kernel) rfl (Or.inl ⟨_, rfl⟩)) ?_
  refine zap (zi_mono _ _) (zi_ok (zg_aload_n (j := 0) (by decide +kernel) rfl)) ?_
  refine zap (zi_mono _ _) (zi_ok (zg_aload_n (j := 2) (by decide +kernel) rfl)) ?_
  refine zap (zcS_mono _ _ _) (zcS_ok znst_st (μ' := 38) (na := 1) (index := 200) (by decide +kernel) (by decide +kernel) (zgS (zin 446 (by decide +kernel) rfl) (zin 447 (by decide +kernel) rfl) (zin 17 (by decide +kernel) rfl) (zin 448 (by decide +kernel) rfl)) (by decide +kernel) (by decide +kernel)) ?_
  refine zap (zi_mono _ _) (zi_ok (zg_aload_n (j := 3) (by decide +kernel) rfl)) ?_
  refine zap (zcS_mono _ _ _) (zcS_ok znst_st (μ' := 38) (na := 1) (index := 200) (by decide +kernel) (by decide +kernel) (zgS (zin 446 (by decide +kernel) rfl) (zin 447 (by decide +kernel) rfl) (zin 17 (by decide +kernel) rfl) (zin 448 (by decide +kernel) rfl)) (by decide +kernel) (by decide +kernel)) ?_
  refine zap (zcV_mono _ _ _ _) (zcV_ok znst_st (μ' := 67) (na := 2) (ci := 2) (index := 222) (q := (RC2, FC2, 13)) (by decide +kernel) (by decide +kernel) rfl (zgV (zin 606 (by decide +kernel) rfl) (zin 608 (by decide +kernel) rfl) (zsel 32 (by decide +kernel) rfl) (zin 3 (by decide +kernel) rfl) (zin 609 (by decide +kernel) rfl)) (by decide +kernel) (by decide +kernel)) ?_
  refine zap (zretA_mono) (zretA_ok (by decide +kernel) rfl (Or.inl ⟨_, rfl⟩)) ?_
  refine zap (zi_mono _ _) (zi_ok (zg_aload_n (j := 0) (by decide +kernel) rfl)) ?_
  refine zap (zi_mono _ _) (zi_ok (zg_aload_n (j := 2) (by decide +kernel) rfl)) ?_
  refine zap (zi_mono _ _) (zi_ok (zg_aload_n (j := 3) (by decide +kernel) rfl)) ?_
  refine zap (zcV_mono _ _ _ _) (zcV_ok znst_st (μ' := 69) (na := 2) (ci := 2) (index := 226) (q := (RC2, FC2, 13)) (by decide +kernel) (by decide +kernel) rfl (zgV (zin 613 (by decide +kernel) rfl) (zin 615 (by decide +kernel) rfl) (zsel 33 (by decide +kernel) rfl) (zin 3 (by decide +kernel) rfl) (zin 616 (by decide +kernel) rfl)) (by decide +kernel) (by decide +kernel)) ?_
  refine zap (zretA_mono) (zretA_ok (by decide +kernel) rfl (Or.inl ⟨_, rfl⟩)) ?_
  refine zap (zi_mono _ _) (zi_ok (zg_aload_n (j := 0) (by decide +kernel) rfl)) ?_
  refine zap (zi_mono _ _) (zi_ok (zg_aload_n (j := 2) (by decide +kernel) rfl)) ?_
  refine zap (zi_mono _ _) (zi_ok (zg_aload_n (j := 3) (by decide +kernel) rfl)) ?_
  refine zap (zcS_mono _ _ _) (zcS_ok znst_st (μ' := 70) (na := 2) (index := 229) (by decide +kernel) (by decide +kernel) (zgS (zin 617 (by decide +kernel) rfl) (zin 618 (by decide +kernel) rfl) (zin 17 (by decide +kernel) rfl) (zin 619 (by decide +kernel) rfl)) (by decide +kernel) (by decide +kernel)) ?_
  refine zap (zcV_mono _ _ _ _) (zcV_ok znst_st (μ' := 61) (na := 1) (ci := 2) (index := 214) (q := (RC2, FC2, 13)) (by decide +kernel) (by decide +kernel) rfl (zgV (zin 581 (by decide +kernel) rfl) (zin 583 (by decide +kernel) rfl) (zsel 26 (by decide +kernel) rfl) (zin 3 (by decide +kernel) rfl) (zin 584 (by decide +kernel) rfl)) (by decide +kernel) (by decide +kernel)) ?_
  refine zap (zretA_mono) (zretA_ok (by decide +kernel) rfl (Or.inl ⟨_, rfl⟩)) ?_
  refine zap (zi_mono _ _) (zi_ok (zg_aload_n (j := 0) (by decide +kernel) rfl)) ?_
  refine zap (zi_mono _ _) (zi_ok (zg_aload_n (j := 1) (by decide +kernel) rfl)) ?_
  refine zap (zi_mono _ _) (zi_ok (zg_aload_n (j := 2) (by decide +kernel) rfl)) ?_
  refine zap (zi_mono _ _) (zi_ok (zg_aload_n (j := 3) (by decide +kernel) rfl)) ?_
  refine zap (zcV_mono _ _ _ _) (zcV_ok znst_st (μ' := 71) (na := 3) (ci := 2) (index := 233) (q := (RC2, FC2, 13)) (by decide +kernel) (by decide +kernel) rfl (zgV (zin 620 (by decide +kernel) rfl) (zin 622 (by decide +kernel) rfl) (zsel 34 (by decide +kernel) rfl) (zin 3 (by decide +kernel) rfl) (zin 623 (by decide +kernel) rfl)) (by decide +kernel) (by decide +kernel)) ?_
  refine zap (zretA_mono) (zretA_ok (by decide +kernel) rfl (Or.inl ⟨_, rfl⟩)) ?_
  exact zn
/-- VectorLanguage$Evaluator.join([I[I)LVectorLanguage$Vector; -/
def tb66 (tys : List (ClassId × FieldType)) : List (Nat × (zP → zP)) := [(0, zi (gAl 1) 1), (1, zalen tys), (2, zi (gAl 2) 1), (3, zalen tys), (4, zi (gII (fun x y => x + y)) 1), (5, zi (gC (.int (16))) 2), (7, zb (c2 (fun x y => x ≤ y)) 16), (10, zi (gAl 0) 1), (11, zi (gC (.int (1))) 1), (12, zcV 2 25 1 2), (15, zretA), (16, zi (gAl 1) 1), (17, zi (gAl 1) 1), (18, zalen tys), (19, zi (gAl 2) 1), (20, zalen tys), (21, zi (gII (fun x y => x + y)) 1), (22, zcS 3 49 2), (25, zi (gAs 3) 1), (26, zi (gAl 2) 1), (27, zi (gC (.int (0))) 1), (28, zi (gAl 3) 1), (29, zi (gAl 1) 1), (30, zalen tys), (31, zi (gAl 2) 1), (32, zalen tys), (33, zcopy tys), (36, znew 5 1 dC5), (39, zi (gDup) 1), (40, zi (gAl 3) 1), (41, zcI 2 5 1), (44, zretA)]
set_option maxRecDepth 100000 in
theorem ok66 (l : Launch) (D : va_G) (dA : Nat → ClassId) (b0 : Nat) : ∀ q ∈ tb66 (ztys dA), zOK l D dA b0 66 q.1 q.2 := by
  refine zap (zi_mono _ _) (zi_ok (zg_aload_n (j := 1) (by decide +kernel) rfl)) ?_
  refine zap (zalen_mono _) (zalen_ok (by decide +kernel)) ?_
  refine zap (zi_mono _ _) (zi_ok (zg_aload_n (j := 2) (by decide +kernel) rfl)) ?_
  refine zap (zalen_mono _) (zalen_ok (by decide +kernel)) ?_
  refine zap (zi_mono _ _) (zi_ok (zg_iadd (by decide +kernel))) ?_
  refine zap (zi_mono _ _) (zi_ok (zg_bipush (n := 16) (by decide +kernel) (by decide +kernel))) ?_
  refine zap (zb_mono _ _) (zb_ok (zb_ile (off := 9) (by decide +kernel) (by decide +kernel))) ?_
  refine zap (zi_mono _ _) (zi_ok (zg_aload_n (j := 0) (by decide +kernel) rfl)) ?_
  refine zap (zi_mono _ _) (zi_ok (zg_iconst (n := 1) (by decide +kernel) (by decide +kernel))) ?_
  refine zap (zcV_mono _ _ _ _) (zcV_ok znst_st (μ' := 25) (na := 1) (ci := 2) (index := 77) (q := (RC2, FC2, 13)) (by decide +kernel) (by decide +kernel) rfl (zgV (zin 392 (by decide +kernel) rfl) (zin 394 (by decide +kernel) rfl) (zsel 4 (by decide +kernel) rfl) (zin 3 (by decide +kernel) rfl) (zin 395 (by decide +kernel) rfl)) (by decide +kernel) (by decide +kernel)) ?_
  refine zap (zretA_mono) (zretA_ok (by decide +kernel) rfl (Or.inl ⟨_, rfl⟩)) ?_
  refine zap (zi_mono _ _) (zi_ok (zg_aload_n (j := 1) (by decide +kernel) rfl)) ?_
  refine zap (zi_mono _ _) (zi_ok (zg_aload_n (j := 1) (by decide +kernel) rfl)) ?_
  refine zap (zalen_mono _) (zalen_ok (by decide +kernel)) ?_
  refine zap (zi_mono _ _) (zi_ok (zg_aload_n (j := 2) (by decide +kernel) rfl)) ?_
  refine zap (zalen_mono _) (zalen_ok (by decide +kernel)) ?_
  refine zap (zi_mono _ _) (zi_ok (zg_iadd (by decide +kernel))) ?_
  refine zap (zcS_mono _ _ _) (zcS_ok znst_st (μ' := 49) (na := 2) (index := 246) (by decide +kernel) (by decide +kernel) (zgS (zin 490 (by decide +kernel) rfl) (zin 491 (by decide +kernel) rfl) (zin 19 (by decide +kernel) rfl) (zin 492 (by decide +kernel) rfl)) (by decide +kernel) (by decide +kernel)) ?_
  refine zap (zi_mono _ _) (zi_ok (zg_astore_n (j := 3) (by decide +kernel) rfl (by decide +kernel))) ?_
  refine zap (zi_mono _ _) (zi_ok (zg_aload_n (j := 2) (by decide +kernel) rfl)) ?_
  refine zap (zi_mono _ _) (zi_ok (zg_iconst (n := 0) (by decide +kernel) (by decide +kernel))) ?_
  refine zap (zi_mono _ _) (zi_ok (zg_aload_n (j := 3) (by decide +kernel) rfl)) ?_
  refine zap (zi_mono _ _) (zi_ok (zg_aload_n (j := 1) (by decide +kernel) rfl)) ?_
  refine zap (zalen_mono _) (zalen_ok (by decide +kernel)) ?_
  refine zap (zi_mono _ _) (zi_ok (zg_aload_n (j := 2) (by decide +kernel) rfl)) ?_
  refine zap (zalen_mono _) (zalen_ok (by decide +kernel)) ?_
  refine zap (zcopy_mono _) (zcopy_ok (index := 252) (by decide +kernel) (zin 605 (by decide +kernel) rfl) (zin 505 (by decide +kernel) rfl) (zin 504 (by decide +kernel) rfl) (zin 20 (by decide +kernel) rfl) (by decide +kernel)) ?_
  refine zap (znew_mono _ _ _) (znew_ok (index := 27) (C := RC5) (T := FC5) tC5 (by decide +kernel) rfl iC5 tC5_ok (zin 110 (by decide +kernel) rfl) (zin 111 (by decide +kernel) rfl) (zin 8 (by decide +kernel) rfl) dC5_ok) ?_
  refine zap (zi_mono _ _) (zi_ok (zg_dup (by decide +kernel))) ?_
  refine zap (zi_mono _ _) (zi_ok (zg_aload_n (j := 3) (by decide +kernel) rfl)) ?_
  refine zap (zcI_mono _ _ _) (zcI_ok znst_st (μ' := 5) (na := 1) (index := 29) (by decide +kernel) (by decide +kernel) rfl rfl (zgI (zin 114 (by decide +kernel) rfl)) (zin 8 (by decide +kernel) rfl) (zin 112 (by decide +kernel) rfl) (zin 113 (by decide +kernel) rfl) (by decide +kernel) (by decide +kernel)) ?_
  refine zap (zretA_mono) (zretA_ok (by decide +kernel) rfl (Or.inl ⟨_, rfl⟩)) ?_
  exact zn
/-- VectorLanguage$Evaluator.range(II)LVectorLanguage$Vector; -/
def tb67 (tys : List (ClassId × FieldType)) : List (Nat × (zP → zP)) := [(0, zi (gIl 1) 1), (1, zi (gC (.int (-2147483648))) 2), (3, zb (c2 (fun x y => x = y)) 12), (6, zi (gIl 2) 1), (7, zi (gC (.int (-2147483648))) 2), (9, zb (c2 (fun x y => ¬ x = y)) 18), (12, zi (gAl 0) 1), (13, zi (gC (.int (5))) 1), (14, zcV 2 25 1 2), (17, zretA), (18, zi (gIl 2) 1), (19, zi (gIl 1) 1), (20, zi (gII (fun x y => x - y)) 1), (21, zcS 1 68 1), (24, zi (gIs 3) 1), (25, zi (gIl 3) 1), (26, zi (gC (.int (16))) 2), (28, zb (c2 (fun x y => x < y)) 37), (31, zi (gAl 0) 1), (32, zi (gC (.int (1))) 1), (33, zcV 2 25 1 2), (36, zretA), (37, zi (gIl 3) 1), (38, zi (gC (.int (1))) 1), (39, zi (gII (fun x y => x + y)) 1), (40, znewi tys), (42, zi (gAs 4) 2), (44, zi (gC (.int (0))) 1), (45, zi (gIs 5) 2), (47, zi (gIl 5) 2), (49, zi (gIl 3) 1), (50, zb (c2 (fun x y => y < x)) 80), (53, zi (gAl 4) 2), (55, zi (gIl 5) 2), (57, zi (gIl 1) 1), (58, zi (gIl 2) 1), (59, zb (c2 (fun x y => y < x)) 69), (62, zi (gIl 1) 1), (63, zi (gIl 5) 2), (65, zi (gII (fun x y => x + y)) 1), (66, zj 73), (69, zi (gIl 1) 1), (70, zi (gIl 5) 2), (72, zi (gII (fun x y => x - y)) 1), (73, ziast tys), (74, zi (gIinc 5 (1)) 3), (77, zj 47), (80, znew 5 1 dC5), (83, zi (gDup) 1), (84, zi (gAl 4) 2), (86, zcI 2 5 1), (89, zretA)]
set_option maxRecDepth 100000 in
theorem ok67 (l : Launch) (D : va_G) (dA : Nat → ClassId) (b0 : Nat) : ∀ q ∈ tb67 (ztys dA), zOK l D dA b0 67 q.1 q.2 := by
  refine zap (zi_mono _ _) (zi_ok (zg_iload_n (j := 1) (by decide +kernel) rfl)) ?_
  refine zap (zi_mono _ _) (zi_ok (zg_ldc (index := 36) (by decide +kernel) (zin 128 (by decide +kernel) rfl))) ?_
  refine zap (zb_mono _ _) (zb_ok (zb_ieq (off := 9) (by decide +kernel) (by decide +kernel))) ?_
  refine zap (zi_mono _ _) (zi_ok (zg_iload_n (j := 2) (by decide +kernel) rfl)) ?_
  refine zap (zi_mono _ _) (zi_ok (zg_ldc (index := 36) (by decide +kernel) (zin 128 (by decide +kernel) rfl))) ?_
  refine zap (zb_mono _ _) (zb_ok (zb_ine (off := 9) (by decide +kernel) (by decide +kernel))) ?_
  refine zap (zi_mono _ _) (zi_ok (zg_aload_n (j := 0) (by decide +kernel) rfl)) ?_
  refine zap (zi_mono _ _) (zi_ok (zg_iconst (n := 5) (by decide +kernel) (by decide +kernel))) ?_
  refine zap (zcV_mono _ _ _ _) (zcV_ok znst_st (μ' := 25) (na := 1) (ci := 2) (index := 77) (q := (RC2, FC2, 13)) (by decide +kernel) (by decide +kernel) rfl (zgV (zin 392 (by decide +kernel) rfl) (zin 394 (by decide +kernel) rfl) (zsel 4 (by decide +kernel) rfl) (zin 3 (by decide +kernel) rfl) (zin 395 (by decide +kernel) rfl)) (by decide +kernel) (by decide +kernel)) ?_
  refine zap (zretA_mono) (zretA_ok (by decide +kernel) rfl (Or.inl ⟨_, rfl⟩)) ?_
  refine zap (zi_mono _ _) (zi_ok (zg_iload_n (j := 2) (by decide +kernel) rfl)) ?_
  refine zap (zi_mono _ _) (zi_ok (zg_iload_n (j := 1) (by decide +kernel) rfl)) ?_
  refine zap (zi_mono _ _) (zi_ok (zg_isub (by decide +kernel))) ?_
  refine zap (zcS_mono _ _ _) (zcS_ok znst_st (μ' := 68) (na := 1) (index := 258) (by decide +kernel) (by decide +kernel) (zgS (zin 610 (by decide +kernel) rfl) (zin 611 (by decide +kernel) rfl) (zin 18 (by decide +kernel) rfl) (zin 612 (by decide +kernel) rfl)) (by decide +kernel) (by decide +kernel)) ?_
  refine zap (zi_mono _ _) (zi_ok (zg_istore_n (j := 3) (by decide +kernel) rfl (by decide +kernel))) ?_
  refine zap (zi_mono _ _) (zi_ok (zg_iload_n (j := 3) (by decide +kernel) rfl)) ?_
  refine zap (zi_mono _ _) (zi_ok (zg_bipush (n := 16) (by decide +kernel) (by decide +kernel))) ?_
  refine zap (zb_mono _ _) (zb_ok (zb_ilt (off := 9) (by decide +kernel) (by decide +kernel))) ?_
  refine zap (zi_mono _ _) (zi_ok (zg_aload_n (j := 0) (by decide +kernel) rfl)) ?_
  refine zap (zi_mono _ _) (zi_ok (zg_iconst (n := 1) (by decide +kernel) (by decide +kernel))) ?_
  refine zap (zcV_mono _ _ _ _) (zcV_ok znst_st (μ' := 25) (na := 1) (ci := 2) (index := 77) (q := (RC2, FC2, 13)) (by decide +kernel) (by decide +kernel) rfl (zgV (zin 392 (by decide +kernel) rfl) (zin 394 (by decide +kernel) rfl) (zsel 4 (by decide +kernel) rfl) (zin 3 (by decide +kernel) rfl) (zin 395 (by decide +kernel) rfl)) (by decide +kernel) (by decide +kernel)) ?_
  refine zap (zretA_mono) (zretA_ok (by decide +kernel) rfl (Or.inl ⟨_, rfl⟩)) ?_
  refine zap (zi_mono _ _) (zi_ok (zg_iload_n (j := 3) (by decide +kernel) rfl)) ?_
  refine zap (zi_mono _ _) (zi_ok (zg_iconst (n := 1) (by decide +kernel) (by decide +kernel))) ?_
  refine zap (zi_mono _ _) (zi_ok (zg_iadd (by decide +kernel))) ?_
  refine zap (znewi_mono _) (znewi_ok (by decide +kernel) (zin 109 (by decide +kernel) rfl)) ?_
  refine zap (zi_mono _ _) (zi_ok (zg_astore (by decide +kernel) (by decide +kernel))) ?_
  refine zap (zi_mono _ _) (zi_ok (zg_iconst (n := 0) (by decide +kernel) (by decide +kernel))) ?_
  refine zap (zi_mono _ _) (zi_ok (zg_istore (by decide +kernel) (by decide +kernel))) ?_
  refine zap (zi_mono _ _) (zi_ok (zg_iload (by decide +kernel))) ?_
  refine zap (zi_mono _ _) (zi_ok (zg_iload_n (j := 3) (by decide +kernel) rfl)) ?_
  refine zap (zb_mono _ _) (zb_ok (zb_igt (off := 30) (by decide +kernel) (by decide +kernel))) ?_
  refine zap (zi_mono _ _) (zi_ok (zg_aload (by decide +kernel))) ?_
  refine zap (zi_mono _ _) (zi_ok (zg_iload (by decide +kernel))) ?_
  refine zap (zi_mono _ _) (zi_ok (zg_iload_n (j := 1) (by decide +kernel) rfl)) ?_
  refine zap (zi_mono _ _) (zi_ok (zg_iload_n (j := 2) (by decide +kernel) rfl)) ?_
  refine zap (zb_mono _ _) (zb_ok (zb_igt (off := 10) (by decide +kernel) (by decide +kernel))) ?_
  refine zap (zi_mono _ _) (zi_ok (zg_iload_n (j := 1) (by decide +kernel) rfl)) ?_
  refine zap (zi_mono _ _) (zi_ok (zg_iload (by decide +kernel))) ?_
  refine zap (zi_mono _ _) (zi_ok (zg_iadd (by decide +kernel))) ?_
  refine zap (zj_mono _) (zj_ok (off := 7) (by decide +kernel) (by decide +kernel)) ?_
  refine zap (zi_mono _ _) (zi_ok (zg_iload_n (j := 1) (by decide +kernel) rfl)) ?_
  refine zap (zi_mono _ _) (zi_ok (zg_iload (by decide +kernel))) ?_
  refine zap (zi_mono _ _) (zi_ok (zg_isub (by decide +kernel))) ?_
  refine zap (ziast_mono _) (ziast_ok (by decide +kernel)) ?_
  refine zap (zi_mono _ _) (zi_ok (zg_iinc (n := 1) (by decide +kernel) (by decide +kernel) (by decide +kernel))) ?_
  refine zap (zj_mono _) (zj_ok (off := -30) (by decide +kernel) (by decide +kernel)) ?_
  refine zap (znew_mono _ _ _) (znew_ok (index := 27) (C := RC5) (T := FC5) tC5 (by decide +kernel) rfl iC5 tC5_ok (zin 110 (by decide +kernel) rfl) (zin 111 (by decide +kernel) rfl) (zin 8 (by decide +kernel) rfl) dC5_ok) ?_
  refine zap (zi_mono _ _) (zi_ok (zg_dup (by decide +kernel))) ?_
  refine zap (zi_mono _ _) (zi_ok (zg_aload (by decide +kernel))) ?_
  refine zap (zcI_mono _ _ _) (zcI_ok znst_st (μ' := 5) (na := 1) (index := 29) (by decide +kernel) (by decide +kernel) rfl rfl (zgI (zin 114 (by decide +kernel) rfl)) (zin 8 (by decide +kernel) rfl) (zin 112 (by decide +kernel) rfl) (zin 113 (by decide +kernel) rfl) (by decide +kernel) (by decide +kernel)) ?_
  refine zap (zretA_mono) (zretA_ok (by decide +kernel) rfl (Or.inl ⟨_, rfl⟩)) ?_
  exact zn
/-- java/lang/Math.abs(I)I -/
def tb68 (_ : List (ClassId × FieldType)) : List (Nat × (zP → zP)) := [(0, zi (gIl 0) 1), (1, zb (c1 (fun x => 0 ≤ x)) 9), (4, zi (gIl 0) 1), (5, zi (gIneg) 1), (6, zj 10), (9, zi (gIl 0) 1), (10, zretI)]
set_option maxRecDepth 100000 in
theorem ok68 (l : Launch) (D : va_G) (dA : Nat → ClassId) (b0 : Nat) : ∀ q ∈ tb68 (ztys dA), zOK l D dA b0 68 q.1 q.2 := by
  refine zap (zi_mono _ _) (zi_ok (zg_iload_n (j := 0) (by decide +kernel) rfl)) ?_
  refine zap (zb_mono _ _) (zb_ok (zb_ge (off := 8) (by decide +kernel) (by decide +kernel))) ?_
  refine zap (zi_mono _ _) (zi_ok (zg_iload_n (j := 0) (by decide +kernel) rfl)) ?_
  refine zap (zi_mono _ _) (zi_ok (zg_ineg (by decide +kernel))) ?_
  refine zap (zj_mono _) (zj_ok (off := 4) (by decide +kernel) (by decide +kernel)) ?_
  refine zap (zi_mono _ _) (zi_ok (zg_iload_n (j := 0) (by decide +kernel) rfl)) ?_
  refine zap (zretI_mono) (zretI_ok (by decide +kernel) rfl) ?_
  exact zn
/-- VectorLanguage$Evaluator.pick([I[I)LVectorLanguage$Vector; -/
def tb69 (tys : List (ClassId × FieldType)) : List (Nat × (zP → zP)) := [(0, zi (gAl 0) 1), (1, zget 2 8), (4, zi (gAl 2) 1), (5, zi (gAl 1) 1), (6, zalen tys), (7, zi (gC (.int (1))) 1), (8, zcV 4 42 3 4), (11, zb (c1 (fun x => ¬ x = 0)) 21), (14, zi (gAl 0) 1), (15, zi (gC (.int (8))) 2), (17, zcV 2 25 1 2), (20, zretA), (21, zi (gAl 0) 1), (22, zget 2 8), (25, zget 4 1), (28, znewi tys), (30, zi (gAs 3) 1), (31, zi (gC (.int (0))) 1), (32, zi (gIs 4) 2), (34, zi (gIl 4) 2), (36, zi (gAl 3) 1), (37, zalen tys), (38, zb (c2 (fun x y => y ≤ x)) 84), (41, zi (gAl 0) 1), (42, zget 2 8), (45, zget 4 0), (48, zi (gIl 4) 2), (50, ziald tys), (51, zi (gIs 5) 2), (53, zi (gAl 3) 1), (54, zi (gIl 4) 2), (56, zi (gIl 5) 2), (58, zb (c1 (fun x => x < 0)) 75), (61, zi (gIl 5) 2), (63, zi (gAl 1) 1), (64, zalen tys), (65, zb (c2 (fun x y => y ≤ x)) 75), (68, zi (gAl 1) 1), (69, zi (gIl 5) 2), (71, ziald tys), (72, zj 77), (75, zi (gC (.int (-2147483648))) 2), (77, ziast tys), (78, zi (gIinc 4 (1)) 3), (81, zj 34), (84, znew 5 1 dC5), (87, zi (gDup) 1), (88, zi (gAl 3) 1), (89, zcI 2 5 1), (92, zretA)]
set_option maxRecDepth 100000 in
theorem ok69 (l : Launch) (D : va_G) (dA : Nat → ClassId) (b0 : Nat) : ∀ q ∈ tb69 (ztys dA), zOK l D dA b0 69 q.1 q.2 := by
  refine zap (zi_mono _ _) (zi_ok (zg_aload_n (j := 0) (by decide +kernel) rfl)) ?_
  refine zap (zget_mono _ _) (zget_ok (index := 23) (C := RC2) (ref := "VectorLanguage$Evaluator") (T := FC2) (NN := 13) (by decide +kernel) rfl iC2 (by decide +kernel) (zin 145 (by decide +kernel) rfl) rfl) ?_
  refine zap (zi_mono _ _) (zi_ok (zg_aload_n (j := 2) (by decide +kernel) rfl)) ?_
  refine zap (zi_mono _ _) (zi_ok (zg_aload_n (j := 1) (by decide +kernel) rfl)) ?_
  refine zap (zalen_mono _) (zalen_ok (by decide +kernel)) ?_
  refine zap (zi_mono _ _) (zi_ok (zg_iconst (n := 1) (by decide +kernel) (by decide +kernel))) ?_
  refine zap (zcV_mono _ _ _ _) (zcV_ok znst_st (μ' := 42) (na := 3) (ci := 4) (index := 261) (q := (RC4, FC4, 5)) (by decide +kernel) (by decide +kernel) rfl (zgV (zin 461 (by decide +kernel) rfl) (zin 462 (by decide +kernel) rfl) (zin 463 (by decide +kernel) rfl) (zin 5 (by decide +kernel) rfl) (zin 464 (by decide +kernel) rfl)) (by decide +kernel) (by decide +kernel)) ?_
  refine zap (zb_mono _ _) (zb_ok (zb_ne (off := 10) (by decide +kernel) (by decide +kernel))) ?_
  refine zap (zi_mono _ _) (zi_ok (zg_aload_n (j := 0) (by decide +kernel) rfl)) ?_
  refine zap (zi_mono _ _) (zi_ok (zg_bipush (n := 8) (by decide +kernel) (by decide +kernel))) ?_
  refine zap (zcV_mono _ _ _ _) (zcV_ok znst_st (μ' := 25) (na := 1) (ci := 2) (index := 77) (q := (RC2, FC2, 13)) (by decide +kernel) (by decide +kernel) rfl (zgV (zin 392 (by decide +kernel) rfl) (zin 394 (by decide +kernel) rfl) (zsel 4 (by decide +kernel) rfl) (zin 3 (by decide +kernel) rfl) (zin 395 (by decide +kernel) rfl)) (by decide +kernel) (by decide +kernel)) ?_
  refine zap (zretA_mono) (zretA_ok (by decide +kernel) rfl (Or.inl ⟨_, rfl⟩)) ?_
  refine zap (zi_mono _ _) (zi_ok (zg_aload_n (j := 0) (by decide +kernel) rfl)) ?_
  refine zap (zget_mono _ _) (zget_ok (index := 23) (C := RC2) (ref := "VectorLanguage$Evaluator") (T := FC2) (NN := 13) (by decide +kernel) rfl iC2 (by decide +kernel) (zin 145 (by decide +kernel) rfl) rfl) ?_
  refine zap (zget_mono _ _) (zget_ok (index := 265) (C := RC4) (ref := "VectorLanguage$Places") (T := FC4) (NN := 5) (by decide +kernel) rfl iC4 (by decide +kernel) (zin 94 (by decide +kernel) rfl) rfl) ?_
  refine zap (znewi_mono _) (znewi_ok (by decide +kernel) (zin 109 (by decide +kernel) rfl)) ?_
  refine zap (zi_mono _ _) (zi_ok (zg_astore_n (j := 3) (by decide +kernel) rfl (by decide +kernel))) ?_
  refine zap (zi_mono _ _) (zi_ok (zg_iconst (n := 0) (by decide +kernel) (by decide +kernel))) ?_
  refine zap (zi_mono _ _) (zi_ok (zg_istore (by decide +kernel) (by decide +kernel))) ?_
  refine zap (zi_mono _ _) (zi_ok (zg_iload (by decide +kernel))) ?_
  refine zap (zi_mono _ _) (zi_ok (zg_aload_n (j := 3) (by decide +kernel) rfl)) ?_
  refine zap (zalen_mono _) (zalen_ok (by decide +kernel)) ?_
  refine zap (zb_mono _ _) (zb_ok (zb_ige (off := 46) (by decide +kernel) (by decide +kernel))) ?_
  refine zap (zi_mono _ _) (zi_ok (zg_aload_n (j := 0) (by decide +kernel) rfl)) ?_
  refine zap (zget_mono _ _) (zget_ok (index := 23) (C := RC2) (ref := "VectorLanguage$Evaluator") (T := FC2) (NN := 13) (by decide +kernel) rfl iC2 (by decide +kernel) (zin 145 (by decide +kernel) rfl) rfl) ?_
  refine zap (zget_mono _ _) (zget_ok (index := 268) (C := RC4) (ref := "VectorLanguage$Places") (T := FC4) (NN := 5) (by decide +kernel) rfl iC4 (by decide +kernel) (zin 92 (by decide +kernel) rfl) rfl) ?_
  refine zap (zi_mono _ _) (zi_ok (zg_iload (by decide +kernel))) ?_
  refine zap (ziald_mono _) (ziald_ok (by decide +kernel)) ?_
  refine zap (zi_mono _ _) (zi_ok (zg_istore (by decide +kernel) (by decide +kernel))) ?_
  refine zap (zi_mono _ _) (zi_ok (zg_aload_n (j := 3) (by decide +kernel) rfl)) ?_
  refine zap (zi_mono _ _) (zi_ok (zg_iload (by decide +kernel))) ?_
  refine zap (zi_mono _ _) (zi_ok (zg_iload (by decide +kernel))) ?_
  refine zap (zb_mono _ _) (zb_ok (zb_lt (off := 17) (by decide +kernel) (by decide +kernel))) ?_
  refine zap (zi_mono _ _) (zi_ok (zg_iload (by decide +kernel))) ?_
  refine zap (zi_mono _ _) (zi_ok (zg_aload_n (j := 1) (by decide +kernel) rfl)) ?_
  refine zap (zalen_mono _) (zalen_ok (by decide +kernel)) ?_
  refine zap (zb_mono _ _) (zb_ok (zb_ige (off := 10) (by decide +kernel) (by decide +kernel))) ?_
  refine zap (zi_mono _ _) (zi_ok (zg_aload_n (j := 1) (by decide +kernel) rfl)) ?_
  refine zap (zi_mono _ _) (zi_ok (zg_iload (by decide +kernel))) ?_
  refine zap (ziald_mono _) (ziald_ok (by decide +kernel)) ?_
  refine zap (zj_mono _) (zj_ok (off := 5) (by decide +kernel) (by decide +kernel)) ?_
  refine zap (zi_mono _ _) (zi_ok (zg_ldc (index := 36) (by decide +kernel) (zin 128 (by decide +kernel) rfl))) ?_
  refine zap (ziast_mono _) (ziast_ok (by decide +kernel)) ?_
  refine zap (zi_mono _ _) (zi_ok (zg_iinc (n := 1) (by decide +kernel) (by decide +kernel) (by decide +kernel))) ?_
  refine zap (zj_mono _) (zj_ok (off := -47) (by decide +kernel) (by decide +kernel)) ?_
  refine zap (znew_mono _ _ _) (znew_ok (index := 27) (C := RC5) (T := FC5) tC5 (by decide +kernel) rfl iC5 tC5_ok (zin 110 (by decide +kernel) rfl) (zin 111 (by decide +kernel) rfl) (zin 8 (by decide +kernel) rfl) dC5_ok) ?_
  refine zap (zi_mono _ _) (zi_ok (zg_dup (by decide +kernel))) ?_
  refine zap (zi_mono _ _) (zi_ok (zg_aload_n (j := 3) (by decide +kernel) rfl)) ?_
  refine zap (zcI_mono _ _ _) (zcI_ok znst_st (μ' := 5) (na := 1) (index := 29) (by decide +kernel) (by decide +kernel) rfl rfl (zgI (zin 114 (by decide +kernel) rfl)) (zin 8 (by decide +kernel) rfl) (zin 112 (by decide +kernel) rfl) (zin 113 (by decide +kernel) rfl) (by decide +kernel) (by decide +kernel)) ?_
  refine zap (zretA_mono) (zretA_ok (by decide +kernel) rfl (Or.inl ⟨_, rfl⟩)) ?_
  exact zn
/-- VectorLanguage$Elements.same([I[I)Z -/
def tb70 (tys : List (ClassId × FieldType)) : List (Nat × (zP → zP)) := [(0, zi (gAl 0) 1), (1, zalen tys), (2, zi (gAl 1) 1), (3, zalen tys), (4, zb (c2 (fun x y => x = y)) 9), (7, zi (gC (.int (0))) 1), (8, zretZ), (9, zi (gC (.int (0))) 1), (10, zi (gIs 2) 1), (11, zi (gIl 2) 1), (12, zi (gAl 0) 1), (13, zalen tys), (14, zb (c2 (fun x y => y ≤ x)) 34), (17, zi (gAl 0) 1), (18, zi (gIl 2) 1), (19, ziald tys), (20, zi (gAl 1) 1), (21, zi (gIl 2) 1), (22, ziald tys), (23, zb (c2 (fun x y => x = y)) 28), (26, zi (gC (.int (0))) 1), (27, zretZ), (28, zi (gIinc 2 (1)) 3), (31, zj 11), (34, zi (gC (.int (1))) 1), (35, zretZ)]
set_option maxRecDepth 100000 in
theorem ok70 (l : Launch) (D : va_G) (dA : Nat → ClassId) (b0 : Nat) : ∀ q ∈ tb70 (ztys dA), zOK l D dA b0 70 q.1 q.2 := by
  refine zap (zi_mono _ _) (zi_ok (zg_aload_n (j := 0) (by decide +kernel) rfl)) ?_
  refine zap (zalen_mono _) (zalen_ok (by decide +kernel)) ?_
  refine zap (zi_mono _ _) (zi_ok (zg_aload_n (j := 1) (by decide +kernel) rfl)) ?_
  refine zap (zalen_mono _) (zalen_ok (by decide +kernel)) ?_
  refine zap (zb_mono _ _) (zb_ok (zb_ieq (off := 5) (by decide +kernel) (by decide +kernel))) ?_
  refine zap (zi_mono _ _) (zi_ok (zg_iconst (n := 0) (by decide +kernel) (by decide +kernel))) ?_
  refine zap (zretZ_mono) (zretZ_ok (by decide +kernel) rfl) ?_
  refine zap (zi_mono _ _) (zi_ok (zg_iconst (n := 0) (by decide +kernel) (by decide +kernel))) ?_
  refine zap (zi_mono _ _) (zi_ok (zg_istore_n (j := 2) (by decide +kernel) rfl (by decide +kernel))) ?_
  refine zap (zi_mono _ _) (zi_ok (zg_iload_n (j := 2) (by decide +kernel) rfl)) ?_
  refine zap (zi_mono _ _) (zi_ok (zg_aload_n (j := 0) (by decide +kernel) rfl)) ?_
  refine zap (zalen_mono _) (zalen_ok (by decide +kernel)) ?_
  refine zap (zb_mono _ _) (zb_ok (zb_ige (off := 20) (by decide +kernel) (by decide +kernel))) ?_
  refine zap (zi_mono _ _) (zi_ok (zg_aload_n (j := 0) (by decide +kernel) rfl)) ?_
  refine zap (zi_mono _ _) (zi_ok (zg_iload_n (j := 2) (by decide +kernel) rfl)) ?_
  refine zap (ziald_mono _) (ziald_ok (by decide +kernel)) ?_
  refine zap (zi_mono _ _) (zi_ok (zg_aload_n (j := 1) (by decide +kernel) rfl)) ?_
  refine zap (zi_mono _ _) (zi_ok (zg_iload_n (j := 2) (by decide +kernel) rfl)) ?_
  refine zap (ziald_mono _) (ziald_ok (by decide +kernel)) ?_
  refine zap (zb_mono _ _) (zb_ok (zb_ieq (off := 5) (by decide +kernel) (by decide +kernel))) ?_
  refine zap (zi_mono _ _) (zi_ok (zg_iconst (n := 0) (by decide +kernel) (by decide +kernel))) ?_
  refine zap (zretZ_mono) (zretZ_ok (by decide +kernel) rfl) ?_
  refine zap (zi_mono _ _) (zi_ok (zg_iinc (n := 1) (by decide +kernel) (by decide +kernel) (by decide +kernel))) ?_
  refine zap (zj_mono _) (zj_ok (off := -20) (by decide +kernel) (by decide +kernel)) ?_
  refine zap (zi_mono _ _) (zi_ok (zg_iconst (n := 1) (by decide +kernel) (by decide +kernel))) ?_
  refine zap (zretZ_mono) (zretZ_ok (by decide +kernel) rfl) ?_
  exact zn
