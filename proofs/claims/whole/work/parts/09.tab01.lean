/-- VectorLanguage$Expression.<init>(IIII)V -/
def tb20 (_ : List (ClassId × FieldType)) : List (Nat × (zP → zP)) := [(0, zi (gAl 0) 1), (1, zobj), (4, zi (gAl 0) 1), (5, zi (gIl 1) 1), (6, zput (.int) 6 0), (9, zi (gAl 0) 1), (10, zi (gIl 2) 1), (11, zput (.int) 6 1), (14, zi (gAl 0) 1), (15, zi (gIl 3) 1), (16, zput (.int) 6 2), (19, zi (gAl 0) 1), (20, zi (gIl 4) 2), (22, zput (.int) 6 3), (25, zi (gAl 0) 1), (26, zi (gIl 1) 1), (27, zb (c1 (fun x => ¬ x = 0)) 41), (30, znew 5 1 dC5), (33, zi (gDup) 1), (34, zi (gIl 2) 1), (35, zcI 2 8 1), (38, zj 42), (41, zi (gC .null) 1), (42, zput (.object "VectorLanguage$Vector") 6 4), (45, zretV)]
set_option maxRecDepth 100000 in
theorem ok20 (l : Launch) (D : va_G) (dA : Nat → ClassId) (b0 : Nat) : ∀ q ∈ tb20 (ztys dA), zOK l D dA b0 20 q.1 q.2 := by
  refine zap (zi_mono _ _) (zi_ok (zg_aload_n (j := 0) (by decide +kernel) rfl)) ?_
  refine zap (zobj_mono) (zobj_ok (idx := 3) (by decide +kernel) (zin 328 (by decide +kernel) rfl) (zin 32 (by decide +kernel) rfl) (zin 33 (by decide +kernel) rfl)) ?_
  refine zap (zi_mono _ _) (zi_ok (zg_aload_n (j := 0) (by decide +kernel) rfl)) ?_
  refine zap (zi_mono _ _) (zi_ok (zg_iload_n (j := 1) (by decide +kernel) rfl)) ?_
  refine zap (zput_mono _ _ _) (zput_ok (index := 9) (C := RC6) (ref := "VectorLanguage$Expression") (T := FC6) (NN := 5) tC6 (by decide +kernel) rfl iC6 tC6_ok nC6 (by decide +kernel) (zin 331 (by decide +kernel) rfl) rfl (Or.inr ⟨rfl, rfl, rfl⟩) rfl) ?_
  refine zap (zi_mono _ _) (zi_ok (zg_aload_n (j := 0) (by decide +kernel) rfl)) ?_
  refine zap (zi_mono _ _) (zi_ok (zg_iload_n (j := 2) (by decide +kernel) rfl)) ?_
  refine zap (zput_mono _ _ _) (zput_ok (index := 15) (C := RC6) (ref := "VectorLanguage$Expression") (T := FC6) (NN := 5) tC6 (by decide +kernel) rfl iC6 tC6_ok nC6 (by decide +kernel) (zin 333 (by decide +kernel) rfl) rfl (Or.inr ⟨rfl, rfl, rfl⟩) rfl) ?_
  refine zap (zi_mono _ _) (zi_ok (zg_aload_n (j := 0) (by decide +kernel) rfl)) ?_
  refine zap (zi_mono _ _) (zi_ok (zg_iload_n (j := 3) (by decide +kernel) rfl)) ?_
  refine zap (zput_mono _ _ _) (zput_ok (index := 18) (C := RC6) (ref := "VectorLanguage$Expression") (T := FC6) (NN := 5) tC6 (by decide +kernel) rfl iC6 tC6_ok nC6 (by decide +kernel) (zin 335 (by decide +kernel) rfl) rfl (Or.inr ⟨rfl, rfl, rfl⟩) rfl) ?_
  refine zap (zi_mono _ _) (zi_ok (zg_aload_n (j := 0) (by decide +kernel) rfl)) ?_
  refine zap (zi_mono _ _) (zi_ok (zg_iload (by decide +kernel))) ?_
  refine zap (zput_mono _ _ _) (zput_ok (index := 21) (C := RC6) (ref := "VectorLanguage$Expression") (T := FC6) (NN := 5) tC6 (by decide +kernel) rfl iC6 tC6_ok nC6 (by decide +kernel) (zin 337 (by decide +kernel) rfl) rfl (Or.inr ⟨rfl, rfl, rfl⟩) rfl) ?_
  refine zap (zi_mono _ _) (zi_ok (zg_aload_n (j := 0) (by decide +kernel) rfl)) ?_
  refine zap (zi_mono _ _) (zi_ok (zg_iload_n (j := 1) (by decide +kernel) rfl)) ?_
  refine zap (zb_mono _ _) (zb_ok (zb_ne (off := 14) (by decide +kernel) (by decide +kernel))) ?_
  refine zap (znew_mono _ _ _) (znew_ok (index := 24) (C := RC5) (T := FC5) tC5 (by decide +kernel) rfl iC5 tC5_ok (zin 329 (by decide +kernel) rfl) (zin 111 (by decide +kernel) rfl) (zin 8 (by decide +kernel) rfl) dC5_ok) ?_
  refine zap (zi_mono _ _) (zi_ok (zg_dup (by decide +kernel))) ?_
  refine zap (zi_mono _ _) (zi_ok (zg_iload_n (j := 2) (by decide +kernel) rfl)) ?_
  refine zap (zcI_mono _ _ _) (zcI_ok znst_st (μ' := 8) (na := 1) (index := 26) (by decide +kernel) (by decide +kernel) rfl rfl (zgI (zin 131 (by decide +kernel) rfl)) (zin 8 (by decide +kernel) rfl) (zin 330 (by decide +kernel) rfl) (zin 130 (by decide +kernel) rfl) (by decide +kernel) (by decide +kernel)) ?_
  refine zap (zj_mono _) (zj_ok (off := 4) (by decide +kernel) (by decide +kernel)) ?_
  refine zap (zi_mono _ _) (zi_ok (zg_null (by decide +kernel))) ?_
  refine zap (zput_mono _ _ _) (zput_ok (index := 29) (C := RC6) (ref := "VectorLanguage$Expression") (T := FC6) (NN := 5) tC6 (by decide +kernel) rfl iC6 tC6_ok nC6 (by decide +kernel) (zin 339 (by decide +kernel) rfl) rfl (Or.inr ⟨rfl, rfl, rfl⟩) rfl) ?_
  refine zap (zretV_mono) (zretV_ok (by decide +kernel) rfl) ?_
  exact zn
/-- VectorLanguage$Program.add(LVectorLanguage$Expression;)I -/
def tb21 (tys : List (ClassId × FieldType)) : List (Nat × (zP → zP)) := [(0, zi (gAl 0) 1), (1, zget 1 0), (4, zi (gAl 0) 1), (5, zget 1 1), (8, zi (gAl 1) 1), (9, zaast tys "VectorLanguage$Expression" [6]), (10, zi (gAl 0) 1), (11, zi (gDup) 1), (12, zget 1 1), (15, zi (gC (.int (1))) 1), (16, zi (gII (fun x y => x + y)) 1), (17, zput (.int) 1 1), (20, zi (gAl 0) 1), (21, zget 1 1), (24, zi (gC (.int (1))) 1), (25, zi (gII (fun x y => x - y)) 1), (26, zretI)]
set_option maxRecDepth 100000 in
theorem ok21 (l : Launch) (D : va_G) (dA : Nat → ClassId) (b0 : Nat) : ∀ q ∈ tb21 (ztys dA), zOK l D dA b0 21 q.1 q.2 := by
  refine zap (zi_mono _ _) (zi_ok (zg_aload_n (j := 0) (by decide +kernel) rfl)) ?_
  refine zap (zget_mono _ _) (zget_ok (index := 11) (C := RC1) (ref := "VectorLanguage$Program") (T := FC1) (NN := 2) (by decide +kernel) rfl iC1 (by decide +kernel) (zin 42 (by decide +kernel) rfl) rfl) ?_
  refine zap (zi_mono _ _) (zi_ok (zg_aload_n (j := 0) (by decide +kernel) rfl)) ?_
  refine zap (zget_mono _ _) (zget_ok (index := 17) (C := RC1) (ref := "VectorLanguage$Program") (T := FC1) (NN := 2) (by decide +kernel) rfl iC1 (by decide +kernel) (zin 44 (by decide +kernel) rfl) rfl) ?_
  refine zap (zi_mono _ _) (zi_ok (zg_aload_n (j := 1) (by decide +kernel) rfl)) ?_
  refine zap (zaast_mono _ _ _) (zaast_ok (by decide +kernel) (za ⟨_, rfl, Or.inl rfl⟩ zn)) ?_
  refine zap (zi_mono _ _) (zi_ok (zg_aload_n (j := 0) (by decide +kernel) rfl)) ?_
  refine zap (zi_mono _ _) (zi_ok (zg_dup (by decide +kernel))) ?_
  refine zap (zget_mono _ _) (zget_ok (index := 17) (C := RC1) (ref := "VectorLanguage$Program") (T := FC1) (NN := 2) (by decide +kernel) rfl iC1 (by decide +kernel) (zin 44 (by decide +kernel) rfl) rfl) ?_
  refine zap (zi_mono _ _) (zi_ok (zg_iconst (n := 1) (by decide +kernel) (by decide +kernel))) ?_
  refine zap (zi_mono _ _) (zi_ok (zg_iadd (by decide +kernel))) ?_
  refine zap (zput_mono _ _ _) (zput_ok (index := 17) (C := RC1) (ref := "VectorLanguage$Program") (T := FC1) (NN := 2) tC1 (by decide +kernel) rfl iC1 tC1_ok nC1 (by decide +kernel) (zin 44 (by decide +kernel) rfl) rfl (Or.inl rfl) rfl) ?_
  refine zap (zi_mono _ _) (zi_ok (zg_aload_n (j := 0) (by decide +kernel) rfl)) ?_
  refine zap (zget_mono _ _) (zget_ok (index := 17) (C := RC1) (ref := "VectorLanguage$Program") (T := FC1) (NN := 2) (by decide +kernel) rfl iC1 (by decide +kernel) (zin 44 (by decide +kernel) rfl) rfl) ?_
  refine zap (zi_mono _ _) (zi_ok (zg_iconst (n := 1) (by decide +kernel) (by decide +kernel))) ?_
  refine zap (zi_mono _ _) (zi_ok (zg_isub (by decide +kernel))) ?_
  refine zap (zretI_mono) (zretI_ok (by decide +kernel) rfl) ?_
  exact zn
/-- VectorLanguage.run(I)I -/
def tb22 (_ : List (ClassId × FieldType)) : List (Nat × (zP → zP)) := [(0, zi (gAl 0) 1), (1, zget 0 0), (4, zi (gIl 1) 1), (5, zcV 2 16 1 1), (8, zb (c1 (fun x => ¬ x = 0)) 21), (14, zi (gDup) 1), (21, zi (gAl 0) 1), (22, zget 0 1), (25, zi (gIl 1) 1), (26, zcV 3 23 1 2), (29, zi (gAs 2) 1), (30, zi (gAl 2) 1), (31, zb (cNN) 45), (34, zi (gAl 0) 1), (35, zget 0 1), (38, zget 2 5), (41, zcS 1 79 1), (44, zretI), (45, zi (gAl 0) 1), (46, zi (gAl 2) 1), (47, zput (.object "VectorLanguage$Value") 0 2), (50, zi (gAl 2) 1), (51, zor (zcV 1 81 0 5) (zcV 1 80 0 7)), (54, zretI)]
set_option maxRecDepth 100000 in
theorem ok22 (l : Launch) (D : va_G) (dA : Nat → ClassId) (b0 : Nat) : ∀ q ∈ tb22 (ztys dA), zOK l D dA b0 22 q.1 q.2 := by
  refine zap (zi_mono _ _) (zi_ok (zg_aload_n (j := 0) (by decide +kernel) rfl)) ?_
  refine zap (zget_mono _ _) (zget_ok (index := 10) (C := RC0) (ref := "VectorLanguage") (T := FC0) (NN := 3) (by decide +kernel) rfl iC0 (by decide +kernel) (zin 177 (by decide +kernel) rfl) rfl) ?_
  refine zap (zi_mono _ _) (zi_ok (zg_iload_n (j := 1) (by decide +kernel) rfl)) ?_
  refine zap (zcV_mono _ _ _ _) (zcV_ok znst_st (μ' := 16) (na := 1) (ci := 1) (index := 58) (q := (RC1, FC1, 2)) (by decide +kernel) (by decide +kernel) rfl (zgV (zin 367 (by decide +kernel) rfl) (zin 222 (by decide +kernel) rfl) (zin 223 (by decide +kernel) rfl) (zin 2 (by decide +kernel) rfl) (zin 224 (by decide +kernel) rfl)) (by decide +kernel) (by decide +kernel)) ?_
  refine zap (zb_mono _ _) (zb_ok (zb_ne (off := 13) (by decide +kernel) (by decide +kernel))) ?_
  refine zap (zi_mono _ _) (zi_ok (zg_dup (by decide +kernel))) ?_
  refine zap (zi_mono _ _) (zi_ok (zg_aload_n (j := 0) (by decide +kernel) rfl)) ?_
  refine zap (zget_mono _ _) (zget_ok (index := 21) (C := RC0) (ref := "VectorLanguage") (T := FC0) (NN := 3) (by decide +kernel) rfl iC0 (by decide +kernel) (zin 178 (by decide +kernel) rfl) rfl) ?_
  refine zap (zi_mono _ _) (zi_ok (zg_iload_n (j := 1) (by decide +kernel) rfl)) ?_
  refine zap (zcV_mono _ _ _ _) (zcV_ok znst_st (μ' := 23) (na := 1) (ci := 2) (index := 67) (q := (RC2, FC2, 13)) (by decide +kernel) (by decide +kernel) rfl (zgV (zin 384 (by decide +kernel) rfl) (zin 385 (by decide +kernel) rfl) (zin 386 (by decide +kernel) rfl) (zin 3 (by decide +kernel) rfl) (zin 387 (by decide +kernel) rfl)) (by decide +kernel) (by decide +kernel)) ?_
  refine zap (zi_mono _ _) (zi_ok (zg_astore_n (j := 2) (by decide +kernel) rfl (by decide +kernel))) ?_
  refine zap (zi_mono _ _) (zi_ok (zg_aload_n (j := 2) (by decide +kernel) rfl)) ?_
  refine zap (zb_mono _ _) (zb_ok (zb_nonnull (off := 14) (by decide +kernel) (by decide +kernel))) ?_
  refine zap (zi_mono _ _) (zi_ok (zg_aload_n (j := 0) (by decide +kernel) rfl)) ?_
  refine zap (zget_mono _ _) (zget_ok (index := 21) (C := RC0) (ref := "VectorLanguage") (T := FC0) (NN := 3) (by decide +kernel) rfl iC0 (by decide +kernel) (zin 178 (by decide +kernel) rfl) rfl) ?_
  refine zap (zget_mono _ _) (zget_ok (index := 71) (C := RC2) (ref := "VectorLanguage$Evaluator") (T := FC2) (NN := 13) (by decide +kernel) rfl iC2 (by decide +kernel) (zin 142 (by decide +kernel) rfl) rfl) ?_
  refine zap (zcS_mono _ _ _) (zcS_ok znst_st (μ' := 79) (na := 1) (index := 74) (by decide +kernel) (by decide +kernel) (zgS (zin 646 (by decide +kernel) rfl) (zin 647 (by decide +kernel) rfl) (zin 1 (by decide +kernel) rfl) (zin 648 (by decide +kernel) rfl)) (by decide +kernel) (by decide +kernel)) ?_
  refine zap (zretI_mono) (zretI_ok (by decide +kernel) rfl) ?_
  refine zap (zi_mono _ _) (zi_ok (zg_aload_n (j := 0) (by decide +kernel) rfl)) ?_
  refine zap (zi_mono _ _) (zi_ok (zg_aload_n (j := 2) (by decide +kernel) rfl)) ?_
  refine zap (zput_mono _ _ _) (zput_ok (index := 25) (C := RC0) (ref := "VectorLanguage") (T := FC0) (NN := 3) tC0 (by decide +kernel) rfl iC0 tC0_ok nC0 (by decide +kernel) (zin 179 (by decide +kernel) rfl) rfl (Or.inl rfl) rfl) ?_
  refine zap (zi_mono _ _) (zi_ok (zg_aload_n (j := 2) (by decide +kernel) rfl)) ?_
  refine zap (zor_mono (zcV_mono _ _ _ _) (zcV_mono _ _ _ _)) (zor_ok (zcA_ok znst_st (μ' := 81) (na := 0) (ci := 5) (index := 78) (owner := "VectorLanguage$Value") (x := ⟨"VectorLanguage$Value", "size", "()I"⟩) (q := (RC5, FC5, 1)) (by decide +kernel) (by decide +kernel) rfl (zgU (zin 699 (by decide +kernel) rfl) (zin 701 (by decide +kernel) rfl) (zin 705 (by decide +kernel) rfl) (zin 706 (by decide +kernel) rfl) (zin 8 (by decide +kernel) rfl) (zin 707 (by decide +kernel) rfl)) (List.mem_of_getElem? (i := 16) rfl) (by decide +kernel) (by decide +kernel)) (zcA_ok znst_st (μ' := 80) (na := 0) (ci := 7) (index := 78) (owner := "VectorLanguage$Value") (x := ⟨"VectorLanguage$Value", "size", "()I"⟩) (q := (RC7, FC7, 4)) (by decide +kernel) (by decide +kernel) rfl (zgU (zin 699 (by decide +kernel) rfl) (zin 701 (by decide +kernel) rfl) (zin 702 (by decide +kernel) rfl) (zin 703 (by decide +kernel) rfl) (zin 21 (by decide +kernel) rfl) (zin 704 (by decide +kernel) rfl)) (List.mem_of_getElem? (i := 16) rfl) (by decide +kernel) (by decide +kernel))) ?_
  refine zap (zretI_mono) (zretI_ok (by decide +kernel) rfl) ?_
  exact zn
/-- VectorLanguage$Evaluator.perform(I)LVectorLanguage$Value; -/
def tb23 (_ : List (ClassId × FieldType)) : List (Nat × (zP → zP)) := [(0, zi (gAl 0) 1), (1, zi (gC (.int (0))) 1), (2, zput (.int) 2 3), (5, zi (gAl 0) 1), (6, zi (gC (.int (0))) 1), (7, zput (.int) 2 4), (10, zi (gAl 0) 1), (11, zi (gC (.int (0))) 1), (12, zput (.int) 2 5), (15, zi (gAl 0) 1), (16, zi (gIl 1) 1), (17, zi (gAl 0) 1), (18, zget 2 1), (21, zi (gC (.int (0))) 1), (22, zcV 5 24 3 2), (25, zi (gAs 2) 1), (26, zi (gAl 2) 1), (27, zb (cNN) 41), (30, zi (gAl 0) 1), (31, zi (gAl 0) 1), (32, zget 2 1), (35, zcV 3 58 1 2), (38, zj 42), (41, zi (gAl 2) 1), (42, zretA)]
set_option maxRecDepth 100000 in
theorem ok23 (l : Launch) (D : va_G) (dA : Nat → ClassId) (b0 : Nat) : ∀ q ∈ tb23 (ztys dA), zOK l D dA b0 23 q.1 q.2 := by
  refine zap (zi_mono _ _) (zi_ok (zg_aload_n (j := 0) (by decide +kernel) rfl)) ?_
  refine zap (zi_mono _ _) (zi_ok (zg_iconst (n := 0) (by decide +kernel) (by decide +kernel))) ?_
  refine zap (zput_mono _ _ _) (zput_ok (index := 53) (C := RC2) (ref := "VectorLanguage$Evaluator") (T := FC2) (NN := 13) tC2 (by decide +kernel) rfl iC2 tC2_ok nC2 (by decide +kernel) (zin 137 (by decide +kernel) rfl) rfl (Or.inl rfl) rfl) ?_
  refine zap (zi_mono _ _) (zi_ok (zg_aload_n (j := 0) (by decide +kernel) rfl)) ?_
  refine zap (zi_mono _ _) (zi_ok (zg_iconst (n := 0) (by decide +kernel) (by decide +kernel))) ?_
  refine zap (zput_mono _ _ _) (zput_ok (index := 57) (C := RC2) (ref := "VectorLanguage$Evaluator") (T := FC2) (NN := 13) tC2 (by decide +kernel) rfl iC2 tC2_ok nC2 (by decide +kernel) (zin 139 (by decide +kernel) rfl) rfl (Or.inl rfl) rfl) ?_
  refine zap (zi_mono _ _) (zi_ok (zg_aload_n (j := 0) (by decide +kernel) rfl)) ?_
  refine zap (zi_mono _ _) (zi_ok (zg_iconst (n := 0) (by decide +kernel) (by decide +kernel))) ?_
  refine zap (zput_mono _ _ _) (zput_ok (index := 60) (C := RC2) (ref := "VectorLanguage$Evaluator") (T := FC2) (NN := 13) tC2 (by decide +kernel) rfl iC2 tC2_ok nC2 (by decide +kernel) (zin 141 (by decide +kernel) rfl) rfl (Or.inl rfl) rfl) ?_
  refine zap (zi_mono _ _) (zi_ok (zg_aload_n (j := 0) (by decide +kernel) rfl)) ?_
  refine zap (zi_mono _ _) (zi_ok (zg_iload_n (j := 1) (by decide +kernel) rfl)) ?_
  refine zap (zi_mono _ _) (zi_ok (zg_aload_n (j := 0) (by decide +kernel) rfl)) ?_
  refine zap (zget_mono _ _) (zget_ok (index := 14) (C := RC2) (ref := "VectorLanguage$Evaluator") (T := FC2) (NN := 13) (by decide +kernel) rfl iC2 (by decide +kernel) (zin 133 (by decide +kernel) rfl) rfl) ?_
  refine zap (zi_mono _ _) (zi_ok (zg_iconst (n := 0) (by decide +kernel) (by decide +kernel))) ?_
  refine zap (zcV_mono _ _ _ _) (zcV_ok znst_st (μ' := 24) (na := 3) (ci := 2) (index := 63) (q := (RC2, FC2, 13)) (by decide +kernel) (by decide +kernel) rfl (zgV (zin 388 (by decide +kernel) rfl) (zin 390 (by decide +kernel) rfl) (zsel 3 (by decide +kernel) rfl) (zin 3 (by decide +kernel) rfl) (zin 391 (by decide +kernel) rfl)) (by decide +kernel) (by decide +kernel)) ?_
  refine zap (zi_mono _ _) (zi_ok (zg_astore_n (j := 2) (by decide +kernel) rfl (by decide +kernel))) ?_
  refine zap (zi_mono _ _) (zi_ok (zg_aload_n (j := 2) (by decide +kernel) rfl)) ?_
  refine zap (zb_mono _ _) (zb_ok (zb_nonnull (off := 14) (by decide +kernel) (by decide +kernel))) ?_
  refine zap (zi_mono _ _) (zi_ok (zg_aload_n (j := 0) (by decide +kernel) rfl)) ?_
  refine zap (zi_mono _ _) (zi_ok (zg_aload_n (j := 0) (by decide +kernel) rfl)) ?_
  refine zap (zget_mono _ _) (zget_ok (index := 14) (C := RC2) (ref := "VectorLanguage$Evaluator") (T := FC2) (NN := 13) (by decide +kernel) rfl iC2 (by decide +kernel) (zin 133 (by decide +kernel) rfl) rfl) ?_
  refine zap (zcV_mono _ _ _ _) (zcV_ok znst_st (μ' := 58) (na := 1) (ci := 2) (index := 67) (q := (RC2, FC2, 13)) (by decide +kernel) (by decide +kernel) rfl (zgV (zin 569 (by decide +kernel) rfl) (zin 571 (by decide +kernel) rfl) (zsel 24 (by decide +kernel) rfl) (zin 3 (by decide +kernel) rfl) (zin 572 (by decide +kernel) rfl)) (by decide +kernel) (by decide +kernel)) ?_
  refine zap (zj_mono _) (zj_ok (off := 4) (by decide +kernel) (by decide +kernel)) ?_
  refine zap (zi_mono _ _) (zi_ok (zg_aload_n (j := 2) (by decide +kernel) rfl)) ?_
  refine zap (zretA_mono) (zretA_ok (by decide +kernel) rfl (Or.inl ⟨_, rfl⟩)) ?_
  exact zn
/-- VectorLanguage$Evaluator.evaluate(ILVectorLanguage$Environment;I)LVectorLanguage$Value; -/
def tb24 (tys : List (ClassId × FieldType)) : List (Nat × (zP → zP)) := [(0, zi (gAl 0) 1), (1, zget 2 3), (4, zi (gC (.int (400))) 3), (7, zb (c2 (fun x y => y ≤ x)) 16), (10, zi (gIl 3) 1), (11, zi (gC (.int (40))) 2), (13, zb (c2 (fun x y => x < y)) 23), (16, zi (gAl 0) 1), (17, zi (gC (.int (9))) 2), (19, zcV 2 25 1 2), (22, zretA), (23, zi (gAl 0) 1), (24, zi (gDup) 1), (25, zget 2 3), (28, zi (gC (.int (1))) 1), (29, zi (gII (fun x y => x + y)) 1), (30, zput (.int) 2 3), (33, zi (gAl 0) 1), (34, zget 2 0), (37, zget 1 0), (40, zi (gIl 1) 1), (41, zaald tys), (42, zi (gAs 4) 2), (44, zi (gAl 4) 2), (46, zget 6 0), (49, zsw [(0, 164), (1, 170), (2, 175), (3, 180), (4, 191), (5, 191), (6, 345), (7, 345), (8, 345), (9, 202), (10, 345), (11, 345), (12, 345), (13, 213), (14, 202), (15, 202), (16, 224), (17, 235), (18, 246), (19, 280), (20, 304), (21, 315), (22, 323), (23, 202), (24, 334)] 345), (164, zi (gAl 4) 2), (166, zget 6 4), (169, zretA), (170, zi (gAl 0) 1), (171, zget 2 10), (174, zretA), (175, zi (gAl 0) 1), (176, zget 2 9), (179, zretA), (180, zi (gAl 0) 1), (181, zi (gAl 4) 2), (183, zi (gAl 2) 1), (184, zi (gIl 3) 1), (185, zi (gC (.int (1))) 1), (186, zi (gII (fun x y => x + y)) 1), (187, zcV 5 26 3 2), (190, zretA), (191, zi (gAl 0) 1), (192, zi (gAl 4) 2), (194, zi (gAl 2) 1), (195, zi (gIl 3) 1), (196, zi (gC (.int (1))) 1), (197, zi (gII (fun x y => x + y)) 1), (198, zcV 6 30 3 2), (201, zretA), (202, zi (gAl 0) 1), (203, zi (gAl 4) 2), (205, zi (gAl 2) 1), (206, zi (gIl 3) 1), (207, zi (gC (.int (1))) 1), (208, zi (gII (fun x y => x + y)) 1), (209, zcV 5 32 3 2), (212, zretA), (213, zi (gAl 0) 1), (214, zi (gAl 4) 2), (216, zi (gAl 2) 1), (217, zi (gIl 3) 1), (218, zi (gC (.int (1))) 1), (219, zi (gII (fun x y => x + y)) 1), (220, zcV 11 40 3 2), (223, zretA), (224, zi (gAl 0) 1), (225, zi (gAl 4) 2), (227, zi (gAl 2) 1), (228, zi (gIl 3) 1), (229, zi (gC (.int (1))) 1), (230, zi (gII (fun x y => x + y)) 1), (231, zcV 5 51 3 2), (234, zretA), (235, zi (gAl 0) 1), (236, zi (gAl 4) 2), (238, zi (gAl 2) 1), (239, zi (gIl 3) 1), (240, zi (gC (.int (1))) 1), (241, zi (gII (fun x y => x + y)) 1), (242, zcV 6 53 3 2), (245, zretA), (246, zi (gAl 0) 1), (247, zi (gAl 4) 2), (249, zget 6 1), (252, zi (gAl 2) 1), (253, zi (gIl 3) 1), (254, zi (gC (.int (1))) 1), (255, zi (gII (fun x y => x + y)) 1), (256, zcV 5 24 3 2), (259, zb (cNN) 266), (262, zi (gC .null) 1), (263, zj 279), (266, zi (gAl 0) 1), (267, zi (gAl 4) 2), (269, zget 6 2), (272, zi (gAl 2) 1), (273, zi (gIl 3) 1), (274, zi (gC (.int (1))) 1), (275, zi (gII (fun x y => x + y)) 1), (276, zcV 5 24 3 2), (279, zretA), (280, znew 7 4 dC7), (283, zi (gDup) 1), (284, zi (gAl 4) 2), (286, zget 6 1), (289, zi (gAl 4) 2), (291, zget 6 2), (294, zi (gAl 4) 2), (296, zget 6 3), (299, zi (gAl 2) 1), (300, zcI 5 54 4), (303, zretA), (304, zi (gAl 0) 1), (305, zi (gAl 4) 2), (307, zi (gAl 2) 1), (308, zi (gIl 3) 1), (309, zi (gC (.int (1))) 1), (310, zi (gII (fun x y => x + y)) 1), (311, zcV 6 55 3 2), (314, zretA), (315, zi (gAl 0) 1), (316, zi (gAl 4) 2), (318, zi (gAl 2) 1), (319, zcV 3 59 2 2), (322, zretA), (323, zi (gAl 0) 1), (324, zi (gAl 4) 2), (326, zi (gAl 2) 1), (327, zi (gIl 3) 1), (328, zi (gC (.int (1))) 1), (329, zi (gII (fun x y => x + y)) 1), (330, zcV 5 62 3 2), (333, zretA), (334, zi (gAl 0) 1), (335, zi (gAl 4) 2), (337, zi (gAl 2) 1), (338, zi (gIl 3) 1), (339, zi (gC (.int (1))) 1), (340, zi (gII (fun x y => x + y)) 1), (341, zcV 5 63 3 2), (344, zretA), (345, zi (gAl 0) 1), (346, zi (gAl 4) 2), (348, zi (gAl 2) 1), (349, zi (gIl 3) 1), (350, zi (gC (.int (1))) 1), (351, zi (gII (fun x y => x + y)) 1), (352, zcV 8 64 3 2), (355, zretA)]
set_option maxRecDepth 100000 in
theorem ok24 (l : Launch) (D : va_G) (dA : Nat → ClassId) (b0 : Nat) : ∀ q ∈ tb24 (ztys dA), zOK l D dA b0 24 q.1 q.2 := by
  refine zap (zi_mono _ _) (zi_ok (zg_aload_n (j := 0) (by decide +kernel) rfl)) ?_
  refine zap (zget_mono _ _) (zget_ok (index := 53) (C := RC2) (ref := "VectorLanguage$Evaluator") (T := FC2) (NN := 13) (by decide +kernel) rfl iC2 (by decide +kernel) (zin 137 (by decide +kernel) rfl) rfl) ?_
  refine zap (zi_mono _ _) (zi_ok (zg_sipush (n := 400) (by decide +kernel) (by decide +kernel))) ?_
  refine zap (zb_mono _ _) (zb_ok (zb_ige (off := 9) (by decide +kernel) (by decide +kernel))) ?_
  refine zap (zi_mono _ _) (zi_ok (zg_iload_n (j := 3) (by decide +kernel) rfl)) ?_
  refine zap (zi_mono _ _) (zi_ok (zg_bipush (n := 40) (by decide +kernel) (by decide +kernel))) ?_
  refine zap (zb_mono _ _) (zb_ok (zb_ilt (off := 10) (by decide +kernel) (by decide +kernel))) ?_
  refine zap (zi_mono _ _) (zi_ok (zg_aload_n (j := 0) (by decide +kernel) rfl)) ?_
  refine zap (zi_mono _ _) (zi_ok (zg_bipush (n := 9) (by decide +kernel) (by decide +kernel))) ?_
  refine zap (zcV_mono _ _ _ _) (zcV_ok znst_st (μ' := 25) (na := 1) (ci := 2) (index := 77) (q := (RC2, FC2, 13)) (by decide +kernel) (by decide +kernel) rfl (zgV (zin 392 (by decide +kernel) rfl) (zin 394 (by decide +kernel) rfl) (zsel 4 (by decide +kernel) rfl) (zin 3 (by decide +kernel) rfl) (zin 395 (by decide +kernel) rfl)) (by decide +kernel) (by decide +kernel)) ?_
  refine zap (zretA_mono) (zretA_ok (by decide +kernel) rfl (Or.inl ⟨_, rfl⟩)) ?_
  refine zap (zi_mono _ _) (zi_ok (zg_aload_n (j := 0) (by decide +kernel) rfl)) ?_
  refine zap (zi_mono _ _) (zi_ok (zg_dup (by decide +kernel))) ?_
  refine zap (zget_mono _ _) (zget_ok (index := 53) (C := RC2) (ref := "VectorLanguage$Evaluator") (T := FC2) (NN := 13) (by decide +kernel) rfl iC2 (by decide +kernel) (zin 137 (by decide +kernel) rfl) rfl) ?_
  refine zap (zi_mono _ _) (zi_ok (zg_iconst (n := 1) (by decide +kernel) (by decide +kernel))) ?_
  refine zap (zi_mono _ _) (zi_ok (zg_iadd (by decide +kernel))) ?_
  refine zap (zput_mono _ _ _) (zput_ok (index := 53) (C := RC2) (ref := "VectorLanguage$Evaluator") (T := FC2) (NN := 13) tC2 (by decide +kernel) rfl iC2 tC2_ok nC2 (by decide +kernel) (zin 137 (by decide +kernel) rfl) rfl (Or.inl rfl) rfl) ?_
  refine zap (zi_mono _ _) (zi_ok (zg_aload_n (j := 0) (by decide +kernel) rfl)) ?_
  refine zap (zget_mono _ _) (zget_ok (index := 49) (C := RC2) (ref := "VectorLanguage$Evaluator") (T := FC2) (NN := 13) (by decide +kernel) rfl iC2 (by decide +kernel) (zin 132 (by decide +kernel) rfl) rfl) ?_
  refine zap (zget_mono _ _) (zget_ok (index := 81) (C := RC1) (ref := "VectorLanguage$Program") (T := FC1) (NN := 2) (by decide +kernel) rfl iC1 (by decide +kernel) (zin 43 (by decide +kernel) rfl) rfl) ?_
  refine zap (zi_mono _ _) (zi_ok (zg_iload_n (j := 1) (by decide +kernel) rfl)) ?_
  refine zap (zaald_mono _) (zaald_ok (by decide +kernel)) ?_
  refine zap (zi_mono _ _) (zi_ok (zg_astore (by decide +kernel) (by decide +kernel))) ?_
  refine zap (zi_mono _ _) (zi_ok (zg_aload (by decide +kernel))) ?_
  refine zap (zget_mono _ _) (zget_ok (index := 87) (C := RC6) (ref := "VectorLanguage$Expression") (T := FC6) (NN := 5) (by decide +kernel) rfl iC6 (by decide +kernel) (zin 332 (by decide +kernel) rfl) rfl) ?_
  refine zap (zsw_mono _ _) (zsw_tab (off := 296) (lo := 0) (hi := 24) (offs := #[115, 121, 126, 131, 142, 142, 296, 296, 296, 153, 296, 296, 296, 164, 153, 153, 175, 186, 197, 231, 255, 266, 274, 153, 285]) (len := 115) (by decide +kernel) (by decide +kernel) (by decide +kernel) (by decide +kernel)) ?_
  refine zap (zi_mono _ _) (zi_ok (zg_aload (by decide +kernel))) ?_
  refine zap (zget_mono _ _) (zget_ok (index := 92) (C := RC6) (ref := "VectorLanguage$Expression") (T := FC6) (NN := 5) (by decide +kernel) rfl iC6 (by decide +kernel) (zin 340 (by decide +kernel) rfl) rfl) ?_
  refine zap (zretA_mono) (zretA_ok (by decide +kernel) rfl (Or.inl ⟨_, rfl⟩)) ?_
  refine zap (zi_mono _ _) (zi_ok (zg_aload_n (j := 0) (by decide +kernel) rfl)) ?_
  refine zap (zget_mono _ _) (zget_ok (index := 40) (C := RC2) (ref := "VectorLanguage$Evaluator") (T := FC2) (NN := 13) (by decide +kernel) rfl iC2 (by decide +kernel) (zin 147 (by decide +kernel) rfl) rfl) ?_
  refine zap (zretA_mono) (zretA_ok (by decide +kernel) rfl (Or.inl ⟨_, rfl⟩)) ?_
  refine zap (zi_mono _ _) (zi_ok (zg_aload_n (j := 0) (by decide +kernel) rfl)) ?_
  refine zap (zget_mono _ _) (zget_ok (index := 32) (C := RC2) (ref := "VectorLanguage$Evaluator") (T := FC2) (NN := 13) (by decide +kernel) rfl iC2 (by decide +kernel) (zin 146 (by decide +kernel) rfl) rfl) ?_
  refine zap (zretA_mono) (zretA_ok (by decide +kernel) rfl (Or.inl ⟨_, rfl⟩)) ?_
  refine zap (zi_mono _ _) (zi_ok (zg_aload_n (j := 0) (by decide +kernel) rfl)) ?_
  refine zap (zi_mono _ _) (zi_ok (zg_aload (by decide +kernel))) ?_
  refine zap (zi_mono _ _) (zi_ok (zg_aload_n (j := 2) (by decide +kernel) rfl)) ?_
  refine zap (zi_mono _ _) (zi_ok (zg_iload_n (j := 3) (by decide +kernel) rfl)) ?_
  refine zap (zi_mono _ _) (zi_ok (zg_iconst (n := 1) (by decide +kernel) (by decide +kernel))) ?_
  refine zap (zi_mono _ _) (zi_ok (zg_iadd (by decide +kernel))) ?_
  refine zap (zcV_mono _ _ _ _) (zcV_ok znst_st (μ' := 26) (na := 3) (ci := 2) (index := 95) (q := (RC2, FC2, 13)) (by decide +kernel) (by decide +kernel) rfl (zgV (zin 396 (by decide +kernel) rfl) (zin 398 (by decide +kernel) rfl) (zsel 5 (by decide +kernel) rfl) (zin 3 (by decide +kernel) rfl) (zin 399 (by decide +kernel) rfl)) (by decide +kernel) (by decide +kernel)) ?_
  refine zap (zretA_mono) (zretA_ok (by decide +kernel) rfl (Or.inl ⟨_, rfl⟩)) ?_
  refine zap (zi_mono _ _) (zi_ok (zg_aload_n (j := 0) (by decide +kernel) rfl)) ?_
  refine zap (zi_mono _ _) (zi_ok (zg_aload (by decide +kernel))) ?_
  refine zap (zi_mono _ _) (zi_ok (zg_aload_n (j := 2) (by decide +kernel) rfl)) ?_
  refine zap (zi_mono _ _) (zi_ok (zg_iload_n (j := 3) (by decide +kernel) rfl)) ?_
  refine zap (zi_mono _ _) (zi_ok (zg_iconst (n := 1) (by decide +kernel) (by decide +kernel))) ?_
  refine zap (zi_mono _ _) (zi_ok (zg_iadd (by decide +kernel))) ?_
  refine zap (zcV_mono _ _ _ _) (zcV_ok znst_st (μ' := 30) (na := 3) (ci := 2) (index := 99) (q := (RC2, FC2, 13)) (by decide +kernel) (by decide +kernel) rfl (zgV (zin 414 (by decide +kernel) rfl) (zin 416 (by decide +kernel) rfl) (zsel 8 (by decide +kernel) rfl) (zin 3 (by decide +kernel) rfl) (zin 417 (by decide +kernel) rfl)) (by decide +kernel) (by decide +kernel)) ?_
  refine zap (zretA_mono) (zretA_ok (by decide +kernel) rfl (Or.inl ⟨_, rfl⟩)) ?_
  refine zap (zi_mono _ _) (zi_ok (zg_aload_n (j := 0) (by decide +kernel) rfl)) ?_
  refine zap (zi_mono _ _) (zi_ok (zg_aload (by decide +kernel))) ?_
  refine zap (zi_mono _ _) (zi_ok (zg_aload_n (j := 2) (by decide +kernel) rfl)) ?_
  refine zap (zi_mono _ _) (zi_ok (zg_iload_n (j := 3) (by decide +kernel) rfl)) ?_
  refine zap (zi_mono _ _) (zi_ok (zg_iconst (n := 1) (by decide +kernel) (by decide +kernel))) ?_
  refine zap (zi_mono _ _) (zi_ok (zg_iadd (by decide +kernel))) ?_
  refine zap (zcV_mono _ _ _ _) (zcV_ok znst_st (μ' := 32) (na := 3) (ci := 2) (index := 102) (q := (RC2, FC2, 13)) (by decide +kernel) (by decide +kernel) rfl (zgV (zin 422 (by decide +kernel) rfl) (zin 424 (by decide +kernel) rfl) (zsel 9 (by decide +kernel) rfl) (zin 3 (by decide +kernel) rfl) (zin 425 (by decide +kernel) rfl)) (by decide +kernel) (by decide +kernel)) ?_
  refine zap (zretA_mono) (zretA_ok (by decide +kernel) rfl (Or.inl ⟨_, rfl⟩)) ?_
  refine zap (zi_mono _ _) (zi_ok (zg_aload_n (j := 0) (by decide +kernel) rfl)) ?_
  refine zap (zi_mono _ _) (zi_ok (zg_aload (by decide +kernel))) ?_
  refine zap (zi_mono _ _) (zi_ok (zg_aload_n (j := 2) (by decide +kernel) rfl)) ?_
  refine zap (zi_mono _ _) (zi_ok (zg_iload_n (j := 3) (by decide +kernel) rfl)) ?_
  refine zap (zi_mono _ _) (zi_ok (zg_iconst (n := 1) (by decide +kernel) (by decide +kernel))) ?_
  refine zap (zi_mono _ _) (zi_ok (zg_iadd (by decide +kernel))) ?_
  refine zap (zcV_mono _ _ _ _) (zcV_ok znst_st (μ' := 40) (na := 3) (ci := 2) (index := 105) (q := (RC2, FC2, 13)) (by decide +kernel) (by decide +kernel) rfl (zgV (zin 453 (by decide +kernel) rfl) (zin 455 (by decide +kernel) rfl) (zsel 13 (by decide +kernel) rfl) (zin 3 (by decide +kernel) rfl) (zin 456 (by decide +kernel) rfl)) (by decide +kernel) (by decide +kernel)) ?_
  refine zap (zretA_mono) (zretA_ok (by decide +kernel) rfl (Or.inl ⟨_, rfl⟩)) ?_
  refine zap (zi_mono _ _) (zi_ok (zg_aload_n (j := 0) (by decide +kernel) rfl)) ?_
  refine zap (zi_mono _ _) (zi_ok (zg_aload (by decide +kernel))) ?_
  refine zap (zi_mono _ _) (zi_ok (zg_aload_n (j := 2) (by decide +kernel) rfl)) ?_
  refine zap (zi_mono _ _) (zi_ok (zg_iload_n (j := 3) (by decide +kernel) rfl)) ?_
  refine zap (zi_mono _ _) (zi_ok (zg_iconst (n := 1) (by decide +kernel) (by decide +kernel))) ?_
  refine zap (zi_mono _ _) (zi_ok (zg_iadd (by decide +kernel))) ?_
  refine zap (zcV_mono _ _ _ _) (zcV_ok znst_st (μ' := 51) (na := 3) (ci := 2) (index := 108) (q := (RC2, FC2, 13)) (by decide +kernel) (by decide +kernel) rfl (zgV (zin 506 (by decide +kernel) rfl) (zin 508 (by decide +kernel) rfl) (zsel 19 (by decide +kernel) rfl) (zin 3 (by decide +kernel) rfl) (zin 509 (by decide +kernel) rfl)) (by decide +kernel) (by decide +kernel)) ?_
  refine zap (zretA_mono) (zretA_ok (by decide +kernel) rfl (Or.inl ⟨_, rfl⟩)) ?_
  refine zap (zi_mono _ _) (zi_ok (zg_aload_n (j := 0) (by decide +kernel) rfl)) ?_
  refine zap (zi_mono _ _) (zi_ok (zg_aload (by decide +kernel))) ?_
  refine zap (zi_mono _ _) (zi_ok (zg_aload_n (j := 2) (by decide +kernel) rfl)) ?_
  refine zap (zi_mono _ _) (zi_ok (zg_iload_n (j := 3) (by decide +kernel) rfl)) ?_
  refine zap (zi_mono _ _) (zi_ok (zg_iconst (n := 1) (by decide +kernel) (by decide +kernel))) ?_
  refine zap (zi_mono _ _) (zi_ok (zg_iadd (by decide +kernel))) ?_
  refine zap (zcV_mono _ _ _ _) (zcV_ok znst_st (μ' := 53) (na := 3) (ci := 2) (index := 111) (q := (RC2, FC2, 13)) (by decide +kernel) (by decide +kernel) rfl (zgV (zin 514 (by decide +kernel) rfl) (zin 516 (by decide +kernel) rfl) (zsel 21 (by decide +kernel) rfl) (zin 3 (by decide +kernel) rfl) (zin 517 (by decide +kernel) rfl)) (by decide +kernel) (by decide +kernel)) ?_
  refine zap (zretA_mono) (zretA_ok (by decide +kernel) rfl (Or.inl ⟨_, rfl⟩)) ?_
  refine zap (zi_mono _ _) (zi_ok (zg_aload_n (j := 0) (by decide +kernel) rfl)) ?_
  refine zap (zi_mono _ _) (zi_ok (zg_aload (by decide +kernel))) ?_
  refine zap (zget_mono _ _) (zget_ok (index := 114) (C := RC6) (ref := "VectorLanguage$Expression") (T := FC6) (NN := 5) (by decide +kernel) rfl iC6 (by decide +kernel) (zin 334 (by decide +kernel) rfl) rfl) ?_
  refine zap (zi_mono _ _) (zi_ok (zg_aload_n (j := 2) (by decide +kernel) rfl)) ?_
  refine zap (zi_mono _ _) (zi_ok (zg_iload_n (j := 3) (by decide +kernel) rfl)) ?_
  refine zap (zi_mono _ _) (zi_ok (zg_iconst (n := 1) (by decide +kernel) (by decide +kernel))) ?_
  refine zap (zi_mono _ _) (zi_ok (zg_iadd (by decide +kernel))) ?_
  refine zap (zcV_mono _ _ _ _) (zcV_ok znst_st (μ' := 24) (na := 3) (ci := 2) (index := 63) (q := (RC2, FC2, 13)) (by decide +kernel) (by decide +kernel) rfl (zgV (zin 388 (by decide +kernel) rfl) (zin 390 (by decide +kernel) rfl) (zsel 3 (by decide +kernel) rfl) (zin 3 (by decide +kernel) rfl) (zin 391 (by decide +kernel) rfl)) (by decide +kernel) (by decide +kernel)) ?_
  refine zap (zb_mono _ _) (zb_ok (zb_nonnull (off := 7) (by decide +kernel) (by decide +kernel))) ?_
  refine zap (zi_mono _ _) (zi_ok (zg_null (by decide +kernel))) ?_
  refine zap (zj_mono _) (zj_ok (off := 16) (by decide +kernel) (by decide +kernel)) ?_
  refine zap (zi_mono _ _) (zi_ok (zg_aload_n (j := 0) (by decide +kernel) rfl)) ?_
  refine zap (zi_mono _ _) (zi_ok (zg_aload (by decide +kernel))) ?_
  refine zap (zget_mono _ _) (zget_ok (index := 117) (C := RC6) (ref := "VectorLanguage$Expression") (T := FC6) (NN := 5) (by decide +kernel) rfl iC6 (by decide +kernel) (zin 336 (by decide +kernel) rfl) rfl) ?_
  refine zap (zi_mono _ _) (zi_ok (zg_aload_n (j := 2) (by decide +kernel) rfl)) ?_
  refine zap (zi_mono _ _) (zi_ok (zg_iload_n (j := 3) (by decide +kernel) rfl)) ?_
  refine zap (zi_mono _ _) (zi_ok (zg_iconst (n := 1) (by decide +kernel) (by decide +kernel))) ?_
  refine zap (zi_mono _ _) (zi_ok (zg_iadd (by decide +kernel))) ?_
  refine zap (zcV_mono _ _ _ _) (zcV_ok znst_st (μ' := 24) (na := 3) (ci := 2) (index := 63) (q := (RC2, FC2, 13)) (by decide +kernel) (by decide +kernel) rfl (zgV (zin 388 (by decide +kernel) rfl) (zin 390 (by decide +kernel) rfl) (zsel 3 (by decide +kernel) rfl) (zin 3 (by decide +kernel) rfl) (zin 391 (by decide +kernel) rfl)) (by decide +kernel) (by decide +kernel)) ?_
  refine zap (zretA_mono) (zretA_ok (by decide +kernel) rfl (Or.inl ⟨_, rfl⟩)) ?_
  refine zap (znew_mono _ _ _) (znew_ok (index := 120) (C := RC7) (T := FC7) tC7 (by decide +kernel) rfl iC7 tC7_ok (zin 518 (by decide +kernel) rfl) (zin 519 (by decide +kernel) rfl) (zin 21 (by decide +kernel) rfl) dC7_ok) ?_
  refine zap (zi_mono _ _) (zi_ok (zg_dup (by decide +kernel))) ?_
  refine zap (zi_mono _ _) (zi_ok (zg_aload (by decide +kernel))) ?_
  refine zap (zget_mono _ _) (zget_ok (index := 114) (C := RC6) (ref := "VectorLanguage$Expression") (T := FC6) (NN := 5) (by decide +kernel) rfl iC6 (by decide +kernel) (zin 334 (by decide +kernel) rfl) rfl) ?_
  refine zap (zi_mono _ _) (zi_ok (zg_aload (by decide +kernel))) ?_
  refine zap (zget_mono _ _) (zget_ok (index := 117) (C := RC6) (ref := "VectorLanguage$Expression") (T := FC6) (NN := 5) (by decide +kernel) rfl iC6 (by decide +kernel) (zin 336 (by decide +kernel) rfl) rfl) ?_
  refine zap (zi_mono _ _) (zi_ok (zg_aload (by decide +kernel))) ?_
  refine zap (zget_mono _ _) (zget_ok (index := 122) (C := RC6) (ref := "VectorLanguage$Expression") (T := FC6) (NN := 5) (by decide +kernel) rfl iC6 (by decide +kernel) (zin 338 (by decide +kernel) rfl) rfl) ?_
  refine zap (zi_mono _ _) (zi_ok (zg_aload_n (j := 2) (by decide +kernel) rfl)) ?_
  refine zap (zcI_mono _ _ _) (zcI_ok znst_st (μ' := 54) (na := 4) (index := 125) (by decide +kernel) (by decide +kernel) rfl rfl (zgI (zin 522 (by decide +kernel) rfl)) (zin 21 (by decide +kernel) rfl) (zin 520 (by decide +kernel) rfl) (zin 521 (by decide +kernel) rfl) (by decide +kernel) (by decide +kernel)) ?_
  refine zap (zretA_mono) (zretA_ok (by decide +kernel) rfl (Or.inl ⟨_, rfl⟩)) ?_
  refine zap (zi_mono _ _) (zi_ok (zg_aload_n (j := 0) (by decide +kernel) rfl)) ?_
  refine zap (zi_mono _ _) (zi_ok (zg_aload (by decide +kernel))) ?_
  refine zap (zi_mono _ _) (zi_ok (zg_aload_n (j := 2) (by decide +kernel) rfl)) ?_
  refine zap (zi_mono _ _) (zi_ok (zg_iload_n (j := 3) (by decide +kernel) rfl)) ?_
  refine zap (zi_mono _ _) (zi_ok (zg_iconst (n := 1) (by decide +kernel) (by decide +kernel))) ?_
  refine zap (zi_mono _ _) (zi_ok (zg_iadd (by decide +kernel))) ?_
  refine zap (zcV_mono _ _ _ _) (zcV_ok znst_st (μ' := 55) (na := 3) (ci := 2) (index := 128) (q := (RC2, FC2, 13)) (by decide +kernel) (by decide +kernel) rfl (zgV (zin 541 (by decide +kernel) rfl) (zin 543 (by decide +kernel) rfl) (zsel 22 (by decide +kernel) rfl) (zin 3 (by decide +kernel) rfl) (zin 544 (by decide +kernel) rfl)) (by decide +kernel) (by decide +kernel)) ?_
  refine zap (zretA_mono) (zretA_ok (by decide +kernel) rfl (Or.inl ⟨_, rfl⟩)) ?_
  refine zap (zi_mono _ _) (zi_ok (zg_aload_n (j := 0) (by decide +kernel) rfl)) ?_
  refine zap (zi_mono _ _) (zi_ok (zg_aload (by decide +kernel))) ?_
  refine zap (zi_mono _ _) (zi_ok (zg_aload_n (j := 2) (by decide +kernel) rfl)) ?_
  refine zap (zcV_mono _ _ _ _) (zcV_ok znst_st (μ' := 59) (na := 2) (ci := 2) (index := 131) (q := (RC2, FC2, 13)) (by decide +kernel) (by decide +kernel) rfl (zgV (zin 573 (by decide +kernel) rfl) (zin 575 (by decide +kernel) rfl) (zsel 25 (by decide +kernel) rfl) (zin 3 (by decide +kernel) rfl) (zin 576 (by decide +kernel) rfl)) (by decide +kernel) (by decide +kernel)) ?_
  refine zap (zretA_mono) (zretA_ok (by decide +kernel) rfl (Or.inl ⟨_, rfl⟩)) ?_
  refine zap (zi_mono _ _) (zi_ok (zg_aload_n (j := 0) (by decide +kernel) rfl)) ?_
  refine zap (zi_mono _ _) (zi_ok (zg_aload (by decide +kernel))) ?_
  refine zap (zi_mono _ _) (zi_ok (zg_aload_n (j := 2) (by decide +kernel) rfl)) ?_
  refine zap (zi_mono _ _) (zi_ok (zg_iload_n (j := 3) (by decide +kernel) rfl)) ?_
  refine zap (zi_mono _ _) (zi_ok (zg_iconst (n := 1) (by decide +kernel) (by decide +kernel))) ?_
  refine zap (zi_mono _ _) (zi_ok (zg_iadd (by decide +kernel))) ?_
  refine zap (zcV_mono _ _ _ _) (zcV_ok znst_st (μ' := 62) (na := 3) (ci := 2) (index := 135) (q := (RC2, FC2, 13)) (by decide +kernel) (by decide +kernel) rfl (zgV (zin 585 (by decide +kernel) rfl) (zin 587 (by decide +kernel) rfl) (zsel 27 (by decide +kernel) rfl) (zin 3 (by decide +kernel) rfl) (zin 588 (by decide +kernel) rfl)) (by decide +kernel) (by decide +kernel)) ?_
  refine zap (zretA_mono) (zretA_ok (by decide +kernel) rfl (Or.inl ⟨_, rfl⟩)) ?_
  refine zap (zi_mono _ _) (zi_ok (zg_aload_n (j := 0) (by decide +kernel) rfl)) ?_
  refine zap (zi_mono _ _) (zi_ok (zg_aload (by decide +kernel))) ?_
  refine zap (zi_mono _ _) (zi_ok (zg_aload_n (j := 2) (by decide +kernel) rfl)) ?_
  refine zap (zi_mono _ _) (zi_ok (zg_iload_n (j := 3) (by decide +kernel) rfl)) ?_
  refine zap (zi_mono _ _) (zi_ok (zg_iconst (n := 1) (by decide +kernel) (by decide +kernel))) ?_
  refine zap (zi_mono _ _) (zi_ok (zg_iadd (by decide +kernel))) ?_
  refine zap (zcV_mono _ _ _ _) (zcV_ok znst_st (μ' := 63) (na := 3) (ci := 2) (index := 138) (q := (RC2, FC2, 13)) (by decide +kernel) (by decide +kernel) rfl (zgV (zin 589 (by decide +kernel) rfl) (zin 591 (by decide +kernel) rfl) (zsel 28 (by decide +kernel) rfl) (zin 3 (by decide +kernel) rfl) (zin 592 (by decide +kernel) rfl)) (by decide +kernel) (by decide +kernel)) ?_
  refine zap (zretA_mono) (zretA_ok (by decide +kernel) rfl (Or.inl ⟨_, rfl⟩)) ?_
  refine zap (zi_mono _ _) (zi_ok (zg_aload_n (j := 0) (by decide +kernel) rfl)) ?_
  refine zap (zi_mono _ _) (zi_ok (zg_aload (by decide +kernel))) ?_
  refine zap (zi_mono _ _) (zi_ok (zg_aload_n (j := 2) (by decide +kernel) rfl)) ?_
  refine zap (zi_mono _ _) (zi_ok (zg_iload_n (j := 3) (by decide +kernel) rfl)) ?_
  refine zap (zi_mono _ _) (zi_ok (zg_iconst (n := 1) (by decide +kernel) (by decide +kernel))) ?_
  refine zap (zi_mono _ _) (zi_ok (zg_iadd (by decide +kernel))) ?_
  refine zap (zcV_mono _ _ _ _) (zcV_ok znst_st (μ' := 64) (na := 3) (ci := 2) (index := 141) (q := (RC2, FC2, 13)) (by decide +kernel) (by decide +kernel) rfl (zgV (zin 593 (by decide +kernel) rfl) (zin 595 (by decide +kernel) rfl) (zsel 29 (by decide +kernel) rfl) (zin 3 (by decide +kernel) rfl) (zin 596 (by decide +kernel) rfl)) (by decide +kernel) (by decide +kernel)) ?_
  refine zap (zretA_mono) (zretA_ok (by decide +kernel) rfl (Or.inl ⟨_, rfl⟩)) ?_
  exact zn
/-- VectorLanguage$Evaluator.fail(I)LVectorLanguage$Vector; -/
def tb25 (_ : List (ClassId × FieldType)) : List (Nat × (zP → zP)) := [(0, zi (gAl 0) 1), (1, zi (gIl 1) 1), (2, zput (.int) 2 5), (5, zi (gC .null) 1), (6, zretA)]
set_option maxRecDepth 100000 in
theorem ok25 (l : Launch) (D : va_G) (dA : Nat → ClassId) (b0 : Nat) : ∀ q ∈ tb25 (ztys dA), zOK l D dA b0 25 q.1 q.2 := by
  refine zap (zi_mono _ _) (zi_ok (zg_aload_n (j := 0) (by decide +kernel) rfl)) ?_
  refine zap (zi_mono _ _) (zi_ok (zg_iload_n (j := 1) (by decide +kernel) rfl)) ?_
  refine zap (zput_mono _ _ _) (zput_ok (index := 60) (C := RC2) (ref := "VectorLanguage$Evaluator") (T := FC2) (NN := 13) tC2 (by decide +kernel) rfl iC2 tC2_ok nC2 (by decide +kernel) (zin 141 (by decide +kernel) rfl) rfl (Or.inl rfl) rfl) ?_
  refine zap (zi_mono _ _) (zi_ok (zg_null (by decide +kernel))) ?_
  refine zap (zretA_mono) (zretA_ok (by decide +kernel) rfl (Or.inl ⟨_, rfl⟩)) ?_
  exact zn
/-- VectorLanguage$Evaluator.read(LVectorLanguage$Expression;LVectorLanguage$Environment;I)LVectorLanguage$Value; -/
def tb26 (_ : List (ClassId × FieldType)) : List (Nat × (zP → zP)) := [(0, zi (gAl 2) 1), (1, zi (gAl 1) 1), (2, zget 6 1), (5, zcV 3 27 1 3), (8, zi (gAs 4) 2), (10, zi (gAl 4) 2), (12, zb (cNN) 21), (15, zi (gAl 0) 1), (16, zi (gC (.int (4))) 1), (17, zcV 2 25 1 2), (20, zretA), (21, zi (gAl 0) 1), (22, zi (gAl 4) 2), (24, zi (gIl 3) 1), (25, zcV 4 28 2 2), (28, zretA)]
set_option maxRecDepth 100000 in
theorem ok26 (l : Launch) (D : va_G) (dA : Nat → ClassId) (b0 : Nat) : ∀ q ∈ tb26 (ztys dA), zOK l D dA b0 26 q.1 q.2 := by
  refine zap (zi_mono _ _) (zi_ok (zg_aload_n (j := 2) (by decide +kernel) rfl)) ?_
  refine zap (zi_mono _ _) (zi_ok (zg_aload_n (j := 1) (by decide +kernel) rfl)) ?_
  refine zap (zget_mono _ _) (zget_ok (index := 114) (C := RC6) (ref := "VectorLanguage$Expression") (T := FC6) (NN := 5) (by decide +kernel) rfl iC6 (by decide +kernel) (zin 334 (by decide +kernel) rfl) rfl) ?_
  refine zap (zcV_mono _ _ _ _) (zcV_ok znst_st (μ' := 27) (na := 1) (ci := 3) (index := 144) (q := (RC3, FC3, 5)) (by decide +kernel) (by decide +kernel) rfl (zgV (zin 400 (by decide +kernel) rfl) (zin 401 (by decide +kernel) rfl) (zin 402 (by decide +kernel) rfl) (zin 4 (by decide +kernel) rfl) (zin 403 (by decide +kernel) rfl)) (by decide +kernel) (by decide +kernel)) ?_
  refine zap (zi_mono _ _) (zi_ok (zg_astore (by decide +kernel) (by decide +kernel))) ?_
  refine zap (zi_mono _ _) (zi_ok (zg_aload (by decide +kernel))) ?_
  refine zap (zb_mono _ _) (zb_ok (zb_nonnull (off := 9) (by decide +kernel) (by decide +kernel))) ?_
  refine zap (zi_mono _ _) (zi_ok (zg_aload_n (j := 0) (by decide +kernel) rfl)) ?_
  refine zap (zi_mono _ _) (zi_ok (zg_iconst (n := 4) (by decide +kernel) (by decide +kernel))) ?_
  refine zap (zcV_mono _ _ _ _) (zcV_ok znst_st (μ' := 25) (na := 1) (ci := 2) (index := 77) (q := (RC2, FC2, 13)) (by decide +kernel) (by decide +kernel) rfl (zgV (zin 392 (by decide +kernel) rfl) (zin 394 (by decide +kernel) rfl) (zsel 4 (by decide +kernel) rfl) (zin 3 (by decide +kernel) rfl) (zin 395 (by decide +kernel) rfl)) (by decide +kernel) (by decide +kernel)) ?_
  refine zap (zretA_mono) (zretA_ok (by decide +kernel) rfl (Or.inl ⟨_, rfl⟩)) ?_
  refine zap (zi_mono _ _) (zi_ok (zg_aload_n (j := 0) (by decide +kernel) rfl)) ?_
  refine zap (zi_mono _ _) (zi_ok (zg_aload (by decide +kernel))) ?_
  refine zap (zi_mono _ _) (zi_ok (zg_iload_n (j := 3) (by decide +kernel) rfl)) ?_
  refine zap (zcV_mono _ _ _ _) (zcV_ok znst_st (μ' := 28) (na := 2) (ci := 2) (index := 148) (q := (RC2, FC2, 13)) (by decide +kernel) (by decide +kernel) rfl (zgV (zin 404 (by decide +kernel) rfl) (zin 406 (by decide +kernel) rfl) (zsel 6 (by decide +kernel) rfl) (zin 3 (by decide +kernel) rfl) (zin 407 (by decide +kernel) rfl)) (by decide +kernel) (by decide +kernel)) ?_
  refine zap (zretA_mono) (zretA_ok (by decide +kernel) rfl (Or.inl ⟨_, rfl⟩)) ?_
  exact zn
/-- VectorLanguage$Environment.lookUp(I)LVectorLanguage$Held; -/
def tb27 (tys : List (ClassId × FieldType)) : List (Nat × (zP → zP)) := [(0, zi (gAl 0) 1), (1, zi (gAs 2) 1), (2, zi (gAl 2) 1), (3, zb (cN) 30), (6, zi (gAl 2) 1), (7, zget 3 0), (10, zi (gIl 1) 1), (11, zaald tys), (12, zb (cN) 22), (15, zi (gAl 2) 1), (16, zget 3 0), (19, zi (gIl 1) 1), (20, zaald tys), (21, zretA), (22, zi (gAl 2) 1), (23, zget 3 1), (26, zi (gAs 2) 1), (27, zj 2), (30, zi (gC .null) 1), (31, zretA)]
set_option maxRecDepth 100000 in
theorem ok27 (l : Launch) (D : va_G) (dA : Nat → ClassId) (b0 : Nat) : ∀ q ∈ tb27 (ztys dA), zOK l D dA b0 27 q.1 q.2 := by
  refine zap (zi_mono _ _) (zi_ok (zg_aload_n (j := 0) (by decide +kernel) rfl)) ?_
  refine zap (zi_mono _ _) (zi_ok (zg_astore_n (j := 2) (by decide +kernel) rfl (by decide +kernel))) ?_
  refine zap (zi_mono _ _) (zi_ok (zg_aload_n (j := 2) (by decide +kernel) rfl)) ?_
  refine zap (zb_mono _ _) (zb_ok (zb_null (off := 27) (by decide +kernel) (by decide +kernel))) ?_
  refine zap (zi_mono _ _) (zi_ok (zg_aload_n (j := 2) (by decide +kernel) rfl)) ?_
  refine zap (zget_mono _ _) (zget_ok (index := 11) (C := RC3) (ref := "VectorLanguage$Environment") (T := FC3) (NN := 5) (by decide +kernel) rfl iC3 (by decide +kernel) (zin 65 (by decide +kernel) rfl) rfl) ?_
  refine zap (zi_mono _ _) (zi_ok (zg_iload_n (j := 1) (by decide +kernel) rfl)) ?_
  refine zap (zaald_mono _) (zaald_ok (by decide +kernel)) ?_
  refine zap (zb_mono _ _) (zb_ok (zb_null (off := 10) (by decide +kernel) (by decide +kernel))) ?_
  refine zap (zi_mono _ _) (zi_ok (zg_aload_n (j := 2) (by decide +kernel) rfl)) ?_
  refine zap (zget_mono _ _) (zget_ok (index := 11) (C := RC3) (ref := "VectorLanguage$Environment") (T := FC3) (NN := 5) (by decide +kernel) rfl iC3 (by decide +kernel) (zin 65 (by decide +kernel) rfl) rfl) ?_
  refine zap (zi_mono _ _) (zi_ok (zg_iload_n (j := 1) (by decide +kernel) rfl)) ?_
  refine zap (zaald_mono _) (zaald_ok (by decide +kernel)) ?_
  refine zap (zretA_mono) (zretA_ok (by decide +kernel) rfl (Or.inl ⟨_, rfl⟩)) ?_
  refine zap (zi_mono _ _) (zi_ok (zg_aload_n (j := 2) (by decide +kernel) rfl)) ?_
  refine zap (zget_mono _ _) (zget_ok (index := 31) (C := RC3) (ref := "VectorLanguage$Environment") (T := FC3) (NN := 5) (by decide +kernel) rfl iC3 (by decide +kernel) (zin 68 (by decide +kernel) rfl) rfl) ?_
  refine zap (zi_mono _ _) (zi_ok (zg_astore_n (j := 2) (by decide +kernel) rfl (by decide +kernel))) ?_
  refine zap (zj_mono _) (zj_ok (off := -25) (by decide +kernel) (by decide +kernel)) ?_
  refine zap (zi_mono _ _) (zi_ok (zg_null (by decide +kernel))) ?_
  refine zap (zretA_mono) (zretA_ok (by decide +kernel) rfl (Or.inl ⟨_, rfl⟩)) ?_
  exact zn
/-- VectorLanguage$Evaluator.valueOf(LVectorLanguage$Held;I)LVectorLanguage$Value; -/
def tb28 (_ : List (ClassId × FieldType)) : List (Nat × (zP → zP)) := [(0, zi (gAl 1) 1), (1, zinst [8] [5, 7]), (4, zb (c1 (fun x => x = 0)) 33), (7, zi (gAl 1) 1), (8, zcast [8]), (11, zi (gAs 3) 1), (12, zi (gAl 3) 1), (13, zget 8 2), (16, zb (cNN) 28), (19, zi (gAl 0) 1), (20, zi (gAl 3) 1), (21, zi (gIl 2) 1), (22, zcV 4 29 2 2), (25, zj 32), (28, zi (gAl 3) 1), (29, zget 8 2), (32, zretA), (33, zi (gAl 1) 1), (34, zinst [7, 5] [8]), (37, zb (c1 (fun x => x = 0)) 49), (40, zi (gAl 1) 1), (41, zcast [7, 5]), (44, zi (gAs 3) 1), (45, zi (gAl 3) 1), (46, zj 50), (49, zi (gC .null) 1), (50, zretA)]
set_option maxRecDepth 100000 in
theorem ok28 (l : Launch) (D : va_G) (dA : Nat → ClassId) (b0 : Nat) : ∀ q ∈ tb28 (ztys dA), zOK l D dA b0 28 q.1 q.2 := by
  refine zap (zi_mono _ _) (zi_ok (zg_aload_n (j := 1) (by decide +kernel) rfl)) ?_
  refine zap (zinst_mono _ _) (zinst_ok (index := 152) (nm := "VectorLanguage$Argument") (by decide +kernel) (zin 408 (by decide +kernel) rfl) (za ⟨_, rfl, (List.mem_of_getElem? (i := 8) rfl)⟩ (zn)) (za ⟨_, rfl, (List.mem_of_getElem? (i := 19) rfl)⟩ (za ⟨_, rfl, (List.mem_of_getElem? (i := 20) rfl)⟩ (zn)))) ?_
  refine zap (zb_mono _ _) (zb_ok (zb_eq (off := 29) (by decide +kernel) (by decide +kernel))) ?_
  refine zap (zi_mono _ _) (zi_ok (zg_aload_n (j := 1) (by decide +kernel) rfl)) ?_
  refine zap (zcast_mono _) (zcast_ok (index := 152) (nm := "VectorLanguage$Argument") (by decide +kernel) (zin 408 (by decide +kernel) rfl) (za ⟨_, rfl, (List.mem_of_getElem? (i := 8) rfl)⟩ (zn))) ?_
  refine zap (zi_mono _ _) (zi_ok (zg_astore_n (j := 3) (by decide +kernel) rfl (by decide +kernel))) ?_
  refine zap (zi_mono _ _) (zi_ok (zg_aload_n (j := 3) (by decide +kernel) rfl)) ?_
  refine zap (zget_mono _ _) (zget_ok (index := 154) (C := RC8) (ref := "VectorLanguage$Argument") (T := FC8) (NN := 4) (by decide +kernel) rfl iC8 (by decide +kernel) (zin 558 (by decide +kernel) rfl) rfl) ?_
  refine zap (zb_mono _ _) (zb_ok (zb_nonnull (off := 12) (by decide +kernel) (by decide +kernel))) ?_
  refine zap (zi_mono _ _) (zi_ok (zg_aload_n (j := 0) (by decide +kernel) rfl)) ?_
  refine zap (zi_mono _ _) (zi_ok (zg_aload_n (j := 3) (by decide +kernel) rfl)) ?_
  refine zap (zi_mono _ _) (zi_ok (zg_iload_n (j := 2) (by decide +kernel) rfl)) ?_
  refine zap (zcV_mono _ _ _ _) (zcV_ok znst_st (μ' := 29) (na := 2) (ci := 2) (index := 158) (q := (RC2, FC2, 13)) (by decide +kernel) (by decide +kernel) rfl (zgV (zin 409 (by decide +kernel) rfl) (zin 411 (by decide +kernel) rfl) (zsel 7 (by decide +kernel) rfl) (zin 3 (by decide +kernel) rfl) (zin 412 (by decide +kernel) rfl)) (by decide +kernel) (by decide +kernel)) ?_
  refine zap (zj_mono _) (zj_ok (off := 7) (by decide +kernel) (by decide +kernel)) ?_
  refine zap (zi_mono _ _) (zi_ok (zg_aload_n (j := 3) (by decide +kernel) rfl)) ?_
  refine zap (zget_mono _ _) (zget_ok (index := 154) (C := RC8) (ref := "VectorLanguage$Argument") (T := FC8) (NN := 4) (by decide +kernel) rfl iC8 (by decide +kernel) (zin 558 (by decide +kernel) rfl) rfl) ?_
  refine zap (zretA_mono) (zretA_ok (by decide +kernel) rfl (Or.inl ⟨_, rfl⟩)) ?_
  refine zap (zi_mono _ _) (zi_ok (zg_aload_n (j := 1) (by decide +kernel) rfl)) ?_
  refine zap (zinst_mono _ _) (zinst_ok (index := 162) (nm := "VectorLanguage$Value") (by decide +kernel) (zin 413 (by decide +kernel) rfl) (za ⟨_, rfl, (List.mem_of_getElem? (i := 9) rfl)⟩ (za ⟨_, rfl, (List.mem_of_getElem? (i := 10) rfl)⟩ (zn))) (za ⟨_, rfl, (List.mem_of_getElem? (i := 21) rfl)⟩ (zn))) ?_
  refine zap (zb_mono _ _) (zb_ok (zb_eq (off := 12) (by decide +kernel) (by decide +kernel))) ?_
  refine zap (zi_mono _ _) (zi_ok (zg_aload_n (j := 1) (by decide +kernel) rfl)) ?_
  refine zap (zcast_mono _) (zcast_ok (index := 162) (nm := "VectorLanguage$Value") (by decide +kernel) (zin 413 (by decide +kernel) rfl) (za ⟨_, rfl, (List.mem_of_getElem? (i := 9) rfl)⟩ (za ⟨_, rfl, (List.mem_of_getElem? (i := 10) rfl)⟩ (zn)))) ?_
  refine zap (zi_mono _ _) (zi_ok (zg_astore_n (j := 3) (by decide +kernel) rfl (by decide +kernel))) ?_
  refine zap (zi_mono _ _) (zi_ok (zg_aload_n (j := 3) (by decide +kernel) rfl)) ?_
  refine zap (zj_mono _) (zj_ok (off := 4) (by decide +kernel) (by decide +kernel)) ?_
  refine zap (zi_mono _ _) (zi_ok (zg_null (by decide +kernel))) ?_
  refine zap (zretA_mono) (zretA_ok (by decide +kernel) rfl (Or.inl ⟨_, rfl⟩)) ?_
  exact zn
/-- VectorLanguage$Evaluator.evaluateArgument(LVectorLanguage$Argument;I)LVectorLanguage$Value; -/
def tb29 (_ : List (ClassId × FieldType)) : List (Nat × (zP → zP)) := [(0, zi (gAl 1) 1), (1, zget 8 3), (4, zb (c1 (fun x => x = 0)) 13), (7, zi (gAl 0) 1), (8, zi (gC (.int (2))) 1), (9, zcV 2 25 1 2), (12, zretA), (13, zi (gAl 1) 1), (14, zi (gC (.int (1))) 1), (15, zput (.boolean) 8 3), (18, zi (gAl 0) 1), (19, zi (gAl 1) 1), (20, zget 8 0), (23, zi (gAl 1) 1), (24, zget 8 1), (27, zi (gIl 2) 1), (28, zcV 5 24 3 2), (31, zi (gAs 3) 1), (32, zi (gAl 1) 1), (33, zi (gC (.int (0))) 1), (34, zput (.boolean) 8 3), (37, zi (gAl 3) 1), (38, zb (cN) 56), (41, zi (gAl 1) 1), (42, zi (gAl 3) 1), (43, zput (.object "VectorLanguage$Value") 8 2), (46, zi (gAl 0) 1), (47, zi (gDup) 1), (48, zget 2 4), (51, zi (gC (.int (1))) 1), (52, zi (gII (fun x y => x + y)) 1), (53, zput (.int) 2 4), (56, zi (gAl 3) 1), (57, zretA)]
set_option maxRecDepth 100000 in
theorem ok29 (l : Launch) (D : va_G) (dA : Nat → ClassId) (b0 : Nat) : ∀ q ∈ tb29 (ztys dA), zOK l D dA b0 29 q.1 q.2 := by
  refine zap (zi_mono _ _) (zi_ok (zg_aload_n (j := 1) (by decide +kernel) rfl)) ?_
  refine zap (zget_mono _ _) (zget_ok (index := 164) (C := RC8) (ref := "VectorLanguage$Argument") (T := FC8) (NN := 4) (by decide +kernel) rfl iC8 (by decide +kernel) (zin 559 (by decide +kernel) rfl) rfl) ?_
  refine zap (zb_mono _ _) (zb_ok (zb_eq (off := 9) (by decide +kernel) (by decide +kernel))) ?_
  refine zap (zi_mono _ _) (zi_ok (zg_aload_n (j := 0) (by decide +kernel) rfl)) ?_
  refine zap (zi_mono _ _) (zi_ok (zg_iconst (n := 2) (by decide +kernel) (by decide +kernel))) ?_
  refine zap (zcV_mono _ _ _ _) (zcV_ok znst_st (μ' := 25) (na := 1) (ci := 2) (index := 77) (q := (RC2, FC2, 13)) (by decide +kernel) (by decide +kernel) rfl (zgV (zin 392 (by decide +kernel) rfl) (zin 394 (by decide +kernel) rfl) (zsel 4 (by decide +kernel) rfl) (zin 3 (by decide +kernel) rfl) (zin 395 (by decide +kernel) rfl)) (by decide +kernel) (by decide +kernel)) ?_
  refine zap (zretA_mono) (zretA_ok (by decide +kernel) rfl (Or.inl ⟨_, rfl⟩)) ?_
  refine zap (zi_mono _ _) (zi_ok (zg_aload_n (j := 1) (by decide +kernel) rfl)) ?_
  refine zap (zi_mono _ _) (zi_ok (zg_iconst (n := 1) (by decide +kernel) (by decide +kernel))) ?_
  refine zap (zput_mono _ _ _) (zput_ok (index := 164) (C := RC8) (ref := "VectorLanguage$Argument") (T := FC8) (NN := 4) tC8 (by decide +kernel) rfl iC8 tC8_ok nC8 (by decide +kernel) (zin 559 (by decide +kernel) rfl) rfl (Or.inl rfl) rfl) ?_
  refine zap (zi_mono _ _) (zi_ok (zg_aload_n (j := 0) (by decide +kernel) rfl)) ?_
  refine zap (zi_mono _ _) (zi_ok (zg_aload_n (j := 1) (by decide +kernel) rfl)) ?_
  refine zap (zget_mono _ _) (zget_ok (index := 168) (C := RC8) (ref := "VectorLanguage$Argument") (T := FC8) (NN := 4) (by decide +kernel) rfl iC8 (by decide +kernel) (zin 555 (by decide +kernel) rfl) rfl) ?_
  refine zap (zi_mono _ _) (zi_ok (zg_aload_n (j := 1) (by decide +kernel) rfl)) ?_
  refine zap (zget_mono _ _) (zget_ok (index := 171) (C := RC8) (ref := "VectorLanguage$Argument") (T := FC8) (NN := 4) (by decide +kernel) rfl iC8 (by decide +kernel) (zin 557 (by decide +kernel) rfl) rfl) ?_
  refine zap (zi_mono _ _) (zi_ok (zg_iload_n (j := 2) (by decide +kernel) rfl)) ?_
  refine zap (zcV_mono _ _ _ _) (zcV_ok znst_st (μ' := 24) (na := 3) (ci := 2) (index := 63) (q := (RC2, FC2, 13)) (by decide +kernel) (by decide +kernel) rfl (zgV (zin 388 (by decide +kernel) rfl) (zin 390 (by decide +kernel) rfl) (zsel 3 (by decide +kernel) rfl) (zin 3 (by decide +kernel) rfl) (zin 391 (by decide +kernel) rfl)) (by decide +kernel) (by decide +kernel)) ?_
  refine zap (zi_mono _ _) (zi_ok (zg_astore_n (j := 3) (by decide +kernel) rfl (by decide +kernel))) ?_
  refine zap (zi_mono _ _) (zi_ok (zg_aload_n (j := 1) (by decide +kernel) rfl)) ?_
  refine zap (zi_mono _ _) (zi_ok (zg_iconst (n := 0) (by decide +kernel) (by decide +kernel))) ?_
  refine zap (zput_mono _ _ _) (zput_ok (index := 164) (C := RC8) (ref := "VectorLanguage$Argument") (T := FC8) (NN := 4) tC8 (by decide +kernel) rfl iC8 tC8_ok nC8 (by decide +kernel) (zin 559 (by decide +kernel) rfl) rfl (Or.inl rfl) rfl) ?_
  refine zap (zi_mono _ _) (zi_ok (zg_aload_n (j := 3) (by decide +kernel) rfl)) ?_
  refine zap (zb_mono _ _) (zb_ok (zb_null (off := 18) (by decide +kernel) (by decide +kernel))) ?_
  refine zap (zi_mono _ _) (zi_ok (zg_aload_n (j := 1) (by decide +kernel) rfl)) ?_
  refine zap (zi_mono _ _) (zi_ok (zg_aload_n (j := 3) (by decide +kernel) rfl)) ?_
  refine zap (zput_mono _ _ _) (zput_ok (index := 154) (C := RC8) (ref := "VectorLanguage$Argument") (T := FC8) (NN := 4) tC8 (by decide +kernel) rfl iC8 tC8_ok nC8 (by decide +kernel) (zin 558 (by decide +kernel) rfl) rfl (Or.inl rfl) rfl) ?_
  refine zap (zi_mono _ _) (zi_ok (zg_aload_n (j := 0) (by decide +kernel) rfl)) ?_
  refine zap (zi_mono _ _) (zi_ok (zg_dup (by decide +kernel))) ?_
  refine zap (zget_mono _ _) (zget_ok (index := 57) (C := RC2) (ref := "VectorLanguage$Evaluator") (T := FC2) (NN := 13) (by decide +kernel) rfl iC2 (by decide +kernel) (zin 139 (by decide +kernel) rfl) rfl) ?_
  refine zap (zi_mono _ _) (zi_ok (zg_iconst (n := 1) (by decide +kernel) (by decide +kernel))) ?_
  refine zap (zi_mono _ _) (zi_ok (zg_iadd (by decide +kernel))) ?_
  refine zap (zput_mono _ _ _) (zput_ok (index := 57) (C := RC2) (ref := "VectorLanguage$Evaluator") (T := FC2) (NN := 13) tC2 (by decide +kernel) rfl iC2 tC2_ok nC2 (by decide +kernel) (zin 139 (by decide +kernel) rfl) rfl (Or.inl rfl) rfl) ?_
  refine zap (zi_mono _ _) (zi_ok (zg_aload_n (j := 3) (by decide +kernel) rfl)) ?_
  refine zap (zretA_mono) (zretA_ok (by decide +kernel) rfl (Or.inl ⟨_, rfl⟩)) ?_
  exact zn
/-- VectorLanguage$Evaluator.assign(LVectorLanguage$Expression;LVectorLanguage$Environment;I)LVectorLanguage$Value; -/
def tb30 (tys : List (ClassId × FieldType)) : List (Nat × (zP → zP)) := [(0, zi (gAl 0) 1), (1, zi (gAl 1) 1), (2, zget 6 2), (5, zi (gAl 2) 1), (6, zi (gIl 3) 1), (7, zcV 5 24 3 2), (10, zi (gAs 4) 2), (12, zi (gAl 4) 2), (14, zb (cN) 51), (17, zi (gAl 1) 1), (18, zget 6 0), (21, zi (gC (.int (4))) 1), (22, zb (c2 (fun x y => ¬ x = y)) 29), (25, zi (gAl 2) 1), (26, zj 37), (29, zi (gAl 2) 1), (30, zi (gAl 1) 1), (31, zget 6 1), (34, zcV 3 31 1 3), (37, zi (gAs 5) 2), (39, zi (gAl 5) 2), (41, zget 3 0), (44, zi (gAl 1) 1), (45, zget 6 1), (48, zi (gAl 4) 2), (50, zaast tys "VectorLanguage$Held" [5, 7, 8]), (51, zi (gAl 4) 2), (53, zretA)]
set_option maxRecDepth 100000 in
theorem ok30 (l : Launch) (D : va_G) (dA : Nat → ClassId) (b0 : Nat) : ∀ q ∈ tb30 (ztys dA), zOK l D dA b0 30 q.1 q.2 := by
  refine zap (zi_mono _ _) (zi_ok (zg_aload_n (j := 0) (by decide +kernel) rfl)) ?_
  refine zap (zi_mono _ _) (zi_ok (zg_aload_n (j := 1) (by decide +kernel) rfl)) ?_
  refine zap (zget_mono _ _) (zget_ok (index := 117) (C := RC6) (ref := "VectorLanguage$Expression") (T := FC6) (NN := 5) (by decide +kernel) rfl iC6 (by decide +kernel) (zin 336 (by decide +kernel) rfl) rfl) ?_
  refine zap (zi_mono _ _) (zi_ok (zg_aload_n (j := 2) (by decide +kernel) rfl)) ?_
  refine zap (zi_mono _ _) (zi_ok (zg_iload_n (j := 3) (by decide +kernel) rfl)) ?_
  refine zap (zcV_mono _ _ _ _) (zcV_ok znst_st (μ' := 24) (na := 3) (ci := 2) (index := 63) (q := (RC2, FC2, 13)) (by decide +kernel) (by decide +kernel) rfl (zgV (zin 388 (by decide +kernel) rfl) (zin 390 (by decide +kernel) rfl) (zsel 3 (by decide +kernel) rfl) (zin 3 (by decide +kernel) rfl) (zin 391 (by decide +kernel) rfl)) (by decide +kernel) (by decide +kernel)) ?_
  refine zap (zi_mono _ _) (zi_ok (zg_astore (by decide +kernel) (by decide +kernel))) ?_
  refine zap (zi_mono _ _) (zi_ok (zg_aload (by decide +kernel))) ?_
  refine zap (zb_mono _ _) (zb_ok (zb_null (off := 37) (by decide +kernel) (by decide +kernel))) ?_
  refine zap (zi_mono _ _) (zi_ok (zg_aload_n (j := 1) (by decide +kernel) rfl)) ?_
  refine zap (zget_mono _ _) (zget_ok (index := 87) (C := RC6) (ref := "VectorLanguage$Expression") (T := FC6) (NN := 5) (by decide +kernel) rfl iC6 (by decide +kernel) (zin 332 (by decide +kernel) rfl) rfl) ?_
  refine zap (zi_mono _ _) (zi_ok (zg_iconst (n := 4) (by decide +kernel) (by decide +kernel))) ?_
  refine zap (zb_mono _ _) (zb_ok (zb_ine (off := 7) (by decide +kernel) (by decide +kernel))) ?_
  refine zap (zi_mono _ _) (zi_ok (zg_aload_n (j := 2) (by decide +kernel) rfl)) ?_
  refine zap (zj_mono _) (zj_ok (off := 11) (by decide +kernel) (by decide +kernel)) ?_
  refine zap (zi_mono _ _) (zi_ok (zg_aload_n (j := 2) (by decide +kernel) rfl)) ?_
  refine zap (zi_mono _ _) (zi_ok (zg_aload_n (j := 1) (by decide +kernel) rfl)) ?_
  refine zap (zget_mono _ _) (zget_ok (index := 114) (C := RC6) (ref := "VectorLanguage$Expression") (T := FC6) (NN := 5) (by decide +kernel) rfl iC6 (by decide +kernel) (zin 334 (by decide +kernel) rfl) rfl) ?_
  refine zap (zcV_mono _ _ _ _) (zcV_ok znst_st (μ' := 31) (na := 1) (ci := 3) (index := 174) (q := (RC3, FC3, 5)) (by decide +kernel) (by decide +kernel) rfl (zgV (zin 418 (by decide +kernel) rfl) (zin 419 (by decide +kernel) rfl) (zin 420 (by decide +kernel) rfl) (zin 4 (by decide +kernel) rfl) (zin 421 (by decide +kernel) rfl)) (by decide +kernel) (by decide +kernel)) ?_
  refine zap (zi_mono _ _) (zi_ok (zg_astore (by decide +kernel) (by decide +kernel))) ?_
  refine zap (zi_mono _ _) (zi_ok (zg_aload (by decide +kernel))) ?_
  refine zap (zget_mono _ _) (zget_ok (index := 178) (C := RC3) (ref := "VectorLanguage$Environment") (T := FC3) (NN := 5) (by decide +kernel) rfl iC3 (by decide +kernel) (zin 67 (by decide +kernel) rfl) rfl) ?_
  refine zap (zi_mono _ _) (zi_ok (zg_aload_n (j := 1) (by decide +kernel) rfl)) ?_
  refine zap (zget_mono _ _) (zget_ok (index := 114) (C := RC6) (ref := "VectorLanguage$Expression") (T := FC6) (NN := 5) (by decide +kernel) rfl iC6 (by decide +kernel) (zin 334 (by decide +kernel) rfl) rfl) ?_
  refine zap (zi_mono _ _) (zi_ok (zg_aload (by decide +kernel))) ?_
  refine zap (zaast_mono _ _ _) (zaast_ok (by decide +kernel) (za ⟨_, rfl, Or.inr (List.mem_of_getElem? (i := 15) rfl)⟩ (za ⟨_, rfl, Or.inr (List.mem_of_getElem? (i := 14) rfl)⟩ (za ⟨_, rfl, Or.inr (List.mem_of_getElem? (i := 13) rfl)⟩ zn)))) ?_
  refine zap (zi_mono _ _) (zi_ok (zg_aload (by decide +kernel))) ?_
  refine zap (zretA_mono) (zretA_ok (by decide +kernel) rfl (Or.inl ⟨_, rfl⟩)) ?_
  exact zn
/-- VectorLanguage$Environment.nearestAround(I)LVectorLanguage$Environment; -/
def tb31 (tys : List (ClassId × FieldType)) : List (Nat × (zP → zP)) := [(0, zi (gAl 0) 1), (1, zget 3 1), (4, zb (cNN) 11), (7, zi (gAl 0) 1), (8, zj 15), (11, zi (gAl 0) 1), (12, zget 3 1), (15, zi (gAs 2) 1), (16, zi (gAl 2) 1), (17, zget 3 1), (20, zb (cN) 40), (23, zi (gAl 2) 1), (24, zget 3 0), (27, zi (gIl 1) 1), (28, zaald tys), (29, zb (cNN) 40), (32, zi (gAl 2) 1), (33, zget 3 1), (36, zi (gAs 2) 1), (37, zj 16), (40, zi (gAl 2) 1), (41, zretA)]
set_option maxRecDepth 100000 in
theorem ok31 (l : Launch) (D : va_G) (dA : Nat → ClassId) (b0 : Nat) : ∀ q ∈ tb31 (ztys dA), zOK l D dA b0 31 q.1 q.2 := by
  refine zap (zi_mono _ _) (zi_ok (zg_aload_n (j := 0) (by decide +kernel) rfl)) ?_
  refine zap (zget_mono _ _) (zget_ok (index := 31) (C := RC3) (ref := "VectorLanguage$Environment") (T := FC3) (NN := 5) (by decide +kernel) rfl iC3 (by decide +kernel) (zin 68 (by decide +kernel) rfl) rfl) ?_
  refine zap (zb_mono _ _) (zb_ok (zb_nonnull (off := 7) (by decide +kernel) (by decide +kernel))) ?_
  refine zap (zi_mono _ _) (zi_ok (zg_aload_n (j := 0) (by decide +kernel) rfl)) ?_
  refine zap (zj_mono _) (zj_ok (off := 7) (by decide +kernel) (by decide +kernel)) ?_
  refine zap (zi_mono _ _) (zi_ok (zg_aload_n (j := 0) (by decide +kernel) rfl)) ?_
  refine zap (zget_mono _ _) (zget_ok (index := 31) (C := RC3) (ref := "VectorLanguage$Environment") (T := FC3) (NN := 5) (by decide +kernel) rfl iC3 (by decide +kernel) (zin 68 (by decide +kernel) rfl) rfl) ?_
  refine zap (zi_mono _ _) (zi_ok (zg_astore_n (j := 2) (by decide +kernel) rfl (by decide +kernel))) ?_
  refine zap (zi_mono _ _) (zi_ok (zg_aload_n (j := 2) (by decide +kernel) rfl)) ?_
  refine zap (zget_mono _ _) (zget_ok (index := 31) (C := RC3) (ref := "VectorLanguage$Environment") (T := FC3) (NN := 5) (by decide +kernel) rfl iC3 (by decide +kernel) (zin 68 (by decide +kernel) rfl) rfl) ?_
  refine zap (zb_mono _ _) (zb_ok (zb_null (off := 20) (by decide +kernel) (by decide +kernel))) ?_
  refine zap (zi_mono _ _) (zi_ok (zg_aload_n (j := 2) (by decide +kernel) rfl)) ?_
  refine zap (zget_mono _ _) (zget_ok (index := 11) (C := RC3) (ref := "VectorLanguage$Environment") (T := FC3) (NN := 5) (by decide +kernel) rfl iC3 (by decide +kernel) (zin 65 (by decide +kernel) rfl) rfl) ?_
  refine zap (zi_mono _ _) (zi_ok (zg_iload_n (j := 1) (by decide +kernel) rfl)) ?_
  refine zap (zaald_mono _) (zaald_ok (by decide +kernel)) ?_
  refine zap (zb_mono _ _) (zb_ok (zb_nonnull (off := 11) (by decide +kernel) (by decide +kernel))) ?_
  refine zap (zi_mono _ _) (zi_ok (zg_aload_n (j := 2) (by decide +kernel) rfl)) ?_
  refine zap (zget_mono _ _) (zget_ok (index := 31) (C := RC3) (ref := "VectorLanguage$Environment") (T := FC3) (NN := 5) (by decide +kernel) rfl iC3 (by decide +kernel) (zin 68 (by decide +kernel) rfl) rfl) ?_
  refine zap (zi_mono _ _) (zi_ok (zg_astore_n (j := 2) (by decide +kernel) rfl (by decide +kernel))) ?_
  refine zap (zj_mono _) (zj_ok (off := -21) (by decide +kernel) (by decide +kernel)) ?_
  refine zap (zi_mono _ _) (zi_ok (zg_aload_n (j := 2) (by decide +kernel) rfl)) ?_
  refine zap (zretA_mono) (zretA_ok (by decide +kernel) rfl (Or.inl ⟨_, rfl⟩)) ?_
  exact zn
