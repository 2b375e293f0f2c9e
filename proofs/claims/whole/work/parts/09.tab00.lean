/-- VectorLanguage.<init>()V -/
def tb0 (_ : List (ClassId × FieldType)) : List (Nat × (zP → zP)) := [(0, zi (gAl 0) 1), (1, zobj), (4, zi (gAl 0) 1), (5, znew 1 2 dC1), (8, zi (gDup) 1), (9, zcI 1 1 0), (12, zput (.object "VectorLanguage$Program") 0 0), (15, zi (gAl 0) 1), (16, znew 2 13 dC2), (19, zi (gDup) 1), (20, zi (gAl 0) 1), (21, zget 0 0), (24, zcI 2 2 1), (27, zput (.object "VectorLanguage$Evaluator") 0 1), (30, zi (gAl 0) 1), (31, zi (gC .null) 1), (32, zput (.object "VectorLanguage$Value") 0 2), (35, zretV)]
set_option maxRecDepth 100000 in
theorem ok0 (l : Launch) (D : va_G) (dA : Nat → ClassId) (b0 : Nat) : ∀ q ∈ tb0 (ztys dA), zOK l D dA b0 0 q.1 q.2 := by
  refine zap (zi_mono _ _) (zi_ok (zg_aload_n (j := 0) (by decide +kernel) rfl)) ?_
  refine zap (zobj_mono) (zobj_ok (idx := 1) (by decide +kernel) (zin 31 (by decide +kernel) rfl) (zin 32 (by decide +kernel) rfl) (zin 33 (by decide +kernel) rfl)) ?_
  refine zap (zi_mono _ _) (zi_ok (zg_aload_n (j := 0) (by decide +kernel) rfl)) ?_
  refine zap (znew_mono _ _ _) (znew_ok (index := 7) (C := RC1) (T := FC1) tC1 (by decide +kernel) rfl iC1 tC1_ok (zin 34 (by decide +kernel) rfl) (zin 35 (by decide +kernel) rfl) (zin 2 (by decide +kernel) rfl) dC1_ok) ?_
  refine zap (zi_mono _ _) (zi_ok (zg_dup (by decide +kernel))) ?_
  refine zap (zcI_mono _ _ _) (zcIN_ok znst_st (μ' := 1) (na := 0) (index := 9) (host := "VectorLanguage") (by decide +kernel) (by decide +kernel) rfl rfl (zgI (zin 38 (by decide +kernel) rfl)) (List.mem_of_getElem? (i := 0) rfl) (zin 2 (by decide +kernel) rfl) (zin 37 (by decide +kernel) rfl) (by decide +kernel) (by decide +kernel)) ?_
  refine zap (zput_mono _ _ _) (zput_ok (index := 10) (C := RC0) (ref := "VectorLanguage") (T := FC0) (NN := 3) tC0 (by decide +kernel) rfl iC0 tC0_ok nC0 (by decide +kernel) (zin 177 (by decide +kernel) rfl) rfl (Or.inr ⟨rfl, rfl, rfl⟩) rfl) ?_
  refine zap (zi_mono _ _) (zi_ok (zg_aload_n (j := 0) (by decide +kernel) rfl)) ?_
  refine zap (znew_mono _ _ _) (znew_ok (index := 16) (C := RC2) (T := FC2) tC2 (by decide +kernel) rfl iC2 tC2_ok (zin 51 (by decide +kernel) rfl) (zin 52 (by decide +kernel) rfl) (zin 3 (by decide +kernel) rfl) dC2_ok) ?_
  refine zap (zi_mono _ _) (zi_ok (zg_dup (by decide +kernel))) ?_
  refine zap (zi_mono _ _) (zi_ok (zg_aload_n (j := 0) (by decide +kernel) rfl)) ?_
  refine zap (zget_mono _ _) (zget_ok (index := 10) (C := RC0) (ref := "VectorLanguage") (T := FC0) (NN := 3) (by decide +kernel) rfl iC0 (by decide +kernel) (zin 177 (by decide +kernel) rfl) rfl) ?_
  refine zap (zcI_mono _ _ _) (zcI_ok znst_st (μ' := 2) (na := 1) (index := 18) (by decide +kernel) (by decide +kernel) rfl rfl (zgI (zin 55 (by decide +kernel) rfl)) (zin 3 (by decide +kernel) rfl) (zin 53 (by decide +kernel) rfl) (zin 54 (by decide +kernel) rfl) (by decide +kernel) (by decide +kernel)) ?_
  refine zap (zput_mono _ _ _) (zput_ok (index := 21) (C := RC0) (ref := "VectorLanguage") (T := FC0) (NN := 3) tC0 (by decide +kernel) rfl iC0 tC0_ok nC0 (by decide +kernel) (zin 178 (by decide +kernel) rfl) rfl (Or.inr ⟨rfl, rfl, rfl⟩) rfl) ?_
  refine zap (zi_mono _ _) (zi_ok (zg_aload_n (j := 0) (by decide +kernel) rfl)) ?_
  refine zap (zi_mono _ _) (zi_ok (zg_null (by decide +kernel))) ?_
  refine zap (zput_mono _ _ _) (zput_ok (index := 25) (C := RC0) (ref := "VectorLanguage") (T := FC0) (NN := 3) tC0 (by decide +kernel) rfl iC0 tC0_ok nC0 (by decide +kernel) (zin 179 (by decide +kernel) rfl) rfl (Or.inl rfl) rfl) ?_
  refine zap (zretV_mono) (zretV_ok (by decide +kernel) rfl) ?_
  exact zn
/-- VectorLanguage$Program.<init>()V -/
def tb1 (tys : List (ClassId × FieldType)) : List (Nat × (zP → zP)) := [(0, zi (gAl 0) 1), (1, zobj), (4, zi (gAl 0) 1), (5, zi (gC (.int (120))) 2), (7, znewq tys "VectorLanguage$Expression"), (10, zput (.array (.object "VectorLanguage$Expression")) 1 0), (13, zretV)]
set_option maxRecDepth 100000 in
theorem ok1 (l : Launch) (D : va_G) (dA : Nat → ClassId) (b0 : Nat) : ∀ q ∈ tb1 (ztys dA), zOK l D dA b0 1 q.1 q.2 := by
  refine zap (zi_mono _ _) (zi_ok (zg_aload_n (j := 0) (by decide +kernel) rfl)) ?_
  refine zap (zobj_mono) (zobj_ok (idx := 3) (by decide +kernel) (zin 39 (by decide +kernel) rfl) (zin 32 (by decide +kernel) rfl) (zin 33 (by decide +kernel) rfl)) ?_
  refine zap (zi_mono _ _) (zi_ok (zg_aload_n (j := 0) (by decide +kernel) rfl)) ?_
  refine zap (zi_mono _ _) (zi_ok (zg_bipush (n := 120) (by decide +kernel) (by decide +kernel))) ?_
  refine zap (znewq_mono _ _) (znewq_ok (index := 9) (by decide +kernel) (zin 40 (by decide +kernel) rfl) (List.mem_of_getElem? (i := 17) rfl)) ?_
  refine zap (zput_mono _ _ _) (zput_ok (index := 11) (C := RC1) (ref := "VectorLanguage$Program") (T := FC1) (NN := 2) tC1 (by decide +kernel) rfl iC1 tC1_ok nC1 (by decide +kernel) (zin 42 (by decide +kernel) rfl) rfl (Or.inr ⟨rfl, rfl, rfl⟩) rfl) ?_
  refine zap (zretV_mono) (zretV_ok (by decide +kernel) rfl) ?_
  exact zn
/-- VectorLanguage$Evaluator.<init>(LVectorLanguage$Program;)V -/
def tb2 (tys : List (ClassId × FieldType)) : List (Nat × (zP → zP)) := [(0, zi (gAl 0) 1), (1, zobj), (4, zi (gAl 0) 1), (5, znew 3 5 dC3), (8, zi (gDup) 1), (9, zi (gC .null) 1), (10, zi (gC (.int (0))) 1), (11, zcI 3 3 2), (14, zput (.object "VectorLanguage$Environment") 2 1), (17, zi (gAl 0) 1), (18, znew 4 5 dC4), (21, zi (gDup) 1), (22, zcI 1 4 0), (25, zput (.object "VectorLanguage$Places") 2 8), (28, zi (gAl 0) 1), (29, znew 5 1 dC5), (32, zi (gDup) 1), (33, zi (gC (.int (0))) 1), (34, znewi tys), (36, zcI 2 5 1), (39, zput (.object "VectorLanguage$Vector") 2 9), (42, zi (gAl 0) 1), (43, znew 5 1 dC5), (46, zi (gDup) 1), (47, zi (gC (.int (-2147483648))) 2), (49, zcI 2 8 1), (52, zput (.object "VectorLanguage$Vector") 2 10), (55, zi (gAl 0) 1), (56, znew 5 1 dC5), (59, zi (gDup) 1), (60, zi (gC (.int (0))) 1), (61, zcI 2 8 1), (64, zput (.object "VectorLanguage$Vector") 2 11), (67, zi (gAl 0) 1), (68, znew 5 1 dC5), (71, zi (gDup) 1), (72, zi (gC (.int (1))) 1), (73, zcI 2 8 1), (76, zput (.object "VectorLanguage$Vector") 2 12), (79, zi (gAl 0) 1), (80, zi (gAl 1) 1), (81, zput (.object "VectorLanguage$Program") 2 0), (84, zretV)]
set_option maxRecDepth 100000 in
theorem ok2 (l : Launch) (D : va_G) (dA : Nat → ClassId) (b0 : Nat) : ∀ q ∈ tb2 (ztys dA), zOK l D dA b0 2 q.1 q.2 := by
  refine zap (zi_mono _ _) (zi_ok (zg_aload_n (j := 0) (by decide +kernel) rfl)) ?_
  refine zap (zobj_mono) (zobj_ok (idx := 3) (by decide +kernel) (zin 56 (by decide +kernel) rfl) (zin 32 (by decide +kernel) rfl) (zin 33 (by decide +kernel) rfl)) ?_
  refine zap (zi_mono _ _) (zi_ok (zg_aload_n (j := 0) (by decide +kernel) rfl)) ?_
  refine zap (znew_mono _ _ _) (znew_ok (index := 9) (C := RC3) (T := FC3) tC3 (by decide +kernel) rfl iC3 tC3_ok (zin 57 (by decide +kernel) rfl) (zin 58 (by decide +kernel) rfl) (zin 4 (by decide +kernel) rfl) dC3_ok) ?_
  refine zap (zi_mono _ _) (zi_ok (zg_dup (by decide +kernel))) ?_
  refine zap (zi_mono _ _) (zi_ok (zg_null (by decide +kernel))) ?_
  refine zap (zi_mono _ _) (zi_ok (zg_iconst (n := 0) (by decide +kernel) (by decide +kernel))) ?_
  refine zap (zcI_mono _ _ _) (zcI_ok znst_st (μ' := 3) (na := 2) (index := 11) (by decide +kernel) (by decide +kernel) rfl rfl (zgI (zin 61 (by decide +kernel) rfl)) (zin 4 (by decide +kernel) rfl) (zin 59 (by decide +kernel) rfl) (zin 60 (by decide +kernel) rfl) (by decide +kernel) (by decide +kernel)) ?_
  refine zap (zput_mono _ _ _) (zput_ok (index := 14) (C := RC2) (ref := "VectorLanguage$Evaluator") (T := FC2) (NN := 13) tC2 (by decide +kernel) rfl iC2 tC2_ok nC2 (by decide +kernel) (zin 133 (by decide +kernel) rfl) rfl (Or.inr ⟨rfl, rfl, rfl⟩) rfl) ?_
  refine zap (zi_mono _ _) (zi_ok (zg_aload_n (j := 0) (by decide +kernel) rfl)) ?_
  refine zap (znew_mono _ _ _) (znew_ok (index := 20) (C := RC4) (T := FC4) tC4 (by decide +kernel) rfl iC4 tC4_ok (zin 85 (by decide +kernel) rfl) (zin 86 (by decide +kernel) rfl) (zin 5 (by decide +kernel) rfl) dC4_ok) ?_
  refine zap (zi_mono _ _) (zi_ok (zg_dup (by decide +kernel))) ?_
  refine zap (zcI_mono _ _ _) (zcIN_ok znst_st (μ' := 4) (na := 0) (index := 22) (host := "VectorLanguage") (by decide +kernel) (by decide +kernel) rfl rfl (zgI (zin 89 (by decide +kernel) rfl)) (List.mem_of_getElem? (i := 1) rfl) (zin 5 (by decide +kernel) rfl) (zin 88 (by decide +kernel) rfl) (by decide +kernel) (by decide +kernel)) ?_
  refine zap (zput_mono _ _ _) (zput_ok (index := 23) (C := RC2) (ref := "VectorLanguage$Evaluator") (T := FC2) (NN := 13) tC2 (by decide +kernel) rfl iC2 tC2_ok nC2 (by decide +kernel) (zin 145 (by decide +kernel) rfl) rfl (Or.inr ⟨rfl, rfl, rfl⟩) rfl) ?_
  refine zap (zi_mono _ _) (zi_ok (zg_aload_n (j := 0) (by decide +kernel) rfl)) ?_
  refine zap (znew_mono _ _ _) (znew_ok (index := 27) (C := RC5) (T := FC5) tC5 (by decide +kernel) rfl iC5 tC5_ok (zin 110 (by decide +kernel) rfl) (zin 111 (by decide +kernel) rfl) (zin 8 (by decide +kernel) rfl) dC5_ok) ?_
  refine zap (zi_mono _ _) (zi_ok (zg_dup (by decide +kernel))) ?_
  refine zap (zi_mono _ _) (zi_ok (zg_iconst (n := 0) (by decide +kernel) (by decide +kernel))) ?_
  refine zap (znewi_mono _) (znewi_ok (by decide +kernel) (zin 109 (by decide +kernel) rfl)) ?_
  refine zap (zcI_mono _ _ _) (zcI_ok znst_st (μ' := 5) (na := 1) (index := 29) (by decide +kernel) (by decide +kernel) rfl rfl (zgI (zin 114 (by decide +kernel) rfl)) (zin 8 (by decide +kernel) rfl) (zin 112 (by decide +kernel) rfl) (zin 113 (by decide +kernel) rfl) (by decide +kernel) (by decide +kernel)) ?_
  refine zap (zput_mono _ _ _) (zput_ok (index := 32) (C := RC2) (ref := "VectorLanguage$Evaluator") (T := FC2) (NN := 13) tC2 (by decide +kernel) rfl iC2 tC2_ok nC2 (by decide +kernel) (zin 146 (by decide +kernel) rfl) rfl (Or.inr ⟨rfl, rfl, rfl⟩) rfl) ?_
  refine zap (zi_mono _ _) (zi_ok (zg_aload_n (j := 0) (by decide +kernel) rfl)) ?_
  refine zap (znew_mono _ _ _) (znew_ok (index := 27) (C := RC5) (T := FC5) tC5 (by decide +kernel) rfl iC5 tC5_ok (zin 110 (by decide +kernel) rfl) (zin 111 (by decide +kernel) rfl) (zin 8 (by decide +kernel) rfl) dC5_ok) ?_
  refine zap (zi_mono _ _) (zi_ok (zg_dup (by decide +kernel))) ?_
  refine zap (zi_mono _ _) (zi_ok (zg_ldc (index := 36) (by decide +kernel) (zin 128 (by decide +kernel) rfl))) ?_
  refine zap (zcI_mono _ _ _) (zcI_ok znst_st (μ' := 8) (na := 1) (index := 37) (by decide +kernel) (by decide +kernel) rfl rfl (zgI (zin 131 (by decide +kernel) rfl)) (zin 8 (by decide +kernel) rfl) (zin 129 (by decide +kernel) rfl) (zin 130 (by decide +kernel) rfl) (by decide +kernel) (by decide +kernel)) ?_
  refine zap (zput_mono _ _ _) (zput_ok (index := 40) (C := RC2) (ref := "VectorLanguage$Evaluator") (T := FC2) (NN := 13) tC2 (by decide +kernel) rfl iC2 tC2_ok nC2 (by decide +kernel) (zin 147 (by decide +kernel) rfl) rfl (Or.inr ⟨rfl, rfl, rfl⟩) rfl) ?_
  refine zap (zi_mono _ _) (zi_ok (zg_aload_n (j := 0) (by decide +kernel) rfl)) ?_
  refine zap (znew_mono _ _ _) (znew_ok (index := 27) (C := RC5) (T := FC5) tC5 (by decide +kernel) rfl iC5 tC5_ok (zin 110 (by decide +kernel) rfl) (zin 111 (by decide +kernel) rfl) (zin 8 (by decide +kernel) rfl) dC5_ok) ?_
  refine zap (zi_mono _ _) (zi_ok (zg_dup (by decide +kernel))) ?_
  refine zap (zi_mono _ _) (zi_ok (zg_iconst (n := 0) (by decide +kernel) (by decide +kernel))) ?_
  refine zap (zcI_mono _ _ _) (zcI_ok znst_st (μ' := 8) (na := 1) (index := 37) (by decide +kernel) (by decide +kernel) rfl rfl (zgI (zin 131 (by decide +kernel) rfl)) (zin 8 (by decide +kernel) rfl) (zin 129 (by decide +kernel) rfl) (zin 130 (by decide +kernel) rfl) (by decide +kernel) (by decide +kernel)) ?_
  refine zap (zput_mono _ _ _) (zput_ok (index := 43) (C := RC2) (ref := "VectorLanguage$Evaluator") (T := FC2) (NN := 13) tC2 (by decide +kernel) rfl iC2 tC2_ok nC2 (by decide +kernel) (zin 148 (by decide +kernel) rfl) rfl (Or.inr ⟨rfl, rfl, rfl⟩) rfl) ?_
  refine zap (zi_mono _ _) (zi_ok (zg_aload_n (j := 0) (by decide +kernel) rfl)) ?_
  refine zap (znew_mono _ _ _) (znew_ok (index := 27) (C := RC5) (T := FC5) tC5 (by decide +kernel) rfl iC5 tC5_ok (zin 110 (by decide +kernel) rfl) (zin 111 (by decide +kernel) rfl) (zin 8 (by decide +kernel) rfl) dC5_ok) ?_
  refine zap (zi_mono _ _) (zi_ok (zg_dup (by decide +kernel))) ?_
  refine zap (zi_mono _ _) (zi_ok (zg_iconst (n := 1) (by decide +kernel) (by decide +kernel))) ?_
  refine zap (zcI_mono _ _ _) (zcI_ok znst_st (μ' := 8) (na := 1) (index := 37) (by decide +kernel) (by decide +kernel) rfl rfl (zgI (zin 131 (by decide +kernel) rfl)) (zin 8 (by decide +kernel) rfl) (zin 129 (by decide +kernel) rfl) (zin 130 (by decide +kernel) rfl) (by decide +kernel) (by decide +kernel)) ?_
  refine zap (zput_mono _ _ _) (zput_ok (index := 46) (C := RC2) (ref := "VectorLanguage$Evaluator") (T := FC2) (NN := 13) tC2 (by decide +kernel) rfl iC2 tC2_ok nC2 (by decide +kernel) (zin 149 (by decide +kernel) rfl) rfl (Or.inr ⟨rfl, rfl, rfl⟩) rfl) ?_
  refine zap (zi_mono _ _) (zi_ok (zg_aload_n (j := 0) (by decide +kernel) rfl)) ?_
  refine zap (zi_mono _ _) (zi_ok (zg_aload_n (j := 1) (by decide +kernel) rfl)) ?_
  refine zap (zput_mono _ _ _) (zput_ok (index := 49) (C := RC2) (ref := "VectorLanguage$Evaluator") (T := FC2) (NN := 13) tC2 (by decide +kernel) rfl iC2 tC2_ok nC2 (by decide +kernel) (zin 132 (by decide +kernel) rfl) rfl (Or.inr ⟨rfl, rfl, rfl⟩) rfl) ?_
  refine zap (zretV_mono) (zretV_ok (by decide +kernel) rfl) ?_
  exact zn
/-- VectorLanguage$Environment.<init>(LVectorLanguage$Function;I)V -/
def tb3 (tys : List (ClassId × FieldType)) : List (Nat × (zP → zP)) := [(0, zi (gAl 0) 1), (1, zobj), (4, zi (gAl 0) 1), (5, zi (gC (.int (10))) 2), (7, znewq tys "VectorLanguage$Held"), (10, zput (.array (.object "VectorLanguage$Held")) 3 0), (13, zi (gAl 0) 1), (14, zi (gAl 1) 1), (15, zput (.object "VectorLanguage$Function") 3 2), (18, zi (gAl 0) 1), (19, zi (gIl 2) 1), (20, zput (.int) 3 3), (23, zi (gAl 0) 1), (24, zi (gAl 1) 1), (25, zb (cNN) 32), (28, zi (gC .null) 1), (29, zj 36), (32, zi (gAl 1) 1), (33, zget 7 3), (36, zput (.object "VectorLanguage$Environment") 3 1), (39, zretV)]
set_option maxRecDepth 100000 in
theorem ok3 (l : Launch) (D : va_G) (dA : Nat → ClassId) (b0 : Nat) : ∀ q ∈ tb3 (ztys dA), zOK l D dA b0 3 q.1 q.2 := by
  refine zap (zi_mono _ _) (zi_ok (zg_aload_n (j := 0) (by decide +kernel) rfl)) ?_
  refine zap (zobj_mono) (zobj_ok (idx := 3) (by decide +kernel) (zin 62 (by decide +kernel) rfl) (zin 32 (by decide +kernel) rfl) (zin 33 (by decide +kernel) rfl)) ?_
  refine zap (zi_mono _ _) (zi_ok (zg_aload_n (j := 0) (by decide +kernel) rfl)) ?_
  refine zap (zi_mono _ _) (zi_ok (zg_bipush (n := 10) (by decide +kernel) (by decide +kernel))) ?_
  refine zap (znewq_mono _ _) (znewq_ok (index := 9) (by decide +kernel) (zin 63 (by decide +kernel) rfl) (List.mem_of_getElem? (i := 18) rfl)) ?_
  refine zap (zput_mono _ _ _) (zput_ok (index := 11) (C := RC3) (ref := "VectorLanguage$Environment") (T := FC3) (NN := 5) tC3 (by decide +kernel) rfl iC3 tC3_ok nC3 (by decide +kernel) (zin 65 (by decide +kernel) rfl) rfl (Or.inr ⟨rfl, rfl, rfl⟩) rfl) ?_
  refine zap (zi_mono _ _) (zi_ok (zg_aload_n (j := 0) (by decide +kernel) rfl)) ?_
  refine zap (zi_mono _ _) (zi_ok (zg_aload_n (j := 1) (by decide +kernel) rfl)) ?_
  refine zap (zput_mono _ _ _) (zput_ok (index := 17) (C := RC3) (ref := "VectorLanguage$Environment") (T := FC3) (NN := 5) tC3 (by decide +kernel) rfl iC3 tC3_ok nC3 (by decide +kernel) (zin 69 (by decide +kernel) rfl) rfl (Or.inr ⟨rfl, rfl, rfl⟩) rfl) ?_
  refine zap (zi_mono _ _) (zi_ok (zg_aload_n (j := 0) (by decide +kernel) rfl)) ?_
  refine zap (zi_mono _ _) (zi_ok (zg_iload_n (j := 2) (by decide +kernel) rfl)) ?_
  refine zap (zput_mono _ _ _) (zput_ok (index := 21) (C := RC3) (ref := "VectorLanguage$Environment") (T := FC3) (NN := 5) tC3 (by decide +kernel) rfl iC3 tC3_ok nC3 (by decide +kernel) (zin 71 (by decide +kernel) rfl) rfl (Or.inr ⟨rfl, rfl, rfl⟩) rfl) ?_
  refine zap (zi_mono _ _) (zi_ok (zg_aload_n (j := 0) (by decide +kernel) rfl)) ?_
  refine zap (zi_mono _ _) (zi_ok (zg_aload_n (j := 1) (by decide +kernel) rfl)) ?_
  refine zap (zb_mono _ _) (zb_ok (zb_nonnull (off := 7) (by decide +kernel) (by decide +kernel))) ?_
  refine zap (zi_mono _ _) (zi_ok (zg_null (by decide +kernel))) ?_
  refine zap (zj_mono _) (zj_ok (off := 7) (by decide +kernel) (by decide +kernel)) ?_
  refine zap (zi_mono _ _) (zi_ok (zg_aload_n (j := 1) (by decide +kernel) rfl)) ?_
  refine zap (zget_mono _ _) (zget_ok (index := 25) (C := RC7) (ref := "VectorLanguage$Function") (T := FC7) (NN := 4) (by decide +kernel) rfl iC7 (by decide +kernel) (zin 531 (by decide +kernel) rfl) rfl) ?_
  refine zap (zput_mono _ _ _) (zput_ok (index := 31) (C := RC3) (ref := "VectorLanguage$Environment") (T := FC3) (NN := 5) tC3 (by decide +kernel) rfl iC3 tC3_ok nC3 (by decide +kernel) (zin 68 (by decide +kernel) rfl) rfl (Or.inr ⟨rfl, rfl, rfl⟩) rfl) ?_
  refine zap (zretV_mono) (zretV_ok (by decide +kernel) rfl) ?_
  exact zn
/-- VectorLanguage$Places.<init>()V -/
def tb4 (tys : List (ClassId × FieldType)) : List (Nat × (zP → zP)) := [(0, zi (gAl 0) 1), (1, zobj), (4, zi (gAl 0) 1), (5, zi (gC (.int (16))) 2), (7, znewi tys), (9, zput (.array (.int)) 4 0), (12, zretV)]
set_option maxRecDepth 100000 in
theorem ok4 (l : Launch) (D : va_G) (dA : Nat → ClassId) (b0 : Nat) : ∀ q ∈ tb4 (ztys dA), zOK l D dA b0 4 q.1 q.2 := by
  refine zap (zi_mono _ _) (zi_ok (zg_aload_n (j := 0) (by decide +kernel) rfl)) ?_
  refine zap (zobj_mono) (zobj_ok (idx := 3) (by decide +kernel) (zin 90 (by decide +kernel) rfl) (zin 32 (by decide +kernel) rfl) (zin 33 (by decide +kernel) rfl)) ?_
  refine zap (zi_mono _ _) (zi_ok (zg_aload_n (j := 0) (by decide +kernel) rfl)) ?_
  refine zap (zi_mono _ _) (zi_ok (zg_bipush (n := 16) (by decide +kernel) (by decide +kernel))) ?_
  refine zap (znewi_mono _) (znewi_ok (by decide +kernel) (zin 109 (by decide +kernel) rfl)) ?_
  refine zap (zput_mono _ _ _) (zput_ok (index := 9) (C := RC4) (ref := "VectorLanguage$Places") (T := FC4) (NN := 5) tC4 (by decide +kernel) rfl iC4 tC4_ok nC4 (by decide +kernel) (zin 91 (by decide +kernel) rfl) rfl (Or.inr ⟨rfl, rfl, rfl⟩) rfl) ?_
  refine zap (zretV_mono) (zretV_ok (by decide +kernel) rfl) ?_
  exact zn
/-- VectorLanguage$Vector.<init>([I)V -/
def tb5 (_ : List (ClassId × FieldType)) : List (Nat × (zP → zP)) := [(0, zi (gAl 0) 1), (1, zcI 1 6 0), (4, zi (gAl 0) 1), (5, zi (gAl 1) 1), (6, zput (.array (.int)) 5 0), (9, zretV)]
set_option maxRecDepth 100000 in
theorem ok5 (l : Launch) (D : va_G) (dA : Nat → ClassId) (b0 : Nat) : ∀ q ∈ tb5 (ztys dA), zOK l D dA b0 5 q.1 q.2 := by
  refine zap (zi_mono _ _) (zi_ok (zg_aload_n (j := 0) (by decide +kernel) rfl)) ?_
  refine zap (zcI_mono _ _ _) (zcIN_ok znst_st (μ' := 6) (na := 0) (index := 1) (host := "VectorLanguage") (by decide +kernel) (by decide +kernel) rfl rfl (zgI (zin 117 (by decide +kernel) rfl)) (List.mem_of_getElem? (i := 2) rfl) (zin 7 (by decide +kernel) rfl) (zin 116 (by decide +kernel) rfl) (by decide +kernel) (by decide +kernel)) ?_
  refine zap (zi_mono _ _) (zi_ok (zg_aload_n (j := 0) (by decide +kernel) rfl)) ?_
  refine zap (zi_mono _ _) (zi_ok (zg_aload_n (j := 1) (by decide +kernel) rfl)) ?_
  refine zap (zput_mono _ _ _) (zput_ok (index := 7) (C := RC5) (ref := "VectorLanguage$Vector") (T := FC5) (NN := 1) tC5 (by decide +kernel) rfl iC5 tC5_ok nC5 (by decide +kernel) (zin 122 (by decide +kernel) rfl) rfl (Or.inr ⟨rfl, rfl, rfl⟩) rfl) ?_
  refine zap (zretV_mono) (zretV_ok (by decide +kernel) rfl) ?_
  exact zn
/-- VectorLanguage$Value.<init>()V -/
def tb6 (_ : List (ClassId × FieldType)) : List (Nat × (zP → zP)) := [(0, zi (gAl 0) 1), (1, zcI 1 7 0), (4, zretV)]
set_option maxRecDepth 100000 in
theorem ok6 (l : Launch) (D : va_G) (dA : Nat → ClassId) (b0 : Nat) : ∀ q ∈ tb6 (ztys dA), zOK l D dA b0 6 q.1 q.2 := by
  refine zap (zi_mono _ _) (zi_ok (zg_aload_n (j := 0) (by decide +kernel) rfl)) ?_
  refine zap (zcI_mono _ _ _) (zcIN_ok znst_st (μ' := 7) (na := 0) (index := 1) (host := "VectorLanguage") (by decide +kernel) (by decide +kernel) rfl rfl (zgI (zin 120 (by decide +kernel) rfl)) (List.mem_of_getElem? (i := 3) rfl) (zin 6 (by decide +kernel) rfl) (zin 119 (by decide +kernel) rfl) (by decide +kernel) (by decide +kernel)) ?_
  refine zap (zretV_mono) (zretV_ok (by decide +kernel) rfl) ?_
  exact zn
/-- VectorLanguage$Held.<init>()V -/
def tb7 (_ : List (ClassId × FieldType)) : List (Nat × (zP → zP)) := [(0, zi (gAl 0) 1), (1, zobj), (4, zretV)]
set_option maxRecDepth 100000 in
theorem ok7 (l : Launch) (D : va_G) (dA : Nat → ClassId) (b0 : Nat) : ∀ q ∈ tb7 (ztys dA), zOK l D dA b0 7 q.1 q.2 := by
  refine zap (zi_mono _ _) (zi_ok (zg_aload_n (j := 0) (by decide +kernel) rfl)) ?_
  refine zap (zobj_mono) (zobj_ok (idx := 1) (by decide +kernel) (zin 121 (by decide +kernel) rfl) (zin 32 (by decide +kernel) rfl) (zin 33 (by decide +kernel) rfl)) ?_
  refine zap (zretV_mono) (zretV_ok (by decide +kernel) rfl) ?_
  exact zn
/-- VectorLanguage$Vector.<init>(I)V -/
def tb8 (tys : List (ClassId × FieldType)) : List (Nat × (zP → zP)) := [(0, zi (gAl 0) 1), (1, zcI 1 6 0), (4, zi (gAl 0) 1), (5, zi (gC (.int (1))) 1), (6, znewi tys), (8, zput (.array (.int)) 5 0), (11, zi (gAl 0) 1), (12, zget 5 0), (15, zi (gC (.int (0))) 1), (16, zi (gIl 1) 1), (17, ziast tys), (18, zretV)]
set_option maxRecDepth 100000 in
theorem ok8 (l : Launch) (D : va_G) (dA : Nat → ClassId) (b0 : Nat) : ∀ q ∈ tb8 (ztys dA), zOK l D dA b0 8 q.1 q.2 := by
  refine zap (zi_mono _ _) (zi_ok (zg_aload_n (j := 0) (by decide +kernel) rfl)) ?_
  refine zap (zcI_mono _ _ _) (zcIN_ok znst_st (μ' := 6) (na := 0) (index := 1) (host := "VectorLanguage") (by decide +kernel) (by decide +kernel) rfl rfl (zgI (zin 117 (by decide +kernel) rfl)) (List.mem_of_getElem? (i := 2) rfl) (zin 7 (by decide +kernel) rfl) (zin 116 (by decide +kernel) rfl) (by decide +kernel) (by decide +kernel)) ?_
  refine zap (zi_mono _ _) (zi_ok (zg_aload_n (j := 0) (by decide +kernel) rfl)) ?_
  refine zap (zi_mono _ _) (zi_ok (zg_iconst (n := 1) (by decide +kernel) (by decide +kernel))) ?_
  refine zap (znewi_mono _) (znewi_ok (by decide +kernel) (zin 109 (by decide +kernel) rfl)) ?_
  refine zap (zput_mono _ _ _) (zput_ok (index := 7) (C := RC5) (ref := "VectorLanguage$Vector") (T := FC5) (NN := 1) tC5 (by decide +kernel) rfl iC5 tC5_ok nC5 (by decide +kernel) (zin 122 (by decide +kernel) rfl) rfl (Or.inr ⟨rfl, rfl, rfl⟩) rfl) ?_
  refine zap (zi_mono _ _) (zi_ok (zg_aload_n (j := 0) (by decide +kernel) rfl)) ?_
  refine zap (zget_mono _ _) (zget_ok (index := 7) (C := RC5) (ref := "VectorLanguage$Vector") (T := FC5) (NN := 1) (by decide +kernel) rfl iC5 (by decide +kernel) (zin 122 (by decide +kernel) rfl) rfl) ?_
  refine zap (zi_mono _ _) (zi_ok (zg_iconst (n := 0) (by decide +kernel) (by decide +kernel))) ?_
  refine zap (zi_mono _ _) (zi_ok (zg_iload_n (j := 1) (by decide +kernel) rfl)) ?_
  refine zap (ziast_mono _) (ziast_ok (by decide +kernel)) ?_
  refine zap (zretV_mono) (zretV_ok (by decide +kernel) rfl) ?_
  exact zn
/-- VectorLanguage.failure()I -/
def tb9 (_ : List (ClassId × FieldType)) : List (Nat × (zP → zP)) := [(0, zi (gAl 0) 1), (1, zget 0 1), (4, zget 2 5), (7, zretI)]
set_option maxRecDepth 100000 in
theorem ok9 (l : Launch) (D : va_G) (dA : Nat → ClassId) (b0 : Nat) : ∀ q ∈ tb9 (ztys dA), zOK l D dA b0 9 q.1 q.2 := by
  refine zap (zi_mono _ _) (zi_ok (zg_aload_n (j := 0) (by decide +kernel) rfl)) ?_
  refine zap (zget_mono _ _) (zget_ok (index := 21) (C := RC0) (ref := "VectorLanguage") (T := FC0) (NN := 3) (by decide +kernel) rfl iC0 (by decide +kernel) (zin 178 (by decide +kernel) rfl) rfl) ?_
  refine zap (zget_mono _ _) (zget_ok (index := 71) (C := RC2) (ref := "VectorLanguage$Evaluator") (T := FC2) (NN := 13) (by decide +kernel) rfl iC2 (by decide +kernel) (zin 142 (by decide +kernel) rfl) rfl) ?_
  refine zap (zretI_mono) (zretI_ok (by decide +kernel) rfl) ?_
  exact zn
/-- VectorLanguage.reset()I -/
def tb10 (_ : List (ClassId × FieldType)) : List (Nat × (zP → zP)) := [(0, zi (gAl 0) 1), (1, zi (gC .null) 1), (2, zput (.object "VectorLanguage$Value") 0 2), (5, zi (gAl 0) 1), (6, zget 0 1), (9, zcV 2 11 0 2), (12, zretI)]
set_option maxRecDepth 100000 in
theorem ok10 (l : Launch) (D : va_G) (dA : Nat → ClassId) (b0 : Nat) : ∀ q ∈ tb10 (ztys dA), zOK l D dA b0 10 q.1 q.2 := by
  refine zap (zi_mono _ _) (zi_ok (zg_aload_n (j := 0) (by decide +kernel) rfl)) ?_
  refine zap (zi_mono _ _) (zi_ok (zg_null (by decide +kernel))) ?_
  refine zap (zput_mono _ _ _) (zput_ok (index := 25) (C := RC0) (ref := "VectorLanguage") (T := FC0) (NN := 3) tC0 (by decide +kernel) rfl iC0 tC0_ok nC0 (by decide +kernel) (zin 179 (by decide +kernel) rfl) rfl (Or.inl rfl) rfl) ?_
  refine zap (zi_mono _ _) (zi_ok (zg_aload_n (j := 0) (by decide +kernel) rfl)) ?_
  refine zap (zget_mono _ _) (zget_ok (index := 21) (C := RC0) (ref := "VectorLanguage") (T := FC0) (NN := 3) (by decide +kernel) rfl iC0 (by decide +kernel) (zin 178 (by decide +kernel) rfl) rfl) ?_
  refine zap (zcV_mono _ _ _ _) (zcV_ok znst_st (μ' := 11) (na := 0) (ci := 2) (index := 115) (q := (RC2, FC2, 13)) (by decide +kernel) (by decide +kernel) rfl (zgV (zin 195 (by decide +kernel) rfl) (zin 196 (by decide +kernel) rfl) (zin 197 (by decide +kernel) rfl) (zin 3 (by decide +kernel) rfl) (zin 198 (by decide +kernel) rfl)) (by decide +kernel) (by decide +kernel)) ?_
  refine zap (zretI_mono) (zretI_ok (by decide +kernel) rfl) ?_
  exact zn
/-- VectorLanguage$Evaluator.forget()I -/
def tb11 (_ : List (ClassId × FieldType)) : List (Nat × (zP → zP)) := [(0, zi (gAl 0) 1), (1, zget 2 2), (4, zi (gIs 1) 1), (5, zi (gAl 0) 1), (6, zi (gC (.int (0))) 1), (7, zput (.int) 2 2), (10, zi (gAl 0) 1), (11, zget 2 1), (14, zcV 2 12 0 3), (17, zi (gIl 1) 1), (18, zretI)]
set_option maxRecDepth 100000 in
theorem ok11 (l : Launch) (D : va_G) (dA : Nat → ClassId) (b0 : Nat) : ∀ q ∈ tb11 (ztys dA), zOK l D dA b0 11 q.1 q.2 := by
  refine zap (zi_mono _ _) (zi_ok (zg_aload_n (j := 0) (by decide +kernel) rfl)) ?_
  refine zap (zget_mono _ _) (zget_ok (index := 71) (C := RC2) (ref := "VectorLanguage$Evaluator") (T := FC2) (NN := 13) (by decide +kernel) rfl iC2 (by decide +kernel) (zin 135 (by decide +kernel) rfl) rfl) ?_
  refine zap (zi_mono _ _) (zi_ok (zg_istore_n (j := 1) (by decide +kernel) rfl (by decide +kernel))) ?_
  refine zap (zi_mono _ _) (zi_ok (zg_aload_n (j := 0) (by decide +kernel) rfl)) ?_
  refine zap (zi_mono _ _) (zi_ok (zg_iconst (n := 0) (by decide +kernel) (by decide +kernel))) ?_
  refine zap (zput_mono _ _ _) (zput_ok (index := 71) (C := RC2) (ref := "VectorLanguage$Evaluator") (T := FC2) (NN := 13) tC2 (by decide +kernel) rfl iC2 tC2_ok nC2 (by decide +kernel) (zin 135 (by decide +kernel) rfl) rfl (Or.inl rfl) rfl) ?_
  refine zap (zi_mono _ _) (zi_ok (zg_aload_n (j := 0) (by decide +kernel) rfl)) ?_
  refine zap (zget_mono _ _) (zget_ok (index := 14) (C := RC2) (ref := "VectorLanguage$Evaluator") (T := FC2) (NN := 13) (by decide +kernel) rfl iC2 (by decide +kernel) (zin 133 (by decide +kernel) rfl) rfl) ?_
  refine zap (zcV_mono _ _ _ _) (zcV_ok znst_st (μ' := 12) (na := 0) (ci := 3) (index := 74) (q := (RC3, FC3, 5)) (by decide +kernel) (by decide +kernel) rfl (zgV (zin 199 (by decide +kernel) rfl) (zin 200 (by decide +kernel) rfl) (zin 201 (by decide +kernel) rfl) (zin 4 (by decide +kernel) rfl) (zin 202 (by decide +kernel) rfl)) (by decide +kernel) (by decide +kernel)) ?_
  refine zap (zi_mono _ _) (zi_ok (zg_iload_n (j := 1) (by decide +kernel) rfl)) ?_
  refine zap (zretI_mono) (zretI_ok (by decide +kernel) rfl) ?_
  exact zn
/-- VectorLanguage$Environment.clear()V -/
def tb12 (tys : List (ClassId × FieldType)) : List (Nat × (zP → zP)) := [(0, zi (gC (.int (0))) 1), (1, zi (gIs 1) 1), (2, zi (gIl 1) 1), (3, zi (gC (.int (10))) 2), (5, zb (c2 (fun x y => y ≤ x)) 21), (8, zi (gAl 0) 1), (9, zget 3 0), (12, zi (gIl 1) 1), (13, zi (gC .null) 1), (14, zaast tys "VectorLanguage$Held" [5, 7, 8]), (15, zi (gIinc 1 (1)) 3), (18, zj 2), (21, zretV)]
set_option maxRecDepth 100000 in
theorem ok12 (l : Launch) (D : va_G) (dA : Nat → ClassId) (b0 : Nat) : ∀ q ∈ tb12 (ztys dA), zOK l D dA b0 12 q.1 q.2 := by
  refine zap (zi_mono _ _) (zi_ok (zg_iconst (n := 0) (by decide +kernel) (by decide +kernel))) ?_
  refine zap (zi_mono _ _) (zi_ok (zg_istore_n (j := 1) (by decide +kernel) rfl (by decide +kernel))) ?_
  refine zap (zi_mono _ _) (zi_ok (zg_iload_n (j := 1) (by decide +kernel) rfl)) ?_
  refine zap (zi_mono _ _) (zi_ok (zg_bipush (n := 10) (by decide +kernel) (by decide +kernel))) ?_
  refine zap (zb_mono _ _) (zb_ok (zb_ige (off := 16) (by decide +kernel) (by decide +kernel))) ?_
  refine zap (zi_mono _ _) (zi_ok (zg_aload_n (j := 0) (by decide +kernel) rfl)) ?_
  refine zap (zget_mono _ _) (zget_ok (index := 11) (C := RC3) (ref := "VectorLanguage$Environment") (T := FC3) (NN := 5) (by decide +kernel) rfl iC3 (by decide +kernel) (zin 65 (by decide +kernel) rfl) rfl) ?_
  refine zap (zi_mono _ _) (zi_ok (zg_iload_n (j := 1) (by decide +kernel) rfl)) ?_
  refine zap (zi_mono _ _) (zi_ok (zg_null (by decide +kernel))) ?_
  refine zap (zaast_mono _ _ _) (zaast_ok (by decide +kernel) (za ⟨_, rfl, Or.inr (List.mem_of_getElem? (i := 15) rfl)⟩ (za ⟨_, rfl, Or.inr (List.mem_of_getElem? (i := 14) rfl)⟩ (za ⟨_, rfl, Or.inr (List.mem_of_getElem? (i := 13) rfl)⟩ zn)))) ?_
  refine zap (zi_mono _ _) (zi_ok (zg_iinc (n := 1) (by decide +kernel) (by decide +kernel) (by decide +kernel))) ?_
  refine zap (zj_mono _) (zj_ok (off := -16) (by decide +kernel) (by decide +kernel)) ?_
  refine zap (zretV_mono) (zretV_ok (by decide +kernel) rfl) ?_
  exact zn
/-- VectorLanguage.expression(IIII)I -/
def tb13 (_ : List (ClassId × FieldType)) : List (Nat × (zP → zP)) := [(0, zi (gAl 0) 1), (1, zget 0 0), (4, zi (gIl 1) 1), (5, zi (gIl 2) 1), (6, zi (gIl 3) 1), (7, zi (gIl 4) 2), (9, zcV 5 14 4 1), (12, zb (c1 (fun x => ¬ x = 0)) 25), (18, zi (gDup) 1), (25, zi (gAl 0) 1), (26, zget 0 0), (29, zget 1 1), (32, zi (gC (.int (120))) 2), (34, zb (c2 (fun x y => x < y)) 47), (40, zi (gDup) 1), (47, zi (gAl 0) 1), (48, zget 0 0), (51, znew 6 5 dC6), (54, zi (gDup) 1), (55, zi (gIl 1) 1), (56, zi (gIl 2) 1), (57, zi (gIl 3) 1), (58, zi (gIl 4) 2), (60, zcI 5 20 4), (63, zcV 2 21 1 1), (66, zretI)]
set_option maxRecDepth 100000 in
theorem ok13 (l : Launch) (D : va_G) (dA : Nat → ClassId) (b0 : Nat) : ∀ q ∈ tb13 (ztys dA), zOK l D dA b0 13 q.1 q.2 := by
  refine zap (zi_mono _ _) (zi_ok (zg_aload_n (j := 0) (by decide +kernel) rfl)) ?_
  refine zap (zget_mono _ _) (zget_ok (index := 10) (C := RC0) (ref := "VectorLanguage") (T := FC0) (NN := 3) (by decide +kernel) rfl iC0 (by decide +kernel) (zin 177 (by decide +kernel) rfl) rfl) ?_
  refine zap (zi_mono _ _) (zi_ok (zg_iload_n (j := 1) (by decide +kernel) rfl)) ?_
  refine zap (zi_mono _ _) (zi_ok (zg_iload_n (j := 2) (by decide +kernel) rfl)) ?_
  refine zap (zi_mono _ _) (zi_ok (zg_iload_n (j := 3) (by decide +kernel) rfl)) ?_
  refine zap (zi_mono _ _) (zi_ok (zg_iload (by decide +kernel))) ?_
  refine zap (zcV_mono _ _ _ _) (zcV_ok znst_st (μ' := 14) (na := 4) (ci := 1) (index := 29) (q := (RC1, FC1, 2)) (by decide +kernel) (by decide +kernel) rfl (zgV (zin 212 (by decide +kernel) rfl) (zin 213 (by decide +kernel) rfl) (zin 214 (by decide +kernel) rfl) (zin 2 (by decide +kernel) rfl) (zin 215 (by decide +kernel) rfl)) (by decide +kernel) (by decide +kernel)) ?_
  refine zap (zb_mono _ _) (zb_ok (zb_ne (off := 13) (by decide +kernel) (by decide +kernel))) ?_
  refine zap (zi_mono _ _) (zi_ok (zg_dup (by decide +kernel))) ?_
  refine zap (zi_mono _ _) (zi_ok (zg_aload_n (j := 0) (by decide +kernel) rfl)) ?_
  refine zap (zget_mono _ _) (zget_ok (index := 10) (C := RC0) (ref := "VectorLanguage") (T := FC0) (NN := 3) (by decide +kernel) rfl iC0 (by decide +kernel) (zin 177 (by decide +kernel) rfl) rfl) ?_
  refine zap (zget_mono _ _) (zget_ok (index := 40) (C := RC1) (ref := "VectorLanguage$Program") (T := FC1) (NN := 2) (by decide +kernel) rfl iC1 (by decide +kernel) (zin 45 (by decide +kernel) rfl) rfl) ?_
  refine zap (zi_mono _ _) (zi_ok (zg_bipush (n := 120) (by decide +kernel) (by decide +kernel))) ?_
  refine zap (zb_mono _ _) (zb_ok (zb_ilt (off := 13) (by decide +kernel) (by decide +kernel))) ?_
  refine zap (zi_mono _ _) (zi_ok (zg_dup (by decide +kernel))) ?_
  refine zap (zi_mono _ _) (zi_ok (zg_aload_n (j := 0) (by decide +kernel) rfl)) ?_
  refine zap (zget_mono _ _) (zget_ok (index := 10) (C := RC0) (ref := "VectorLanguage") (T := FC0) (NN := 3) (by decide +kernel) rfl iC0 (by decide +kernel) (zin 177 (by decide +kernel) rfl) rfl) ?_
  refine zap (znew_mono _ _ _) (znew_ok (index := 49) (C := RC6) (T := FC6) tC6 (by decide +kernel) rfl iC6 tC6_ok (zin 323 (by decide +kernel) rfl) (zin 324 (by decide +kernel) rfl) (zin 15 (by decide +kernel) rfl) dC6_ok) ?_
  refine zap (zi_mono _ _) (zi_ok (zg_dup (by decide +kernel))) ?_
  refine zap (zi_mono _ _) (zi_ok (zg_iload_n (j := 1) (by decide +kernel) rfl)) ?_
  refine zap (zi_mono _ _) (zi_ok (zg_iload_n (j := 2) (by decide +kernel) rfl)) ?_
  refine zap (zi_mono _ _) (zi_ok (zg_iload_n (j := 3) (by decide +kernel) rfl)) ?_
  refine zap (zi_mono _ _) (zi_ok (zg_iload (by decide +kernel))) ?_
  refine zap (zcI_mono _ _ _) (zcI_ok znst_st (μ' := 20) (na := 4) (index := 51) (by decide +kernel) (by decide +kernel) rfl rfl (zgI (zin 327 (by decide +kernel) rfl)) (zin 15 (by decide +kernel) rfl) (zin 325 (by decide +kernel) rfl) (zin 326 (by decide +kernel) rfl) (by decide +kernel) (by decide +kernel)) ?_
  refine zap (zcV_mono _ _ _ _) (zcV_ok znst_st (μ' := 21) (na := 1) (ci := 1) (index := 54) (q := (RC1, FC1, 2)) (by decide +kernel) (by decide +kernel) rfl (zgV (zin 352 (by decide +kernel) rfl) (zin 353 (by decide +kernel) rfl) (zin 354 (by decide +kernel) rfl) (zin 2 (by decide +kernel) rfl) (zin 355 (by decide +kernel) rfl)) (by decide +kernel) (by decide +kernel)) ?_
  refine zap (zretI_mono) (zretI_ok (by decide +kernel) rfl) ?_
  exact zn
/-- VectorLanguage$Program.accepts(IIII)Z -/
def tb14 (_ : List (ClassId × FieldType)) : List (Nat × (zP → zP)) := [(0, zi (gIl 1) 1), (1, zsw [(0, 120), (1, 138), (2, 138), (3, 140), (4, 145), (5, 145), (6, 166), (7, 199), (8, 232), (9, 265), (10, 271), (11, 271), (12, 271), (13, 293), (14, 265), (15, 265), (16, 323), (17, 271), (18, 271), (19, 354), (20, 377), (21, 140), (22, 265), (23, 265), (24, 271), (25, 271)] 401), (120, zi (gIl 2) 1), (121, zi (gC (.int (-1000000000))) 2), (123, zb (c2 (fun x y => x < y)) 136), (126, zi (gIl 2) 1), (127, zi (gC (.int (1000000000))) 2), (129, zb (c2 (fun x y => y < x)) 136), (132, zi (gC (.int (1))) 1), (133, zj 137), (136, zi (gC (.int (0))) 1), (137, zretZ), (138, zi (gC (.int (1))) 1), (139, zretZ), (140, zi (gIl 2) 1), (141, zcS 1 15 1), (144, zretZ), (145, zi (gIl 2) 1), (146, zcS 1 15 1), (149, zb (c1 (fun x => x = 0)) 164), (152, zi (gAl 0) 1), (153, zi (gIl 3) 1), (154, zcV 2 16 1 1), (157, zb (c1 (fun x => x = 0)) 164), (160, zi (gC (.int (1))) 1), (161, zj 165), (164, zi (gC (.int (0))) 1), (165, zretZ), (166, zi (gAl 0) 1), (167, zi (gIl 2) 1), (168, zcV 2 16 1 1), (171, zb (c1 (fun x => x = 0)) 197), (174, zi (gAl 0) 1), (175, zi (gIl 3) 1), (176, zcV 2 16 1 1), (179, zb (c1 (fun x => x = 0)) 197), (182, zi (gIl 4) 2), (184, zb (c1 (fun x => x < 0)) 197), (187, zi (gIl 4) 2), (189, zi (gC (.int (4))) 1), (190, zb (c2 (fun x y => y < x)) 197), (193, zi (gC (.int (1))) 1), (194, zj 198), (197, zi (gC (.int (0))) 1), (198, zretZ), (199, zi (gAl 0) 1), (200, zi (gIl 2) 1), (201, zcV 2 16 1 1), (204, zb (c1 (fun x => x = 0)) 230), (207, zi (gAl 0) 1), (208, zi (gIl 3) 1), (209, zcV 2 16 1 1), (212, zb (c1 (fun x => x = 0)) 230), (215, zi (gIl 4) 2), (217, zb (c1 (fun x => x < 0)) 230), (220, zi (gIl 4) 2), (222, zi (gC (.int (2))) 1), (223, zb (c2 (fun x y => y < x)) 230), (226, zi (gC (.int (1))) 1), (227, zj 231), (230, zi (gC (.int (0))) 1), (231, zretZ), (232, zi (gAl 0) 1), (233, zi (gIl 2) 1), (234, zcV 2 16 1 1), (237, zb (c1 (fun x => x = 0)) 263), (240, zi (gAl 0) 1), (241, zi (gIl 3) 1), (242, zcV 2 16 1 1), (245, zb (c1 (fun x => x = 0)) 263), (248, zi (gIl 4) 2), (250, zb (c1 (fun x => x < 0)) 263), (253, zi (gIl 4) 2), (255, zi (gC (.int (1))) 1), (256, zb (c2 (fun x y => y < x)) 263), (259, zi (gC (.int (1))) 1), (260, zj 264), (263, zi (gC (.int (0))) 1), (264, zretZ), (265, zi (gAl 0) 1), (266, zi (gIl 2) 1), (267, zcV 2 16 1 1), (270, zretZ), (271, zi (gAl 0) 1), (272, zi (gIl 2) 1), (273, zcV 2 16 1 1), (276, zb (c1 (fun x => x = 0)) 291), (279, zi (gAl 0) 1), (280, zi (gIl 3) 1), (281, zcV 2 16 1 1), (284, zb (c1 (fun x => x = 0)) 291), (287, zi (gC (.int (1))) 1), (288, zj 292), (291, zi (gC (.int (0))) 1), (292, zretZ), (293, zi (gIl 2) 1), (294, zcS 1 15 1), (297, zb (c1 (fun x => x = 0)) 321), (300, zi (gAl 0) 1), (301, zi (gIl 3) 1), (302, zcV 2 16 1 1), (305, zb (c1 (fun x => x = 0)) 321), (308, zi (gAl 0) 1), (309, zi (gIl 4) 2), (311, zcV 2 16 1 1), (314, zb (c1 (fun x => x = 0)) 321), (317, zi (gC (.int (1))) 1), (318, zj 322), (321, zi (gC (.int (0))) 1), (322, zretZ), (323, zi (gAl 0) 1), (324, zi (gIl 2) 1), (325, zcV 2 16 1 1), (328, zb (c1 (fun x => x = 0)) 352), (331, zi (gAl 0) 1), (332, zi (gIl 3) 1), (333, zcV 2 16 1 1), (336, zb (c1 (fun x => x = 0)) 352), (339, zi (gAl 0) 1), (340, zi (gIl 4) 2), (342, zcV 2 17 1 1), (345, zb (c1 (fun x => x = 0)) 352), (348, zi (gC (.int (1))) 1), (349, zj 353), (352, zi (gC (.int (0))) 1), (353, zretZ), (354, zi (gAl 0) 1), (355, zi (gIl 2) 1), (356, zcV 2 16 1 1), (359, zb (c1 (fun x => x = 0)) 375), (362, zi (gIl 3) 1), (363, zi (gIl 4) 2), (365, zcS 2 18 2), (368, zb (c1 (fun x => x = 0)) 375), (371, zi (gC (.int (1))) 1), (372, zj 376), (375, zi (gC (.int (0))) 1), (376, zretZ), (377, zi (gAl 0) 1), (378, zi (gIl 2) 1), (379, zcV 2 16 1 1), (382, zb (c1 (fun x => x = 0)) 399), (385, zi (gAl 0) 1), (386, zi (gIl 3) 1), (387, zi (gIl 4) 2), (389, zcV 3 19 2 1), (392, zb (c1 (fun x => x = 0)) 399), (395, zi (gC (.int (1))) 1), (396, zj 400), (399, zi (gC (.int (0))) 1), (400, zretZ), (401, zi (gC (.int (0))) 1), (402, zretZ)]
set_option maxRecDepth 100000 in
theorem ok14 (l : Launch) (D : va_G) (dA : Nat → ClassId) (b0 : Nat) : ∀ q ∈ tb14 (ztys dA), zOK l D dA b0 14 q.1 q.2 := by
  refine zap (zi_mono _ _) (zi_ok (zg_iload_n (j := 1) (by decide +kernel) rfl)) ?_
  refine zap (zsw_mono _ _) (zsw_tab (off := 400) (lo := 0) (hi := 25) (offs := #[119, 137, 137, 139, 144, 144, 165, 198, 231, 264, 270, 270, 270, 292, 264, 264, 322, 270, 270, 353, 376, 139, 264, 264, 270, 270]) (len := 119) (by decide +kernel) (by decide +kernel) (by decide +kernel) (by decide +kernel)) ?_
  refine zap (zi_mono _ _) (zi_ok (zg_iload_n (j := 2) (by decide +kernel) rfl)) ?_
  refine zap (zi_mono _ _) (zi_ok (zg_ldc (index := 21) (by decide +kernel) (zin 216 (by decide +kernel) rfl))) ?_
  refine zap (zb_mono _ _) (zb_ok (zb_ilt (off := 13) (by decide +kernel) (by decide +kernel))) ?_
  refine zap (zi_mono _ _) (zi_ok (zg_iload_n (j := 2) (by decide +kernel) rfl)) ?_
  refine zap (zi_mono _ _) (zi_ok (zg_ldc (index := 22) (by decide +kernel) (zin 217 (by decide +kernel) rfl))) ?_
  refine zap (zb_mono _ _) (zb_ok (zb_igt (off := 7) (by decide +kernel) (by decide +kernel))) ?_
  refine zap (zi_mono _ _) (zi_ok (zg_iconst (n := 1) (by decide +kernel) (by decide +kernel))) ?_
  refine zap (zj_mono _) (zj_ok (off := 4) (by decide +kernel) (by decide +kernel)) ?_
  refine zap (zi_mono _ _) (zi_ok (zg_iconst (n := 0) (by decide +kernel) (by decide +kernel))) ?_
  refine zap (zretZ_mono) (zretZ_ok (by decide +kernel) rfl) ?_
  refine zap (zi_mono _ _) (zi_ok (zg_iconst (n := 1) (by decide +kernel) (by decide +kernel))) ?_
  refine zap (zretZ_mono) (zretZ_ok (by decide +kernel) rfl) ?_
  refine zap (zi_mono _ _) (zi_ok (zg_iload_n (j := 2) (by decide +kernel) rfl)) ?_
  refine zap (zcS_mono _ _ _) (zcSN_ok znst_st (μ' := 15) (na := 1) (index := 23) (host := "VectorLanguage") (by decide +kernel) (by decide +kernel) (zgI (zin 220 (by decide +kernel) rfl)) (List.mem_of_getElem? (i := 4) rfl) (zin 1 (by decide +kernel) rfl) (zin 219 (by decide +kernel) rfl) (by decide +kernel) (by decide +kernel)) ?_
  refine zap (zretZ_mono) (zretZ_ok (by decide +kernel) rfl) ?_
  refine zap (zi_mono _ _) (zi_ok (zg_iload_n (j := 2) (by decide +kernel) rfl)) ?_
  refine zap (zcS_mono _ _ _) (zcSN_ok znst_st (μ' := 15) (na := 1) (index := 23) (host := "VectorLanguage") (by decide +kernel) (by decide +kernel) (zgI (zin 220 (by decide +kernel) rfl)) (List.mem_of_getElem? (i := 4) rfl) (zin 1 (by decide +kernel) rfl) (zin 219 (by decide +kernel) rfl) (by decide +kernel) (by decide +kernel)) ?_
  refine zap (zb_mono _ _) (zb_ok (zb_eq (off := 15) (by decide +kernel) (by decide +kernel))) ?_
  refine zap (zi_mono _ _) (zi_ok (zg_aload_n (j := 0) (by decide +kernel) rfl)) ?_
  refine zap (zi_mono _ _) (zi_ok (zg_iload_n (j := 3) (by decide +kernel) rfl)) ?_
  refine zap (zcV_mono _ _ _ _) (zcV_ok znst_st (μ' := 16) (na := 1) (ci := 1) (index := 27) (q := (RC1, FC1, 2)) (by decide +kernel) (by decide +kernel) rfl (zgV (zin 221 (by decide +kernel) rfl) (zin 222 (by decide +kernel) rfl) (zin 223 (by decide +kernel) rfl) (zin 2 (by decide +kernel) rfl) (zin 224 (by decide +kernel) rfl)) (by decide +kernel) (by decide +kernel)) ?_
  refine zap (zb_mono _ _) (zb_ok (zb_eq (off := 7) (by decide +kernel) (by decide +kernel))) ?_
  refine zap (zi_mono _ _) (zi_ok (zg_iconst (n := 1) (by decide +kernel) (by decide +kernel))) ?_
  refine zap (zj_mono _) (zj_ok (off := 4) (by decide +kernel) (by decide +kernel)) ?_
  refine zap (zi_mono _ _) (zi_ok (zg_iconst (n := 0) (by decide +kernel) (by decide +kernel))) ?_
  refine zap (zretZ_mono) (zretZ_ok (by decide +kernel) rfl) ?_
  refine zap (zi_mono _ _) (zi_ok (zg_aload_n (j := 0) (by decide +kernel) rfl)) ?_
  refine zap (zi_mono _ _) (zi_ok (zg_iload_n (j := 2) (by decide +kernel) rfl)) ?_
  refine zap (zcV_mono _ _ _ _) (zcV_ok znst_st (μ' := 16) (na := 1) (ci := 1) (index := 27) (q := (RC1, FC1, 2)) (by decide +kernel) (by decide +kernel) rfl (zgV (zin 221 (by decide +kernel) rfl) (zin 222 (by decide +kernel) rfl) (zin 223 (by decide +kernel) rfl) (zin 2 (by decide +kernel) rfl) (zin 224 (by decide +kernel) rfl)) (by decide +kernel) (by decide +kernel)) ?_
  refine zap (zb_mono _ _) (zb_ok (zb_eq (off := 26) (by decide +kernel) (by decide +kernel))) ?_
  refine zap (zi_mono _ _) (zi_ok (zg_aload_n (j := 0) (by decide +kernel) rfl)) ?_
  refine zap (zi_mono _ _) (zi_ok (zg_iload_n (j := 3) (by decide +kernel) rfl)) ?_
  refine zap (zcV_mono _ _ _ _) (zcV_ok znst_st (μ' := 16) (na := 1) (ci := 1) (index := 27) (q := (RC1, FC1, 2)) (by decide +kernel) (by decide +kernel) rfl (zgV (zin 221 (by decide +kernel) rfl) (zin 222 (by decide +kernel) rfl) (zin 223 (by decide +kernel) rfl) (zin 2 (by decide +kernel) rfl) (zin 224 (by decide +kernel) rfl)) (by decide +kernel) (by decide +kernel)) ?_
  refine zap (zb_mono _ _) (zb_ok (zb_eq (off := 18) (by decide +kernel) (by decide +kernel))) ?_
  refine zap (zi_mono _ _) (zi_ok (zg_iload (by decide +kernel))) ?_
  refine zap (zb_mono _ _) (zb_ok (zb_lt (off := 13) (by decide +kernel) (by decide +kernel))) ?_
  refine zap (zi_mono _ _) (zi_ok (zg_iload (by decide +kernel))) ?_
  refine zap (zi_mono _ _) (zi_ok (zg_iconst (n := 4) (by decide +kernel) (by decide +kernel))) ?_
  refine zap (zb_mono _ _) (zb_ok (zb_igt (off := 7) (by decide +kernel) (by decide +kernel))) ?_
  refine zap (zi_mono _ _) (zi_ok (zg_iconst (n := 1) (by decide +kernel) (by decide +kernel))) ?_
  refine zap (zj_mono _) (zj_ok (off := 4) (by decide +kernel) (by decide +kernel)) ?_
  refine zap (zi_mono _ _) (zi_ok (zg_iconst (n := 0) (by decide +kernel) (by decide +kernel))) ?_
  refine zap (zretZ_mono) (zretZ_ok (by decide +kernel) rfl) ?_
  refine zap (zi_mono _ _) (zi_ok (zg_aload_n (j := 0) (by decide +kernel) rfl)) ?_
  refine zap (zi_mono _ _) (zi_ok (zg_iload_n (j := 2) (by decide +kernel) rfl)) ?_
  refine zap (zcV_mono _ _ _ _) (zcV_ok znst_st (μ' := 16) (na := 1) (ci := 1) (index := 27) (q := (RC1, FC1, 2)) (by decide +kernel) (by decide +kernel) rfl (zgV (zin 221 (by decide +kernel) rfl) (zin 222 (by decide +kernel) rfl) (zin 223 (by decide +kernel) rfl) (zin 2 (by decide +kernel) rfl) (zin 224 (by decide +kernel) rfl)) (by decide +kernel) (by decide +kernel)) ?_
  refine zap (zb_mono _ _) (zb_ok (zb_eq (off := 26) (by decide +kernel) (by decide +kernel))) ?_
  refine zap (zi_mono _ _) (zi_ok (zg_aload_n (j := 0) (by decide +kernel) rfl)) ?_
  refine zap (zi_mono _ _) (zi_ok (zg_iload_n (j := 3) (by decide +kernel) rfl)) ?_
  refine zap (zcV_mono _ _ _ _) (zcV_ok znst_st (μ' := 16) (na := 1) (ci := 1) (index := 27) (q := (RC1, FC1, 2)) (by decide +kernel) (by decide +kernel) rfl (zgV (zin 221 (by decide +kernel) rfl) (zin 222 (by decide +kernel) rfl) (zin 223 (by decide +kernel) rfl) (zin 2 (by decide +kernel) rfl) (zin 224 (by decide +kernel) rfl)) (by decide +kernel) (by decide +kernel)) ?_
  refine zap (zb_mono _ _) (zb_ok (zb_eq (off := 18) (by decide +kernel) (by decide +kernel))) ?_
  refine zap (zi_mono _ _) (zi_ok (zg_iload (by decide +kernel))) ?_
  refine zap (zb_mono _ _) (zb_ok (zb_lt (off := 13) (by decide +kernel) (by decide +kernel))) ?_
  refine zap (zi_mono _ _) (zi_ok (zg_iload (by decide +kernel))) ?_
  refine zap (zi_mono _ _) (zi_ok (zg_iconst (n := 2) (by decide +kernel) (by decide +kernel))) ?_
  refine zap (zb_mono _ _) (zb_ok (zb_igt (off := 7) (by decide +kernel) (by decide +kernel))) ?_
  refine zap (zi_mono _ _) (zi_ok (zg_iconst (n := 1) (by decide +kernel) (by decide +kernel))) ?_
  refine zap (zj_mono _) (zj_ok (off := 4) (by decide +kernel) (by decide +kernel)) ?_
  refine zap (zi_mono _ _) (zi_ok (zg_iconst (n := 0) (by decide +kernel) (by decide +kernel))) ?_
  refine zap (zretZ_mono) (zretZ_ok (by decide +kernel) rfl) ?_
  refine zap (zi_mono _ _) (zi_ok (zg_aload_n (j := 0) (by decide +kernel) rfl)) ?_
  refine zap (zi_mono _ _) (zi_ok (zg_iload_n (j := 2) (by decide +kernel) rfl)) ?_
  refine zap (zcV_mono _ _ _ _) (zcV_ok znst_st (μ' := 16) (na := 1) (ci := 1) (index := 27) (q := (RC1, FC1, 2)) (by decide +kernel) (by decide +kernel) rfl (zgV (zin 221 (by decide +kernel) rfl) (zin 222 (by decide +kernel) rfl) (zin 223 (by decide +kernel) rfl) (zin 2 (by decide +kernel) rfl) (zin 224 (by decide +kernel) rfl)) (by decide +kernel) (by decide +kernel)) ?_
  refine zap (zb_mono _ _) (zb_ok (zb_eq (off := 26) (by decide +kernel) (by decide +kernel))) ?_
  refine zap (zi_mono _ _) (zi_ok (zg_aload_n (j := 0) (by decide +kernel) rfl)) ?_
  refine zap (zi_mono _ _) (zi_ok (zg_iload_n (j := 3) (by decide +kernel) rfl)) ?_
  refine zap (zcV_mono _ _ _ _) (zcV_ok znst_st (μ' := 16) (na := 1) (ci := 1) (index := 27) (q := (RC1, FC1, 2)) (by decide +kernel) (by decide +kernel) rfl (zgV (zin 221 (by decide +kernel) rfl) (zin 222 (by decide +kernel) rfl) (zin 223 (by decide +kernel) rfl) (zin 2 (by decide +kernel) rfl) (zin 224 (by decide +kernel) rfl)) (by decide +kernel) (by decide +kernel)) ?_
  refine zap (zb_mono _ _) (zb_ok (zb_eq (off := 18) (by decide +kernel) (by decide +kernel))) ?_
  refine zap (zi_mono _ _) (zi_ok (zg_iload (by decide +kernel))) ?_
  refine zap (zb_mono _ _) (zb_ok (zb_lt (off := 13) (by decide +kernel) (by decide +kernel))) ?_
  refine zap (zi_mono _ _) (zi_ok (zg_iload (by decide +kernel))) ?_
  refine zap (zi_mono _ _) (zi_ok (zg_iconst (n := 1) (by decide +kernel) (by decide +kernel))) ?_
  refine zap (zb_mono _ _) (zb_ok (zb_igt (off := 7) (by decide +kernel) (by decide +kernel))) ?_
  refine zap (zi_mono _ _) (zi_ok (zg_iconst (n := 1) (by decide +kernel) (by decide +kernel))) ?_
  refine zap (zj_mono _) (zj_ok (off := 4) (by decide +kernel) (by decide +kernel)) ?_
  refine zap (zi_mono _ _) (zi_ok (zg_iconst (n := 0) (by decide +kernel) (by decide +kernel))) ?_
  refine zap (zretZ_mono) (zretZ_ok (by decide +kernel) rfl) ?_
  refine zap (zi_mono _ _) (zi_ok (zg_aload_n (j := 0) (by decide +kernel) rfl)) ?_
  refine zap (zi_mono _ _) (zi_ok (zg_iload_n (j := 2) (by decide +kernel) rfl)) ?_
  refine zap (zcV_mono _ _ _ _) (zcV_ok znst_st (μ' := 16) (na := 1) (ci := 1) (index := 27) (q := (RC1, FC1, 2)) (by decide +kernel) (by decide +kernel) rfl (zgV (zin 221 (by decide +kernel) rfl) (zin 222 (by decide +kernel) rfl) (zin 223 (by decide +kernel) rfl) (zin 2 (by decide +kernel) rfl) (zin 224 (by decide +kernel) rfl)) (by decide +kernel) (by decide +kernel)) ?_
  refine zap (zretZ_mono) (zretZ_ok (by decide +kernel) rfl) ?_
  refine zap (zi_mono _ _) (zi_ok (zg_aload_n (j := 0) (by decide +kernel) rfl)) ?_
  refine zap (zi_mono _ _) (zi_ok (zg_iload_n (j := 2) (by decide +kernel) rfl)) ?_
  refine zap (zcV_mono _ _ _ _) (zcV_ok znst_st (μ' := 16) (na := 1) (ci := 1) (index := 27) (q := (RC1, FC1, 2)) (by decide +kernel) (by decide +kernel) rfl (zgV (zin 221 (by decide +kernel) rfl) (zin 222 (by decide +kernel) rfl) (zin 223 (by decide +kernel) rfl) (zin 2 (by decide +kernel) rfl) (zin 224 (by decide +kernel) rfl)) (by decide +kernel) (by decide +kernel)) ?_
  refine zap (zb_mono _ _) (zb_ok (zb_eq (off := 15) (by decide +kernel) (by decide +kernel))) ?_
  refine zap (zi_mono _ _) (zi_ok (zg_aload_n (j := 0) (by decide +kernel) rfl)) ?_
  refine zap (zi_mono _ _) (zi_ok (zg_iload_n (j := 3) (by decide +kernel) rfl)) ?_
  refine zap (zcV_mono _ _ _ _) (zcV_ok znst_st (μ' := 16) (na := 1) (ci := 1) (index := 27) (q := (RC1, FC1, 2)) (by decide +kernel) (by decide +kernel) rfl (zgV (zin 221 (by decide +kernel) rfl) (zin 222 (by decide +kernel) rfl) (zin 223 (by decide +kernel) rfl) (zin 2 (by decide +kernel) rfl) (zin 224 (by decide +kernel) rfl)) (by decide +kernel) (by decide +kernel)) ?_
  refine zap (zb_mono _ _) (zb_ok (zb_eq (off := 7) (by decide +kernel) (by decide +kernel))) ?_
  refine zap (zi_mono _ _) (zi_ok (zg_iconst (n := 1) (by decide +kernel) (by decide +kernel))) ?_
  refine zap (zj_mono _) (zj_ok (off := 4) (by decide +kernel) (by decide +kernel)) ?_
  refine zap (zi_mono _ _) (zi_ok (zg_iconst (n := 0) (by decide +kernel) (by decide +kernel))) ?_
  refine zap (zretZ_mono) (zretZ_ok (by decide +kernel) rfl) ?_
  refine zap (zi_mono _ _) (zi_ok (zg_iload_n (j := 2) (by decide +kernel) rfl)) ?_
  refine zap (zcS_mono _ _ _) (zcSN_ok znst_st (μ' := 15) (na := 1) (index := 23) (host := "VectorLanguage") (by decide +kernel) (by decide +kernel) (zgI (zin 220 (by decide +kernel) rfl)) (List.mem_of_getElem? (i := 4) rfl) (zin 1 (by decide +kernel) rfl) (zin 219 (by decide +kernel) rfl) (by decide +kernel) (by decide +kernel)) ?_
  refine zap (zb_mono _ _) (zb_ok (zb_eq (off := 24) (by decide +kernel) (by decide +kernel))) ?_
  refine zap (zi_mono _ _) (zi_ok (zg_aload_n (j := 0) (by decide +kernel) rfl)) ?_
  refine zap (zi_mono _ _) (zi_ok (zg_iload_n (j := 3) (by decide +kernel) rfl)) ?_
  refine zap (zcV_mono _ _ _ _) (zcV_ok znst_st (μ' := 16) (na := 1) (ci := 1) (index := 27) (q := (RC1, FC1, 2)) (by decide +kernel) (by decide +kernel) rfl (zgV (zin 221 (by decide +kernel) rfl) (zin 222 (by decide +kernel) rfl) (zin 223 (by decide +kernel) rfl) (zin 2 (by decide +kernel) rfl) (zin 224 (by decide +kernel) rfl)) (by decide +kernel) (by decide +kernel)) ?_
  refine zap (zb_mono _ _) (zb_ok (zb_eq (off := 16) (by decide +kernel) (by decide +kernel))) ?_
  refine zap (zi_mono _ _) (zi_ok (zg_aload_n (j := 0) (by decide +kernel) rfl)) ?_
  refine zap (zi_mono _ _) (zi_ok (zg_iload (by decide +kernel))) ?_
  refine zap (zcV_mono _ _ _ _) (zcV_ok znst_st (μ' := 16) (na := 1) (ci := 1) (index := 27) (q := (RC1, FC1, 2)) (by decide +kernel) (by decide +kernel) rfl (zgV (zin 221 (by decide +kernel) rfl) (zin 222 (by decide +kernel) rfl) (zin 223 (by decide +kernel) rfl) (zin 2 (by decide +kernel) rfl) (zin 224 (by decide +kernel) rfl)) (by decide +kernel) (by decide +kernel)) ?_
  refine zap (zb_mono _ _) (zb_ok (zb_eq (off := 7) (by decide +kernel) (by decide +kernel))) ?_
  refine zap (zi_mono _ _) (zi_ok (zg_iconst (n := 1) (by decide +kernel) (by decide +kernel))) ?_
  refine zap (zj_mono _) (zj_ok (off := 4) (by decide +kernel) (by decide +kernel)) ?_
  refine zap (zi_mono _ _) (zi_ok (zg_iconst (n := 0) (by decide +kernel) (by decide +kernel))) ?_
  refine zap (zretZ_mono) (zretZ_ok (by decide +kernel) rfl) ?_
  refine zap (zi_mono _ _) (zi_ok (zg_aload_n (j := 0) (by decide +kernel) rfl)) ?_
  refine zap (zi_mono _ _) (zi_ok (zg_iload_n (j := 2) (by decide +kernel) rfl)) ?_
  refine zap (zcV_mono _ _ _ _) (zcV_ok znst_st (μ' := 16) (na := 1) (ci := 1) (index := 27) (q := (RC1, FC1, 2)) (by decide +kernel) (by decide +kernel) rfl (zgV (zin 221 (by decide +kernel) rfl) (zin 222 (by decide +kernel) rfl) (zin 223 (by decide +kernel) rfl) (zin 2 (by decide +kernel) rfl) (zin 224 (by decide +kernel) rfl)) (by decide +kernel) (by decide +kernel)) ?_
  refine zap (zb_mono _ _) (zb_ok (zb_eq (off := 24) (by decide +kernel) (by decide +kernel))) ?_
  refine zap (zi_mono _ _) (zi_ok (zg_aload_n (j := 0) (by decide +kernel) rfl)) ?_
  refine zap (zi_mono _ _) (zi_ok (zg_iload_n (j := 3) (by decide +kernel) rfl)) ?_
  refine zap (zcV_mono _ _ _ _) (zcV_ok znst_st (μ' := 16) (na := 1) (ci := 1) (index := 27) (q := (RC1, FC1, 2)) (by decide +kernel) (by decide +kernel) rfl (zgV (zin 221 (by decide +kernel) rfl) (zin 222 (by decide +kernel) rfl) (zin 223 (by decide +kernel) rfl) (zin 2 (by decide +kernel) rfl) (zin 224 (by decide +kernel) rfl)) (by decide +kernel) (by decide +kernel)) ?_
  refine zap (zb_mono _ _) (zb_ok (zb_eq (off := 16) (by decide +kernel) (by decide +kernel))) ?_
  refine zap (zi_mono _ _) (zi_ok (zg_aload_n (j := 0) (by decide +kernel) rfl)) ?_
  refine zap (zi_mono _ _) (zi_ok (zg_iload (by decide +kernel))) ?_
  refine zap (zcV_mono _ _ _ _) (zcV_ok znst_st (μ' := 17) (na := 1) (ci := 1) (index := 30) (q := (RC1, FC1, 2)) (by decide +kernel) (by decide +kernel) rfl (zgV (zin 225 (by decide +kernel) rfl) (zin 227 (by decide +kernel) rfl) (zsel 0 (by decide +kernel) rfl) (zin 2 (by decide +kernel) rfl) (zin 228 (by decide +kernel) rfl)) (by decide +kernel) (by decide +kernel)) ?_
  refine zap (zb_mono _ _) (zb_ok (zb_eq (off := 7) (by decide +kernel) (by decide +kernel))) ?_
  refine zap (zi_mono _ _) (zi_ok (zg_iconst (n := 1) (by decide +kernel) (by decide +kernel))) ?_
  refine zap (zj_mono _) (zj_ok (off := 4) (by decide +kernel) (by decide +kernel)) ?_
  refine zap (zi_mono _ _) (zi_ok (zg_iconst (n := 0) (by decide +kernel) (by decide +kernel))) ?_
  refine zap (zretZ_mono) (zretZ_ok (by decide +kernel) rfl) ?_
  refine zap (zi_mono _ _) (zi_ok (zg_aload_n (j := 0) (by decide +kernel) rfl)) ?_
  refine zap (zi_mono _ _) (zi_ok (zg_iload_n (j := 2) (by decide +kernel) rfl)) ?_
  refine zap (zcV_mono _ _ _ _) (zcV_ok znst_st (μ' := 16) (na := 1) (ci := 1) (index := 27) (q := (RC1, FC1, 2)) (by decide +kernel) (by decide +kernel) rfl (zgV (zin 221 (by decide +kernel) rfl) (zin 222 (by decide +kernel) rfl) (zin 223 (by decide +kernel) rfl) (zin 2 (by decide +kernel) rfl) (zin 224 (by decide +kernel) rfl)) (by decide +kernel) (by decide +kernel)) ?_
  refine zap (zb_mono _ _) (zb_ok (zb_eq (off := 16) (by decide +kernel) (by decide +kernel))) ?_
  refine zap (zi_mono _ _) (zi_ok (zg_iload_n (j := 3) (by decide +kernel) rfl)) ?_
  refine zap (zi_mono _ _) (zi_ok (zg_iload (by decide +kernel))) ?_
  refine zap (zcS_mono _ _ _) (zcS_ok znst_st (μ' := 18) (na := 2) (index := 33) (by decide +kernel) (by decide +kernel) (zgS (zin 229 (by decide +kernel) rfl) (zin 230 (by decide +kernel) rfl) (zin 2 (by decide +kernel) rfl) (zin 231 (by decide +kernel) rfl)) (by decide +kernel) (by decide +kernel)) ?_
  refine zap (zb_mono _ _) (zb_ok (zb_eq (off := 7) (by decide +kernel) (by decide +kernel))) ?_
  refine zap (zi_mono _ _) (zi_ok (zg_iconst (n := 1) (by decide +kernel) (by decide +kernel))) ?_
  refine zap (zj_mono _) (zj_ok (off := 4) (by decide +kernel) (by decide +kernel)) ?_
  refine zap (zi_mono _ _) (zi_ok (zg_iconst (n := 0) (by decide +kernel) (by decide +kernel))) ?_
  refine zap (zretZ_mono) (zretZ_ok (by decide +kernel) rfl) ?_
  refine zap (zi_mono _ _) (zi_ok (zg_aload_n (j := 0) (by decide +kernel) rfl)) ?_
  refine zap (zi_mono _ _) (zi_ok (zg_iload_n (j := 2) (by decide +kernel) rfl)) ?_
  refine zap (zcV_mono _ _ _ _) (zcV_ok znst_st (μ' := 16) (na := 1) (ci := 1) (index := 27) (q := (RC1, FC1, 2)) (by decide +kernel) (by decide +kernel) rfl (zgV (zin 221 (by decide +kernel) rfl) (zin 222 (by decide +kernel) rfl) (zin 223 (by decide +kernel) rfl) (zin 2 (by decide +kernel) rfl) (zin 224 (by decide +kernel) rfl)) (by decide +kernel) (by decide +kernel)) ?_
  refine zap (zb_mono _ _) (zb_ok (zb_eq (off := 17) (by decide +kernel) (by decide +kernel))) ?_
  refine zap (zi_mono _ _) (zi_ok (zg_aload_n (j := 0) (by decide +kernel) rfl)) ?_
  refine zap (zi_mono _ _) (zi_ok (zg_iload_n (j := 3) (by decide +kernel) rfl)) ?_
  refine zap (zi_mono _ _) (zi_ok (zg_iload (by decide +kernel))) ?_
  refine zap (zcV_mono _ _ _ _) (zcV_ok znst_st (μ' := 19) (na := 2) (ci := 1) (index := 37) (q := (RC1, FC1, 2)) (by decide +kernel) (by decide +kernel) rfl (zgV (zin 232 (by decide +kernel) rfl) (zin 234 (by decide +kernel) rfl) (zsel 1 (by decide +kernel) rfl) (zin 2 (by decide +kernel) rfl) (zin 235 (by decide +kernel) rfl)) (by decide +kernel) (by decide +kernel)) ?_
  refine zap (zb_mono _ _) (zb_ok (zb_eq (off := 7) (by decide +kernel) (by decide +kernel))) ?_
  refine zap (zi_mono _ _) (zi_ok (zg_iconst (n := 1) (by decide +kernel) (by decide +kernel))) ?_
  refine zap (zj_mono _) (zj_ok (off := 4) (by decide +kernel) (by decide +kernel)) ?_
  refine zap (zi_mono _ _) (zi_ok (zg_iconst (n := 0) (by decide +kernel) (by decide +kernel))) ?_
  refine zap (zretZ_mono) (zretZ_ok (by decide +kernel) rfl) ?_
  refine zap (zi_mono _ _) (zi_ok (zg_iconst (n := 0) (by decide +kernel) (by decide +kernel))) ?_
  refine zap (zretZ_mono) (zretZ_ok (by decide +kernel) rfl) ?_
  exact zn
/-- VectorLanguage.isVariable(I)Z -/
def tb15 (_ : List (ClassId × FieldType)) : List (Nat × (zP → zP)) := [(0, zi (gIl 0) 1), (1, zb (c1 (fun x => x < 0)) 14), (4, zi (gIl 0) 1), (5, zi (gC (.int (10))) 2), (7, zb (c2 (fun x y => y ≤ x)) 14), (10, zi (gC (.int (1))) 1), (11, zj 15), (14, zi (gC (.int (0))) 1), (15, zretZ)]
set_option maxRecDepth 100000 in
theorem ok15 (l : Launch) (D : va_G) (dA : Nat → ClassId) (b0 : Nat) : ∀ q ∈ tb15 (ztys dA), zOK l D dA b0 15 q.1 q.2 := by
  refine zap (zi_mono _ _) (zi_ok (zg_iload_n (j := 0) (by decide +kernel) rfl)) ?_
  refine zap (zb_mono _ _) (zb_ok (zb_lt (off := 13) (by decide +kernel) (by decide +kernel))) ?_
  refine zap (zi_mono _ _) (zi_ok (zg_iload_n (j := 0) (by decide +kernel) rfl)) ?_
  refine zap (zi_mono _ _) (zi_ok (zg_bipush (n := 10) (by decide +kernel) (by decide +kernel))) ?_
  refine zap (zb_mono _ _) (zb_ok (zb_ige (off := 7) (by decide +kernel) (by decide +kernel))) ?_
  refine zap (zi_mono _ _) (zi_ok (zg_iconst (n := 1) (by decide +kernel) (by decide +kernel))) ?_
  refine zap (zj_mono _) (zj_ok (off := 4) (by decide +kernel) (by decide +kernel)) ?_
  refine zap (zi_mono _ _) (zi_ok (zg_iconst (n := 0) (by decide +kernel) (by decide +kernel))) ?_
  refine zap (zretZ_mono) (zretZ_ok (by decide +kernel) rfl) ?_
  exact zn
/-- VectorLanguage$Program.has(I)Z -/
def tb16 (_ : List (ClassId × FieldType)) : List (Nat × (zP → zP)) := [(0, zi (gIl 1) 1), (1, zb (c1 (fun x => x < 0)) 16), (4, zi (gIl 1) 1), (5, zi (gAl 0) 1), (6, zget 1 1), (9, zb (c2 (fun x y => y ≤ x)) 16), (12, zi (gC (.int (1))) 1), (13, zj 17), (16, zi (gC (.int (0))) 1), (17, zretZ)]
set_option maxRecDepth 100000 in
theorem ok16 (l : Launch) (D : va_G) (dA : Nat → ClassId) (b0 : Nat) : ∀ q ∈ tb16 (ztys dA), zOK l D dA b0 16 q.1 q.2 := by
  refine zap (zi_mono _ _) (zi_ok (zg_iload_n (j := 1) (by decide +kernel) rfl)) ?_
  refine zap (zb_mono _ _) (zb_ok (zb_lt (off := 15) (by decide +kernel) (by decide +kernel))) ?_
  refine zap (zi_mono _ _) (zi_ok (zg_iload_n (j := 1) (by decide +kernel) rfl)) ?_
  refine zap (zi_mono _ _) (zi_ok (zg_aload_n (j := 0) (by decide +kernel) rfl)) ?_
  refine zap (zget_mono _ _) (zget_ok (index := 17) (C := RC1) (ref := "VectorLanguage$Program") (T := FC1) (NN := 2) (by decide +kernel) rfl iC1 (by decide +kernel) (zin 44 (by decide +kernel) rfl) rfl) ?_
  refine zap (zb_mono _ _) (zb_ok (zb_ige (off := 7) (by decide +kernel) (by decide +kernel))) ?_
  refine zap (zi_mono _ _) (zi_ok (zg_iconst (n := 1) (by decide +kernel) (by decide +kernel))) ?_
  refine zap (zj_mono _) (zj_ok (off := 4) (by decide +kernel) (by decide +kernel)) ?_
  refine zap (zi_mono _ _) (zi_ok (zg_iconst (n := 0) (by decide +kernel) (by decide +kernel))) ?_
  refine zap (zretZ_mono) (zretZ_ok (by decide +kernel) rfl) ?_
  exact zn
/-- VectorLanguage$Program.hasOrNone(I)Z -/
def tb17 (_ : List (ClassId × FieldType)) : List (Nat × (zP → zP)) := [(0, zi (gIl 1) 1), (1, zi (gC (.int (-1))) 1), (2, zb (c2 (fun x y => x = y)) 13), (5, zi (gAl 0) 1), (6, zi (gIl 1) 1), (7, zcV 2 16 1 1), (10, zb (c1 (fun x => x = 0)) 17), (13, zi (gC (.int (1))) 1), (14, zj 18), (17, zi (gC (.int (0))) 1), (18, zretZ)]
set_option maxRecDepth 100000 in
theorem ok17 (l : Launch) (D : va_G) (dA : Nat → ClassId) (b0 : Nat) : ∀ q ∈ tb17 (ztys dA), zOK l D dA b0 17 q.1 q.2 := by
  refine zap (zi_mono _ _) (zi_ok (zg_iload_n (j := 1) (by decide +kernel) rfl)) ?_
  refine zap (zi_mono _ _) (zi_ok (zg_iconst (n := -1) (by decide +kernel) (by decide +kernel))) ?_
  refine zap (zb_mono _ _) (zb_ok (zb_ieq (off := 11) (by decide +kernel) (by decide +kernel))) ?_
  refine zap (zi_mono _ _) (zi_ok (zg_aload_n (j := 0) (by decide +kernel) rfl)) ?_
  refine zap (zi_mono _ _) (zi_ok (zg_iload_n (j := 1) (by decide +kernel) rfl)) ?_
  refine zap (zcV_mono _ _ _ _) (zcV_ok znst_st (μ' := 16) (na := 1) (ci := 1) (index := 27) (q := (RC1, FC1, 2)) (by decide +kernel) (by decide +kernel) rfl (zgV (zin 221 (by decide +kernel) rfl) (zin 222 (by decide +kernel) rfl) (zin 223 (by decide +kernel) rfl) (zin 2 (by decide +kernel) rfl) (zin 224 (by decide +kernel) rfl)) (by decide +kernel) (by decide +kernel)) ?_
  refine zap (zb_mono _ _) (zb_ok (zb_eq (off := 7) (by decide +kernel) (by decide +kernel))) ?_
  refine zap (zi_mono _ _) (zi_ok (zg_iconst (n := 1) (by decide +kernel) (by decide +kernel))) ?_
  refine zap (zj_mono _) (zj_ok (off := 4) (by decide +kernel) (by decide +kernel)) ?_
  refine zap (zi_mono _ _) (zi_ok (zg_iconst (n := 0) (by decide +kernel) (by decide +kernel))) ?_
  refine zap (zretZ_mono) (zretZ_ok (by decide +kernel) rfl) ?_
  exact zn
/-- VectorLanguage$Program.acceptsParameters(II)Z -/
def tb18 (_ : List (ClassId × FieldType)) : List (Nat × (zP → zP)) := [(0, zi (gIl 0) 1), (1, zb (c1 (fun x => x < 0)) 9), (4, zi (gIl 0) 1), (5, zi (gC (.int (2))) 1), (6, zb (c2 (fun x y => x ≤ y)) 11), (9, zi (gC (.int (0))) 1), (10, zretZ), (11, zi (gIl 0) 1), (12, zb (c1 (fun x => x = 0)) 27), (15, zi (gIl 1) 1), (16, zb (c1 (fun x => x < 0)) 31), (19, zi (gIl 1) 1), (20, zi (gC (.int (10))) 2), (22, zi (gIl 0) 1), (23, zi (gII (fun x y => x - y)) 1), (24, zb (c2 (fun x y => y < x)) 31), (27, zi (gC (.int (1))) 1), (28, zj 32), (31, zi (gC (.int (0))) 1), (32, zretZ)]
set_option maxRecDepth 100000 in
theorem ok18 (l : Launch) (D : va_G) (dA : Nat → ClassId) (b0 : Nat) : ∀ q ∈ tb18 (ztys dA), zOK l D dA b0 18 q.1 q.2 := by
  refine zap (zi_mono _ _) (zi_ok (zg_iload_n (j := 0) (by decide +kernel) rfl)) ?_
  refine zap (zb_mono _ _) (zb_ok (zb_lt (off := 8) (by decide +kernel) (by decide +kernel))) ?_
  refine zap (zi_mono _ _) (zi_ok (zg_iload_n (j := 0) (by decide +kernel) rfl)) ?_
  refine zap (zi_mono _ _) (zi_ok (zg_iconst (n := 2) (by decide +kernel) (by decide +kernel))) ?_
  refine zap (zb_mono _ _) (zb_ok (zb_ile (off := 5) (by decide +kernel) (by decide +kernel))) ?_
  refine zap (zi_mono _ _) (zi_ok (zg_iconst (n := 0) (by decide +kernel) (by decide +kernel))) ?_
  refine zap (zretZ_mono) (zretZ_ok (by decide +kernel) rfl) ?_
  refine zap (zi_mono _ _) (zi_ok (zg_iload_n (j := 0) (by decide +kernel) rfl)) ?_
  refine zap (zb_mono _ _) (zb_ok (zb_eq (off := 15) (by decide +kernel) (by decide +kernel))) ?_
  refine zap (zi_mono _ _) (zi_ok (zg_iload_n (j := 1) (by decide +kernel) rfl)) ?_
  refine zap (zb_mono _ _) (zb_ok (zb_lt (off := 15) (by decide +kernel) (by decide +kernel))) ?_
  refine zap (zi_mono _ _) (zi_ok (zg_iload_n (j := 1) (by decide +kernel) rfl)) ?_
  refine zap (zi_mono _ _) (zi_ok (zg_bipush (n := 10) (by decide +kernel) (by decide +kernel))) ?_
  refine zap (zi_mono _ _) (zi_ok (zg_iload_n (j := 0) (by decide +kernel) rfl)) ?_
  refine zap (zi_mono _ _) (zi_ok (zg_isub (by decide +kernel))) ?_
  refine zap (zb_mono _ _) (zb_ok (zb_igt (off := 7) (by decide +kernel) (by decide +kernel))) ?_
  refine zap (zi_mono _ _) (zi_ok (zg_iconst (n := 1) (by decide +kernel) (by decide +kernel))) ?_
  refine zap (zj_mono _) (zj_ok (off := 4) (by decide +kernel) (by decide +kernel)) ?_
  refine zap (zi_mono _ _) (zi_ok (zg_iconst (n := 0) (by decide +kernel) (by decide +kernel))) ?_
  refine zap (zretZ_mono) (zretZ_ok (by decide +kernel) rfl) ?_
  exact zn
/-- VectorLanguage$Program.acceptsArguments(II)Z -/
def tb19 (_ : List (ClassId × FieldType)) : List (Nat × (zP → zP)) := [(0, zi (gIl 1) 1), (1, zi (gC (.int (-1))) 1), (2, zb (c2 (fun x y => ¬ x = y)) 18), (5, zi (gIl 2) 1), (6, zi (gC (.int (-1))) 1), (7, zb (c2 (fun x y => ¬ x = y)) 14), (10, zi (gC (.int (1))) 1), (11, zj 39), (14, zi (gC (.int (0))) 1), (15, zj 39), (18, zi (gAl 0) 1), (19, zi (gIl 1) 1), (20, zcV 2 16 1 1), (23, zb (c1 (fun x => x = 0)) 38), (26, zi (gAl 0) 1), (27, zi (gIl 2) 1), (28, zcV 2 17 1 1), (31, zb (c1 (fun x => x = 0)) 38), (34, zi (gC (.int (1))) 1), (35, zj 39), (38, zi (gC (.int (0))) 1), (39, zretZ)]
set_option maxRecDepth 100000 in
theorem ok19 (l : Launch) (D : va_G) (dA : Nat → ClassId) (b0 : Nat) : ∀ q ∈ tb19 (ztys dA), zOK l D dA b0 19 q.1 q.2 := by
  refine zap (zi_mono _ _) (zi_ok (zg_iload_n (j := 1) (by decide +kernel) rfl)) ?_
  refine zap (zi_mono _ _) (zi_ok (zg_iconst (n := -1) (by decide +kernel) (by decide +kernel))) ?_
  refine zap (zb_mono _ _) (zb_ok (zb_ine (off := 16) (by decide +kernel) (by decide +kernel))) ?_
  refine zap (zi_mono _ _) (zi_ok (zg_iload_n (j := 2) (by decide +kernel) rfl)) ?_
  refine zap (zi_mono _ _) (zi_ok (zg_iconst (n := -1) (by decide +kernel) (by decide +kernel))) ?_
  refine zap (zb_mono _ _) (zb_ok (zb_ine (off := 7) (by decide +kernel) (by decide +kernel))) ?_
  refine zap (zi_mono _ _) (zi_ok (zg_iconst (n := 1) (by decide +kernel) (by decide +kernel))) ?_
  refine zap (zj_mono _) (zj_ok (off := 28) (by decide +kernel) (by decide +kernel)) ?_
  refine zap (zi_mono _ _) (zi_ok (zg_iconst (n := 0) (by decide +kernel) (by decide +kernel))) ?_
  refine zap (zj_mono _) (zj_ok (off := 24) (by decide +kernel) (by decide +kernel)) ?_
  refine zap (zi_mono _ _) (zi_ok (zg_aload_n (j := 0) (by decide +kernel) rfl)) ?_
  refine zap (zi_mono _ _) (zi_ok (zg_iload_n (j := 1) (by decide +kernel) rfl)) ?_
  refine zap (zcV_mono _ _ _ _) (zcV_ok znst_st (μ' := 16) (na := 1) (ci := 1) (index := 27) (q := (RC1, FC1, 2)) (by decide +kernel) (by decide +kernel) rfl (zgV (zin 221 (by decide +kernel) rfl) (zin 222 (by decide +kernel) rfl) (zin 223 (by decide +kernel) rfl) (zin 2 (by decide +kernel) rfl) (zin 224 (by decide +kernel) rfl)) (by decide +kernel) (by decide +kernel)) ?_
  refine zap (zb_mono _ _) (zb_ok (zb_eq (off := 15) (by decide +kernel) (by decide +kernel))) ?_
  refine zap (zi_mono _ _) (zi_ok (zg_aload_n (j := 0) (by decide +kernel) rfl)) ?_
  refine zap (zi_mono _ _) (zi_ok (zg_iload_n (j := 2) (by decide +kernel) rfl)) ?_
  refine zap (zcV_mono _ _ _ _) (zcV_ok znst_st (μ' := 17) (na := 1) (ci := 1) (index := 30) (q := (RC1, FC1, 2)) (by decide +kernel) (by decide +kernel) rfl (zgV (zin 225 (by decide +kernel) rfl) (zin 227 (by decide +kernel) rfl) (zsel 0 (by decide +kernel) rfl) (zin 2 (by decide +kernel) rfl) (zin 228 (by decide +kernel) rfl)) (by decide +kernel) (by decide +kernel)) ?_
  refine zap (zb_mono _ _) (zb_ok (zb_eq (off := 7) (by decide +kernel) (by decide +kernel))) ?_
  refine zap (zi_mono _ _) (zi_ok (zg_iconst (n := 1) (by decide +kernel) (by decide +kernel))) ?_
  refine zap (zj_mono _) (zj_ok (off := 4) (by decide +kernel) (by decide +kernel)) ?_
  refine zap (zi_mono _ _) (zi_ok (zg_iconst (n := 0) (by decide +kernel) (by decide +kernel))) ?_
  refine zap (zretZ_mono) (zretZ_ok (by decide +kernel) rfl) ?_
  exact zn
