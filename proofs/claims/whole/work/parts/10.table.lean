/-! the table of all methods: its steps are monotone and sound -/
abbrev M_VectorLanguage_init : Nat := 0
abbrev M_Program_init : Nat := 1
abbrev M_Evaluator_init : Nat := 2
abbrev M_Environment_init : Nat := 3
abbrev M_Places_init : Nat := 4
abbrev M_Vector_init_a : Nat := 5
abbrev M_Value_init : Nat := 6
abbrev M_Held_init : Nat := 7
abbrev M_Vector_init_I : Nat := 8
abbrev M_VectorLanguage_failure : Nat := 9
abbrev M_VectorLanguage_reset : Nat := 10
abbrev M_Evaluator_forget : Nat := 11
abbrev M_Environment_clear : Nat := 12
abbrev M_VectorLanguage_expression : Nat := 13
abbrev M_Program_accepts : Nat := 14
abbrev M_VectorLanguage_isVariable : Nat := 15
abbrev M_Program_has : Nat := 16
abbrev M_Program_hasOrNone : Nat := 17
abbrev M_Program_acceptsParameters : Nat := 18
abbrev M_Program_acceptsArguments : Nat := 19
abbrev M_Expression_init : Nat := 20
abbrev M_Program_add : Nat := 21
abbrev M_VectorLanguage_run : Nat := 22
abbrev M_Evaluator_perform : Nat := 23
abbrev M_Evaluator_evaluate : Nat := 24
abbrev M_Evaluator_fail : Nat := 25
abbrev M_Evaluator_read : Nat := 26
abbrev M_Environment_lookUp : Nat := 27
abbrev M_Evaluator_valueOf : Nat := 28
abbrev M_Evaluator_evaluateArgument : Nat := 29
abbrev M_Evaluator_assign : Nat := 30
abbrev M_Environment_nearestAround : Nat := 31
abbrev M_Evaluator_evaluateOfOne : Nat := 32
abbrev M_Evaluator_elementsOf : Nat := 33
abbrev M_Evaluator_negate : Nat := 34
abbrev M_Elements_not : Nat := 35
abbrev M_Elements_sum : Nat := 36
abbrev M_Elements_inRange : Nat := 37
abbrev M_Elements_first : Nat := 38
abbrev M_Evaluator_raise : Nat := 39
abbrev M_Evaluator_replace : Nat := 40
abbrev M_Evaluator_store : Nat := 41
abbrev M_Places_find : Nat := 42
abbrev M_Places_survey : Nat := 43
abbrev M_Places_addThose : Nat := 44
abbrev M_Places_addOthers : Nat := 45
abbrev M_Places_reach : Nat := 46
abbrev M_Math_max : Nat := 47
abbrev M_Evaluator_replaced : Nat := 48
abbrev M_Arrays_copyOf : Nat := 49
abbrev M_Math_min : Nat := 50
abbrev M_Evaluator_choose : Nat := 51
abbrev M_Evaluator_condition : Nat := 52
abbrev M_Evaluator_repeat : Nat := 53
abbrev M_Function_init : Nat := 54
abbrev M_Evaluator_call : Nat := 55
abbrev M_Evaluator_enter : Nat := 56
abbrev M_Argument_init : Nat := 57
abbrev M_Evaluator_takeEndValue : Nat := 58
abbrev M_Evaluator_absent : Nat := 59
abbrev M_Function_hasParameter : Nat := 60
abbrev M_Evaluator_truth : Nat := 61
abbrev M_Evaluator_endCall : Nat := 62
abbrev M_Evaluator_attempt : Nat := 63
abbrev M_Evaluator_evaluateOfTwo : Nat := 64
abbrev M_Evaluator_combine : Nat := 65
abbrev M_Evaluator_join : Nat := 66
abbrev M_Evaluator_range : Nat := 67
abbrev M_Math_abs : Nat := 68
abbrev M_Evaluator_pick : Nat := 69
abbrev M_Elements_same : Nat := 70
abbrev M_Evaluator_pairUp : Nat := 71
abbrev M_Elements_pair : Nat := 72
abbrev M_Elements_and : Nat := 73
abbrev M_Elements_or : Nat := 74
abbrev M_Elements_compare : Nat := 75
abbrev M_Elements_calculate : Nat := 76
abbrev M_Math_floorDiv : Nat := 77
abbrev M_Math_floorMod : Nat := 78
abbrev M_VectorLanguage_refuse : Nat := 79
abbrev M_Function_size : Nat := 80
abbrev M_Vector_size : Nat := 81
abbrev M_VectorLanguage_element : Nat := 82
abbrev M_Vector_hasPlace : Nat := 83
abbrev M_VectorLanguage_variable : Nat := 84
abbrev M_VectorLanguage_value : Nat := 85
abbrev M_VectorLanguage_count : Nat := 86
abbrev M_VectorLanguageModel_init : Nat := 87
abbrev M_VectorLanguageModel_thrown : Nat := 88
abbrev M_VectorLanguageModel_expression : Nat := 89
abbrev M_VectorLanguageModel_fits : Nat := 90
abbrev M_VectorLanguageModel_between : Nat := 91
abbrev M_VectorLanguageModel_made : Nat := 92
abbrev M_VectorLanguageModel_raise : Nat := 93
abbrev M_VectorLanguageModel_run : Nat := 94
abbrev M_VectorLanguageModel_begin : Nat := 95
abbrev M_VectorLanguageModel_pile : Nat := 96
abbrev M_VectorLanguageModel_advance : Nat := 97
abbrev M_VectorLanguageModel_parts : Nat := 98
abbrev M_VectorLanguageModel_part : Nat := 99
abbrev M_VectorLanguageModel_one : Nat := 100
abbrev M_VectorLanguageModel_fresh : Nat := 101
abbrev M_VectorLanguageModel_sweep : Nat := 102
abbrev M_VectorLanguageModel_mark : Nat := 103
abbrev M_VectorLanguageModel_set : Nat := 104
abbrev M_VectorLanguageModel_over : Nat := 105
abbrev M_VectorLanguageModel_look : Nat := 106
abbrev M_VectorLanguageModel_place : Nat := 107
abbrev M_VectorLanguageModel_wanted : Nat := 108
abbrev M_VectorLanguageModel_assign : Nat := 109
abbrev M_VectorLanguageModel_give : Nat := 110
abbrev M_VectorLanguageModel_replace : Nat := 111
abbrev M_VectorLanguageModel_replaced : Nat := 112
abbrev M_VectorLanguageModel_indexes : Nat := 113
abbrev M_VectorLanguageModel_at : Nat := 114
abbrev M_VectorLanguageModel_leaves : Nat := 115
abbrev M_VectorLanguageModel_condition : Nat := 116
abbrev M_VectorLanguageModel_holds : Nat := 117
abbrev M_VectorLanguageModel_function : Nat := 118
abbrev M_VectorLanguageModel_call : Nat := 119
abbrev M_VectorLanguageModel_argue : Nat := 120
abbrev M_VectorLanguageModel_missing : Nat := 121
abbrev M_VectorLanguageModel_leave : Nat := 122
abbrev M_VectorLanguageModel_drop : Nat := 123
abbrev M_VectorLanguageModel_complain : Nat := 124
abbrev M_VectorLanguageModel_worked : Nat := 125
abbrev M_VectorLanguageModel_same : Nat := 126
abbrev M_VectorLanguageModel_failed : Nat := 127
abbrev M_VectorLanguageModel_pairwise : Nat := 128
abbrev M_VectorLanguageModel_arithmetic : Nat := 129
abbrev M_VectorLanguageModel_limited : Nat := 130
abbrev M_VectorLanguageModel_down : Nat := 131
abbrev M_VectorLanguageModel_compare : Nat := 132
abbrev M_VectorLanguageModel_logic : Nat := 133
abbrev M_VectorLanguageModel_not : Nat := 134
abbrev M_VectorLanguageModel_joined : Nat := 135
abbrev M_VectorLanguageModel_range : Nat := 136
abbrev M_VectorLanguageModel_picked : Nat := 137
abbrev M_VectorLanguageModel_sum : Nat := 138
abbrev M_VectorLanguageModel_unwind : Nat := 139
abbrev M_VectorLanguageModel_element : Nat := 140
abbrev M_VectorLanguageModel_failure : Nat := 141
abbrev M_VectorLanguageModel_variable : Nat := 142
abbrev M_VectorLanguageModel_value : Nat := 143
abbrev M_VectorLanguageModel_reset : Nat := 144
abbrev M_VectorLanguageModel_count : Nat := 145
def zlk : List (Nat × (zP → zP)) → Nat → Option (zP → zP)
  | [], _ => none
  | (a, t) :: r, pc => if pc = a then some t else zlk r pc
theorem zlk_mem : ∀ (t : List (Nat × (zP → zP))) (pc : Nat) (tr : zP → zP), zlk t pc = some tr → (pc, tr) ∈ t
  | [], pc, tr, h => by simp [zlk] at h
  | (a, t) :: r, pc, tr, h => by
    unfold zlk at h
    by_cases hp : pc = a
    · rw [if_pos hp] at h
      cases h
      subst hp
      exact List.mem_cons_self
    · rw [if_neg hp] at h
      exact List.mem_cons_of_mem _ (zlk_mem r pc tr h)
def zAll (l : Launch) (D : va_G) (dA : Nat → ClassId) (b0 i0 : Nat) (L : List (List (Nat × (zP → zP)))) : Prop := ∀ (i : Nat) (t : List (Nat × (zP → zP))), L[i]? = some t → ∀ q ∈ t, zOK l D dA b0 (i0 + i) q.1 q.2
theorem zAll_nil {l : Launch} {D : va_G} {dA : Nat → ClassId} {b0 i0 : Nat} : zAll l D dA b0 i0 [] := fun i t h => by simp at h
theorem zAll_cons {l : Launch} {D : va_G} {dA : Nat → ClassId} {b0 i0 j : Nat} {t : List (Nat × (zP → zP))} {L : List (List (Nat × (zP → zP)))} (h : ∀ q ∈ t, zOK l D dA b0 i0 q.1 q.2) (hj : i0 + 1 = j) (r : zAll l D dA b0 j L) : zAll l D dA b0 i0 (t :: L) := by
  intro i u hu
  subst hj
  cases i with
  | zero =>
    rw [List.getElem?_cons_zero] at hu
    cases hu
    exact h
  | succ i =>
    rw [show i0 + (i + 1) = i0 + 1 + i by omega]
    exact r i u (by rw [List.getElem?_cons_succ] at hu; exact hu)
def ztbs (tys : List (ClassId × FieldType)) : List (List (Nat × (zP → zP))) := [tb0 tys, tb1 tys, tb2 tys, tb3 tys, tb4 tys, tb5 tys, tb6 tys, tb7 tys, tb8 tys, tb9 tys, tb10 tys, tb11 tys, tb12 tys, tb13 tys, tb14 tys, tb15 tys, tb16 tys, tb17 tys, tb18 tys, tb19 tys, tb20 tys, tb21 tys, tb22 tys, tb23 tys, tb24 tys, tb25 tys, tb26 tys, tb27 tys, tb28 tys, tb29 tys, tb30 tys, tb31 tys, tb32 tys, tb33 tys, tb34 tys, tb35 tys, tb36 tys, tb37 tys, tb38 tys, tb39 tys, tb40 tys, tb41 tys, tb42 tys, tb43 tys, tb44 tys, tb45 tys, tb46 tys, tb47 tys, tb48 tys, tb49 tys, tb50 tys, tb51 tys, tb52 tys, tb53 tys, tb54 tys, tb55 tys, tb56 tys, tb57 tys, tb58 tys, tb59 tys, tb60 tys, tb61 tys, tb62 tys, tb63 tys, tb64 tys, tb65 tys, tb66 tys, tb67 tys, tb68 tys, tb69 tys, tb70 tys, tb71 tys, tb72 tys, tb73 tys, tb74 tys, tb75 tys, tb76 tys, tb77 tys, tb78 tys, tb79 tys, tb80 tys, tb81 tys, tb82 tys, tb83 tys, tb84 tys, tb85 tys, tb86 tys, tb87 tys, tb88 tys, tb89 tys, tb90 tys, tb91 tys, tb92 tys, tb93 tys, tb94 tys, tb95 tys, tb96 tys, tb97 tys, tb98 tys, tb99 tys, tb100 tys, tb101 tys, tb102 tys, tb103 tys, tb104 tys, tb105 tys, tb106 tys, tb107 tys, tb108 tys, tb109 tys, tb110 tys, tb111 tys, tb112 tys, tb113 tys, tb114 tys, tb115 tys, tb116 tys, tb117 tys, tb118 tys, tb119 tys, tb120 tys, tb121 tys, tb122 tys, tb123 tys, tb124 tys, tb125 tys, tb126 tys, tb127 tys, tb128 tys, tb129 tys, tb130 tys, tb131 tys, tb132 tys, tb133 tys, tb134 tys, tb135 tys, tb136 tys, tb137 tys, tb138 tys, tb139 tys, tb140 tys, tb141 tys, tb142 tys, tb143 tys, tb144 tys, tb145 tys]
def zT (dA : Nat → ClassId) : Nat → Nat → Option (zP → zP) := fun μ pc => ((ztbs (ztys dA))[μ]?).bind (fun t => zlk t pc)
set_option maxRecDepth 100000 in
theorem ztbs_ok (l : Launch) (D : va_G) (dA : Nat → ClassId) (b0 : Nat) : zAll l D dA b0 0 (ztbs (ztys dA)) := by
  unfold ztbs
  refine zAll_cons (ok0 l D dA b0) (show 0 + 1 = 1 from rfl) ?_
  refine zAll_cons (ok1 l D dA b0) (show 1 + 1 = 2 from rfl) ?_
  refine zAll_cons (ok2 l D dA b0) (show 2 + 1 = 3 from rfl) ?_
  refine zAll_cons (ok3 l D dA b0) (show 3 + 1 = 4 from rfl) ?_
  refine zAll_cons (ok4 l D dA b0) (show 4 + 1 = 5 from rfl) ?_
  refine zAll_cons (ok5 l D dA b0) (show 5 + 1 = 6 from rfl) ?_
  refine zAll_cons (ok6 l D dA b0) (show 6 + 1 = 7 from rfl) ?_
  refine zAll_cons (ok7 l D dA b0) (show 7 + 1 = 8 from rfl) ?_
  refine zAll_cons (ok8 l D dA b0) (show 8 + 1 = 9 from rfl) ?_
  refine zAll_cons (ok9 l D dA b0) (show 9 + 1 = 10 from rfl) ?_
  refine zAll_cons (ok10 l D dA b0) (show 10 + 1 = 11 from rfl) ?_
  refine zAll_cons (ok11 l D dA b0) (show 11 + 1 = 12 from rfl) ?_
  refine zAll_cons (ok12 l D dA b0) (show 12 + 1 = 13 from rfl) ?_
  refine zAll_cons (ok13 l D dA b0) (show 13 + 1 = 14 from rfl) ?_
  refine zAll_cons (ok14 l D dA b0) (show 14 + 1 = 15 from rfl) ?_
  refine zAll_cons (ok15 l D dA b0) (show 15 + 1 = 16 from rfl) ?_
  refine zAll_cons (ok16 l D dA b0) (show 16 + 1 = 17 from rfl) ?_
  refine zAll_cons (ok17 l D dA b0) (show 17 + 1 = 18 from rfl) ?_
  refine zAll_cons (ok18 l D dA b0) (show 18 + 1 = 19 from rfl) ?_
  refine zAll_cons (ok19 l D dA b0) (show 19 + 1 = 20 from rfl) ?_
  refine zAll_cons (ok20 l D dA b0) (show 20 + 1 = 21 from rfl) ?_
  refine zAll_cons (ok21 l D dA b0) (show 21 + 1 = 22 from rfl) ?_
  refine zAll_cons (ok22 l D dA b0) (show 22 + 1 = 23 from rfl) ?_
  refine zAll_cons (ok23 l D dA b0) (show 23 + 1 = 24 from rfl) ?_
  refine zAll_cons (ok24 l D dA b0) (show 24 + 1 = 25 from rfl) ?_
  refine zAll_cons (ok25 l D dA b0) (show 25 + 1 = 26 from rfl) ?_
  refine zAll_cons (ok26 l D dA b0) (show 26 + 1 = 27 from rfl) ?_
  refine zAll_cons (ok27 l D dA b0) (show 27 + 1 = 28 from rfl) ?_
  refine zAll_cons (ok28 l D dA b0) (show 28 + 1 = 29 from rfl) ?_
  refine zAll_cons (ok29 l D dA b0) (show 29 + 1 = 30 from rfl) ?_
  refine zAll_cons (ok30 l D dA b0) (show 30 + 1 = 31 from rfl) ?_
  refine zAll_cons (ok31 l D dA b0) (show 31 + 1 = 32 from rfl) ?_
  refine zAll_cons (ok32 l D dA b0) (show 32 + 1 = 33 from rfl) ?_
  refine zAll_cons (ok33 l D dA b0) (show 33 + 1 = 34 from rfl) ?_
  refine zAll_cons (ok34 l D dA b0) (show 34 + 1 = 35 from rfl) ?_
  refine zAll_cons (ok35 l D dA b0) (show 35 + 1 = 36 from rfl) ?_
  refine zAll_cons (ok36 l D dA b0) (show 36 + 1 = 37 from rfl) ?_
  refine zAll_cons (ok37 l D dA b0) (show 37 + 1 = 38 from rfl) ?_
  refine zAll_cons (ok38 l D dA b0) (show 38 + 1 = 39 from rfl) ?_
  refine zAll_cons (ok39 l D dA b0) (show 39 + 1 = 40 from rfl) ?_
  refine zAll_cons (ok40 l D dA b0) (show 40 + 1 = 41 from rfl) ?_
  refine zAll_cons (ok41 l D dA b0) (show 41 + 1 = 42 from rfl) ?_
  refine zAll_cons (ok42 l D dA b0) (show 42 + 1 = 43 from rfl) ?_
  refine zAll_cons (ok43 l D dA b0) (show 43 + 1 = 44 from rfl) ?_
  refine zAll_cons (ok44 l D dA b0) (show 44 + 1 = 45 from rfl) ?_
  refine zAll_cons (ok45 l D dA b0) (show 45 + 1 = 46 from rfl) ?_
  refine zAll_cons (ok46 l D dA b0) (show 46 + 1 = 47 from rfl) ?_
  refine zAll_cons (ok47 l D dA b0) (show 47 + 1 = 48 from rfl) ?_
  refine zAll_cons (ok48 l D dA b0) (show 48 + 1 = 49 from rfl) ?_
  refine zAll_cons (ok49 l D dA b0) (show 49 + 1 = 50 from rfl) ?_
  refine zAll_cons (ok50 l D dA b0) (show 50 + 1 = 51 from rfl) ?_
  refine zAll_cons (ok51 l D dA b0) (show 51 + 1 = 52 from rfl) ?_
  refine zAll_cons (ok52 l D dA b0) (show 52 + 1 = 53 from rfl) ?_
  refine zAll_cons (ok53 l D dA b0) (show 53 + 1 = 54 from rfl) ?_
  refine zAll_cons (ok54 l D dA b0) (show 54 + 1 = 55 from rfl) ?_
  refine zAll_cons (ok55 l D dA b0) (show 55 + 1 = 56 from rfl) ?_
  refine zAll_cons (ok56 l D dA b0) (show 56 + 1 = 57 from rfl) ?_
  refine zAll_cons (ok57 l D dA b0) (show 57 + 1 = 58 from rfl) ?_
  refine zAll_cons (ok58 l D dA b0) (show 58 + 1 = 59 from rfl) ?_
  refine zAll_cons (ok59 l D dA b0) (show 59 + 1 = 60 from rfl) ?_
  refine zAll_cons (ok60 l D dA b0) (show 60 + 1 = 61 from rfl) ?_
  refine zAll_cons (ok61 l D dA b0) (show 61 + 1 = 62 from rfl) ?_
  refine zAll_cons (ok62 l D dA b0) (show 62 + 1 = 63 from rfl) ?_
  refine zAll_cons (ok63 l D dA b0) (show 63 + 1 = 64 from rfl) ?_
  refine zAll_cons (ok64 l D dA b0) (show 64 + 1 = 65 from rfl) ?_
  refine zAll_cons (ok65 l D dA b0) (show 65 + 1 = 66 from rfl) ?_
  refine zAll_cons (ok66 l D dA b0) (show 66 + 1 = 67 from rfl) ?_
  refine zAll_cons (ok67 l D dA b0) (show 67 + 1 = 68 from rfl) ?_
  refine zAll_cons (ok68 l D dA b0) (show 68 + 1 = 69 from rfl) ?_
  refine zAll_cons (ok69 l D dA b0) (show 69 + 1 = 70 from rfl) ?_
  refine zAll_cons (ok70 l D dA b0) (show 70 + 1 = 71 from rfl) ?_
  refine zAll_cons (ok71 l D dA b0) (show 71 + 1 = 72 from rfl) ?_
  refine zAll_cons (ok72 l D dA b0) (show 72 + 1 = 73 from rfl) ?_
  refine zAll_cons (ok73 l D dA b0) (show 73 + 1 = 74 from rfl) ?_
  refine zAll_cons (ok74 l D dA b0) (show 74 + 1 = 75 from rfl) ?_
  refine zAll_cons (ok75 l D dA b0) (show 75 + 1 = 76 from rfl) ?_
  refine zAll_cons (ok76 l D dA b0) (show 76 + 1 = 77 from rfl) ?_
  refine zAll_cons (ok77 l D dA b0) (show 77 + 1 = 78 from rfl) ?_
  refine zAll_cons (ok78 l D dA b0) (show 78 + 1 = 79 from rfl) ?_
  refine zAll_cons (ok79 l D dA b0) (show 79 + 1 = 80 from rfl) ?_
  refine zAll_cons (ok80 l D dA b0) (show 80 + 1 = 81 from rfl) ?_
  refine zAll_cons (ok81 l D dA b0) (show 81 + 1 = 82 from rfl) ?_
  refine zAll_cons (ok82 l D dA b0) (show 82 + 1 = 83 from rfl) ?_
  refine zAll_cons (ok83 l D dA b0) (show 83 + 1 = 84 from rfl) ?_
  refine zAll_cons (ok84 l D dA b0) (show 84 + 1 = 85 from rfl) ?_
  refine zAll_cons (ok85 l D dA b0) (show 85 + 1 = 86 from rfl) ?_
  refine zAll_cons (ok86 l D dA b0) (show 86 + 1 = 87 from rfl) ?_
  refine zAll_cons (ok87 l D dA b0) (show 87 + 1 = 88 from rfl) ?_
  refine zAll_cons (ok88 l D dA b0) (show 88 + 1 = 89 from rfl) ?_
  refine zAll_cons (ok89 l D dA b0) (show 89 + 1 = 90 from rfl) ?_
  refine zAll_cons (ok90 l D dA b0) (show 90 + 1 = 91 from rfl) ?_
  refine zAll_cons (ok91 l D dA b0) (show 91 + 1 = 92 from rfl) ?_
  refine zAll_cons (ok92 l D dA b0) (show 92 + 1 = 93 from rfl) ?_
  refine zAll_cons (ok93 l D dA b0) (show 93 + 1 = 94 from rfl) ?_
  refine zAll_cons (ok94 l D dA b0) (show 94 + 1 = 95 from rfl) ?_
  refine zAll_cons (ok95 l D dA b0) (show 95 + 1 = 96 from rfl) ?_
  refine zAll_cons (ok96 l D dA b0) (show 96 + 1 = 97 from rfl) ?_
  refine zAll_cons (ok97 l D dA b0) (show 97 + 1 = 98 from rfl) ?_
  refine zAll_cons (ok98 l D dA b0) (show 98 + 1 = 99 from rfl) ?_
  refine zAll_cons (ok99 l D dA b0) (show 99 + 1 = 100 from rfl) ?_
  refine zAll_cons (ok100 l D dA b0) (show 100 + 1 = 101 from rfl) ?_
  refine zAll_cons (ok101 l D dA b0) (show 101 + 1 = 102 from rfl) ?_
  refine zAll_cons (ok102 l D dA b0) (show 102 + 1 = 103 from rfl) ?_
  refine zAll_cons (ok103 l D dA b0) (show 103 + 1 = 104 from rfl) ?_
  refine zAll_cons (ok104 l D dA b0) (show 104 + 1 = 105 from rfl) ?_
  refine zAll_cons (ok105 l D dA b0) (show 105 + 1 = 106 from rfl) ?_
  refine zAll_cons (ok106 l D dA b0) (show 106 + 1 = 107 from rfl) ?_
  refine zAll_cons (ok107 l D dA b0) (show 107 + 1 = 108 from rfl) ?_
  refine zAll_cons (ok108 l D dA b0) (show 108 + 1 = 109 from rfl) ?_
  refine zAll_cons (ok109 l D dA b0) (show 109 + 1 = 110 from rfl) ?_
  refine zAll_cons (ok110 l D dA b0) (show 110 + 1 = 111 from rfl) ?_
  refine zAll_cons (ok111 l D dA b0) (show 111 + 1 = 112 from rfl) ?_
  refine zAll_cons (ok112 l D dA b0) (show 112 + 1 = 113 from rfl) ?_
  refine zAll_cons (ok113 l D dA b0) (show 113 + 1 = 114 from rfl) ?_
  refine zAll_cons (ok114 l D dA b0) (show 114 + 1 = 115 from rfl) ?_
  refine zAll_cons (ok115 l D dA b0) (show 115 + 1 = 116 from rfl) ?_
  refine zAll_cons (ok116 l D dA b0) (show 116 + 1 = 117 from rfl) ?_
  refine zAll_cons (ok117 l D dA b0) (show 117 + 1 = 118 from rfl) ?_
  refine zAll_cons (ok118 l D dA b0) (show 118 + 1 = 119 from rfl) ?_
  refine zAll_cons (ok119 l D dA b0) (show 119 + 1 = 120 from rfl) ?_
  refine zAll_cons (ok120 l D dA b0) (show 120 + 1 = 121 from rfl) ?_
  refine zAll_cons (ok121 l D dA b0) (show 121 + 1 = 122 from rfl) ?_
  refine zAll_cons (ok122 l D dA b0) (show 122 + 1 = 123 from rfl) ?_
  refine zAll_cons (ok123 l D dA b0) (show 123 + 1 = 124 from rfl) ?_
  refine zAll_cons (ok124 l D dA b0) (show 124 + 1 = 125 from rfl) ?_
  refine zAll_cons (ok125 l D dA b0) (show 125 + 1 = 126 from rfl) ?_
  refine zAll_cons (ok126 l D dA b0) (show 126 + 1 = 127 from rfl) ?_
  refine zAll_cons (ok127 l D dA b0) (show 127 + 1 = 128 from rfl) ?_
  refine zAll_cons (ok128 l D dA b0) (show 128 + 1 = 129 from rfl) ?_
  refine zAll_cons (ok129 l D dA b0) (show 129 + 1 = 130 from rfl) ?_
  refine zAll_cons (ok130 l D dA b0) (show 130 + 1 = 131 from rfl) ?_
  refine zAll_cons (ok131 l D dA b0) (show 131 + 1 = 132 from rfl) ?_
  refine zAll_cons (ok132 l D dA b0) (show 132 + 1 = 133 from rfl) ?_
  refine zAll_cons (ok133 l D dA b0) (show 133 + 1 = 134 from rfl) ?_
  refine zAll_cons (ok134 l D dA b0) (show 134 + 1 = 135 from rfl) ?_
  refine zAll_cons (ok135 l D dA b0) (show 135 + 1 = 136 from rfl) ?_
  refine zAll_cons (ok136 l D dA b0) (show 136 + 1 = 137 from rfl) ?_
  refine zAll_cons (ok137 l D dA b0) (show 137 + 1 = 138 from rfl) ?_
  refine zAll_cons (ok138 l D dA b0) (show 138 + 1 = 139 from rfl) ?_
  refine zAll_cons (ok139 l D dA b0) (show 139 + 1 = 140 from rfl) ?_
  refine zAll_cons (ok140 l D dA b0) (show 140 + 1 = 141 from rfl) ?_
  refine zAll_cons (ok141 l D dA b0) (show 141 + 1 = 142 from rfl) ?_
  refine zAll_cons (ok142 l D dA b0) (show 142 + 1 = 143 from rfl) ?_
  refine zAll_cons (ok143 l D dA b0) (show 143 + 1 = 144 from rfl) ?_
  refine zAll_cons (ok144 l D dA b0) (show 144 + 1 = 145 from rfl) ?_
  refine zAll_cons (ok145 l D dA b0) (show 145 + 1 = 146 from rfl) ?_
  exact zAll_nil
theorem zT_ok (l : Launch) (D : va_G) (dA : Nat → ClassId) (b0 μ pc : Nat) (tr : zP → zP) (h : zT dA μ pc = some tr) : zOK l D dA b0 μ pc tr := by
  unfold zT at h
  cases ht : (ztbs (ztys dA))[μ]? with
  | none => rw [ht] at h; cases h
  | some t =>
    rw [ht, Option.bind_some] at h
    have := ztbs_ok l D dA b0 μ t ht (pc, tr) (zlk_mem t pc tr h)
    rw [Nat.zero_add] at this
    exact this
theorem zT_mono (dA : Nat → ClassId) (μ pc : Nat) (tr : zP → zP) (h : zT dA μ pc = some tr) : zMono tr := (zT_ok launch0 (fun _ => 0, fun _ _ => 0) dA 0 μ pc tr h).1
/-- what a method does, by the table -/
def zx (dA : Nat → ClassId) : zP := zR (zT dA)
theorem zstp {dA : Nat → ClassId} {d K N μ pc : Nat} {L : zV} {st : List Value} {w : ww_W} {k n : Nat} {Q : zQ} {tr : zP → zP} (h : zT dA μ pc = some tr) (h2 : tr (zx dA) d K N μ pc L st w k n Q) : zx dA d K N μ pc L st w k n Q := zR.go (zT_mono dA) h h2
theorem zx_sound {l : Launch} {D : va_G} {dA : Nat → ClassId} {b0 d K N μ pc : Nat} {L : zV} {st : List Value} {w : ww_W} {k n : Nat} {Q : zQ} (h : zx dA d K N μ pc L st w k n Q) : zM l zmt zbig znst D zcls (ztys dA) b0 d K N μ pc L st w k n Q := zR.sound (fun μ pc tr ht => (zT_ok l D dA b0 μ pc tr ht).2) h
