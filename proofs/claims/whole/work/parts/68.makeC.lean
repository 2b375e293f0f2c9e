/-! the class is made -/
section MC
variable {dA : Nat → ClassId} {w W : ww_W} {K N d : Nat} {Q : zQ} {l : List (Nat × va_E)} {a b q : Nat} {e x y : va_E} {h1 h2 : Nat × va_E}
/-- what lies where, apart -/
def LF (W : ww_W) (l : List (Nat × va_E)) : Prop := (∀ p : Nat × va_E, p ∈ l → W p.1 = some p.2) ∧ (l.map (fun p : Nat × va_E => p.1)).Nodup
theorem LF_sub {l' : List (Nat × va_E)} (h : LF W l) (hs : List.Sublist l' l) : LF W l' := ⟨fun p hp => h.1 p (hs.subset hp), (hs.map _).nodup h.2⟩
theorem LF_perm {l' : List (Nat × va_E)} (h : LF W l) (hs : List.Perm l' l) : LF W l' := ⟨fun p hp => h.1 p (hs.mem_iff.mp hp), ((hs.map _).nodup_iff).mpr h.2⟩
theorem LF_new (h : LF W l) (hq : W q = none) : LF (va_up W q (some e)) ((q, e) :: l) := by
  refine ⟨fun p hp => ?_, List.nodup_cons.mpr ⟨fun hm => ?_, h.2⟩⟩
  · rcases List.mem_cons.mp hp with rfl | hp
    · exact va_up_self _ _ _
    · exact zup_at hq (h.1 p hp)
  · obtain ⟨p, hp, hpe⟩ := List.mem_map.mp hm
    have := h.1 p hp
    rw [hpe, hq] at this
    cases this
theorem LF_put (h : LF W ((a, x) :: l)) : LF (va_up W a (some y)) ((a, y) :: l) := by
  refine ⟨fun p hp => ?_, h.2⟩
  rcases List.mem_cons.mp hp with rfl | hp
  · exact va_up_self _ _ _
  · have hne : p.1 ≠ a := fun e => (List.nodup_cons.mp h.2).1 (List.mem_map.mpr ⟨p, hp, e⟩)
    rw [va_up_ne _ _ hne]
    exact h.1 p (List.mem_cons_of_mem _ hp)
theorem LF_sw (h : LF W (h1 :: h2 :: l)) : LF W (h2 :: h1 :: l) := LF_perm h (List.Perm.swap _ _ _)
theorem LF_rot {h3 : Nat × va_E} (h : LF W (h1 :: h2 :: h3 :: l)) : LF W (h3 :: h2 :: h1 :: l) := LF_perm h (((List.Perm.swap _ _ _).trans (List.Perm.cons _ (List.Perm.swap _ _ _))).trans (List.Perm.swap _ _ _))
theorem LF_hd (h : LF W ((a, x) :: l)) : W a = some x := h.1 (a, x) List.mem_cons_self
theorem LF_tl (h : LF W (h1 :: l)) : LF W l := LF_sub h (List.sublist_cons_self _ _)
theorem z_putF {μ pc k n kf ci : Nat} {L : zV} {r fs : List Value} {ty : FieldType} {v : Value} (h : zT dA μ pc = some (zput ty ci kf)) (hL : LF w ((a, .inr (ci, fs)) :: l)) (hk : kf < fs.length) (hv : zfit ty v) (kk : ∀ W' : ww_W, LF W' ((a, .inr (ci, fs.set kf v)) :: l) → zx dA d K N μ (pc + 3) L r W' k n Q) : zx dA d K N μ pc L (v :: .ref a :: r) w k n Q := z_put h (LF_hd hL) hk hv (kk _ (LF_put hL))
theorem r_Places_init (hd : 1 ≤ d) (hK : 1 ≤ K) (hN : 16 ≤ N) (h : LF w ((a, .inr (C_Places, dC4)) :: l)) (hQ : ∀ (q : Nat) (W : ww_W), LF W ((a, .inr (C_Places, [.ref q, .int 0, .int 0, .int 0, .int 0])) :: (q, .inl (dA 0, 16, .inl (fun _ => 0))) :: l) → Q (.inl none) W 1 16) : zx dA d K N M_Places_init 0 (zargs 1 [.ref a]) [] w 0 0 Q := by
  repeat refine z_i rfl rfl ?_
  refine z_obj rfl (Nat.le_of_ble_eq_true rfl) hd ?_
  repeat refine z_i rfl rfl ?_
  refine z_newi (j := 16) rfl rfl (by decide) (by omega) (by omega) (fun q hq => ?_)
  refine z_put rfl (zup_at hq (LF_hd h)) (Nat.le_of_ble_eq_true rfl) ⟨rfl, rfl⟩ ?_
  exact z_retV rfl (by omega) (by omega) (hQ q _ (LF_put (LF_sw (LF_new h hq))))
theorem r_Program_init (hd : 1 ≤ d) (hK : 1 ≤ K) (hN : 120 ≤ N) (h : LF w ((a, .inr (C_Program, dC1)) :: l)) (hQ : ∀ (q : Nat) (W : ww_W), LF W ((a, .inr (C_Program, [.ref q, .int 0])) :: (q, .inl (dA 3, 120, .inr (.inr (.inr (.inr (fun _ => none)))))) :: l) → Q (.inl none) W 1 120) : zx dA d K N M_Program_init 0 (zargs 1 [.ref a]) [] w 0 0 Q := by
  repeat refine z_i rfl rfl ?_
  refine z_obj rfl (Nat.le_of_ble_eq_true rfl) hd ?_
  repeat refine z_i rfl rfl ?_
  refine z_newq (j := 120) 3 rfl rfl rfl (by decide) (by omega) (by omega) (fun q hq => ?_)
  refine z_put rfl (zup_at hq (LF_hd h)) (Nat.le_of_ble_eq_true rfl) ⟨rfl, rfl⟩ ?_
  exact z_retV rfl (by omega) (by omega) (hQ q _ (LF_put (LF_sw (LF_new h hq))))
theorem r_Env_init0 (hd : 1 ≤ d) (hK : 1 ≤ K) (hN : 10 ≤ N) (h : LF w ((a, .inr (C_Env, dC3)) :: l)) (hQ : ∀ (q : Nat) (W : ww_W), LF W ((a, .inr (C_Env, [.ref q, .null, .null, .int 0, .int 0])) :: (q, .inl (dA 4, 10, .inr (.inr (.inr (.inr (fun _ => none)))))) :: l) → Q (.inl none) W 1 10) : zx dA d K N M_Environment_init 0 (zargs 3 [.ref a, .null, .int 0]) [] w 0 0 Q := by
  repeat refine z_i rfl rfl ?_
  refine z_obj rfl (Nat.le_of_ble_eq_true rfl) hd ?_
  repeat refine z_i rfl rfl ?_
  refine z_newq (j := 10) 4 rfl rfl rfl (by decide) (by omega) (by omega) (fun q hq => ?_)
  have g1 := LF_sw (LF_new (e := .inl (dA 4, 10, .inr (.inr (.inr (.inr (fun _ => none)))))) h hq)
  refine z_put rfl (LF_hd g1) (Nat.le_of_ble_eq_true rfl) ⟨rfl, rfl⟩ ?_
  have g2 := LF_put (y := .inr (C_Env, [.ref q, .null, .null, .int 0, .int 0])) g1
  repeat refine z_i rfl rfl ?_
  refine z_put rfl (va_up_self _ _ _) (Nat.le_of_ble_eq_true rfl) ⟨rfl, rfl⟩ ?_
  rw [bx_uu]
  repeat refine z_i rfl rfl ?_
  refine z_put rfl (va_up_self _ _ _) (Nat.le_of_ble_eq_true rfl) ⟨rfl, rfl⟩ ?_
  rw [bx_uu]
  repeat refine z_i rfl rfl ?_
  refine z_bf rfl rfl (fun q => q) ?_
  repeat refine z_i rfl rfl ?_
  refine z_j rfl ?_
  refine z_put rfl (va_up_self _ _ _) (Nat.le_of_ble_eq_true rfl) ⟨rfl, rfl⟩ ?_
  rw [bx_uu]
  exact z_retV rfl (by omega) (by omega) (hQ q _ g2)
/-- a vector of one element -/
theorem r_Vec_one {z : Int32} (hd : 3 ≤ d) (hK : 1 ≤ K) (hN : 1 ≤ N) (h : LF w ((a, .inr (C_Vector, dC5)) :: l)) (hQ : ∀ (q : Nat) (W : ww_W), LF W ((a, .inr (C_Vector, [.ref q])) :: (q, .inl (dA 0, 1, .inl (upd (fun _ => 0) 0 z))) :: l) → Q (.inl none) W 1 1) : zx dA d K N M_Vector_init_I 0 (zargs 2 [.ref a, .int z]) [] w 0 0 Q :=
  r_Vector_init_I hd hK hN (LF_hd h) Q (fun q hq => hQ q _ (LF_put (LF_sw (LF_new h hq))))
/-- what the evaluator is made of -/
def evL (dA : Nat → ClassId) (g : Nat → Nat) : List (Nat × va_E) := [(g 12, .inl (dA 0, 1, .inl (upd (fun _ => 0) 0 1))), (g 11, .inr (C_Vector, [.ref (g 12)])), (g 10, .inl (dA 0, 1, .inl (upd (fun _ => 0) 0 0))), (g 9, .inr (C_Vector, [.ref (g 10)])), (g 8, .inl (dA 0, 1, .inl (upd (fun _ => 0) 0 pNA))), (g 7, .inr (C_Vector, [.ref (g 8)])), (g 5, .inl (dA 0, 0, .inl (fun _ => 0))), (g 6, .inr (C_Vector, [.ref (g 5)])), (g 4, .inl (dA 0, 16, .inl (fun _ => 0))), (g 3, .inr (C_Places, [.ref (g 4), .int 0, .int 0, .int 0, .int 0])), (g 2, .inl (dA 4, 10, .inr (.inr (.inr (.inr (fun _ => none)))))), (g 1, .inr (C_Env, [.ref (g 2), .null, .null, .int 0, .int 0]))]
theorem r_Evaluator_init {p : Nat} (hd : 4 ≤ d) (hK : 12 ≤ K) (hN : 43 ≤ N) (h : LF w ((a, .inr (C_Evaluator, dC2)) :: l)) (hQ : ∀ (g : Nat → Nat) (W : ww_W), LF W ((a, .inr (C_Evaluator, [.ref p, .ref (g 1), .int 0, .int 0, .int 0, .int 0, .null, .null, .ref (g 3), .ref (g 6), .ref (g 7), .ref (g 9), .ref (g 11)])) :: (evL dA g ++ l)) → Q (.inl none) W 12 43) : zx dA d K N M_Evaluator_init 0 (zargs 2 [.ref a, .ref p]) [] w 0 0 Q := by
  repeat refine z_i rfl rfl ?_
  refine z_obj rfl (Nat.le_of_ble_eq_true rfl) (by omega) ?_
  repeat refine z_i rfl rfl ?_
  refine z_new rfl (by omega) (by omega) (fun en hen => ?_)
  have f1 := LF_new (e := .inr (C_Env, dC3)) h hen
  repeat refine z_i rfl rfl ?_
  refine z_cIk [.null, .int 0] [.ref en, .ref a] 1 1 10 rfl rfl rfl (Nat.le_of_ble_eq_true rfl) (Nat.le_of_ble_eq_true rfl) (by omega) (by omega) (by omega) (r_Env_init0 (by omega) (by omega) (by omega) f1 (fun q2 W1 f2 => ⟨_, rfl, ?_⟩))
  have f3 := LF_rot f2
  refine z_putF rfl f3 (Nat.le_of_ble_eq_true rfl) ⟨rfl, rfl⟩ (fun W2 f4 => ?_)
  replace f4 : LF W2 ((a, .inr (C_Evaluator, [.null, .ref en, .int 0, .int 0, .int 0, .int 0, .null, .null, .null, .null, .null, .null, .null])) :: _) := f4
  repeat refine z_i rfl rfl ?_
  refine z_new rfl (by omega) (by omega) (fun pl hpl => ?_)
  have f5 := LF_new (e := .inr (C_Places, dC4)) f4 hpl
  repeat refine z_i rfl rfl ?_
  refine z_cIk [] [.ref pl, .ref a] 1 1 16 rfl rfl rfl (Nat.le_of_ble_eq_true rfl) (Nat.le_of_ble_eq_true rfl) (by omega) (by omega) (by omega) (r_Places_init (by omega) (by omega) (by omega) f5 (fun q4 W3 f6 => ⟨_, rfl, ?_⟩))
  have f7 := LF_rot f6
  refine z_putF rfl f7 (Nat.le_of_ble_eq_true rfl) ⟨rfl, rfl⟩ (fun W4 f8 => ?_)
  replace f8 : LF W4 ((a, .inr (C_Evaluator, [.null, .ref en, .int 0, .int 0, .int 0, .int 0, .null, .null, .ref pl, .null, .null, .null, .null])) :: _) := f8
  repeat refine z_i rfl rfl ?_
  refine z_new rfl (by omega) (by omega) (fun v6 hv6 => ?_)
  have f9 := LF_new (e := .inr (C_Vector, dC5)) f8 hv6
  repeat refine z_i rfl rfl ?_
  refine z_newi (j := 0) rfl rfl (by decide) (by omega) (by omega) (fun q5 hq5 => ?_)
  have f10 := LF_sw (LF_new (e := .inl (dA 0, 0, .inl (fun _ => 0))) f9 hq5)
  refine z_cIk [.ref q5] [.ref v6, .ref a] 3 0 0 rfl rfl rfl (Nat.le_of_ble_eq_true rfl) (Nat.le_of_ble_eq_true rfl) (by omega) (by omega) (by omega) (r_Vector_init_a (by omega) (LF_hd f10) _ ⟨_, rfl, ?_⟩)
  have f11 := LF_rot (LF_put (y := .inr (C_Vector, [.ref q5])) f10)
  refine z_putF rfl f11 (Nat.le_of_ble_eq_true rfl) ⟨rfl, rfl⟩ (fun W6 f12 => ?_)
  replace f12 : LF W6 ((a, .inr (C_Evaluator, [.null, .ref en, .int 0, .int 0, .int 0, .int 0, .null, .null, .ref pl, .ref v6, .null, .null, .null])) :: _) := f12
  repeat refine z_i rfl rfl ?_
  refine z_new rfl (by omega) (by omega) (fun v7 hv7 => ?_)
  have f13 := LF_new (e := .inr (C_Vector, dC5)) f12 hv7
  repeat refine z_i rfl rfl ?_
  refine z_cIk [.int pNA] [.ref v7, .ref a] 3 1 1 rfl rfl rfl (Nat.le_of_ble_eq_true rfl) (Nat.le_of_ble_eq_true rfl) (by omega) (by omega) (by omega) (r_Vec_one (by omega) (by omega) (by omega) f13 (fun q8 W7 f14 => ⟨_, rfl, ?_⟩))
  have f15 := LF_rot f14
  refine z_putF rfl f15 (Nat.le_of_ble_eq_true rfl) ⟨rfl, rfl⟩ (fun W8 f16 => ?_)
  replace f16 : LF W8 ((a, .inr (C_Evaluator, [.null, .ref en, .int 0, .int 0, .int 0, .int 0, .null, .null, .ref pl, .ref v6, .ref v7, .null, .null])) :: _) := f16
  repeat refine z_i rfl rfl ?_
  refine z_new rfl (by omega) (by omega) (fun v9 hv9 => ?_)
  have f17 := LF_new (e := .inr (C_Vector, dC5)) f16 hv9
  repeat refine z_i rfl rfl ?_
  refine z_cIk [.int 0] [.ref v9, .ref a] 3 1 1 rfl rfl rfl (Nat.le_of_ble_eq_true rfl) (Nat.le_of_ble_eq_true rfl) (by omega) (by omega) (by omega) (r_Vec_one (by omega) (by omega) (by omega) f17 (fun q10 W9 f18 => ⟨_, rfl, ?_⟩))
  have f19 := LF_rot f18
  refine z_putF rfl f19 (Nat.le_of_ble_eq_true rfl) ⟨rfl, rfl⟩ (fun W10 f20 => ?_)
  replace f20 : LF W10 ((a, .inr (C_Evaluator, [.null, .ref en, .int 0, .int 0, .int 0, .int 0, .null, .null, .ref pl, .ref v6, .ref v7, .ref v9, .null])) :: _) := f20
  repeat refine z_i rfl rfl ?_
  refine z_new rfl (by omega) (by omega) (fun v11 hv11 => ?_)
  have f21 := LF_new (e := .inr (C_Vector, dC5)) f20 hv11
  repeat refine z_i rfl rfl ?_
  refine z_cIk [.int 1] [.ref v11, .ref a] 3 1 1 rfl rfl rfl (Nat.le_of_ble_eq_true rfl) (Nat.le_of_ble_eq_true rfl) (by omega) (by omega) (by omega) (r_Vec_one (by omega) (by omega) (by omega) f21 (fun q12 W11 f22 => ⟨_, rfl, ?_⟩))
  have f23 := LF_rot f22
  refine z_putF rfl f23 (Nat.le_of_ble_eq_true rfl) ⟨rfl, rfl⟩ (fun W12 f24 => ?_)
  replace f24 : LF W12 ((a, .inr (C_Evaluator, [.null, .ref en, .int 0, .int 0, .int 0, .int 0, .null, .null, .ref pl, .ref v6, .ref v7, .ref v9, .ref v11])) :: _) := f24
  repeat refine z_i rfl rfl ?_
  refine z_putF rfl f24 (Nat.le_of_ble_eq_true rfl) ⟨rfl, rfl⟩ (fun Wz f25 => ?_)
  replace f25 : LF Wz ((a, .inr (C_Evaluator, [.ref p, .ref en, .int 0, .int 0, .int 0, .int 0, .null, .null, .ref pl, .ref v6, .ref v7, .ref v9, .ref v11])) :: _) := f25
  exact z_retV rfl (by omega) (by omega) (hQ (fun k => if k = 1 then en else if k = 2 then q2 else if k = 3 then pl else if k = 4 then q4 else if k = 5 then q5 else if k = 6 then v6 else if k = 7 then v7 else if k = 8 then q8 else if k = 9 then v9 else if k = 10 then q10 else if k = 11 then v11 else q12) _ f25)
end MC
