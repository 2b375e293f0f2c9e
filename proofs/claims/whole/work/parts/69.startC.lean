/-! the class at its beginning -/
section MD
variable {dA : Nat → ClassId} {w W : ww_W} {K N d : Nat} {Q : zQ} {l m : List (Nat × va_E)} {P : aP} {h1 h2 : Nat × va_E}
theorem LF_out (h : LF W (h1 :: (m ++ h2 :: l))) : LF W (h2 :: h1 :: (m ++ l)) := LF_sw (LF_perm h (List.Perm.cons _ List.perm_middle.symm))
def c0f (e p q : Nat) (g : Nat → Nat) : Nat → Nat := fun k => if k = 0 then e else if k = 1 then p else if k = 2 then q else if k = 3 then g 3 else if k = 4 then g 4 else if k = 5 then g 6 else if k = 6 then g 7 else if k = 7 then g 9 else if k = 8 then g 11 else p
def G0f (g : Nat → Nat) : gG := (fun _ => g 1, fun _ => g 2, fun _ => 0, fun _ _ => none)
theorem CI_0 {v e p q : Nat} {g : Nat → Nat} {y : va_E} (h : LF W ((v, y) :: (e, .inr (C_Evaluator, [.ref p, .ref (g 1), .int 0, .int 0, .int 0, .int 0, .null, .null, .ref (g 3), .ref (g 6), .ref (g 7), .ref (g 9), .ref (g 11)])) :: (evL dA g ++ (q, .inl (dA 3, 120, .inr (.inr (.inr (.inr (fun _ => none)))))) :: (p, .inr (C_Program, [.ref q, .int 0])) :: l))) : CI dA (c0f e p q g) P 0 W (G0f g) aS0 := by
  have hm : ∀ z : Nat × va_E, z ∈ (e, .inr (C_Evaluator, [.ref p, .ref (g 1), .int 0, .int 0, .int 0, .int 0, .null, .null, .ref (g 3), .ref (g 6), .ref (g 7), .ref (g 9), .ref (g 11)])) :: (evL dA g ++ (q, .inl (dA 3, 120, .inr (.inr (.inr (.inr (fun _ => none)))))) :: (p, .inr (C_Program, [.ref q, .int 0])) :: l) → W z.1 = some z.2 := fun z hz => h.1 z (List.mem_cons_of_mem _ hz)
  have he := hm (e, _) (List.mem_cons_self)
  have hev : ∀ z : Nat × va_E, z ∈ evL dA g → W z.1 = some z.2 := fun z hz => hm z (List.mem_cons_of_mem _ (List.mem_append_left _ hz))
  have hq := hm (q, .inl (dA 3, 120, .inr (.inr (.inr (.inr (fun _ => none)))))) (List.mem_cons_of_mem _ (List.mem_append_right _ List.mem_cons_self))
  have hp := hm (p, .inr (C_Program, [.ref q, .int 0])) (List.mem_cons_of_mem _ (List.mem_append_right _ (List.mem_cons_of_mem _ List.mem_cons_self)))
  have g12 := hev (g 12, .inl (dA 0, 1, .inl (upd (fun _ => 0) 0 1))) (by simp [evL])
  have g11 := hev (g 11, .inr (C_Vector, [.ref (g 12)])) (by simp [evL])
  have g10 := hev (g 10, .inl (dA 0, 1, .inl (upd (fun _ => 0) 0 0))) (by simp [evL])
  have g9 := hev (g 9, .inr (C_Vector, [.ref (g 10)])) (by simp [evL])
  have g8 := hev (g 8, .inl (dA 0, 1, .inl (upd (fun _ => 0) 0 pNA))) (by simp [evL])
  have g7 := hev (g 7, .inr (C_Vector, [.ref (g 8)])) (by simp [evL])
  have g6 := hev (g 6, .inr (C_Vector, [.ref (g 5)])) (by simp [evL])
  have g5 := hev (g 5, .inl (dA 0, 0, .inl (fun _ => 0))) (by simp [evL])
  have g4 := hev (g 4, .inl (dA 0, 16, .inl (fun _ => 0))) (by simp [evL])
  have g3 := hev (g 3, .inr (C_Places, [.ref (g 4), .int 0, .int 0, .int 0, .int 0])) (by simp [evL])
  have g2 := hev (g 2, .inl (dA 4, 10, .inr (.inr (.inr (.inr (fun _ => none)))))) (by simp [evL])
  have g1 := hev (g 1, .inr (C_Env, [.ref (g 2), .null, .null, .int 0, .int 0])) (by simp [evL])
  dsimp only at he hq hp g12 g11 g10 g9 g8 g7 g6 g5 g4 g3 g2 g1
  have hne : ∀ {a : Nat} {k : Nat} {f : Nat → Int32}, ¬ k = 16 → W a = some (.inl (dA 0, k, .inl f)) → a ≠ g 4 := fun hk ha e => by
    rw [e, g4] at ha
    cases ha
    exact hk rfl
  have hone : ∀ {a r : Nat} {z : Int32}, okI z → W a = some (.inr (C_Vector, [.ref r])) → W r = some (.inl (dA 0, 1, .inl (upd (fun _ => 0) 0 z))) → rv dA (c0f e p q g) P 0 W (G0f g) aS0 (.ref a) (.inl [z]) := fun hz ha hr => by
    refine ⟨_, _, _, rfl, ha, hr, fun j hj => ?_, ⟨hne (by decide) hr, fun e1 => by rw [e1] at hr; exact absurd (hr.symm.trans hp) (by intro q; cases q)⟩, by show 1 ≤ 16; decide, fun j hj => ?_⟩
    · have : j = 0 := by simp at hj; omega
      subst this
      exact pk_us
    · have : j = 0 := by simp at hj; omega
      subst this
      exact hz
  refine ⟨⟨.null, .null, he, rfl, rfl⟩, ⟨fun _ => none, hp, hq, by omega, fun e he => absurd he (Nat.not_lt_zero _)⟩, ⟨⟨g 6, g 5, fun _ => 0, rfl, g6, g5, fun j hj => absurd hj (Nat.not_lt_zero _), ⟨hne (by decide) g5, fun e1 => by rw [e1] at g5; exact absurd (g5.symm.trans hp) (by intro q; cases q)⟩, by show 0 ≤ 16; decide, fun j hj => absurd hj (Nat.not_lt_zero _)⟩, hone (Or.inl rfl) g7 g8, hone (Or.inr (by decide)) g9 g10, hone (Or.inr (by decide)) g11 g12, ⟨_, hp, by intro q; rcases q with q | q | q | q <;> cases q⟩⟩, ⟨0, 0, 0, 0, fun _ => 0, g3, g4⟩, fun i hi => ?_, ⟨fun i i' hi hi' _ => ?_, fun i i' hi hi' _ => ?_, fun i i' hi => absurd hi (Nat.not_lt_zero _), fun i j i' j' a ha => (by cases ha), fun i j a ha => (by cases ha)⟩, Nat.zero_le _, ⟨Nat.zero_le _, Or.inr (by decide)⟩, fun i j a ha => (by cases ha), fun n hn => absurd hn (Nat.not_lt_zero _)⟩
  · have hi0 : i = 0 := Nat.le_zero.mp hi
    subst hi0
    exact ⟨.null, .null, fun _ => none, g1, g2, ⟨rfl, rfl⟩, fun j _ => rfl⟩
  · have e1 : i = 0 := Nat.le_zero.mp hi
    have e2 : i' = 0 := Nat.le_zero.mp hi'
    omega
  · have e1 : i = 0 := Nat.le_zero.mp hi
    have e2 : i' = 0 := Nat.le_zero.mp hi'
    omega
theorem r_VL_init {v : Nat} (hd : 5 ≤ d) (hK : 15 ≤ K) (hN : 178 ≤ N) (h : LF w ((v, .inr (C_Main, dC0)) :: l)) (hQ : ∀ (c : Nat → Nat) (G : gG) (W : ww_W), CI dA c P 0 W G aS0 → W v = some (.inr (C_Main, [.ref (c 1), .ref (c 0), .null])) → LF W l → Q (.inl none) W 15 178) : zx dA d K N M_VectorLanguage_init 0 (zargs 1 [.ref v]) [] w 0 0 Q := by
  repeat refine z_i rfl rfl ?_
  refine z_obj rfl (Nat.le_of_ble_eq_true rfl) (by omega) ?_
  repeat refine z_i rfl rfl ?_
  refine z_new rfl (by omega) (by omega) (fun p hp => ?_)
  have f1 := LF_new (e := .inr (C_Program, dC1)) h hp
  repeat refine z_i rfl rfl ?_
  refine z_cIk [] [.ref p, .ref v] 1 1 120 rfl rfl rfl (Nat.le_of_ble_eq_true rfl) (Nat.le_of_ble_eq_true rfl) (by omega) (by omega) (by omega) (r_Program_init (by omega) (by omega) (by omega) f1 (fun q W1 f2 => ⟨_, rfl, ?_⟩))
  refine z_putF rfl (LF_rot f2) (Nat.le_of_ble_eq_true rfl) ⟨rfl, rfl⟩ (fun W2 f3 => ?_)
  replace f3 : LF W2 ((v, .inr (C_Main, [.ref p, .null, .null])) :: _) := f3
  repeat refine z_i rfl rfl ?_
  refine z_new rfl (by omega) (by omega) (fun e he => ?_)
  have f4 := LF_new (e := .inr (C_Evaluator, dC2)) f3 he
  repeat refine z_i rfl rfl ?_
  refine z_get rfl (LF_hd (LF_tl f4)) rfl ?_
  refine z_cIk [.ref p] [.ref e, .ref v] 4 12 43 rfl rfl rfl (Nat.le_of_ble_eq_true rfl) (Nat.le_of_ble_eq_true rfl) (by omega) (by omega) (by omega) (r_Evaluator_init (by omega) (by omega) (by omega) f4 (fun g W3 f5 => ⟨_, rfl, ?_⟩))
  refine z_putF rfl (LF_out f5) (Nat.le_of_ble_eq_true rfl) ⟨rfl, rfl⟩ (fun W4 f6 => ?_)
  replace f6 : LF W4 ((v, .inr (C_Main, [.ref p, .ref e, .null])) :: _) := f6
  repeat refine z_i rfl rfl ?_
  refine z_putF rfl f6 (Nat.le_of_ble_eq_true rfl) ⟨rfl, rfl⟩ (fun W5 f7 => ?_)
  replace f7 : LF W5 ((v, .inr (C_Main, [.ref p, .ref e, .null])) :: _) := f7
  refine z_retV rfl (by omega) (by omega) (hQ (c0f e p q g) (G0f g) W5 (CI_0 f7) (LF_hd f7) (LF_sub f7 ?_))
  refine List.Sublist.cons _ (List.Sublist.cons _ ?_)
  refine List.Sublist.trans ?_ (List.sublist_append_right _ _)
  exact List.Sublist.cons _ (List.sublist_cons_self _ _)
end MD
