/-! constructors of the class's objects -/
abbrev C_Main : Nat := 0
abbrev C_Program : Nat := 1
abbrev C_Evaluator : Nat := 2
abbrev C_Env : Nat := 3
abbrev C_Places : Nat := 4
abbrev C_Vector : Nat := 5
abbrev C_Expr : Nat := 6
abbrev C_Function : Nat := 7
abbrev C_Arg : Nat := 8
abbrev C_Model : Nat := 9
section ZC
variable {dA : Nat → ClassId} {d : Nat} {w : ww_W}
theorem r_Held_init {a : Nat} (hd : 1 ≤ d) : zpure dA d M_Held_init 1 [.ref a] w none := by
  intro Q hq
  refine z_i rfl rfl ?_
  refine z_obj rfl (Nat.le_of_ble_eq_true rfl) hd ?_
  exact z_retV rfl (Nat.zero_le _) (Nat.zero_le _) hq
theorem r_Value_init {a : Nat} (hd : 2 ≤ d) : zpure dA d M_Value_init 1 [.ref a] w none := by
  intro Q hq
  refine z_i rfl rfl ?_
  refine z_cIp [] [] 1 rfl (r_Held_init (by omega)) rfl rfl (Nat.le_of_ble_eq_true rfl) (Nat.le_of_ble_eq_true rfl) (by omega) (Nat.zero_le _) (Nat.zero_le _) ?_
  exact z_retV rfl (Nat.zero_le _) (Nat.zero_le _) hq
theorem r_Vector_init_a {a b : Nat} {v : Value} (hd : 3 ≤ d) (ha : w a = some (.inr (C_Vector, [v]))) (Q : zQ) (hq : Q (.inl none) (va_up w a (some (.inr (C_Vector, [.ref b])))) 0 0) : zx dA d 0 0 M_Vector_init_a 0 (zargs 2 [.ref a, .ref b]) [] w 0 0 Q := by
  refine z_i rfl rfl ?_
  refine z_cIp [] [] 2 rfl (r_Value_init (by omega)) rfl rfl (Nat.le_of_ble_eq_true rfl) (Nat.le_of_ble_eq_true rfl) (by omega) (Nat.zero_le _) (Nat.zero_le _) ?_
  refine z_i rfl rfl ?_
  refine z_i rfl rfl ?_
  refine z_put rfl ha (Nat.le_of_ble_eq_true rfl) ⟨rfl, rfl⟩ ?_
  exact z_retV rfl (Nat.zero_le _) (Nat.zero_le _) hq
/-- a vector of one element: its row is new -/
theorem r_Vector_init_I {a : Nat} {x : Int32} {v : Value} {K N : Nat} (hd : 3 ≤ d) (hK : 1 ≤ K) (hN : 1 ≤ N) (ha : w a = some (.inr (C_Vector, [v]))) (Q : zQ) (hq : ∀ q : Nat, w q = none → Q (.inl none) (va_up (va_up w q (some (.inl (dA 0, 1, .inl (upd (fun _ => 0) 0 x))))) a (some (.inr (C_Vector, [.ref q])))) 1 1) : zx dA d K N M_Vector_init_I 0 (zargs 2 [.ref a, .int x]) [] w 0 0 Q := by
  refine z_i rfl rfl ?_
  refine z_cIp [] [] 2 rfl (r_Value_init (by omega)) rfl rfl (Nat.le_of_ble_eq_true rfl) (Nat.le_of_ble_eq_true rfl) (by omega) (Nat.zero_le _) (Nat.zero_le _) ?_
  refine z_i rfl rfl ?_
  refine z_i rfl rfl ?_
  refine z_newi (j := 1) rfl rfl (by omega) (by omega) (by omega) (fun q hq0 => ?_)
  have hne : a ≠ q := fun e => by rw [e, hq0] at ha; cases ha
  refine z_put rfl ((va_up_ne _ _ hne).trans ha) (Nat.le_of_ble_eq_true rfl) ⟨rfl, rfl⟩ ?_
  refine z_i rfl rfl ?_
  refine z_get rfl (va_up_self _ _ _) rfl ?_
  refine z_i rfl rfl ?_
  refine z_i rfl rfl ?_
  refine z_iast (j := 0) rfl ((va_up_ne _ _ (Ne.symm hne)).trans (va_up_self _ _ _)) nI_0.symm (by omega) (by omega) ?_
  refine z_retV rfl (by omega) (by omega) ?_
  have e : va_up (va_up (va_up w q (some (.inl (dA 0, 1, .inl (fun _ => 0))))) a (some (.inr (C_Vector, [Value.ref q])))) q (some (.inl (dA 0, 1, .inl (upd (fun _ => 0) 0 x)))) = va_up (va_up w q (some (.inl (dA 0, 1, .inl (upd (fun _ => 0) 0 x))))) a (some (.inr (C_Vector, [.ref q]))) := by
    funext b
    simp only [va_up]
    by_cases h1 : b = q
    · subst h1
      simp [Ne.symm hne]
    · simp [h1]
  have := hq q hq0
  rw [← e] at this
  exact this
theorem r_Function_init {a en : Nat} {b p f : Int32} {f0 f1 f2 f3 : Value} (hd : 3 ≤ d) (ha : w a = some (.inr (C_Function, [f0, f1, f2, f3]))) (Q : zQ) (hq : Q (.inl none) (va_up w a (some (.inr (C_Function, [.int b, .int p, .int f, .ref en])))) 0 0) : zx dA d 0 0 M_Function_init 0 (zargs 5 [.ref a, .int b, .int p, .int f, .ref en]) [] w 0 0 Q := by
  refine z_i rfl rfl ?_
  refine z_cIp [] [] 2 rfl (r_Value_init (by omega)) rfl rfl (Nat.le_of_ble_eq_true rfl) (Nat.le_of_ble_eq_true rfl) (by omega) (Nat.zero_le _) (Nat.zero_le _) ?_
  refine z_i rfl rfl ?_
  refine z_i rfl rfl ?_
  refine z_put rfl ha (Nat.le_of_ble_eq_true rfl) ⟨rfl, rfl⟩ ?_
  refine z_i rfl rfl ?_
  refine z_i rfl rfl ?_
  refine z_put rfl (va_up_self _ _ _) (Nat.le_of_ble_eq_true rfl) ⟨rfl, rfl⟩ ?_
  rw [bx_uu]
  refine z_i rfl rfl ?_
  refine z_i rfl rfl ?_
  refine z_put rfl (va_up_self _ _ _) (Nat.le_of_ble_eq_true rfl) ⟨rfl, rfl⟩ ?_
  rw [bx_uu]
  refine z_i rfl rfl ?_
  refine z_i rfl rfl ?_
  refine z_put rfl (va_up_self _ _ _) (Nat.le_of_ble_eq_true rfl) ⟨rfl, rfl⟩ ?_
  rw [bx_uu]
  exact z_retV rfl (Nat.zero_le _) (Nat.zero_le _) hq
theorem r_Arg_init {a en : Nat} {x : Int32} {f0 f1 f2 f3 : Value} (hd : 2 ≤ d) (ha : w a = some (.inr (C_Arg, [f0, f1, f2, f3]))) (Q : zQ) (hq : Q (.inl none) (va_up w a (some (.inr (C_Arg, [.int x, .ref en, f2, f3])))) 0 0) : zx dA d 0 0 M_Argument_init 0 (zargs 3 [.ref a, .int x, .ref en]) [] w 0 0 Q := by
  refine z_i rfl rfl ?_
  refine z_cIp [] [] 1 rfl (r_Held_init (by omega)) rfl rfl (Nat.le_of_ble_eq_true rfl) (Nat.le_of_ble_eq_true rfl) (by omega) (Nat.zero_le _) (Nat.zero_le _) ?_
  refine z_i rfl rfl ?_
  refine z_i rfl rfl ?_
  refine z_put rfl ha (Nat.le_of_ble_eq_true rfl) ⟨rfl, rfl⟩ ?_
  refine z_i rfl rfl ?_
  refine z_i rfl rfl ?_
  refine z_put rfl (va_up_self _ _ _) (Nat.le_of_ble_eq_true rfl) ⟨rfl, rfl⟩ ?_
  rw [bx_uu]
  exact z_retV rfl (Nat.zero_le _) (Nat.zero_le _) hq
theorem r_Vector_size {a q m : Nat} {f : Nat → Int32} (ha : w a = some (.inr (C_Vector, [.ref q]))) (hr : w q = some (.inl (dA 0, m, .inl f))) : zpure dA d M_Vector_size 1 [.ref a] w (some (.int (nI m))) := by
  intro Q hq
  refine z_i rfl rfl ?_
  refine z_get rfl ha rfl ?_
  refine z_alen 0 rfl hr rfl ?_
  exact z_retI rfl (Nat.zero_le _) (Nat.zero_le _) hq
theorem r_Function_size {a : Nat} : zpure dA d M_Function_size 1 [.ref a] w (some (.int (-1))) := by
  intro Q hq
  refine z_i rfl rfl ?_
  exact z_retI rfl (Nat.zero_le _) (Nat.zero_le _) hq
end ZC
