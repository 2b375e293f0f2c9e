/-! calls whose end is what comes after; the class's methods that make vectors -/
def zcont (dA : Nat → ClassId) (d K N μ pc : Nat) (L : zV) (rest : List Value) (k n : Nat) (Q : zQ) : zQ := fun r w' k' n' => ∃ v : Option Value, r = .inl v ∧ zx dA d K N μ pc L (v.toList ++ rest) w' (k + k') (n + n') Q
section ZK
variable {dA : Nat → ClassId} {d K N μ pc : Nat} {L : zV} {st : List Value} {w : ww_W} {k n : Nat} {Q : zQ}
theorem z_cSk {nL' μ' na : Nat} (As rest : List Value) (d' K' N' : Nat) (h : zT dA μ pc = some (zcS nL' μ' na)) (hs : st = As.reverse ++ rest) (hn : As.length = na) (hl : (lg_sl As).length ≤ nL') (hr : (rest.map fun v => v.category).sum ≤ 8) (h1 : d' + 1 ≤ d) (h2 : k + K' ≤ K) (h3 : n + N' ≤ N) (hc : zx dA d' K' N' μ' 0 (zargs nL' As) [] w 0 0 (zcont dA d K N μ (pc + 3) L rest k n Q)) : zx dA d K N μ pc L st w k n Q :=
  z_cS As rest d' K' N' _ h hs hn hl hr h1 h2 h3 hc (fun _ _ _ _ q => by obtain ⟨_, q, _⟩ := q; cases q) (fun v w' k' n' q => by obtain ⟨v', q1, q2⟩ := q; cases q1; exact q2)
theorem z_cIk {nL' μ' na b : Nat} (As rest : List Value) (d' K' N' : Nat) (h : zT dA μ pc = some (zcI nL' μ' na)) (hs : st = As.reverse ++ .ref b :: rest) (hn : As.length = na) (hl : (lg_sl (.ref b :: As)).length ≤ nL') (hr : (rest.map fun v => v.category).sum ≤ 8) (h1 : d' + 1 ≤ d) (h2 : k + K' ≤ K) (h3 : n + N' ≤ N) (hc : zx dA d' K' N' μ' 0 (zargs nL' (.ref b :: As)) [] w 0 0 (zcont dA d K N μ (pc + 3) L rest k n Q)) : zx dA d K N μ pc L st w k n Q :=
  z_cI As rest d' K' N' _ h hs hn hl hr h1 h2 h3 hc (fun _ _ _ _ q => by obtain ⟨_, q, _⟩ := q; cases q) (fun v w' k' n' q => by obtain ⟨v', q1, q2⟩ := q; cases q1; exact q2)
theorem z_cVk {nL' μ' na ci b : Nat} {fs : List Value} (As rest : List Value) (d' K' N' : Nat) (h : zT dA μ pc = some (zcV nL' μ' na ci)) (hb : w b = some (.inr (ci, fs))) (hs : st = As.reverse ++ .ref b :: rest) (hn : As.length = na) (hl : (lg_sl (.ref b :: As)).length ≤ nL') (hr : (rest.map fun v => v.category).sum ≤ 8) (h1 : d' + 1 ≤ d) (h2 : k + K' ≤ K) (h3 : n + N' ≤ N) (hc : zx dA d' K' N' μ' 0 (zargs nL' (.ref b :: As)) [] w 0 0 (zcont dA d K N μ (pc + 3) L rest k n Q)) : zx dA d K N μ pc L st w k n Q :=
  z_cV As rest d' K' N' _ h hb hs hn hl hr h1 h2 h3 hc (fun _ _ _ _ q => by obtain ⟨_, q, _⟩ := q; cases q) (fun v w' k' n' q => by obtain ⟨v', q1, q2⟩ := q; cases q1; exact q2)
theorem z_clone {a m : Nat} {f : Nat → Int32} {r : List Value} (h : zT dA μ pc = some (zclone (ztys dA))) (ha : w a = some (.inl (dA 0, m, .inl f))) (hr : (r.map fun v => v.category).sum ≤ 8) (hd : 1 ≤ d) (h1 : k + 1 ≤ K) (h2 : n + m ≤ N) (kk : ∀ q : Nat, w q = none → zx dA d K N μ (pc + 3) L (.ref q :: r) (va_up w q (some (.inl (dA 0, m, .inl f)))) (k + 1) (n + m) Q) : zx dA d K N μ pc L (.ref a :: r) w k n Q :=
  zstp h ⟨a, r, 0, dA 0, m, f, rfl, hr, hd, rfl, ha, h1, h2, kk⟩
theorem z_copy {a a0 sp dp j n0 n1 : Nat} {i0 i1 i2 : Int32} {f g : Nat → Int32} {r : List Value} (h : zT dA μ pc = some (zcopy (ztys dA))) (ha0 : w a0 = some (.inl (dA 0, n0, .inl f))) (ha : w a = some (.inl (dA 0, n1, .inl g))) (hi0 : i0 = nI sp) (hi1 : i1 = nI dp) (hi2 : i2 = nI j) (hr : (r.map fun v => v.category).sum ≤ 8) (hd : 1 ≤ d) (h1 : sp + j ≤ n0) (h2 : dp + j ≤ n1) (h3 : n0 < 2 ^ 31) (h4 : n1 < 2 ^ 31) (kk : zx dA d K N μ (pc + 3) L r (va_up w a (some (.inl (dA 0, n1, .inl (va_cpy f g sp dp j))))) k n Q) : zx dA d K N μ pc L (.int i2 :: .int i1 :: .ref a :: .int i0 :: .ref a0 :: r) w k n Q :=
  zstp h ⟨a, a0, sp, dp, j, r, 0, dA 0, n0, n1, f, g, by rw [hi0, hi1, hi2], hr, hd, rfl, ha0, ha, h1, h2, h3, h4, kk⟩
theorem z_castI {a : Nat} {x : vp_A} {r : List Value} (h : zT dA μ pc = some (zcastI (ztys dA))) (ha : w a = some (.inl (dA 0, x))) (kk : zx dA d K N μ (pc + 3) L (.ref a :: r) w k n Q) : zx dA d K N μ pc L (.ref a :: r) w k n Q :=
  zstp h ⟨a, r, 0, dA 0, x, rfl, rfl, ha, kk⟩
end ZK
section ZW
variable {dA : Nat → ClassId} {d K N : Nat} {w : ww_W} {Q : zQ}
theorem z_ne {w : ww_W} {a b : Nat} {x y : va_E} (ha : w a = some x) (hb : w b = some y) (h : x ≠ y) : a ≠ b := fun e => by subst e; rw [ha] at hb; exact h (Option.some.inj hb)
theorem p_max_nI {a b : Nat} (ha : a < 2 ^ 31) (hb : b < 2 ^ 31) : p_max (nI a) (nI b) = nI (max a b) := by
  unfold p_max
  by_cases h : a < b
  · rw [if_pos (nI_lt h hb), Nat.max_eq_right (by omega)]
  · rw [if_neg (nI_nlt (by omega) ha), Nat.max_eq_left (by omega)]
theorem p_min_nI {a b : Nat} (ha : a < 2 ^ 31) (hb : b < 2 ^ 31) : p_min (nI a) (nI b) = nI (min a b) := by
  unfold p_min
  by_cases h : b < a
  · rw [if_pos (nI_lt h ha), Nat.min_eq_right (by omega)]
  · rw [if_neg (nI_nlt (by omega) hb), Nat.min_eq_left (by omega)]
/-- fail(n): no value, and the number is kept -/
theorem r_fail {e : Nat} {fs : List Value} {x : Int32} (he : w e = some (.inr (C_Evaluator, fs))) (hl : fs.length = 13) (hq : Q (.inl (some .null)) (va_up w e (some (.inr (C_Evaluator, fs.set 5 (.int x))))) 0 0) : zx dA d K N M_Evaluator_fail 0 (zargs 2 [.ref e, .int x]) [] w 0 0 Q := by
  repeat refine z_i rfl rfl ?_
  refine z_put rfl he (by rw [hl]; decide) ⟨rfl, rfl⟩ ?_
  repeat refine z_i rfl rfl ?_
  exact z_retA rfl rfl (Nat.zero_le _) (Nat.zero_le _) hq
theorem r_truth {e a0 a1 : Nat} {fs : List Value} {x : Int32} (he : w e = some (.inr (C_Evaluator, fs))) (h1 : fs[12]? = some (.ref a1)) (h0 : fs[11]? = some (.ref a0)) (hq : Q (.inl (some (.ref (if x = 0 then a0 else a1)))) w 0 0) : zx dA d K N M_Evaluator_truth 0 (zargs 2 [.ref e, .int x]) [] w 0 0 Q := by
  repeat refine z_i rfl rfl ?_
  refine z_b rfl rfl (fun h => ?_) (fun h => ?_)
  · repeat refine z_i rfl rfl ?_
    refine z_get rfl he h0 ?_
    refine z_retA rfl rfl (Nat.zero_le _) (Nat.zero_le _) ?_
    rw [if_pos h] at hq
    exact hq
  · repeat refine z_i rfl rfl ?_
    refine z_get rfl he h1 ?_
    refine z_j rfl ?_
    refine z_retA rfl rfl (Nat.zero_le _) (Nat.zero_le _) ?_
    rw [if_neg h] at hq
    exact hq
def p_rai (x : Int32) : Int32 := if x < 0 then 100 else if 100 ≤ x then 100 else 100 + x
theorem r_raise {e : Nat} {fs : List Value} {x : Int32} (hd : 1 ≤ d) (he : w e = some (.inr (C_Evaluator, fs))) (hl : fs.length = 13) (hq : Q (.inl (some .null)) (va_up w e (some (.inr (C_Evaluator, fs.set 5 (.int (p_rai x)))))) 0 0) : zx dA d K N M_Evaluator_raise 0 (zargs 2 [.ref e, .int x]) [] w 0 0 Q := by
  repeat refine z_i rfl rfl ?_
  refine z_b rfl rfl (fun h => ?_) (fun h => ?_)
  · repeat refine z_i rfl rfl ?_
    replace h : x < 0 := h
    rw [p_rai, if_pos h] at hq
    refine z_cVk [.int 100] [] 0 0 0 rfl he rfl rfl (Nat.le_of_ble_eq_true rfl) (Nat.le_of_ble_eq_true rfl) (by omega) (by omega) (by omega) (r_fail he hl ⟨_, rfl, ?_⟩)
    exact z_retA rfl rfl (Nat.zero_le _) (Nat.zero_le _) hq
  · repeat refine z_i rfl rfl ?_
    replace h : ¬ x < 0 := h
    refine z_b rfl rfl (fun h1 => ?_) (fun h1 => ?_)
    · repeat refine z_i rfl rfl ?_
      replace h1 : 100 ≤ x := h1
      rw [p_rai, if_neg h, if_pos h1] at hq
      refine z_cVk [.int 100] [] 0 0 0 rfl he rfl rfl (Nat.le_of_ble_eq_true rfl) (Nat.le_of_ble_eq_true rfl) (by omega) (by omega) (by omega) (r_fail he hl ⟨_, rfl, ?_⟩)
      exact z_retA rfl rfl (Nat.zero_le _) (Nat.zero_le _) hq
    · repeat refine z_i rfl rfl ?_
      refine z_j rfl ?_
      replace h1 : ¬ 100 ≤ x := h1
      rw [p_rai, if_neg h, if_neg h1] at hq
      refine z_cVk [.int (100 + x)] [] 0 0 0 rfl he rfl rfl (Nat.le_of_ble_eq_true rfl) (Nat.le_of_ble_eq_true rfl) (by omega) (by omega) (by omega) (r_fail he hl ⟨_, rfl, ?_⟩)
      exact z_retA rfl rfl (Nat.zero_le _) (Nat.zero_le _) hq
theorem r_pairUp_loop {e x a b q m n : Nat} {f g : Nat → Int32} {kd xa xb xc : Int32} {num : Value} (hd : 4 ≤ d) (hK : 2 ≤ K) (hN : max m n + 1 ≤ N) (hx : w x = some (.inr (C_Expr, [.int kd, .int xa, .int xb, .int xc, num]))) (ha : w a = some (.inl (dA 0, m, .inl f))) (hb : w b = some (.inl (dA 0, n, .inl g))) (hq0 : w q = none) (hm : m < 2 ^ 20) (hn : n < 2 ^ 20) (hm0 : 0 < m) (hn0 : 0 < n) (hQ : zvec dA w (max m n) (fun j => p_pair kd xc (f (j % m)) (g (j % n))) Q 2 (max m n + 1)) : ∀ (r j : Nat) (F : Nat → Int32), j + r = max m n → (∀ i : Nat, i < j → F i = p_pair kd xc (f (i % m)) (g (i % n))) →
    zx dA d K N M_Evaluator_pairUp 29 [some (.ref e), some (.ref x), some (.ref a), some (.ref b), some (.ref q), some (.int (nI j))] [] (va_up w q (some (.inl (dA 0, max m n, .inl F)))) 1 (max m n) Q := by
  intro r
  induction r with
  | zero =>
    intro j F hj hF
    repeat refine z_i rfl rfl ?_
    refine z_alen 0 rfl (va_up_self _ _ _) rfl ?_
    refine z_bt rfl rfl (nI_le (by omega) (by omega)) ?_
    refine z_new rfl (by omega) (by omega) (fun v hv => ?_)
    obtain ⟨hv1, hv2⟩ := zup_none hv
    repeat refine z_i rfl rfl ?_
    refine z_cIk [.ref q] [.ref v] 3 0 0 rfl rfl rfl (Nat.le_of_ble_eq_true rfl) (Nat.le_of_ble_eq_true rfl) (by omega) (by omega) (by omega) (r_Vector_init_a (by omega) (va_up_self _ _ _) _ ⟨_, rfl, ?_⟩)
    rw [bx_uu]
    refine z_retA rfl rfl (by omega) (by omega) ?_
    exact hQ q v F hq0 hv2 hv1 (fun i hi => hF i (by omega))
  | succ r ih =>
    intro j F hj hF
    repeat refine z_i rfl rfl ?_
    refine z_alen 0 rfl (va_up_self _ _ _) rfl ?_
    refine z_bf rfl rfl (nI_ge (by omega) (by omega)) ?_
    repeat refine z_i rfl rfl ?_
    refine z_get rfl (zup_at hq0 hx) rfl ?_
    repeat refine z_i rfl rfl ?_
    refine z_get rfl (zup_at hq0 hx) rfl ?_
    repeat refine z_i rfl rfl ?_
    refine z_alen 0 rfl (zup_at hq0 ha) rfl ?_
    refine z_dv rfl (nI_ne0 hm0 (by omega)) ?_
    refine z_iald (j := j % m) rfl (zup_at hq0 ha) (pk_rem (by omega) hm0 (by omega)) (Nat.mod_lt _ hm0) (by omega) ?_
    repeat refine z_i rfl rfl ?_
    refine z_alen 0 rfl (zup_at hq0 hb) rfl ?_
    refine z_dv rfl (nI_ne0 hn0 (by omega)) ?_
    refine z_iald (j := j % n) rfl (zup_at hq0 hb) (pk_rem (by omega) hn0 (by omega)) (Nat.mod_lt _ hn0) (by omega) ?_
    refine z_cSk [.int kd, .int xc, .int (f (j % m)), .int (g (j % n))] [.int (nI j), .ref q] 3 0 0 rfl rfl rfl (Nat.le_of_ble_eq_true rfl) (Nat.le_of_ble_eq_true rfl) (by omega) (by omega) (by omega) (r_pair dA 3 (by omega) _ _ _ _ _ _ ⟨_, rfl, ?_⟩)
    refine z_iast (j := j) rfl (va_up_self _ _ _) rfl (by omega) (by omega) ?_
    rw [bx_uu]
    repeat refine z_i rfl rfl ?_
    refine z_j rfl ?_
    have := ih (j + 1) (upd F j (p_pair kd xc (f (j % m)) (g (j % n)))) (by omega) (fun i hi => by
      by_cases h : i = j
      · subst h; exact pk_us
      · rw [pk_un h]; exact hF i (by omega))
    rw [← nI_1] at this
    exact this
theorem r_pairUp {e x a b nul m n : Nat} {f g : Nat → Int32} {kd xa xb xc : Int32} {num : Value} {fs : List Value} (hd : 4 ≤ d) (hK : 2 ≤ K) (hN : max m n + 1 ≤ N) (he : w e = some (.inr (C_Evaluator, fs))) (hf9 : fs[9]? = some (.ref nul)) (hx : w x = some (.inr (C_Expr, [.int kd, .int xa, .int xb, .int xc, num]))) (ha : w a = some (.inl (dA 0, m, .inl f))) (hb : w b = some (.inl (dA 0, n, .inl g))) (hm : m < 2 ^ 20) (hn : n < 2 ^ 20) (h0 : m = 0 ∨ n = 0 → Q (.inl (some (.ref nul))) w 0 0) (hQ : ¬ m = 0 → ¬ n = 0 → zvec dA w (max m n) (fun j => p_pair kd xc (f (j % m)) (g (j % n))) Q 2 (max m n + 1)) : zx dA d K N M_Evaluator_pairUp 0 (zargs 6 [.ref e, .ref x, .ref a, .ref b]) [] w 0 0 Q := by
  repeat refine z_i rfl rfl ?_
  refine z_alen 0 rfl ha rfl ?_
  refine z_b rfl rfl (fun h => ?_) (fun h => ?_)
  · repeat refine z_i rfl rfl ?_
    refine z_get rfl he hf9 ?_
    exact z_retA rfl rfl (Nat.zero_le _) (Nat.zero_le _) (h0 (Or.inl ((nI_z (by omega)).mp h)))
  · repeat refine z_i rfl rfl ?_
    have hm0 : ¬ m = 0 := fun q => h ((nI_z (by omega)).mpr q)
    refine z_alen 0 rfl hb rfl ?_
    refine z_b rfl rfl (fun h1 => ?_) (fun h1 => ?_)
    · repeat refine z_i rfl rfl ?_
      have hn0 : ¬ n = 0 := fun q => h1 ((nI_z (by omega)).mpr q)
      refine z_alen 0 rfl ha rfl ?_
      repeat refine z_i rfl rfl ?_
      refine z_alen 0 rfl hb rfl ?_
      refine z_cSk [.int (nI m), .int (nI n)] [] 0 0 0 rfl rfl rfl (Nat.le_of_ble_eq_true rfl) (Nat.le_of_ble_eq_true rfl) (by omega) (by omega) (by omega) (r_max dA 0 _ _ _ _ ⟨_, rfl, ?_⟩)
      refine z_newi (j := max m n) rfl (p_max_nI (by omega) (by omega)) (by omega) (by omega) (by omega) (fun q hq0 => ?_)
      refine z_i rfl rfl ?_
      refine z_i rfl rfl ?_
      refine z_i rfl rfl ?_
      have := r_pairUp_loop (e := e) hd hK hN hx ha hb hq0 hm hn (by omega) (by omega) (hQ hm0 hn0) (max m n) 0 (fun _ => 0) (by omega) (fun i hi => by omega)
      rw [nI_0] at this
      rw [show 0 + 0 + max m n = max m n by omega]
      exact this
    · repeat refine z_i rfl rfl ?_
      refine z_get rfl he hf9 ?_
      exact z_retA rfl rfl (Nat.zero_le _) (Nat.zero_le _) (h0 (Or.inr ((nI_z (by omega)).mp (Classical.not_not.mp h1))))
/-- a copy of the row a, made c long -/
theorem r_copyOf {a m c : Nat} {i : Int32} {f : Nat → Int32} (hi : i = nI c) (hd : 1 ≤ d) (hK : 1 ≤ K) (hN : c ≤ N) (ha : w a = some (.inl (dA 0, m, .inl f))) (hm : m < 2 ^ 20) (hc : c < 2 ^ 20) (hQ : ∀ (q : Nat) (F : Nat → Int32), w q = none → (∀ j : Nat, j < c → F j = if j < m then f j else 0) → Q (.inl (some (.ref q))) (va_up w q (some (.inl (dA 0, c, .inl F)))) 1 c) : zx dA d K N M_Arrays_copyOf 0 (zargs 3 [.ref a, .int i]) [] w 0 0 Q := by
  subst hi
  repeat refine z_i rfl rfl ?_
  refine z_alen 0 rfl ha rfl ?_
  refine z_b rfl rfl (fun h => ?_) (fun h => ?_)
  · repeat refine z_i rfl rfl ?_
    refine z_newi (j := c) rfl rfl hc (by omega) (by omega) (fun q hq => ?_)
    repeat refine z_i rfl rfl ?_
    refine z_alen 0 rfl (zup_at hq ha) rfl ?_
    repeat refine z_i rfl rfl ?_
    refine z_cSk [.int (nI m), .int (nI c)] [.int 0, .ref q, .int 0, .ref a] 0 0 0 rfl rfl rfl (Nat.le_of_ble_eq_true rfl) (Nat.le_of_ble_eq_true rfl) (by omega) (by omega) (by omega) (r_min dA 0 _ _ _ _ ⟨_, rfl, ?_⟩)
    refine z_copy (sp := 0) (dp := 0) (j := min m c) rfl (zup_at hq ha) (va_up_self _ _ _) nI_0.symm nI_0.symm (p_min_nI (by omega) (by omega)) (Nat.le_of_ble_eq_true rfl) hd (by omega) (by omega) (by omega) (by omega) ?_
    repeat refine z_i rfl rfl ?_
    refine z_retA rfl rfl (by omega) (by omega) ?_
    rw [bx_uu]
    have := hQ q (va_cpy f (fun _ => 0) 0 0 (min m c)) hq (fun j hj => by
      by_cases h1 : j < m
      · rw [if_pos h1, pk_cpy_in (by omega) (by omega)]
        congr 1
        omega
      · rw [if_neg h1, pk_cpy_out (by omega)])
    rw [show 0 + 1 + 0 = 1 from rfl, show 0 + c + 0 = c by omega]
    exact this
  · repeat refine z_i rfl rfl ?_
    have h0 : c = m := (nI_eq (by omega) (by omega)).mp (Classical.not_not.mp h)
    subst h0
    refine z_clone rfl ha (Nat.le_of_ble_eq_true rfl) hd (by omega) (by omega) (fun q hq => ?_)
    refine z_castI rfl (va_up_self _ _ _) ?_
    refine z_retA rfl rfl (by omega) (by omega) ?_
    have := hQ q f hq (fun j hj => by rw [if_pos hj])
    rw [show 0 + c = c by omega]
    exact this
theorem r_join {e a b m n : Nat} {f g : Nat → Int32} {fs : List Value} (hd : 4 ≤ d) (hK : 2 ≤ K) (hN : 17 ≤ N) (he : w e = some (.inr (C_Evaluator, fs))) (hl : fs.length = 13) (ha : w a = some (.inl (dA 0, m, .inl f))) (hb : w b = some (.inl (dA 0, n, .inl g))) (hm : m ≤ 16) (hn : n ≤ 16) (h0 : 16 < m + n → Q (.inl (some .null)) (va_up w e (some (.inr (C_Evaluator, fs.set 5 (.int 1))))) 0 0) (hQ : m + n ≤ 16 → zvec dA w (m + n) (fun j => if j < m then f j else g (j - m)) Q 2 (m + n + 1)) : zx dA d K N M_Evaluator_join 0 (zargs 4 [.ref e, .ref a, .ref b]) [] w 0 0 Q := by
  repeat refine z_i rfl rfl ?_
  refine z_alen 0 rfl ha rfl ?_
  repeat refine z_i rfl rfl ?_
  refine z_alen 0 rfl hb rfl ?_
  repeat refine z_i rfl rfl ?_
  refine z_b rfl rfl (fun h => ?_) (fun h => ?_)
  · have h1 : m + n ≤ 16 := by
      replace h : nI m + nI n ≤ nI 16 := h
      rw [nI_add] at h
      exact (nI_leI (by omega) (by omega)).mp h
    repeat refine z_i rfl rfl ?_
    refine z_alen 0 rfl ha rfl ?_
    repeat refine z_i rfl rfl ?_
    refine z_alen 0 rfl hb rfl ?_
    repeat refine z_i rfl rfl ?_
    refine z_cSk [.ref a, .int (nI m + nI n)] [] 1 1 (m + n) rfl rfl rfl (Nat.le_of_ble_eq_true rfl) (Nat.le_of_ble_eq_true rfl) (by omega) (by omega) (by omega) (r_copyOf (nI_add m n) (by omega) (by omega) (by omega) ha (by omega) (by omega) (fun q F hq hF => ⟨_, rfl, ?_⟩))
    repeat refine z_i rfl rfl ?_
    refine z_alen 0 rfl (zup_at hq ha) rfl ?_
    repeat refine z_i rfl rfl ?_
    refine z_alen 0 rfl (zup_at hq hb) rfl ?_
    refine z_copy (sp := 0) (dp := m) (j := n) rfl (zup_at hq hb) (va_up_self _ _ _) nI_0.symm rfl rfl (Nat.le_of_ble_eq_true rfl) (by omega) (by omega) (by omega) (by omega) (by omega) ?_
    rw [bx_uu]
    refine z_new rfl (by omega) (by omega) (fun v hv => ?_)
    obtain ⟨hv1, hv2⟩ := zup_none hv
    repeat refine z_i rfl rfl ?_
    refine z_cIk [.ref q] [.ref v] 3 0 0 rfl rfl rfl (Nat.le_of_ble_eq_true rfl) (Nat.le_of_ble_eq_true rfl) (by omega) (by omega) (by omega) (r_Vector_init_a (by omega) (va_up_self _ _ _) _ ⟨_, rfl, ?_⟩)
    rw [bx_uu]
    refine z_retA rfl rfl (by omega) (by omega) ?_
    have := hQ h1 q v (va_cpy g F 0 m n) hq hv2 hv1 (fun i hi => by
      show _ = if i < m then f i else g (i - m)
      by_cases h2 : i < m
      · rw [if_pos h2, pk_cpy_out (by omega), hF i (by omega), if_pos h2]
      · rw [if_neg h2, pk_cpy_in (by omega) (by omega)]
        congr 1
        omega)
    rw [show 0 + (m + n) + 1 + 0 = m + n + 1 by omega]
    exact this
  · have h1 : 16 < m + n := by
      replace h : ¬ nI m + nI n ≤ nI 16 := h
      rw [nI_add, nI_leI (by omega) (by omega)] at h
      omega
    repeat refine z_i rfl rfl ?_
    refine z_cVk [.int 1] [] 0 0 0 rfl he rfl rfl (Nat.le_of_ble_eq_true rfl) (Nat.le_of_ble_eq_true rfl) (by omega) (by omega) (by omega) (r_fail he hl ⟨_, rfl, ?_⟩)
    exact z_retA rfl rfl (by omega) (by omega) (h0 h1)
end ZW
