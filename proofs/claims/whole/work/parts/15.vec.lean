/-! methods that make vectors -/
section ZV
variable {dA : Nat → ClassId} {d K N μ pc : Nat} {L : zV} {st : List Value} {w : ww_W} {k n : Nat} {Q : zQ}
/-- a constructor with one end -/
theorem z_cId {nL' μ' na b : Nat} {w' : ww_W} {k' n' : Nat} (As rest : List Value) (d' K' N' : Nat) (h : zT dA μ pc = some (zcI nL' μ' na)) (hc : ∀ Q' : zQ, Q' (.inl none) w' k' n' → zx dA d' K' N' μ' 0 (zargs nL' (.ref b :: As)) [] w 0 0 Q') (hs : st = As.reverse ++ .ref b :: rest) (hn : As.length = na) (hl : (lg_sl (.ref b :: As)).length ≤ nL') (hr : (rest.map fun v => v.category).sum ≤ 8) (h1 : d' + 1 ≤ d) (h2 : k + K' ≤ K) (h3 : n + N' ≤ N)
    (kk : zx dA d K N μ (pc + 3) L rest w' (k + k') (n + n') Q) : zx dA d K N μ pc L st w k n Q :=
  z_cI As rest d' K' N' (fun r w2 k2 n2 => r = .inl none ∧ w2 = w' ∧ k2 = k' ∧ n2 = n') h hs hn hl hr h1 h2 h3 (hc _ ⟨rfl, rfl, rfl, rfl⟩) (fun _ _ _ _ q => by cases q.1) (fun v' w2 k2 n2 q => by
    obtain ⟨q1, rfl, rfl, rfl⟩ := q
    cases q1
    exact kk)
/-- an instance method with one end -/
theorem z_cVd {nL' μ' na ci b : Nat} {fs : List Value} {v : Option Value} {w' : ww_W} {k' n' : Nat} (As rest : List Value) (d' K' N' : Nat) (h : zT dA μ pc = some (zcV nL' μ' na ci)) (hb : w b = some (.inr (ci, fs))) (hc : ∀ Q' : zQ, Q' (.inl v) w' k' n' → zx dA d' K' N' μ' 0 (zargs nL' (.ref b :: As)) [] w 0 0 Q') (hs : st = As.reverse ++ .ref b :: rest) (hn : As.length = na) (hl : (lg_sl (.ref b :: As)).length ≤ nL') (hr : (rest.map fun v => v.category).sum ≤ 8) (h1 : d' + 1 ≤ d) (h2 : k + K' ≤ K) (h3 : n + N' ≤ N)
    (kk : zx dA d K N μ (pc + 3) L (v.toList ++ rest) w' (k + k') (n + n') Q) : zx dA d K N μ pc L st w k n Q :=
  z_cV As rest d' K' N' (fun r w2 k2 n2 => r = .inl v ∧ w2 = w' ∧ k2 = k' ∧ n2 = n') h hb hs hn hl hr h1 h2 h3 (hc _ ⟨rfl, rfl, rfl, rfl⟩) (fun _ _ _ _ q => by cases q.1) (fun v' w2 k2 n2 q => by
    obtain ⟨q1, rfl, rfl, rfl⟩ := q
    cases q1
    exact kk)
/-- the end Q allows: a new vector v with a new row q of m elements g -/
def zvec (dA : Nat → ClassId) (w : ww_W) (m : Nat) (g : Nat → Int32) (Q : zQ) (k n : Nat) : Prop :=
  ∀ (q v : Nat) (f : Nat → Int32), w q = none → w v = none → v ≠ q → (∀ j : Nat, j < m → f j = g j) → Q (.inl (some (.ref v))) (va_up (va_up w q (some (.inl (dA 0, m, .inl f)))) v (some (.inr (C_Vector, [.ref q])))) k n
theorem zup_none {w : ww_W} {q v : Nat} {e : va_E} (h : va_up w q (some e) v = none) : v ≠ q ∧ w v = none := by
  by_cases hv : v = q
  · subst hv
    rw [va_up_self] at h
    cases h
  · rw [va_up_ne _ _ hv] at h
    exact ⟨hv, h⟩
theorem zup_at {w : ww_W} {q a : Nat} {e x : va_E} (hq : w q = none) (ha : w a = some x) : va_up w q (some e) a = some x := by
  have hne : a ≠ q := fun h => by rw [h, hq] at ha; cases ha
  rw [va_up_ne _ _ hne]
  exact ha
theorem r_negate_loop {ev a q m : Nat} {f : Nat → Int32} (hd : 4 ≤ d) (hK : 2 ≤ K) (hN : m + 1 ≤ N) (ha : w a = some (.inl (dA 0, m, .inl f))) (hq0 : w q = none) (hm : m < 2 ^ 20) (hQ : zvec dA w m (fun j => p_not (f j)) Q 2 (m + 1)) : ∀ (r j : Nat) (F : Nat → Int32), j + r = m → (∀ i : Nat, i < j → F i = p_not (f i)) →
    zx dA d K N M_Evaluator_negate 7 [some (.ref ev), some (.ref a), some (.ref q), some (.int (nI j))] [] (va_up w q (some (.inl (dA 0, m, .inl F)))) 1 m Q := by
  intro r
  induction r with
  | zero =>
    intro j F hj hF
    refine z_i rfl rfl ?_
    refine z_i rfl rfl ?_
    refine z_alen 0 rfl (va_up_self _ _ _) rfl ?_
    refine z_bt rfl rfl (nI_le (by omega) (by omega)) ?_
    refine z_new rfl (by omega) (by omega) (fun v hv => ?_)
    obtain ⟨hv1, hv2⟩ := zup_none hv
    refine z_i rfl rfl ?_
    refine z_i rfl rfl ?_
    refine z_cId [.ref q] [.ref v] 3 0 0 rfl (fun Q' hQ' => r_Vector_init_a (by omega) (va_up_self _ _ _) Q' hQ') rfl rfl (Nat.le_of_ble_eq_true rfl) (Nat.le_of_ble_eq_true rfl) (by omega) (by omega) (by omega) ?_
    rw [bx_uu]
    refine z_retA rfl rfl (by omega) (by omega) ?_
    exact hQ q v F hq0 hv2 hv1 (fun i hi => hF i (by omega))
  | succ r ih =>
    intro j F hj hF
    refine z_i rfl rfl ?_
    refine z_i rfl rfl ?_
    refine z_alen 0 rfl (va_up_self _ _ _) rfl ?_
    refine z_bf rfl rfl (nI_ge (by omega) (by omega)) ?_
    refine z_i rfl rfl ?_
    refine z_i rfl rfl ?_
    refine z_i rfl rfl ?_
    refine z_i rfl rfl ?_
    refine z_iald (j := j) rfl (zup_at hq0 ha) rfl (by omega) (by omega) ?_
    refine z_cSp [.int (f j)] [.int (nI j), .ref q] 0 rfl (r_not dA 0 (f j) _) rfl rfl (Nat.le_of_ble_eq_true rfl) (Nat.le_of_ble_eq_true rfl) (by omega) (by omega) (by omega) ?_
    refine z_iast (j := j) rfl (va_up_self _ _ _) rfl (by omega) (by omega) ?_
    rw [bx_uu]
    refine z_i rfl rfl ?_
    refine z_j rfl ?_
    have := ih (j + 1) (upd F j (p_not (f j))) (by omega) (fun i hi => by
      by_cases h : i = j
      · subst h; exact pk_us
      · rw [pk_un h]; exact hF i (by omega))
    rw [← nI_1] at this
    exact this
theorem r_negate {ev a m : Nat} {f : Nat → Int32} (hd : 4 ≤ d) (hK : 2 ≤ K) (hN : m + 1 ≤ N) (ha : w a = some (.inl (dA 0, m, .inl f))) (hm : m < 2 ^ 20) (hQ : zvec dA w m (fun j => p_not (f j)) Q 2 (m + 1)) : zx dA d K N M_Evaluator_negate 0 (zargs 4 [.ref ev, .ref a]) [] w 0 0 Q := by
  refine z_i rfl rfl ?_
  refine z_alen 0 rfl ha rfl ?_
  refine z_newi (j := m) rfl rfl hm (by omega) (by omega) (fun q hq0 => ?_)
  refine z_i rfl rfl ?_
  refine z_i rfl rfl ?_
  refine z_i rfl rfl ?_
  have := r_negate_loop (ev := ev) hd hK hN ha hq0 hm hQ m 0 (fun _ => 0) (by omega) (fun i hi => by omega)
  rw [nI_0] at this
  rw [Nat.zero_add, Nat.zero_add]
  exact this
end ZV
