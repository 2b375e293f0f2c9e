/-! rows of ints: first, sum, same -/
section ZA
variable {dA : Nat → ClassId} {d : Nat} {w : ww_W}
def p_fst (m : Nat) (f : Nat → Int32) : Int32 := if m = 0 then pNA else f 0
theorem nI_z {m : Nat} (hm : m < 2 ^ 31) : nI m = 0 ↔ m = 0 := by
  have h := nI_eq hm (show 0 < 2 ^ 31 by omega)
  rw [nI_0] at h
  exact h
theorem r_first {a m : Nat} {f : Nat → Int32} (ha : w a = some (.inl (dA 0, m, .inl f))) (hm : m < 2 ^ 31) : zpure dA d M_Elements_first 1 [.ref a] w (some (.int (p_fst m f))) := by
  intro Q hq
  refine z_i rfl rfl ?_
  refine z_alen 0 rfl ha rfl ?_
  refine z_b rfl rfl (fun h1 => ?_) (fun h1 => ?_)
  · have h0 : ¬ m = 0 := fun q => h1 ((nI_z hm).mpr q)
    refine z_i rfl rfl ?_
    refine z_i rfl rfl ?_
    refine z_iald (j := 0) rfl ha nI_0.symm (by omega) hm ?_
    refine z_retI rfl (Nat.zero_le _) (Nat.zero_le _) (z_val hq ?_)
    simp [p_fst, h0]
  · have h0 : m = 0 := (nI_z hm).mp (Classical.not_not.mp h1)
    refine z_i rfl rfl ?_
    refine z_j rfl ?_
    refine z_retI rfl (Nat.zero_le _) (Nat.zero_le _) (z_val hq ?_)
    simp [p_fst, h0]
def p_sumL (f : Nat → Int32) : Nat → Nat → Int64 → Int32
  | 0, _, s => p_rng s
  | r + 1, j, s => if f j = pNA then pNA else p_sumL f r (j + 1) (s + (f j).toInt64)
theorem r_sum_loop {a m : Nat} {f : Nat → Int32} (hd : 1 ≤ d) (ha : w a = some (.inl (dA 0, m, .inl f))) (hm : m < 2 ^ 31) (Q : zQ) : ∀ (r j : Nat) (s : Int64) (o6 : Option Value), j + r = m → Q (.inl (some (.int (p_sumL f r j s)))) w 0 0 →
    zx dA d 0 0 M_Elements_sum 11 [some (.ref a), some (.long s), none, some (.ref a), some (.int (nI m)), some (.int (nI j)), o6] [] w 0 0 Q := by
  intro r
  induction r with
  | zero =>
    intro j s o6 hj hq
    refine z_i rfl rfl ?_
    refine z_i rfl rfl ?_
    refine z_bt rfl rfl (nI_le (by omega) (by omega)) ?_
    refine z_i rfl rfl ?_
    refine z_cSp [.long s] [] 0 rfl (r_inRange dA 0 s w) rfl rfl (Nat.le_of_ble_eq_true rfl) (Nat.le_of_ble_eq_true rfl) hd (Nat.zero_le _) (Nat.zero_le _) ?_
    exact z_retI rfl (Nat.zero_le _) (Nat.zero_le _) hq
  | succ r ih =>
    intro j s o6 hj hq
    refine z_i rfl rfl ?_
    refine z_i rfl rfl ?_
    refine z_bf rfl rfl (nI_ge (by omega) (by omega)) ?_
    refine z_i rfl rfl ?_
    refine z_i rfl rfl ?_
    refine z_iald (j := j) rfl ha rfl (by omega) hm ?_
    refine z_i rfl rfl ?_
    refine z_i rfl rfl ?_
    refine z_i rfl rfl ?_
    refine z_b rfl rfl (fun h1 => ?_) (fun h1 => ?_)
    · replace h1 : ¬ f j = pNA := h1
      refine z_i rfl rfl ?_
      refine z_i rfl rfl ?_
      refine z_i rfl rfl ?_
      refine z_i rfl rfl ?_
      refine z_i rfl rfl ?_
      refine z_i rfl rfl ?_
      refine z_j rfl ?_
      have := ih (j + 1) (s + (f j).toInt64) (some (.int (f j))) (by omega) (by simpa [p_sumL, h1] using hq)
      rw [← nI_1] at this
      exact this
    · replace h1 : f j = pNA := Classical.not_not.mp h1
      refine z_i rfl rfl ?_
      refine z_retI rfl (Nat.zero_le _) (Nat.zero_le _) (z_val hq ?_)
      simp [p_sumL, h1]
theorem r_sum {a m : Nat} {f : Nat → Int32} (hd : 1 ≤ d) (ha : w a = some (.inl (dA 0, m, .inl f))) (hm : m < 2 ^ 31) : zpure dA d M_Elements_sum 7 [.ref a] w (some (.int (p_sumL f m 0 0))) := by
  intro Q hq
  refine z_i rfl rfl ?_
  refine z_i rfl rfl ?_
  refine z_i rfl rfl ?_
  refine z_i rfl rfl ?_
  refine z_i rfl rfl ?_
  refine z_alen 0 rfl ha rfl ?_
  refine z_i rfl rfl ?_
  refine z_i rfl rfl ?_
  refine z_i rfl rfl ?_
  exact r_sum_loop hd ha hm Q m 0 0 none (by omega) hq
/-- are two rows the same from j on, r places -/
def p_eqL (f g : Nat → Int32) : Nat → Nat → Int32
  | 0, _ => 1
  | r + 1, j => if f j = g j then p_eqL f g r (j + 1) else 0
def p_same (m n : Nat) (f g : Nat → Int32) : Int32 := if m = n then p_eqL f g m 0 else 0
theorem p_eqL_01 (f g : Nat → Int32) : ∀ r j : Nat, p_eqL f g r j = 0 ∨ p_eqL f g r j = 1
  | 0, _ => Or.inr rfl
  | r + 1, j => by
    unfold p_eqL
    by_cases h : f j = g j
    · rw [if_pos h]; exact p_eqL_01 f g r (j + 1)
    · rw [if_neg h]; exact Or.inl rfl
theorem r_same_loop {a b m : Nat} {f g : Nat → Int32} (ha : w a = some (.inl (dA 0, m, .inl f))) (hb : w b = some (.inl (dA 0, m, .inl g))) (hm : m < 2 ^ 31) (Q : zQ) : ∀ r j : Nat, j + r = m → Q (.inl (some (.int (p_eqL f g r j)))) w 0 0 →
    zx dA d 0 0 M_Elements_same 11 [some (.ref a), some (.ref b), some (.int (nI j))] [] w 0 0 Q := by
  intro r
  induction r with
  | zero =>
    intro j hj hq
    refine z_i rfl rfl ?_
    refine z_i rfl rfl ?_
    refine z_alen 0 rfl ha rfl ?_
    refine z_bt rfl rfl (nI_le (by omega) (by omega)) ?_
    refine z_i rfl rfl ?_
    exact z_retZ rfl (Or.inr rfl) (Nat.zero_le _) (Nat.zero_le _) hq
  | succ r ih =>
    intro j hj hq
    refine z_i rfl rfl ?_
    refine z_i rfl rfl ?_
    refine z_alen 0 rfl ha rfl ?_
    refine z_bf rfl rfl (nI_ge (by omega) (by omega)) ?_
    refine z_i rfl rfl ?_
    refine z_i rfl rfl ?_
    refine z_iald (j := j) rfl ha rfl (by omega) hm ?_
    refine z_i rfl rfl ?_
    refine z_i rfl rfl ?_
    refine z_iald (j := j) rfl hb rfl (by omega) hm ?_
    refine z_b rfl rfl (fun h1 => ?_) (fun h1 => ?_)
    · replace h1 : f j = g j := h1
      refine z_i rfl rfl ?_
      refine z_j rfl ?_
      have := ih (j + 1) (by omega) (by simpa [p_eqL, h1] using hq)
      rw [← nI_1] at this
      exact this
    · replace h1 : ¬ f j = g j := h1
      refine z_i rfl rfl ?_
      refine z_retZ rfl (Or.inl rfl) (Nat.zero_le _) (Nat.zero_le _) (z_val hq ?_)
      simp [p_eqL, h1]
theorem r_same {a b m n : Nat} {f g : Nat → Int32} (ha : w a = some (.inl (dA 0, m, .inl f))) (hb : w b = some (.inl (dA 0, n, .inl g))) (hm : m < 2 ^ 31) (hn : n < 2 ^ 31) : zpure dA d M_Elements_same 3 [.ref a, .ref b] w (some (.int (p_same m n f g))) := by
  intro Q hq
  refine z_i rfl rfl ?_
  refine z_alen 0 rfl ha rfl ?_
  refine z_i rfl rfl ?_
  refine z_alen 0 rfl hb rfl ?_
  refine z_b rfl rfl (fun h1 => ?_) (fun h1 => ?_)
  · have h0 : m = n := (nI_eq hm hn).mp h1
    subst h0
    refine z_i rfl rfl ?_
    refine z_i rfl rfl ?_
    exact r_same_loop ha hb hm Q m 0 (by omega) (by simpa [p_same] using hq)
  · have h0 : ¬ m = n := fun q => h1 (by rw [q])
    refine z_i rfl rfl ?_
    refine z_retZ rfl (Or.inl rfl) (Nat.zero_le _) (Nat.zero_le _) (z_val hq ?_)
    simp [p_same, h0]
end ZA
