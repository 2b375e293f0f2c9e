/-! the reference's table of values: mark, sweep, fresh -/
def jZ (S : mm) (U : Nat → Int32) : mm := (S.1, S.2.1, S.2.2.1, va_up S.2.2.2 8 U)
theorem jZ_A {S : mm} {U : Nat → Int32} {j : Nat} {x : Int32} : jA (jZ S U) 8 j x = jZ S (upd U j x) := by
  show (S.1, S.2.1, S.2.2.1, va_up (va_up S.2.2.2 8 U) 8 (upd (va_up S.2.2.2 8 U 8) j x)) = _
  rw [va_up_self, bx_uu]
  rfl
theorem jZ_self {S : mm} : jZ S (S.2.2.2 8) = S := by
  have : va_up S.2.2.2 8 (S.2.2.2 8) = S.2.2.2 := by
    funext k
    by_cases h : k = 8
    · subst h; exact va_up_self _ _ _
    · exact va_up_ne _ _ h
  show (S.1, S.2.1, S.2.2.1, va_up S.2.2.2 8 (S.2.2.2 8)) = S
  rw [this]
theorem jI_I {S : mm} {k : Nat} {x y : Int32} : jI (jI S k x) k y = jI S k y := by
  show (va_up (va_up S.1 k x) k y, S.2) = _
  rw [bx_uu]
  rfl
theorem jI_self {S : mm} {k : Nat} {x : Int32} (h : S.1 k = x) : jI S k x = S := by
  have : va_up S.1 k x = S.1 := by
    funext j
    by_cases hj : j = k
    · subst hj; rw [va_up_self, h]
    · exact va_up_ne _ _ hj
  show (va_up S.1 k x, S.2) = S
  rw [this]
def mkU (U : Nat → Int32) (y : Int32) : Nat → Int32 := if y = -1 then U else upd U (tN y) 1
def okN (y : Int32) : Prop := y = -1 ∨ ∃ j : Nat, j < 1000 ∧ y = nI j
theorem nI_n1 {j : Nat} (h : j < 2 ^ 31) : ¬ nI j = -1 := fun q => nI_pos h (by rw [q]; decide)
theorem mkU_1 {U : Nat → Int32} {y : Int32} {j : Nat} (h : U j = 1) : mkU U y j = 1 := by
  unfold mkU
  split
  · exact h
  · by_cases hj : j = tN y
    · subst hj; exact pk_us
    · rw [pk_un hj]; exact h
theorem mkU_at {U : Nat → Int32} {j : Nat} (hj : j < 1000) : mkU U (nI j) j = 1 := by
  unfold mkU tN
  rw [if_neg (nI_n1 (by omega)), nI_clamp (by omega)]
  exact pk_us
def cov (U : Nat → Int32) (m : Nat) : Prop := ∃ l : List Nat, l.length ≤ m ∧ ∀ j : Nat, 1 ≤ j → j < 1000 → U j ≠ 0 → j ∈ l
theorem mkU_cov {U : Nat → Int32} {y : Int32} {m : Nat} (h : cov U m) : cov (mkU U y) (m + if y = -1 then 0 else 1) := by
  obtain ⟨l, h1, h2⟩ := h
  unfold mkU
  split
  · exact ⟨l, h1, h2⟩
  · refine ⟨tN y :: l, by simp; omega, fun j h3 h4 h5 => ?_⟩
    by_cases hj : j = tN y
    · rw [hj]; exact List.mem_cons_self
    · rw [pk_un hj] at h5
      exact List.mem_cons_of_mem _ (h2 j h3 h4 h5)
theorem cov_le {U : Nat → Int32} {m m' : Nat} (h : cov U m) (hm : m ≤ m') : cov U m' := by
  obtain ⟨l, h1, h2⟩ := h
  exact ⟨l, by omega, h2⟩
theorem hole : ∀ (n : Nat) (l : List Nat), l.length < n → ∃ j : Nat, j < n ∧ j ∉ l
  | 0, l, h => by omega
  | n + 1, l, h => by
    by_cases hn : n ∈ l
    · have h1 : (l.filter (fun j => decide (j ≠ n))).length < l.length := List.length_filter_lt_length_iff_exists.mpr ⟨n, hn, by simp⟩
      obtain ⟨j, h2, h3⟩ := hole n (l.filter (fun j => decide (j ≠ n))) (by omega)
      exact ⟨j, by omega, fun q => h3 (List.mem_filter.mpr ⟨q, by simp; omega⟩)⟩
    · exact ⟨n, by omega, hn⟩
theorem cov_hole {U : Nat → Int32} {m : Nat} (h : cov U m) (hm : m < 999) : ∃ j : Nat, 1 ≤ j ∧ j < 1000 ∧ U j = 0 := by
  obtain ⟨l, h1, h2⟩ := h
  obtain ⟨j, h3, h4⟩ := hole 999 (l.map (fun j => j - 1)) (by simp; omega)
  refine ⟨j + 1, by omega, by omega, Classical.byContradiction fun q => ?_⟩
  have := h2 (j + 1) (by omega) (by omega) q
  exact h4 (List.mem_map.mpr ⟨j + 1, this, by simp⟩)
section MF
variable {dA : Nat → ClassId} {b : Nat → Nat} {w : ww_W} {S : mm} {d : Nat} {Q : zQ} {U U0 : Nat → Int32}
theorem r_mark (hb : mB b) {y : Int32} (hy : okN y) (hq : Q (.inl none) (mw dA b w (jZ S (mkU U y))) 0 0) : zx dA d 0 0 M_VectorLanguageModel_mark 0 (zargs 2 [.ref (b 0), .int y]) [] (mw dA b w (jZ S U)) 0 0 Q := by
  repeat first | refine z_i rfl rfl ?_ | refine m_gt hb rfl rfl ?_
  rcases hy with rfl | ⟨j, hj, rfl⟩
  · refine z_bt rfl rfl (show (-1 : Int32) < 0 by decide) ?_
    refine z_retV rfl (Nat.zero_le _) (Nat.zero_le _) ?_
    exact hq
  · refine z_bf rfl rfl (show ¬ nI j < 0 from nI_pos (by omega)) ?_
    repeat first | refine z_i rfl rfl ?_ | refine m_gt hb rfl rfl ?_
    refine m_zst hb (j := j) rfl (Or.inr rfl) rfl hj ?_
    refine z_retV rfl (Nat.zero_le _) (Nat.zero_le _) ?_
    rw [jZ_A]
    have : mkU U (nI j) = upd U j 1 := by
      unfold mkU tN
      rw [if_neg (nI_n1 (by omega)), nI_clamp (by omega)]
    rw [← this]
    exact hq
theorem r_sweep1 (hb : mB b) (hQ : ∀ (U : Nat → Int32) (v : Option Value), U 0 = 1 → (∀ j : Nat, 1 ≤ j → j < 1000 → U j = 0) → zx dA d 0 0 M_VectorLanguageModel_sweep 22 [some (.ref (b 0)), v] [] (mw dA b w (jZ S U)) 0 0 Q) : ∀ (r v : Nat) (U : Nat → Int32), v + r = 1000 → 1 ≤ v → U 0 = 1 → (∀ j : Nat, 1 ≤ j → j < v → U j = 0) →
    zx dA d 0 0 M_VectorLanguageModel_sweep 2 [some (.ref (b 0)), some (.int (nI v))] [] (mw dA b w (jZ S U)) 0 0 Q := by
  intro r
  induction r with
  | zero =>
    intro v U hv h1 h0 hU
    refine z_i rfl rfl ?_
    refine z_i rfl rfl ?_
    refine z_bt rfl rfl (show nI 1000 ≤ nI v from nI_le (by omega) (by omega)) ?_
    exact hQ U _ h0 (fun j q1 q2 => hU j q1 (by omega))
  | succ r ih =>
    intro v U hv h1 h0 hU
    refine z_i rfl rfl ?_
    refine z_i rfl rfl ?_
    refine z_bf rfl rfl (show ¬ nI 1000 ≤ nI v from nI_ge (by omega) (by omega)) ?_
    repeat first | refine z_i rfl rfl ?_ | refine m_gt hb rfl rfl ?_
    refine m_zst hb (j := v) rfl (Or.inl rfl) rfl (by omega) ?_
    rw [jZ_A]
    refine z_i rfl rfl ?_
    refine z_j rfl ?_
    have := ih (v + 1) (upd U v 0) (by omega) (by omega) (by rw [pk_un (by omega)]; exact h0) (fun j q1 q2 => by
      by_cases hj : j = v
      · subst hj; exact pk_us
      · rw [pk_un hj]; exact hU j q1 (by omega))
    rw [← nI_1] at this
    exact this
theorem r_sweep2 (hb : mB b) (hd : 1 ≤ d) (hv : ∀ k : Nat, k < 910 → (S.2.2.2 15 k = 1 ∨ S.2.2.2 15 k = 4) → okN (S.2.2.2 16 k))
    (hQ : ∀ (U : Nat → Int32) (v : Option Value), U 0 = 1 → cov U 910 → (∀ k j : Nat, k < 910 → (S.2.2.2 15 k = 1 ∨ S.2.2.2 15 k = 4) → S.2.2.2 16 k = nI j → j < 1000 → U j = 1) → zx dA d 0 0 M_VectorLanguageModel_sweep 67 [some (.ref (b 0)), v] [] (mw dA b w (jZ S U)) 0 0 Q) : ∀ (r k : Nat) (U : Nat → Int32), k + r = 910 → U 0 = 1 → cov U k → (∀ k' j : Nat, k' < k → (S.2.2.2 15 k' = 1 ∨ S.2.2.2 15 k' = 4) → S.2.2.2 16 k' = nI j → j < 1000 → U j = 1) →
    zx dA d 0 0 M_VectorLanguageModel_sweep 24 [some (.ref (b 0)), some (.int (nI k))] [] (mw dA b w (jZ S U)) 0 0 Q := by
  intro r
  induction r with
  | zero =>
    intro k U hk h0 hc hU
    refine z_i rfl rfl ?_
    refine z_i rfl rfl ?_
    refine z_bt rfl rfl (show nI 910 ≤ nI k from nI_le (by omega) (by omega)) ?_
    exact hQ U _ h0 (cov_le hc (by omega)) (fun k' j q1 => hU k' j (by omega))
  | succ r ih =>
    intro k U hk h0 hc hU
    have hmark : (S.2.2.2 15 k = 1 ∨ S.2.2.2 15 k = 4) → zx dA d 0 0 M_VectorLanguageModel_sweep 51 [some (.ref (b 0)), some (.int (nI k))] [] (mw dA b w (jZ S U)) 0 0 Q := by
      intro hh
      repeat first | refine z_i rfl rfl ?_ | refine m_gt hb rfl rfl ?_
      refine m_ld hb (j := k) rfl rfl rfl (show k < 910 by omega) ?_
      refine z_cVk [.int (S.2.2.2 16 k)] [] 0 0 0 rfl (m_obj hb) rfl rfl (Nat.le_of_ble_eq_true rfl) (Nat.le_of_ble_eq_true rfl) (by omega) (by omega) (by omega) (r_mark hb (hv k (by omega) hh) ⟨_, rfl, ?_⟩)
      refine z_i rfl rfl ?_
      refine z_j rfl ?_
      have := ih (k + 1) (mkU U (S.2.2.2 16 k)) (by omega) (mkU_1 h0) (cov_le (mkU_cov hc) (by split <;> omega)) (fun k' j q1 q2 q3 q4 => by
        by_cases hk' : k' = k
        · subst hk'; rw [q3]; exact mkU_at q4
        · exact mkU_1 (hU k' j (by omega) q2 q3 q4))
      rw [← nI_1] at this
      exact this
    refine z_i rfl rfl ?_
    refine z_i rfl rfl ?_
    refine z_bf rfl rfl (show ¬ nI 910 ≤ nI k from nI_ge (by omega) (by omega)) ?_
    repeat first | refine z_i rfl rfl ?_ | refine m_gt hb rfl rfl ?_
    refine m_ld hb (j := k) rfl rfl rfl (show k < 910 by omega) ?_
    repeat first | refine z_i rfl rfl ?_ | refine m_gt hb rfl rfl ?_
    refine z_b rfl rfl (fun h => hmark (Or.inl h)) (fun h => ?_)
    repeat first | refine z_i rfl rfl ?_ | refine m_gt hb rfl rfl ?_
    refine m_ld hb (j := k) rfl rfl rfl (show k < 910 by omega) ?_
    repeat first | refine z_i rfl rfl ?_ | refine m_gt hb rfl rfl ?_
    refine z_b rfl rfl (fun h2 => ?_) (fun h2 => hmark (Or.inr (Classical.not_not.mp h2)))
    refine z_i rfl rfl ?_
    refine z_j rfl ?_
    have := ih (k + 1) U (by omega) h0 (cov_le hc (by omega)) (fun k' j q1 q2 q3 q4 => by
      by_cases hk' : k' = k
      · subst hk'; exact absurd q2 (fun q => q.elim h h2)
      · exact hU k' j (by omega) q2 q3 q4)
    rw [← nI_1] at this
    exact this
/-- how many of a frame's numbers are none -/
def nvc (S : mm) (k p : Nat) : Nat := if S.2.2.2 k p = -1 then 0 else 1
def nvC (S : mm) : Nat → Nat
  | 0 => 0
  | p + 1 => nvC S p + nvc S 22 p + nvc S 23 p + nvc S 24 p
theorem r_sweep3 (hb : mB b) (hd : 1 ≤ d) {t : Nat} (ht : S.1 25 = nI t) (ht2 : t < 450) (hv : ∀ p : Nat, p < t → ∀ k : Nat, k = 22 ∨ k = 23 ∨ k = 24 → okN (S.2.2.2 k p))
    (hQ : ∀ (U : Nat → Int32) (v : Option Value), U 0 = 1 → cov U (910 + nvC S t) → (∀ j : Nat, U0 j = 1 → U j = 1) → (∀ p : Nat, p < t → ∀ k : Nat, k = 22 ∨ k = 23 ∨ k = 24 → ∀ j : Nat, S.2.2.2 k p = nI j → j < 1000 → U j = 1) → zx dA d 0 0 M_VectorLanguageModel_sweep 113 [some (.ref (b 0)), v] [] (mw dA b w (jZ S U)) 0 0 Q) : ∀ (r p : Nat) (U : Nat → Int32), p + r = t → U 0 = 1 → cov U (910 + nvC S p) → (∀ j : Nat, U0 j = 1 → U j = 1) → (∀ p' : Nat, p' < p → ∀ k : Nat, k = 22 ∨ k = 23 ∨ k = 24 → ∀ j : Nat, S.2.2.2 k p' = nI j → j < 1000 → U j = 1) →
    zx dA d 0 0 M_VectorLanguageModel_sweep 69 [some (.ref (b 0)), some (.int (nI p))] [] (mw dA b w (jZ S U)) 0 0 Q := by
  intro r
  induction r with
  | zero =>
    intro p U hp h0 hc hg hU
    repeat first | refine z_i rfl rfl ?_ | refine m_gt hb rfl rfl ?_
    refine z_bt rfl rfl (show S.1 25 ≤ nI p by rw [ht]; exact nI_le (by omega) (by omega)) ?_
    have hpt : p = t := by omega
    subst hpt
    exact hQ U _ h0 hc hg hU
  | succ r ih =>
    intro p U hp h0 hc hg hU
    repeat first | refine z_i rfl rfl ?_ | refine m_gt hb rfl rfl ?_
    refine z_bf rfl rfl (show ¬ S.1 25 ≤ nI p by rw [ht]; exact nI_ge (by omega) (by omega)) ?_
    repeat first | refine z_i rfl rfl ?_ | refine m_gt hb rfl rfl ?_
    refine m_ld hb (j := p) rfl rfl rfl (show p < 450 by omega) ?_
    refine z_cVk [.int (S.2.2.2 22 p)] [] 0 0 0 rfl (m_obj hb) rfl rfl (Nat.le_of_ble_eq_true rfl) (Nat.le_of_ble_eq_true rfl) (by omega) (by omega) (by omega) (r_mark hb (hv p (by omega) 22 (by simp)) ⟨_, rfl, ?_⟩)
    repeat first | refine z_i rfl rfl ?_ | refine m_gt hb rfl rfl ?_
    refine m_ld hb (j := p) rfl rfl rfl (show p < 450 by omega) ?_
    refine z_cVk [.int (S.2.2.2 23 p)] [] 0 0 0 rfl (m_obj hb) rfl rfl (Nat.le_of_ble_eq_true rfl) (Nat.le_of_ble_eq_true rfl) (by omega) (by omega) (by omega) (r_mark hb (hv p (by omega) 23 (by simp)) ⟨_, rfl, ?_⟩)
    repeat first | refine z_i rfl rfl ?_ | refine m_gt hb rfl rfl ?_
    refine m_ld hb (j := p) rfl rfl rfl (show p < 450 by omega) ?_
    refine z_cVk [.int (S.2.2.2 24 p)] [] 0 0 0 rfl (m_obj hb) rfl rfl (Nat.le_of_ble_eq_true rfl) (Nat.le_of_ble_eq_true rfl) (by omega) (by omega) (by omega) (r_mark hb (hv p (by omega) 24 (by simp)) ⟨_, rfl, ?_⟩)
    refine z_i rfl rfl ?_
    refine z_j rfl ?_
    have := ih (p + 1) (mkU (mkU (mkU U (S.2.2.2 22 p)) (S.2.2.2 23 p)) (S.2.2.2 24 p)) (by omega) (mkU_1 (mkU_1 (mkU_1 h0))) (cov_le (mkU_cov (mkU_cov (mkU_cov hc))) (by
        show _ ≤ 910 + (nvC S p + nvc S 22 p + nvc S 23 p + nvc S 24 p)
        unfold nvc
        omega)) (fun j hj => mkU_1 (mkU_1 (mkU_1 (hg j hj)))) (fun p' q1 k q2 j q3 q4 => by
      by_cases hp' : p' = p
      · subst hp'
        rcases q2 with rfl | rfl | rfl
        · refine mkU_1 (mkU_1 ?_); rw [q3]; exact mkU_at q4
        · refine mkU_1 ?_; rw [q3]; exact mkU_at q4
        · rw [q3]; exact mkU_at q4
      · exact mkU_1 (mkU_1 (mkU_1 (hU p' (by omega) k q2 j q3 q4))))
    rw [← nI_1] at this
    exact this
end MF
