/-! the class: has, accepts, hasPlace -/
section FC
variable {dA : Nat → ClassId} {w : ww_W} {mk d K N pr ex : Nat} {Q : zQ} {ka kb kc k : Int32}
theorem okH_iff {z : Int32} (hmk : mk ≤ 120) : okH mk z ↔ ¬ z < 0 ∧ ¬ nI mk ≤ z := by
  constructor
  · rintro ⟨j, h1, h2⟩
    rw [h2]
    exact ⟨nI_pos (by omega), nI_ge h1 (by omega)⟩
  · rintro ⟨h1, h2⟩
    obtain ⟨j, j1, j2⟩ := nI_of h1
    rw [j2, nI_leI (by omega) (by omega)] at h2
    exact ⟨j, by omega, j2⟩
theorem r_has (hp : w pr = some (.inr (C_Program, [.ref ex, .int (nI mk)]))) (hmk : mk ≤ 120) {z : Int32} (h1 : okH mk z → Q (.inl (some (.int 1))) w 0 0) (h0 : ¬ okH mk z → Q (.inl (some (.int 0))) w 0 0) : zx dA d K N M_Program_has 0 (zargs 2 [.ref pr, .int z]) [] w 0 0 Q := by
  have hno : ¬ okH mk z → zx dA d K N M_Program_has 16 (zargs 2 [.ref pr, .int z]) [] w 0 0 Q := by
    intro hn
    repeat refine z_i rfl rfl ?_
    exact z_retZ rfl (Or.inl rfl) (Nat.zero_le _) (Nat.zero_le _) (h0 hn)
  repeat refine z_i rfl rfl ?_
  refine z_b rfl rfl (fun g => hno (fun q => ((okH_iff hmk).mp q).1 g)) (fun g => ?_)
  repeat refine z_i rfl rfl ?_
  refine z_get rfl hp rfl ?_
  refine z_b rfl rfl (fun g2 => hno (fun q => ((okH_iff hmk).mp q).2 g2)) (fun g2 => ?_)
  repeat refine z_i rfl rfl ?_
  refine z_j rfl ?_
  exact z_retZ rfl (Or.inr rfl) (Nat.zero_le _) (Nat.zero_le _) (h1 ((okH_iff hmk).mpr ⟨g, g2⟩))
theorem r_hasOrNone (hd : 1 ≤ d) (hp : w pr = some (.inr (C_Program, [.ref ex, .int (nI mk)]))) (hmk : mk ≤ 120) {z : Int32} (h1 : z = -1 ∨ okH mk z → Q (.inl (some (.int 1))) w 0 0) (h0 : ¬ (z = -1 ∨ okH mk z) → Q (.inl (some (.int 0))) w 0 0) : zx dA d 0 0 M_Program_hasOrNone 0 (zargs 2 [.ref pr, .int z]) [] w 0 0 Q := by
  repeat refine z_i rfl rfl ?_
  refine z_b rfl rfl (fun g => ?_) (fun g => ?_)
  · repeat refine z_i rfl rfl ?_
    refine z_j rfl ?_
    exact z_retZ rfl (Or.inr rfl) (Nat.zero_le _) (Nat.zero_le _) (h1 (Or.inl g))
  · replace g : ¬ z = -1 := g
    repeat refine z_i rfl rfl ?_
    refine z_cVk [.int z] [] 0 0 0 rfl hp rfl rfl (Nat.le_of_ble_eq_true rfl) (Nat.le_of_ble_eq_true rfl) (by omega) (by omega) (by omega) (r_has hp hmk (fun hz => ⟨_, rfl, ?_⟩) (fun hz => ⟨_, rfl, ?_⟩))
    · refine z_bf rfl rfl (show ¬ (1 : Int32) = 0 by decide) ?_
      repeat refine z_i rfl rfl ?_
      refine z_j rfl ?_
      exact z_retZ rfl (Or.inr rfl) (Nat.zero_le _) (Nat.zero_le _) (h1 (Or.inr hz))
    · refine z_bt rfl rfl rfl ?_
      repeat refine z_i rfl rfl ?_
      exact z_retZ rfl (Or.inl rfl) (Nat.zero_le _) (Nat.zero_le _) (h0 (fun q => q.elim g hz))
theorem r_accArgs (hd : 2 ≤ d) (hp : w pr = some (.inr (C_Program, [.ref ex, .int (nI mk)]))) (hmk : mk ≤ 120) (h1 : (kb = -1 ∧ kc = -1 ∨ okH mk kb ∧ (kc = -1 ∨ okH mk kc)) → Q (.inl (some (.int 1))) w 0 0) (h0 : ¬ (kb = -1 ∧ kc = -1 ∨ okH mk kb ∧ (kc = -1 ∨ okH mk kc)) → Q (.inl (some (.int 0))) w 0 0) : zx dA d 0 0 M_Program_acceptsArguments 0 (zargs 3 [.ref pr, .int kb, .int kc]) [] w 0 0 Q := by
  repeat refine z_i rfl rfl ?_
  refine z_b rfl rfl (fun g => ?_) (fun g => ?_)
  · replace g : ¬ kb = -1 := g
    repeat refine z_i rfl rfl ?_
    refine z_cVk [.int kb] [] 0 0 0 rfl hp rfl rfl (Nat.le_of_ble_eq_true rfl) (Nat.le_of_ble_eq_true rfl) (by omega) (by omega) (by omega) (r_has hp hmk (fun hz => ⟨_, rfl, ?_⟩) (fun hz => ⟨_, rfl, ?_⟩))
    · refine z_bf rfl rfl (show ¬ (1 : Int32) = 0 by decide) ?_
      repeat refine z_i rfl rfl ?_
      refine z_cVk [.int kc] [] 1 0 0 rfl hp rfl rfl (Nat.le_of_ble_eq_true rfl) (Nat.le_of_ble_eq_true rfl) (by omega) (by omega) (by omega) (r_hasOrNone (by omega) hp hmk (fun hy => ⟨_, rfl, ?_⟩) (fun hy => ⟨_, rfl, ?_⟩))
      · refine z_bf rfl rfl (show ¬ (1 : Int32) = 0 by decide) ?_
        repeat refine z_i rfl rfl ?_
        refine z_j rfl ?_
        exact z_retZ rfl (Or.inr rfl) (Nat.zero_le _) (Nat.zero_le _) (h1 (Or.inr ⟨hz, hy⟩))
      · refine z_bt rfl rfl rfl ?_
        repeat refine z_i rfl rfl ?_
        exact z_retZ rfl (Or.inl rfl) (Nat.zero_le _) (Nat.zero_le _) (h0 (fun q => q.elim (fun t => g t.1) (fun t => hy t.2)))
    · refine z_bt rfl rfl rfl ?_
      repeat refine z_i rfl rfl ?_
      exact z_retZ rfl (Or.inl rfl) (Nat.zero_le _) (Nat.zero_le _) (h0 (fun q => q.elim (fun t => g t.1) (fun t => hz t.1)))
  · replace g : kb = -1 := Classical.not_not.mp g
    repeat refine z_i rfl rfl ?_
    refine z_b rfl rfl (fun g2 => ?_) (fun g2 => ?_)
    · replace g2 : ¬ kc = -1 := g2
      repeat refine z_i rfl rfl ?_
      refine z_j rfl ?_
      refine z_retZ rfl (Or.inl rfl) (Nat.zero_le _) (Nat.zero_le _) (h0 (fun q => q.elim (fun t => g2 t.2) (fun t => ?_)))
      obtain ⟨z, z1, z2⟩ := t.1
      rw [g] at z2
      exact nI_n1 (j := z) (by omega) z2.symm
    · replace g2 : kc = -1 := Classical.not_not.mp g2
      repeat refine z_i rfl rfl ?_
      refine z_j rfl ?_
      exact z_retZ rfl (Or.inr rfl) (Nat.zero_le _) (Nat.zero_le _) (h1 (Or.inl ⟨g, g2⟩))
theorem p_var_b : (okV ka → p_var ka = 1) ∧ (¬ okV ka → p_var ka = 0) := by
  unfold p_var
  constructor
  · rintro ⟨j, h1, h2⟩
    rw [h2, if_neg (nI_pos (by omega)), if_neg (show ¬ (10 : Int32) ≤ nI j from (show ¬ nI 10 ≤ nI j from nI_ge (by omega) (by omega)))]
  · intro h
    by_cases g : ka < 0
    · rw [if_pos g]
    · rw [if_neg g]
      by_cases g2 : 10 ≤ ka
      · rw [if_pos g2]
      · refine absurd ?_ h
        obtain ⟨j, j1, j2⟩ := nI_of g
        have g3 : ¬ nI 10 ≤ ka := g2
        rw [j2, nI_leI (by omega) (by omega)] at g3
        exact ⟨j, by omega, j2⟩
abbrev okPar (kb kc : Int32) : Prop := ∃ p : Nat, p ≤ 2 ∧ kb = nI p ∧ (p = 0 ∨ ∃ f : Nat, f + p ≤ 10 ∧ kc = nI f)
theorem p_par_b : (okPar kb kc → p_par kb kc = 1) ∧ (¬ okPar kb kc → p_par kb kc = 0) := by
  unfold p_par
  constructor
  · rintro ⟨p, p1, p2, p3⟩
    subst p2
    rw [if_neg (nI_pos (by omega)), if_neg (show ¬ (2 : Int32) < nI p from (show ¬ nI 2 < nI p from nI_nlt p1 (by omega)))]
    by_cases h0 : p = 0
    · rw [if_pos (by rw [h0]; rfl)]
    · obtain ⟨f, f1, f2⟩ := p3.resolve_left h0
      subst f2
      rw [if_neg (nI_ne0 (by omega) (by omega)), if_neg (nI_pos (by omega)), if_neg (show ¬ (10 : Int32) - nI p < nI f from (show ¬ nI 10 - nI p < nI f by rw [pk_sub (by omega)]; exact nI_nlt (by omega) (by omega)))]
  · intro h
    by_cases g : kb < 0
    · rw [if_pos g]
    · obtain ⟨p, j1, rfl⟩ := nI_of g
      rw [if_neg g]
      by_cases g2 : (2 : Int32) < nI p
      · rw [if_pos g2]
      · rw [if_neg g2]
        replace g2 : ¬ nI 2 < nI p := g2
        rw [nI_ltI (by omega) (by omega)] at g2
        by_cases g3 : nI p = 0
        · exact absurd ⟨p, by omega, rfl, Or.inl ((nI_z (by omega)).mp g3)⟩ h
        · rw [if_neg g3]
          by_cases g4 : kc < 0
          · rw [if_pos g4]
          · obtain ⟨f, f1, rfl⟩ := nI_of g4
            rw [if_neg g4]
            by_cases g5 : (10 : Int32) - nI p < nI f
            · rw [if_pos g5]
            · replace g5 : ¬ nI 10 - nI p < nI f := g5
              rw [pk_sub (by omega), nI_ltI (by omega) (by omega)] at g5
              exact absurd ⟨p, by omega, rfl, Or.inr ⟨f, by omega, rfl⟩⟩ h
set_option maxRecDepth 100000 in
theorem r_accepts (hd : 3 ≤ d) (hp : w pr = some (.inr (C_Program, [.ref ex, .int (nI mk)]))) (hmk : mk ≤ 120) (h1 : okE mk k ka kb kc → Q (.inl (some (.int 1))) w 0 0) (h0 : ¬ okE mk k ka kb kc → Q (.inl (some (.int 0))) w 0 0) : zx dA d 0 0 M_Program_accepts 0 (zargs 5 [.ref pr, .int k, .int ka, .int kb, .int kc]) [] w 0 0 Q := by
  refine z_i rfl rfl ?_
  by_cases hk : ∃ j : Nat, j < 26 ∧ k = nI j
  rotate_left
  · have hn : k.toInt < 0 ∨ 25 < k.toInt := by
      refine Classical.byContradiction fun q => hk ⟨k.toInt.toNat, by omega, Int32.toInt_inj.mp (by rw [nI_toInt (by omega)]; omega)⟩
    refine z_sw (t := 401) rfl ?_ ?_
    · repeat rw [zswt_ne (by omega)]
      rfl
    repeat refine z_i rfl rfl ?_
    exact z_retZ rfl (Or.inl rfl) (Nat.zero_le _) (Nat.zero_le _) (h0 (fun q => hk q.1))
  obtain ⟨j, hj, rfl⟩ := hk
  have hj2 : j = 0 ∨ j = 1 ∨ j = 2 ∨ j = 3 ∨ j = 4 ∨ j = 5 ∨ j = 6 ∨ j = 7 ∨ j = 8 ∨ j = 9 ∨ j = 10 ∨ j = 11 ∨ j = 12 ∨ j = 13 ∨ j = 14 ∨ j = 15 ∨ j = 16 ∨ j = 17 ∨ j = 18 ∨ j = 19 ∨ j = 20 ∨ j = 21 ∨ j = 22 ∨ j = 23 ∨ j = 24 ∨ j = 25 := by omega
  rcases hj2 with rfl | rfl | rfl | rfl | rfl | rfl | rfl | rfl | rfl | rfl | rfl | rfl | rfl | rfl | rfl | rfl | rfl | rfl | rfl | rfl | rfl | rfl | rfl | rfl | rfl | rfl
  · refine z_sw (t := 120) rfl (by decide) ?_
    have hno : ¬ (-1000000000 ≤ ka ∧ ka ≤ 1000000000) → zx dA d 0 0 M_Program_accepts 136 (zargs 5 [.ref pr, .int (nI 0), .int ka, .int kb, .int kc]) [] w 0 0 Q := by
      intro hn
      repeat refine z_i rfl rfl ?_
      exact z_retZ rfl (Or.inl rfl) (Nat.zero_le _) (Nat.zero_le _) (h0 (fun q => hn (okE_0.mp q)))
    repeat refine z_i rfl rfl ?_
    refine z_b rfl rfl (fun g => hno (fun q => Int32.not_lt.mpr q.1 g)) (fun g => ?_)
    repeat refine z_i rfl rfl ?_
    refine z_b rfl rfl (fun g2 => hno (fun q => Int32.not_lt.mpr q.2 g2)) (fun g2 => ?_)
    repeat refine z_i rfl rfl ?_
    refine z_j rfl ?_
    exact z_retZ rfl (Or.inr rfl) (Nat.zero_le _) (Nat.zero_le _) (h1 (okE_0.mpr ⟨Int32.not_lt.mp g, Int32.not_lt.mp g2⟩))
  · refine z_sw (t := 138) rfl (by decide) ?_
    repeat refine z_i rfl rfl ?_
    exact z_retZ rfl (Or.inr rfl) (Nat.zero_le _) (Nat.zero_le _) (h1 (okE_1))
  · refine z_sw (t := 138) rfl (by decide) ?_
    repeat refine z_i rfl rfl ?_
    exact z_retZ rfl (Or.inr rfl) (Nat.zero_le _) (Nat.zero_le _) (h1 (okE_2))
  · refine z_sw (t := 140) rfl (by decide) ?_
    repeat refine z_i rfl rfl ?_
    refine z_cSk [.int ka] [] 0 0 0 rfl rfl rfl (Nat.le_of_ble_eq_true rfl) (Nat.le_of_ble_eq_true rfl) (by omega) (by omega) (by omega) (r_isVariable dA 0 _ _ _ ⟨_, rfl, ?_⟩)
    by_cases g : okV ka
    · rw [p_var_b.1 g]
      exact z_retZ rfl (Or.inr rfl) (Nat.zero_le _) (Nat.zero_le _) (h1 (okE_3.mpr g))
    · rw [p_var_b.2 g]
      exact z_retZ rfl (Or.inl rfl) (Nat.zero_le _) (Nat.zero_le _) (h0 (fun q => g (okE_3.mp q)))
  · refine z_sw (t := 145) rfl (by decide) ?_
    repeat refine z_i rfl rfl ?_
    refine z_cSk [.int ka] [] 0 0 0 rfl rfl rfl (Nat.le_of_ble_eq_true rfl) (Nat.le_of_ble_eq_true rfl) (by omega) (by omega) (by omega) (r_isVariable dA 0 _ _ _ ⟨_, rfl, ?_⟩)
    by_cases g1 : okV ka
    · rw [p_var_b.1 g1]
      refine z_bf rfl rfl (show ¬ (1 : Int32) = 0 by decide) ?_
      repeat refine z_i rfl rfl ?_
      refine z_cVk [.int kb] [] 0 0 0 rfl hp rfl rfl (Nat.le_of_ble_eq_true rfl) (Nat.le_of_ble_eq_true rfl) (by omega) (by omega) (by omega) (r_has hp hmk (fun g2 => ⟨_, rfl, ?_⟩) (fun g2 => ⟨_, rfl, ?_⟩))
      · refine z_bf rfl rfl (show ¬ (1 : Int32) = 0 by decide) ?_
        repeat refine z_i rfl rfl ?_
        refine z_j rfl ?_
        exact z_retZ rfl (Or.inr rfl) (Nat.zero_le _) (Nat.zero_le _) (h1 (okE_4.mpr ⟨g1, g2⟩))
      · refine z_bt rfl rfl rfl ?_
        repeat refine z_i rfl rfl ?_
        exact z_retZ rfl (Or.inl rfl) (Nat.zero_le _) (Nat.zero_le _) (h0 (fun q => g2 (okE_4.mp q).2))
    · rw [p_var_b.2 g1]
      refine z_bt rfl rfl rfl ?_
      repeat refine z_i rfl rfl ?_
      exact z_retZ rfl (Or.inl rfl) (Nat.zero_le _) (Nat.zero_le _) (h0 (fun q => g1 (okE_4.mp q).1))
  · refine z_sw (t := 145) rfl (by decide) ?_
    repeat refine z_i rfl rfl ?_
    refine z_cSk [.int ka] [] 0 0 0 rfl rfl rfl (Nat.le_of_ble_eq_true rfl) (Nat.le_of_ble_eq_true rfl) (by omega) (by omega) (by omega) (r_isVariable dA 0 _ _ _ ⟨_, rfl, ?_⟩)
    by_cases g1 : okV ka
    · rw [p_var_b.1 g1]
      refine z_bf rfl rfl (show ¬ (1 : Int32) = 0 by decide) ?_
      repeat refine z_i rfl rfl ?_
      refine z_cVk [.int kb] [] 0 0 0 rfl hp rfl rfl (Nat.le_of_ble_eq_true rfl) (Nat.le_of_ble_eq_true rfl) (by omega) (by omega) (by omega) (r_has hp hmk (fun g2 => ⟨_, rfl, ?_⟩) (fun g2 => ⟨_, rfl, ?_⟩))
      · refine z_bf rfl rfl (show ¬ (1 : Int32) = 0 by decide) ?_
        repeat refine z_i rfl rfl ?_
        refine z_j rfl ?_
        exact z_retZ rfl (Or.inr rfl) (Nat.zero_le _) (Nat.zero_le _) (h1 (okE_5.mpr ⟨g1, g2⟩))
      · refine z_bt rfl rfl rfl ?_
        repeat refine z_i rfl rfl ?_
        exact z_retZ rfl (Or.inl rfl) (Nat.zero_le _) (Nat.zero_le _) (h0 (fun q => g2 (okE_5.mp q).2))
    · rw [p_var_b.2 g1]
      refine z_bt rfl rfl rfl ?_
      repeat refine z_i rfl rfl ?_
      exact z_retZ rfl (Or.inl rfl) (Nat.zero_le _) (Nat.zero_le _) (h0 (fun q => g1 (okE_5.mp q).1))
  · refine z_sw (t := 166) rfl (by decide) ?_
    repeat refine z_i rfl rfl ?_
    refine z_cVk [.int ka] [] 0 0 0 rfl hp rfl rfl (Nat.le_of_ble_eq_true rfl) (Nat.le_of_ble_eq_true rfl) (by omega) (by omega) (by omega) (r_has hp hmk (fun g1 => ⟨_, rfl, ?_⟩) (fun g1 => ⟨_, rfl, ?_⟩))
    · refine z_bf rfl rfl (show ¬ (1 : Int32) = 0 by decide) ?_
      repeat refine z_i rfl rfl ?_
      refine z_cVk [.int kb] [] 0 0 0 rfl hp rfl rfl (Nat.le_of_ble_eq_true rfl) (Nat.le_of_ble_eq_true rfl) (by omega) (by omega) (by omega) (r_has hp hmk (fun g2 => ⟨_, rfl, ?_⟩) (fun g2 => ⟨_, rfl, ?_⟩))
      · refine z_bf rfl rfl (show ¬ (1 : Int32) = 0 by decide) ?_
        have hno : ¬ (¬ kc < 0 ∧ kc ≤ 4) → zx dA d 0 0 M_Program_accepts 197 (zargs 5 [.ref pr, .int (nI 6), .int ka, .int kb, .int kc]) [] w 0 0 Q := by
          intro hn
          repeat refine z_i rfl rfl ?_
          exact z_retZ rfl (Or.inl rfl) (Nat.zero_le _) (Nat.zero_le _) (h0 (fun q => hn (okE_6.mp q).1))
        repeat refine z_i rfl rfl ?_
        refine z_b rfl rfl (fun g => hno (fun q => q.1 g)) (fun g => ?_)
        repeat refine z_i rfl rfl ?_
        refine z_b rfl rfl (fun g3 => hno (fun q => Int32.not_lt.mpr q.2 g3)) (fun g3 => ?_)
        repeat refine z_i rfl rfl ?_
        refine z_j rfl ?_
        exact z_retZ rfl (Or.inr rfl) (Nat.zero_le _) (Nat.zero_le _) (h1 (okE_6.mpr ⟨⟨g, Int32.not_lt.mp g3⟩, g1, g2⟩))
      · refine z_bt rfl rfl rfl ?_
        repeat refine z_i rfl rfl ?_
        exact z_retZ rfl (Or.inl rfl) (Nat.zero_le _) (Nat.zero_le _) (h0 (fun q => g2 (okE_6.mp q).2.2))
    · refine z_bt rfl rfl rfl ?_
      repeat refine z_i rfl rfl ?_
      exact z_retZ rfl (Or.inl rfl) (Nat.zero_le _) (Nat.zero_le _) (h0 (fun q => g1 (okE_6.mp q).2.1))
  · refine z_sw (t := 199) rfl (by decide) ?_
    repeat refine z_i rfl rfl ?_
    refine z_cVk [.int ka] [] 0 0 0 rfl hp rfl rfl (Nat.le_of_ble_eq_true rfl) (Nat.le_of_ble_eq_true rfl) (by omega) (by omega) (by omega) (r_has hp hmk (fun g1 => ⟨_, rfl, ?_⟩) (fun g1 => ⟨_, rfl, ?_⟩))
    · refine z_bf rfl rfl (show ¬ (1 : Int32) = 0 by decide) ?_
      repeat refine z_i rfl rfl ?_
      refine z_cVk [.int kb] [] 0 0 0 rfl hp rfl rfl (Nat.le_of_ble_eq_true rfl) (Nat.le_of_ble_eq_true rfl) (by omega) (by omega) (by omega) (r_has hp hmk (fun g2 => ⟨_, rfl, ?_⟩) (fun g2 => ⟨_, rfl, ?_⟩))
      · refine z_bf rfl rfl (show ¬ (1 : Int32) = 0 by decide) ?_
        have hno : ¬ (¬ kc < 0 ∧ kc ≤ 2) → zx dA d 0 0 M_Program_accepts 230 (zargs 5 [.ref pr, .int (nI 7), .int ka, .int kb, .int kc]) [] w 0 0 Q := by
          intro hn
          repeat refine z_i rfl rfl ?_
          exact z_retZ rfl (Or.inl rfl) (Nat.zero_le _) (Nat.zero_le _) (h0 (fun q => hn (okE_7.mp q).1))
        repeat refine z_i rfl rfl ?_
        refine z_b rfl rfl (fun g => hno (fun q => q.1 g)) (fun g => ?_)
        repeat refine z_i rfl rfl ?_
        refine z_b rfl rfl (fun g3 => hno (fun q => Int32.not_lt.mpr q.2 g3)) (fun g3 => ?_)
        repeat refine z_i rfl rfl ?_
        refine z_j rfl ?_
        exact z_retZ rfl (Or.inr rfl) (Nat.zero_le _) (Nat.zero_le _) (h1 (okE_7.mpr ⟨⟨g, Int32.not_lt.mp g3⟩, g1, g2⟩))
      · refine z_bt rfl rfl rfl ?_
        repeat refine z_i rfl rfl ?_
        exact z_retZ rfl (Or.inl rfl) (Nat.zero_le _) (Nat.zero_le _) (h0 (fun q => g2 (okE_7.mp q).2.2))
    · refine z_bt rfl rfl rfl ?_
      repeat refine z_i rfl rfl ?_
      exact z_retZ rfl (Or.inl rfl) (Nat.zero_le _) (Nat.zero_le _) (h0 (fun q => g1 (okE_7.mp q).2.1))
  · refine z_sw (t := 232) rfl (by decide) ?_
    repeat refine z_i rfl rfl ?_
    refine z_cVk [.int ka] [] 0 0 0 rfl hp rfl rfl (Nat.le_of_ble_eq_true rfl) (Nat.le_of_ble_eq_true rfl) (by omega) (by omega) (by omega) (r_has hp hmk (fun g1 => ⟨_, rfl, ?_⟩) (fun g1 => ⟨_, rfl, ?_⟩))
    · refine z_bf rfl rfl (show ¬ (1 : Int32) = 0 by decide) ?_
      repeat refine z_i rfl rfl ?_
      refine z_cVk [.int kb] [] 0 0 0 rfl hp rfl rfl (Nat.le_of_ble_eq_true rfl) (Nat.le_of_ble_eq_true rfl) (by omega) (by omega) (by omega) (r_has hp hmk (fun g2 => ⟨_, rfl, ?_⟩) (fun g2 => ⟨_, rfl, ?_⟩))
      · refine z_bf rfl rfl (show ¬ (1 : Int32) = 0 by decide) ?_
        have hno : ¬ (¬ kc < 0 ∧ kc ≤ 1) → zx dA d 0 0 M_Program_accepts 263 (zargs 5 [.ref pr, .int (nI 8), .int ka, .int kb, .int kc]) [] w 0 0 Q := by
          intro hn
          repeat refine z_i rfl rfl ?_
          exact z_retZ rfl (Or.inl rfl) (Nat.zero_le _) (Nat.zero_le _) (h0 (fun q => hn (okE_8.mp q).1))
        repeat refine z_i rfl rfl ?_
        refine z_b rfl rfl (fun g => hno (fun q => q.1 g)) (fun g => ?_)
        repeat refine z_i rfl rfl ?_
        refine z_b rfl rfl (fun g3 => hno (fun q => Int32.not_lt.mpr q.2 g3)) (fun g3 => ?_)
        repeat refine z_i rfl rfl ?_
        refine z_j rfl ?_
        exact z_retZ rfl (Or.inr rfl) (Nat.zero_le _) (Nat.zero_le _) (h1 (okE_8.mpr ⟨⟨g, Int32.not_lt.mp g3⟩, g1, g2⟩))
      · refine z_bt rfl rfl rfl ?_
        repeat refine z_i rfl rfl ?_
        exact z_retZ rfl (Or.inl rfl) (Nat.zero_le _) (Nat.zero_le _) (h0 (fun q => g2 (okE_8.mp q).2.2))
    · refine z_bt rfl rfl rfl ?_
      repeat refine z_i rfl rfl ?_
      exact z_retZ rfl (Or.inl rfl) (Nat.zero_le _) (Nat.zero_le _) (h0 (fun q => g1 (okE_8.mp q).2.1))
  · refine z_sw (t := 265) rfl (by decide) ?_
    repeat refine z_i rfl rfl ?_
    refine z_cVk [.int ka] [] 0 0 0 rfl hp rfl rfl (Nat.le_of_ble_eq_true rfl) (Nat.le_of_ble_eq_true rfl) (by omega) (by omega) (by omega) (r_has hp hmk (fun g => ⟨_, rfl, ?_⟩) (fun g => ⟨_, rfl, ?_⟩))
    · exact z_retZ rfl (Or.inr rfl) (Nat.zero_le _) (Nat.zero_le _) (h1 (okE_9.mpr g))
    · exact z_retZ rfl (Or.inl rfl) (Nat.zero_le _) (Nat.zero_le _) (h0 (fun q => g (okE_9.mp q)))
  · refine z_sw (t := 271) rfl (by decide) ?_
    repeat refine z_i rfl rfl ?_
    refine z_cVk [.int ka] [] 0 0 0 rfl hp rfl rfl (Nat.le_of_ble_eq_true rfl) (Nat.le_of_ble_eq_true rfl) (by omega) (by omega) (by omega) (r_has hp hmk (fun g1 => ⟨_, rfl, ?_⟩) (fun g1 => ⟨_, rfl, ?_⟩))
    · refine z_bf rfl rfl (show ¬ (1 : Int32) = 0 by decide) ?_
      repeat refine z_i rfl rfl ?_
      refine z_cVk [.int kb] [] 0 0 0 rfl hp rfl rfl (Nat.le_of_ble_eq_true rfl) (Nat.le_of_ble_eq_true rfl) (by omega) (by omega) (by omega) (r_has hp hmk (fun g2 => ⟨_, rfl, ?_⟩) (fun g2 => ⟨_, rfl, ?_⟩))
      · refine z_bf rfl rfl (show ¬ (1 : Int32) = 0 by decide) ?_
        repeat refine z_i rfl rfl ?_
        refine z_j rfl ?_
        exact z_retZ rfl (Or.inr rfl) (Nat.zero_le _) (Nat.zero_le _) (h1 (okE_10.mpr ⟨g1, g2⟩))
      · refine z_bt rfl rfl rfl ?_
        repeat refine z_i rfl rfl ?_
        exact z_retZ rfl (Or.inl rfl) (Nat.zero_le _) (Nat.zero_le _) (h0 (fun q => g2 (okE_10.mp q).2))
    · refine z_bt rfl rfl rfl ?_
      repeat refine z_i rfl rfl ?_
      exact z_retZ rfl (Or.inl rfl) (Nat.zero_le _) (Nat.zero_le _) (h0 (fun q => g1 (okE_10.mp q).1))
  · refine z_sw (t := 271) rfl (by decide) ?_
    repeat refine z_i rfl rfl ?_
    refine z_cVk [.int ka] [] 0 0 0 rfl hp rfl rfl (Nat.le_of_ble_eq_true rfl) (Nat.le_of_ble_eq_true rfl) (by omega) (by omega) (by omega) (r_has hp hmk (fun g1 => ⟨_, rfl, ?_⟩) (fun g1 => ⟨_, rfl, ?_⟩))
    · refine z_bf rfl rfl (show ¬ (1 : Int32) = 0 by decide) ?_
      repeat refine z_i rfl rfl ?_
      refine z_cVk [.int kb] [] 0 0 0 rfl hp rfl rfl (Nat.le_of_ble_eq_true rfl) (Nat.le_of_ble_eq_true rfl) (by omega) (by omega) (by omega) (r_has hp hmk (fun g2 => ⟨_, rfl, ?_⟩) (fun g2 => ⟨_, rfl, ?_⟩))
      · refine z_bf rfl rfl (show ¬ (1 : Int32) = 0 by decide) ?_
        repeat refine z_i rfl rfl ?_
        refine z_j rfl ?_
        exact z_retZ rfl (Or.inr rfl) (Nat.zero_le _) (Nat.zero_le _) (h1 (okE_11.mpr ⟨g1, g2⟩))
      · refine z_bt rfl rfl rfl ?_
        repeat refine z_i rfl rfl ?_
        exact z_retZ rfl (Or.inl rfl) (Nat.zero_le _) (Nat.zero_le _) (h0 (fun q => g2 (okE_11.mp q).2))
    · refine z_bt rfl rfl rfl ?_
      repeat refine z_i rfl rfl ?_
      exact z_retZ rfl (Or.inl rfl) (Nat.zero_le _) (Nat.zero_le _) (h0 (fun q => g1 (okE_11.mp q).1))
  · refine z_sw (t := 271) rfl (by decide) ?_
    repeat refine z_i rfl rfl ?_
    refine z_cVk [.int ka] [] 0 0 0 rfl hp rfl rfl (Nat.le_of_ble_eq_true rfl) (Nat.le_of_ble_eq_true rfl) (by omega) (by omega) (by omega) (r_has hp hmk (fun g1 => ⟨_, rfl, ?_⟩) (fun g1 => ⟨_, rfl, ?_⟩))
    · refine z_bf rfl rfl (show ¬ (1 : Int32) = 0 by decide) ?_
      repeat refine z_i rfl rfl ?_
      refine z_cVk [.int kb] [] 0 0 0 rfl hp rfl rfl (Nat.le_of_ble_eq_true rfl) (Nat.le_of_ble_eq_true rfl) (by omega) (by omega) (by omega) (r_has hp hmk (fun g2 => ⟨_, rfl, ?_⟩) (fun g2 => ⟨_, rfl, ?_⟩))
      · refine z_bf rfl rfl (show ¬ (1 : Int32) = 0 by decide) ?_
        repeat refine z_i rfl rfl ?_
        refine z_j rfl ?_
        exact z_retZ rfl (Or.inr rfl) (Nat.zero_le _) (Nat.zero_le _) (h1 (okE_12.mpr ⟨g1, g2⟩))
      · refine z_bt rfl rfl rfl ?_
        repeat refine z_i rfl rfl ?_
        exact z_retZ rfl (Or.inl rfl) (Nat.zero_le _) (Nat.zero_le _) (h0 (fun q => g2 (okE_12.mp q).2))
    · refine z_bt rfl rfl rfl ?_
      repeat refine z_i rfl rfl ?_
      exact z_retZ rfl (Or.inl rfl) (Nat.zero_le _) (Nat.zero_le _) (h0 (fun q => g1 (okE_12.mp q).1))
  · refine z_sw (t := 293) rfl (by decide) ?_
    repeat refine z_i rfl rfl ?_
    refine z_cSk [.int ka] [] 0 0 0 rfl rfl rfl (Nat.le_of_ble_eq_true rfl) (Nat.le_of_ble_eq_true rfl) (by omega) (by omega) (by omega) (r_isVariable dA 0 _ _ _ ⟨_, rfl, ?_⟩)
    by_cases g1 : okV ka
    · rw [p_var_b.1 g1]
      refine z_bf rfl rfl (show ¬ (1 : Int32) = 0 by decide) ?_
      repeat refine z_i rfl rfl ?_
      refine z_cVk [.int kb] [] 0 0 0 rfl hp rfl rfl (Nat.le_of_ble_eq_true rfl) (Nat.le_of_ble_eq_true rfl) (by omega) (by omega) (by omega) (r_has hp hmk (fun g2 => ⟨_, rfl, ?_⟩) (fun g2 => ⟨_, rfl, ?_⟩))
      · refine z_bf rfl rfl (show ¬ (1 : Int32) = 0 by decide) ?_
        repeat refine z_i rfl rfl ?_
        refine z_cVk [.int kc] [] 0 0 0 rfl hp rfl rfl (Nat.le_of_ble_eq_true rfl) (Nat.le_of_ble_eq_true rfl) (by omega) (by omega) (by omega) (r_has hp hmk (fun g3 => ⟨_, rfl, ?_⟩) (fun g3 => ⟨_, rfl, ?_⟩))
        · refine z_bf rfl rfl (show ¬ (1 : Int32) = 0 by decide) ?_
          repeat refine z_i rfl rfl ?_
          refine z_j rfl ?_
          exact z_retZ rfl (Or.inr rfl) (Nat.zero_le _) (Nat.zero_le _) (h1 (okE_13.mpr ⟨g1, g2, g3⟩))
        · refine z_bt rfl rfl rfl ?_
          repeat refine z_i rfl rfl ?_
          exact z_retZ rfl (Or.inl rfl) (Nat.zero_le _) (Nat.zero_le _) (h0 (fun q => g3 (okE_13.mp q).2.2))
      · refine z_bt rfl rfl rfl ?_
        repeat refine z_i rfl rfl ?_
        exact z_retZ rfl (Or.inl rfl) (Nat.zero_le _) (Nat.zero_le _) (h0 (fun q => g2 (okE_13.mp q).2.1))
    · rw [p_var_b.2 g1]
      refine z_bt rfl rfl rfl ?_
      repeat refine z_i rfl rfl ?_
      exact z_retZ rfl (Or.inl rfl) (Nat.zero_le _) (Nat.zero_le _) (h0 (fun q => g1 (okE_13.mp q).1))
  · refine z_sw (t := 265) rfl (by decide) ?_
    repeat refine z_i rfl rfl ?_
    refine z_cVk [.int ka] [] 0 0 0 rfl hp rfl rfl (Nat.le_of_ble_eq_true rfl) (Nat.le_of_ble_eq_true rfl) (by omega) (by omega) (by omega) (r_has hp hmk (fun g => ⟨_, rfl, ?_⟩) (fun g => ⟨_, rfl, ?_⟩))
    · exact z_retZ rfl (Or.inr rfl) (Nat.zero_le _) (Nat.zero_le _) (h1 (okE_14.mpr g))
    · exact z_retZ rfl (Or.inl rfl) (Nat.zero_le _) (Nat.zero_le _) (h0 (fun q => g (okE_14.mp q)))
  · refine z_sw (t := 265) rfl (by decide) ?_
    repeat refine z_i rfl rfl ?_
    refine z_cVk [.int ka] [] 0 0 0 rfl hp rfl rfl (Nat.le_of_ble_eq_true rfl) (Nat.le_of_ble_eq_true rfl) (by omega) (by omega) (by omega) (r_has hp hmk (fun g => ⟨_, rfl, ?_⟩) (fun g => ⟨_, rfl, ?_⟩))
    · exact z_retZ rfl (Or.inr rfl) (Nat.zero_le _) (Nat.zero_le _) (h1 (okE_15.mpr g))
    · exact z_retZ rfl (Or.inl rfl) (Nat.zero_le _) (Nat.zero_le _) (h0 (fun q => g (okE_15.mp q)))
  · refine z_sw (t := 323) rfl (by decide) ?_
    repeat refine z_i rfl rfl ?_
    refine z_cVk [.int ka] [] 0 0 0 rfl hp rfl rfl (Nat.le_of_ble_eq_true rfl) (Nat.le_of_ble_eq_true rfl) (by omega) (by omega) (by omega) (r_has hp hmk (fun g1 => ⟨_, rfl, ?_⟩) (fun g1 => ⟨_, rfl, ?_⟩))
    · refine z_bf rfl rfl (show ¬ (1 : Int32) = 0 by decide) ?_
      repeat refine z_i rfl rfl ?_
      refine z_cVk [.int kb] [] 0 0 0 rfl hp rfl rfl (Nat.le_of_ble_eq_true rfl) (Nat.le_of_ble_eq_true rfl) (by omega) (by omega) (by omega) (r_has hp hmk (fun g2 => ⟨_, rfl, ?_⟩) (fun g2 => ⟨_, rfl, ?_⟩))
      · refine z_bf rfl rfl (show ¬ (1 : Int32) = 0 by decide) ?_
        repeat refine z_i rfl rfl ?_
        refine z_cVk [.int kc] [] 1 0 0 rfl hp rfl rfl (Nat.le_of_ble_eq_true rfl) (Nat.le_of_ble_eq_true rfl) (by omega) (by omega) (by omega) (r_hasOrNone (by omega) hp hmk (fun g3 => ⟨_, rfl, ?_⟩) (fun g3 => ⟨_, rfl, ?_⟩))
        · refine z_bf rfl rfl (show ¬ (1 : Int32) = 0 by decide) ?_
          repeat refine z_i rfl rfl ?_
          refine z_j rfl ?_
          exact z_retZ rfl (Or.inr rfl) (Nat.zero_le _) (Nat.zero_le _) (h1 (okE_16.mpr ⟨g1, g2, g3⟩))
        · refine z_bt rfl rfl rfl ?_
          repeat refine z_i rfl rfl ?_
          exact z_retZ rfl (Or.inl rfl) (Nat.zero_le _) (Nat.zero_le _) (h0 (fun q => g3 (okE_16.mp q).2.2))
      · refine z_bt rfl rfl rfl ?_
        repeat refine z_i rfl rfl ?_
        exact z_retZ rfl (Or.inl rfl) (Nat.zero_le _) (Nat.zero_le _) (h0 (fun q => g2 (okE_16.mp q).2.1))
    · refine z_bt rfl rfl rfl ?_
      repeat refine z_i rfl rfl ?_
      exact z_retZ rfl (Or.inl rfl) (Nat.zero_le _) (Nat.zero_le _) (h0 (fun q => g1 (okE_16.mp q).1))
  · refine z_sw (t := 271) rfl (by decide) ?_
    repeat refine z_i rfl rfl ?_
    refine z_cVk [.int ka] [] 0 0 0 rfl hp rfl rfl (Nat.le_of_ble_eq_true rfl) (Nat.le_of_ble_eq_true rfl) (by omega) (by omega) (by omega) (r_has hp hmk (fun g1 => ⟨_, rfl, ?_⟩) (fun g1 => ⟨_, rfl, ?_⟩))
    · refine z_bf rfl rfl (show ¬ (1 : Int32) = 0 by decide) ?_
      repeat refine z_i rfl rfl ?_
      refine z_cVk [.int kb] [] 0 0 0 rfl hp rfl rfl (Nat.le_of_ble_eq_true rfl) (Nat.le_of_ble_eq_true rfl) (by omega) (by omega) (by omega) (r_has hp hmk (fun g2 => ⟨_, rfl, ?_⟩) (fun g2 => ⟨_, rfl, ?_⟩))
      · refine z_bf rfl rfl (show ¬ (1 : Int32) = 0 by decide) ?_
        repeat refine z_i rfl rfl ?_
        refine z_j rfl ?_
        exact z_retZ rfl (Or.inr rfl) (Nat.zero_le _) (Nat.zero_le _) (h1 (okE_17.mpr ⟨g1, g2⟩))
      · refine z_bt rfl rfl rfl ?_
        repeat refine z_i rfl rfl ?_
        exact z_retZ rfl (Or.inl rfl) (Nat.zero_le _) (Nat.zero_le _) (h0 (fun q => g2 (okE_17.mp q).2))
    · refine z_bt rfl rfl rfl ?_
      repeat refine z_i rfl rfl ?_
      exact z_retZ rfl (Or.inl rfl) (Nat.zero_le _) (Nat.zero_le _) (h0 (fun q => g1 (okE_17.mp q).1))
  · refine z_sw (t := 271) rfl (by decide) ?_
    repeat refine z_i rfl rfl ?_
    refine z_cVk [.int ka] [] 0 0 0 rfl hp rfl rfl (Nat.le_of_ble_eq_true rfl) (Nat.le_of_ble_eq_true rfl) (by omega) (by omega) (by omega) (r_has hp hmk (fun g1 => ⟨_, rfl, ?_⟩) (fun g1 => ⟨_, rfl, ?_⟩))
    · refine z_bf rfl rfl (show ¬ (1 : Int32) = 0 by decide) ?_
      repeat refine z_i rfl rfl ?_
      refine z_cVk [.int kb] [] 0 0 0 rfl hp rfl rfl (Nat.le_of_ble_eq_true rfl) (Nat.le_of_ble_eq_true rfl) (by omega) (by omega) (by omega) (r_has hp hmk (fun g2 => ⟨_, rfl, ?_⟩) (fun g2 => ⟨_, rfl, ?_⟩))
      · refine z_bf rfl rfl (show ¬ (1 : Int32) = 0 by decide) ?_
        repeat refine z_i rfl rfl ?_
        refine z_j rfl ?_
        exact z_retZ rfl (Or.inr rfl) (Nat.zero_le _) (Nat.zero_le _) (h1 (okE_18.mpr ⟨g1, g2⟩))
      · refine z_bt rfl rfl rfl ?_
        repeat refine z_i rfl rfl ?_
        exact z_retZ rfl (Or.inl rfl) (Nat.zero_le _) (Nat.zero_le _) (h0 (fun q => g2 (okE_18.mp q).2))
    · refine z_bt rfl rfl rfl ?_
      repeat refine z_i rfl rfl ?_
      exact z_retZ rfl (Or.inl rfl) (Nat.zero_le _) (Nat.zero_le _) (h0 (fun q => g1 (okE_18.mp q).1))
  · refine z_sw (t := 354) rfl (by decide) ?_
    repeat refine z_i rfl rfl ?_
    refine z_cVk [.int ka] [] 0 0 0 rfl hp rfl rfl (Nat.le_of_ble_eq_true rfl) (Nat.le_of_ble_eq_true rfl) (by omega) (by omega) (by omega) (r_has hp hmk (fun g1 => ⟨_, rfl, ?_⟩) (fun g1 => ⟨_, rfl, ?_⟩))
    · refine z_bf rfl rfl (show ¬ (1 : Int32) = 0 by decide) ?_
      repeat refine z_i rfl rfl ?_
      refine z_cSk [.int kb, .int kc] [] 0 0 0 rfl rfl rfl (Nat.le_of_ble_eq_true rfl) (Nat.le_of_ble_eq_true rfl) (by omega) (by omega) (by omega) (r_acceptsParameters dA 0 _ _ _ _ ⟨_, rfl, ?_⟩)
      by_cases g2 : okPar kb kc
      · rw [p_par_b.1 g2]
        refine z_bf rfl rfl (show ¬ (1 : Int32) = 0 by decide) ?_
        repeat refine z_i rfl rfl ?_
        refine z_j rfl ?_
        exact z_retZ rfl (Or.inr rfl) (Nat.zero_le _) (Nat.zero_le _) (h1 (okE_19.mpr ⟨g1, g2⟩))
      · rw [p_par_b.2 g2]
        refine z_bt rfl rfl rfl ?_
        repeat refine z_i rfl rfl ?_
        exact z_retZ rfl (Or.inl rfl) (Nat.zero_le _) (Nat.zero_le _) (h0 (fun q => g2 (okE_19.mp q).2))
    · refine z_bt rfl rfl rfl ?_
      repeat refine z_i rfl rfl ?_
      exact z_retZ rfl (Or.inl rfl) (Nat.zero_le _) (Nat.zero_le _) (h0 (fun q => g1 (okE_19.mp q).1))
  · refine z_sw (t := 377) rfl (by decide) ?_
    repeat refine z_i rfl rfl ?_
    refine z_cVk [.int ka] [] 0 0 0 rfl hp rfl rfl (Nat.le_of_ble_eq_true rfl) (Nat.le_of_ble_eq_true rfl) (by omega) (by omega) (by omega) (r_has hp hmk (fun g1 => ⟨_, rfl, ?_⟩) (fun g1 => ⟨_, rfl, ?_⟩))
    · refine z_bf rfl rfl (show ¬ (1 : Int32) = 0 by decide) ?_
      repeat refine z_i rfl rfl ?_
      refine z_cVk [.int kb, .int kc] [] 2 0 0 rfl hp rfl rfl (Nat.le_of_ble_eq_true rfl) (Nat.le_of_ble_eq_true rfl) (by omega) (by omega) (by omega) (r_accArgs (by omega) hp hmk (fun g2 => ⟨_, rfl, ?_⟩) (fun g2 => ⟨_, rfl, ?_⟩))
      · refine z_bf rfl rfl (show ¬ (1 : Int32) = 0 by decide) ?_
        repeat refine z_i rfl rfl ?_
        refine z_j rfl ?_
        exact z_retZ rfl (Or.inr rfl) (Nat.zero_le _) (Nat.zero_le _) (h1 (okE_20.mpr ⟨g1, g2⟩))
      · refine z_bt rfl rfl rfl ?_
        repeat refine z_i rfl rfl ?_
        exact z_retZ rfl (Or.inl rfl) (Nat.zero_le _) (Nat.zero_le _) (h0 (fun q => g2 (okE_20.mp q).2))
    · refine z_bt rfl rfl rfl ?_
      repeat refine z_i rfl rfl ?_
      exact z_retZ rfl (Or.inl rfl) (Nat.zero_le _) (Nat.zero_le _) (h0 (fun q => g1 (okE_20.mp q).1))
  · refine z_sw (t := 140) rfl (by decide) ?_
    repeat refine z_i rfl rfl ?_
    refine z_cSk [.int ka] [] 0 0 0 rfl rfl rfl (Nat.le_of_ble_eq_true rfl) (Nat.le_of_ble_eq_true rfl) (by omega) (by omega) (by omega) (r_isVariable dA 0 _ _ _ ⟨_, rfl, ?_⟩)
    by_cases g : okV ka
    · rw [p_var_b.1 g]
      exact z_retZ rfl (Or.inr rfl) (Nat.zero_le _) (Nat.zero_le _) (h1 (okE_21.mpr g))
    · rw [p_var_b.2 g]
      exact z_retZ rfl (Or.inl rfl) (Nat.zero_le _) (Nat.zero_le _) (h0 (fun q => g (okE_21.mp q)))
  · refine z_sw (t := 265) rfl (by decide) ?_
    repeat refine z_i rfl rfl ?_
    refine z_cVk [.int ka] [] 0 0 0 rfl hp rfl rfl (Nat.le_of_ble_eq_true rfl) (Nat.le_of_ble_eq_true rfl) (by omega) (by omega) (by omega) (r_has hp hmk (fun g => ⟨_, rfl, ?_⟩) (fun g => ⟨_, rfl, ?_⟩))
    · exact z_retZ rfl (Or.inr rfl) (Nat.zero_le _) (Nat.zero_le _) (h1 (okE_22.mpr g))
    · exact z_retZ rfl (Or.inl rfl) (Nat.zero_le _) (Nat.zero_le _) (h0 (fun q => g (okE_22.mp q)))
  · refine z_sw (t := 265) rfl (by decide) ?_
    repeat refine z_i rfl rfl ?_
    refine z_cVk [.int ka] [] 0 0 0 rfl hp rfl rfl (Nat.le_of_ble_eq_true rfl) (Nat.le_of_ble_eq_true rfl) (by omega) (by omega) (by omega) (r_has hp hmk (fun g => ⟨_, rfl, ?_⟩) (fun g => ⟨_, rfl, ?_⟩))
    · exact z_retZ rfl (Or.inr rfl) (Nat.zero_le _) (Nat.zero_le _) (h1 (okE_23.mpr g))
    · exact z_retZ rfl (Or.inl rfl) (Nat.zero_le _) (Nat.zero_le _) (h0 (fun q => g (okE_23.mp q)))
  · refine z_sw (t := 271) rfl (by decide) ?_
    repeat refine z_i rfl rfl ?_
    refine z_cVk [.int ka] [] 0 0 0 rfl hp rfl rfl (Nat.le_of_ble_eq_true rfl) (Nat.le_of_ble_eq_true rfl) (by omega) (by omega) (by omega) (r_has hp hmk (fun g1 => ⟨_, rfl, ?_⟩) (fun g1 => ⟨_, rfl, ?_⟩))
    · refine z_bf rfl rfl (show ¬ (1 : Int32) = 0 by decide) ?_
      repeat refine z_i rfl rfl ?_
      refine z_cVk [.int kb] [] 0 0 0 rfl hp rfl rfl (Nat.le_of_ble_eq_true rfl) (Nat.le_of_ble_eq_true rfl) (by omega) (by omega) (by omega) (r_has hp hmk (fun g2 => ⟨_, rfl, ?_⟩) (fun g2 => ⟨_, rfl, ?_⟩))
      · refine z_bf rfl rfl (show ¬ (1 : Int32) = 0 by decide) ?_
        repeat refine z_i rfl rfl ?_
        refine z_j rfl ?_
        exact z_retZ rfl (Or.inr rfl) (Nat.zero_le _) (Nat.zero_le _) (h1 (okE_24.mpr ⟨g1, g2⟩))
      · refine z_bt rfl rfl rfl ?_
        repeat refine z_i rfl rfl ?_
        exact z_retZ rfl (Or.inl rfl) (Nat.zero_le _) (Nat.zero_le _) (h0 (fun q => g2 (okE_24.mp q).2))
    · refine z_bt rfl rfl rfl ?_
      repeat refine z_i rfl rfl ?_
      exact z_retZ rfl (Or.inl rfl) (Nat.zero_le _) (Nat.zero_le _) (h0 (fun q => g1 (okE_24.mp q).1))
  · refine z_sw (t := 271) rfl (by decide) ?_
    repeat refine z_i rfl rfl ?_
    refine z_cVk [.int ka] [] 0 0 0 rfl hp rfl rfl (Nat.le_of_ble_eq_true rfl) (Nat.le_of_ble_eq_true rfl) (by omega) (by omega) (by omega) (r_has hp hmk (fun g1 => ⟨_, rfl, ?_⟩) (fun g1 => ⟨_, rfl, ?_⟩))
    · refine z_bf rfl rfl (show ¬ (1 : Int32) = 0 by decide) ?_
      repeat refine z_i rfl rfl ?_
      refine z_cVk [.int kb] [] 0 0 0 rfl hp rfl rfl (Nat.le_of_ble_eq_true rfl) (Nat.le_of_ble_eq_true rfl) (by omega) (by omega) (by omega) (r_has hp hmk (fun g2 => ⟨_, rfl, ?_⟩) (fun g2 => ⟨_, rfl, ?_⟩))
      · refine z_bf rfl rfl (show ¬ (1 : Int32) = 0 by decide) ?_
        repeat refine z_i rfl rfl ?_
        refine z_j rfl ?_
        exact z_retZ rfl (Or.inr rfl) (Nat.zero_le _) (Nat.zero_le _) (h1 (okE_25.mpr ⟨g1, g2⟩))
      · refine z_bt rfl rfl rfl ?_
        repeat refine z_i rfl rfl ?_
        exact z_retZ rfl (Or.inl rfl) (Nat.zero_le _) (Nat.zero_le _) (h0 (fun q => g2 (okE_25.mp q).2))
    · refine z_bt rfl rfl rfl ?_
      repeat refine z_i rfl rfl ?_
      exact z_retZ rfl (Or.inl rfl) (Nat.zero_le _) (Nat.zero_le _) (h0 (fun q => g1 (okE_25.mp q).1))
theorem r_hasPlace {v q : Nat} {xs : List Int32} {f : Nat → Int32} (hv : w v = some (.inr (C_Vector, [.ref q]))) (hq0 : w q = some (.inl (dA 0, xs.length, .inl f))) (hx : xs.length ≤ 16) (h1 : ∀ j : Nat, j < xs.length → k = nI j → Q (.inl (some (.int 1))) w 0 0) (h0 : ¬ (∃ j : Nat, j < xs.length ∧ k = nI j) → Q (.inl (some (.int 0))) w 0 0) : zx dA d 0 0 M_Vector_hasPlace 0 (zargs 2 [.ref v, .int k]) [] w 0 0 Q := by
  have hno : ¬ (∃ j : Nat, j < xs.length ∧ k = nI j) → zx dA d 0 0 M_Vector_hasPlace 17 (zargs 2 [.ref v, .int k]) [] w 0 0 Q := by
    intro hn
    repeat refine z_i rfl rfl ?_
    exact z_retZ rfl (Or.inl rfl) (Nat.zero_le _) (Nat.zero_le _) (h0 hn)
  repeat refine z_i rfl rfl ?_
  refine z_b rfl rfl (fun g => hno (fun q => ((kr hx).mpr q).1 g)) (fun g => ?_)
  repeat refine z_i rfl rfl ?_
  refine z_get rfl hv rfl ?_
  refine z_alen 0 rfl hq0 rfl ?_
  refine z_b rfl rfl (fun g2 => hno (fun q => Int32.not_lt.mpr g2 ((kr hx).mpr q).2)) (fun g2 => ?_)
  obtain ⟨j, j1, j2⟩ := (kr hx).mp ⟨g, Int32.not_le.mp g2⟩
  repeat refine z_i rfl rfl ?_
  refine z_j rfl ?_
  exact z_retZ rfl (Or.inr rfl) (Nat.zero_le _) (Nat.zero_le _) (h1 j j1 j2)
end FC
