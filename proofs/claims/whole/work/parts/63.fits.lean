/-! the reference's fits -/
section FT
variable {dA : Nat → ClassId} {b : Nat → Nat} {w : ww_W} {S : mm} {mk d : Nat} {Q : zQ} {ka kb kc : Int32}
set_option maxRecDepth 100000 in
theorem r_fits (hb : mB b) (hd : 2 ≤ d) {k : Int32} (h5 : S.1 5 = nI mk) (hmk : mk ≤ 120) (h1 : okE mk k ka kb kc → Q (.inl (some (.int 1))) (mw dA b w S) 0 0) (h0 : ¬ okE mk k ka kb kc → Q (.inl (some (.int 0))) (mw dA b w S) 0 0) : zx dA d 0 0 M_VectorLanguageModel_fits 0 (zargs 5 [.ref (b 0), .int k, .int ka, .int kb, .int kc]) [] (mw dA b w S) 0 0 Q := by
  refine z_i rfl rfl ?_
  by_cases hk : ∃ j : Nat, j < 26 ∧ k = nI j
  rotate_left
  · have hn : k.toInt < 0 ∨ 25 < k.toInt := by
      refine Classical.byContradiction fun q => hk ⟨k.toInt.toNat, by omega, Int32.toInt_inj.mp (by rw [nI_toInt (by omega)]; omega)⟩
    refine z_sw (t := 448) rfl ?_ ?_
    · repeat rw [zswt_ne (by omega)]
      rfl
    repeat first | refine z_i rfl rfl ?_ | refine m_gt hb rfl rfl ?_
    exact z_retZ rfl (Or.inl rfl) (Nat.zero_le _) (Nat.zero_le _) (h0 (fun q => hk q.1))
  obtain ⟨j, hj, rfl⟩ := hk
  have hj2 : j = 0 ∨ j = 1 ∨ j = 2 ∨ j = 3 ∨ j = 4 ∨ j = 5 ∨ j = 6 ∨ j = 7 ∨ j = 8 ∨ j = 9 ∨ j = 10 ∨ j = 11 ∨ j = 12 ∨ j = 13 ∨ j = 14 ∨ j = 15 ∨ j = 16 ∨ j = 17 ∨ j = 18 ∨ j = 19 ∨ j = 20 ∨ j = 21 ∨ j = 22 ∨ j = 23 ∨ j = 24 ∨ j = 25 := by omega
  rcases hj2 with rfl | rfl | rfl | rfl | rfl | rfl | rfl | rfl | rfl | rfl | rfl | rfl | rfl | rfl | rfl | rfl | rfl | rfl | rfl | rfl | rfl | rfl | rfl | rfl | rfl | rfl
  · refine z_sw (t := 120) rfl (by decide) ?_
    repeat first | refine z_i rfl rfl ?_ | refine m_gt hb rfl rfl ?_
    refine z_cSk [.int ka, .int (-1000000000), .int 1000000000] [] 0 0 0 rfl rfl rfl (Nat.le_of_ble_eq_true rfl) (Nat.le_of_ble_eq_true rfl) (by omega) (by omega) (by omega) (r_between dA 0 _ _ _ _ _ ⟨_, rfl, ?_⟩)
    by_cases g : -1000000000 ≤ ka ∧ ka ≤ 1000000000
    · rw [p_btw_r.1 g]
      exact z_retZ rfl (Or.inr rfl) (Nat.zero_le _) (Nat.zero_le _) (h1 (okE_0.mpr g))
    · rw [p_btw_r.2 g]
      exact z_retZ rfl (Or.inl rfl) (Nat.zero_le _) (Nat.zero_le _) (h0 (fun q => g (okE_0.mp q)))
  · refine z_sw (t := 129) rfl (by decide) ?_
    repeat first | refine z_i rfl rfl ?_ | refine m_gt hb rfl rfl ?_
    exact z_retZ rfl (Or.inr rfl) (Nat.zero_le _) (Nat.zero_le _) (h1 (okE_1))
  · refine z_sw (t := 129) rfl (by decide) ?_
    repeat first | refine z_i rfl rfl ?_ | refine m_gt hb rfl rfl ?_
    exact z_retZ rfl (Or.inr rfl) (Nat.zero_le _) (Nat.zero_le _) (h1 (okE_2))
  · refine z_sw (t := 131) rfl (by decide) ?_
    repeat first | refine z_i rfl rfl ?_ | refine m_gt hb rfl rfl ?_
    refine z_cSk [.int ka, .int 0, .int 9] [] 0 0 0 rfl rfl rfl (Nat.le_of_ble_eq_true rfl) (Nat.le_of_ble_eq_true rfl) (by omega) (by omega) (by omega) (r_between dA 0 _ _ _ _ _ ⟨_, rfl, ?_⟩)
    by_cases g : okV ka
    · rw [p_btw_r.1 (okV_b.mpr g)]
      exact z_retZ rfl (Or.inr rfl) (Nat.zero_le _) (Nat.zero_le _) (h1 (okE_3.mpr g))
    · rw [p_btw_r.2 (fun q => g (okV_b.mp q))]
      exact z_retZ rfl (Or.inl rfl) (Nat.zero_le _) (Nat.zero_le _) (h0 (fun q => g (okE_3.mp q)))
  · refine z_sw (t := 139) rfl (by decide) ?_
    repeat first | refine z_i rfl rfl ?_ | refine m_gt hb rfl rfl ?_
    refine z_cSk [.int ka, .int 0, .int 9] [] 0 0 0 rfl rfl rfl (Nat.le_of_ble_eq_true rfl) (Nat.le_of_ble_eq_true rfl) (by omega) (by omega) (by omega) (r_between dA 0 _ _ _ _ _ ⟨_, rfl, ?_⟩)
    by_cases g1 : okV ka
    · rw [p_btw_r.1 (okV_b.mpr g1)]
      refine z_bf rfl rfl (show ¬ (1 : Int32) = 0 by decide) ?_
      repeat first | refine z_i rfl rfl ?_ | refine m_gt hb rfl rfl ?_
      refine z_cVk [.int kb] [] 1 0 0 rfl (m_obj hb) rfl rfl (Nat.le_of_ble_eq_true rfl) (Nat.le_of_ble_eq_true rfl) (by omega) (by omega) (by omega) (r_made hb (by omega) h5 hmk ⟨_, rfl, ?_⟩)
      by_cases g2 : okH mk kb
      · rw [(okH_b hmk).1 g2]
        refine z_bf rfl rfl (show ¬ (1 : Int32) = 0 by decide) ?_
        repeat first | refine z_i rfl rfl ?_ | refine m_gt hb rfl rfl ?_
        refine z_j rfl ?_
        exact z_retZ rfl (Or.inr rfl) (Nat.zero_le _) (Nat.zero_le _) (h1 (okE_4.mpr ⟨g1, g2⟩))
      · rw [(okH_b hmk).2 g2]
        refine z_bt rfl rfl rfl ?_
        repeat first | refine z_i rfl rfl ?_ | refine m_gt hb rfl rfl ?_
        exact z_retZ rfl (Or.inl rfl) (Nat.zero_le _) (Nat.zero_le _) (h0 (fun q => g2 ((okE_4.mp q).2)))
    · rw [p_btw_r.2 (fun q => g1 (okV_b.mp q))]
      refine z_bt rfl rfl rfl ?_
      repeat first | refine z_i rfl rfl ?_ | refine m_gt hb rfl rfl ?_
      exact z_retZ rfl (Or.inl rfl) (Nat.zero_le _) (Nat.zero_le _) (h0 (fun q => g1 ((okE_4.mp q).1)))
  · refine z_sw (t := 139) rfl (by decide) ?_
    repeat first | refine z_i rfl rfl ?_ | refine m_gt hb rfl rfl ?_
    refine z_cSk [.int ka, .int 0, .int 9] [] 0 0 0 rfl rfl rfl (Nat.le_of_ble_eq_true rfl) (Nat.le_of_ble_eq_true rfl) (by omega) (by omega) (by omega) (r_between dA 0 _ _ _ _ _ ⟨_, rfl, ?_⟩)
    by_cases g1 : okV ka
    · rw [p_btw_r.1 (okV_b.mpr g1)]
      refine z_bf rfl rfl (show ¬ (1 : Int32) = 0 by decide) ?_
      repeat first | refine z_i rfl rfl ?_ | refine m_gt hb rfl rfl ?_
      refine z_cVk [.int kb] [] 1 0 0 rfl (m_obj hb) rfl rfl (Nat.le_of_ble_eq_true rfl) (Nat.le_of_ble_eq_true rfl) (by omega) (by omega) (by omega) (r_made hb (by omega) h5 hmk ⟨_, rfl, ?_⟩)
      by_cases g2 : okH mk kb
      · rw [(okH_b hmk).1 g2]
        refine z_bf rfl rfl (show ¬ (1 : Int32) = 0 by decide) ?_
        repeat first | refine z_i rfl rfl ?_ | refine m_gt hb rfl rfl ?_
        refine z_j rfl ?_
        exact z_retZ rfl (Or.inr rfl) (Nat.zero_le _) (Nat.zero_le _) (h1 (okE_5.mpr ⟨g1, g2⟩))
      · rw [(okH_b hmk).2 g2]
        refine z_bt rfl rfl rfl ?_
        repeat first | refine z_i rfl rfl ?_ | refine m_gt hb rfl rfl ?_
        exact z_retZ rfl (Or.inl rfl) (Nat.zero_le _) (Nat.zero_le _) (h0 (fun q => g2 ((okE_5.mp q).2)))
    · rw [p_btw_r.2 (fun q => g1 (okV_b.mp q))]
      refine z_bt rfl rfl rfl ?_
      repeat first | refine z_i rfl rfl ?_ | refine m_gt hb rfl rfl ?_
      exact z_retZ rfl (Or.inl rfl) (Nat.zero_le _) (Nat.zero_le _) (h0 (fun q => g1 ((okE_5.mp q).1)))
  · refine z_sw (t := 163) rfl (by decide) ?_
    repeat first | refine z_i rfl rfl ?_ | refine m_gt hb rfl rfl ?_
    refine z_cVk [.int ka] [] 1 0 0 rfl (m_obj hb) rfl rfl (Nat.le_of_ble_eq_true rfl) (Nat.le_of_ble_eq_true rfl) (by omega) (by omega) (by omega) (r_made hb (by omega) h5 hmk ⟨_, rfl, ?_⟩)
    by_cases g1 : okH mk ka
    · rw [(okH_b hmk).1 g1]
      refine z_bf rfl rfl (show ¬ (1 : Int32) = 0 by decide) ?_
      repeat first | refine z_i rfl rfl ?_ | refine m_gt hb rfl rfl ?_
      refine z_cVk [.int kb] [] 1 0 0 rfl (m_obj hb) rfl rfl (Nat.le_of_ble_eq_true rfl) (Nat.le_of_ble_eq_true rfl) (by omega) (by omega) (by omega) (r_made hb (by omega) h5 hmk ⟨_, rfl, ?_⟩)
      by_cases g2 : okH mk kb
      · rw [(okH_b hmk).1 g2]
        refine z_bf rfl rfl (show ¬ (1 : Int32) = 0 by decide) ?_
        repeat first | refine z_i rfl rfl ?_ | refine m_gt hb rfl rfl ?_
        refine z_cSk [.int kc, .int 0, .int 4] [] 0 0 0 rfl rfl rfl (Nat.le_of_ble_eq_true rfl) (Nat.le_of_ble_eq_true rfl) (by omega) (by omega) (by omega) (r_between dA 0 _ _ _ _ _ ⟨_, rfl, ?_⟩)
        by_cases g3 : ¬ kc < 0 ∧ kc ≤ 4
        · rw [(p_btw_r (z := kc) (lo := 0) (hi := 4)).1 ((okC_b (c := kc) (k := 4) (by decide)).mpr g3)]
          refine z_bf rfl rfl (show ¬ (1 : Int32) = 0 by decide) ?_
          repeat first | refine z_i rfl rfl ?_ | refine m_gt hb rfl rfl ?_
          refine z_j rfl ?_
          exact z_retZ rfl (Or.inr rfl) (Nat.zero_le _) (Nat.zero_le _) (h1 (okE_6.mpr ⟨g3, g1, g2⟩))
        · rw [(p_btw_r (z := kc) (lo := 0) (hi := 4)).2 (fun q => g3 ((okC_b (c := kc) (k := 4) (by decide)).mp q))]
          refine z_bt rfl rfl rfl ?_
          repeat first | refine z_i rfl rfl ?_ | refine m_gt hb rfl rfl ?_
          exact z_retZ rfl (Or.inl rfl) (Nat.zero_le _) (Nat.zero_le _) (h0 (fun q => g3 ((okE_6.mp q).1)))
      · rw [(okH_b hmk).2 g2]
        refine z_bt rfl rfl rfl ?_
        repeat first | refine z_i rfl rfl ?_ | refine m_gt hb rfl rfl ?_
        exact z_retZ rfl (Or.inl rfl) (Nat.zero_le _) (Nat.zero_le _) (h0 (fun q => g2 ((okE_6.mp q).2.2)))
    · rw [(okH_b hmk).2 g1]
      refine z_bt rfl rfl rfl ?_
      repeat first | refine z_i rfl rfl ?_ | refine m_gt hb rfl rfl ?_
      exact z_retZ rfl (Or.inl rfl) (Nat.zero_le _) (Nat.zero_le _) (h0 (fun q => g1 ((okE_6.mp q).2.1)))
  · refine z_sw (t := 195) rfl (by decide) ?_
    repeat first | refine z_i rfl rfl ?_ | refine m_gt hb rfl rfl ?_
    refine z_cVk [.int ka] [] 1 0 0 rfl (m_obj hb) rfl rfl (Nat.le_of_ble_eq_true rfl) (Nat.le_of_ble_eq_true rfl) (by omega) (by omega) (by omega) (r_made hb (by omega) h5 hmk ⟨_, rfl, ?_⟩)
    by_cases g1 : okH mk ka
    · rw [(okH_b hmk).1 g1]
      refine z_bf rfl rfl (show ¬ (1 : Int32) = 0 by decide) ?_
      repeat first | refine z_i rfl rfl ?_ | refine m_gt hb rfl rfl ?_
      refine z_cVk [.int kb] [] 1 0 0 rfl (m_obj hb) rfl rfl (Nat.le_of_ble_eq_true rfl) (Nat.le_of_ble_eq_true rfl) (by omega) (by omega) (by omega) (r_made hb (by omega) h5 hmk ⟨_, rfl, ?_⟩)
      by_cases g2 : okH mk kb
      · rw [(okH_b hmk).1 g2]
        refine z_bf rfl rfl (show ¬ (1 : Int32) = 0 by decide) ?_
        repeat first | refine z_i rfl rfl ?_ | refine m_gt hb rfl rfl ?_
        refine z_cSk [.int kc, .int 0, .int 2] [] 0 0 0 rfl rfl rfl (Nat.le_of_ble_eq_true rfl) (Nat.le_of_ble_eq_true rfl) (by omega) (by omega) (by omega) (r_between dA 0 _ _ _ _ _ ⟨_, rfl, ?_⟩)
        by_cases g3 : ¬ kc < 0 ∧ kc ≤ 2
        · rw [(p_btw_r (z := kc) (lo := 0) (hi := 2)).1 ((okC_b (c := kc) (k := 2) (by decide)).mpr g3)]
          refine z_bf rfl rfl (show ¬ (1 : Int32) = 0 by decide) ?_
          repeat first | refine z_i rfl rfl ?_ | refine m_gt hb rfl rfl ?_
          refine z_j rfl ?_
          exact z_retZ rfl (Or.inr rfl) (Nat.zero_le _) (Nat.zero_le _) (h1 (okE_7.mpr ⟨g3, g1, g2⟩))
        · rw [(p_btw_r (z := kc) (lo := 0) (hi := 2)).2 (fun q => g3 ((okC_b (c := kc) (k := 2) (by decide)).mp q))]
          refine z_bt rfl rfl rfl ?_
          repeat first | refine z_i rfl rfl ?_ | refine m_gt hb rfl rfl ?_
          exact z_retZ rfl (Or.inl rfl) (Nat.zero_le _) (Nat.zero_le _) (h0 (fun q => g3 ((okE_7.mp q).1)))
      · rw [(okH_b hmk).2 g2]
        refine z_bt rfl rfl rfl ?_
        repeat first | refine z_i rfl rfl ?_ | refine m_gt hb rfl rfl ?_
        exact z_retZ rfl (Or.inl rfl) (Nat.zero_le _) (Nat.zero_le _) (h0 (fun q => g2 ((okE_7.mp q).2.2)))
    · rw [(okH_b hmk).2 g1]
      refine z_bt rfl rfl rfl ?_
      repeat first | refine z_i rfl rfl ?_ | refine m_gt hb rfl rfl ?_
      exact z_retZ rfl (Or.inl rfl) (Nat.zero_le _) (Nat.zero_le _) (h0 (fun q => g1 ((okE_7.mp q).2.1)))
  · refine z_sw (t := 227) rfl (by decide) ?_
    repeat first | refine z_i rfl rfl ?_ | refine m_gt hb rfl rfl ?_
    refine z_cVk [.int ka] [] 1 0 0 rfl (m_obj hb) rfl rfl (Nat.le_of_ble_eq_true rfl) (Nat.le_of_ble_eq_true rfl) (by omega) (by omega) (by omega) (r_made hb (by omega) h5 hmk ⟨_, rfl, ?_⟩)
    by_cases g1 : okH mk ka
    · rw [(okH_b hmk).1 g1]
      refine z_bf rfl rfl (show ¬ (1 : Int32) = 0 by decide) ?_
      repeat first | refine z_i rfl rfl ?_ | refine m_gt hb rfl rfl ?_
      refine z_cVk [.int kb] [] 1 0 0 rfl (m_obj hb) rfl rfl (Nat.le_of_ble_eq_true rfl) (Nat.le_of_ble_eq_true rfl) (by omega) (by omega) (by omega) (r_made hb (by omega) h5 hmk ⟨_, rfl, ?_⟩)
      by_cases g2 : okH mk kb
      · rw [(okH_b hmk).1 g2]
        refine z_bf rfl rfl (show ¬ (1 : Int32) = 0 by decide) ?_
        repeat first | refine z_i rfl rfl ?_ | refine m_gt hb rfl rfl ?_
        refine z_cSk [.int kc, .int 0, .int 1] [] 0 0 0 rfl rfl rfl (Nat.le_of_ble_eq_true rfl) (Nat.le_of_ble_eq_true rfl) (by omega) (by omega) (by omega) (r_between dA 0 _ _ _ _ _ ⟨_, rfl, ?_⟩)
        by_cases g3 : ¬ kc < 0 ∧ kc ≤ 1
        · rw [(p_btw_r (z := kc) (lo := 0) (hi := 1)).1 ((okC_b (c := kc) (k := 1) (by decide)).mpr g3)]
          refine z_bf rfl rfl (show ¬ (1 : Int32) = 0 by decide) ?_
          repeat first | refine z_i rfl rfl ?_ | refine m_gt hb rfl rfl ?_
          refine z_j rfl ?_
          exact z_retZ rfl (Or.inr rfl) (Nat.zero_le _) (Nat.zero_le _) (h1 (okE_8.mpr ⟨g3, g1, g2⟩))
        · rw [(p_btw_r (z := kc) (lo := 0) (hi := 1)).2 (fun q => g3 ((okC_b (c := kc) (k := 1) (by decide)).mp q))]
          refine z_bt rfl rfl rfl ?_
          repeat first | refine z_i rfl rfl ?_ | refine m_gt hb rfl rfl ?_
          exact z_retZ rfl (Or.inl rfl) (Nat.zero_le _) (Nat.zero_le _) (h0 (fun q => g3 ((okE_8.mp q).1)))
      · rw [(okH_b hmk).2 g2]
        refine z_bt rfl rfl rfl ?_
        repeat first | refine z_i rfl rfl ?_ | refine m_gt hb rfl rfl ?_
        exact z_retZ rfl (Or.inl rfl) (Nat.zero_le _) (Nat.zero_le _) (h0 (fun q => g2 ((okE_8.mp q).2.2)))
    · rw [(okH_b hmk).2 g1]
      refine z_bt rfl rfl rfl ?_
      repeat first | refine z_i rfl rfl ?_ | refine m_gt hb rfl rfl ?_
      exact z_retZ rfl (Or.inl rfl) (Nat.zero_le _) (Nat.zero_le _) (h0 (fun q => g1 ((okE_8.mp q).2.1)))
  · refine z_sw (t := 259) rfl (by decide) ?_
    repeat first | refine z_i rfl rfl ?_ | refine m_gt hb rfl rfl ?_
    refine z_cVk [.int ka] [] 1 0 0 rfl (m_obj hb) rfl rfl (Nat.le_of_ble_eq_true rfl) (Nat.le_of_ble_eq_true rfl) (by omega) (by omega) (by omega) (r_made hb (by omega) h5 hmk ⟨_, rfl, ?_⟩)
    by_cases g : okH mk ka
    · rw [(okH_b hmk).1 g]
      exact z_retZ rfl (Or.inr rfl) (Nat.zero_le _) (Nat.zero_le _) (h1 (okE_9.mpr g))
    · rw [(okH_b hmk).2 g]
      exact z_retZ rfl (Or.inl rfl) (Nat.zero_le _) (Nat.zero_le _) (h0 (fun q => g (okE_9.mp q)))
  · refine z_sw (t := 265) rfl (by decide) ?_
    repeat first | refine z_i rfl rfl ?_ | refine m_gt hb rfl rfl ?_
    refine z_cVk [.int ka] [] 1 0 0 rfl (m_obj hb) rfl rfl (Nat.le_of_ble_eq_true rfl) (Nat.le_of_ble_eq_true rfl) (by omega) (by omega) (by omega) (r_made hb (by omega) h5 hmk ⟨_, rfl, ?_⟩)
    by_cases g1 : okH mk ka
    · rw [(okH_b hmk).1 g1]
      refine z_bf rfl rfl (show ¬ (1 : Int32) = 0 by decide) ?_
      repeat first | refine z_i rfl rfl ?_ | refine m_gt hb rfl rfl ?_
      refine z_cVk [.int kb] [] 1 0 0 rfl (m_obj hb) rfl rfl (Nat.le_of_ble_eq_true rfl) (Nat.le_of_ble_eq_true rfl) (by omega) (by omega) (by omega) (r_made hb (by omega) h5 hmk ⟨_, rfl, ?_⟩)
      by_cases g2 : okH mk kb
      · rw [(okH_b hmk).1 g2]
        refine z_bf rfl rfl (show ¬ (1 : Int32) = 0 by decide) ?_
        repeat first | refine z_i rfl rfl ?_ | refine m_gt hb rfl rfl ?_
        refine z_j rfl ?_
        exact z_retZ rfl (Or.inr rfl) (Nat.zero_le _) (Nat.zero_le _) (h1 (okE_10.mpr ⟨g1, g2⟩))
      · rw [(okH_b hmk).2 g2]
        refine z_bt rfl rfl rfl ?_
        repeat first | refine z_i rfl rfl ?_ | refine m_gt hb rfl rfl ?_
        exact z_retZ rfl (Or.inl rfl) (Nat.zero_le _) (Nat.zero_le _) (h0 (fun q => g2 ((okE_10.mp q).2)))
    · rw [(okH_b hmk).2 g1]
      refine z_bt rfl rfl rfl ?_
      repeat first | refine z_i rfl rfl ?_ | refine m_gt hb rfl rfl ?_
      exact z_retZ rfl (Or.inl rfl) (Nat.zero_le _) (Nat.zero_le _) (h0 (fun q => g1 ((okE_10.mp q).1)))
  · refine z_sw (t := 265) rfl (by decide) ?_
    repeat first | refine z_i rfl rfl ?_ | refine m_gt hb rfl rfl ?_
    refine z_cVk [.int ka] [] 1 0 0 rfl (m_obj hb) rfl rfl (Nat.le_of_ble_eq_true rfl) (Nat.le_of_ble_eq_true rfl) (by omega) (by omega) (by omega) (r_made hb (by omega) h5 hmk ⟨_, rfl, ?_⟩)
    by_cases g1 : okH mk ka
    · rw [(okH_b hmk).1 g1]
      refine z_bf rfl rfl (show ¬ (1 : Int32) = 0 by decide) ?_
      repeat first | refine z_i rfl rfl ?_ | refine m_gt hb rfl rfl ?_
      refine z_cVk [.int kb] [] 1 0 0 rfl (m_obj hb) rfl rfl (Nat.le_of_ble_eq_true rfl) (Nat.le_of_ble_eq_true rfl) (by omega) (by omega) (by omega) (r_made hb (by omega) h5 hmk ⟨_, rfl, ?_⟩)
      by_cases g2 : okH mk kb
      · rw [(okH_b hmk).1 g2]
        refine z_bf rfl rfl (show ¬ (1 : Int32) = 0 by decide) ?_
        repeat first | refine z_i rfl rfl ?_ | refine m_gt hb rfl rfl ?_
        refine z_j rfl ?_
        exact z_retZ rfl (Or.inr rfl) (Nat.zero_le _) (Nat.zero_le _) (h1 (okE_11.mpr ⟨g1, g2⟩))
      · rw [(okH_b hmk).2 g2]
        refine z_bt rfl rfl rfl ?_
        repeat first | refine z_i rfl rfl ?_ | refine m_gt hb rfl rfl ?_
        exact z_retZ rfl (Or.inl rfl) (Nat.zero_le _) (Nat.zero_le _) (h0 (fun q => g2 ((okE_11.mp q).2)))
    · rw [(okH_b hmk).2 g1]
      refine z_bt rfl rfl rfl ?_
      repeat first | refine z_i rfl rfl ?_ | refine m_gt hb rfl rfl ?_
      exact z_retZ rfl (Or.inl rfl) (Nat.zero_le _) (Nat.zero_le _) (h0 (fun q => g1 ((okE_11.mp q).1)))
  · refine z_sw (t := 265) rfl (by decide) ?_
    repeat first | refine z_i rfl rfl ?_ | refine m_gt hb rfl rfl ?_
    refine z_cVk [.int ka] [] 1 0 0 rfl (m_obj hb) rfl rfl (Nat.le_of_ble_eq_true rfl) (Nat.le_of_ble_eq_true rfl) (by omega) (by omega) (by omega) (r_made hb (by omega) h5 hmk ⟨_, rfl, ?_⟩)
    by_cases g1 : okH mk ka
    · rw [(okH_b hmk).1 g1]
      refine z_bf rfl rfl (show ¬ (1 : Int32) = 0 by decide) ?_
      repeat first | refine z_i rfl rfl ?_ | refine m_gt hb rfl rfl ?_
      refine z_cVk [.int kb] [] 1 0 0 rfl (m_obj hb) rfl rfl (Nat.le_of_ble_eq_true rfl) (Nat.le_of_ble_eq_true rfl) (by omega) (by omega) (by omega) (r_made hb (by omega) h5 hmk ⟨_, rfl, ?_⟩)
      by_cases g2 : okH mk kb
      · rw [(okH_b hmk).1 g2]
        refine z_bf rfl rfl (show ¬ (1 : Int32) = 0 by decide) ?_
        repeat first | refine z_i rfl rfl ?_ | refine m_gt hb rfl rfl ?_
        refine z_j rfl ?_
        exact z_retZ rfl (Or.inr rfl) (Nat.zero_le _) (Nat.zero_le _) (h1 (okE_12.mpr ⟨g1, g2⟩))
      · rw [(okH_b hmk).2 g2]
        refine z_bt rfl rfl rfl ?_
        repeat first | refine z_i rfl rfl ?_ | refine m_gt hb rfl rfl ?_
        exact z_retZ rfl (Or.inl rfl) (Nat.zero_le _) (Nat.zero_le _) (h0 (fun q => g2 ((okE_12.mp q).2)))
    · rw [(okH_b hmk).2 g1]
      refine z_bt rfl rfl rfl ?_
      repeat first | refine z_i rfl rfl ?_ | refine m_gt hb rfl rfl ?_
      exact z_retZ rfl (Or.inl rfl) (Nat.zero_le _) (Nat.zero_le _) (h0 (fun q => g1 ((okE_12.mp q).1)))
  · refine z_sw (t := 287) rfl (by decide) ?_
    repeat first | refine z_i rfl rfl ?_ | refine m_gt hb rfl rfl ?_
    refine z_cSk [.int ka, .int 0, .int 9] [] 0 0 0 rfl rfl rfl (Nat.le_of_ble_eq_true rfl) (Nat.le_of_ble_eq_true rfl) (by omega) (by omega) (by omega) (r_between dA 0 _ _ _ _ _ ⟨_, rfl, ?_⟩)
    by_cases g1 : okV ka
    · rw [p_btw_r.1 (okV_b.mpr g1)]
      refine z_bf rfl rfl (show ¬ (1 : Int32) = 0 by decide) ?_
      repeat first | refine z_i rfl rfl ?_ | refine m_gt hb rfl rfl ?_
      refine z_cVk [.int kb] [] 1 0 0 rfl (m_obj hb) rfl rfl (Nat.le_of_ble_eq_true rfl) (Nat.le_of_ble_eq_true rfl) (by omega) (by omega) (by omega) (r_made hb (by omega) h5 hmk ⟨_, rfl, ?_⟩)
      by_cases g2 : okH mk kb
      · rw [(okH_b hmk).1 g2]
        refine z_bf rfl rfl (show ¬ (1 : Int32) = 0 by decide) ?_
        repeat first | refine z_i rfl rfl ?_ | refine m_gt hb rfl rfl ?_
        refine z_cVk [.int kc] [] 1 0 0 rfl (m_obj hb) rfl rfl (Nat.le_of_ble_eq_true rfl) (Nat.le_of_ble_eq_true rfl) (by omega) (by omega) (by omega) (r_made hb (by omega) h5 hmk ⟨_, rfl, ?_⟩)
        by_cases g3 : okH mk kc
        · rw [(okH_b hmk).1 g3]
          refine z_bf rfl rfl (show ¬ (1 : Int32) = 0 by decide) ?_
          repeat first | refine z_i rfl rfl ?_ | refine m_gt hb rfl rfl ?_
          refine z_j rfl ?_
          exact z_retZ rfl (Or.inr rfl) (Nat.zero_le _) (Nat.zero_le _) (h1 (okE_13.mpr ⟨g1, g2, g3⟩))
        · rw [(okH_b hmk).2 g3]
          refine z_bt rfl rfl rfl ?_
          repeat first | refine z_i rfl rfl ?_ | refine m_gt hb rfl rfl ?_
          exact z_retZ rfl (Or.inl rfl) (Nat.zero_le _) (Nat.zero_le _) (h0 (fun q => g3 ((okE_13.mp q).2.2)))
      · rw [(okH_b hmk).2 g2]
        refine z_bt rfl rfl rfl ?_
        repeat first | refine z_i rfl rfl ?_ | refine m_gt hb rfl rfl ?_
        exact z_retZ rfl (Or.inl rfl) (Nat.zero_le _) (Nat.zero_le _) (h0 (fun q => g2 ((okE_13.mp q).2.1)))
    · rw [p_btw_r.2 (fun q => g1 (okV_b.mp q))]
      refine z_bt rfl rfl rfl ?_
      repeat first | refine z_i rfl rfl ?_ | refine m_gt hb rfl rfl ?_
      exact z_retZ rfl (Or.inl rfl) (Nat.zero_le _) (Nat.zero_le _) (h0 (fun q => g1 ((okE_13.mp q).1)))
  · refine z_sw (t := 259) rfl (by decide) ?_
    repeat first | refine z_i rfl rfl ?_ | refine m_gt hb rfl rfl ?_
    refine z_cVk [.int ka] [] 1 0 0 rfl (m_obj hb) rfl rfl (Nat.le_of_ble_eq_true rfl) (Nat.le_of_ble_eq_true rfl) (by omega) (by omega) (by omega) (r_made hb (by omega) h5 hmk ⟨_, rfl, ?_⟩)
    by_cases g : okH mk ka
    · rw [(okH_b hmk).1 g]
      exact z_retZ rfl (Or.inr rfl) (Nat.zero_le _) (Nat.zero_le _) (h1 (okE_14.mpr g))
    · rw [(okH_b hmk).2 g]
      exact z_retZ rfl (Or.inl rfl) (Nat.zero_le _) (Nat.zero_le _) (h0 (fun q => g (okE_14.mp q)))
  · refine z_sw (t := 259) rfl (by decide) ?_
    repeat first | refine z_i rfl rfl ?_ | refine m_gt hb rfl rfl ?_
    refine z_cVk [.int ka] [] 1 0 0 rfl (m_obj hb) rfl rfl (Nat.le_of_ble_eq_true rfl) (Nat.le_of_ble_eq_true rfl) (by omega) (by omega) (by omega) (r_made hb (by omega) h5 hmk ⟨_, rfl, ?_⟩)
    by_cases g : okH mk ka
    · rw [(okH_b hmk).1 g]
      exact z_retZ rfl (Or.inr rfl) (Nat.zero_le _) (Nat.zero_le _) (h1 (okE_15.mpr g))
    · rw [(okH_b hmk).2 g]
      exact z_retZ rfl (Or.inl rfl) (Nat.zero_le _) (Nat.zero_le _) (h0 (fun q => g (okE_15.mp q)))
  · refine z_sw (t := 320) rfl (by decide) ?_
    repeat first | refine z_i rfl rfl ?_ | refine m_gt hb rfl rfl ?_
    refine z_cVk [.int ka] [] 1 0 0 rfl (m_obj hb) rfl rfl (Nat.le_of_ble_eq_true rfl) (Nat.le_of_ble_eq_true rfl) (by omega) (by omega) (by omega) (r_made hb (by omega) h5 hmk ⟨_, rfl, ?_⟩)
    by_cases g1 : okH mk ka
    · rw [(okH_b hmk).1 g1]
      refine z_bf rfl rfl (show ¬ (1 : Int32) = 0 by decide) ?_
      repeat first | refine z_i rfl rfl ?_ | refine m_gt hb rfl rfl ?_
      refine z_cVk [.int kb] [] 1 0 0 rfl (m_obj hb) rfl rfl (Nat.le_of_ble_eq_true rfl) (Nat.le_of_ble_eq_true rfl) (by omega) (by omega) (by omega) (r_made hb (by omega) h5 hmk ⟨_, rfl, ?_⟩)
      by_cases g2 : okH mk kb
      · rw [(okH_b hmk).1 g2]
        refine z_bf rfl rfl (show ¬ (1 : Int32) = 0 by decide) ?_
        repeat first | refine z_i rfl rfl ?_ | refine m_gt hb rfl rfl ?_
        refine z_b rfl rfl (fun e1 => ?_) (fun e1 => ?_)
        · replace e1 : kc = -1 := e1
          repeat first | refine z_i rfl rfl ?_ | refine m_gt hb rfl rfl ?_
          refine z_j rfl ?_
          exact z_retZ rfl (Or.inr rfl) (Nat.zero_le _) (Nat.zero_le _) (h1 (okE_16.mpr ⟨g1, g2, Or.inl e1⟩))
        · replace e1 : ¬ kc = -1 := e1
          repeat first | refine z_i rfl rfl ?_ | refine m_gt hb rfl rfl ?_
          refine z_cVk [.int kc] [] 1 0 0 rfl (m_obj hb) rfl rfl (Nat.le_of_ble_eq_true rfl) (Nat.le_of_ble_eq_true rfl) (by omega) (by omega) (by omega) (r_made hb (by omega) h5 hmk ⟨_, rfl, ?_⟩)
          by_cases g3 : okH mk kc
          · rw [(okH_b hmk).1 g3]
            refine z_bf rfl rfl (show ¬ (1 : Int32) = 0 by decide) ?_
            repeat first | refine z_i rfl rfl ?_ | refine m_gt hb rfl rfl ?_
            refine z_j rfl ?_
            exact z_retZ rfl (Or.inr rfl) (Nat.zero_le _) (Nat.zero_le _) (h1 (okE_16.mpr ⟨g1, g2, Or.inr g3⟩))
          · rw [(okH_b hmk).2 g3]
            refine z_bt rfl rfl rfl ?_
            repeat first | refine z_i rfl rfl ?_ | refine m_gt hb rfl rfl ?_
            exact z_retZ rfl (Or.inl rfl) (Nat.zero_le _) (Nat.zero_le _) (h0 (fun q => ((okE_16.mp q).2.2).elim e1 g3))
      · rw [(okH_b hmk).2 g2]
        refine z_bt rfl rfl rfl ?_
        repeat first | refine z_i rfl rfl ?_ | refine m_gt hb rfl rfl ?_
        exact z_retZ rfl (Or.inl rfl) (Nat.zero_le _) (Nat.zero_le _) (h0 (fun q => g2 ((okE_16.mp q).2.1)))
    · rw [(okH_b hmk).2 g1]
      refine z_bt rfl rfl rfl ?_
      repeat first | refine z_i rfl rfl ?_ | refine m_gt hb rfl rfl ?_
      exact z_retZ rfl (Or.inl rfl) (Nat.zero_le _) (Nat.zero_le _) (h0 (fun q => g1 ((okE_16.mp q).1)))
  · refine z_sw (t := 265) rfl (by decide) ?_
    repeat first | refine z_i rfl rfl ?_ | refine m_gt hb rfl rfl ?_
    refine z_cVk [.int ka] [] 1 0 0 rfl (m_obj hb) rfl rfl (Nat.le_of_ble_eq_true rfl) (Nat.le_of_ble_eq_true rfl) (by omega) (by omega) (by omega) (r_made hb (by omega) h5 hmk ⟨_, rfl, ?_⟩)
    by_cases g1 : okH mk ka
    · rw [(okH_b hmk).1 g1]
      refine z_bf rfl rfl (show ¬ (1 : Int32) = 0 by decide) ?_
      repeat first | refine z_i rfl rfl ?_ | refine m_gt hb rfl rfl ?_
      refine z_cVk [.int kb] [] 1 0 0 rfl (m_obj hb) rfl rfl (Nat.le_of_ble_eq_true rfl) (Nat.le_of_ble_eq_true rfl) (by omega) (by omega) (by omega) (r_made hb (by omega) h5 hmk ⟨_, rfl, ?_⟩)
      by_cases g2 : okH mk kb
      · rw [(okH_b hmk).1 g2]
        refine z_bf rfl rfl (show ¬ (1 : Int32) = 0 by decide) ?_
        repeat first | refine z_i rfl rfl ?_ | refine m_gt hb rfl rfl ?_
        refine z_j rfl ?_
        exact z_retZ rfl (Or.inr rfl) (Nat.zero_le _) (Nat.zero_le _) (h1 (okE_17.mpr ⟨g1, g2⟩))
      · rw [(okH_b hmk).2 g2]
        refine z_bt rfl rfl rfl ?_
        repeat first | refine z_i rfl rfl ?_ | refine m_gt hb rfl rfl ?_
        exact z_retZ rfl (Or.inl rfl) (Nat.zero_le _) (Nat.zero_le _) (h0 (fun q => g2 ((okE_17.mp q).2)))
    · rw [(okH_b hmk).2 g1]
      refine z_bt rfl rfl rfl ?_
      repeat first | refine z_i rfl rfl ?_ | refine m_gt hb rfl rfl ?_
      exact z_retZ rfl (Or.inl rfl) (Nat.zero_le _) (Nat.zero_le _) (h0 (fun q => g1 ((okE_17.mp q).1)))
  · refine z_sw (t := 265) rfl (by decide) ?_
    repeat first | refine z_i rfl rfl ?_ | refine m_gt hb rfl rfl ?_
    refine z_cVk [.int ka] [] 1 0 0 rfl (m_obj hb) rfl rfl (Nat.le_of_ble_eq_true rfl) (Nat.le_of_ble_eq_true rfl) (by omega) (by omega) (by omega) (r_made hb (by omega) h5 hmk ⟨_, rfl, ?_⟩)
    by_cases g1 : okH mk ka
    · rw [(okH_b hmk).1 g1]
      refine z_bf rfl rfl (show ¬ (1 : Int32) = 0 by decide) ?_
      repeat first | refine z_i rfl rfl ?_ | refine m_gt hb rfl rfl ?_
      refine z_cVk [.int kb] [] 1 0 0 rfl (m_obj hb) rfl rfl (Nat.le_of_ble_eq_true rfl) (Nat.le_of_ble_eq_true rfl) (by omega) (by omega) (by omega) (r_made hb (by omega) h5 hmk ⟨_, rfl, ?_⟩)
      by_cases g2 : okH mk kb
      · rw [(okH_b hmk).1 g2]
        refine z_bf rfl rfl (show ¬ (1 : Int32) = 0 by decide) ?_
        repeat first | refine z_i rfl rfl ?_ | refine m_gt hb rfl rfl ?_
        refine z_j rfl ?_
        exact z_retZ rfl (Or.inr rfl) (Nat.zero_le _) (Nat.zero_le _) (h1 (okE_18.mpr ⟨g1, g2⟩))
      · rw [(okH_b hmk).2 g2]
        refine z_bt rfl rfl rfl ?_
        repeat first | refine z_i rfl rfl ?_ | refine m_gt hb rfl rfl ?_
        exact z_retZ rfl (Or.inl rfl) (Nat.zero_le _) (Nat.zero_le _) (h0 (fun q => g2 ((okE_18.mp q).2)))
    · rw [(okH_b hmk).2 g1]
      refine z_bt rfl rfl rfl ?_
      repeat first | refine z_i rfl rfl ?_ | refine m_gt hb rfl rfl ?_
      exact z_retZ rfl (Or.inl rfl) (Nat.zero_le _) (Nat.zero_le _) (h0 (fun q => g1 ((okE_18.mp q).1)))
  · refine z_sw (t := 357) rfl (by decide) ?_
    repeat first | refine z_i rfl rfl ?_ | refine m_gt hb rfl rfl ?_
    refine z_cVk [.int ka] [] 1 0 0 rfl (m_obj hb) rfl rfl (Nat.le_of_ble_eq_true rfl) (Nat.le_of_ble_eq_true rfl) (by omega) (by omega) (by omega) (r_made hb (by omega) h5 hmk ⟨_, rfl, ?_⟩)
    by_cases g1 : okH mk ka
    · rw [(okH_b hmk).1 g1]
      refine z_bf rfl rfl (show ¬ (1 : Int32) = 0 by decide) ?_
      repeat first | refine z_i rfl rfl ?_ | refine m_gt hb rfl rfl ?_
      refine z_cSk [.int kb, .int 0, .int 2] [] 0 0 0 rfl rfl rfl (Nat.le_of_ble_eq_true rfl) (Nat.le_of_ble_eq_true rfl) (by omega) (by omega) (by omega) (r_between dA 0 _ _ _ _ _ ⟨_, rfl, ?_⟩)
      by_cases g2 : ∃ p : Nat, p ≤ 2 ∧ kb = nI p
      · rw [(p_btw_r (z := kb) (lo := 0) (hi := 2)).1 ((okN_b (k := 2) (by decide)).mpr g2)]
        refine z_bf rfl rfl (show ¬ (1 : Int32) = 0 by decide) ?_
        obtain ⟨p, p1, p2⟩ := g2
        subst p2
        repeat first | refine z_i rfl rfl ?_ | refine m_gt hb rfl rfl ?_
        refine z_b rfl rfl (fun e1 => ?_) (fun e1 => ?_)
        · have e2 : p = 0 := (nI_z (by omega)).mp e1
          repeat first | refine z_i rfl rfl ?_ | refine m_gt hb rfl rfl ?_
          refine z_j rfl ?_
          exact z_retZ rfl (Or.inr rfl) (Nat.zero_le _) (Nat.zero_le _) (h1 (okE_19.mpr ⟨g1, p, p1, rfl, Or.inl e2⟩))
        · have e2 : ¬ p = 0 := fun q => e1 (by rw [q]; rfl)
          repeat first | refine z_i rfl rfl ?_ | refine m_gt hb rfl rfl ?_
          dsimp only
          rw [show (10 : Int32) = nI 10 from rfl, pk_sub (by omega)]
          refine z_cSk [.int kc, .int 0, .int (nI (10 - p))] [] 0 0 0 rfl rfl rfl (Nat.le_of_ble_eq_true rfl) (Nat.le_of_ble_eq_true rfl) (by omega) (by omega) (by omega) (r_between dA 0 _ _ _ _ _ ⟨_, rfl, ?_⟩)
          by_cases g3 : ∃ f : Nat, f ≤ 10 - p ∧ kc = nI f
          · rw [p_btw_r.1 ((okN_b (k := 10 - p) (by omega)).mpr g3)]
            refine z_bf rfl rfl (show ¬ (1 : Int32) = 0 by decide) ?_
            obtain ⟨f, f1, f2⟩ := g3
            repeat first | refine z_i rfl rfl ?_ | refine m_gt hb rfl rfl ?_
            refine z_j rfl ?_
            exact z_retZ rfl (Or.inr rfl) (Nat.zero_le _) (Nat.zero_le _) (h1 (okE_19.mpr ⟨g1, p, p1, rfl, Or.inr ⟨f, by omega, f2⟩⟩))
          · rw [p_btw_r.2 (fun q => g3 ((okN_b (k := 10 - p) (by omega)).mp q))]
            refine z_bt rfl rfl rfl ?_
            repeat first | refine z_i rfl rfl ?_ | refine m_gt hb rfl rfl ?_
            refine z_retZ rfl (Or.inl rfl) (Nat.zero_le _) (Nat.zero_le _) (h0 (fun q => ?_))
            obtain ⟨p0, q1, q2, q3⟩ := (okE_19.mp q).2
            have q4 : p = p0 := (nI_eq (by omega) (by omega)).mp q2
            subst q4
            obtain ⟨f, f1, f2⟩ := q3.resolve_left e2
            exact g3 ⟨f, by omega, f2⟩
      · rw [(p_btw_r (z := kb) (lo := 0) (hi := 2)).2 (fun q => g2 ((okN_b (k := 2) (by decide)).mp q))]
        refine z_bt rfl rfl rfl ?_
        repeat first | refine z_i rfl rfl ?_ | refine m_gt hb rfl rfl ?_
        refine z_retZ rfl (Or.inl rfl) (Nat.zero_le _) (Nat.zero_le _) (h0 (fun q => ?_))
        obtain ⟨p0, q1, q2, q3⟩ := (okE_19.mp q).2
        exact g2 ⟨p0, q1, q2⟩
    · rw [(okH_b hmk).2 g1]
      refine z_bt rfl rfl rfl ?_
      repeat first | refine z_i rfl rfl ?_ | refine m_gt hb rfl rfl ?_
      exact z_retZ rfl (Or.inl rfl) (Nat.zero_le _) (Nat.zero_le _) (h0 (fun q => g1 ((okE_19.mp q).1)))
  · refine z_sw (t := 397) rfl (by decide) ?_
    repeat first | refine z_i rfl rfl ?_ | refine m_gt hb rfl rfl ?_
    refine z_cVk [.int ka] [] 1 0 0 rfl (m_obj hb) rfl rfl (Nat.le_of_ble_eq_true rfl) (Nat.le_of_ble_eq_true rfl) (by omega) (by omega) (by omega) (r_made hb (by omega) h5 hmk ⟨_, rfl, ?_⟩)
    by_cases g1 : okH mk ka
    · rw [(okH_b hmk).1 g1]
      refine z_bf rfl rfl (show ¬ (1 : Int32) = 0 by decide) ?_
      repeat first | refine z_i rfl rfl ?_ | refine m_gt hb rfl rfl ?_
      refine z_b rfl rfl (fun e1 => ?_) (fun e1 => ?_)
      · replace e1 : ¬ kb = -1 := e1
        repeat first | refine z_i rfl rfl ?_ | refine m_gt hb rfl rfl ?_
        refine z_cVk [.int kb] [] 1 0 0 rfl (m_obj hb) rfl rfl (Nat.le_of_ble_eq_true rfl) (Nat.le_of_ble_eq_true rfl) (by omega) (by omega) (by omega) (r_made hb (by omega) h5 hmk ⟨_, rfl, ?_⟩)
        by_cases g2 : okH mk kb
        · rw [(okH_b hmk).1 g2]
          refine z_bf rfl rfl (show ¬ (1 : Int32) = 0 by decide) ?_
          repeat first | refine z_i rfl rfl ?_ | refine m_gt hb rfl rfl ?_
          refine z_b rfl rfl (fun e2 => ?_) (fun e2 => ?_)
          · replace e2 : kc = -1 := e2
            repeat first | refine z_i rfl rfl ?_ | refine m_gt hb rfl rfl ?_
            refine z_j rfl ?_
            exact z_retZ rfl (Or.inr rfl) (Nat.zero_le _) (Nat.zero_le _) (h1 (okE_20.mpr ⟨g1, Or.inr ⟨g2, Or.inl e2⟩⟩))
          · replace e2 : ¬ kc = -1 := e2
            repeat first | refine z_i rfl rfl ?_ | refine m_gt hb rfl rfl ?_
            refine z_cVk [.int kc] [] 1 0 0 rfl (m_obj hb) rfl rfl (Nat.le_of_ble_eq_true rfl) (Nat.le_of_ble_eq_true rfl) (by omega) (by omega) (by omega) (r_made hb (by omega) h5 hmk ⟨_, rfl, ?_⟩)
            by_cases g3 : okH mk kc
            · rw [(okH_b hmk).1 g3]
              refine z_bf rfl rfl (show ¬ (1 : Int32) = 0 by decide) ?_
              repeat first | refine z_i rfl rfl ?_ | refine m_gt hb rfl rfl ?_
              refine z_j rfl ?_
              exact z_retZ rfl (Or.inr rfl) (Nat.zero_le _) (Nat.zero_le _) (h1 (okE_20.mpr ⟨g1, Or.inr ⟨g2, Or.inr g3⟩⟩))
            · rw [(okH_b hmk).2 g3]
              refine z_bt rfl rfl rfl ?_
              repeat first | refine z_i rfl rfl ?_ | refine m_gt hb rfl rfl ?_
              exact z_retZ rfl (Or.inl rfl) (Nat.zero_le _) (Nat.zero_le _) (h0 (fun q => ((okE_20.mp q).2).elim (fun t => e1 t.1) (fun t => t.2.elim e2 g3)))
        · rw [(okH_b hmk).2 g2]
          refine z_bt rfl rfl rfl ?_
          repeat first | refine z_i rfl rfl ?_ | refine m_gt hb rfl rfl ?_
          exact z_retZ rfl (Or.inl rfl) (Nat.zero_le _) (Nat.zero_le _) (h0 (fun q => ((okE_20.mp q).2).elim (fun t => e1 t.1) (fun t => g2 t.1)))
      · replace e1 : kb = -1 := Classical.not_not.mp e1
        repeat first | refine z_i rfl rfl ?_ | refine m_gt hb rfl rfl ?_
        refine z_b rfl rfl (fun e2 => ?_) (fun e2 => ?_)
        · replace e2 : ¬ kc = -1 := e2
          repeat first | refine z_i rfl rfl ?_ | refine m_gt hb rfl rfl ?_
          exact z_retZ rfl (Or.inl rfl) (Nat.zero_le _) (Nat.zero_le _) (h0 (fun q => ((okE_20.mp q).2).elim (fun t => e2 t.2) (fun t => by obtain ⟨⟨z, z1, z2⟩, _⟩ := t; rw [e1] at z2; exact nI_n1 (j := z) (by omega) z2.symm)))
        · replace e2 : kc = -1 := Classical.not_not.mp e2
          refine z_j rfl ?_
          repeat first | refine z_i rfl rfl ?_ | refine m_gt hb rfl rfl ?_
          refine z_j rfl ?_
          exact z_retZ rfl (Or.inr rfl) (Nat.zero_le _) (Nat.zero_le _) (h1 (okE_20.mpr ⟨g1, Or.inl ⟨e1, e2⟩⟩))
    · rw [(okH_b hmk).2 g1]
      refine z_bt rfl rfl rfl ?_
      repeat first | refine z_i rfl rfl ?_ | refine m_gt hb rfl rfl ?_
      exact z_retZ rfl (Or.inl rfl) (Nat.zero_le _) (Nat.zero_le _) (h0 (fun q => g1 ((okE_20.mp q).1)))
  · refine z_sw (t := 131) rfl (by decide) ?_
    repeat first | refine z_i rfl rfl ?_ | refine m_gt hb rfl rfl ?_
    refine z_cSk [.int ka, .int 0, .int 9] [] 0 0 0 rfl rfl rfl (Nat.le_of_ble_eq_true rfl) (Nat.le_of_ble_eq_true rfl) (by omega) (by omega) (by omega) (r_between dA 0 _ _ _ _ _ ⟨_, rfl, ?_⟩)
    by_cases g : okV ka
    · rw [p_btw_r.1 (okV_b.mpr g)]
      exact z_retZ rfl (Or.inr rfl) (Nat.zero_le _) (Nat.zero_le _) (h1 (okE_21.mpr g))
    · rw [p_btw_r.2 (fun q => g (okV_b.mp q))]
      exact z_retZ rfl (Or.inl rfl) (Nat.zero_le _) (Nat.zero_le _) (h0 (fun q => g (okE_21.mp q)))
  · refine z_sw (t := 259) rfl (by decide) ?_
    repeat first | refine z_i rfl rfl ?_ | refine m_gt hb rfl rfl ?_
    refine z_cVk [.int ka] [] 1 0 0 rfl (m_obj hb) rfl rfl (Nat.le_of_ble_eq_true rfl) (Nat.le_of_ble_eq_true rfl) (by omega) (by omega) (by omega) (r_made hb (by omega) h5 hmk ⟨_, rfl, ?_⟩)
    by_cases g : okH mk ka
    · rw [(okH_b hmk).1 g]
      exact z_retZ rfl (Or.inr rfl) (Nat.zero_le _) (Nat.zero_le _) (h1 (okE_22.mpr g))
    · rw [(okH_b hmk).2 g]
      exact z_retZ rfl (Or.inl rfl) (Nat.zero_le _) (Nat.zero_le _) (h0 (fun q => g (okE_22.mp q)))
  · refine z_sw (t := 259) rfl (by decide) ?_
    repeat first | refine z_i rfl rfl ?_ | refine m_gt hb rfl rfl ?_
    refine z_cVk [.int ka] [] 1 0 0 rfl (m_obj hb) rfl rfl (Nat.le_of_ble_eq_true rfl) (Nat.le_of_ble_eq_true rfl) (by omega) (by omega) (by omega) (r_made hb (by omega) h5 hmk ⟨_, rfl, ?_⟩)
    by_cases g : okH mk ka
    · rw [(okH_b hmk).1 g]
      exact z_retZ rfl (Or.inr rfl) (Nat.zero_le _) (Nat.zero_le _) (h1 (okE_23.mpr g))
    · rw [(okH_b hmk).2 g]
      exact z_retZ rfl (Or.inl rfl) (Nat.zero_le _) (Nat.zero_le _) (h0 (fun q => g (okE_23.mp q)))
  · refine z_sw (t := 265) rfl (by decide) ?_
    repeat first | refine z_i rfl rfl ?_ | refine m_gt hb rfl rfl ?_
    refine z_cVk [.int ka] [] 1 0 0 rfl (m_obj hb) rfl rfl (Nat.le_of_ble_eq_true rfl) (Nat.le_of_ble_eq_true rfl) (by omega) (by omega) (by omega) (r_made hb (by omega) h5 hmk ⟨_, rfl, ?_⟩)
    by_cases g1 : okH mk ka
    · rw [(okH_b hmk).1 g1]
      refine z_bf rfl rfl (show ¬ (1 : Int32) = 0 by decide) ?_
      repeat first | refine z_i rfl rfl ?_ | refine m_gt hb rfl rfl ?_
      refine z_cVk [.int kb] [] 1 0 0 rfl (m_obj hb) rfl rfl (Nat.le_of_ble_eq_true rfl) (Nat.le_of_ble_eq_true rfl) (by omega) (by omega) (by omega) (r_made hb (by omega) h5 hmk ⟨_, rfl, ?_⟩)
      by_cases g2 : okH mk kb
      · rw [(okH_b hmk).1 g2]
        refine z_bf rfl rfl (show ¬ (1 : Int32) = 0 by decide) ?_
        repeat first | refine z_i rfl rfl ?_ | refine m_gt hb rfl rfl ?_
        refine z_j rfl ?_
        exact z_retZ rfl (Or.inr rfl) (Nat.zero_le _) (Nat.zero_le _) (h1 (okE_24.mpr ⟨g1, g2⟩))
      · rw [(okH_b hmk).2 g2]
        refine z_bt rfl rfl rfl ?_
        repeat first | refine z_i rfl rfl ?_ | refine m_gt hb rfl rfl ?_
        exact z_retZ rfl (Or.inl rfl) (Nat.zero_le _) (Nat.zero_le _) (h0 (fun q => g2 ((okE_24.mp q).2)))
    · rw [(okH_b hmk).2 g1]
      refine z_bt rfl rfl rfl ?_
      repeat first | refine z_i rfl rfl ?_ | refine m_gt hb rfl rfl ?_
      exact z_retZ rfl (Or.inl rfl) (Nat.zero_le _) (Nat.zero_le _) (h0 (fun q => g1 ((okE_24.mp q).1)))
  · refine z_sw (t := 265) rfl (by decide) ?_
    repeat first | refine z_i rfl rfl ?_ | refine m_gt hb rfl rfl ?_
    refine z_cVk [.int ka] [] 1 0 0 rfl (m_obj hb) rfl rfl (Nat.le_of_ble_eq_true rfl) (Nat.le_of_ble_eq_true rfl) (by omega) (by omega) (by omega) (r_made hb (by omega) h5 hmk ⟨_, rfl, ?_⟩)
    by_cases g1 : okH mk ka
    · rw [(okH_b hmk).1 g1]
      refine z_bf rfl rfl (show ¬ (1 : Int32) = 0 by decide) ?_
      repeat first | refine z_i rfl rfl ?_ | refine m_gt hb rfl rfl ?_
      refine z_cVk [.int kb] [] 1 0 0 rfl (m_obj hb) rfl rfl (Nat.le_of_ble_eq_true rfl) (Nat.le_of_ble_eq_true rfl) (by omega) (by omega) (by omega) (r_made hb (by omega) h5 hmk ⟨_, rfl, ?_⟩)
      by_cases g2 : okH mk kb
      · rw [(okH_b hmk).1 g2]
        refine z_bf rfl rfl (show ¬ (1 : Int32) = 0 by decide) ?_
        repeat first | refine z_i rfl rfl ?_ | refine m_gt hb rfl rfl ?_
        refine z_j rfl ?_
        exact z_retZ rfl (Or.inr rfl) (Nat.zero_le _) (Nat.zero_le _) (h1 (okE_25.mpr ⟨g1, g2⟩))
      · rw [(okH_b hmk).2 g2]
        refine z_bt rfl rfl rfl ?_
        repeat first | refine z_i rfl rfl ?_ | refine m_gt hb rfl rfl ?_
        exact z_retZ rfl (Or.inl rfl) (Nat.zero_le _) (Nat.zero_le _) (h0 (fun q => g2 ((okE_25.mp q).2)))
    · rw [(okH_b hmk).2 g1]
      refine z_bt rfl rfl rfl ?_
      repeat first | refine z_i rfl rfl ?_ | refine m_gt hb rfl rfl ?_
      exact z_retZ rfl (Or.inl rfl) (Nat.zero_le _) (Nat.zero_le _) (h0 (fun q => g1 ((okE_25.mp q).1)))
end FT
