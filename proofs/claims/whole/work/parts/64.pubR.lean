/-! the reference's public methods, over an idle state -/
section RP
variable {dA : Nat → ClassId} {b : Nat → Nat} {w : ww_W} {P : aP} {mk B : Nat} {res : rP} {S : mm} {s : aS} {d : Nat} {Q : zQ} {k ka kb kc : Int32}
def IDL (P : aP) (mk B : Nat) (res : rP) (S : mm) (s : aS) : Prop := MR P mk B res 1000 (jI S 0 0) [] none s ∧ S.1 31 = sX s
theorem r_thrownR (hb : mB b) : zpure dA d M_VectorLanguageModel_thrown 1 [.ref (b 0)] (mw dA b w S) (some (.int (S.1 0))) := by
  intro Q hq
  repeat first | refine z_i rfl rfl ?_ | refine m_gt hb rfl rfl ?_
  exact z_retI rfl (Nat.zero_le _) (Nat.zero_le _) hq
theorem r_failureR (hb : mB b) (hQ : Q (.inl (some (.int (S.1 31)))) (mw dA b w (jI S 0 0)) 0 0) : zx dA d 0 0 M_VectorLanguageModel_failure 0 (zargs 1 [.ref (b 0)]) [] (mw dA b w S) 0 0 Q := by
  repeat first | refine z_i rfl rfl ?_ | refine m_gt hb rfl rfl ?_
  refine m_pt hb rfl rfl ?_
  repeat first | refine z_i rfl rfl ?_ | refine m_gt hb rfl rfl ?_
  exact z_retI rfl (Nat.zero_le _) (Nat.zero_le _) hQ
theorem r_countR (hb : mB b) (hd : 1 ≤ d) (h : IDL P mk B res S s) (h1 : (¬ k = 0 ∧ ¬ k = 1 ∧ ¬ k = 2 ∧ ¬ k = 3) → Q (.inl (some (.int 0))) (mw dA b w (jI S 0 1)) 0 0) (h2 : ∀ z : Nat, (k = 0 ∧ z = mk ∨ k = 1 ∧ z = sN s ∨ k = 2 ∧ z = sT s ∨ k = 3 ∧ z = sA s) → Q (.inl (some (.int (nI z)))) (mw dA b w (jI S 0 0)) 0 0) : zx dA d 0 0 M_VectorLanguageModel_count 0 (zargs 2 [.ref (b 0), .int k]) [] (mw dA b w S) 0 0 Q := by
  obtain ⟨_, _, a3, a4, _, a6, a7, _⟩ := h.1.1
  repeat first | refine z_i rfl rfl ?_ | refine m_gt hb rfl rfl ?_
  refine m_pt hb rfl rfl ?_
  repeat first | refine z_i rfl rfl ?_ | refine m_gt hb rfl rfl ?_
  by_cases k0 : k = 0
  · subst k0
    refine z_sw (t := 36) rfl (by decide) ?_
    repeat first | refine z_i rfl rfl ?_ | refine m_gt hb rfl rfl ?_
    rw [show (jI S 0 0).1 5 = nI mk from a7]
    exact z_retI rfl (Nat.zero_le _) (Nat.zero_le _) (h2 mk (Or.inl ⟨rfl, rfl⟩))
  by_cases k1 : k = 1
  · subst k1
    refine z_sw (t := 41) rfl (by decide) ?_
    repeat first | refine z_i rfl rfl ?_ | refine m_gt hb rfl rfl ?_
    rw [show (jI S 0 0).1 14 = nI (sN s) from a6]
    exact z_retI rfl (Nat.zero_le _) (Nat.zero_le _) (h2 (sN s) (Or.inr (Or.inl ⟨rfl, rfl⟩)))
  by_cases k2 : k = 2
  · subst k2
    refine z_sw (t := 46) rfl (by decide) ?_
    repeat first | refine z_i rfl rfl ?_ | refine m_gt hb rfl rfl ?_
    rw [show (jI S 0 0).1 27 = nI (sT s) from a3]
    exact z_retI rfl (Nat.zero_le _) (Nat.zero_le _) (h2 (sT s) (Or.inr (Or.inr (Or.inl ⟨rfl, rfl⟩))))
  by_cases k3 : k = 3
  · subst k3
    refine z_sw (t := 51) rfl (by decide) ?_
    repeat first | refine z_i rfl rfl ?_ | refine m_gt hb rfl rfl ?_
    rw [show (jI S 0 0).1 28 = nI (sA s) from a4]
    exact z_retI rfl (Nat.zero_le _) (Nat.zero_le _) (h2 (sA s) (Or.inr (Or.inr (Or.inr ⟨rfl, rfl⟩))))
  have n0 : ¬ k.toInt = 0 := fun q => k0 (Int32.toInt_inj.mp (q.trans (by decide)))
  have n1 : ¬ k.toInt = 1 := fun q => k1 (Int32.toInt_inj.mp (q.trans (by decide)))
  have n2 : ¬ k.toInt = 2 := fun q => k2 (Int32.toInt_inj.mp (q.trans (by decide)))
  have n3 : ¬ k.toInt = 3 := fun q => k3 (Int32.toInt_inj.mp (q.trans (by decide)))
  refine z_sw (t := 56) rfl ?_ ?_
  · rw [zswt_ne n0, zswt_ne n1, zswt_ne n2, zswt_ne n3]
    rfl
  repeat first | refine z_i rfl rfl ?_ | refine m_gt hb rfl rfl ?_
  refine z_cVk [.int 1] [] 0 0 0 rfl (m_obj hb) rfl rfl (Nat.le_of_ble_eq_true rfl) (Nat.le_of_ble_eq_true rfl) (by omega) (by omega) (by omega) (r_raise2 hb ⟨_, rfl, ?_⟩)
  rw [jI_I]
  exact z_retI rfl (Nat.zero_le _) (Nat.zero_le _) (h1 ⟨k0, k1, k2, k3⟩)
theorem kr {xs : List Int32} (hx : xs.length ≤ 16) : (¬ k < 0 ∧ k < nI xs.length) ↔ ∃ j : Nat, j < xs.length ∧ k = nI j := by
  constructor
  · rintro ⟨h1, h2⟩
    obtain ⟨j, j1, j2⟩ := nI_of h1
    rw [j2, nI_ltI (by omega) (by omega)] at h2
    exact ⟨j, h2, j2⟩
  · rintro ⟨j, j1, j2⟩
    rw [j2]
    exact ⟨nI_pos (by omega), nI_lt j1 (by omega)⟩
theorem r_elementR (hb : mB b) (hd : 1 ≤ d) (h : IDL P mk B res S s) (h1 : (∀ xs, ¬ res.1 = some (.inl xs)) → Q (.inl (some (.int 0))) (mw dA b w (jI S 0 1)) 0 0) (h2 : ∀ xs, res.1 = some (.inl xs) → ¬ (∃ j : Nat, j < xs.length ∧ k = nI j) → Q (.inl (some (.int 0))) (mw dA b w (jI S 0 2)) 0 0) (h3 : ∀ (xs : List Int32) (j : Nat), res.1 = some (.inl xs) → j < xs.length → k = nI j → Q (.inl (some (.int (p_at xs j)))) (mw dA b w (jI S 0 0)) 0 0) : zx dA d 0 0 M_VectorLanguageModel_element 0 (zargs 2 [.ref (b 0), .int k]) [] (mw dA b w S) 0 0 Q := by
  have hv := h.1.2.2.1.2.2.1
  have hbad : (∀ xs, ¬ res.1 = some (.inl xs)) → zx dA d 0 0 M_VectorLanguageModel_element 24 (zargs 2 [.ref (b 0), .int k]) [] (mw dA b w (jI S 0 0)) 0 0 Q := by
    intro hn
    repeat first | refine z_i rfl rfl ?_ | refine m_gt hb rfl rfl ?_
    refine z_cVk [.int 1] [] 0 0 0 rfl (m_obj hb) rfl rfl (Nat.le_of_ble_eq_true rfl) (Nat.le_of_ble_eq_true rfl) (by omega) (by omega) (by omega) (r_raise2 hb ⟨_, rfl, ?_⟩)
    rw [jI_I]
    exact z_retI rfl (Nat.zero_le _) (Nat.zero_le _) (h1 hn)
  obtain ⟨ro, rn⟩ := res
  dsimp only at hv hbad h1 h2 h3
  repeat first | refine z_i rfl rfl ?_ | refine m_gt hb rfl rfl ?_
  refine m_pt hb rfl rfl ?_
  repeat first | refine z_i rfl rfl ?_ | refine m_gt hb rfl rfl ?_
  cases ro with
  | none =>
    refine z_bt rfl rfl (show S.1 30 < 0 by rw [show S.1 30 = -1 from hv]; decide) ?_
    exact hbad (fun xs q => by cases q)
  | some v =>
    obtain ⟨j, j1, j2, j3, j4, j5⟩ := hv
    refine z_bf rfl rfl (show ¬ S.1 30 < 0 by rw [show S.1 30 = nI j from j1]; exact nI_pos (by omega)) ?_
    repeat first | refine z_i rfl rfl ?_ | refine m_gt hb rfl rfl ?_
    cases v with
    | inr fn =>
      refine m_ldv hb (S := jI S 0 0) (j := j) rfl rfl j1 j2 j5.1 ?_
      refine z_bf rfl rfl (by decide) ?_
      exact hbad (fun xs q => by cases q)
    | inl xs =>
      obtain ⟨x1, x2, x3⟩ := j5
      have hx16 := x2.1
      refine m_ldv hb (S := jI S 0 0) (j := j) rfl rfl j1 j2 x1 ?_
      refine z_bt rfl rfl (nI_pos' (by omega)) ?_
      have hno : ¬ (∃ j : Nat, j < xs.length ∧ k = nI j) → zx dA d 0 0 M_VectorLanguageModel_element 47 (zargs 2 [.ref (b 0), .int k]) [] (mw dA b w (jI S 0 0)) 0 0 Q := by
        intro hn
        repeat first | refine z_i rfl rfl ?_ | refine m_gt hb rfl rfl ?_
        refine z_cVk [.int 2] [] 0 0 0 rfl (m_obj hb) rfl rfl (Nat.le_of_ble_eq_true rfl) (Nat.le_of_ble_eq_true rfl) (by omega) (by omega) (by omega) (r_raise2 hb ⟨_, rfl, ?_⟩)
        refine z_j rfl ?_
        rw [jI_I]
        exact z_retI rfl (Nat.zero_le _) (Nat.zero_le _) (h2 xs rfl hn)
      repeat first | refine z_i rfl rfl ?_ | refine m_gt hb rfl rfl ?_
      refine z_b rfl rfl (fun q => hno (fun q2 => ((kr hx16).mpr q2).1 q)) (fun q => ?_)
      repeat first | refine z_i rfl rfl ?_ | refine m_gt hb rfl rfl ?_
      refine m_ldv hb (S := jI S 0 0) (j := j) rfl rfl j1 j2 x1 ?_
      refine z_b rfl rfl (fun q2 => ?_) (fun q2 => hno (fun q3 => q2 ((kr hx16).mpr q3).2))
      obtain ⟨t, t1, t2⟩ := (kr hx16).mp ⟨q, q2⟩
      repeat first | refine z_i rfl rfl ?_ | refine m_gt hb rfl rfl ?_
      rw [show (jI S 0 0).1 30 = nI j from j1, t2]
      refine z_cVk [.int (nI j), .int (nI t)] [] 0 0 0 rfl (m_obj hb) rfl rfl (Nat.le_of_ble_eq_true rfl) (Nat.le_of_ble_eq_true rfl) (by omega) (by omega) (by omega) (r_atv (S := jI S 0 0) hb (x3 t t1) j2 (by omega) _ ⟨_, rfl, ?_⟩)
      exact z_retI rfl (Nat.zero_le _) (Nat.zero_le _) (h3 xs t rfl t1 t2)
theorem gl_slot {j : Nat} (h : MR P mk B res 1000 S [] none s) (hg : gl s) (hj : j < 10) : (sL s 0 j = none ∧ S.2.2.2 15 j = 0) ∨ ∃ v : aV, sL s 0 j = some (.inl v) ∧ S.2.2.2 15 j = 1 ∧ VR P mk (sN s) 1000 S (S.2.2.2 16 j) v := by
  have hs := h.2.2.2.2.1.1 0 j (Nat.zero_le _) hj
  rw [show 10 * 0 + j = j by omega] at hs
  cases hl : sL s 0 j with
  | none => rw [hl] at hs; exact Or.inl ⟨rfl, hs⟩
  | some l =>
    cases l with
    | inl v => rw [hl] at hs; exact Or.inr ⟨v, rfl, hs.1, hs.2⟩
    | inr a => exact absurd hl (hg j a)
theorem r_variableR (hb : mB b) (hd : 1 ≤ d) (h : IDL P mk B res S s) (hg : gl s) (h1 : ¬ okV k → Q (.inl (some (.int 0))) (mw dA b w (jI S 0 1)) 0 0) (h2 : ∀ j : Nat, j < 10 → k = nI j → sL s 0 j = none → Q (.inl (some (.int (-2)))) (mw dA b w (jI S 0 0)) 0 0) (h3 : ∀ (j : Nat) (v : aV), j < 10 → k = nI j → sL s 0 j = some (.inl v) → Q (.inl (some (.int (vsz v)))) (mw dA b w (jI S 0 0)) 0 0) : zx dA d 0 0 M_VectorLanguageModel_variable 0 (zargs 2 [.ref (b 0), .int k]) [] (mw dA b w S) 0 0 Q := by
  repeat first | refine z_i rfl rfl ?_ | refine m_gt hb rfl rfl ?_
  refine m_pt hb rfl rfl ?_
  repeat first | refine z_i rfl rfl ?_ | refine m_gt hb rfl rfl ?_
  refine z_cSk [.int k, .int 0, .int 9] [] 0 0 0 rfl rfl rfl (Nat.le_of_ble_eq_true rfl) (Nat.le_of_ble_eq_true rfl) (by omega) (by omega) (by omega) (r_between dA 0 _ _ _ _ _ ⟨_, rfl, ?_⟩)
  by_cases hv : okV k
  · rw [(p_btw_r (z := k) (lo := 0) (hi := 9)).1 (okV_b.mpr hv)]
    obtain ⟨j, hj, rfl⟩ := hv
    refine z_bt rfl rfl (show ¬ (1 : Int32) = 0 by decide) ?_
    repeat first | refine z_i rfl rfl ?_ | refine m_gt hb rfl rfl ?_
    rcases gl_slot h.1 hg hj with ⟨g1, g2⟩ | ⟨v, g1, g2, z, z1, z2, z3, z4, z5⟩
    · refine m_ldv hb (S := jI S 0 0) (j := j) rfl rfl rfl (show j < 910 by omega) g2 ?_
      refine z_bf rfl rfl (fun q => q rfl) ?_
      refine z_i rfl rfl ?_
      refine z_j rfl ?_
      exact z_retI rfl (Nat.zero_le _) (Nat.zero_le _) (h2 j hj rfl g1)
    · have hsz : (jI S 0 0).2.2.2 7 z = vsz v := by
        cases v with
        | inl xs => exact z5.1
        | inr fn => exact z5.1
      refine m_ldv hb (S := jI S 0 0) (j := j) rfl rfl rfl (show j < 910 by omega) g2 ?_
      refine z_bt rfl rfl (show ¬ (1 : Int32) = 0 by decide) ?_
      repeat first | refine z_i rfl rfl ?_ | refine m_gt hb rfl rfl ?_
      refine m_ldv hb (S := jI S 0 0) (j := j) rfl rfl rfl (show j < 910 by omega) z1 ?_
      refine m_ldv hb (S := jI S 0 0) (j := z) rfl rfl rfl z2 hsz ?_
      exact z_retI rfl (Nat.zero_le _) (Nat.zero_le _) (h3 j v hj rfl g1)
  · rw [(p_btw_r (z := k) (lo := 0) (hi := 9)).2 (fun q => hv (okV_b.mp q))]
    refine z_bf rfl rfl (fun q => q rfl) ?_
    repeat first | refine z_i rfl rfl ?_ | refine m_gt hb rfl rfl ?_
    refine z_cVk [.int 1] [] 0 0 0 rfl (m_obj hb) rfl rfl (Nat.le_of_ble_eq_true rfl) (Nat.le_of_ble_eq_true rfl) (by omega) (by omega) (by omega) (r_raise2 hb ⟨_, rfl, ?_⟩)
    rw [jI_I]
    exact z_retI rfl (Nat.zero_le _) (Nat.zero_le _) (h1 hv)
theorem r_valueR (hb : mB b) (hd : 1 ≤ d) (h : IDL P mk B res S s) (hg : gl s) (h1 : ¬ okV ka → Q (.inl (some (.int 0))) (mw dA b w (jI S 0 1)) 0 0) (h2 : ∀ j : Nat, j < 10 → ka = nI j → ¬ (∃ (xs : List Int32) (t : Nat), sL s 0 j = some (.inl (.inl xs)) ∧ t < xs.length ∧ k = nI t) → Q (.inl (some (.int 0))) (mw dA b w (jI S 0 2)) 0 0) (h3 : ∀ (j : Nat) (xs : List Int32) (t : Nat), j < 10 → ka = nI j → sL s 0 j = some (.inl (.inl xs)) → t < xs.length → k = nI t → Q (.inl (some (.int (p_at xs t)))) (mw dA b w (jI S 0 0)) 0 0) : zx dA d 0 0 M_VectorLanguageModel_value 0 (zargs 3 [.ref (b 0), .int ka, .int k]) [] (mw dA b w S) 0 0 Q := by
  repeat first | refine z_i rfl rfl ?_ | refine m_gt hb rfl rfl ?_
  refine m_pt hb rfl rfl ?_
  repeat first | refine z_i rfl rfl ?_ | refine m_gt hb rfl rfl ?_
  refine z_cSk [.int ka, .int 0, .int 9] [] 0 0 0 rfl rfl rfl (Nat.le_of_ble_eq_true rfl) (Nat.le_of_ble_eq_true rfl) (by omega) (by omega) (by omega) (r_between dA 0 _ _ _ _ _ ⟨_, rfl, ?_⟩)
  by_cases hv : okV ka
  · rw [(p_btw_r (z := ka) (lo := 0) (hi := 9)).1 (okV_b.mpr hv)]
    obtain ⟨j, hj, rfl⟩ := hv
    refine z_bt rfl rfl (show ¬ (1 : Int32) = 0 by decide) ?_
    have hno : ¬ (∃ (xs : List Int32) (t : Nat), sL s 0 j = some (.inl (.inl xs)) ∧ t < xs.length ∧ k = nI t) → zx dA d 0 0 M_VectorLanguageModel_value 49 (zargs 3 [.ref (b 0), .int (nI j), .int k]) [] (mw dA b w (jI S 0 0)) 0 0 Q := by
      intro hn
      repeat first | refine z_i rfl rfl ?_ | refine m_gt hb rfl rfl ?_
      refine z_cVk [.int 2] [] 0 0 0 rfl (m_obj hb) rfl rfl (Nat.le_of_ble_eq_true rfl) (Nat.le_of_ble_eq_true rfl) (by omega) (by omega) (by omega) (r_raise2 hb ⟨_, rfl, ?_⟩)
      rw [jI_I]
      exact z_retI rfl (Nat.zero_le _) (Nat.zero_le _) (h2 j hj rfl hn)
    repeat first | refine z_i rfl rfl ?_ | refine m_gt hb rfl rfl ?_
    rcases gl_slot h.1 hg hj with ⟨g1, g2⟩ | ⟨v, g1, g2, z, z1, z2, z3, z4, z5⟩
    · refine m_ldv hb (S := jI S 0 0) (j := j) rfl rfl rfl (show j < 910 by omega) g2 ?_
      refine z_bt rfl rfl rfl ?_
      refine hno (fun ⟨xs, t, q, _⟩ => ?_)
      rw [g1] at q
      cases q
    · refine m_ldv hb (S := jI S 0 0) (j := j) rfl rfl rfl (show j < 910 by omega) g2 ?_
      refine z_bf rfl rfl (show ¬ (1 : Int32) = 0 by decide) ?_
      cases v with
      | inr fn =>
        have hno2 := hno (fun ⟨xs, t, q, _⟩ => by rw [g1] at q; cases q)
        repeat first | refine z_i rfl rfl ?_ | refine m_gt hb rfl rfl ?_
        refine z_b rfl rfl (fun _ => hno2) (fun q => ?_)
        repeat first | refine z_i rfl rfl ?_ | refine m_gt hb rfl rfl ?_
        refine m_ldv hb (S := jI S 0 0) (j := j) rfl rfl rfl (show j < 910 by omega) z1 ?_
        refine m_ldv hb (S := jI S 0 0) (j := z) rfl rfl rfl z2 z5.1 ?_
        refine z_bf rfl rfl (fun q2 => q ?_) hno2
        replace q2 : k < -1 := q2
        rw [Int32.lt_iff_toInt_lt, show (-1 : Int32).toInt = -1 by decide] at q2
        show k < 0
        rw [Int32.lt_iff_toInt_lt, show (0 : Int32).toInt = 0 by decide]
        omega
      | inl xs =>
        obtain ⟨x1, x2, x3⟩ := z5
        have hx16 := x2.1
        have hiff : (∃ (ys : List Int32) (t : Nat), sL s 0 j = some (.inl (.inl ys)) ∧ t < ys.length ∧ k = nI t) → ∃ t : Nat, t < xs.length ∧ k = nI t := by
          rintro ⟨ys, t, q1, q2, q3⟩
          rw [g1] at q1
          cases q1
          exact ⟨t, q2, q3⟩
        repeat first | refine z_i rfl rfl ?_ | refine m_gt hb rfl rfl ?_
        refine z_b rfl rfl (fun q => hno (fun q2 => ((kr hx16).mpr (hiff q2)).1 q)) (fun q => ?_)
        repeat first | refine z_i rfl rfl ?_ | refine m_gt hb rfl rfl ?_
        refine m_ldv hb (S := jI S 0 0) (j := j) rfl rfl rfl (show j < 910 by omega) z1 ?_
        refine m_ldv hb (S := jI S 0 0) (j := z) rfl rfl rfl z2 x1 ?_
        refine z_b rfl rfl (fun q2 => ?_) (fun q2 => hno (fun q3 => q2 ((kr hx16).mpr (hiff q3)).2))
        obtain ⟨t, t1, t2⟩ := (kr hx16).mp ⟨q, q2⟩
        repeat first | refine z_i rfl rfl ?_ | refine m_gt hb rfl rfl ?_
        refine m_ldv hb (S := jI S 0 0) (j := j) rfl rfl rfl (show j < 910 by omega) z1 ?_
        repeat first | refine z_i rfl rfl ?_ | refine m_gt hb rfl rfl ?_
        rw [t2]
        refine z_cVk [.int (nI z), .int (nI t)] [] 0 0 0 rfl (m_obj hb) rfl rfl (Nat.le_of_ble_eq_true rfl) (Nat.le_of_ble_eq_true rfl) (by omega) (by omega) (by omega) (r_atv (S := jI S 0 0) hb (x3 t t1) z2 (by omega) _ ⟨_, rfl, ?_⟩)
        rw [← t2]
        exact z_retI rfl (Nat.zero_le _) (Nat.zero_le _) (h3 j xs t hj rfl g1 t1 t2)
  · rw [(p_btw_r (z := ka) (lo := 0) (hi := 9)).2 (fun q => hv (okV_b.mp q))]
    refine z_bf rfl rfl (fun q => q rfl) ?_
    repeat first | refine z_i rfl rfl ?_ | refine m_gt hb rfl rfl ?_
    refine z_cVk [.int 1] [] 0 0 0 rfl (m_obj hb) rfl rfl (Nat.le_of_ble_eq_true rfl) (Nat.le_of_ble_eq_true rfl) (by omega) (by omega) (by omega) (r_raise2 hb ⟨_, rfl, ?_⟩)
    rw [jI_I]
    exact z_retI rfl (Nat.zero_le _) (Nat.zero_le _) (h1 hv)
end RP
