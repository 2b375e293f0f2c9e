/-! the class's public methods -/
section PC
variable {dA : Nat → ClassId} {U : yU} {c : Nat → Nat} {P : aP} {mk : Nat} {w : ww_W} {G : gG} {s : aS} {K N d v : Nat} {Q : zQ} {k ka kb kc x : Int32} {la : Value} {r : Option aV}
/-- which class of throws tells a failure -/
def yref (x : Int32) : Nat := if x = 4 then 2 else if x = 1 then 3 else if x = 8 then 3 else if x = 2 then 1 else if x = 9 then 1 else if x = 3 then 4 else if x = 6 then 4 else 5
theorem c_refuse (hd : 8 ≤ d) (hK : 1 ≤ K) (hN : 6 ≤ N) (hQ : Q (.inr (yref x)) w 0 0) : zy dA U d K N Y_refuse 0 (zargs 1 [.int x]) [] w 0 0 Q := by
  repeat refine y_i rfl rfl ?_
  by_cases k1 : x = 1
  · subst k1
    refine y_sw (t := 52) rfl (by decide) ?_
    exact y_thr rfl hd (by omega) (by omega) hQ
  by_cases k2 : x = 2
  · subst k2
    refine y_sw (t := 62) rfl (by decide) ?_
    exact y_thr rfl hd (by omega) (by omega) hQ
  by_cases k3 : x = 3
  · subst k3
    refine y_sw (t := 72) rfl (by decide) ?_
    exact y_thr rfl hd (by omega) (by omega) hQ
  by_cases k4 : x = 4
  · subst k4
    refine y_sw (t := 82) rfl (by decide) ?_
    exact y_thr rfl hd (by omega) (by omega) hQ
  by_cases k6 : x = 6
  · subst k6
    refine y_sw (t := 72) rfl (by decide) ?_
    exact y_thr rfl hd (by omega) (by omega) hQ
  by_cases k8 : x = 8
  · subst k8
    refine y_sw (t := 52) rfl (by decide) ?_
    exact y_thr rfl hd (by omega) (by omega) hQ
  by_cases k9 : x = 9
  · subst k9
    refine y_sw (t := 62) rfl (by decide) ?_
    exact y_thr rfl hd (by omega) (by omega) hQ
  have hy : yref x = 5 := by
    unfold yref
    rw [if_neg k4, if_neg k1, if_neg k8, if_neg k2, if_neg k9, if_neg k3, if_neg k6]
  rw [hy] at hQ
  have n1 : ¬ x.toInt = 1 := fun q => k1 (Int32.toInt_inj.mp (q.trans (by decide)))
  have n2 : ¬ x.toInt = 2 := fun q => k2 (Int32.toInt_inj.mp (q.trans (by decide)))
  have n3 : ¬ x.toInt = 3 := fun q => k3 (Int32.toInt_inj.mp (q.trans (by decide)))
  have n4 : ¬ x.toInt = 4 := fun q => k4 (Int32.toInt_inj.mp (q.trans (by decide)))
  have n6 : ¬ x.toInt = 6 := fun q => k6 (Int32.toInt_inj.mp (q.trans (by decide)))
  have n8 : ¬ x.toInt = 8 := fun q => k8 (Int32.toInt_inj.mp (q.trans (by decide)))
  have n9 : ¬ x.toInt = 9 := fun q => k9 (Int32.toInt_inj.mp (q.trans (by decide)))
  refine y_sw (t := 92) rfl ?_ ?_
  · rw [zswt_ne n1, zswt_ne n2, zswt_ne n3, zswt_ne n4]
    by_cases k5 : x.toInt = 5
    · rw [k5]; rfl
    · rw [zswt_ne k5, zswt_ne n6]
      by_cases k7 : x.toInt = 7
      · rw [k7]; rfl
      · rw [zswt_ne k7, zswt_ne n8, zswt_ne n9]
        rfl
  exact y_thr rfl hd (by omega) (by omega) hQ
/-- the evaluator, the global environment and its row -/
theorem CI_glo (h : CI dA c P mk w G s) : ∃ (a b ou ca : Value) (hr : Nat → Option Nat), w (c 0) = some (.inr (C_Evaluator, evF c G s a b)) ∧ w (ge G 0) = some (.inr (C_Env, [.ref (gh G 0), ou, ca, .int (nI (sG s 0)), .int (if sO s 0 then 1 else 0)])) ∧ w (gh G 0) = some (.inl (dA 4, 10, .inr (.inr (.inr (.inr hr))))) ∧ ∀ j : Nat, j < 10 → rs dA c P mk w G s 0 j (hr j) (sL s 0 j) := by
  obtain ⟨⟨a, b, h1, _⟩, _, _, _, en, _⟩ := h
  obtain ⟨ou, ca, hr, e1, e2, _, e4⟩ := en 0 (Nat.zero_le _)
  exact ⟨a, b, ou, ca, hr, h1, e1, e2, e4⟩
theorem c_count (hd : 8 ≤ d) (hK : 1 ≤ K) (hN : 6 ≤ N) (h : CI dA c P mk w G s) (hv : w v = some (.inr (C_Main, [.ref (c 1), .ref (c 0), la]))) (h1 : (¬ k = 0 ∧ ¬ k = 1 ∧ ¬ k = 2 ∧ ¬ k = 3) → Q (.inr 0) w 0 0) (h2 : ∀ z : Nat, (k = 0 ∧ z = mk ∨ k = 1 ∧ z = sN s ∨ k = 2 ∧ z = sT s ∨ k = 3 ∧ z = sA s) → Q (.inl (some (.int (nI z)))) w 0 0) : zy dA U d K N Y_count 0 (zargs 2 [.ref v, .int k]) [] w 0 0 Q := by
  obtain ⟨a, b, ou, ca, hr, g1, g2, g3, g4⟩ := CI_glo h
  obtain ⟨_, ⟨hh, p1, _⟩, _⟩ := h
  repeat refine y_i rfl rfl ?_
  by_cases k0 : k = 0
  · subst k0
    refine y_sw (t := 32) rfl (by decide) ?_
    repeat refine y_i rfl rfl ?_
    refine y_get rfl hv rfl ?_
    refine y_get rfl p1 rfl ?_
    exact y_retI rfl (Nat.zero_le _) (Nat.zero_le _) (h2 mk (Or.inl ⟨rfl, rfl⟩))
  by_cases k1 : k = 1
  · subst k1
    refine y_sw (t := 40) rfl (by decide) ?_
    repeat refine y_i rfl rfl ?_
    refine y_get rfl hv rfl ?_
    refine y_get rfl g1 rfl ?_
    exact y_retI rfl (Nat.zero_le _) (Nat.zero_le _) (h2 (sN s) (Or.inr (Or.inl ⟨rfl, rfl⟩)))
  by_cases k2 : k = 2
  · subst k2
    refine y_sw (t := 48) rfl (by decide) ?_
    repeat refine y_i rfl rfl ?_
    refine y_get rfl hv rfl ?_
    refine y_get rfl g1 rfl ?_
    exact y_retI rfl (Nat.zero_le _) (Nat.zero_le _) (h2 (sT s) (Or.inr (Or.inr (Or.inl ⟨rfl, rfl⟩))))
  by_cases k3 : k = 3
  · subst k3
    refine y_sw (t := 56) rfl (by decide) ?_
    repeat refine y_i rfl rfl ?_
    refine y_get rfl hv rfl ?_
    refine y_get rfl g1 rfl ?_
    exact y_retI rfl (Nat.zero_le _) (Nat.zero_le _) (h2 (sA s) (Or.inr (Or.inr (Or.inr ⟨rfl, rfl⟩))))
  have n0 : ¬ k.toInt = 0 := fun q => k0 (Int32.toInt_inj.mp (q.trans (by decide)))
  have n1 : ¬ k.toInt = 1 := fun q => k1 (Int32.toInt_inj.mp (q.trans (by decide)))
  have n2 : ¬ k.toInt = 2 := fun q => k2 (Int32.toInt_inj.mp (q.trans (by decide)))
  have n3 : ¬ k.toInt = 3 := fun q => k3 (Int32.toInt_inj.mp (q.trans (by decide)))
  refine y_sw (t := 64) rfl ?_ ?_
  · rw [zswt_ne n0, zswt_ne n1, zswt_ne n2, zswt_ne n3]
    rfl
  exact y_thr rfl hd (by omega) (by omega) (h1 ⟨k0, k1, k2, k3⟩)
theorem c_element (hd : 8 ≤ d) (hK : 1 ≤ K) (hN : 6 ≤ N) (hv : w v = some (.inr (C_Main, [.ref (c 1), .ref (c 0), la]))) (hr : rvO dA c P mk w G s la r) (h1 : (∀ xs, ¬ r = some (.inl xs)) → Q (.inr 1) w 0 0) (h2 : ∀ xs, r = some (.inl xs) → ¬ (∃ j : Nat, j < xs.length ∧ k = nI j) → Q (.inr 3) w 0 0) (h3 : ∀ (xs : List Int32) (j : Nat), r = some (.inl xs) → j < xs.length → k = nI j → Q (.inl (some (.int (p_at xs j)))) w 0 0) : zy dA U d K N Y_element 0 (zargs 4 [.ref v, .int k]) [] w 0 0 Q := by
  repeat refine y_i rfl rfl ?_
  refine y_get rfl hv rfl ?_
  cases r with
  | none =>
    have e : la = .null := hr
    subst e
    repeat refine y_i rfl rfl ?_
    refine y_instN rfl ?_
    refine y_bt rfl rfl rfl ?_
    exact y_thr rfl hd (by omega) (by omega) (h1 (fun xs q => by cases q))
  | some z =>
    cases z with
    | inr fn =>
      obtain ⟨e, h5, _⟩ := hr
      subst e
      repeat refine y_i rfl rfl ?_
      refine y_instF rfl (by decide) h5 ?_
      refine y_bt rfl rfl rfl ?_
      exact y_thr rfl hd (by omega) (by omega) (h1 (fun xs q => by cases q))
    | inl xs =>
      obtain ⟨a, q, f, e, h5, h6, h7, h8, h9⟩ := hr
      subst e
      repeat refine y_i rfl rfl ?_
      refine y_instY rfl (by decide) h5 ?_
      refine y_bf rfl rfl (show ¬ (1 : Int32) = 0 by decide) ?_
      repeat refine y_i rfl rfl ?_
      refine y_cast rfl (by decide) h5 ?_
      repeat refine y_i rfl rfl ?_
      refine y_cVk [.int k] [] 0 0 0 rfl h5 rfl rfl (Nat.le_of_ble_eq_true rfl) (Nat.le_of_ble_eq_true rfl) (by omega) (by omega) (by omega) (r_hasPlace h5 h6 h9.1 (fun j j1 j2 => ⟨_, rfl, ?_⟩) (fun hn => ⟨_, rfl, ?_⟩))
      · refine y_bt rfl rfl (show ¬ (1 : Int32) = 0 by decide) ?_
        repeat refine y_i rfl rfl ?_
        refine y_get rfl h5 rfl ?_
        repeat refine y_i rfl rfl ?_
        refine y_iald rfl h6 j2 j1 (by have := h9.1; omega) ?_
        rw [h7 j j1]
        exact y_retI rfl (Nat.zero_le _) (Nat.zero_le _) (h3 xs j rfl j1 j2)
      · refine y_bf rfl rfl (fun q => q rfl) ?_
        exact y_thr rfl hd (by omega) (by omega) (h2 xs rfl hn)
theorem c_variable (hd : 8 ≤ d) (hK : 1 ≤ K) (hN : 6 ≤ N) (h : CI dA c P mk w G s) (hg : gl s) (hv : w v = some (.inr (C_Main, [.ref (c 1), .ref (c 0), la]))) (h1 : ¬ okV k → Q (.inr 0) w 0 0) (h2 : ∀ j : Nat, j < 10 → k = nI j → sL s 0 j = none → Q (.inl (some (.int (-2)))) w 0 0) (h3 : ∀ (j : Nat) (z : aV), j < 10 → k = nI j → sL s 0 j = some (.inl z) → Q (.inl (some (.int (vsz z)))) w 0 0) : zy dA U d K N Y_variable 0 (zargs 4 [.ref v, .int k]) [] w 0 0 Q := by
  obtain ⟨a, b, ou, ca, hr, g1, g2, g3, g4⟩ := CI_glo h
  repeat refine y_i rfl rfl ?_
  refine y_cSk [.int k] [] 0 0 0 rfl rfl rfl (Nat.le_of_ble_eq_true rfl) (Nat.le_of_ble_eq_true rfl) (by omega) (by omega) (by omega) (r_isVariable dA 0 k w _ ⟨_, rfl, ?_⟩)
  by_cases hk : okV k
  · rw [p_var_b.1 hk]
    obtain ⟨j, hj, rfl⟩ := hk
    refine y_bt rfl rfl (show ¬ (1 : Int32) = 0 by decide) ?_
    repeat refine y_i rfl rfl ?_
    refine y_get rfl hv rfl ?_
    refine y_get rfl g1 rfl ?_
    refine y_get rfl g2 rfl ?_
    repeat refine y_i rfl rfl ?_
    refine y_aald 4 rfl rfl g3 rfl hj (by omega) rfl ?_
    have hs := g4 j hj
    cases hl : sL s 0 j with
    | none =>
      rw [hl] at hs
      have e : hr j = none := hs
      rw [e]
      repeat refine y_i rfl rfl ?_
      refine y_instN rfl ?_
      refine y_bt rfl rfl rfl ?_
      repeat refine y_i rfl rfl ?_
      exact y_retI rfl (Nat.zero_le _) (Nat.zero_le _) (h2 j hj rfl hl)
    | some y =>
      cases y with
      | inr a9 => exact absurd hl (hg j a9)
      | inl z =>
        rw [hl] at hs
        obtain ⟨q, e, hz⟩ := hs
        rw [e]
        cases z with
        | inl xs =>
          obtain ⟨a2, q2, f, e2, z2, z3, z4, z5, z6⟩ := hz
          cases e2
          repeat refine y_i rfl rfl ?_
          refine y_instY rfl (by decide) z2 ?_
          refine y_bf rfl rfl (show ¬ (1 : Int32) = 0 by decide) ?_
          repeat refine y_i rfl rfl ?_
          refine y_cast rfl (by decide) z2 ?_
          repeat refine y_i rfl rfl ?_
          refine y_cV1 [] [] 0 0 0 rfl z2 rfl rfl (Nat.le_of_ble_eq_true rfl) (Nat.le_of_ble_eq_true rfl) (by omega) (by omega) (by omega) (r_Vector_size z2 z3 _ ⟨_, rfl, ?_⟩)
          refine y_j rfl ?_
          exact y_retI rfl (Nat.zero_le _) (Nat.zero_le _) (h3 j (.inl xs) hj rfl hl)
        | inr fn =>
          obtain ⟨e2, z2, _⟩ := hz
          cases e2
          repeat refine y_i rfl rfl ?_
          refine y_instY rfl (by decide) z2 ?_
          refine y_bf rfl rfl (show ¬ (1 : Int32) = 0 by decide) ?_
          repeat refine y_i rfl rfl ?_
          refine y_cast rfl (by decide) z2 ?_
          repeat refine y_i rfl rfl ?_
          refine y_cV2 [] [] 0 0 0 rfl z2 rfl rfl (Nat.le_of_ble_eq_true rfl) (Nat.le_of_ble_eq_true rfl) (by omega) (by omega) (by omega) (r_Function_size _ ⟨_, rfl, ?_⟩)
          refine y_j rfl ?_
          exact y_retI rfl (Nat.zero_le _) (Nat.zero_le _) (h3 j (.inr fn) hj rfl hl)
  · rw [p_var_b.2 hk]
    refine y_bf rfl rfl (fun q => q rfl) ?_
    exact y_thr rfl hd (by omega) (by omega) (h1 hk)
theorem c_value (hd : 8 ≤ d) (hK : 1 ≤ K) (hN : 6 ≤ N) (h : CI dA c P mk w G s) (hg : gl s) (hv : w v = some (.inr (C_Main, [.ref (c 1), .ref (c 0), la]))) (h1 : ¬ okV ka → Q (.inr 0) w 0 0) (h2 : ∀ j : Nat, j < 10 → ka = nI j → ¬ (∃ (xs : List Int32) (t : Nat), sL s 0 j = some (.inl (.inl xs)) ∧ t < xs.length ∧ k = nI t) → Q (.inr 2) w 0 0) (h3 : ∀ (j : Nat) (xs : List Int32) (t : Nat), j < 10 → ka = nI j → sL s 0 j = some (.inl (.inl xs)) → t < xs.length → k = nI t → Q (.inl (some (.int (p_at xs t)))) w 0 0) : zy dA U d K N Y_value 0 (zargs 5 [.ref v, .int ka, .int k]) [] w 0 0 Q := by
  obtain ⟨a, b, ou, ca, hr, g1, g2, g3, g4⟩ := CI_glo h
  repeat refine y_i rfl rfl ?_
  refine y_cSk [.int ka] [] 0 0 0 rfl rfl rfl (Nat.le_of_ble_eq_true rfl) (Nat.le_of_ble_eq_true rfl) (by omega) (by omega) (by omega) (r_isVariable dA 0 ka w _ ⟨_, rfl, ?_⟩)
  by_cases hk : okV ka
  · rw [p_var_b.1 hk]
    obtain ⟨j, hj, rfl⟩ := hk
    refine y_bt rfl rfl (show ¬ (1 : Int32) = 0 by decide) ?_
    repeat refine y_i rfl rfl ?_
    refine y_get rfl hv rfl ?_
    refine y_get rfl g1 rfl ?_
    refine y_get rfl g2 rfl ?_
    repeat refine y_i rfl rfl ?_
    refine y_aald 4 rfl rfl g3 rfl hj (by omega) rfl ?_
    have hs := g4 j hj
    cases hl : sL s 0 j with
    | none =>
      rw [hl] at hs
      have e : hr j = none := hs
      rw [e]
      repeat refine y_i rfl rfl ?_
      refine y_instN rfl ?_
      refine y_bt rfl rfl rfl ?_
      exact y_thr rfl hd (by omega) (by omega) (h2 j hj rfl (fun ⟨xs, t, q, _⟩ => by rw [hl] at q; cases q))
    | some y =>
      cases y with
      | inr a9 => exact absurd hl (hg j a9)
      | inl z =>
        rw [hl] at hs
        obtain ⟨q, e, hz⟩ := hs
        rw [e]
        cases z with
        | inl xs =>
          obtain ⟨a2, q2, f, e2, z2, z3, z4, z5, z6⟩ := hz
          cases e2
          repeat refine y_i rfl rfl ?_
          refine y_instY rfl (by decide) z2 ?_
          refine y_bf rfl rfl (show ¬ (1 : Int32) = 0 by decide) ?_
          repeat refine y_i rfl rfl ?_
          refine y_cast rfl (by decide) z2 ?_
          repeat refine y_i rfl rfl ?_
          refine y_cVk [.int k] [] 0 0 0 rfl z2 rfl rfl (Nat.le_of_ble_eq_true rfl) (Nat.le_of_ble_eq_true rfl) (by omega) (by omega) (by omega) (r_hasPlace z2 z3 z6.1 (fun t t1 t2 => ⟨_, rfl, ?_⟩) (fun hn => ⟨_, rfl, ?_⟩))
          · refine y_bf rfl rfl (show ¬ (1 : Int32) = 0 by decide) ?_
            repeat refine y_i rfl rfl ?_
            refine y_get rfl z2 rfl ?_
            repeat refine y_i rfl rfl ?_
            refine y_iald rfl z3 t2 t1 (by have := z6.1; omega) ?_
            rw [z4 t t1]
            exact y_retI rfl (Nat.zero_le _) (Nat.zero_le _) (h3 j xs t hj rfl hl t1 t2)
          · refine y_bt rfl rfl rfl ?_
            exact y_thr rfl hd (by omega) (by omega) (h2 j hj rfl (fun ⟨ys, t, q, t1, t2⟩ => by rw [hl] at q; cases q; exact hn ⟨t, t1, t2⟩))
        | inr fn =>
          obtain ⟨e2, z2, _⟩ := hz
          cases e2
          repeat refine y_i rfl rfl ?_
          refine y_instF rfl (by decide) z2 ?_
          refine y_bt rfl rfl rfl ?_
          exact y_thr rfl hd (by omega) (by omega) (h2 j hj rfl (fun ⟨ys, t, q, t1, t2⟩ => by rw [hl] at q; cases q))
  · rw [p_var_b.2 hk]
    refine y_bf rfl rfl (fun q => q rfl) ?_
    exact y_thr rfl hd (by omega) (by omega) (h1 hk)
theorem c_run (hd : dD 40 + 2 ≤ d) (hK : 981 ≤ K) (hN : 8876 ≤ N) (h : CI dA c P mk w G s) (hv : w v = some (.inr (C_Main, [.ref (c 1), .ref (c 0), la]))) (h0 : ¬ okH mk x → Q (.inr 2) w 0 0)
    (h1 : ∀ (e : Nat) (z : aV) (s' : aS) (w' : ww_W) (G' : gG) (va : Value) (kk nn : Nat), e < mk → x = nI e → e_run P s e = (some z, s') → CI dA c P mk w' G' s' → rv dA c P mk w' G' s' va z → LEx c w G s w' G' s' → kk ≤ 980 → nn ≤ 8870 → Q (.inl (some (.int (vsz z)))) (va_up w' v (some (.inr (C_Main, [.ref (c 1), .ref (c 0), va])))) kk nn)
    (h2 : ∀ (e : Nat) (s' : aS) (w' : ww_W) (G' : gG), e < mk → x = nI e → e_run P s e = (none, s') → CI dA c P mk w' G' s' → LEx c w G s w' G' s' → Q (.inr (yref (sX s'))) w' 0 0) : zy dA U d K N Y_run 0 (zargs 3 [.ref v, .int x]) [] w 0 0 Q := by
  obtain ⟨hh, p1, p2, p3, p4⟩ := h.2.1
  have hD : dD 40 = 168 := rfl
  repeat refine y_i rfl rfl ?_
  refine y_get rfl hv rfl ?_
  repeat refine y_i rfl rfl ?_
  refine y_cVk [.int x] [] 0 0 0 rfl p1 rfl rfl (Nat.le_of_ble_eq_true rfl) (Nat.le_of_ble_eq_true rfl) (by omega) (by omega) (by omega) (r_has p1 p3 (fun q => ⟨_, rfl, ?_⟩) (fun q => ⟨_, rfl, ?_⟩))
  · refine y_bt rfl rfl (show ¬ (1 : Int32) = 0 by decide) ?_
    obtain ⟨e, he, hx⟩ := q
    repeat refine y_i rfl rfl ?_
    refine y_get rfl hv rfl ?_
    repeat refine y_i rfl rfl ?_
    obtain ⟨ea, eb, e1, _⟩ := h.1
    refine y_cVk [.int x] [] (dD 40 + 1) 980 8870 rfl e1 rfl rfl (Nat.le_of_ble_eq_true rfl) (Nat.le_of_ble_eq_true rfl) (by omega) (by omega) (by omega) (r_perform hx h (Nat.le_refl _) (Nat.le_refl _) (Nat.le_refl _) he (fun va w' G' k' n' hc hr hl hk hn => ⟨_, rfl, ?_⟩))
    have hv' : w' v = some (.inr (C_Main, [.ref (c 1), .ref (c 0), la])) := hl.1.1 _ _ hv (by
      intro q
      rcases q with q | q | q | q <;> cases q)
    have hrun : e_run P s e = ((e_run P s e).1, (e_run P s e).2) := rfl
    generalize (e_run P s e).2 = s' at hc hr hl hrun
    generalize (e_run P s e).1 = o at hr hrun
    cases o with
    | none =>
      have e2 : va = .null := hr
      subst e2
      repeat refine y_i rfl rfl ?_
      refine y_bf rfl rfl (fun q => q) ?_
      repeat refine y_i rfl rfl ?_
      refine y_get rfl hv' rfl ?_
      obtain ⟨ea', eb', e1', _⟩ := hc.1
      refine y_get rfl e1' rfl ?_
      refine y_tSk [.int (sX s')] [] 8 1 6 rfl rfl rfl (Nat.le_of_ble_eq_true rfl) (Nat.le_of_ble_eq_true rfl) (by omega) (by omega) (by omega) (c_refuse (by omega) (by omega) (by omega) ?_)
      exact h2 e s' w' G' he hx hrun hc hl
    | some z =>
      cases z with
      | inl xs =>
        have hr2 := hr
        obtain ⟨a, q, f, e2, z2, z3, z4, z5, z6⟩ := hr2
        subst e2
        have hne : a ≠ v := fun e3 => by rw [e3, hv'] at z2; cases z2
        have hne2 : q ≠ v := fun e3 => by rw [e3, hv'] at z3; cases z3
        repeat refine y_i rfl rfl ?_
        refine y_bt rfl rfl trivial ?_
        repeat refine y_i rfl rfl ?_
        refine y_put rfl hv' (Nat.le_of_ble_eq_true rfl) ⟨rfl, rfl⟩ ?_
        repeat refine y_i rfl rfl ?_
        refine y_cV1 [] [] 0 0 0 rfl ((va_up_ne _ _ hne).trans z2) rfl rfl (Nat.le_of_ble_eq_true rfl) (Nat.le_of_ble_eq_true rfl) (by omega) (by omega) (by omega) (r_Vector_size ((va_up_ne _ _ hne).trans z2) ((va_up_ne _ _ hne2).trans z3) _ ⟨_, rfl, ?_⟩)
        exact y_retI rfl (by omega) (by omega) (h1 e (.inl xs) s' w' G' (.ref a) _ _ he hx hrun hc hr hl (by omega) (by omega))
      | inr fn =>
        have hr2 := hr
        obtain ⟨e2, z2, _⟩ := hr2
        subst e2
        have hne : gf G' fn.2.2 ≠ v := fun e3 => by rw [e3, hv'] at z2; cases z2
        repeat refine y_i rfl rfl ?_
        refine y_bt rfl rfl trivial ?_
        repeat refine y_i rfl rfl ?_
        refine y_put rfl hv' (Nat.le_of_ble_eq_true rfl) ⟨rfl, rfl⟩ ?_
        repeat refine y_i rfl rfl ?_
        refine y_cV2 [] [] 0 0 0 rfl ((va_up_ne _ _ hne).trans z2) rfl rfl (Nat.le_of_ble_eq_true rfl) (Nat.le_of_ble_eq_true rfl) (by omega) (by omega) (by omega) (r_Function_size _ ⟨_, rfl, ?_⟩)
        exact y_retI rfl (by omega) (by omega) (h1 e (.inr fn) s' w' G' _ _ _ he hx hrun hc hr hl (by omega) (by omega))
  · refine y_bf rfl rfl (fun q => q rfl) ?_
    exact y_thr rfl (by omega) (by omega) (by omega) (h0 q)
theorem c_expression (hd : 8 ≤ d) (hK : 4 ≤ K) (hN : 13 ≤ N) (h : CI dA c P mk w G s) (hv : w v = some (.inr (C_Main, [.ref (c 1), .ref (c 0), la]))) (h1 : ¬ okE mk k ka kb kc → Q (.inr 0) w 0 0) (h2 : okE mk k ka kb kc → mk = 120 → Q (.inr 1) w 0 0)
    (h3 : okE mk k ka kb kc → mk < 120 → ∀ (W : ww_W) (kk nn : Nat), CI dA c (pAdd P mk k ka kb kc) (mk + 1) W G s → kA w W → kk ≤ 3 → nn ≤ 7 → Q (.inl (some (.int (nI mk)))) W kk nn) : zy dA U d K N Y_expression 0 (zargs 5 [.ref v, .int k, .int ka, .int kb, .int kc]) [] w 0 0 Q := by
  obtain ⟨hh, p1, p2, p3, p4⟩ := h.2.1
  repeat refine y_i rfl rfl ?_
  refine y_get rfl hv rfl ?_
  repeat refine y_i rfl rfl ?_
  refine y_cVk [.int k, .int ka, .int kb, .int kc] [] 3 0 0 rfl p1 rfl rfl (Nat.le_of_ble_eq_true rfl) (Nat.le_of_ble_eq_true rfl) (by omega) (by omega) (by omega) (r_accepts (by omega) p1 p3 (fun q => ⟨_, rfl, ?_⟩) (fun q => ⟨_, rfl, ?_⟩))
  · refine y_bt rfl rfl (show ¬ (1 : Int32) = 0 by decide) ?_
    repeat refine y_i rfl rfl ?_
    refine y_get rfl hv rfl ?_
    refine y_get rfl p1 rfl ?_
    repeat refine y_i rfl rfl ?_
    refine y_b rfl rfl (fun g => ?_) (fun g => ?_)
    · replace g : nI mk < 120 := g
      have hmk : mk < 120 := by
        rw [show (120 : Int32) = nI 120 by decide, nI_ltI (by omega) (by omega)] at g
        exact g
      repeat refine y_i rfl rfl ?_
      refine y_get rfl hv rfl ?_
      refine y_new rfl (by omega) (by omega) (fun x hx => ?_)
      have hn1 : ∀ (a : Nat) (e : va_E), w a = some e → a ≠ x := fun a e ha e1 => by rw [e1, hx] at ha; cases ha
      repeat refine y_i rfl rfl ?_
      refine y_cIk [.int k, .int ka, .int kb, .int kc] [.ref x, .ref (c 1)] 4 2 2 rfl rfl rfl (Nat.le_of_ble_eq_true rfl) (Nat.le_of_ble_eq_true rfl) (by omega) (by omega) (by omega) (r_Expr_init (by omega) (by omega) (by omega) (va_up_self _ _ _) (fun num W kk nn hk hn hW hkeep hnum => ⟨_, rfl, ?_⟩))
      have hkw : ∀ (a : Nat) (e : va_E), w a = some e → W a = some e := fun a e ha => hkeep a e (hn1 a e ha) ((va_up_ne _ _ (hn1 a e ha)).trans ha)
      have q1 := hkw _ _ p1
      have q2 := hkw _ _ p2
      have hne : c 1 ≠ c 2 := fun e => by rw [e, p2] at p1; cases p1
      refine y_cVk [.ref x] [] 0 0 0 rfl q1 rfl rfl (Nat.le_of_ble_eq_true rfl) (Nat.le_of_ble_eq_true rfl) (by omega) (by omega) (by omega) (r_add q1 q2 ⟨_, hW⟩ hmk ⟨_, rfl, ?_⟩)
      have hkA : kA w (va_up (va_up W (c 2) (some (.inl (dA 3, 120, .inr (.inr (.inr (.inr (va_up hh mk (some x))))))))) (c 1) (some (.inr (C_Program, [.ref (c 2), .int (nI (mk + 1))])))) := by
        intro a e ha n1 n2
        have m1 : a ≠ c 1 := fun e1 => n1 _ (by rw [e1, p1] at ha; exact (Option.some.inj ha).symm)
        have m2 : a ≠ c 2 := fun e1 => n2 _ _ (by rw [e1, p2] at ha; exact (Option.some.inj ha).symm)
        rw [va_up_ne _ _ m1, va_up_ne _ _ m2]
        exact hkw _ _ ha
      have hx1 : x ≠ c 1 := Ne.symm (hn1 _ _ p1)
      have hx2 : x ≠ c 2 := Ne.symm (hn1 _ _ p2)
      refine y_retI rfl (by omega) (by omega) (h3 q hmk _ _ _ (CI_add (x := x) (num := num) (h' := va_up hh mk (some x)) h hkA ?_ q hmk (va_up_self _ _ _) (fun h9 e9 => ?_) (by rw [va_up_ne _ _ (Ne.symm hne), va_up_self]) (by rw [va_up_ne _ _ hx1, va_up_ne _ _ hx2]; exact hW) (fun k0 => ?_)) hkA (by omega) (by omega))
      · obtain ⟨e9, t1, t2⟩ := h.2.2.1.2.2.2.2
        by_cases f1 : c 9 = c 1
        · refine ⟨.inr (C_Program, [.ref (c 2), .int (nI (mk + 1))]), by rw [f1, va_up_self], ?_⟩
          intro q
          rcases q with q | q | q | q <;> cases q
        · by_cases f2 : c 9 = c 2
          · refine ⟨.inl (dA 3, 120, .inr (.inr (.inr (.inr (va_up hh mk (some x)))))), by rw [f2, va_up_ne _ _ (Ne.symm hne), va_up_self], ?_⟩
            intro q
            rcases q with ⟨_, f, q⟩ | ⟨q, _⟩
            · cases q
            · cases q
          · exact ⟨e9, by rw [va_up_ne _ _ f1, va_up_ne _ _ f2]; exact hkw _ _ t1, t2⟩
      · rw [p2] at e9
        have e7 : hh = h9 := congrArg (fun z : Option va_E => match z with
          | some (.inl (_, _, .inr (.inr (.inr (.inr g))))) => g
          | _ => fun _ => none) e9
        rw [e7]
      · obtain ⟨v2, q9, n1, n2, n3, n4⟩ := hnum k0
        have o1 : v2 ≠ c 1 := fun e1 => by rw [e1, q1] at n2; cases n2
        have o2 : v2 ≠ c 2 := fun e1 => by rw [e1, q2] at n2; cases n2
        have o3 : q9 ≠ c 1 := fun e1 => by rw [e1, q1] at n3; cases n3
        have o4 : q9 ≠ c 2 := fun e1 => by
          rw [e1, q2] at n3
          have e8 := congrArg (fun p : ClassId × vp_A => p.2.1) (Sum.inl.inj (Option.some.inj n3))
          exact absurd (show (120 : Nat) = 1 from e8) (by decide)
        refine ⟨v2, q9, n1, by rw [va_up_ne _ _ o1, va_up_ne _ _ o2]; exact n2, by rw [va_up_ne _ _ o3, va_up_ne _ _ o4]; exact n3, ?_⟩
        by_cases o5 : q9 = x
        · rw [o5]; exact hx
        · rw [va_up_ne _ _ o5] at n4
          exact n4
    · replace g : ¬ nI mk < 120 := g
      have hmk : mk = 120 := by
        rw [show (120 : Int32) = nI 120 by decide, nI_ltI (by omega) (by omega)] at g
        omega
      exact y_thr rfl hd (by omega) (by omega) (h2 q hmk)
  · refine y_bf rfl rfl (fun q => q rfl) ?_
    exact y_thr rfl hd (by omega) (by omega) (h1 q)
/-! those that don't throw -/
theorem c_failure (h : CI dA c P mk w G s) (hv : w v = some (.inr (C_Main, [.ref (c 1), .ref (c 0), la]))) (hQ : Q (.inl (some (.int (sX s)))) w 0 0) : zx dA d 0 0 M_VectorLanguage_failure 0 (zargs 1 [.ref v]) [] w 0 0 Q := by
  obtain ⟨ea, eb, e1, _⟩ := h.1
  repeat refine z_i rfl rfl ?_
  refine z_get rfl hv rfl ?_
  refine z_get rfl e1 rfl ?_
  exact z_retI rfl (Nat.zero_le _) (Nat.zero_le _) hQ
end PC
