/-! the law's cases: expression, run, reset -/
section LD
variable {dA : Nat → ClassId} {U : yU} {b c : Nat → Nat} {P : aP} {mk B : Nat} {G : gG} {s : aS} {S : mm} {res : rP} {w W : ww_W} {K N d v o m0 k n i t : Nat} {Q : zQ} {o5 o6 : Option Value} {la : Value} {x : Int32}
theorem mE_prog {k : Nat} {fs : List Value} : ¬ mE dA b S k = .inr (C_Program, fs) := by
  unfold mE
  intro q
  split at q
  · have e : C_Model = C_Program := congrArg (fun p : Nat × List Value => p.1) (Sum.inr.inj q)
    exact absurd e (by decide)
  · split at q
    · cases q
    · split at q <;> cases q
theorem mE_ev {k : Nat} {fs : List Value} : ¬ mE dA b S k = .inr (C_Evaluator, fs) := by
  unfold mE
  intro q
  split at q
  · have e : C_Model = C_Evaluator := congrArg (fun p : Nat × List Value => p.1) (Sum.inr.inj q)
    exact absurd e (by decide)
  · split at q
    · cases q
    · split at q <;> cases q
theorem mE_ref {k m : Nat} {y : ClassId} {h : Nat → Option Nat} : ¬ mE dA b S k = .inl (y, m, .inr (.inr (.inr (.inr h)))) := by
  unfold mE
  intro q
  split at q
  · cases q
  · split at q
    · have e1 := congrArg (fun p : ClassId × vp_A => p.2.2) (Sum.inl.inj q)
      cases e1
    · split at q
      · have e1 := congrArg (fun p : ClassId × vp_A => p.2.2) (Sum.inl.inj q)
        cases e1
      · have e1 := congrArg (fun p : ClassId × vp_A => p.2.2) (Sum.inl.inj q)
        cases e1
theorem mw_kA (hb : mB b) (hw : mw dA b w S = w) (hk : kA w W) : mw dA b W S = W := mw_to hb hw (fun k h => by
  have h1 := mw_e hb hw h
  rw [h1]
  exact hk _ _ h1 (fun _ => mE_prog) (fun _ _ => mE_ref))
set_option maxRecDepth 100000 in
theorem lc_expression (hi : i + 4 < U.2.1) (hU : U.2.1 < 2 ^ 31) (hd : 180 ≤ d) (hK : k + 981 ≤ K) (hN : n + 8876 ≤ N) (h : JA dA v o m0 w t) (hnx : LN dA U d K N v o m0 i t k n Q) : zy dA U d K N Y_law 84 [some (.ref U.1), some (.ref v), some (.ref m0), some (.ref o), some (.int (nI i)), o5, o6] [] w k n Q := by
  obtain ⟨b, c, P, mk, B, G, s, S, res, hb, rfl, h9, hJ, hw, hI, hg, hF⟩ := h
  obtain ⟨hC, ⟨la, hv, hr⟩, f, ho⟩ := id hJ
  have p3 := hC.2.1.choose_spec.2.2.1
  repeat refine y_i rfl rfl ?_
  refine y_sld (j := i + 1) rfl (nI_1 i) (by omega) hU ?_
  repeat refine y_i rfl rfl ?_
  refine y_sld (j := i + 2) rfl (nI_add i 2) (by omega) hU ?_
  repeat refine y_i rfl rfl ?_
  refine y_sld (j := i + 3) rfl (nI_add i 3) (by omega) hU ?_
  repeat refine y_i rfl rfl ?_
  refine y_sld (j := i + 4) rfl (nI_add i 4) (by omega) hU ?_
  repeat refine y_i rfl rfl ?_
  refine y_hSk [.ref v, .int (U.2.2 (i + 1)), .int (U.2.2 (i + 2)), .int (U.2.2 (i + 3)), .int (U.2.2 (i + 4)), .ref o] [] 9 4 13 rfl rfl rfl (Nat.le_of_ble_eq_true rfl) (Nat.le_of_ble_eq_true rfl) (by omega) (by omega) (by omega) (w_expression (by omega) (by omega) (by omega) hC hv ho (fun q => ?_) (fun q q1 => ?_) (fun q q1 W kk nn hc hk ho' g1 g2 => ?_))
  · have hob : w (b 0) = some (.inr (C_Model, mF b S)) := mw_e hb hw (k := 0) rfl
    show zy dA U d K N Y_law (110 + 3) _ _ _ _ _ _
    repeat refine y_i rfl rfl ?_
    refine y_sld (j := i + 1) rfl (nI_1 i) (by omega) hU ?_
    repeat refine y_i rfl rfl ?_
    refine y_sld (j := i + 2) rfl (nI_add i 2) (by omega) hU ?_
    repeat refine y_i rfl rfl ?_
    refine y_sld (j := i + 3) rfl (nI_add i 3) (by omega) hU ?_
    repeat refine y_i rfl rfl ?_
    refine y_sld (j := i + 4) rfl (nI_add i 4) (by omega) hU ?_
    refine y_cVk [.int (U.2.2 (i + 1)), .int (U.2.2 (i + 2)), .int (U.2.2 (i + 3)), .int (U.2.2 (i + 4))] [] 3 0 0 rfl hob rfl rfl (Nat.le_of_ble_eq_true rfl) (Nat.le_of_ble_eq_true rfl) (by omega) (by omega) (by omega) (mwE hw (r_expressionR hb (by omega) p3 hI (fun g => ⟨_, rfl, ?_⟩) (fun g _ => absurd g q) (fun g _ _ _ _ => absurd g q)))
    have hJ2 := JK_mw (S' := jI S 0 1) hb h9 hw hJ
    obtain ⟨f2, ho2⟩ := hJ2.2.2
    repeat refine y_i rfl rfl ?_
    exact tl_expression hb (mw_mw hb) rfl ho2 (fun q => absurd q (by decide)) (by omega) (by omega) (by omega) (hnx _ _ _ _ _ ⟨b, c, P, mk, B, G, s, jI S 0 1, res, hb, rfl, h9, hJ2, mw_mw hb, IDL_0j hI, hg, by omega⟩ (by omega) (by omega))
  · have hob : w (b 0) = some (.inr (C_Model, mF b S)) := mw_e hb hw (k := 0) rfl
    show zy dA U d K N Y_law (110 + 3) _ _ _ _ _ _
    repeat refine y_i rfl rfl ?_
    refine y_sld (j := i + 1) rfl (nI_1 i) (by omega) hU ?_
    repeat refine y_i rfl rfl ?_
    refine y_sld (j := i + 2) rfl (nI_add i 2) (by omega) hU ?_
    repeat refine y_i rfl rfl ?_
    refine y_sld (j := i + 3) rfl (nI_add i 3) (by omega) hU ?_
    repeat refine y_i rfl rfl ?_
    refine y_sld (j := i + 4) rfl (nI_add i 4) (by omega) hU ?_
    refine y_cVk [.int (U.2.2 (i + 1)), .int (U.2.2 (i + 2)), .int (U.2.2 (i + 3)), .int (U.2.2 (i + 4))] [] 3 0 0 rfl hob rfl rfl (Nat.le_of_ble_eq_true rfl) (Nat.le_of_ble_eq_true rfl) (by omega) (by omega) (by omega) (mwE hw (r_expressionR hb (by omega) p3 hI (fun g => absurd q g) (fun g g1 => ⟨_, rfl, ?_⟩) (fun g g1 _ _ _ => by omega)))
    have hJ2 := JK_mw (S' := jI S 0 2) hb h9 hw hJ
    obtain ⟨f2, ho2⟩ := hJ2.2.2
    repeat refine y_i rfl rfl ?_
    exact tl_expression hb (mw_mw hb) rfl ho2 (fun q => absurd q (by decide)) (by omega) (by omega) (by omega) (hnx _ _ _ _ _ ⟨b, c, P, mk, B, G, s, jI S 0 2, res, hb, rfl, h9, hJ2, mw_mw hb, IDL_0j hI, hg, by omega⟩ (by omega) (by omega))
  · have hwW := mw_kA hb hw hk
    have hvW : W v = some (mrow c la) := kA_o hk (by decide) hv
    have hJW : JK dA c (pAdd P mk (U.2.2 (i + 1)) (U.2.2 (i + 2)) (U.2.2 (i + 3)) (U.2.2 (i + 4))) (mk + 1) v o W G s res.1 := ⟨hc, ⟨la, hvW, rvO_add hk hr⟩, f, ho'⟩
    have hw1 := mw_orow (x := orow dA (vp_updL f 0 (nI mk).toInt64)) hb hwW ho'
    have hJ1 := JK_out hJW (vp_updL f 0 (nI mk).toInt64)
    have ho1 : va_up W o (some (orow dA (vp_updL f 0 (nI mk).toInt64))) o = some (orow dA (vp_updL f 0 (nI mk).toInt64)) := va_up_self _ _ _
    generalize va_up W o (some (orow dA (vp_updL f 0 (nI mk).toInt64))) = w1 at hw1 hJ1 ho1 ⊢
    have hob : w1 (b 0) = some (.inr (C_Model, mF b S)) := mw_e hb hw1 (k := 0) rfl
    show zy dA U d K N Y_law (110 + 3) _ _ _ _ _ _
    repeat refine y_i rfl rfl ?_
    refine y_sld (j := i + 1) rfl (nI_1 i) (by omega) hU ?_
    repeat refine y_i rfl rfl ?_
    refine y_sld (j := i + 2) rfl (nI_add i 2) (by omega) hU ?_
    repeat refine y_i rfl rfl ?_
    refine y_sld (j := i + 3) rfl (nI_add i 3) (by omega) hU ?_
    repeat refine y_i rfl rfl ?_
    refine y_sld (j := i + 4) rfl (nI_add i 4) (by omega) hU ?_
    refine y_cVk [.int (U.2.2 (i + 1)), .int (U.2.2 (i + 2)), .int (U.2.2 (i + 3)), .int (U.2.2 (i + 4))] [] 3 0 0 rfl hob rfl rfl (Nat.le_of_ble_eq_true rfl) (Nat.le_of_ble_eq_true rfl) (by omega) (by omega) (by omega) (mwE hw1 (r_expressionR hb (by omega) p3 hI (fun g => absurd q g) (fun g g1 => by omega) (fun g g1 S2 hI2 h0 => ⟨_, rfl, ?_⟩)))
    have hJ2 := JK_mw (S' := S2) hb h9 hw1 hJ1
    have ho2 : mw dA b w1 S2 o = some (orow dA (vp_updL f 0 (nI mk).toInt64)) := mk_l hb (S := S) (by rw [hw1]; exact ho1)
    repeat refine y_i rfl rfl ?_
    exact tl_expression hb (mw_mw hb) h0 ho2 (fun _ => rfl) (by omega) (by omega) (by omega) (hnx _ _ _ _ _ ⟨b, c, _, mk + 1, B, G, s, S2, res, hb, rfl, h9, hJ2, mw_mw hb, hI2, hg, by omega⟩ (by omega) (by omega))
theorem r_runR0 (hb : mB b) (hd : 2 ≤ d) (hmk : mk ≤ 120) (h5 : S.1 5 = nI mk) (hn : ¬ okH mk x) (hQ : Q (.inl (some (.int 0))) (mw dA b w (jI S 0 1)) 0 0) : zx dA d 0 0 M_VectorLanguageModel_run 0 (zargs 3 [.ref (b 0), .int x]) [] (mw dA b w S) 0 0 Q := by
  have hbt : p_btw x 0 (nI mk - 1) = 0 := (p_btw_in hmk).2.resolve_right (fun q => hn ((p_btw_in hmk).1.mp q))
  repeat first | refine z_i rfl rfl ?_ | refine m_gt hb rfl rfl ?_
  refine m_pt hb rfl rfl ?_
  repeat first | refine z_i rfl rfl ?_ | refine m_gt hb rfl rfl ?_
  refine z_cVk [.int x] [] 1 0 0 rfl (m_obj hb) rfl rfl (Nat.le_of_ble_eq_true rfl) (Nat.le_of_ble_eq_true rfl) (by omega) (by omega) (by omega) (r_made hb (by omega) h5 hmk ⟨_, rfl, ?_⟩)
  rw [hbt]
  refine z_bf rfl rfl (fun q => q rfl) ?_
  repeat first | refine z_i rfl rfl ?_ | refine m_gt hb rfl rfl ?_
  refine z_cVk [.int 1] [] 0 0 0 rfl (m_obj hb) rfl rfl (Nat.le_of_ble_eq_true rfl) (Nat.le_of_ble_eq_true rfl) (by omega) (by omega) (by omega) (r_raise2 hb ⟨_, rfl, ?_⟩)
  rw [jI_I]
  exact z_retI rfl (Nat.zero_le _) (Nat.zero_le _) hQ
theorem p_code_ne (x : Int32) : ¬ p_code x = 0 := by
  obtain ⟨h, _, q⟩ := yref_code x
  intro e
  rw [e] at q
  rcases q with ⟨q, _⟩ | ⟨q, _⟩ | ⟨q, _⟩ | ⟨q, _⟩ | ⟨q, _⟩ <;> exact absurd q (by decide)
theorem IDL_31b {x : Int32} (h : MR P mk B res 1000 S [] none s) (hx : x = sX s) : IDL P mk B res (jI S 31 x) s := by
  have h0 : (jI S 31 x).1 0 = 0 := h.2.2.1.2.2.2.2
  have h1 := IDL_31 (y := 0) h hx
  rw [jI_self h0] at h1
  exact h1
set_option maxRecDepth 100000 in
theorem lc_run (hi : i + 4 < U.2.1) (hU : U.2.1 < 2 ^ 31) (hd : 180 ≤ d) (hK : k + 981 ≤ K) (hN : n + 8876 ≤ N) (ht : t < 512) (h : JA dA v o m0 w t) (hnx : LN dA U d K N v o m0 i t k n Q) : zy dA U d K N Y_law 176 [some (.ref U.1), some (.ref v), some (.ref m0), some (.ref o), some (.int (nI i)), o5, o6] [] w k n Q := by
  obtain ⟨b, c, P, mk, B, G, s, S, res, hb, rfl, h9, hJ, hw, hI, hg, hF⟩ := h
  obtain ⟨hC, ⟨la, hv, hr⟩, f, ho⟩ := id hJ
  have p3 := hC.2.1.choose_spec.2.2.1
  have p4 : ∀ e : Nat, e < mk → okE e (kd P e) (pa P e) (pb P e) (pc P e) := fun e he => (hC.2.1.choose_spec.2.2.2 e he).1
  have h4 : b 32 ≠ c 4 := by rw [← h9]; exact CI_49 hC
  have hD : dD 40 = 168 := rfl
  repeat refine y_i rfl rfl ?_
  refine y_sld (j := i + 1) rfl (nI_1 i) (by omega) hU ?_
  repeat refine y_i rfl rfl ?_
  refine y_hSk [.ref v, .int (U.2.2 (i + 1)), .ref o] [] (dD 40 + 3) 981 8876 rfl rfl rfl (Nat.le_of_ble_eq_true rfl) (Nat.le_of_ble_eq_true rfl) (by omega) (by omega) (by omega) (w_run (by omega) (by omega) (by omega) hC hv ho (fun q => ?_) (fun e z s' w' G' va kk nn q1 q2 q3 q4 q5 q6 q7 q8 => ?_) (fun e s' w' G' q1 q2 q3 q4 q5 => ?_))
  · have hob : w (b 0) = some (.inr (C_Model, mF b S)) := mw_e hb hw (k := 0) rfl
    show zy dA U d K N Y_law (184 + 3) _ _ _ _ _ _
    repeat refine y_i rfl rfl ?_
    refine y_sld (j := i + 1) rfl (nI_1 i) (by omega) hU ?_
    refine y_cVk [.int (U.2.2 (i + 1))] [] 2 0 0 rfl hob rfl rfl (Nat.le_of_ble_eq_true rfl) (Nat.le_of_ble_eq_true rfl) (by omega) (by omega) (by omega) (mwE hw (r_runR0 hb (by omega) p3 (show S.1 5 = nI mk from hI.1.1.2.2.2.2.2.2.1) q ⟨_, rfl, ?_⟩))
    have hJ2 := JK_mw (S' := jI S 0 1) hb h9 hw hJ
    obtain ⟨f2, ho2⟩ := hJ2.2.2
    repeat refine y_i rfl rfl ?_
    exact tl_run hb (mw_mw hb) rfl ho2 (fun q => absurd q (by decide)) (by omega) (by omega) (by omega) (hnx _ _ _ _ _ ⟨b, c, P, mk, B, G, s, jI S 0 1, res, hb, rfl, h9, hJ2, mw_mw hb, IDL_0j hI, hg, by omega⟩ (by omega) (by omega))
  · have hw' : mw dA b w' S = w' := kp_mw (w := w) hb h4 (by rw [hw]; exact q6.1)
    have hv' : w' v = some (mrow c la) := q6.1.1 _ _ hv (by
      intro q
      rcases q with q | q | q | q <;> cases q)
    have ho' : w' o = some (orow dA f) := q6.1.1 _ _ ho (by
      intro q
      rcases q with ⟨_, g, q⟩ | ⟨q, _⟩
      · cases q
      · cases q)
    have hne : o ≠ v := fun e1 => by rw [e1, hv] at ho; cases ho
    have hJ1 : JK dA c P mk v o (va_up w' v (some (mrow c va))) G' s' (some z) := JK_main q4 hv' ho' q5
    have hw2 := mw_main (x := mrow c va) hb hw' hv'
    have ho2 : va_up w' v (some (mrow c va)) o = some (orow dA f) := (va_up_ne _ _ hne).trans ho'
    have hw3 := mw_orow (x := orow dA (vp_updL f 0 (vsz z).toInt64)) hb hw2 ho2
    have hJ3 := JK_out hJ1 (vp_updL f 0 (vsz z).toInt64)
    have ho3 : va_up (va_up w' v (some (mrow c va))) o (some (orow dA (vp_updL f 0 (vsz z).toInt64))) o = some (orow dA (vp_updL f 0 (vsz z).toInt64)) := va_up_self _ _ _
    generalize va_up (va_up w' v (some (mrow c va))) o (some (orow dA (vp_updL f 0 (vsz z).toInt64))) = w1 at hw3 hJ3 ho3 ⊢
    have hob : w1 (b 0) = some (.inr (C_Model, mF b S)) := mw_e hb hw3 (k := 0) rfl
    have hgl : gl s' := by
      have := gl_run (P := P) (e := e) hg
      rw [q3] at this
      exact this
    show zy dA U d K N Y_law (184 + 3) _ _ _ _ _ _
    repeat refine y_i rfl rfl ?_
    refine y_sld (j := i + 1) rfl (nI_1 i) (by omega) hU ?_
    rw [q2]
    refine y_cVk [.int (nI e)] [] 7 0 0 rfl hob rfl rfl (Nat.le_of_ble_eq_true rfl) (Nat.le_of_ble_eq_true rfl) (by omega) (by omega) (by omega) (mwE hw3 (r_runR hb (by omega) p3 p4 hI.1 q1 (by omega) (fun v2 s2 S1 y g1 g2 g3 => ⟨_, rfl, ?_⟩) (fun s2 S1 g1 g2 g3 => by have e9 := q3.symm.trans g1; cases e9)))
    have e9 := q3.symm.trans g1
    cases e9
    have hsF : sF s' ≤ 400 * (t + 1) := by
      obtain ⟨_, _, _, _, _, _, _, _, _, u4, u5, _⟩ := g3
      omega
    have hJ4 := JK_mw (S' := jI S1 31 0) hb h9 hw3 hJ3
    have ho4 : mw dA b w1 (jI S1 31 0) o = some (orow dA (vp_updL f 0 (vsz z).toInt64)) := mk_l hb (S := S) (by rw [hw3]; exact ho3)
    repeat refine y_i rfl rfl ?_
    exact tl_run hb (mw_mw hb) (show (jI S1 31 0).1 0 = 0 from g3.2.2.1.2.2.2.2) ho4 (fun _ => rfl) (by omega) (by omega) (by omega) (hnx _ _ _ _ _ ⟨b, c, P, mk, _, G', s', jI S1 31 0, (some z, y), hb, rfl, h9, hJ4, mw_mw hb, IDL_31b g3 g2.symm, hgl, hsF⟩ (by omega) (by omega))
  · have hw' : mw dA b w' S = w' := kp_mw (w := w) hb h4 (by rw [hw]; exact q5.1)
    have hv' : w' v = some (mrow c la) := q5.1.1 _ _ hv (by
      intro q
      rcases q with q | q | q | q <;> cases q)
    have ho' : w' o = some (orow dA f) := q5.1.1 _ _ ho (by
      intro q
      rcases q with ⟨_, g, q⟩ | ⟨q, _⟩
      · cases q
      · cases q)
    have hJ1 : JK dA c P mk v o w' G' s' res.1 := ⟨q4, ⟨la, hv', rvO_le q5 hr⟩, f, ho'⟩
    have hob : w' (b 0) = some (.inr (C_Model, mF b S)) := mw_e hb hw' (k := 0) rfl
    have hgl : gl s' := by
      have := gl_run (P := P) (e := e) hg
      rw [q3] at this
      exact this
    show zy dA U d K N Y_law (184 + 3) _ _ _ _ _ _
    repeat refine y_i rfl rfl ?_
    refine y_sld (j := i + 1) rfl (nI_1 i) (by omega) hU ?_
    rw [q2]
    refine y_cVk [.int (nI e)] [] 7 0 0 rfl hob rfl rfl (Nat.le_of_ble_eq_true rfl) (Nat.le_of_ble_eq_true rfl) (by omega) (by omega) (by omega) (mwE hw' (r_runR hb (by omega) p3 p4 hI.1 q1 (by omega) (fun v2 s2 S1 y g1 g2 g3 => by have e9 := q3.symm.trans g1; cases e9) (fun s2 S1 g1 g2 g3 => ⟨_, rfl, ?_⟩)))
    have e9 := q3.symm.trans g1
    cases e9
    have hsF : sF s' ≤ 400 * (t + 1) := by
      obtain ⟨_, _, _, _, _, _, _, _, _, u4, u5, _⟩ := g3
      omega
    have hJ4 := JK_mw (S' := jI (jI S1 31 (sX s')) 0 (p_code (sX s'))) hb h9 hw' hJ1
    obtain ⟨f4, ho4⟩ := hJ4.2.2
    repeat refine y_i rfl rfl ?_
    exact tl_run hb (mw_mw hb) rfl ho4 (fun q => absurd q (p_code_ne _)) (by omega) (by omega) (by omega) (hnx _ _ _ _ _ ⟨b, c, P, mk, _, G', s', jI (jI S1 31 (sX s')) 0 (p_code (sX s')), res, hb, rfl, h9, hJ4, mw_mw hb, IDL_31 g3 rfl, hgl, hsF⟩ (by omega) (by omega))
theorem c_reset (hd : 2 ≤ d) (h : CI dA c P mk w G s) (hR : sR s = none) (hv : w v = some (mrow c la)) (hQ : ∀ W : ww_W, CI dA c P mk W (Grst G) (e_rst s) → (∀ (a : Nat) (e : va_E), va_up w v (some (mrow c .null)) a = some e → (∀ fs : List Value, ¬ e = .inr (C_Evaluator, fs)) → (∀ (h : Nat → Option Nat), ¬ e = .inl (dA 4, 10, .inr (.inr (.inr (.inr h))))) → W a = some e) → Q (.inl (some (.int (nI (sN s))))) W 0 0) : zx dA d 0 0 M_VectorLanguage_reset 0 (zargs 1 [.ref v]) [] w 0 0 Q := by
  have hk := cok_up (x := mrow c .null) hv (fun q : ¬ (0 : Nat) = 0 => q rfl)
  have hC : CI dA c P mk (va_up w v (some (mrow c .null))) G s := by
    refine CI_to hk ?_ h
    obtain ⟨e9, t1, t2⟩ := h.2.2.1.2.2.2.2
    by_cases e : c 9 = v
    · refine ⟨mrow c .null, by rw [e, va_up_self], ?_⟩
      intro q
      rcases q with q | q | q | q <;> cases q
    · exact ⟨e9, (va_up_ne _ _ e).trans t1, t2⟩
  repeat refine z_i rfl rfl ?_
  refine z_put rfl hv (Nat.le_of_ble_eq_true rfl) ⟨rfl, rfl⟩ ?_
  repeat refine z_i rfl rfl ?_
  refine z_get rfl (va_up_self _ _ _) rfl ?_
  obtain ⟨ea, eb, e1, _⟩ := hC.1
  refine z_cVk [] [] 1 0 0 rfl e1 rfl rfl (Nat.le_of_ble_eq_true rfl) (Nat.le_of_ble_eq_true rfl) (by omega) (by omega) (by omega) (r_forget (by omega) hC hR (fun W g1 g2 => ⟨_, rfl, ?_⟩))
  exact z_retI rfl (Nat.zero_le _) (Nat.zero_le _) (hQ W g1 g2)
set_option maxRecDepth 100000 in
theorem lc_reset (hd : 180 ≤ d) (hK : k + 981 ≤ K) (hN : n + 8876 ≤ N) (h : JA dA v o m0 w t) (hnx : LN dA U d K N v o m0 i t k n Q) : zy dA U d K N Y_law 425 [some (.ref U.1), some (.ref v), some (.ref m0), some (.ref o), some (.int (nI i)), o5, o6] [] w k n Q := by
  obtain ⟨b, c, P, mk, B, G, s, S, res, hb, rfl, h9, hJ, hw, hI, hg, hF⟩ := h
  obtain ⟨hC, ⟨la, hv, hr⟩, f, ho⟩ := id hJ
  have hne : o ≠ v := fun e1 => by rw [e1, hv] at ho; cases ho
  have hR : sR s = none := hI.1.2.2.2.2.2.2.2.2.2.2.2.1
  repeat refine y_i rfl rfl ?_
  refine y_cVk [] [] 2 0 0 rfl hv rfl rfl (Nat.le_of_ble_eq_true rfl) (Nat.le_of_ble_eq_true rfl) (by omega) (by omega) (by omega) (c_reset (by omega) hC hR hv (fun W g1 g2 => ⟨_, rfl, ?_⟩))
  have hw2 := mw_main (x := mrow c .null) hb hw hv
  have hW : mw dA b W S = W := mw_to hb hw2 (fun k hk => by
    have h1 := mw_e hb hw2 hk
    rw [h1]
    exact g2 _ _ h1 (fun _ => mE_ev) (fun _ => mE_ref))
  have hvW : W v = some (mrow c .null) := g2 _ _ (va_up_self _ _ _) (fun _ e => by cases e) (fun _ e => by cases e)
  have hoW : W o = some (orow dA f) := g2 _ _ ((va_up_ne _ _ hne).trans ho) (fun _ e => by cases e) (fun _ e => by
    have e1 := congrArg (fun p : ClassId × vp_A => p.2.2) (Sum.inl.inj e)
    cases e1)
  have hJW : JK dA c P mk v o W (Grst G) (e_rst s) none := ⟨g1, ⟨.null, hvW, rfl⟩, f, hoW⟩
  have hob : W (b 0) = some (.inr (C_Model, mF b S)) := mw_e hb hW (k := 0) rfl
  repeat refine y_i rfl rfl ?_
  refine y_cVk [] [.int (nI (sN s))] 0 0 0 rfl hob rfl rfl (Nat.le_of_ble_eq_true rfl) (Nat.le_of_ble_eq_true rfl) (by omega) (by omega) (by omega) (mwE hW (r_resetR hb hI (fun S2 hI2 h0 => ⟨_, rfl, ?_⟩)))
  refine y_bt rfl rfl rfl ?_
  exact hnx _ _ _ _ _ ⟨b, c, P, mk, B, Grst G, e_rst s, S2, (none, -1), hb, rfl, h9, JK_mw hb h9 hW hJW, mw_mw hb, hI2, gl_rst, by show sF s ≤ _; omega⟩ (by omega) (by omega)
end LD
