/-! the law's cases -/
section LC
variable {dA : Nat → ClassId} {U : yU} {w : ww_W} {K N d v o m0 k n i t : Nat} {Q : zQ} {o5 o6 : Option Value}
/-- what comes behind a case -/
def LN (dA : Nat → ClassId) (U : yU) (d K N v o m0 i t k n : Nat) (Q : zQ) : Prop := ∀ (w' : ww_W) (k' n' : Nat) (o5 o6 : Option Value), JA dA v o m0 w' (t + 1) → k' ≤ k + 981 → n' ≤ n + 8876 → zy dA U d K N Y_law 494 [some (.ref U.1), some (.ref v), some (.ref m0), some (.ref o), some (.int (nI i)), o5, o6] [] w' k' n' Q
set_option maxRecDepth 100000 in
theorem lc_failure (hd : 180 ≤ d) (hK : k + 981 ≤ K) (hN : n + 8876 ≤ N) (h : JA dA v o m0 w t) (hnx : LN dA U d K N v o m0 i t k n Q) : zy dA U d K N Y_law 288 [some (.ref U.1), some (.ref v), some (.ref m0), some (.ref o), some (.int (nI i)), o5, o6] [] w k n Q := by
  obtain ⟨b, c, P, mk, B, G, s, S, res, hb, rfl, h9, hJ, hw, hI, hg, hF⟩ := h
  obtain ⟨hC, ⟨la, hv, hr⟩, f, ho⟩ := id hJ
  have hob : w (b 0) = some (.inr (C_Model, mF b S)) := mw_e hb hw (k := 0) rfl
  repeat refine y_i rfl rfl ?_
  refine y_cVk [] [] 0 0 0 rfl hv rfl rfl (Nat.le_of_ble_eq_true rfl) (Nat.le_of_ble_eq_true rfl) (by omega) (by omega) (by omega) (c_failure hC hv ⟨_, rfl, ?_⟩)
  repeat refine y_i rfl rfl ?_
  refine y_cVk [] [.int (sX s)] 0 0 0 rfl hob rfl rfl (Nat.le_of_ble_eq_true rfl) (Nat.le_of_ble_eq_true rfl) (by omega) (by omega) (by omega) (mwE hw (r_failureR hb ⟨_, rfl, ?_⟩))
  refine y_bt rfl rfl (show sX s = S.1 31 from hI.2.symm) ?_
  exact hnx _ _ _ _ _ ⟨b, c, P, mk, B, G, s, jI S 0 0, res, hb, rfl, h9, JK_mw hb h9 hw hJ, mw_mw hb, IDL_0j hI, hg, by omega⟩ (by omega) (by omega)
theorem nI_inj2 {a b : Nat} (h : nI a = nI b) (ha : a < 2 ^ 31) (hb : b < 2 ^ 31) : a = b := by
  have := congrArg Int32.toInt h
  rw [nI_toInt ha, nI_toInt hb] at this
  omega
theorem rvO_len {c : Nat → Nat} {P : aP} {mk : Nat} {G : gG} {s : aS} {la : Value} {r : Option aV} {xs : List Int32} (h : rvO dA c P mk w G s la r) (hr : r = some (.inl xs)) : xs.length ≤ 16 := by
  subst hr
  obtain ⟨_, _, _, _, _, _, _, _, h6⟩ := h
  exact h6.1
theorem CI_slen {c : Nat → Nat} {P : aP} {mk j : Nat} {G : gG} {s : aS} {xs : List Int32} (h : CI dA c P mk w G s) (hj : j < 10) (hl : sL s 0 j = some (.inl (.inl xs))) : xs.length ≤ 16 := by
  obtain ⟨a, b, ou, ca, hr, g1, g2, g3, g4⟩ := CI_glo h
  have hs := g4 j hj
  rw [hl] at hs
  obtain ⟨q, e, _, _, _, _, _, _, _, _, h6⟩ := hs
  exact h6.1
theorem cnt_u {k : Int32} {z z2 a1 a2 a3 a4 : Nat} (h1 : k = 0 ∧ z = a1 ∨ k = 1 ∧ z = a2 ∨ k = 2 ∧ z = a3 ∨ k = 3 ∧ z = a4) (h2 : k = 0 ∧ z2 = a1 ∨ k = 1 ∧ z2 = a2 ∨ k = 2 ∧ z2 = a3 ∨ k = 3 ∧ z2 = a4) : z2 = z := by
  rcases h1 with ⟨p1, p2⟩ | ⟨p1, p2⟩ | ⟨p1, p2⟩ | ⟨p1, p2⟩ <;> rcases h2 with ⟨q1, q2⟩ | ⟨q1, q2⟩ | ⟨q1, q2⟩ | ⟨q1, q2⟩ <;> first | exact q2.trans p2.symm | exact absurd (p1.symm.trans q1) (by decide)
theorem cnt_n {k : Int32} {z a1 a2 a3 a4 : Nat} (h1 : k = 0 ∧ z = a1 ∨ k = 1 ∧ z = a2 ∨ k = 2 ∧ z = a3 ∨ k = 3 ∧ z = a4) (h2 : ¬ k = 0 ∧ ¬ k = 1 ∧ ¬ k = 2 ∧ ¬ k = 3) : False := by
  rcases h1 with ⟨p1, _⟩ | ⟨p1, _⟩ | ⟨p1, _⟩ | ⟨p1, _⟩
  · exact h2.1 p1
  · exact h2.2.1 p1
  · exact h2.2.2.1 p1
  · exact h2.2.2.2 p1
set_option maxRecDepth 100000 in
theorem lc_count (hi : i + 4 < U.2.1) (hU : U.2.1 < 2 ^ 31) (hd : 180 ≤ d) (hK : k + 981 ≤ K) (hN : n + 8876 ≤ N) (h : JA dA v o m0 w t) (hnx : LN dA U d K N v o m0 i t k n Q) : zy dA U d K N Y_law 438 [some (.ref U.1), some (.ref v), some (.ref m0), some (.ref o), some (.int (nI i)), o5, o6] [] w k n Q := by
  obtain ⟨b, c, P, mk, B, G, s, S, res, hb, rfl, h9, hJ, hw, hI, hg, hF⟩ := h
  obtain ⟨hC, ⟨la, hv, hr⟩, f, ho⟩ := id hJ
  repeat refine y_i rfl rfl ?_
  refine y_sld (j := i + 1) rfl (nI_1 i) (by omega) hU ?_
  repeat refine y_i rfl rfl ?_
  refine y_hSk [.ref v, .int (U.2.2 (i + 1)), .ref o] [] 9 1 6 rfl rfl rfl (Nat.le_of_ble_eq_true rfl) (Nat.le_of_ble_eq_true rfl) (by omega) (by omega) (by omega) (w_count (by omega) (by omega) (by omega) hC hv ho (fun q => ?_) (fun z q => ?_))
  · have hob : w (b 0) = some (.inr (C_Model, mF b S)) := mw_e hb hw (k := 0) rfl
    show zy dA U d K N Y_law (446 + 3) _ _ _ _ _ _
    repeat refine y_i rfl rfl ?_
    refine y_sld (j := i + 1) rfl (nI_1 i) (by omega) hU ?_
    refine y_cVk [.int (U.2.2 (i + 1))] [] 1 0 0 rfl hob rfl rfl (Nat.le_of_ble_eq_true rfl) (Nat.le_of_ble_eq_true rfl) (by omega) (by omega) (by omega) (mwE hw (r_countR hb (by omega) hI (fun q2 => ⟨_, rfl, ?_⟩) (fun z q2 => (cnt_n q2 q).elim)))
    have hJ2 := JK_mw (S' := jI S 0 1) hb h9 hw hJ
    obtain ⟨f2, ho2⟩ := hJ2.2.2
    repeat refine y_i rfl rfl ?_
    exact tl_count hb (mw_mw hb) rfl ho2 (fun q => absurd q (by decide)) (by omega) (by omega) (by omega) (hnx _ _ _ _ _ ⟨b, c, P, mk, B, G, s, jI S 0 1, res, hb, rfl, h9, hJ2, mw_mw hb, IDL_0j hI, hg, by omega⟩ (by omega) (by omega))
  · have hw1 := mw_orow (x := orow dA (vp_updL f 0 (nI z).toInt64)) hb hw ho
    have hJ1 := JK_out hJ (vp_updL f 0 (nI z).toInt64)
    have ho1 : va_up w o (some (orow dA (vp_updL f 0 (nI z).toInt64))) o = some (orow dA (vp_updL f 0 (nI z).toInt64)) := va_up_self _ _ _
    generalize va_up w o (some (orow dA (vp_updL f 0 (nI z).toInt64))) = w1 at hw1 hJ1 ho1 ⊢
    have hob : w1 (b 0) = some (.inr (C_Model, mF b S)) := mw_e hb hw1 (k := 0) rfl
    show zy dA U d K N Y_law (446 + 3) _ _ _ _ _ _
    repeat refine y_i rfl rfl ?_
    refine y_sld (j := i + 1) rfl (nI_1 i) (by omega) hU ?_
    refine y_cVk [.int (U.2.2 (i + 1))] [] 1 0 0 rfl hob rfl rfl (Nat.le_of_ble_eq_true rfl) (Nat.le_of_ble_eq_true rfl) (by omega) (by omega) (by omega) (mwE hw1 (r_countR hb (by omega) hI (fun q2 => (cnt_n q q2).elim) (fun z2 q2 => ⟨_, rfl, ?_⟩)))
    have e := cnt_u q q2
    subst e
    have hJ2 := JK_mw (S' := jI S 0 0) hb h9 hw1 hJ1
    have ho2 : mw dA b w1 (jI S 0 0) o = some (orow dA (vp_updL f 0 (nI z2).toInt64)) := mk_l hb (S := S) (by rw [hw1]; exact ho1)
    repeat refine y_i rfl rfl ?_
    exact tl_count hb (mw_mw hb) rfl ho2 (fun _ => rfl) (by omega) (by omega) (by omega) (hnx _ _ _ _ _ ⟨b, c, P, mk, B, G, s, jI S 0 0, res, hb, rfl, h9, hJ2, mw_mw hb, IDL_0j hI, hg, by omega⟩ (by omega) (by omega))
set_option maxRecDepth 100000 in
theorem lc_element (hi : i + 4 < U.2.1) (hU : U.2.1 < 2 ^ 31) (hd : 180 ≤ d) (hK : k + 981 ≤ K) (hN : n + 8876 ≤ N) (h : JA dA v o m0 w t) (hnx : LN dA U d K N v o m0 i t k n Q) : zy dA U d K N Y_law 232 [some (.ref U.1), some (.ref v), some (.ref m0), some (.ref o), some (.int (nI i)), o5, o6] [] w k n Q := by
  obtain ⟨b, c, P, mk, B, G, s, S, res, hb, rfl, h9, hJ, hw, hI, hg, hF⟩ := h
  obtain ⟨hC, ⟨la, hv, hr⟩, f, ho⟩ := id hJ
  repeat refine y_i rfl rfl ?_
  refine y_sld (j := i + 1) rfl (nI_1 i) (by omega) hU ?_
  repeat refine y_i rfl rfl ?_
  refine y_hSk [.ref v, .int (U.2.2 (i + 1)), .ref o] [] 9 1 6 rfl rfl rfl (Nat.le_of_ble_eq_true rfl) (Nat.le_of_ble_eq_true rfl) (by omega) (by omega) (by omega) (w_element (by omega) (by omega) (by omega) hv hr ho (fun q => ?_) (fun xs q q1 => ?_) (fun xs j q q1 q2 => ?_))
  · have hob : w (b 0) = some (.inr (C_Model, mF b S)) := mw_e hb hw (k := 0) rfl
    show zy dA U d K N Y_law (240 + 3) _ _ _ _ _ _
    repeat refine y_i rfl rfl ?_
    refine y_sld (j := i + 1) rfl (nI_1 i) (by omega) hU ?_
    refine y_cVk [.int (U.2.2 (i + 1))] [] 1 0 0 rfl hob rfl rfl (Nat.le_of_ble_eq_true rfl) (Nat.le_of_ble_eq_true rfl) (by omega) (by omega) (by omega) (mwE hw (r_elementR hb (by omega) hI (fun g => ⟨_, rfl, ?_⟩) (fun xs g _ => absurd g (q xs)) (fun xs j g _ _ => absurd g (q xs))))
    have hJ2 := JK_mw (S' := jI S 0 1) hb h9 hw hJ
    obtain ⟨f2, ho2⟩ := hJ2.2.2
    repeat refine y_i rfl rfl ?_
    exact tl_element hb (mw_mw hb) rfl ho2 (fun q => absurd q (by decide)) (by omega) (by omega) (by omega) (hnx _ _ _ _ _ ⟨b, c, P, mk, B, G, s, jI S 0 1, res, hb, rfl, h9, hJ2, mw_mw hb, IDL_0j hI, hg, by omega⟩ (by omega) (by omega))
  · have hob : w (b 0) = some (.inr (C_Model, mF b S)) := mw_e hb hw (k := 0) rfl
    show zy dA U d K N Y_law (240 + 3) _ _ _ _ _ _
    repeat refine y_i rfl rfl ?_
    refine y_sld (j := i + 1) rfl (nI_1 i) (by omega) hU ?_
    refine y_cVk [.int (U.2.2 (i + 1))] [] 1 0 0 rfl hob rfl rfl (Nat.le_of_ble_eq_true rfl) (Nat.le_of_ble_eq_true rfl) (by omega) (by omega) (by omega) (mwE hw (r_elementR hb (by omega) hI (fun g => absurd q (g xs)) (fun ys g g1 => ⟨_, rfl, ?_⟩) (fun ys j g g1 g2 => (q1 ⟨j, by have e := q.symm.trans g; cases e; exact g1, g2⟩).elim)))
    have hJ2 := JK_mw (S' := jI S 0 2) hb h9 hw hJ
    obtain ⟨f2, ho2⟩ := hJ2.2.2
    repeat refine y_i rfl rfl ?_
    exact tl_element hb (mw_mw hb) rfl ho2 (fun q => absurd q (by decide)) (by omega) (by omega) (by omega) (hnx _ _ _ _ _ ⟨b, c, P, mk, B, G, s, jI S 0 2, res, hb, rfl, h9, hJ2, mw_mw hb, IDL_0j hI, hg, by omega⟩ (by omega) (by omega))
  · have hw1 := mw_orow (x := orow dA (vp_updL f 0 (p_at xs j).toInt64)) hb hw ho
    have hJ1 := JK_out hJ (vp_updL f 0 (p_at xs j).toInt64)
    have ho1 : va_up w o (some (orow dA (vp_updL f 0 (p_at xs j).toInt64))) o = some (orow dA (vp_updL f 0 (p_at xs j).toInt64)) := va_up_self _ _ _
    generalize va_up w o (some (orow dA (vp_updL f 0 (p_at xs j).toInt64))) = w1 at hw1 hJ1 ho1 ⊢
    have hob : w1 (b 0) = some (.inr (C_Model, mF b S)) := mw_e hb hw1 (k := 0) rfl
    show zy dA U d K N Y_law (240 + 3) _ _ _ _ _ _
    repeat refine y_i rfl rfl ?_
    refine y_sld (j := i + 1) rfl (nI_1 i) (by omega) hU ?_
    refine y_cVk [.int (U.2.2 (i + 1))] [] 1 0 0 rfl hob rfl rfl (Nat.le_of_ble_eq_true rfl) (Nat.le_of_ble_eq_true rfl) (by omega) (by omega) (by omega) (mwE hw1 (r_elementR hb (by omega) hI (fun g => absurd q (g xs)) (fun ys g g1 => (g1 ⟨j, by have e := q.symm.trans g; cases e; exact q1, q2⟩).elim) (fun ys j2 g g1 g2 => ⟨_, rfl, ?_⟩)))
    have e := q.symm.trans g
    cases e
    have ej : j2 = j := nI_inj2 (g2.symm.trans q2) (by have := rvO_len hr q; omega) (by have := rvO_len hr q; omega)
    subst ej
    have hJ2 := JK_mw (S' := jI S 0 0) hb h9 hw1 hJ1
    have ho2 : mw dA b w1 (jI S 0 0) o = some (orow dA (vp_updL f 0 (p_at xs j2).toInt64)) := mk_l hb (S := S) (by rw [hw1]; exact ho1)
    repeat refine y_i rfl rfl ?_
    exact tl_element hb (mw_mw hb) rfl ho2 (fun _ => rfl) (by omega) (by omega) (by omega) (hnx _ _ _ _ _ ⟨b, c, P, mk, B, G, s, jI S 0 0, res, hb, rfl, h9, hJ2, mw_mw hb, IDL_0j hI, hg, by omega⟩ (by omega) (by omega))
set_option maxRecDepth 100000 in
theorem lc_variable (hi : i + 4 < U.2.1) (hU : U.2.1 < 2 ^ 31) (hd : 180 ≤ d) (hK : k + 981 ≤ K) (hN : n + 8876 ≤ N) (h : JA dA v o m0 w t) (hnx : LN dA U d K N v o m0 i t k n Q) : zy dA U d K N Y_law 301 [some (.ref U.1), some (.ref v), some (.ref m0), some (.ref o), some (.int (nI i)), o5, o6] [] w k n Q := by
  obtain ⟨b, c, P, mk, B, G, s, S, res, hb, rfl, h9, hJ, hw, hI, hg, hF⟩ := h
  obtain ⟨hC, ⟨la, hv, hr⟩, f, ho⟩ := id hJ
  repeat refine y_i rfl rfl ?_
  refine y_sld (j := i + 1) rfl (nI_1 i) (by omega) hU ?_
  repeat refine y_i rfl rfl ?_
  refine y_hSk [.ref v, .int (U.2.2 (i + 1)), .ref o] [] 9 1 6 rfl rfl rfl (Nat.le_of_ble_eq_true rfl) (Nat.le_of_ble_eq_true rfl) (by omega) (by omega) (by omega) (w_variable (by omega) (by omega) (by omega) hC hg hv ho (fun q => ?_) (fun j q q1 q2 => ?_) (fun j z q q1 q2 => ?_))
  · have hob : w (b 0) = some (.inr (C_Model, mF b S)) := mw_e hb hw (k := 0) rfl
    show zy dA U d K N Y_law (309 + 3) _ _ _ _ _ _
    repeat refine y_i rfl rfl ?_
    refine y_sld (j := i + 1) rfl (nI_1 i) (by omega) hU ?_
    refine y_cVk [.int (U.2.2 (i + 1))] [] 1 0 0 rfl hob rfl rfl (Nat.le_of_ble_eq_true rfl) (Nat.le_of_ble_eq_true rfl) (by omega) (by omega) (by omega) (mwE hw (r_variableR hb (by omega) hI hg (fun g => ⟨_, rfl, ?_⟩) (fun j g g1 _ => absurd ⟨j, g, g1⟩ q) (fun j z g g1 _ => absurd ⟨j, g, g1⟩ q)))
    have hJ2 := JK_mw (S' := jI S 0 1) hb h9 hw hJ
    obtain ⟨f2, ho2⟩ := hJ2.2.2
    repeat refine y_i rfl rfl ?_
    exact tl_variable hb (mw_mw hb) rfl ho2 (fun q => absurd q (by decide)) (by omega) (by omega) (by omega) (hnx _ _ _ _ _ ⟨b, c, P, mk, B, G, s, jI S 0 1, res, hb, rfl, h9, hJ2, mw_mw hb, IDL_0j hI, hg, by omega⟩ (by omega) (by omega))
  · have hw1 := mw_orow (x := orow dA (vp_updL f 0 (Int32.toInt64 (-2)))) hb hw ho
    have hJ1 := JK_out hJ (vp_updL f 0 (Int32.toInt64 (-2)))
    have ho1 : va_up w o (some (orow dA (vp_updL f 0 (Int32.toInt64 (-2))))) o = some (orow dA (vp_updL f 0 (Int32.toInt64 (-2)))) := va_up_self _ _ _
    generalize va_up w o (some (orow dA (vp_updL f 0 (Int32.toInt64 (-2))))) = w1 at hw1 hJ1 ho1 ⊢
    have hob : w1 (b 0) = some (.inr (C_Model, mF b S)) := mw_e hb hw1 (k := 0) rfl
    show zy dA U d K N Y_law (309 + 3) _ _ _ _ _ _
    repeat refine y_i rfl rfl ?_
    refine y_sld (j := i + 1) rfl (nI_1 i) (by omega) hU ?_
    refine y_cVk [.int (U.2.2 (i + 1))] [] 1 0 0 rfl hob rfl rfl (Nat.le_of_ble_eq_true rfl) (Nat.le_of_ble_eq_true rfl) (by omega) (by omega) (by omega) (mwE hw1 (r_variableR hb (by omega) hI hg (fun g => absurd ⟨j, q, q1⟩ g) (fun j2 g g1 g2 => ⟨_, rfl, ?_⟩) (fun j2 z g g1 g2 => absurd g2 (by rw [nI_inj2 (g1.symm.trans q1) (by omega) (by omega), q2]; exact fun e => by cases e))))
    have hJ2 := JK_mw (S' := jI S 0 0) hb h9 hw1 hJ1
    have ho2 : mw dA b w1 (jI S 0 0) o = some (orow dA (vp_updL f 0 (Int32.toInt64 (-2)))) := mk_l hb (S := S) (by rw [hw1]; exact ho1)
    repeat refine y_i rfl rfl ?_
    exact tl_variable hb (mw_mw hb) rfl ho2 (fun _ => rfl) (by omega) (by omega) (by omega) (hnx _ _ _ _ _ ⟨b, c, P, mk, B, G, s, jI S 0 0, res, hb, rfl, h9, hJ2, mw_mw hb, IDL_0j hI, hg, by omega⟩ (by omega) (by omega))
  · have hw1 := mw_orow (x := orow dA (vp_updL f 0 (vsz z).toInt64)) hb hw ho
    have hJ1 := JK_out hJ (vp_updL f 0 (vsz z).toInt64)
    have ho1 : va_up w o (some (orow dA (vp_updL f 0 (vsz z).toInt64))) o = some (orow dA (vp_updL f 0 (vsz z).toInt64)) := va_up_self _ _ _
    generalize va_up w o (some (orow dA (vp_updL f 0 (vsz z).toInt64))) = w1 at hw1 hJ1 ho1 ⊢
    have hob : w1 (b 0) = some (.inr (C_Model, mF b S)) := mw_e hb hw1 (k := 0) rfl
    show zy dA U d K N Y_law (309 + 3) _ _ _ _ _ _
    repeat refine y_i rfl rfl ?_
    refine y_sld (j := i + 1) rfl (nI_1 i) (by omega) hU ?_
    refine y_cVk [.int (U.2.2 (i + 1))] [] 1 0 0 rfl hob rfl rfl (Nat.le_of_ble_eq_true rfl) (Nat.le_of_ble_eq_true rfl) (by omega) (by omega) (by omega) (mwE hw1 (r_variableR hb (by omega) hI hg (fun g => absurd ⟨j, q, q1⟩ g) (fun j2 g g1 g2 => absurd g2 (by rw [nI_inj2 (g1.symm.trans q1) (by omega) (by omega), q2]; exact fun e => by cases e)) (fun j2 z2 g g1 g2 => ⟨_, rfl, ?_⟩)))
    have ej : j2 = j := nI_inj2 (g1.symm.trans q1) (by omega) (by omega)
    subst ej
    have e := q2.symm.trans g2
    cases e
    have hJ2 := JK_mw (S' := jI S 0 0) hb h9 hw1 hJ1
    have ho2 : mw dA b w1 (jI S 0 0) o = some (orow dA (vp_updL f 0 (vsz z).toInt64)) := mk_l hb (S := S) (by rw [hw1]; exact ho1)
    repeat refine y_i rfl rfl ?_
    exact tl_variable hb (mw_mw hb) rfl ho2 (fun _ => rfl) (by omega) (by omega) (by omega) (hnx _ _ _ _ _ ⟨b, c, P, mk, B, G, s, jI S 0 0, res, hb, rfl, h9, hJ2, mw_mw hb, IDL_0j hI, hg, by omega⟩ (by omega) (by omega))
set_option maxRecDepth 100000 in
theorem lc_value (hi : i + 4 < U.2.1) (hU : U.2.1 < 2 ^ 31) (hd : 180 ≤ d) (hK : k + 981 ≤ K) (hN : n + 8876 ≤ N) (h : JA dA v o m0 w t) (hnx : LN dA U d K N v o m0 i t k n Q) : zy dA U d K N Y_law 357 [some (.ref U.1), some (.ref v), some (.ref m0), some (.ref o), some (.int (nI i)), o5, o6] [] w k n Q := by
  obtain ⟨b, c, P, mk, B, G, s, S, res, hb, rfl, h9, hJ, hw, hI, hg, hF⟩ := h
  obtain ⟨hC, ⟨la, hv, hr⟩, f, ho⟩ := id hJ
  repeat refine y_i rfl rfl ?_
  refine y_sld (j := i + 1) rfl (nI_1 i) (by omega) hU ?_
  repeat refine y_i rfl rfl ?_
  refine y_sld (j := i + 2) rfl (nI_add i 2) (by omega) hU ?_
  repeat refine y_i rfl rfl ?_
  refine y_hSk [.ref v, .int (U.2.2 (i + 1)), .int (U.2.2 (i + 2)), .ref o] [] 9 1 6 rfl rfl rfl (Nat.le_of_ble_eq_true rfl) (Nat.le_of_ble_eq_true rfl) (by omega) (by omega) (by omega) (w_value (by omega) (by omega) (by omega) hC hg hv ho (fun q => ?_) (fun j q q1 q2 => ?_) (fun j xs a q q1 q2 q3 q4 => ?_))
  · have hob : w (b 0) = some (.inr (C_Model, mF b S)) := mw_e hb hw (k := 0) rfl
    show zy dA U d K N Y_law (371 + 3) _ _ _ _ _ _
    repeat refine y_i rfl rfl ?_
    refine y_sld (j := i + 1) rfl (nI_1 i) (by omega) hU ?_
    repeat refine y_i rfl rfl ?_
    refine y_sld (j := i + 2) rfl (nI_add i 2) (by omega) hU ?_
    refine y_cVk [.int (U.2.2 (i + 1)), .int (U.2.2 (i + 2))] [] 1 0 0 rfl hob rfl rfl (Nat.le_of_ble_eq_true rfl) (Nat.le_of_ble_eq_true rfl) (by omega) (by omega) (by omega) (mwE hw (r_valueR hb (by omega) hI hg (fun g => ⟨_, rfl, ?_⟩) (fun j g g1 _ => absurd ⟨j, g, g1⟩ q) (fun j xs a g g1 _ _ _ => absurd ⟨j, g, g1⟩ q)))
    have hJ2 := JK_mw (S' := jI S 0 1) hb h9 hw hJ
    obtain ⟨f2, ho2⟩ := hJ2.2.2
    repeat refine y_i rfl rfl ?_
    exact tl_value hb (mw_mw hb) rfl ho2 (fun q => absurd q (by decide)) (by omega) (by omega) (by omega) (hnx _ _ _ _ _ ⟨b, c, P, mk, B, G, s, jI S 0 1, res, hb, rfl, h9, hJ2, mw_mw hb, IDL_0j hI, hg, by omega⟩ (by omega) (by omega))
  · have hob : w (b 0) = some (.inr (C_Model, mF b S)) := mw_e hb hw (k := 0) rfl
    show zy dA U d K N Y_law (371 + 3) _ _ _ _ _ _
    repeat refine y_i rfl rfl ?_
    refine y_sld (j := i + 1) rfl (nI_1 i) (by omega) hU ?_
    repeat refine y_i rfl rfl ?_
    refine y_sld (j := i + 2) rfl (nI_add i 2) (by omega) hU ?_
    refine y_cVk [.int (U.2.2 (i + 1)), .int (U.2.2 (i + 2))] [] 1 0 0 rfl hob rfl rfl (Nat.le_of_ble_eq_true rfl) (Nat.le_of_ble_eq_true rfl) (by omega) (by omega) (by omega) (mwE hw (r_valueR hb (by omega) hI hg (fun g => absurd ⟨j, q, q1⟩ g) (fun j2 g g1 g2 => ⟨_, rfl, ?_⟩) (fun j2 xs a g g1 g2 g3 g4 => (q2 ⟨xs, a, by rw [nI_inj2 (q1.symm.trans g1) (by omega) (by omega)]; exact g2, g3, g4⟩).elim)))
    have hJ2 := JK_mw (S' := jI S 0 2) hb h9 hw hJ
    obtain ⟨f2, ho2⟩ := hJ2.2.2
    repeat refine y_i rfl rfl ?_
    exact tl_value hb (mw_mw hb) rfl ho2 (fun q => absurd q (by decide)) (by omega) (by omega) (by omega) (hnx _ _ _ _ _ ⟨b, c, P, mk, B, G, s, jI S 0 2, res, hb, rfl, h9, hJ2, mw_mw hb, IDL_0j hI, hg, by omega⟩ (by omega) (by omega))
  · have hw1 := mw_orow (x := orow dA (vp_updL f 0 (p_at xs a).toInt64)) hb hw ho
    have hJ1 := JK_out hJ (vp_updL f 0 (p_at xs a).toInt64)
    have ho1 : va_up w o (some (orow dA (vp_updL f 0 (p_at xs a).toInt64))) o = some (orow dA (vp_updL f 0 (p_at xs a).toInt64)) := va_up_self _ _ _
    generalize va_up w o (some (orow dA (vp_updL f 0 (p_at xs a).toInt64))) = w1 at hw1 hJ1 ho1 ⊢
    have hob : w1 (b 0) = some (.inr (C_Model, mF b S)) := mw_e hb hw1 (k := 0) rfl
    show zy dA U d K N Y_law (371 + 3) _ _ _ _ _ _
    repeat refine y_i rfl rfl ?_
    refine y_sld (j := i + 1) rfl (nI_1 i) (by omega) hU ?_
    repeat refine y_i rfl rfl ?_
    refine y_sld (j := i + 2) rfl (nI_add i 2) (by omega) hU ?_
    refine y_cVk [.int (U.2.2 (i + 1)), .int (U.2.2 (i + 2))] [] 1 0 0 rfl hob rfl rfl (Nat.le_of_ble_eq_true rfl) (Nat.le_of_ble_eq_true rfl) (by omega) (by omega) (by omega) (mwE hw1 (r_valueR hb (by omega) hI hg (fun g => absurd ⟨j, q, q1⟩ g) (fun j2 g g1 g2 => (g2 ⟨xs, a, by rw [nI_inj2 (g1.symm.trans q1) (by omega) (by omega)]; exact q2, q3, q4⟩).elim) (fun j2 ys a2 g g1 g2 g3 g4 => ⟨_, rfl, ?_⟩)))
    have ej : j2 = j := nI_inj2 (g1.symm.trans q1) (by omega) (by omega)
    subst ej
    have e := q2.symm.trans g2
    cases e
    have ea : a2 = a := nI_inj2 (g4.symm.trans q4) (by have := CI_slen hC g q2; omega) (by have := CI_slen hC g q2; omega)
    subst ea
    have hJ2 := JK_mw (S' := jI S 0 0) hb h9 hw1 hJ1
    have ho2 : mw dA b w1 (jI S 0 0) o = some (orow dA (vp_updL f 0 (p_at xs a2).toInt64)) := mk_l hb (S := S) (by rw [hw1]; exact ho1)
    repeat refine y_i rfl rfl ?_
    exact tl_value hb (mw_mw hb) rfl ho2 (fun _ => rfl) (by omega) (by omega) (by omega) (hnx _ _ _ _ _ ⟨b, c, P, mk, B, G, s, jI S 0 0, res, hb, rfl, h9, hJ2, mw_mw hb, IDL_0j hI, hg, by omega⟩ (by omega) (by omega))
end LC
