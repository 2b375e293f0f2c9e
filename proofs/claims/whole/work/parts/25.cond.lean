/-! evaluateOfOne, conditions, choose, repeat -/
section EVG
variable {dA : Nat → ClassId} {c : Nat → Nat} {P : aP} {mk : Nat} {w w' : ww_W} {G G' : gG} {s s' : aS} {D K N d : Nat} {Q : zQ}
theorem e_bv_vec {r : aR} {xs : List Int32} {g : List Int32 → aS → aR} (h : r.1 = some (.inl xs)) : e_bv r g = g xs r.2 := by
  unfold e_bv e_bd
  rw [h]
  rfl
theorem e_bv_no {r : aR} {s' : aS} {g : List Int32 → aS → aR} (h : r.1 = none ∧ s' = r.2 ∨ (∃ fn : Nat × Nat × Nat, r.1 = some (.inr fn)) ∧ s' = uX r.2 3) : e_bv r g = (none, s') := by
  unfold e_bv e_bd
  rcases h with ⟨h1, rfl⟩ | ⟨⟨fn, h1⟩, rfl⟩
  · rw [h1]
  · rw [h1]; rfl
theorem r_raiseC {x : Int32} (hd : 1 ≤ D) (h : CI dA c P mk w G s) (hQ : zend dA c P mk w G s (e_fail s (p_rai x)) 0 0 Q) : zx dA D K N M_Evaluator_raise 0 (zargs 2 [.ref (c 0), .int x]) [] w 0 0 Q := by
  obtain ⟨a, b, q1, q2⟩ := id h.1
  obtain ⟨h1, h2⟩ := CI_ev (s' := uX s (p_rai x)) h rfl rfl rfl ⟨h.2.2.2.2.2.2.2.1.1, okI_rai x⟩ (a := a) (b := b) q2
  exact r_raise hd q1 rfl (hQ .null _ G 0 0 h1 rfl h2 (by show 0 + pK s ≤ _; omega) (by show 0 + pN s ≤ _; omega))
theorem r_ofOne {x e i : Nat} {op : Int32} (IH : evOK dA c P mk d) (h : CI dA c P mk w G s) (hD : dD d + 2 ≤ D) (hK : pK s + 2 ≤ K) (hN : pN s + 17 ≤ N) (hop : op = nI (40 - d)) (he : e < mk) (hi : i ≤ sN s) (hx : XP P w x e) (hk3 : kd P e = 9 ∨ kd P e = 14 ∨ kd P e = 15 ∨ kd P e = 23) (hQ : zend dA c P mk w G s (e_one P (e_ev P d) s e i) 2 17 Q) :
    zx dA D K N M_Evaluator_evaluateOfOne 0 (zargs 5 [.ref (c 0), .ref x, .ref (ge G i), .int op]) [] w 0 0 Q := by
  obtain ⟨num, hx0⟩ := id hx
  obtain ⟨ea, eb, hev⟩ := CI_obj h
  obtain ⟨ho, h120⟩ := CI_okE h he
  have hoa := ho.2.2.2.2.2.2.2.2.1 (by rcases hk3 with q | q | q | q <;> simp [q])
  obtain ⟨ha1, ha2⟩ := okH_t hoa (by omega)
  have hd8 : 8 ≤ dD d := by unfold dD; omega
  unfold e_one at hQ
  repeat refine z_i rfl rfl ?_
  refine z_get rfl hx0 rfl ?_
  repeat refine z_i rfl rfl ?_
  refine z_cVk [.int (pa P e), .ref (ge G i), .int op] [] (dD d + 1) K N rfl hev rfl rfl (Nat.le_of_ble_eq_true rfl) (Nat.le_of_ble_eq_true rfl) (by omega) (by omega) (by omega) (r_elems IH h (Nat.le_refl _) (by omega) (by omega) hop ha1 (by omega) hi ?_)
  generalize e_ev P d s (tN (pa P e)) i = r at hQ ⊢
  refine ⟨fun xs a f w1 G1 k1 n1 hr hc1 hw1 hf h4 h16 hle1 hk1 hn1 => ⟨_, rfl, ?_⟩, fun s1 w1 G1 k1 n1 hr hc1 hle1 hk1 hn1 => ⟨_, rfl, ?_⟩⟩
  · rw [e_bv_vec hr] at hQ
    obtain ⟨h16, hok⟩ := h16
    obtain ⟨num1, hx1⟩ := XP_le hle1 hx
    obtain ⟨ea1, eb1, hev1⟩ := CI_obj hc1
    generalize hs1 : r.2 = s1 at hQ hc1 hle1 hk1 hn1
    repeat refine z_i rfl rfl ?_
    refine z_bt rfl rfl trivial ?_
    repeat refine z_i rfl rfl ?_
    refine z_get rfl hx1 rfl ?_
    have hne : ∀ {y : Int32} {x0 : Int}, kd P e = y → ¬ y.toInt = x0 → ¬ (kd P e).toInt = x0 := fun h1 h2 => by rw [h1]; exact h2
    rcases hk3 with hk | hk | hk | hk
    · rw [if_pos hk] at hQ
      refine z_sw rfl (t := 56) (by rw [hk]; rfl) ?_
      repeat refine z_i rfl rfl ?_
      refine z_cVk [.ref a] [] (dD d) 2 17 rfl hev1 rfl rfl (Nat.le_of_ble_eq_true rfl) (Nat.le_of_ble_eq_true rfl) (by omega) (by omega) (by omega) (r_negate (by omega) (by omega) (by omega) hw1 (by omega) (zvec_of (ck := 2) (cn := 17) hc1 h16 (fun j _ => okI_not _) (by omega) (by omega) (zend_ret (ck := 2) (cn := 17) rfl hle1 (by omega) (by omega) (by omega) (by omega) ?_)))
      rw [vg_congr (fun j hj => by rw [hf j hj])]
      exact hQ
    · rw [if_neg (by rw [hk]; decide), if_pos hk] at hQ
      refine z_sw rfl (t := 63) (by rw [hk]; rfl) ?_
      refine z_new rfl (by omega) (by omega) (fun v hv => ?_)
      repeat refine z_i rfl rfl ?_
      refine z_alen 0 rfl (zup_at hv hw1) rfl ?_
      refine z_cIk [.int (nI xs.length)] [.ref v] (dD d) 1 1 rfl rfl rfl (Nat.le_of_ble_eq_true rfl) (Nat.le_of_ble_eq_true rfl) (by omega) (by omega) (by omega) (r_Vector_init_I (by omega) (by omega) (by omega) (va_up_self _ _ _) _ (fun q hq => ⟨_, rfl, ?_⟩))
      refine z_retA rfl rfl (by omega) (by omega) (zone_of (ck := 2 + (0 + k1)) (cn := 17 + (0 + n1)) (s := s1) hc1 (by omega) (by omega) (okI_nI (by omega)) ?_ hv hq)
      intro v' w' G' k' n' hc hv hle h1 h2
      replace h1 : k' + pK s1 ≤ _ := h1
      replace h2 : n' + pN s1 ≤ _ := h2
      exact hQ v' w' G' k' n' hc hv (LE_trans hle1 hle) (by show _ + pK s1 ≤ _; omega) (by show _ + pN s1 ≤ _; omega)
    · rw [if_neg (by rw [hk]; decide), if_neg (by rw [hk]; decide), if_pos hk] at hQ
      refine z_sw rfl (t := 74) (by rw [hk]; rfl) ?_
      refine z_new rfl (by omega) (by omega) (fun v hv => ?_)
      repeat refine z_i rfl rfl ?_
      refine z_cSk [.ref a] [.ref v, .ref v] 1 0 0 rfl rfl rfl (Nat.le_of_ble_eq_true rfl) (Nat.le_of_ble_eq_true rfl) (by omega) (by omega) (by omega) (r_sum (by omega) (zup_at hv hw1) (by omega) _ ⟨_, rfl, ?_⟩)
      refine z_cIk [.int (p_sumL f xs.length 0 0)] [.ref v] (dD d) 1 1 rfl rfl rfl (Nat.le_of_ble_eq_true rfl) (Nat.le_of_ble_eq_true rfl) (by omega) (by omega) (by omega) (r_Vector_init_I (by omega) (by omega) (by omega) (va_up_self _ _ _) _ (fun q hq => ⟨_, rfl, ?_⟩))
      rw [p_sumL_congr (g := p_at xs) xs.length 0 0 (fun j hj => hf j (by omega))]
      refine z_retA rfl rfl (by omega) (by omega) (zone_of (ck := 2 + (0 + k1)) (cn := 17 + (0 + n1)) (s := s1) hc1 (by omega) (by omega) (okI_sumL _ _ _ _) ?_ hv hq)
      intro v' w' G' k' n' hc hv hle h1 h2
      replace h1 : k' + pK s1 ≤ _ := h1
      replace h2 : n' + pN s1 ≤ _ := h2
      exact hQ v' w' G' k' n' hc hv (LE_trans hle1 hle) (by show _ + pK s1 ≤ _; omega) (by show _ + pN s1 ≤ _; omega)
    · rw [if_neg (by rw [hk]; decide), if_neg (by rw [hk]; decide), if_neg (by rw [hk]; decide)] at hQ
      refine z_sw rfl (t := 87) (by rw [hk]; rfl) ?_
      repeat refine z_i rfl rfl ?_
      refine z_cSk [.ref a] [.ref (c 0)] 0 0 0 rfl rfl rfl (Nat.le_of_ble_eq_true rfl) (Nat.le_of_ble_eq_true rfl) (by omega) (by omega) (by omega) (r_first hw1 (by omega) _ ⟨_, rfl, ?_⟩)
      rw [p_fst_congr (g := p_at xs) (fun j hj => hf j hj)]
      refine z_cVk [.int (p_fst xs.length (p_at xs))] [] 1 0 0 rfl hev1 rfl rfl (Nat.le_of_ble_eq_true rfl) (Nat.le_of_ble_eq_true rfl) (by omega) (by omega) (by omega) (r_raiseC (by omega) hc1 (zend_ret rfl hle1 (by omega) (by omega) (by omega) (by omega) hQ))
  · rw [e_bv_no hr] at hQ
    repeat refine z_i rfl rfl ?_
    refine z_bf rfl rfl (fun q => q) ?_
    repeat refine z_i rfl rfl ?_
    exact z_retA rfl rfl (by omega) (by omega) (hQ .null w1 G1 _ _ hc1 rfl hle1 (by show _ + pK s1 ≤ _; omega) (by show _ + pN s1 ≤ _; omega))
/-- the state in which a condition without a truth ends -/
def e_cN (r : aR) : aS := (e_cond r (fun _ s => (none, s))).2
/-- the end Q allows what condition makes of r -/
def zendC (dA : Nat → ClassId) (c : Nat → Nat) (P : aP) (mk : Nat) (w : ww_W) (G : gG) (s : aS) (r : aR) (Q : zQ) : Prop :=
  (∀ (x : Int32) (w' : ww_W) (G' : gG) (k' n' : Nat), ¬ x = pNA → (∀ g : Int32 → aS → aR, e_cond r g = g x r.2) → CI dA c P mk w' G' r.2 → LEx c w G s w' G' r.2 → k' + pK r.2 ≤ pK s → n' + pN r.2 ≤ pN s → Q (.inl (some (.int x))) w' k' n')
  ∧ ∀ (s' : aS) (w' : ww_W) (G' : gG) (k' n' : Nat), (∀ g : Int32 → aS → aR, e_cond r g = (none, s')) → CI dA c P mk w' G' s' → LEx c w G s w' G' s' → k' + pK s' ≤ pK s → n' + pN s' ≤ pN s → Q (.inl (some (.int pNA))) w' k' n'
theorem r_cond {e i : Nat} {op x : Int32} (IH : evOK dA c P mk d) (h : CI dA c P mk w G s) (hD : dD d + 2 ≤ D) (hK : pK s ≤ K) (hN : pN s ≤ N) (hop : op = nI (40 - d)) (hx : x = nI e) (he : e < mk) (hi : i ≤ sN s) (hQ : zendC dA c P mk w G s (e_ev P d s e i) Q) :
    zx dA D K N M_Evaluator_condition 0 (zargs 6 [.ref (c 0), .int x, .ref (ge G i), .int op]) [] w 0 0 Q := by
  obtain ⟨ea, eb, hev⟩ := CI_obj h
  repeat refine z_i rfl rfl ?_
  refine z_cVk [.int x, .ref (ge G i), .int op] [] (dD d + 1) K N rfl hev rfl rfl (Nat.le_of_ble_eq_true rfl) (Nat.le_of_ble_eq_true rfl) (by omega) (by omega) (by omega) (r_elems IH h (Nat.le_refl _) (by omega) (by omega) hop hx (by omega) hi ?_)
  generalize e_ev P d s e i = r at hQ ⊢
  obtain ⟨hQ1, hQ2⟩ := hQ
  refine ⟨fun xs a f w1 G1 k1 n1 hr hc1 hw1 hf h4 h16 hle1 hk1 hn1 => ⟨_, rfl, ?_⟩, fun s1 w1 G1 k1 n1 hr hc1 hle1 hk1 hn1 => ⟨_, rfl, ?_⟩⟩
  · obtain ⟨ea1, eb1, hev1⟩ := CI_obj hc1
    obtain ⟨h16, hok⟩ := h16
    repeat refine z_i rfl rfl ?_
    refine z_bt rfl rfl trivial ?_
    repeat refine z_i rfl rfl ?_
    refine z_cSk [.ref a] [] 0 0 0 rfl rfl rfl (Nat.le_of_ble_eq_true rfl) (Nat.le_of_ble_eq_true rfl) (by omega) (by omega) (by omega) (r_first hw1 (by omega) _ ⟨_, rfl, ?_⟩)
    rw [p_fst_congr (g := p_at xs) (fun j hj => hf j hj)]
    repeat refine z_i rfl rfl ?_
    refine z_b rfl rfl (fun h5 => ?_) (fun h5 => ?_)
    · replace h5 : ¬ p_fst xs.length (p_at xs) = pNA := h5
      repeat refine z_i rfl rfl ?_
      exact z_retI rfl (by omega) (by omega) (hQ1 _ w1 G1 _ _ h5 (fun g => by unfold e_cond; rw [e_bv_vec hr, if_neg h5]) hc1 hle1 (by omega) (by omega))
    · replace h5 : p_fst xs.length (p_at xs) = pNA := Classical.not_not.mp h5
      repeat refine z_i rfl rfl ?_
      refine z_cVk [.int 7] [] 0 0 0 rfl hev1 rfl rfl (Nat.le_of_ble_eq_true rfl) (Nat.le_of_ble_eq_true rfl) (by omega) (by omega) (by omega) (r_failC hc1 (fun v2 w2 G2 k2 n2 hc2 hv2 hle2 hk2 hn2 => ⟨_, rfl, ?_⟩))
      replace hv2 : v2 = .null := hv2
      subst hv2
      replace hk2 : k2 + pK r.2 ≤ pK r.2 + 0 := hk2
      replace hn2 : n2 + pN r.2 ≤ pN r.2 + 0 := hn2
      rw [h5]
      repeat refine z_i rfl rfl ?_
      exact z_retI rfl (by omega) (by omega) (hQ2 (uX r.2 7) w2 G2 _ _ (fun g => by unfold e_cond; rw [e_bv_vec hr, if_pos h5]; rfl) hc2 (LE_trans hle1 hle2) (by show _ + pK r.2 ≤ _; omega) (by show _ + pN r.2 ≤ _; omega))
  · repeat refine z_i rfl rfl ?_
    refine z_bf rfl rfl (fun q => q) ?_
    repeat refine z_i rfl rfl ?_
    exact z_retI rfl (by omega) (by omega) (hQ2 s1 w1 G1 _ _ (fun g => by unfold e_cond; rw [e_bv_no hr]) hc1 hle1 (by omega) (by omega))
/-- the constant NULL is a value -/
theorem CI_nul (h : CI dA c P mk w G s) : rv dA c P mk w G s (.ref (c 5)) (.inl []) := h.2.2.1.1
theorem r_choose {x e i : Nat} {op : Int32} (IH : evOK dA c P mk d) (h : CI dA c P mk w G s) (hD : dD d + 3 ≤ D) (hK : pK s ≤ K) (hN : pN s ≤ N) (hop : op = nI (40 - d)) (he : e < mk) (hi : i ≤ sN s) (hx : XP P w x e) (hk3 : kd P e = 16) (hQ : zend dA c P mk w G s (e_if P (e_ev P d) s e i) 0 0 Q) :
    zx dA D K N M_Evaluator_choose 0 (zargs 5 [.ref (c 0), .ref x, .ref (ge G i), .int op]) [] w 0 0 Q := by
  obtain ⟨num, hx0⟩ := id hx
  obtain ⟨ea, eb, hev⟩ := CI_obj h
  obtain ⟨ho, h120⟩ := CI_okE h he
  obtain ⟨hoa, hob, hoc⟩ := ho.2.2.2.2.2.2.2.2.2.2.1 hk3
  obtain ⟨ha1, ha2⟩ := okH_t hoa (by omega)
  obtain ⟨hb1, hb2⟩ := okH_t hob (by omega)
  unfold e_if at hQ
  repeat refine z_i rfl rfl ?_
  refine z_get rfl hx0 rfl ?_
  repeat refine z_i rfl rfl ?_
  refine z_cVk [.int (pa P e), .ref (ge G i), .int op] [] (dD d + 2) K N rfl hev rfl rfl (Nat.le_of_ble_eq_true rfl) (Nat.le_of_ble_eq_true rfl) (by omega) (by omega) (by omega) (r_cond IH h (Nat.le_refl _) (by omega) (by omega) hop ha1 (by omega) hi ?_)
  generalize e_ev P d s (tN (pa P e)) i = r at hQ ⊢
  refine ⟨fun y w1 G1 k1 n1 hy hr hc1 hle1 hk1 hn1 => ⟨_, rfl, ?_⟩, fun s1 w1 G1 k1 n1 hr hc1 hle1 hk1 hn1 => ⟨_, rfl, ?_⟩⟩
  · rw [hr] at hQ
    obtain ⟨num1, hx1⟩ := XP_le hle1 hx
    obtain ⟨ea1, eb1, hev1⟩ := CI_obj hc1
    generalize hs1 : r.2 = s1 at hQ hc1 hle1 hk1 hn1
    have hi1 : i ≤ sN s1 := Nat.le_trans hi hle1.2.2.2.2.1
    rw [← (hle1.2.1 i hi).1]
    repeat refine z_i rfl rfl ?_
    refine z_bt rfl rfl hy ?_
    repeat refine z_i rfl rfl ?_
    refine z_b rfl rfl (fun h5 => ?_) (fun h5 => ?_)
    · rw [if_pos h5] at hQ
      repeat refine z_i rfl rfl ?_
      refine z_get rfl hx1 rfl ?_
      repeat refine z_i rfl rfl ?_
      refine z_b rfl rfl (fun h6 => ?_) (fun h6 => ?_)
      · rw [if_neg h6] at hQ
        obtain ⟨hc11, hc2⟩ := okH_t (hoc.resolve_left h6) (by omega)
        repeat refine z_i rfl rfl ?_
        refine z_get rfl hx1 rfl ?_
        repeat refine z_i rfl rfl ?_
        refine z_cVk [.int (pc P e), .ref (ge G1 i), .int op] [] (dD d) (K - k1) (N - n1) rfl hev1 rfl rfl (Nat.le_of_ble_eq_true rfl) (Nat.le_of_ble_eq_true rfl) (by omega) (by omega) (by omega) (IH _ G1 s1 _ i _ _ _ _ _ hc1 (show tN (pc P e) < mk by omega) hi1 (by omega) (by omega) hc11 hop (zend_ret rfl hle1 (by omega) (by omega) (by omega) (by omega) hQ))
      · rw [if_pos (Classical.not_not.mp h6)] at hQ
        repeat refine z_i rfl rfl ?_
        refine z_get rfl hev1 rfl ?_
        refine z_j rfl ?_
        exact z_retA rfl rfl (by omega) (by omega) (hQ (.ref (c 5)) w1 G1 _ _ hc1 (CI_nul hc1) hle1 (by show _ + pK s1 ≤ _; omega) (by show _ + pN s1 ≤ _; omega))
    · rw [if_neg h5] at hQ
      repeat refine z_i rfl rfl ?_
      refine z_get rfl hx1 rfl ?_
      repeat refine z_i rfl rfl ?_
      refine z_cVk [.int (pb P e), .ref (ge G1 i), .int op] [] (dD d) (K - k1) (N - n1) rfl hev1 rfl rfl (Nat.le_of_ble_eq_true rfl) (Nat.le_of_ble_eq_true rfl) (by omega) (by omega) (by omega) (IH _ G1 s1 _ i _ _ _ _ _ hc1 (show tN (pb P e) < mk by omega) hi1 (by omega) (by omega) hb1 hop (zend_ret rfl hle1 (by omega) (by omega) (by omega) (by omega) hQ))
  · rw [hr] at hQ
    repeat refine z_i rfl rfl ?_
    refine z_bf rfl rfl (fun q => q rfl) ?_
    repeat refine z_i rfl rfl ?_
    exact z_retA rfl rfl (by omega) (by omega) (hQ .null w1 G1 _ _ hc1 rfl hle1 (by show _ + pK s1 ≤ _; omega) (by show _ + pN s1 ≤ _; omega))
theorem r_repeat_loop {x e i : Nat} {op : Int32} (IH : evOK dA c P mk d) (hD : dD d + 3 ≤ D) (hop : op = nI (40 - d)) (he : e < mk) (hk3 : kd P e = 17) {g0 : Nat} {w0 : ww_W} {G0 : gG} {s0 : aS} (hi0 : i ≤ sN s0) (hg0 : g0 = ge G0 i) (hK : pK s0 ≤ K) (hN : pN s0 ≤ N) : ∀ (r j : Nat) (w : ww_W) (G : gG) (s : aS) (k n : Nat) (o : Option Value), j + r = 401 → CI dA c P mk w G s → LEx c w0 G0 s0 w G s → XP P w x e → k + pK s ≤ pK s0 → n + pN s ≤ pN s0 → zend dA c P mk w0 G0 s0 (e_whl P (e_ev P d) e i r s) 0 0 Q →
    zx dA D K N M_Evaluator_repeat 3 [some (.ref (c 0)), some (.ref x), some (.ref g0), some (.int op), some (.int (nI j)), o] [] w k n Q := by
  intro r
  induction r with
  | zero =>
    intro j w G s k n o hj h hle hx hk hn hQ
    obtain ⟨ea, eb, hev⟩ := CI_obj h
    have hj : j = 401 := by omega
    subst hj
    repeat refine z_i rfl rfl ?_
    refine z_bt rfl rfl (by show nI 400 < nI 401; decide) ?_
    repeat refine z_i rfl rfl ?_
    refine z_cVk [.int 9] [] 0 0 0 rfl hev rfl rfl (Nat.le_of_ble_eq_true rfl) (Nat.le_of_ble_eq_true rfl) (by omega) (by omega) (by omega) (r_failC h (zend_ret rfl hle (by omega) (by omega) (by omega) (by omega) hQ))
  | succ r ih =>
    intro j w G s k n o hj h hle hx hk hn hQ
    obtain ⟨num, hx0⟩ := id hx
    obtain ⟨ea, eb, hev⟩ := CI_obj h
    obtain ⟨ho, h120⟩ := CI_okE h he
    obtain ⟨hoa, hob⟩ := ho.2.2.2.2.2.2.2.1 (by simp [hk3])
    obtain ⟨ha1, ha2⟩ := okH_t hoa (by omega)
    obtain ⟨hb1, hb2⟩ := okH_t hob (by omega)
    have hi : i ≤ sN s := Nat.le_trans hi0 hle.2.2.2.2.1
    have hgi : g0 = ge G i := by rw [hg0, (hle.2.1 i hi0).1]
    rw [hgi]
    rw [e_whl] at hQ
    repeat refine z_i rfl rfl ?_
    refine z_bf rfl rfl (nI_nlt (a := 400) (by omega) (by omega)) ?_
    repeat refine z_i rfl rfl ?_
    refine z_get rfl hx0 rfl ?_
    repeat refine z_i rfl rfl ?_
    refine z_cVk [.int (pa P e), .ref (ge G i), .int op] [] (dD d + 2) (K - k) (N - n) rfl hev rfl rfl (Nat.le_of_ble_eq_true rfl) (Nat.le_of_ble_eq_true rfl) (by omega) (by omega) (by omega) (r_cond IH h (Nat.le_refl _) (by omega) (by omega) hop ha1 (by omega) hi ?_)
    generalize e_ev P d s (tN (pa P e)) i = r1 at hQ ⊢
    refine ⟨fun y w1 G1 k1 n1 hy hr hc1 hle1 hk1 hn1 => ⟨_, rfl, ?_⟩, fun s1 w1 G1 k1 n1 hr hc1 hle1 hk1 hn1 => ⟨_, rfl, ?_⟩⟩
    · rw [hr] at hQ
      have hx1 := XP_le hle1 hx
      obtain ⟨num1, hx1'⟩ := id hx1
      obtain ⟨ea1, eb1, hev1⟩ := CI_obj hc1
      generalize hs1 : r1.2 = s1 at hQ hc1 hle1 hk1 hn1
      have hi1 : i ≤ sN s1 := Nat.le_trans hi hle1.2.2.2.2.1
      repeat refine z_i rfl rfl ?_
      refine z_b rfl rfl (fun h5 => ?_) (fun h5 => ?_)
      · replace h5 : ¬ y = 0 := h5
        rw [if_neg h5] at hQ
        repeat refine z_i rfl rfl ?_
        refine z_bf rfl rfl hy ?_
        repeat refine z_i rfl rfl ?_
        refine z_get rfl hx1' rfl ?_
        repeat refine z_i rfl rfl ?_
        rw [← (hle1.2.1 i hi).1]
        refine z_cVk [.int (pb P e), .ref (ge G1 i), .int op] [] (dD d) (K - k - k1) (N - n - n1) rfl hev1 rfl rfl (Nat.le_of_ble_eq_true rfl) (Nat.le_of_ble_eq_true rfl) (by omega) (by omega) (by omega) (IH _ G1 s1 (tN (pb P e)) i _ _ _ _ _ hc1 (by omega) hi1 (by omega) (by omega) hb1 hop ?_)
        generalize e_ev P d s1 (tN (pb P e)) i = r2 at hQ ⊢
        obtain ⟨r2, s2⟩ := r2
        intro v2 w2 G2 k2 n2 hc2 hv2 hle2 hk2 hn2
        refine ⟨_, rfl, ?_⟩
        replace hk2 : k2 + pK s2 ≤ pK s1 + 0 := hk2
        replace hn2 : n2 + pN s2 ≤ pN s1 + 0 := hn2
        cases r2 with
        | none =>
          replace hv2 : v2 = .null := hv2
          subst hv2
          refine z_bf rfl rfl (fun q => q) ?_
          repeat refine z_i rfl rfl ?_
          exact z_retA rfl rfl (by omega) (by omega) (hQ .null w2 G2 _ _ hc2 rfl (LE_trans hle (LE_trans hle1 hle2)) (by show _ + pK s2 ≤ _; omega) (by show _ + pN s2 ≤ _; omega))
        | some y2 =>
          obtain ⟨b, rfl⟩ := rv_ref (show rv dA c P mk w2 G2 s2 v2 y2 from hv2)
          refine z_bt rfl rfl trivial ?_
          refine z_i rfl rfl ?_
          refine z_j rfl ?_
          have hk := ih (j + 1) w2 G2 s2 (k + k1 + k2) (n + n1 + n2) (some (.int y)) (by omega) hc2 (LE_trans hle (LE_trans hle1 hle2)) (XP_le hle2 hx1) (by omega) (by omega) hQ
          rw [← nI_1, hgi, ← (hle1.2.1 i hi).1] at hk
          exact hk
      · replace h5 : y = 0 := Classical.not_not.mp h5
        rw [if_pos h5] at hQ
        repeat refine z_i rfl rfl ?_
        refine z_get rfl hev1 rfl ?_
        exact z_retA rfl rfl (by omega) (by omega) (hQ (.ref (c 5)) w1 G1 _ _ hc1 (CI_nul hc1) (LE_trans hle hle1) (by show _ + pK s1 ≤ _; omega) (by show _ + pN s1 ≤ _; omega))
    · rw [hr] at hQ
      repeat refine z_i rfl rfl ?_
      refine z_bt rfl rfl (by decide) ?_
      repeat refine z_i rfl rfl ?_
      refine z_bt rfl rfl rfl ?_
      repeat refine z_i rfl rfl ?_
      exact z_retA rfl rfl (by omega) (by omega) (hQ .null w1 G1 _ _ hc1 rfl (LE_trans hle hle1) (by show _ + pK s1 ≤ _; omega) (by show _ + pN s1 ≤ _; omega))
theorem r_repeat {x e i : Nat} {op : Int32} (IH : evOK dA c P mk d) (h : CI dA c P mk w G s) (hD : dD d + 3 ≤ D) (hK : pK s ≤ K) (hN : pN s ≤ N) (hop : op = nI (40 - d)) (he : e < mk) (hi : i ≤ sN s) (hx : XP P w x e) (hk3 : kd P e = 17) (hQ : zend dA c P mk w G s (e_whl P (e_ev P d) e i 401 s) 0 0 Q) :
    zx dA D K N M_Evaluator_repeat 0 (zargs 6 [.ref (c 0), .ref x, .ref (ge G i), .int op]) [] w 0 0 Q := by
  refine z_i rfl rfl ?_
  refine z_i rfl rfl ?_
  have := r_repeat_loop IH hD hop he hk3 hi rfl hK hN 401 0 w G s 0 0 none (by omega) h LE_refl hx (by omega) (by omega) hQ
  rw [nI_0] at this
  exact this
end EVG
