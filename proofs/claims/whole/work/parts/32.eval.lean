/-! call, evaluate, perform -/
section EVM
variable {dA : Nat → ClassId} {c : Nat → Nat} {P : aP} {mk : Nat} {w w' : ww_W} {G G' : gG} {s s' : aS} {D K N d : Nat} {Q : zQ}
theorem r_call {x e i : Nat} {op : Int32} (IH : evOK dA c P mk d) (h : CI dA c P mk w G s) (hD : dD d + 2 ≤ D) (hK : pK s + 2 ≤ K) (hN : pN s + 17 ≤ N) (hop : op = nI (40 - d)) (he : e < mk) (hi : i ≤ sN s) (hx : XP P w x e) (hk3 : kd P e = 20) (hQ : zend dA c P mk w G s (e_call P (e_ev P d) s e i) 2 17 Q) :
    zx dA D K N M_Evaluator_call 0 (zargs 6 [.ref (c 0), .ref x, .ref (ge G i), .int op]) [] w 0 0 Q := by
  obtain ⟨num, hx0⟩ := id hx
  obtain ⟨ea, eb, hev⟩ := CI_obj h
  obtain ⟨ho, h120⟩ := CI_okE h he
  obtain ⟨hoa, _⟩ := ho.2.2.2.2.2.2.2.2.2.2.2.2 hk3
  obtain ⟨ha1, ha2⟩ := okH_t hoa (by omega)
  unfold e_call at hQ
  repeat refine z_i rfl rfl ?_
  refine z_get rfl hx0 rfl ?_
  repeat refine z_i rfl rfl ?_
  refine z_cVk [.int (pa P e), .ref (ge G i), .int op] [] (dD d) (K) (N) rfl hev rfl rfl (Nat.le_of_ble_eq_true rfl) (Nat.le_of_ble_eq_true rfl) (by omega) (by omega) (by omega) (IH _ G s (tN (pa P e)) i (K) (N) _ _ _ h (by omega) hi (by omega) (by omega) ha1 hop ?_)
  generalize e_ev P d s (tN (pa P e)) i = r1 at hQ ⊢
  obtain ⟨r1, s1⟩ := r1
  intro v1 w1 G1 k1 n1 hc1 hv1 hle1 hk1 hn1
  refine ⟨_, rfl, ?_⟩
  replace hk1 : k1 + pK s1 ≤ pK s + 0 := hk1
  replace hn1 : n1 + pN s1 ≤ pN s + 0 := hn1
  replace hc1 : CI dA c P mk w1 G1 s1 := hc1
  replace hle1 : LEx c _ _ _ w1 G1 s1 := hle1
  have hi1 : i ≤ sN s1 := Nat.le_trans hi hle1.2.2.2.2.1
  have hxx1 := XP_le hle1 hx
  obtain ⟨ea1, eb1, hev1⟩ := CI_obj hc1
  cases r1 with
  | none =>
    replace hv1 : v1 = .null := hv1
    subst hv1
    repeat refine z_i rfl rfl ?_
    refine z_bf rfl rfl (fun q => q) ?_
    repeat refine z_i rfl rfl ?_
    exact z_retA rfl rfl (by omega) (by omega) (hQ .null w1 G1 _ _ hc1 rfl hle1 (by show _ + pK s1 ≤ _; omega) (by show _ + pN s1 ≤ _; omega))
  | some y =>
    replace hv1 : rv dA c P mk w1 G1 s1 v1 y := hv1
    obtain ⟨b, rfl⟩ := rv_ref hv1
    rw [← (hle1.2.1 i hi).1]
    replace hQ : zend dA c P mk w G s (e_cal P (e_ev P d) e i y s1) 2 17 Q := hQ
    have hcl := rv_cls hv1
    repeat refine z_i rfl rfl ?_
    refine z_bt rfl rfl trivial ?_
    repeat refine z_i rfl rfl ?_
    cases y with
    | inl xs =>
      obtain ⟨fs, hcl⟩ := hcl
      refine z_instF rfl (by simp) hcl ?_
      refine z_bt rfl rfl rfl ?_
      repeat refine z_i rfl rfl ?_
      refine z_cVk [.int 3] [] 0 0 0 rfl hev1 rfl rfl (Nat.le_of_ble_eq_true rfl) (Nat.le_of_ble_eq_true rfl) (by omega) (by omega) (by omega) (r_failC hc1 (zend_ret (ck := 2) (cn := 17) rfl hle1 (by omega) (by omega) (by omega) (by omega) hQ))
    | inr fn =>
      obtain ⟨fs, hcl⟩ := hcl
      refine z_instY rfl (by simp) hcl ?_
      refine z_bf rfl rfl (by intro q; cases q) ?_
      repeat refine z_i rfl rfl ?_
      refine z_cast rfl (by simp) hcl ?_
      repeat refine z_i rfl rfl ?_
      refine z_cVk [.ref b, .ref x, .ref (ge G1 i), .int op] [] (dD d + 1) (K - k1) (N - n1) rfl hev1 rfl rfl (Nat.le_of_ble_eq_true rfl) (Nat.le_of_ble_eq_true rfl) (by omega) (by omega) (by omega) (r_enter IH hc1 (Nat.le_refl _) (by omega) (by omega) hop he hi1 hxx1 hk3 hv1 ?_)
      intro v' w' G' k' n' hc hv hle h1 h2
      obtain ⟨rf, hrf⟩ := rvO_rf hv
      refine ⟨some v', rfl, ?_⟩
      refine z_j rfl ?_
      exact z_retA rfl hrf (by omega) (by omega) (hQ v' w' G' _ _ hc hv (LE_trans hle1 hle) (by show _ + pK (e_ent P (e_ev P d) s1 e i fn).2 ≤ _; omega) (by show _ + pN (e_ent P (e_ev P d) s1 e i fn).2 ≤ _; omega))
theorem op_1 {d : Nat} (hd : d + 1 ≤ 40) : nI (40 - (d + 1)) + 1 = nI (40 - d) := by
  rw [nI_1]
  congr 1
  omega
theorem r_evaluate : ∀ d : Nat, d ≤ 40 → evOK dA c P mk d := by
  intro d
  induction d with
  | zero =>
    intro hd w G s e i K N x op Q h he hi hK hN hx hop hQ
    subst hx hop
    obtain ⟨ea, eb, hev⟩ := CI_obj h
    have h400 := h.2.2.2.2.2.2.2.1.1
    have h16 : zx dA (dD 0) K N M_Evaluator_evaluate 16 (zargs 5 [.ref (c 0), .int (nI e), .ref (ge G i), .int (nI (40 - 0))]) [] w 0 0 Q := by
      repeat refine z_i rfl rfl ?_
      refine z_cVk [.int 9] [] 0 0 0 rfl hev rfl rfl (Nat.le_of_ble_eq_true rfl) (Nat.le_of_ble_eq_true rfl) (by unfold dD; omega) (by omega) (by omega) (r_failC h (zend_ret rfl LE_refl (by omega) (by omega) (by omega) (by omega) hQ))
    repeat refine z_i rfl rfl ?_
    refine z_get rfl hev rfl ?_
    repeat refine z_i rfl rfl ?_
    refine z_b rfl rfl (fun h1 => h16) (fun h1 => ?_)
    repeat refine z_i rfl rfl ?_
    refine z_bf rfl rfl (by show ¬ nI 40 < 40; decide) ?_
    exact h16
  | succ d ih =>
    intro hd w G s e i K N x op Q h he hi hK hN hx hop hQ
    have IH := ih (by omega)
    subst hx
    obtain ⟨ea, eb, hev1, hev2⟩ := id h.1
    have h400 := h.2.2.2.2.2.2.2.1.1
    have hdd : dD (d + 1) = dD d + 4 := by unfold dD; omega
    have hd8 : 8 ≤ dD d := by unfold dD; omega
    rw [hdd]
    rw [e_ev] at hQ
    repeat refine z_i rfl rfl ?_
    refine z_get rfl hev1 rfl ?_
    repeat refine z_i rfl rfl ?_
    refine z_b rfl rfl (fun h1 => ?_) (fun h1 => ?_)
    · have hge : 400 ≤ sT s := (nI_leI (a := 400) (by omega) (by omega)).mp h1
      rw [if_pos hge] at hQ
      repeat refine z_i rfl rfl ?_
      refine z_cVk [.int 9] [] 0 0 0 rfl hev1 rfl rfl (Nat.le_of_ble_eq_true rfl) (Nat.le_of_ble_eq_true rfl) (by omega) (by omega) (by omega) (r_failC h (zend_ret rfl LE_refl (by omega) (by omega) (by omega) (by omega) hQ))
    · have hlt : sT s < 400 := Nat.not_le.mp (fun q => h1 ((nI_leI (a := 400) (by omega) (by omega)).mpr q))
      rw [if_neg (by omega)] at hQ
      repeat refine z_i rfl rfl ?_
      refine z_bt rfl rfl (by rw [hop]; exact nI_lt (b := 40) (by omega) (by omega)) ?_
      repeat refine z_i rfl rfl ?_
      refine z_get rfl hev1 rfl ?_
      repeat refine z_i rfl rfl ?_
      refine z_put rfl hev1 (Nat.le_of_ble_eq_true rfl) ⟨rfl, rfl⟩ ?_
      dsimp only
      rw [nI_1]
      obtain ⟨h2, hle⟩ := CI_ev (s' := uT s (sT s + 1)) (a := ea) (b := eb) h rfl rfl rfl ⟨by show sT s + 1 ≤ 400; omega, h.2.2.2.2.2.2.2.1.2⟩ hev2
      have hpK : pK (uT s (sT s + 1)) + 2 = pK s := by
        show 2 * (400 - (sT s + 1)) + 2 * (90 - sN s) + 2 = 2 * (400 - sT s) + 2 * (90 - sN s)
        omega
      have hpN : pN (uT s (sT s + 1)) + 17 = pN s := by
        show 17 * (400 - (sT s + 1)) + 23 * (90 - sN s) + 17 = 17 * (400 - sT s) + 23 * (90 - sN s)
        omega
      show zx dA (dD d + 4) K N M_Evaluator_evaluate 33 _ _ (va_up w (c 0) (some (.inr (C_Evaluator, evF c G (uT s (sT s + 1)) ea eb)))) 0 0 Q
      generalize va_up w (c 0) (some (.inr (C_Evaluator, evF c G (uT s (sT s + 1)) ea eb))) = w1 at h2 hle ⊢
      have hi' : i ≤ sN (uT s (sT s + 1)) := hi
      generalize uT s (sT s + 1) = s1 at h2 hle hpK hpN hi' hQ
      have hQ1 : zend dA c P mk w1 G s1 (e_stp P (e_ev P d) s1 e i) 2 17 Q := fun v' w' G' k' n' hc hv hl g1 g2 => hQ v' w' G' k' n' hc hv (LE_trans hle hl) (by omega) (by omega)
      clear hQ
      have hK' : pK s1 + 2 ≤ K := by omega
      have hN' : pN s1 + 17 ≤ N := by omega
      obtain ⟨ea1, eb1, hev⟩ := CI_obj h2
      obtain ⟨hh, g1, g2, g3, g4⟩ := id h2.2.1
      obtain ⟨ho, xa, num, g5, g6, g7⟩ := g4 e he
      have hx : XP P w1 xa e := ⟨num, g6⟩
      have hop1 : op + 1 = nI (40 - d) := by rw [hop]; exact op_1 hd
      unfold e_stp at hQ1
      repeat refine z_i rfl rfl ?_
      refine z_get rfl hev rfl ?_
      refine z_get rfl g1 rfl ?_
      repeat refine z_i rfl rfl ?_
      refine z_aald (j := e) 3 rfl rfl g2 rfl (by omega) (by omega) rfl ?_
      rw [g5]
      repeat refine z_i rfl rfl ?_
      refine z_get rfl g6 rfl ?_
      obtain ⟨kk, hkk, hkd⟩ := ho.1
      have tw : ∀ {T : Nat} {y : Int32}, kd P e = y → zswt [(0, 164), (1, 170), (2, 175), (3, 180), (4, 191), (5, 191), (6, 345), (7, 345), (8, 345), (9, 202), (10, 345), (11, 345), (12, 345), (13, 213), (14, 202), (15, 202), (16, 224), (17, 235), (18, 246), (19, 280), (20, 304), (21, 315), (22, 323), (23, 202), (24, 334)] 345 y.toInt = T → zswt [(0, 164), (1, 170), (2, 175), (3, 180), (4, 191), (5, 191), (6, 345), (7, 345), (8, 345), (9, 202), (10, 345), (11, 345), (12, 345), (13, 213), (14, 202), (15, 202), (16, 224), (17, 235), (18, 246), (19, 280), (20, 304), (21, 315), (22, 323), (23, 202), (24, 334)] 345 (kd P e).toInt = T := fun h3 h4 => by rw [h3]; exact h4
      by_cases k0 : kd P e = 0
      · rw [if_pos k0] at hQ1
        refine z_sw rfl (t := 164) (tw k0 rfl) ?_
        repeat refine z_i rfl rfl ?_
        refine z_get rfl g6 rfl ?_
        have hr := g7 k0
        obtain ⟨b, rfl⟩ := rv_ref hr
        exact z_retA rfl rfl (by omega) (by omega) (hQ1 (.ref b) w1 G 0 0 h2 hr LE_refl (by show 0 + pK s1 ≤ _; omega) (by show 0 + pN s1 ≤ _; omega))
      rw [if_neg k0] at hQ1
      by_cases k1 : kd P e = 1
      · rw [if_pos k1] at hQ1
        refine z_sw rfl (t := 170) (tw k1 rfl) ?_
        repeat refine z_i rfl rfl ?_
        refine z_get rfl hev rfl ?_
        exact z_retA rfl rfl (by omega) (by omega) (hQ1 (.ref (c 6)) w1 G 0 0 h2 h2.2.2.1.2.1 LE_refl (by show 0 + pK s1 ≤ _; omega) (by show 0 + pN s1 ≤ _; omega))
      rw [if_neg k1] at hQ1
      by_cases k2 : kd P e = 2
      · rw [if_pos k2] at hQ1
        refine z_sw rfl (t := 175) (tw k2 rfl) ?_
        repeat refine z_i rfl rfl ?_
        refine z_get rfl hev rfl ?_
        exact z_retA rfl rfl (by omega) (by omega) (hQ1 (.ref (c 5)) w1 G 0 0 h2 h2.2.2.1.1 LE_refl (by show 0 + pK s1 ≤ _; omega) (by show 0 + pN s1 ≤ _; omega))
      rw [if_neg k2] at hQ1
      by_cases k3 : kd P e = 3
      · rw [if_pos k3] at hQ1
        refine z_sw rfl (t := 180) (tw k3 rfl) ?_
        repeat refine z_i rfl rfl ?_
        refine z_cVk [.ref xa, .ref (ge G i), .int (op + 1)] [] (dD d + 3) K N rfl hev rfl rfl (Nat.le_of_ble_eq_true rfl) (Nat.le_of_ble_eq_true rfl) (by omega) (by omega) (by omega) (r_read IH h2 (by omega) (by omega) (by omega) hop1 he hi' hx k3 (zend_ret (ck := 2) (cn := 17) rfl LE_refl (by omega) (by omega) (by omega) (by omega) hQ1))
      rw [if_neg k3] at hQ1
      by_cases k4 : kd P e = 4 ∨ kd P e = 5
      · rw [if_pos k4] at hQ1
        refine z_sw rfl (t := 191) (k4.elim (fun q => tw q rfl) (fun q => tw q rfl)) ?_
        repeat refine z_i rfl rfl ?_
        refine z_cVk [.ref xa, .ref (ge G i), .int (op + 1)] [] (dD d + 3) K N rfl hev rfl rfl (Nat.le_of_ble_eq_true rfl) (Nat.le_of_ble_eq_true rfl) (by omega) (by omega) (by omega) (r_assign IH h2 (by omega) (by omega) (by omega) hop1 he hi' hx k4 (zend_ret (ck := 2) (cn := 17) rfl LE_refl (by omega) (by omega) (by omega) (by omega) hQ1))
      rw [if_neg k4] at hQ1
      by_cases k9 : kd P e = 9 ∨ kd P e = 14 ∨ kd P e = 15 ∨ kd P e = 23
      · rw [if_pos k9] at hQ1
        refine z_sw rfl (t := 202) (k9.elim (fun q => tw q rfl) (fun q => q.elim (fun q => tw q rfl) (fun q => q.elim (fun q => tw q rfl) (fun q => tw q rfl)))) ?_
        repeat refine z_i rfl rfl ?_
        refine z_cVk [.ref xa, .ref (ge G i), .int (op + 1)] [] (dD d + 3) K N rfl hev rfl rfl (Nat.le_of_ble_eq_true rfl) (Nat.le_of_ble_eq_true rfl) (by omega) (by omega) (by omega) (r_ofOne IH h2 (by omega) (by omega) (by omega) hop1 he hi' hx k9 (zend_ret (ck := 2) (cn := 17) rfl LE_refl (by omega) (by omega) (by omega) (by omega) hQ1))
      rw [if_neg k9] at hQ1
      by_cases k13 : kd P e = 13
      · rw [if_pos k13] at hQ1
        refine z_sw rfl (t := 213) (tw k13 rfl) ?_
        repeat refine z_i rfl rfl ?_
        refine z_cVk [.ref xa, .ref (ge G i), .int (op + 1)] [] (dD d + 3) K N rfl hev rfl rfl (Nat.le_of_ble_eq_true rfl) (Nat.le_of_ble_eq_true rfl) (by omega) (by omega) (by omega) (r_replace IH h2 (by omega) (by omega) (by omega) hop1 he hi' hx k13 (zend_ret (ck := 2) (cn := 17) rfl LE_refl (by omega) (by omega) (by omega) (by omega) hQ1))
      rw [if_neg k13] at hQ1
      by_cases k16 : kd P e = 16
      · rw [if_pos k16] at hQ1
        refine z_sw rfl (t := 224) (tw k16 rfl) ?_
        repeat refine z_i rfl rfl ?_
        refine z_cVk [.ref xa, .ref (ge G i), .int (op + 1)] [] (dD d + 3) K N rfl hev rfl rfl (Nat.le_of_ble_eq_true rfl) (Nat.le_of_ble_eq_true rfl) (by omega) (by omega) (by omega) (r_choose IH h2 (by omega) (by omega) (by omega) hop1 he hi' hx k16 (zend_ret (ck := 2) (cn := 17) rfl LE_refl (by omega) (by omega) (by omega) (by omega) hQ1))
      rw [if_neg k16] at hQ1
      by_cases k17 : kd P e = 17
      · rw [if_pos k17] at hQ1
        refine z_sw rfl (t := 235) (tw k17 rfl) ?_
        repeat refine z_i rfl rfl ?_
        refine z_cVk [.ref xa, .ref (ge G i), .int (op + 1)] [] (dD d + 3) K N rfl hev rfl rfl (Nat.le_of_ble_eq_true rfl) (Nat.le_of_ble_eq_true rfl) (by omega) (by omega) (by omega) (r_repeat IH h2 (by omega) (by omega) (by omega) hop1 he hi' hx k17 (zend_ret (ck := 2) (cn := 17) rfl LE_refl (by omega) (by omega) (by omega) (by omega) hQ1))
      rw [if_neg k17] at hQ1
      by_cases k18 : kd P e = 18
      · rw [if_pos k18] at hQ1
        refine z_sw rfl (t := 246) (tw k18 rfl) ?_
        obtain ⟨hoa, hob⟩ := ho.2.2.2.2.2.2.2.1 (by simp [k18])
        obtain ⟨ha1, ha2⟩ := okH_t hoa (by omega)
        obtain ⟨hb1, hb2⟩ := okH_t hob (by omega)
        unfold e_then at hQ1
        repeat refine z_i rfl rfl ?_
        refine z_get rfl g6 rfl ?_
        repeat refine z_i rfl rfl ?_
        refine z_cVk [.int (pa P e), .ref (ge G i), .int (op + 1)] [] (dD d) K N rfl hev rfl rfl (Nat.le_of_ble_eq_true rfl) (Nat.le_of_ble_eq_true rfl) (by omega) (by omega) (by omega) (IH _ G s1 (tN (pa P e)) i K N _ _ _ h2 (by omega) hi' (by omega) (by omega) ha1 hop1 ?_)
        generalize e_ev P d s1 (tN (pa P e)) i = r2 at hQ1 ⊢
        obtain ⟨r2, s2⟩ := r2
        intro v2 w2 G2 k2 n2 hc2 hv2 hle2 hk2 hn2
        refine ⟨_, rfl, ?_⟩
        replace hk2 : k2 + pK s2 ≤ pK s1 + 0 := hk2
        replace hn2 : n2 + pN s2 ≤ pN s1 + 0 := hn2
        replace hc2 : CI dA c P mk w2 G2 s2 := hc2
        replace hle2 : LEx c w1 G s1 w2 G2 s2 := hle2
        cases r2 with
        | none =>
          replace hv2 : v2 = .null := hv2
          subst hv2
          refine z_bf rfl rfl (fun q => q) ?_
          repeat refine z_i rfl rfl ?_
          refine z_j rfl ?_
          exact z_retA rfl rfl (by omega) (by omega) (hQ1 .null w2 G2 _ _ hc2 rfl hle2 (by show _ + pK s2 ≤ _; omega) (by show _ + pN s2 ≤ _; omega))
        | some y =>
          obtain ⟨b, rfl⟩ := rv_ref (show rv dA c P mk w2 G2 s2 v2 y from hv2)
          obtain ⟨num2, hx2⟩ := XP_le hle2 hx
          obtain ⟨ea2, eb2, hev2'⟩ := CI_obj hc2
          refine z_bt rfl rfl trivial ?_
          repeat refine z_i rfl rfl ?_
          refine z_get rfl hx2 rfl ?_
          repeat refine z_i rfl rfl ?_
          rw [← (hle2.2.1 i hi').1]
          refine z_cVk [.int (pb P e), .ref (ge G2 i), .int (op + 1)] [] (dD d) (K - k2) (N - n2) rfl hev2' rfl rfl (Nat.le_of_ble_eq_true rfl) (Nat.le_of_ble_eq_true rfl) (by omega) (by omega) (by omega) (IH _ G2 s2 (tN (pb P e)) i _ _ _ _ _ hc2 (by omega) (Nat.le_trans hi' hle2.2.2.2.2.1) (by omega) (by omega) hb1 hop1 (zend_ret (ck := 2) (cn := 17) rfl hle2 (by omega) (by omega) (by omega) (by omega) hQ1))
      rw [if_neg k18] at hQ1
      by_cases k19 : kd P e = 19
      · rw [if_pos k19] at hQ1
        refine z_sw rfl (t := 280) (tw k19 rfl) ?_
        refine z_new rfl (by omega) (by omega) (fun q hq => ?_)
        repeat refine z_i rfl rfl ?_
        refine z_get rfl (zup_at hq g6) rfl ?_
        repeat refine z_i rfl rfl ?_
        refine z_get rfl (zup_at hq g6) rfl ?_
        repeat refine z_i rfl rfl ?_
        refine z_get rfl (zup_at hq g6) rfl ?_
        repeat refine z_i rfl rfl ?_
        refine z_cIk [.int (pa P e), .int (pb P e), .int (pc P e), .ref (ge G i)] [.ref q] 3 0 0 rfl rfl rfl (Nat.le_of_ble_eq_true rfl) (Nat.le_of_ble_eq_true rfl) (by omega) (by omega) (by omega) (r_Function_init (by omega) (va_up_self _ _ _) _ ⟨_, rfl, ?_⟩)
        rw [bx_uu]
        obtain ⟨G2, hc2, hl2, hr2⟩ := CI_fun h2 hi' he k19 hq
        exact z_retA rfl rfl (by omega) (by omega) (hQ1 (.ref q) _ G2 _ _ hc2 hr2 hl2 (by show _ + pK s1 ≤ _; omega) (by show _ + pN s1 ≤ _; omega))
      rw [if_neg k19] at hQ1
      by_cases k20 : kd P e = 20
      · rw [if_pos k20] at hQ1
        refine z_sw rfl (t := 304) (tw k20 rfl) ?_
        repeat refine z_i rfl rfl ?_
        refine z_cVk [.ref xa, .ref (ge G i), .int (op + 1)] [] (dD d + 3) K N rfl hev rfl rfl (Nat.le_of_ble_eq_true rfl) (Nat.le_of_ble_eq_true rfl) (by omega) (by omega) (by omega) (r_call IH h2 (by omega) (by omega) (by omega) hop1 he hi' hx k20 (zend_ret (ck := 2) (cn := 17) rfl LE_refl (by omega) (by omega) (by omega) (by omega) hQ1))
      rw [if_neg k20] at hQ1
      by_cases k21 : kd P e = 21
      · rw [if_pos k21] at hQ1
        refine z_sw rfl (t := 315) (tw k21 rfl) ?_
        repeat refine z_i rfl rfl ?_
        refine z_cVk [.ref xa, .ref (ge G i)] [] (dD d + 3) K N rfl hev rfl rfl (Nat.le_of_ble_eq_true rfl) (Nat.le_of_ble_eq_true rfl) (by omega) (by omega) (by omega) (r_absent h2 (by omega) (by omega) (by omega) he hi' hx (zend_ret (ck := 2) (cn := 17) rfl LE_refl (by omega) (by omega) (by omega) (by omega) hQ1))
      rw [if_neg k21] at hQ1
      by_cases k22 : kd P e = 22
      · rw [if_pos k22] at hQ1
        refine z_sw rfl (t := 323) (tw k22 rfl) ?_
        repeat refine z_i rfl rfl ?_
        refine z_cVk [.ref xa, .ref (ge G i), .int (op + 1)] [] (dD d + 3) K N rfl hev rfl rfl (Nat.le_of_ble_eq_true rfl) (Nat.le_of_ble_eq_true rfl) (by omega) (by omega) (by omega) (r_endCall IH h2 (by omega) (by omega) (by omega) hop1 he hi' hx k22 (zend_ret (ck := 2) (cn := 17) rfl LE_refl (by omega) (by omega) (by omega) (by omega) hQ1))
      rw [if_neg k22] at hQ1
      by_cases k24 : kd P e = 24
      · rw [if_pos k24] at hQ1
        refine z_sw rfl (t := 334) (tw k24 rfl) ?_
        repeat refine z_i rfl rfl ?_
        refine z_cVk [.ref xa, .ref (ge G i), .int (op + 1)] [] (dD d + 3) K N rfl hev rfl rfl (Nat.le_of_ble_eq_true rfl) (Nat.le_of_ble_eq_true rfl) (by omega) (by omega) (by omega) (r_attempt IH h2 (by omega) (by omega) (by omega) hop1 he hi' hx k24 (zend_ret (ck := 2) (cn := 17) rfl LE_refl (by omega) (by omega) (by omega) (by omega) hQ1))
      rw [if_neg k24] at hQ1
      have hrest : kd P e = 6 ∨ kd P e = 7 ∨ kd P e = 8 ∨ kd P e = 10 ∨ kd P e = 11 ∨ kd P e = 12 ∨ kd P e = 25 := by
        rw [hkd] at k0 k1 k2 k3 k4 k9 k13 k16 k17 k18 k19 k20 k21 k22 k24 ⊢
        rcases (show kk = 0 ∨ kk = 1 ∨ kk = 2 ∨ kk = 3 ∨ kk = 4 ∨ kk = 5 ∨ kk = 6 ∨ kk = 7 ∨ kk = 8 ∨ kk = 9 ∨ kk = 10 ∨ kk = 11 ∨ kk = 12 ∨ kk = 13 ∨ kk = 14 ∨ kk = 15 ∨ kk = 16 ∨ kk = 17 ∨ kk = 18 ∨ kk = 19 ∨ kk = 20 ∨ kk = 21 ∨ kk = 22 ∨ kk = 23 ∨ kk = 24 ∨ kk = 25 by omega) with rfl | rfl | rfl | rfl | rfl | rfl | rfl | rfl | rfl | rfl | rfl | rfl | rfl | rfl | rfl | rfl | rfl | rfl | rfl | rfl | rfl | rfl | rfl | rfl | rfl | rfl
        all_goals first | exact absurd rfl k0 | exact absurd rfl k1 | exact absurd rfl k2 | exact absurd rfl k3 | exact absurd rfl k13 | exact absurd rfl k16 | exact absurd rfl k17 | exact absurd rfl k18 | exact absurd rfl k19 | exact absurd rfl k20 | exact absurd rfl k21 | exact absurd rfl k22 | exact absurd rfl k24 | exact absurd (Or.inl rfl) k4 | exact absurd (Or.inr rfl) k4 | exact absurd (Or.inl rfl) k9 | exact absurd (Or.inr (Or.inl rfl)) k9 | exact absurd (Or.inr (Or.inr (Or.inl rfl))) k9 | exact absurd (Or.inr (Or.inr (Or.inr rfl))) k9 | exact Or.inl rfl | exact Or.inr (Or.inl rfl) | exact Or.inr (Or.inr (Or.inl rfl)) | exact Or.inr (Or.inr (Or.inr (Or.inl rfl))) | exact Or.inr (Or.inr (Or.inr (Or.inr (Or.inl rfl)))) | exact Or.inr (Or.inr (Or.inr (Or.inr (Or.inr (Or.inl rfl))))) | exact Or.inr (Or.inr (Or.inr (Or.inr (Or.inr (Or.inr (rfl))))))
      have ht : zswt [(0, 164), (1, 170), (2, 175), (3, 180), (4, 191), (5, 191), (6, 345), (7, 345), (8, 345), (9, 202), (10, 345), (11, 345), (12, 345), (13, 213), (14, 202), (15, 202), (16, 224), (17, 235), (18, 246), (19, 280), (20, 304), (21, 315), (22, 323), (23, 202), (24, 334)] 345 (kd P e).toInt = 345 := by
        rcases hrest with q | q | q | q | q | q | q <;> exact tw q rfl
      refine z_sw rfl (t := 345) ht ?_
      repeat refine z_i rfl rfl ?_
      refine z_cVk [.ref xa, .ref (ge G i), .int (op + 1)] [] (dD d + 3) K N rfl hev rfl rfl (Nat.le_of_ble_eq_true rfl) (Nat.le_of_ble_eq_true rfl) (by omega) (by omega) (by omega) (r_ofTwo IH h2 (by omega) (by omega) (by omega) hop1 he hi' hx hrest (zend_ret (ck := 2) (cn := 17) rfl LE_refl (by omega) (by omega) (by omega) (by omega) hQ1))
theorem pK_take (s : aS) (i : Nat) : pK (e_take s i).2 = pK s ∧ pN (e_take s i).2 = pN s := by
  unfold e_take
  split
  · exact ⟨rfl, rfl⟩
  · split
    · exact ⟨rfl, rfl⟩
    · exact ⟨rfl, rfl⟩
/-- a run, from the evaluator on -/
theorem r_perform {e : Nat} {x : Int32} (hx : x = nI e) (h : CI dA c P mk w G s) (hD : dD 40 + 1 ≤ D) (hK : 980 ≤ K) (hN : 8870 ≤ N) (he : e < mk) (hQ : ∀ (v : Value) (w' : ww_W) (G' : gG) (k' n' : Nat), CI dA c P mk w' G' (e_run P s e).2 → rvO dA c P mk w' G' (e_run P s e).2 v (e_run P s e).1 → LEx c w G s w' G' (e_run P s e).2 → k' ≤ 980 → n' ≤ 8870 → Q (.inl (some v)) w' k' n') :
    zx dA D K N M_Evaluator_perform 0 (zargs 3 [.ref (c 0), .int x]) [] w 0 0 Q := by
  subst hx
  obtain ⟨ea, eb, hev, hev2⟩ := id h.1
  obtain ⟨h1, hle⟩ := CI_ev (s' := uX (uA (uT s 0) 0) 0) (a := ea) (b := eb) h rfl rfl rfl ⟨by show 0 ≤ 400; omega, (by decide : okI 0)⟩ hev2
  repeat refine z_i rfl rfl ?_
  refine z_put rfl hev (Nat.le_of_ble_eq_true rfl) ⟨rfl, rfl⟩ ?_
  repeat refine z_i rfl rfl ?_
  refine z_put rfl (va_up_self _ _ _) (Nat.le_of_ble_eq_true rfl) ⟨rfl, rfl⟩ ?_
  repeat refine z_i rfl rfl ?_
  refine z_put rfl (va_up_self _ _ _) (Nat.le_of_ble_eq_true rfl) ⟨rfl, rfl⟩ ?_
  rw [bx_uu, bx_uu]
  unfold e_run at hQ
  have hpK : pK (uX (uA (uT s 0) 0) 0) ≤ 980 := by
    show 2 * (400 - 0) + 2 * (90 - sN s) ≤ 980
    omega
  have hpN : pN (uX (uA (uT s 0) 0) 0) ≤ 8870 := by
    show 17 * (400 - 0) + 23 * (90 - sN s) ≤ 8870
    omega
  show zx dA D K N M_Evaluator_perform 15 _ _ (va_up w (c 0) (some (.inr (C_Evaluator, evF c G (uX (uA (uT s 0) 0) 0) ea eb)))) 0 0 Q
  obtain ⟨ea1, eb1, hev1⟩ := CI_obj h1
  generalize va_up w (c 0) (some (.inr (C_Evaluator, evF c G (uX (uA (uT s 0) 0) 0) ea eb))) = w1 at h1 hle hev1 ⊢
  repeat refine z_i rfl rfl ?_
  refine z_get rfl hev1 rfl ?_
  repeat refine z_i rfl rfl ?_
  refine z_cVk [.int (nI e), .ref (ge G 0), .int 0] [] (dD 40) K N rfl hev1 rfl rfl (Nat.le_of_ble_eq_true rfl) (Nat.le_of_ble_eq_true rfl) (by omega) (by omega) (by omega) (r_evaluate 40 (by omega) _ G (uX (uA (uT s 0) 0) 0) e 0 K N _ _ _ h1 he (Nat.zero_le _) (by omega) (by omega) rfl nI_0.symm ?_)
  generalize e_ev P 40 (uX (uA (uT s 0) 0) 0) e 0 = r2 at hQ ⊢
  obtain ⟨r2, s2⟩ := r2
  intro v2 w2 G2 k2 n2 hc2 hv2 hle2 hk2 hn2
  refine ⟨_, rfl, ?_⟩
  replace hk2 : k2 + pK s2 ≤ pK (uX (uA (uT s 0) 0) 0) + 0 := hk2
  replace hn2 : n2 + pN s2 ≤ pN (uX (uA (uT s 0) 0) 0) + 0 := hn2
  replace hc2 : CI dA c P mk w2 G2 s2 := hc2
  replace hle2 : LEx c w1 G (uX (uA (uT s 0) 0) 0) w2 G2 s2 := hle2
  obtain ⟨ea2, eb2, hev2⟩ := CI_obj hc2
  cases r2 with
  | some y =>
    obtain ⟨b, rfl⟩ := rv_ref (show rv dA c P mk w2 G2 s2 v2 y from hv2)
    repeat refine z_i rfl rfl ?_
    refine z_bt rfl rfl trivial ?_
    repeat refine z_i rfl rfl ?_
    exact z_retA rfl rfl (by omega) (by omega) (hQ (.ref b) w2 G2 _ _ hc2 hv2 (LE_trans hle hle2) (by omega) (by omega))
  | none =>
    replace hv2 : v2 = .null := hv2
    subst hv2
    repeat refine z_i rfl rfl ?_
    refine z_bf rfl rfl (fun q => q) ?_
    repeat refine z_i rfl rfl ?_
    refine z_get rfl hev2 rfl ?_
    refine z_cVk [.ref (ge G2 0)] [] 0 0 0 rfl hev2 rfl rfl (Nat.le_of_ble_eq_true rfl) (Nat.le_of_ble_eq_true rfl) (by omega) (by omega) (by omega) (r_take hc2 (Nat.zero_le _) ?_)
    intro v3 w3 G3 k3 n3 hc3 hv3 hle3 hk3 hn3
    obtain ⟨rf, hrf⟩ := rvO_rf hv3
    have ht := pK_take s2 0
    refine ⟨some v3, rfl, ?_⟩
    refine z_j rfl ?_
    exact z_retA rfl hrf (by omega) (by omega) (hQ v3 w3 G3 _ _ hc3 hv3 (LE_trans hle (LE_trans hle2 hle3)) (by omega) (by omega))
end EVM
