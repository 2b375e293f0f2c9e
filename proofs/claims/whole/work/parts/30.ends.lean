/-! takeEndValue, endCall, attempt, absent, a new environment -/
section EVK
variable {dA : Nat → ClassId} {c : Nat → Nat} {P : aP} {mk : Nat} {w w' : ww_W} {G G' : gG} {s s' : aS} {D K N d : Nat} {Q : zQ}
theorem r_take {i : Nat} (h : CI dA c P mk w G s) (hi : i ≤ sN s) (hQ : zend dA c P mk w G s (e_take s i) 0 0 Q) : zx dA D K N M_Evaluator_takeEndValue 0 (zargs 3 [.ref (c 0), .ref (ge G i)]) [] w 0 0 Q := by
  obtain ⟨a, b, q1, q2⟩ := id h.1
  unfold e_take at hQ
  repeat refine z_i rfl rfl ?_
  refine z_get rfl q1 rfl ?_
  cases hR : sR s with
  | none =>
    rw [hR] at q2 hQ
    obtain ⟨rfl, rfl⟩ := q2
    repeat refine z_i rfl rfl ?_
    refine z_bf rfl rfl (by intro q; cases q) ?_
    repeat refine z_i rfl rfl ?_
    exact z_retA rfl rfl (Nat.zero_le _) (Nat.zero_le _) (hQ .null w G 0 0 h rfl LE_refl (by show 0 + pK s ≤ _; omega) (by show 0 + pN s ≤ _; omega))
  | some x =>
    rw [hR] at q2 hQ
    obtain ⟨rfl, q3, q4⟩ := q2
    replace hQ : zend dA c P mk w G s (if x.1 = i then (some x.2, uR s none) else (none, s)) 0 0 Q := hQ
    obtain ⟨v, rfl⟩ := rv_ref q4
    repeat refine z_i rfl rfl ?_
    by_cases hx : x.1 = i
    · rw [if_pos hx] at hQ
      refine z_bt rfl rfl (by rw [hx]; rfl) ?_
      repeat refine z_i rfl rfl ?_
      refine z_get rfl q1 rfl ?_
      repeat refine z_i rfl rfl ?_
      refine z_put rfl q1 (Nat.le_of_ble_eq_true rfl) ⟨rfl, rfl⟩ ?_
      repeat refine z_i rfl rfl ?_
      refine z_put rfl (va_up_self _ _ _) (Nat.le_of_ble_eq_true rfl) ⟨rfl, rfl⟩ ?_
      rw [bx_uu]
      obtain ⟨h1, h2⟩ := CI_ev (s' := uR s none) (a := .null) (b := .null) h rfl rfl rfl h.2.2.2.2.2.2.2.1 ⟨rfl, rfl⟩
      repeat refine z_i rfl rfl ?_
      exact z_retA rfl rfl (Nat.zero_le _) (Nat.zero_le _) (hQ (.ref v) _ G 0 0 h1 (rv_le h2 q4) h2 (by show 0 + pK s ≤ _; omega) (by show 0 + pN s ≤ _; omega))
    · rw [if_neg hx] at hQ
      refine z_bf rfl rfl (fun q => hx (h.2.2.2.2.2.1.1 _ _ q3 hi (Option.some.inj q))) ?_
      repeat refine z_i rfl rfl ?_
      exact z_retA rfl rfl (Nat.zero_le _) (Nat.zero_le _) (hQ .null w G 0 0 h rfl LE_refl (by show 0 + pK s ≤ _; omega) (by show 0 + pN s ≤ _; omega))
theorem r_endCall {x e i : Nat} {op : Int32} (IH : evOK dA c P mk d) (h : CI dA c P mk w G s) (hD : dD d + 1 ≤ D) (hK : pK s ≤ K) (hN : pN s ≤ N) (hop : op = nI (40 - d)) (he : e < mk) (hi : i ≤ sN s) (hx : XP P w x e) (hk3 : kd P e = 22) (hQ : zend dA c P mk w G s (e_ret P (e_ev P d) s e i) 0 0 Q) :
    zx dA D K N M_Evaluator_endCall 0 (zargs 5 [.ref (c 0), .ref x, .ref (ge G i), .int op]) [] w 0 0 Q := by
  obtain ⟨num, hx0⟩ := id hx
  obtain ⟨ea, eb, hev⟩ := CI_obj h
  obtain ⟨ho, h120⟩ := CI_okE h he
  obtain ⟨ha1, ha2⟩ := okH_t (ho.2.2.2.2.2.2.2.2.1 (by simp [hk3])) (by omega)
  unfold e_ret at hQ
  repeat refine z_i rfl rfl ?_
  refine z_get rfl hx0 rfl ?_
  repeat refine z_i rfl rfl ?_
  refine z_cVk [.int (pa P e), .ref (ge G i), .int op] [] (dD d) (K) (N) rfl hev rfl rfl (Nat.le_of_ble_eq_true rfl) (Nat.le_of_ble_eq_true rfl) (by omega) (by omega) (by omega) (IH _ G s (tN (pa P e)) i (K) (N) _ _ _ h (by omega) hi (by omega) (by omega) ha1 hop ?_)
  generalize e_ev P d s (tN (pa P e)) i = r1 at hQ ⊢
  obtain ⟨r1, s1⟩ := r1
  intro v1 w1 G1 k1 n1 hc1 hv1 hle1 hk1 hn1
  refine ⟨_, rfl, ?_⟩
  replace hk1 : k1 + pK s1 ≤ pK s + 0 := hk1
  replace hn1 : n1 + pN s1 ≤ pN s + 0 := hn1
  replace hc1 : CI dA c P mk w1 G1 s1 := hc1
  replace hle1 : LEx c _ _ _ w1 G1 s1 := hle1
  have hi1 : i ≤ sN s1 := Nat.le_trans hi hle1.2.2.2.2.1
  obtain ⟨ea1, eb1, hev1⟩ := CI_obj hc1
  cases r1 with
  | none =>
    replace hv1 : v1 = .null := hv1
    subst hv1
    repeat refine z_i rfl rfl ?_
    refine z_bf rfl rfl (fun q => q) ?_
    repeat refine z_i rfl rfl ?_
    exact z_retA rfl rfl (by omega) (by omega) (hQ .null w1 G1 _ _ hc1 rfl hle1 (by show _ + pK s1 ≤ _; omega) (by show _ + pN s1 ≤ _; omega))
  | some y =>
    replace hv1 : rv dA c P mk w1 G1 s1 v1 y := hv1
    obtain ⟨b, rfl⟩ := rv_ref hv1
    rw [← (hle1.2.1 i hi).1]
    replace hQ : zend dA c P mk w G s (if sO s1 i then e_fail s1 6 else (none, uR s1 (some (i, y)))) 0 0 Q := hQ
    obtain ⟨ou, ca, hh, q1, q2⟩ := CI_row hc1 hi1
    repeat refine z_i rfl rfl ?_
    refine z_bt rfl rfl trivial ?_
    repeat refine z_i rfl rfl ?_
    refine z_get rfl q1 rfl ?_
    cases hO : sO s1 i with
    | true =>
      rw [hO] at hQ
      refine z_bf rfl rfl (by intro q; cases q) ?_
      repeat refine z_i rfl rfl ?_
      refine z_cVk [.int 6] [] 0 0 0 rfl hev1 rfl rfl (Nat.le_of_ble_eq_true rfl) (Nat.le_of_ble_eq_true rfl) (by omega) (by omega) (by omega) (r_failC hc1 (zend_ret rfl hle1 (by omega) (by omega) (by omega) (by omega) hQ))
    | false =>
      rw [hO] at hQ
      refine z_bt rfl rfl rfl ?_
      repeat refine z_i rfl rfl ?_
      refine z_put rfl hev1 (Nat.le_of_ble_eq_true rfl) ⟨rfl, rfl⟩ ?_
      repeat refine z_i rfl rfl ?_
      refine z_put rfl (va_up_self _ _ _) (Nat.le_of_ble_eq_true rfl) ⟨rfl, rfl⟩ ?_
      rw [bx_uu]
      obtain ⟨h3, h4⟩ := CI_ev (s' := uR s1 (some (i, y))) (a := .ref (ge G1 i)) (b := .ref b) hc1 rfl rfl rfl hc1.2.2.2.2.2.2.2.1 ⟨rfl, hi1, hv1⟩
      repeat refine z_i rfl rfl ?_
      exact z_retA rfl rfl (by omega) (by omega) (hQ .null _ G1 _ _ h3 rfl (LE_trans hle1 h4) (by show _ + pK s1 ≤ _; omega) (by show _ + pN s1 ≤ _; omega))
theorem r_attempt {x e i : Nat} {op : Int32} (IH : evOK dA c P mk d) (h : CI dA c P mk w G s) (hD : dD d + 1 ≤ D) (hK : pK s + 2 ≤ K) (hN : pN s + 17 ≤ N) (hop : op = nI (40 - d)) (he : e < mk) (hi : i ≤ sN s) (hx : XP P w x e) (hk3 : kd P e = 24) (hQ : zend dA c P mk w G s (e_try P (e_ev P d) s e i) 2 17 Q) :
    zx dA D K N M_Evaluator_attempt 0 (zargs 5 [.ref (c 0), .ref x, .ref (ge G i), .int op]) [] w 0 0 Q := by
  obtain ⟨num, hx0⟩ := id hx
  obtain ⟨ea, eb, hev⟩ := CI_obj h
  obtain ⟨ho, h120⟩ := CI_okE h he
  obtain ⟨hoa, hob⟩ := ho.2.2.2.2.2.2.2.1 (by simp [hk3])
  obtain ⟨ha1, ha2⟩ := okH_t hoa (by omega)
  obtain ⟨hb1, hb2⟩ := okH_t hob (by omega)
  have hd8 : 8 ≤ dD d := by unfold dD; omega
  unfold e_try at hQ
  repeat refine z_i rfl rfl ?_
  refine z_get rfl hx0 rfl ?_
  repeat refine z_i rfl rfl ?_
  refine z_cVk [.int (pa P e), .ref (ge G i), .int op] [] (dD d) (K) (N) rfl hev rfl rfl (Nat.le_of_ble_eq_true rfl) (Nat.le_of_ble_eq_true rfl) (by omega) (by omega) (by omega) (IH _ G s (tN (pa P e)) i (K) (N) _ _ _ h (by omega) hi (by omega) (by omega) ha1 hop ?_)
  generalize e_ev P d s (tN (pa P e)) i = r1 at hQ ⊢
  obtain ⟨r1, s1⟩ := r1
  intro v1 w1 G1 k1 n1 hc1 hv1 hle1 hk1 hn1
  refine ⟨_, rfl, ?_⟩
  replace hk1 : k1 + pK s1 ≤ pK s + 0 := hk1
  replace hn1 : n1 + pN s1 ≤ pN s + 0 := hn1
  replace hc1 : CI dA c P mk w1 G1 s1 := hc1
  replace hle1 : LEx c _ _ _ w1 G1 s1 := hle1
  have hi1 : i ≤ sN s1 := Nat.le_trans hi hle1.2.2.2.2.1
  obtain ⟨ea1, eb1, hev1⟩ := CI_obj hc1
  have hxx1 := XP_le hle1 hx
  cases r1 with
  | some y =>
    replace hv1 : rv dA c P mk w1 G1 s1 v1 y := hv1
    obtain ⟨b, rfl⟩ := rv_ref hv1
    repeat refine z_i rfl rfl ?_
    refine z_bt rfl rfl trivial ?_
    repeat refine z_i rfl rfl ?_
    exact z_retA rfl rfl (by omega) (by omega) (hQ (.ref b) w1 G1 _ _ hc1 hv1 hle1 (by show _ + pK s1 ≤ _; omega) (by show _ + pN s1 ≤ _; omega))
  | none =>
    replace hv1 : v1 = .null := hv1
    subst hv1
    rw [← (hle1.2.1 i hi).1]
    replace hQ : zend dA c P mk w G s (if sX s1 = 0 ∨ sX s1 = 9 then (none, s1) else e_ev P d (uX (uL s1 i 9 (some (.inl (.inl [sX s1])))) 0) (tN (pb P e)) i) 2 17 Q := hQ
    repeat refine z_i rfl rfl ?_
    refine z_bf rfl rfl (fun q => q) ?_
    repeat refine z_i rfl rfl ?_
    refine z_get rfl hev1 rfl ?_
    refine z_b rfl rfl (fun h5 => ?_) (fun h5 => ?_)
    · rw [if_pos (Or.inl h5)] at hQ
      repeat refine z_i rfl rfl ?_
      exact z_retA rfl rfl (by omega) (by omega) (hQ .null w1 G1 _ _ hc1 rfl hle1 (by show _ + pK s1 ≤ _; omega) (by show _ + pN s1 ≤ _; omega))
    · replace h5 : ¬ sX s1 = 0 := h5
      repeat refine z_i rfl rfl ?_
      refine z_get rfl hev1 rfl ?_
      repeat refine z_i rfl rfl ?_
      refine z_b rfl rfl (fun h6 => ?_) (fun h6 => ?_)
      · replace h6 : ¬ sX s1 = 9 := h6
        rw [if_neg (fun q => q.elim h5 h6)] at hQ
        obtain ⟨ou, ca, hh, q1, q2⟩ := CI_row hc1 hi1
        repeat refine z_i rfl rfl ?_
        refine z_get rfl q1 rfl ?_
        repeat refine z_i rfl rfl ?_
        refine z_new rfl (by omega) (by omega) (fun v hv => ?_)
        repeat refine z_i rfl rfl ?_
        refine z_get rfl (zup_at hv hev1) rfl ?_
        refine z_cIk [.int (sX s1)] [.ref v, .int 9, .ref (gh G1 i)] 3 1 1 rfl rfl rfl (Nat.le_of_ble_eq_true rfl) (Nat.le_of_ble_eq_true rfl) (by omega) (by omega) (by omega) (r_Vector_init_I (by omega) (by omega) (by omega) (va_up_self _ _ _) _ (fun q hq => ⟨_, rfl, ?_⟩))
        obtain ⟨hqv, hq0⟩ := zup_none hq
        rw [up_new]
        have hup : ∀ (y : Nat) (e : va_E), w1 y = some e → va_up (va_up w1 q (some (.inl (dA 0, 1, .inl (upd (fun _ => 0) 0 (sX s1)))))) v (some (.inr (C_Vector, [.ref q]))) y = some e := by
          intro y e hy
          have g1 : y ≠ v := fun t => by rw [t, hv] at hy; cases hy
          have g2 : y ≠ q := fun t => by rw [t, hq0] at hy; cases hy
          rw [va_up_ne _ _ g1, va_up_ne _ _ g2]
          exact hy
        obtain ⟨hc2, hl2⟩ := CI_ext hc1 hup
        have hrv : rv dA c P mk (va_up (va_up w1 q (some (.inl (dA 0, 1, .inl (upd (fun _ => 0) 0 (sX s1)))))) v (some (.inr (C_Vector, [.ref q])))) G1 s1 (.ref v) (.inl [sX s1]) := by
          obtain ⟨n0, b0, a0, x0, F0, p1, p2⟩ := id hc1.2.2.2.1
          refine ⟨v, q, upd (fun _ => 0) 0 (sX s1), rfl, va_up_self _ _ _, (va_up_ne _ _ hqv).trans (va_up_self _ _ _), fun j hj => ?_, (nb_new p2 hc1.2.2.1.2.2.2.2 hq0), Nat.le_of_ble_eq_true rfl, fun j hj => ?_⟩
          · have : j = 0 := by
              have : j < 1 := hj
              omega
            subst this
            exact pk_us
          · have : j = 0 := by
              have : j < 1 := hj
              omega
            subst this
            exact hc1.2.2.2.2.2.2.2.1.2
        obtain ⟨hc3, hl3⟩ := CI_slot (a := v) (j := 9) hc2 hi1 (by omega) (hup _ _ q2) hrv
        refine z_aast (j := 9) (x := some v) 4 rfl rfl rfl (hup _ _ q2) rfl (by omega) (by omega) (fun b' hb' => by cases hb'; exact ⟨5, by simp, _, va_up_self _ _ _⟩) ?_
        obtain ⟨ea3, eb3, t1, t2⟩ := id hc3.1
        obtain ⟨hc4, hl4⟩ := CI_ev (s' := uX (uL s1 i 9 (some (.inl (.inl [sX s1])))) 0) (a := ea3) (b := eb3) hc3 rfl rfl rfl ⟨hc3.2.2.2.2.2.2.2.1.1, (by decide : okI 0)⟩ t2
        repeat refine z_i rfl rfl ?_
        refine z_put rfl t1 (Nat.le_of_ble_eq_true rfl) ⟨rfl, rfl⟩ ?_
        have hle04 := LE_trans hle1 (LE_trans hl2 (LE_trans hl3 hl4))
        obtain ⟨num4, hx4⟩ := XP_le (LE_trans hl2 (LE_trans hl3 hl4)) hxx1
        obtain ⟨ea4, eb4, hev4⟩ := CI_obj hc4
        repeat refine z_i rfl rfl ?_
        refine z_get rfl hx4 rfl ?_
        repeat refine z_i rfl rfl ?_
        refine z_cVk [.int (pb P e), .ref (ge G1 i), .int op] [] (dD d) (K - k1 - 2) (N - n1 - 2) rfl hev4 rfl rfl (Nat.le_of_ble_eq_true rfl) (Nat.le_of_ble_eq_true rfl) (by omega) (by omega) (by omega) (IH _ G1 (uX (uL s1 i 9 (some (.inl (.inl [sX s1])))) 0) (tN (pb P e)) i _ _ _ _ _ hc4 (by omega) hi1 (by show pK s1 ≤ _; omega) (by show pN s1 ≤ _; omega) hb1 hop (zend_ret (ck := 2) (cn := 17) rfl hle04 (by show _ + pK s1 + 0 ≤ _; omega) (by show _ + pN s1 + 0 ≤ _; omega) (by omega) (by omega) hQ))
      · replace h6 : sX s1 = 9 := Classical.not_not.mp h6
        rw [if_pos (Or.inr h6)] at hQ
        repeat refine z_i rfl rfl ?_
        exact z_retA rfl rfl (by omega) (by omega) (hQ .null w1 G1 _ _ hc1 rfl hle1 (by show _ + pK s1 ≤ _; omega) (by show _ + pN s1 ≤ _; omega))
theorem r_hasPar {a : Nat} {b p f x : Int32} {sr : Value} (ha : w a = some (.inr (C_Function, [.int b, .int p, .int f, sr]))) (hq : Q (.inl (some (.int (if x < f then 0 else if f + p ≤ x then 0 else 1)))) w 0 0) : zx dA D K N M_Function_hasParameter 0 (zargs 2 [.ref a, .int x]) [] w 0 0 Q := by
  repeat refine z_i rfl rfl ?_
  refine z_get rfl ha rfl ?_
  refine z_b rfl rfl (fun h1 => ?_) (fun h1 => ?_)
  · rw [if_pos h1] at hq
    repeat refine z_i rfl rfl ?_
    exact z_retZ rfl (Or.inl rfl) (Nat.zero_le _) (Nat.zero_le _) hq
  · rw [if_neg h1] at hq
    repeat refine z_i rfl rfl ?_
    refine z_get rfl ha rfl ?_
    repeat refine z_i rfl rfl ?_
    refine z_get rfl ha rfl ?_
    repeat refine z_i rfl rfl ?_
    refine z_b rfl rfl (fun h2 => ?_) (fun h2 => ?_)
    · rw [if_pos h2] at hq
      repeat refine z_i rfl rfl ?_
      exact z_retZ rfl (Or.inl rfl) (Nat.zero_le _) (Nat.zero_le _) hq
    · rw [if_neg h2] at hq
      repeat refine z_i rfl rfl ?_
      refine z_j rfl ?_
      exact z_retZ rfl (Or.inr rfl) (Nat.zero_le _) (Nat.zero_le _) hq
theorem r_absent {x e i : Nat} (h : CI dA c P mk w G s) (hD : 2 ≤ D) (hK : pK s ≤ K) (hN : pN s ≤ N) (he : e < mk) (hi : i ≤ sN s) (hx : XP P w x e) (hQ : zend dA c P mk w G s (e_abs P s e i) 0 0 Q) :
    zx dA D K N M_Evaluator_absent 0 (zargs 3 [.ref (c 0), .ref x, .ref (ge G i)]) [] w 0 0 Q := by
  obtain ⟨num, hx0⟩ := id hx
  obtain ⟨ea, eb, hev⟩ := CI_obj h
  obtain ⟨ou, ca, hh, q1, q2, q3, q4⟩ := h.2.2.2.2.1 i hi
  unfold e_abs at hQ
  have h21 : zend dA c P mk w G s (e_fail s 6) 0 0 Q → zx dA D K N M_Evaluator_absent 21 (zargs 3 [.ref (c 0), .ref x, .ref (ge G i)]) [] w 0 0 Q := by
    intro hQ
    repeat refine z_i rfl rfl ?_
    refine z_cVk [.int 6] [] 0 0 0 rfl hev rfl rfl (Nat.le_of_ble_eq_true rfl) (Nat.le_of_ble_eq_true rfl) (by omega) (by omega) (by omega) (r_failC h (zend_ret rfl LE_refl (by omega) (by omega) (by omega) (by omega) hQ))
  repeat refine z_i rfl rfl ?_
  refine z_get rfl q1 rfl ?_
  cases hC : sC s i with
  | none =>
    rw [hC] at q3 hQ
    rw [q3.2]
    refine z_bt rfl rfl trivial ?_
    exact h21 hQ
  | some fn =>
    rw [hC] at q3 hQ
    obtain ⟨g1, g2, g3⟩ := q3
    obtain ⟨rfl, g4, g5⟩ := g3
    replace hQ : zend dA c P mk w G s (if pa P e < pc P fn.1 then e_fail s 6 else if pc P fn.1 + pb P fn.1 ≤ pa P e then e_fail s 6 else (e_tru (if pa P e - pc P fn.1 < nI (sG s i) then 0 else 1), s)) 0 0 Q := hQ
    refine z_bf rfl rfl (fun q => q) ?_
    repeat refine z_i rfl rfl ?_
    refine z_get rfl q1 rfl ?_
    repeat refine z_i rfl rfl ?_
    refine z_get rfl hx0 rfl ?_
    refine z_cVk [.int (pa P e)] [] 0 0 0 rfl g4 rfl rfl (Nat.le_of_ble_eq_true rfl) (Nat.le_of_ble_eq_true rfl) (by omega) (by omega) (by omega) (r_hasPar g4 ⟨_, rfl, ?_⟩)
    by_cases h1 : pa P e < pc P fn.1
    · rw [if_pos h1] at hQ ⊢
      refine z_bf rfl rfl (fun q => q rfl) ?_
      exact h21 hQ
    · rw [if_neg h1] at hQ ⊢
      by_cases h2 : pc P fn.1 + pb P fn.1 ≤ pa P e
      · rw [if_pos h2] at hQ ⊢
        refine z_bf rfl rfl (fun q => q rfl) ?_
        exact h21 hQ
      · rw [if_neg h2] at hQ ⊢
        refine z_bt rfl rfl (by intro q; cases q) ?_
        repeat refine z_i rfl rfl ?_
        refine z_get rfl hx0 rfl ?_
        repeat refine z_i rfl rfl ?_
        refine z_get rfl q1 rfl ?_
        refine z_get rfl g4 rfl ?_
        repeat refine z_i rfl rfl ?_
        refine z_get rfl q1 rfl ?_
        have h53 : ∀ z : Int32, z = (if pa P e - pc P fn.1 < nI (sG s i) then 0 else 1) → zx dA D K N M_Evaluator_absent 53 (zargs 3 [.ref (c 0), .ref x, .ref (ge G i)]) [.int z, .ref (c 0)] w (0 + 0) (0 + 0) Q := by
          intro z hz
          rw [← hz] at hQ
          refine z_cVk [.int z] [] 0 0 0 rfl hev rfl rfl (Nat.le_of_ble_eq_true rfl) (Nat.le_of_ble_eq_true rfl) (by omega) (by omega) (by omega) (r_truthC h (zend_ret rfl LE_refl (by omega) (by omega) (by omega) (by omega) hQ))
        refine z_b rfl rfl (fun h3 => ?_) (fun h3 => ?_)
        · refine z_i rfl rfl ?_
          exact h53 _ (by rw [if_pos h3])
        · refine z_i rfl rfl ?_
          refine z_j rfl ?_
          exact h53 _ (by rw [if_neg h3])
/-- a new environment's object -/
theorem r_Env_init {a af : Nat} {f0 f1 f2 f3 f4 : Value} {g : Int32} {b0 p0 s0 : Int32} {sr : Nat} (hd : 1 ≤ D) (hK : 1 ≤ K) (hN : 10 ≤ N) (ha : w a = some (.inr (C_Env, [f0, f1, f2, f3, f4]))) (haf : w af = some (.inr (C_Function, [.int b0, .int p0, .int s0, .ref sr]))) (hq : ∀ q : Nat, w q = none → Q (.inl none) (va_up (va_up w q (some (.inl (dA 4, 10, .inr (.inr (.inr (.inr (fun _ => none)))))))) a (some (.inr (C_Env, [.ref q, .ref sr, .ref af, .int g, f4])))) 1 10) :
    zx dA D K N M_Environment_init 0 (zargs 3 [.ref a, .ref af, .int g]) [] w 0 0 Q := by
  repeat refine z_i rfl rfl ?_
  refine z_obj rfl (Nat.le_of_ble_eq_true rfl) hd ?_
  repeat refine z_i rfl rfl ?_
  refine z_newq (j := 10) 4 rfl rfl rfl (by omega) (by omega) (by omega) (fun q hq0 => ?_)
  have hne : a ≠ q := fun e => by rw [e, hq0] at ha; cases ha
  have hfq : af ≠ q := fun e => by rw [e, hq0] at haf; cases haf
  have hfa : af ≠ a := z_ne haf ha (by intro q; cases q)
  refine z_put rfl ((va_up_ne _ _ hne).trans ha) (Nat.le_of_ble_eq_true rfl) ⟨rfl, rfl⟩ ?_
  repeat refine z_i rfl rfl ?_
  refine z_put rfl (va_up_self _ _ _) (Nat.le_of_ble_eq_true rfl) ⟨rfl, rfl⟩ ?_
  rw [bx_uu]
  repeat refine z_i rfl rfl ?_
  refine z_put rfl (va_up_self _ _ _) (Nat.le_of_ble_eq_true rfl) ⟨rfl, rfl⟩ ?_
  rw [bx_uu]
  repeat refine z_i rfl rfl ?_
  refine z_bt rfl rfl trivial ?_
  repeat refine z_i rfl rfl ?_
  refine z_get rfl ((va_up_ne _ _ hfa).trans ((va_up_ne _ _ hfq).trans haf)) rfl ?_
  refine z_put rfl (va_up_self _ _ _) (Nat.le_of_ble_eq_true rfl) ⟨rfl, rfl⟩ ?_
  rw [bx_uu]
  exact z_retV rfl (by omega) (by omega) (hq q hq0)
end EVK
