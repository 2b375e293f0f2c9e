/-! enter, call, evaluate, perform -/
section EVL
variable {dA : Nat → ClassId} {c : Nat → Nat} {P : aP} {mk : Nat} {w w' : ww_W} {G G' : gG} {s s' : aS} {D K N d : Nat} {Q : zQ}
theorem pK_new {e i : Nat} {fn : Nat × Nat × Nat} (h : sN s < 90) : pK (e_new P s e i fn) + 2 = pK s := by
  show 2 * (400 - sT s) + 2 * (90 - (sN s + 1)) + 2 = 2 * (400 - sT s) + 2 * (90 - sN s)
  omega
theorem pN_new {e i : Nat} {fn : Nat × Nat × Nat} (h : sN s < 90) : pN (e_new P s e i fn) + 23 = pN s := by
  show 17 * (400 - sT s) + 23 * (90 - (sN s + 1)) + 23 = 17 * (400 - sT s) + 23 * (90 - sN s)
  omega
theorem r_enter {x e i af : Nat} {op : Int32} {fn : Nat × Nat × Nat} (IH : evOK dA c P mk d) (h : CI dA c P mk w G s) (hD : dD d + 1 ≤ D) (hK : pK s + 2 ≤ K) (hN : pN s + 17 ≤ N) (hop : op = nI (40 - d)) (he : e < mk) (hi : i ≤ sN s) (hx : XP P w x e) (hk3 : kd P e = 20) (hfn : rv dA c P mk w G s (.ref af) (.inr fn)) (hQ : zend dA c P mk w G s (e_ent P (e_ev P d) s e i fn) 2 17 Q) :
    zx dA D K N M_Evaluator_enter 0 (zargs 8 [.ref (c 0), .ref af, .ref x, .ref (ge G i), .int op]) [] w 0 0 Q := by
  obtain ⟨num, hx0⟩ := id hx
  obtain ⟨ea, eb, hev⟩ := CI_obj h
  obtain ⟨ho, h120⟩ := CI_okE h he
  obtain ⟨hfn1, hfn2, hfn3, hfn4, hfn5, hfn6⟩ := id hfn
  have haf : w af = some (.inr (C_Function, [.int (pa P fn.1), .int (pb P fn.1), .int (pc P fn.1), .ref (ge G fn.2.1)])) := by
    cases hfn1
    exact hfn2
  obtain ⟨ho2, _⟩ := CI_okE h hfn5
  obtain ⟨hbody, np, hnp, hpb, hfi⟩ := ho2.2.2.2.2.2.2.2.2.2.2.2.1 hfn6
  obtain ⟨hbo1, hbo2⟩ := okH_t hbody (by omega)
  obtain ⟨_, hargs⟩ := ho.2.2.2.2.2.2.2.2.2.2.2.2 hk3
  have hd8 : 8 ≤ dD d := by unfold dD; omega
  have hg2 : e_giv P e ≤ 2 := by
    unfold e_giv
    split <;> split <;> omega
  unfold e_ent at hQ
  have h29 : zx dA D K N M_Evaluator_enter 29 [some (.ref (c 0)), some (.ref af), some (.ref x), some (.ref (ge G i)), some (.int op), some (.int (nI (e_giv P e))), none, none] [] w 0 0 Q := by
    repeat refine z_i rfl rfl ?_
    refine z_get rfl haf rfl ?_
    refine z_b rfl rfl (fun h1 => ?_) (fun h1 => ?_)
    · replace h1 : nI (e_giv P e) ≤ pb P fn.1 := h1
      have h1' : ¬ pb P fn.1 < nI (e_giv P e) := by
        rw [Int32.lt_iff_toInt_lt]
        rw [Int32.le_iff_toInt_le] at h1
        omega
      rw [if_neg h1'] at hQ
      have hgnp : e_giv P e ≤ np := by
        rw [hpb] at h1
        exact (nI_leI (by omega) (by omega)).mp h1
      repeat refine z_i rfl rfl ?_
      refine z_get rfl hev rfl ?_
      repeat refine z_i rfl rfl ?_
      have h90 := h.2.2.2.2.2.2.1
      refine z_b rfl rfl (fun h2 => ?_) (fun h2 => ?_)
      · have hlt : sN s < 90 := (nI_ltI (b := 90) (by omega) (by omega)).mp h2
        rw [if_neg (by omega)] at hQ
        have hpK := pK_new (P := P) (s := s) (e := e) (i := i) (fn := fn) hlt
        have hpN := pN_new (P := P) (s := s) (e := e) (i := i) (fn := fn) hlt
        repeat refine z_i rfl rfl ?_
        refine z_get rfl hev rfl ?_
        repeat refine z_i rfl rfl ?_
        refine z_put rfl hev (Nat.le_of_ble_eq_true rfl) ⟨rfl, rfl⟩ ?_
        dsimp only
        rw [nI_1]
        have hw1 : ∀ (y : Nat) (z : va_E), w y = some z → y ≠ c 0 → va_up w (c 0) (some (.inr (C_Evaluator, evF c G (uN s (sN s + 1)) ea eb))) y = some z := fun y z hy hne => (va_up_ne _ _ hne).trans hy
        have hw1n : ∀ y : Nat, va_up w (c 0) (some (.inr (C_Evaluator, evF c G (uN s (sN s + 1)) ea eb))) y = none → w y = none ∧ y ≠ c 0 := fun y hy => by
          by_cases hyc : y = c 0
          · rw [hyc, va_up_self] at hy; cases hy
          · rw [va_up_ne _ _ hyc] at hy; exact ⟨hy, hyc⟩
        have haf0 : af ≠ c 0 := z_ne haf hev (by intro q; cases q)
        have hx00 : x ≠ c 0 := z_ne hx0 hev (by intro q; cases q)
        have hw10 : va_up w (c 0) (some (.inr (C_Evaluator, evF c G (uN s (sN s + 1)) ea eb))) (c 0) = some (.inr (C_Evaluator, evF c G (uN s (sN s + 1)) ea eb)) := va_up_self _ _ _
        show zx dA D K N M_Evaluator_enter 71 _ _ (va_up w (c 0) (some (.inr (C_Evaluator, evF c G (uN s (sN s + 1)) ea eb)))) 0 0 Q
        generalize va_up w (c 0) (some (.inr (C_Evaluator, evF c G (uN s (sN s + 1)) ea eb))) = w1 at hw1 hw1n hw10 ⊢
        refine z_new rfl (by omega) (by omega) (fun qe hqe => ?_)
        repeat refine z_i rfl rfl ?_
        refine z_cIk [.ref af, .int (nI (e_giv P e))] [.ref qe] 1 1 10 rfl rfl rfl (Nat.le_of_ble_eq_true rfl) (Nat.le_of_ble_eq_true rfl) (by omega) (by omega) (by omega) (r_Env_init (by omega) (by omega) (by omega) (va_up_self _ _ _) (zup_at hqe (hw1 _ _ haf haf0)) (fun qh hqh => ⟨_, rfl, ?_⟩))
        obtain ⟨hqhe, hqh0⟩ := zup_none hqh
        rw [up_new]
        obtain ⟨hqe1, hqec⟩ := hw1n qe hqe
        obtain ⟨hqh1, hqhc⟩ := hw1n qh hqh0
        -- what stands in the new world
        have hW : ∀ (y : Nat) (z : va_E), w y = some z → y ≠ c 0 → va_up (va_up w1 qh (some (.inl (dA 4, 10, .inr (.inr (.inr (.inr (fun _ => none)))))))) qe (some (.inr (C_Env, [.ref qh, .ref (ge G fn.2.1), .ref af, .int (nI (e_giv P e)), .int 0]))) y = some z := by
          intro y z hy hyc
          have g1 : y ≠ qe := fun t => by rw [t, hqe1] at hy; cases hy
          have g2 : y ≠ qh := fun t => by rw [t, hqh1] at hy; cases hy
          rw [va_up_ne _ _ g1, va_up_ne _ _ g2]
          exact hw1 y z hy hyc
        have hW0 : va_up (va_up w1 qh (some (.inl (dA 4, 10, .inr (.inr (.inr (.inr (fun _ => none)))))))) qe (some (.inr (C_Env, [.ref qh, .ref (ge G fn.2.1), .ref af, .int (nI (e_giv P e)), .int 0]))) (c 0) = some (.inr (C_Evaluator, evF c G (uN s (sN s + 1)) ea eb)) := by
          rw [va_up_ne _ _ (Ne.symm hqec), va_up_ne _ _ (Ne.symm hqhc)]
          exact hw10
        have hWe : va_up (va_up w1 qh (some (.inl (dA 4, 10, .inr (.inr (.inr (.inr (fun _ => none)))))))) qe (some (.inr (C_Env, [.ref qh, .ref (ge G fn.2.1), .ref af, .int (nI (e_giv P e)), .int 0]))) qe = some (.inr (C_Env, [.ref qh, .ref (ge G fn.2.1), .ref af, .int (nI (e_giv P e)), .int 0])) := va_up_self _ _ _
        have hWh : va_up (va_up w1 qh (some (.inl (dA 4, 10, .inr (.inr (.inr (.inr (fun _ => none)))))))) qe (some (.inr (C_Env, [.ref qh, .ref (ge G fn.2.1), .ref af, .int (nI (e_giv P e)), .int 0]))) qh = some (.inl (dA 4, 10, .inr (.inr (.inr (.inr (fun _ => none)))))) := (va_up_ne _ _ hqhe).trans (va_up_self _ _ _)
        show zx dA D K N M_Evaluator_enter 81 _ _ (va_up (va_up w1 qh (some (.inl (dA 4, 10, .inr (.inr (.inr (.inr (fun _ => none)))))))) qe (some (.inr (C_Env, [.ref qh, .ref (ge G fn.2.1), .ref af, .int (nI (e_giv P e)), .int 0])))) 2 15 Q
        generalize va_up (va_up w1 qh (some (.inl (dA 4, 10, .inr (.inr (.inr (.inr (fun _ => none)))))))) qe (some (.inr (C_Env, [.ref qh, .ref (ge G fn.2.1), .ref af, .int (nI (e_giv P e)), .int 0]))) = w3 at hW hW0 hWe hWh ⊢
        have hW3n : ∀ y : Nat, w3 y = none → w y = none ∧ y ≠ qe ∧ y ≠ qh ∧ y ≠ c 0 := by
          intro y hy
          refine ⟨?_, (fun t => by rw [t, hWe] at hy; cases hy), (fun t => by rw [t, hWh] at hy; cases hy), (fun t => by rw [t, hW0] at hy; cases hy)⟩
          cases hwy : w y with
          | none => rfl
          | some z =>
            have hyc : y ≠ c 0 := fun t => by rw [t, hW0] at hy; cases hy
            rw [hW y z hwy hyc] at hy
            cases hy
        -- from the evaluation of the body on
        have h140 : ∀ (w4 : ww_W) (A hh : Nat → Option Nat) (k4 n4 : Nat), k4 ≤ 4 → n4 ≤ 23 → (∀ (y : Nat) (z : va_E), w y = some z → y ≠ c 0 → w4 y = some z) → w4 (c 0) = some (.inr (C_Evaluator, evF c G (uN s (sN s + 1)) ea eb)) → (∀ j y : Nat, A j = some y → w y = none) → (∀ j y : Nat, A j = some y → ∃ fs : List Value, w4 y = some (.inr (C_Arg, fs)) ∧ fs.length = 4) → (∀ j j' y : Nat, A j = some y → A j' = some y → j = j') → w4 qe = some (.inr (C_Env, [.ref qh, .ref (ge G fn.2.1), .ref af, .int (nI (e_giv P e)), .int 0])) → w4 qh = some (.inl (dA 4, 10, .inr (.inr (.inr (.inr hh))))) →
            (∀ j : Nat, j < 10 → rs dA c P mk w4 (va_up G.1 (sN s + 1) qe, va_up G.2.1 (sN s + 1) qh, G.2.2.1, va_up G.2.2.2 (sN s + 1) A) (e_new P s e i fn) (sN s + 1) j (hh j) (e_sl P e i (tN (pc P fn.1)) (e_giv P e) j)) →
            zx dA D K N M_Evaluator_enter 140 [some (.ref (c 0)), some (.ref af), some (.ref x), some (.ref (ge G i)), some (.int op), some (.int (nI (e_giv P e))), some (.ref qe), none] [] w4 k4 n4 Q := by
          intro w4 A hh k4 n4 hk4 hn4 c1 c2 c3 c4 c5 c6 c7 c8
          obtain ⟨hc4, hle4⟩ := CI_env (w' := w4) h hlt hfn3 hev hqe1 hqh1 c1 c2 c3 c4 c5 c6 c7 hfn c8
          have hge4 : ge (va_up G.1 (sN s + 1) qe, va_up G.2.1 (sN s + 1) qh, G.2.2.1, va_up G.2.2.2 (sN s + 1) A) (sN s + 1) = qe := va_up_self _ _ _
          generalize (va_up G.1 (sN s + 1) qe, va_up G.2.1 (sN s + 1) qh, G.2.2.1, va_up G.2.2.2 (sN s + 1) A) = G4 at hc4 hle4 hge4
          obtain ⟨ea4, eb4, hev4⟩ := CI_obj hc4
          have hn1 : sN s + 1 ≤ sN (e_new P s e i fn) := Nat.le_refl _
          repeat refine z_i rfl rfl ?_
          refine z_get rfl (c1 _ _ haf haf0) rfl ?_
          repeat refine z_i rfl rfl ?_
          rw [← hge4]
          refine z_cVk [.int (pa P fn.1), .ref (ge G4 (sN s + 1)), .int op] [] (dD d) (K - k4) (N - n4) rfl hev4 rfl rfl (Nat.le_of_ble_eq_true rfl) (Nat.le_of_ble_eq_true rfl) (by omega) (by omega) (by omega) (IH _ G4 (e_new P s e i fn) (tN (pa P fn.1)) (sN s + 1) _ _ _ _ _ hc4 (by omega) hn1 (by omega) (by omega) hbo1 hop ?_)
          generalize e_ev P d (e_new P s e i fn) (tN (pa P fn.1)) (sN s + 1) = r5 at hQ ⊢
          obtain ⟨r5, s5⟩ := r5
          intro v5 w5 G5 k5 n5 hc5 hv5 hle5 hk5 hn5
          refine ⟨_, rfl, ?_⟩
          replace hk5 : k5 + pK s5 ≤ pK (e_new P s e i fn) + 0 := hk5
          replace hn5 : n5 + pN s5 ≤ pN (e_new P s e i fn) + 0 := hn5
          replace hc5 : CI dA c P mk w5 G5 s5 := hc5
          replace hle5 : LEx c w4 G4 (e_new P s e i fn) w5 G5 s5 := hle5
          have hn5' : sN s + 1 ≤ sN s5 := hle5.2.2.2.2.1
          rw [← (hle5.2.1 (sN s + 1) hn1).1]
          obtain ⟨ou, ca, hh5, q1, q2⟩ := CI_row hc5 hn5'
          obtain ⟨hc6, hl6⟩ := CI_over (b := true) hc5 hn5' q1
          have hle06 := LE_trans hle4 (LE_trans hle5 hl6)
          cases r5 with
          | some y =>
            replace hv5 : rv dA c P mk w5 G5 s5 v5 y := hv5
            obtain ⟨b, rfl⟩ := rv_ref hv5
            replace hQ : zend dA c P mk w G s (some y, uO s5 (sN s + 1) true) 2 17 Q := hQ
            repeat refine z_i rfl rfl ?_
            refine z_put rfl q1 (Nat.le_of_ble_eq_true rfl) ⟨rfl, rfl⟩ ?_
            repeat refine z_i rfl rfl ?_
            refine z_bt rfl rfl trivial ?_
            repeat refine z_i rfl rfl ?_
            exact z_retA rfl rfl (by omega) (by omega) (hQ (.ref b) _ G5 _ _ hc6 (rv_le hl6 hv5) hle06 (by show _ + pK s5 ≤ _; omega) (by show _ + pN s5 ≤ _; omega))
          | none =>
            replace hv5 : v5 = .null := hv5
            subst hv5
            replace hQ : zend dA c P mk w G s (e_take (uO s5 (sN s + 1) true) (sN s + 1)) 2 17 Q := hQ
            obtain ⟨ea6, eb6, hev6⟩ := CI_obj hc6
            repeat refine z_i rfl rfl ?_
            refine z_put rfl q1 (Nat.le_of_ble_eq_true rfl) ⟨rfl, rfl⟩ ?_
            repeat refine z_i rfl rfl ?_
            refine z_bf rfl rfl (fun q => q) ?_
            repeat refine z_i rfl rfl ?_
            refine z_cVk [.ref (ge G5 (sN s + 1))] [] 0 0 0 rfl hev6 rfl rfl (Nat.le_of_ble_eq_true rfl) (Nat.le_of_ble_eq_true rfl) (by omega) (by omega) (by omega) (r_take hc6 hn5' ?_)
            intro v7 w7 G7 k7 n7 hc7 hv7 hle7 hk7 hn7
            obtain ⟨rf, hrf⟩ := rvO_rf hv7
            refine ⟨some v7, rfl, ?_⟩
            replace hk7 : k7 + pK (e_take (uO s5 (sN s + 1) true) (sN s + 1)).2 ≤ pK s5 + 0 := hk7
            replace hn7 : n7 + pN (e_take (uO s5 (sN s + 1) true) (sN s + 1)).2 ≤ pN s5 + 0 := hn7
            refine z_j rfl ?_
            exact z_retA rfl hrf (by omega) (by omega) (hQ v7 w7 G7 _ _ hc7 hv7 (LE_trans hle06 hle7) (by omega) (by omega))
        have hi3 : ∀ A : Nat → Option Nat, ge (va_up G.1 (sN s + 1) qe, va_up G.2.1 (sN s + 1) qh, G.2.2.1, va_up G.2.2.2 (sN s + 1) A) i = ge G i := fun A => va_up_ne _ _ (by omega)
        have hga3 : ∀ (A : Nat → Option Nat) (j : Nat), ga (va_up G.1 (sN s + 1) qe, va_up G.2.1 (sN s + 1) qh, G.2.2.1, va_up G.2.2.2 (sN s + 1) A) (sN s + 1) j = A j := fun A j => by
          show va_up G.2.2.2 (sN s + 1) A (sN s + 1) j = A j
          rw [va_up_self]
        rcases hargs with ⟨hb, hcn⟩ | ⟨hob, hcn⟩
        · have hg0 : e_giv P e = 0 := by unfold e_giv; rw [if_pos hb, if_pos hcn]
          repeat refine z_i rfl rfl ?_
          refine z_bt rfl rfl (by rw [hg0]; decide) ?_
          repeat refine z_i rfl rfl ?_
          refine z_bt rfl rfl (by rw [hg0]; decide) ?_
          refine h140 w3 (fun _ => none) (fun _ => none) 2 15 (by omega) (by omega) hW hW0 (fun j y q => by cases q) (fun j y q => by cases q) (fun j j' y q => by cases q) hWe hWh (fun j hj => ?_)
          have : e_sl P e i (tN (pc P fn.1)) (e_giv P e) j = none := by
            unfold e_sl
            rw [hg0, if_neg (by omega), if_neg (by omega)]
          rw [this]
          rfl
        · have hbn : ¬ pb P e = -1 := by
            obtain ⟨j, hj, hjj⟩ := hob
            rw [hjj]
            exact fun q => absurd (congrArg Int32.toInt q) (by rw [nI_toInt (by omega)]; show ¬ (j : Int) = -1; omega)
          obtain ⟨hb1, hb2⟩ := okH_t hob (by omega)
          have hg1 : 1 ≤ e_giv P e := by unfold e_giv; rw [if_neg hbn]; omega
          obtain ⟨fi, hfi1, hfi2⟩ := hfi.resolve_left (by omega)
          have hfit : tN (pc P fn.1) = fi := by rw [hfi2]; exact tN_nI (by omega)
          have hpos : ¬ nI (e_giv P e) ≤ 0 := nI_nle (by omega) (by omega)
          repeat refine z_i rfl rfl ?_
          refine z_bf rfl rfl hpos ?_
          repeat refine z_i rfl rfl ?_
          refine z_get rfl hWe rfl ?_
          repeat refine z_i rfl rfl ?_
          refine z_get rfl (hW _ _ haf haf0) rfl ?_
          refine z_new rfl (by omega) (by omega) (fun q1 hq1 => ?_)
          obtain ⟨hq1w, hq1e, hq1h, hq1c⟩ := hW3n q1 hq1
          repeat refine z_i rfl rfl ?_
          refine z_get rfl (zup_at hq1 (hW _ _ hx0 hx00)) rfl ?_
          repeat refine z_i rfl rfl ?_
          refine z_cIk [.int (pb P e), .ref (ge G i)] [.ref q1, .int (pc P fn.1), .ref qh] 2 0 0 rfl rfl rfl (Nat.le_of_ble_eq_true rfl) (Nat.le_of_ble_eq_true rfl) (by omega) (by omega) (by omega) (r_Arg_init (by omega) (va_up_self _ _ _) _ ⟨_, rfl, ?_⟩)
          rw [bx_uu]
          refine z_aast (j := fi) (x := some q1) 4 rfl rfl rfl ((va_up_ne _ _ (Ne.symm hq1h)).trans hWh) hfi2 (by omega) (by omega) (fun b' hb' => by cases hb'; exact ⟨8, by simp, _, va_up_self _ _ _⟩) ?_
          have hW4 : ∀ (y : Nat) (z : va_E), w y = some z → y ≠ c 0 → va_up (va_up w3 q1 (some (.inr (C_Arg, [.int (pb P e), .ref (ge G i), .null, .int 0])))) qh (some (.inl (dA 4, 10, .inr (.inr (.inr (.inr (va_up (fun _ => none) fi (some q1)))))))) y = some z := by
            intro y z hy hyc
            have g1 : y ≠ qh := fun t => by rw [t, hqh1] at hy; cases hy
            have g2 : y ≠ q1 := fun t => by rw [t, hq1w] at hy; cases hy
            rw [va_up_ne _ _ g1, va_up_ne _ _ g2]
            exact hW y z hy hyc
          have hW40 : va_up (va_up w3 q1 (some (.inr (C_Arg, [.int (pb P e), .ref (ge G i), .null, .int 0])))) qh (some (.inl (dA 4, 10, .inr (.inr (.inr (.inr (va_up (fun _ => none) fi (some q1)))))))) (c 0) = some (.inr (C_Evaluator, evF c G (uN s (sN s + 1)) ea eb)) := (va_up_ne _ _ (Ne.symm hqhc)).trans ((va_up_ne _ _ (Ne.symm hq1c)).trans hW0)
          have hW4e : va_up (va_up w3 q1 (some (.inr (C_Arg, [.int (pb P e), .ref (ge G i), .null, .int 0])))) qh (some (.inl (dA 4, 10, .inr (.inr (.inr (.inr (va_up (fun _ => none) fi (some q1)))))))) qe = some (.inr (C_Env, [.ref qh, .ref (ge G fn.2.1), .ref af, .int (nI (e_giv P e)), .int 0])) := (va_up_ne _ _ (Ne.symm hqhe)).trans ((va_up_ne _ _ (Ne.symm hq1e)).trans hWe)
          have hW4h : va_up (va_up w3 q1 (some (.inr (C_Arg, [.int (pb P e), .ref (ge G i), .null, .int 0])))) qh (some (.inl (dA 4, 10, .inr (.inr (.inr (.inr (va_up (fun _ => none) fi (some q1)))))))) qh = some (.inl (dA 4, 10, .inr (.inr (.inr (.inr (va_up (fun _ => none) fi (some q1))))))) := va_up_self _ _ _
          have hW4q : va_up (va_up w3 q1 (some (.inr (C_Arg, [.int (pb P e), .ref (ge G i), .null, .int 0])))) qh (some (.inl (dA 4, 10, .inr (.inr (.inr (.inr (va_up (fun _ => none) fi (some q1)))))))) q1 = some (.inr (C_Arg, [.int (pb P e), .ref (ge G i), .null, .int 0])) := (va_up_ne _ _ hq1h).trans (va_up_self _ _ _)
          show zx dA D K N M_Evaluator_enter 110 _ _ (va_up (va_up w3 q1 (some (.inr (C_Arg, [.int (pb P e), .ref (ge G i), .null, .int 0])))) qh (some (.inl (dA 4, 10, .inr (.inr (.inr (.inr (va_up (fun _ => none) fi (some q1))))))))) 3 19 Q
          generalize va_up (va_up w3 q1 (some (.inr (C_Arg, [.int (pb P e), .ref (ge G i), .null, .int 0])))) qh (some (.inl (dA 4, 10, .inr (.inr (.inr (.inr (va_up (fun _ => none) fi (some q1)))))))) = w4 at hW4 hW40 hW4e hW4h hW4q ⊢
          by_cases hc1 : pc P e = -1
          · have hg1e : e_giv P e = 1 := by unfold e_giv; rw [if_neg hbn, if_pos hc1]
            repeat refine z_i rfl rfl ?_
            refine z_bt rfl rfl (by rw [hg1e]; decide) ?_
            refine h140 w4 (va_up (fun _ => none) fi (some q1)) _ 3 19 (by omega) (by omega) hW4 hW40 (fun j y q => ?_) (fun j y q => ?_) (fun j j' y q q' => ?_) hW4e hW4h (fun j hj => ?_)
            · by_cases hjf : j = fi
              · rw [hjf, va_up_self] at q; cases q; exact hq1w
              · rw [va_up_ne _ _ hjf] at q; cases q
            · by_cases hjf : j = fi
              · rw [hjf, va_up_self] at q; cases q; exact ⟨_, hW4q, rfl⟩
              · rw [va_up_ne _ _ hjf] at q; cases q
            · by_cases hjf : j = fi
              · by_cases hjf' : j' = fi
                · omega
                · rw [va_up_ne _ _ hjf'] at q'; cases q'
              · rw [va_up_ne _ _ hjf] at q; cases q
            · unfold e_sl
              rw [hfit, hg1e, if_neg (by omega)]
              by_cases hjf : j = fi
              · rw [if_pos ⟨hjf, by omega⟩, hjf, va_up_self]
                exact ⟨q1, .null, rfl, by rw [hga3, va_up_self], by rw [hW4q, hi3, ← hb1]; rfl, rfl, by show i ≤ sN s + 1; omega, by omega⟩
              · rw [if_neg (fun q => hjf q.1), va_up_ne _ _ hjf]
                rfl
          · have hoc := hcn.resolve_left hc1
            obtain ⟨hcc1, hcc2⟩ := okH_t hoc (by omega)
            have hg2e : e_giv P e = 2 := by unfold e_giv; rw [if_neg hbn, if_neg hc1]
            repeat refine z_i rfl rfl ?_
            refine z_bf rfl rfl (by rw [hg2e]; decide) ?_
            repeat refine z_i rfl rfl ?_
            refine z_get rfl hW4e rfl ?_
            repeat refine z_i rfl rfl ?_
            refine z_get rfl (hW4 _ _ haf haf0) rfl ?_
            repeat refine z_i rfl rfl ?_
            have hW4n : ∀ y : Nat, w4 y = none → w y = none ∧ y ≠ qe ∧ y ≠ qh ∧ y ≠ c 0 ∧ y ≠ q1 := by
              intro y hy
              refine ⟨?_, (fun t => by rw [t, hW4e] at hy; cases hy), (fun t => by rw [t, hW4h] at hy; cases hy), (fun t => by rw [t, hW40] at hy; cases hy), (fun t => by rw [t, hW4q] at hy; cases hy)⟩
              cases hwy : w y with
              | none => rfl
              | some z =>
                have hyc : y ≠ c 0 := fun t => by rw [t, hW40] at hy; cases hy
                rw [hW4 y z hwy hyc] at hy
                cases hy
            refine z_new rfl (by omega) (by omega) (fun q2 hq2 => ?_)
            obtain ⟨hq2w, hq2e, hq2h, hq2c, hq21⟩ := hW4n q2 hq2
            repeat refine z_i rfl rfl ?_
            refine z_get rfl (zup_at hq2 (hW4 _ _ hx0 hx00)) rfl ?_
            repeat refine z_i rfl rfl ?_
            refine z_cIk [.int (pc P e), .ref (ge G i)] [.ref q2, .int (pc P fn.1 + 1), .ref qh] 2 0 0 rfl rfl rfl (Nat.le_of_ble_eq_true rfl) (Nat.le_of_ble_eq_true rfl) (by omega) (by omega) (by omega) (r_Arg_init (by omega) (va_up_self _ _ _) _ ⟨_, rfl, ?_⟩)
            rw [bx_uu]
            refine z_aast (j := fi + 1) (x := some q2) 4 rfl rfl rfl ((va_up_ne _ _ (Ne.symm hq2h)).trans hW4h) (by rw [hfi2, nI_1]) (by omega) (by omega) (fun b' hb' => by cases hb'; exact ⟨8, by simp, _, va_up_self _ _ _⟩) ?_
            have hnf : fi + 1 ≠ fi := by omega
            refine h140 _ (va_up (va_up (fun _ => none) fi (some q1)) (fi + 1) (some q2)) (va_up (va_up (fun _ => none) fi (some q1)) (fi + 1) (some q2)) 4 23 (by omega) (by omega) (fun y z hy hyc => ?_) ((va_up_ne _ _ (Ne.symm hqhc)).trans ((va_up_ne _ _ (Ne.symm hq2c)).trans hW40)) (fun j y q => ?_) (fun j y q => ?_) (fun j j' y q q' => ?_) ((va_up_ne _ _ (Ne.symm hqhe)).trans ((va_up_ne _ _ (Ne.symm hq2e)).trans hW4e)) (va_up_self _ _ _) (fun j hj => ?_)
            · have g1 : y ≠ qh := fun t => by rw [t, hqh1] at hy; cases hy
              have g2 : y ≠ q2 := fun t => by rw [t, hq2w] at hy; cases hy
              rw [va_up_ne _ _ g1, va_up_ne _ _ g2]
              exact hW4 y z hy hyc
            · by_cases hj2 : j = fi + 1
              · rw [hj2, va_up_self] at q; cases q; exact hq2w
              · rw [va_up_ne _ _ hj2] at q
                by_cases hjf : j = fi
                · rw [hjf, va_up_self] at q; cases q; exact hq1w
                · rw [va_up_ne _ _ hjf] at q; cases q
            · by_cases hj2 : j = fi + 1
              · rw [hj2, va_up_self] at q; cases q; exact ⟨_, (va_up_ne _ _ hq2h).trans (va_up_self _ _ _), rfl⟩
              · rw [va_up_ne _ _ hj2] at q
                by_cases hjf : j = fi
                · rw [hjf, va_up_self] at q; cases q; exact ⟨_, (va_up_ne _ _ hq1h).trans ((va_up_ne _ _ (Ne.symm hq21)).trans hW4q), rfl⟩
                · rw [va_up_ne _ _ hjf] at q; cases q
            · by_cases hj2 : j = fi + 1
              · rw [hj2, va_up_self] at q
                cases q
                by_cases hj3 : j' = fi + 1
                · omega
                · rw [va_up_ne _ _ hj3] at q'
                  by_cases hjf : j' = fi
                  · rw [hjf, va_up_self] at q'; cases q'; exact absurd rfl hq21
                  · rw [va_up_ne _ _ hjf] at q'; cases q'
              · rw [va_up_ne _ _ hj2] at q
                by_cases hjf : j = fi
                · rw [hjf, va_up_self] at q
                  cases q
                  by_cases hj3 : j' = fi + 1
                  · rw [hj3, va_up_self] at q'; cases q'; exact absurd rfl hq21
                  · rw [va_up_ne _ _ hj3] at q'
                    by_cases hjf' : j' = fi
                    · omega
                    · rw [va_up_ne _ _ hjf'] at q'; cases q'
                · rw [va_up_ne _ _ hjf] at q; cases q
            · unfold e_sl
              rw [hfit, hg2e]
              by_cases hj2 : j = fi + 1
              · rw [if_pos ⟨hj2, by omega⟩, hj2, va_up_self]
                exact ⟨q2, .null, rfl, by rw [hga3, va_up_self], by rw [va_up_ne _ _ hq2h, va_up_self, hi3, ← hcc1]; rfl, rfl, by show i ≤ sN s + 1; omega, by omega⟩
              · rw [if_neg (fun q => hj2 q.1), va_up_ne _ _ hj2]
                by_cases hjf : j = fi
                · rw [if_pos ⟨hjf, by omega⟩, hjf, va_up_self]
                  exact ⟨q1, .null, rfl, by rw [hga3, va_up_ne _ _ (by omega), va_up_self], by rw [va_up_ne _ _ hq1h, va_up_ne _ _ (Ne.symm hq21), hW4q, hi3, ← hb1]; rfl, rfl, by show i ≤ sN s + 1; omega, by omega⟩
                · rw [if_neg (fun q => hjf q.1), va_up_ne _ _ hjf]
                  rfl
      · have hge : 90 ≤ sN s := Nat.not_lt.mp (fun q => h2 ((nI_ltI (b := 90) (by omega) (by omega)).mpr q))
        rw [if_pos hge] at hQ
        repeat refine z_i rfl rfl ?_
        refine z_cVk [.int 9] [] 0 0 0 rfl hev rfl rfl (Nat.le_of_ble_eq_true rfl) (Nat.le_of_ble_eq_true rfl) (by omega) (by omega) (by omega) (r_failC h (zend_ret (ck := 2) (cn := 17) rfl LE_refl (by omega) (by omega) (by omega) (by omega) hQ))
    · replace h1 : ¬ nI (e_giv P e) ≤ pb P fn.1 := h1
      have h1' : pb P fn.1 < nI (e_giv P e) := by
        rw [Int32.lt_iff_toInt_lt]
        rw [Int32.le_iff_toInt_le] at h1
        omega
      rw [if_pos h1'] at hQ
      repeat refine z_i rfl rfl ?_
      refine z_cVk [.int 6] [] 0 0 0 rfl hev rfl rfl (Nat.le_of_ble_eq_true rfl) (Nat.le_of_ble_eq_true rfl) (by omega) (by omega) (by omega) (r_failC h (zend_ret (ck := 2) (cn := 17) rfl LE_refl (by omega) (by omega) (by omega) (by omega) hQ))
  have h13 : ∀ z : Int32, z = nI (if pb P e = -1 then 0 else 1) → zx dA D K N M_Evaluator_enter 13 (zargs 8 [.ref (c 0), .ref af, .ref x, .ref (ge G i), .int op]) [.int z] w 0 0 Q := by
    intro z hz
    subst hz
    repeat refine z_i rfl rfl ?_
    refine z_get rfl hx0 rfl ?_
    repeat refine z_i rfl rfl ?_
    have hk : ∀ y : Int32, y = nI (if pc P e = -1 then 0 else 1) → zx dA D K N M_Evaluator_enter 26 (zargs 8 [.ref (c 0), .ref af, .ref x, .ref (ge G i), .int op]) [.int y, .int (nI (if pb P e = -1 then 0 else 1))] w 0 0 Q := by
      intro y hy
      subst hy
      refine z_i rfl rfl ?_
      refine z_i rfl rfl ?_
      rw [e_giv, ← nI_add] at h29
      exact h29
    refine z_b rfl rfl (fun h2 => ?_) (fun h2 => ?_)
    · refine z_i rfl rfl ?_
      exact hk _ (by rw [if_neg h2]; rfl)
    · refine z_i rfl rfl ?_
      refine z_j rfl ?_
      exact hk _ (by rw [if_pos (Classical.not_not.mp h2)]; rfl)
  repeat refine z_i rfl rfl ?_
  refine z_get rfl hx0 rfl ?_
  repeat refine z_i rfl rfl ?_
  refine z_b rfl rfl (fun h2 => ?_) (fun h2 => ?_)
  · refine z_i rfl rfl ?_
    exact h13 _ (by rw [if_neg h2]; rfl)
  · refine z_i rfl rfl ?_
    refine z_j rfl ?_
    exact h13 _ (by rw [if_pos (Classical.not_not.mp h2)]; rfl)
end EVL
