/-! how the pure state goes with changes of the world -/
section CK2
variable {dA : Nat → ClassId} {c : Nat → Nat} {P : aP} {mk : Nat} {w w' : ww_W} {G G' : gG} {s s' : aS}
theorem CI_mk (h : CI dA c P mk w G s) (hl : LEx c w G s w' G' s') (h1 : EV dA c P mk w' G' s') (h2 : PL dA c w') (h3 : ∀ i : Nat, i ≤ sN s' → EN dA c P mk w' G' s' i) (h4 : DI G' s') (h5 : sN s' ≤ 90) (h6 : sT s' ≤ 400 ∧ okI (sX s')) (h7 : ∀ i j a : Nat, ga G' i j = some a → ∃ fs : List Value, w' a = some (.inr (C_Arg, fs)) ∧ fs.length = 4) (h8 : ∀ n : Nat, n < sF s' → ∃ fs : List Value, w' (gf G' n) = some (.inr (C_Function, fs))) : CI dA c P mk w' G' s' :=
  ⟨h1, PI_le hl h.2.1, CK_le hl h.2.2.1, h2, h3, h4, h5, h6, h7, h8⟩
theorem CI_arg (h : CI dA c P mk w G s) (hl : LEx c w G s w' G s') : ∀ i j a : Nat, ga G i j = some a → ∃ fs : List Value, w' a = some (.inr (C_Arg, fs)) ∧ fs.length = 4 := by
  intro i j a ha
  obtain ⟨fs, q1, q2⟩ := h.2.2.2.2.2.2.2.2.1 i j a ha
  obtain ⟨fs', q3, q4⟩ := hl.1.2 _ _ _ q1
  exact ⟨fs', q3, q4.trans q2⟩
theorem CI_fns (h : CI dA c P mk w G s) (hl : LEx c w G s w' G s') (he : sF s' = sF s) : ∀ n : Nat, n < sF s' → ∃ fs : List Value, w' (gf G n) = some (.inr (C_Function, fs)) := by
  intro n hn
  obtain ⟨fs, q1⟩ := h.2.2.2.2.2.2.2.2.2 n (by omega)
  obtain ⟨fs', q3, q4⟩ := hl.1.2 _ _ _ q1
  exact ⟨fs', q3⟩
/-- a thing that is no environment, no row of one, no argument: which environments lie apart from it -/
theorem CI_apart {y : Nat} {e : va_E} (h : CI dA c P mk w G s) (hy : w y = some e) (hn : match e with
    | .inr x => x.1 ≠ 3 ∧ x.1 ≠ 8
    | .inl x => ¬ ∃ f : Nat → Option Nat, x.2 = (10, .inr (.inr (.inr (.inr f))))) : (∀ i : Nat, i ≤ sN s → ge G i ≠ y) ∧ (∀ i : Nat, i ≤ sN s → gh G i ≠ y) ∧ ∀ i j a : Nat, ga G i j = some a → a ≠ y := by
  refine ⟨fun i hi q => ?_, fun i hi q => ?_, fun i j a ha q => ?_⟩
  · obtain ⟨ou, ca, hh, q1, q2, q3, q4⟩ := h.2.2.2.2.1 i hi
    rw [q, hy] at q1
    cases q1
    exact hn.1 rfl
  · obtain ⟨ou, ca, hh, q1, q2, q3, q4⟩ := h.2.2.2.2.1 i hi
    rw [q, hy] at q2
    cases q2
    exact hn ⟨hh, rfl⟩
  · obtain ⟨fs, q1, q2⟩ := h.2.2.2.2.2.2.2.2.1 i j a ha
    rw [q, hy] at q1
    cases q1
    exact hn.2 rfl
theorem EN_keep {y i : Nat} {e : va_E} (h : CI dA c P mk w G s) (hl : LEx c w G s w' G' s') (hw : ∀ x : Nat, x ≠ y → w' x = w x) (hy : w y = some e) (hn : match e with
    | .inr x => x.1 ≠ 3 ∧ x.1 ≠ 8
    | .inl x => ¬ ∃ f : Nat → Option Nat, x.2 = (10, .inr (.inr (.inr (.inr f))))) (hi : i ≤ sN s) (hs : s'.1 i = s.1 i) : EN dA c P mk w' G' s' i := by
  obtain ⟨h1, h2, h3⟩ := CI_apart h hy hn
  exact EN_le hl hi (h.2.2.2.2.1 i hi) (hw _ (h1 i hi)) (hw _ (h2 i hi)) (fun j a ha => hw _ (h3 i j a ha)) hs
theorem DI_same (h : DI G s) (h1 : sN s' = sN s) (h2 : sF s' = sF s) : DI G s' := by
  unfold DI
  rw [h1, h2]
  exact h
/-- more things: all stands -/
theorem CI_ext (h : CI dA c P mk w G s) (hw : ∀ (a : Nat) (e : va_E), w a = some e → w' a = some e) : CI dA c P mk w' G s ∧ LEx c w G s w' G s := by
  have hl : LEx c w G s w' G s := ⟨⟨fun a e q _ => hw a e q, fun a ci fs q => ⟨fs, hw _ _ q, rfl⟩⟩, gx_refl⟩
  refine ⟨CI_mk h hl ?_ ?_ (fun i hi => ?_) h.2.2.2.2.2.1 h.2.2.2.2.2.2.1 h.2.2.2.2.2.2.2.1 (CI_arg h hl) (CI_fns h hl rfl), hl⟩
  · obtain ⟨a, b, q1, q2⟩ := h.1
    exact ⟨a, b, hw _ _ q1, rEnd_le hl q2⟩
  · obtain ⟨n, b, a, x, F, q1, q2⟩ := h.2.2.2.1
    exact ⟨n, b, a, x, F, hw _ _ q1, hw _ _ q2⟩
  · have hE := h.2.2.2.2.1 i hi
    obtain ⟨ou, ca, hh, q1, q2, q3, q4⟩ := id hE
    refine EN_le hl hi hE (by rw [q1]; exact hw _ _ q1) (by rw [q2]; exact hw _ _ q2) (fun j a ha => ?_) rfl
    obtain ⟨fs, q5, q6⟩ := h.2.2.2.2.2.2.2.2.1 i j a ha
    rw [q5]; exact hw _ _ q5
/-- the evaluator's own fields change -/
theorem CI_ev {a b : Value} (h : CI dA c P mk w G s) (h1 : s'.1 = s.1) (h2 : sN s' = sN s) (h3 : sF s' = sF s) (h4 : sT s' ≤ 400 ∧ okI (sX s')) (h5 : rEnd dA c P mk w G s' a b (sR s')) : CI dA c P mk (va_up w (c 0) (some (.inr (C_Evaluator, evF c G s' a b)))) G s' ∧ LEx c w G s (va_up w (c 0) (some (.inr (C_Evaluator, evF c G s' a b)))) G s' := by
  obtain ⟨a0, b0, q1, q2⟩ := id h.1
  have hl : LEx c w G s (va_up w (c 0) (some (.inr (C_Evaluator, evF c G s' a b)))) G s' := ⟨kp_obj q1 (Or.inl rfl) rfl, gx_of (by omega) (by omega)⟩
  have hl' : LEx c w G s' (va_up w (c 0) (some (.inr (C_Evaluator, evF c G s' a b)))) G s' := ⟨kp_obj q1 (Or.inl rfl) rfl, gx_refl⟩
  refine ⟨CI_mk h hl ⟨a, b, va_up_self _ _ _, rEnd_le hl' h5⟩ ?_ (fun i hi => ?_) (DI_same h.2.2.2.2.2.1 h2 h3) (by rw [h2]; exact h.2.2.2.2.2.2.1) h4 (CI_arg h hl) (CI_fns h hl h3), hl⟩
  · obtain ⟨n, b1, a1, x, F, p1, p2⟩ := h.2.2.2.1
    exact ⟨n, b1, a1, x, F, (va_up_ne _ _ (z_ne p1 q1 (by intro q; cases q))).trans p1, (va_up_ne _ _ (z_ne p2 q1 (by intro q; cases q))).trans p2⟩
  · exact EN_keep h hl (fun x hx => va_up_ne _ _ hx) q1 ⟨(by decide : (2 : Nat) ≠ 3), (by decide : (2 : Nat) ≠ 8)⟩ (by omega) (by rw [h1])
/-- the places change -/
theorem CI_pl {n b a x : Int32} {F : Nat → Int32} (h : CI dA c P mk w G s) : CI dA c P mk (pw dA w (c 3) (c 4) n b a x F) G s ∧ LEx c w G s (pw dA w (c 3) (c 4) n b a x F) G s := by
  obtain ⟨n1, b1, a1, x1, F1, p1, p2⟩ := id h.2.2.2.1
  have hne : c 4 ≠ c 3 := z_ne p2 p1 (by intro q; cases q)
  have hk : kp c w (pw dA w (c 3) (c 4) n b a x F) := kp_trans (kp_pr p2) (kp_obj (fs := [.ref (c 4), .int n1, .int b1, .int a1, .int x1]) ((va_up_ne _ _ (Ne.symm hne)).trans p1) (Or.inr (Or.inr (Or.inl rfl))) rfl)
  have hl : LEx c w G s (pw dA w (c 3) (c 4) n b a x F) G s := ⟨hk, gx_refl⟩
  obtain ⟨a0, b0, q1, q2⟩ := id h.1
  have hA := CI_apart h p1 ⟨(by decide : (4 : Nat) ≠ 3), (by decide : (4 : Nat) ≠ 8)⟩
  have hB := CI_apart h p2 (by rintro ⟨f, q⟩; cases q)
  refine ⟨CI_mk h hl ⟨a0, b0, (pw_at (z_ne q1 p1 (by intro q; cases q)) (z_ne q1 p2 (by intro q; cases q))).trans q1, rEnd_le hl q2⟩ ⟨n, b, a, x, F, pw_pl, pw_pr hne⟩ (fun i hi => ?_) h.2.2.2.2.2.1 h.2.2.2.2.2.2.1 h.2.2.2.2.2.2.2.1 (CI_arg h hl) (CI_fns h hl rfl), hl⟩
  exact EN_le hl hi (h.2.2.2.2.1 i hi) (pw_at (hA.1 i hi) (hB.1 i hi)) (pw_at (hA.2.1 i hi) (hB.2.1 i hi)) (fun j a ha => pw_at (hA.2.2 i j a ha) (hB.2.2 i j a ha)) rfl
theorem sL_up {i j i' j' : Nat} {x : aL} : sL (uL s i j x) i' j' = if i' = i ∧ j' = j then x else sL s i' j' := by
  unfold sL uL
  simp only [va_up]
  by_cases h : i' = i
  · subst h
    by_cases h1 : j' = j
    · subst h1; simp [va_up]
    · simp [h1, va_up]
  · simp [h]
theorem uL_o {i j i' : Nat} {x : aL} : ((uL s i j x).1 i').2 = (s.1 i').2 := by
  unfold uL
  simp only [va_up]
  by_cases h : i' = i
  · subst h; simp
  · simp [h]
theorem uL_ne {i j i' : Nat} {x : aL} (h : i' ≠ i) : (uL s i j x).1 i' = s.1 i' := by
  unfold uL
  simp only [va_up]
  simp [h]
/-- a value is laid into a slot -/
theorem CI_slot {i j a : Nat} {hh : Nat → Option Nat} {x : aV} (h : CI dA c P mk w G s) (hi : i ≤ sN s) (hj : j < 10) (hr : w (gh G i) = some (.inl (dA 4, 10, .inr (.inr (.inr (.inr hh)))))) (hx : rv dA c P mk w G s (.ref a) x) :
    CI dA c P mk (va_up w (gh G i) (some (.inl (dA 4, 10, .inr (.inr (.inr (.inr (va_up hh j (some a))))))))) G (uL s i j (some (.inl x))) ∧ LEx c w G s (va_up w (gh G i) (some (.inl (dA 4, 10, .inr (.inr (.inr (.inr (va_up hh j (some a))))))))) G (uL s i j (some (.inl x))) := by
  have hl : LEx c w G s (va_up w (gh G i) (some (.inl (dA 4, 10, .inr (.inr (.inr (.inr (va_up hh j (some a))))))))) G (uL s i j (some (.inl x))) := ⟨kp_row hr, gx_refl⟩
  obtain ⟨a0, b0, q1, q2⟩ := id h.1
  refine ⟨CI_mk h hl ⟨a0, b0, (va_up_ne _ _ (z_ne q1 hr (by intro q; cases q))).trans q1, rEnd_le hl q2⟩ ?_ (fun i' hi' => ?_) h.2.2.2.2.2.1 h.2.2.2.2.2.2.1 h.2.2.2.2.2.2.2.1 (CI_arg h hl) (CI_fns h hl rfl), hl⟩
  · obtain ⟨n, b1, a1, x, F, p1, p2⟩ := h.2.2.2.1
    exact ⟨n, b1, a1, x, F, (va_up_ne _ _ (z_ne p1 hr (by intro q; cases q))).trans p1, (va_up_ne _ _ (z_ne p2 hr (by intro q; have q1 := (Prod.mk.inj (Prod.mk.inj (Sum.inl.inj q)).2).1; omega))).trans p2⟩
  · have hE := h.2.2.2.2.1 i' hi'
    obtain ⟨ou, ca, hh1, p1, p2, p3, p4⟩ := id hE
    have hna : ∀ (j' a' : Nat), ga G i' j' = some a' → va_up w (gh G i) (some (.inl (dA 4, 10, .inr (.inr (.inr (.inr (va_up hh j (some a)))))))) a' = w a' := by
      intro j' a' ha
      obtain ⟨fs, r1, r2⟩ := h.2.2.2.2.2.2.2.2.1 i' j' a' ha
      exact va_up_ne _ _ (z_ne r1 hr (by intro q; cases q))
    by_cases hii : i' = i
    · subst hii
      rw [hr] at p2
      cases p2
      refine EN_sl hl hi' hE p1 ?_ (va_up_self _ _ _) (by unfold sC; rw [uL_o]) (fun j' hj' => ?_)
      · rw [va_up_ne _ _ (z_ne p1 hr (by intro q; cases q)), p1]
        unfold sG sO
        rw [uL_o]
      · rw [sL_up]
        by_cases hjj : j' = j
        · subst hjj
          rw [if_pos ⟨rfl, rfl⟩, va_up_self]
          exact ⟨a, rfl, rv_le hl hx⟩
        · rw [if_neg (fun q => hjj q.2), va_up_ne _ _ hjj]
          exact rs_le hl (p4 j' hj') (fun a' y _ ha => hna j' a' ha)
    · refine EN_le hl hi' hE (va_up_ne _ _ (z_ne p1 hr (by intro q; cases q))) (va_up_ne _ _ (fun q => hii (h.2.2.2.2.2.1.2.1 _ _ hi' hi q))) hna (uL_ne hii)
/-- an argument changes -/
theorem CI_argu {i j a : Nat} {fs fs' : List Value} {y : aL} (h : CI dA c P mk w G s) (hi : i ≤ sN s) (ha : ga G i j = some a) (hw : w a = some (.inr (C_Arg, fs))) (hl4 : fs'.length = fs.length)
    (hy : sL s i j = y ∧ (∀ x : aA, y ≠ some (.inr x)) ∨ (∃ x0 : aA, sL s i j = some (.inr x0)) ∧ ∃ (x : aA) (kv : Value), y = some (.inr x) ∧ fs' = [.int (nI x.1), .ref (ge G x.2.1), kv, .int (if x.2.2.1 then 1 else 0)] ∧ rvO dA c P mk w G s kv x.2.2.2 ∧ x.2.1 ≤ sN s ∧ x.1 < mk) :
    CI dA c P mk (va_up w a (some (.inr (C_Arg, fs')))) G (uL s i j y) ∧ LEx c w G s (va_up w a (some (.inr (C_Arg, fs')))) G (uL s i j y) := by
  have hl : LEx c w G s (va_up w a (some (.inr (C_Arg, fs')))) G (uL s i j y) := ⟨kp_obj hw (Or.inr (Or.inr (Or.inr rfl))) hl4, gx_refl⟩
  obtain ⟨a0, b0, q1, q2⟩ := id h.1
  refine ⟨CI_mk h hl ⟨a0, b0, (va_up_ne _ _ (z_ne q1 hw (by intro q; cases q))).trans q1, rEnd_le hl q2⟩ ?_ (fun i' hi' => ?_) h.2.2.2.2.2.1 h.2.2.2.2.2.2.1 h.2.2.2.2.2.2.2.1 (CI_arg h hl) (CI_fns h hl rfl), hl⟩
  · obtain ⟨n, b1, a1, x, F, p1, p2⟩ := h.2.2.2.1
    exact ⟨n, b1, a1, x, F, (va_up_ne _ _ (z_ne p1 hw (by intro q; cases q))).trans p1, (va_up_ne _ _ (z_ne p2 hw (by intro q; cases q))).trans p2⟩
  · have hE := h.2.2.2.2.1 i' hi'
    obtain ⟨ou, ca, hh1, p1, p2, p3, p4⟩ := id hE
    refine EN_sl hl hi' hE p1 ?_ ((va_up_ne _ _ (z_ne p2 hw (by intro q; cases q))).trans p2) (by unfold sC; rw [uL_o]) (fun j' hj' => ?_)
    · rw [va_up_ne _ _ (z_ne p1 hw (by intro q; cases q)), p1]
      unfold sG sO
      rw [uL_o]
    · rw [sL_up]
      have p5 := p4 j' hj'
      by_cases hij : i' = i ∧ j' = j
      · obtain ⟨rfl, rfl⟩ := hij
        rw [if_pos ⟨rfl, rfl⟩]
        rcases hy with ⟨r1, r2⟩ | ⟨⟨x0, r1⟩, x, kv, rfl, rfl, r4, r5, r6⟩
        · rw [← r1]
          refine rs_le hl p5 (fun a' y' hy' _ => ?_)
          rw [r1] at hy'
          exact absurd hy' (r2 y')
        · rw [r1] at p5
          obtain ⟨a2, kv2, t1, t2, t3, t4, t5, t6⟩ := p5
          rw [ha] at t2
          cases t2
          exact ⟨a, kv, t1, ha, va_up_self _ _ _, rvO_le hl r4, r5, r6⟩
      · rw [if_neg hij]
        refine rs_le hl p5 (fun a' y' _ ha' => va_up_ne _ _ (fun q => hij ?_))
        subst q
        exact h.2.2.2.2.2.1.2.2.2.1 _ _ _ _ _ ha' ha
/-- a call is over -/
theorem CI_over {i : Nat} {b : Bool} {f0 f1 f2 f3 f4 : Value} (h : CI dA c P mk w G s) (hi : i ≤ sN s) (hw : w (ge G i) = some (.inr (C_Env, [f0, f1, f2, f3, f4]))) :
    CI dA c P mk (va_up w (ge G i) (some (.inr (C_Env, [f0, f1, f2, f3, .int (if b then 1 else 0)])))) G (uO s i b) ∧ LEx c w G s (va_up w (ge G i) (some (.inr (C_Env, [f0, f1, f2, f3, .int (if b then 1 else 0)])))) G (uO s i b) := by
  have hl : LEx c w G s (va_up w (ge G i) (some (.inr (C_Env, [f0, f1, f2, f3, .int (if b then 1 else 0)])))) G (uO s i b) := ⟨kp_obj hw (Or.inr (Or.inl rfl)) rfl, gx_refl⟩
  obtain ⟨a0, b0, q1, q2⟩ := id h.1
  refine ⟨CI_mk h hl ⟨a0, b0, (va_up_ne _ _ (z_ne q1 hw (by intro q; cases q))).trans q1, rEnd_le hl q2⟩ ?_ (fun i' hi' => ?_) h.2.2.2.2.2.1 h.2.2.2.2.2.2.1 h.2.2.2.2.2.2.2.1 (CI_arg h hl) (CI_fns h hl rfl), hl⟩
  · obtain ⟨n, b1, a1, x, F, p1, p2⟩ := h.2.2.2.1
    exact ⟨n, b1, a1, x, F, (va_up_ne _ _ (z_ne p1 hw (by intro q; cases q))).trans p1, (va_up_ne _ _ (z_ne p2 hw (by intro q; cases q))).trans p2⟩
  · have hE := h.2.2.2.2.1 i' hi'
    obtain ⟨ou, ca, hh1, p1, p2, p3, p4⟩ := id hE
    have hna : ∀ (j' a' : Nat), ga G i' j' = some a' → va_up w (ge G i) (some (.inr (C_Env, [f0, f1, f2, f3, .int (if b then 1 else 0)]))) a' = w a' := by
      intro j' a' ha
      obtain ⟨fs, r1, r2⟩ := h.2.2.2.2.2.2.2.2.1 i' j' a' ha
      exact va_up_ne _ _ (z_ne r1 hw (by intro q; cases q))
    by_cases hii : i' = i
    · subst hii
      rw [hw] at p1
      cases p1
      have e1 : (uO s i' b).1 i' = ((s.1 i').1, (s.1 i').2.1, (s.1 i').2.2.1, b) := by
        unfold uO
        exact va_up_self _ _ _
      refine EN_sl hl hi' hE hw ?_ ((va_up_ne _ _ (z_ne p2 hw (by intro q; cases q))).trans p2) (by unfold sC; rw [e1]) (fun j' hj' => ?_)
      · rw [va_up_self]
        unfold sG sO
        rw [e1]
      · have e2 : sL (uO s i' b) i' j' = sL s i' j' := by unfold sL; rw [e1]
        rw [e2]
        exact rs_le hl (p4 j' hj') (fun a' y _ ha => hna j' a' ha)
    · refine EN_le hl hi' hE (va_up_ne _ _ (fun q => hii (h.2.2.2.2.2.1.1 _ _ hi' hi q))) (va_up_ne _ _ (z_ne p2 hw (by intro q; cases q))) hna ?_
      unfold uO
      exact va_up_ne _ _ hii
/-- a new function -/
theorem CI_fun {e i q : Nat} (h : CI dA c P mk w G s) (hi : i ≤ sN s) (he : e < mk) (hk : kd P e = 19) (hq : w q = none) :
    ∃ G' : gG, CI dA c P mk (va_up w q (some (.inr (C_Function, [.int (pa P e), .int (pb P e), .int (pc P e), .ref (ge G i)])))) G' (uF s (sF s + 1)) ∧ LEx c w G s (va_up w q (some (.inr (C_Function, [.int (pa P e), .int (pb P e), .int (pc P e), .ref (ge G i)])))) G' (uF s (sF s + 1)) ∧ rv dA c P mk (va_up w q (some (.inr (C_Function, [.int (pa P e), .int (pb P e), .int (pc P e), .ref (ge G i)])))) G' (uF s (sF s + 1)) (.ref q) (.inr (e, i, sF s)) := by
  have hne : ∀ n : Nat, n < sF s → gf G n ≠ q := fun n hn q1 => by
    obtain ⟨fs, q2⟩ := h.2.2.2.2.2.2.2.2.2 n hn
    rw [q1, hq] at q2
    cases q2
  have hl : LEx c w G s (va_up w q (some (.inr (C_Function, [.int (pa P e), .int (pb P e), .int (pc P e), .ref (ge G i)])))) (G.1, G.2.1, va_up G.2.2.1 (sF s) q, G.2.2.2) (uF s (sF s + 1)) :=
    ⟨kp_new hq, fun _ _ => ⟨rfl, rfl⟩, fun n hn => va_up_ne _ _ (by omega), fun _ _ _ q => q, Nat.le_refl _, Nat.le_succ _⟩
  have hup : ∀ (x : Nat) (y : va_E), w x = some y → va_up w q (some (.inr (C_Function, [.int (pa P e), .int (pb P e), .int (pc P e), .ref (ge G i)]))) x = some y := fun x y hx => zup_at hq hx
  have hgf : gf (G.1, G.2.1, va_up G.2.2.1 (sF s) q, G.2.2.2) (sF s) = q := va_up_self _ _ _
  refine ⟨(G.1, G.2.1, va_up G.2.2.1 (sF s) q, G.2.2.2), CI_mk h hl ?_ ?_ (fun i' hi' => ?_) ⟨h.2.2.2.2.2.1.1, h.2.2.2.2.2.1.2.1, fun a b ha hb hab => ?_, h.2.2.2.2.2.1.2.2.2⟩ h.2.2.2.2.2.2.1 h.2.2.2.2.2.2.2.1 (fun i j a ha => ?_) (fun n hn => ?_), hl, ?_⟩
  · obtain ⟨a, b, q1, q2⟩ := h.1
    exact ⟨a, b, hup _ _ q1, rEnd_le hl q2⟩
  · obtain ⟨n, b, a, x, F, q1, q2⟩ := h.2.2.2.1
    exact ⟨n, b, a, x, F, hup _ _ q1, hup _ _ q2⟩
  · have hE := h.2.2.2.2.1 i' hi'
    obtain ⟨ou, ca, hh, q1, q2, q3, q4⟩ := id hE
    refine EN_le hl hi' hE (by rw [q1]; exact hup _ _ q1) (by rw [q2]; exact hup _ _ q2) (fun j a ha => ?_) rfl
    obtain ⟨fs, q5, q6⟩ := h.2.2.2.2.2.2.2.2.1 i' j a ha
    rw [q5]; exact hup _ _ q5
  · have ha' : a < sF s + 1 := ha
    have hb' : b < sF s + 1 := hb
    have e1 : ∀ n : Nat, n < sF s → gf (G.1, G.2.1, va_up G.2.2.1 (sF s) q, G.2.2.2) n = gf G n := fun n hn => va_up_ne _ _ (by omega)
    by_cases h1 : a = sF s
    · by_cases h2 : b = sF s
      · omega
      · rw [h1, hgf, e1 b (by omega)] at hab
        exact absurd hab.symm (hne b (by omega))
    · by_cases h2 : b = sF s
      · rw [h2, hgf, e1 a (by omega)] at hab
        exact absurd hab (hne a (by omega))
      · rw [e1 a (by omega), e1 b (by omega)] at hab
        exact h.2.2.2.2.2.1.2.2.1 a b (by omega) (by omega) hab
  · obtain ⟨fs, q1, q2⟩ := h.2.2.2.2.2.2.2.2.1 i j a ha
    exact ⟨fs, hup _ _ q1, q2⟩
  · by_cases h1 : n = sF s
    · rw [h1, hgf]
      exact ⟨_, va_up_self _ _ _⟩
    · have hn' : n < sF s + 1 := hn
      obtain ⟨fs, q1⟩ := h.2.2.2.2.2.2.2.2.2 n (by omega)
      refine ⟨fs, ?_⟩
      rw [show gf (G.1, G.2.1, va_up G.2.2.1 (sF s) q, G.2.2.2) n = gf G n from va_up_ne _ _ h1]
      exact hup _ _ q1
  · refine ⟨by rw [hgf], ?_, hi, Nat.lt_succ_self _, he, hk⟩
    rw [hgf, va_up_self]
    rfl
/-- a new environment -/
theorem CI_env {e i qe qh : Nat} {fn : Nat × Nat × Nat} {A h' : Nat → Option Nat} {ca a b : Value} (h : CI dA c P mk w G s) (hN : sN s < 90) (hfn : fn.2.1 ≤ sN s) (hE : w (c 0) = some (.inr (C_Evaluator, evF c G s a b))) (hqe : w qe = none) (hqh : w qh = none)
    (hw : ∀ (x : Nat) (y : va_E), w x = some y → x ≠ c 0 → w' x = some y) (hw0 : w' (c 0) = some (.inr (C_Evaluator, evF c G (uN s (sN s + 1)) a b))) (hA0 : ∀ j x : Nat, A j = some x → w x = none) (hA1 : ∀ j x : Nat, A j = some x → ∃ fs : List Value, w' x = some (.inr (C_Arg, fs)) ∧ fs.length = 4) (hA2 : ∀ j j' x : Nat, A j = some x → A j' = some x → j = j')
    (he1 : w' qe = some (.inr (C_Env, [.ref qh, .ref (ge G fn.2.1), ca, .int (nI (e_giv P e)), .int 0]))) (he2 : w' qh = some (.inl (dA 4, 10, .inr (.inr (.inr (.inr h')))))) (hca : rv dA c P mk w G s ca (.inr fn))
    (hs : ∀ j : Nat, j < 10 → rs dA c P mk w' (va_up G.1 (sN s + 1) qe, va_up G.2.1 (sN s + 1) qh, G.2.2.1, va_up G.2.2.2 (sN s + 1) A) (e_new P s e i fn) (sN s + 1) j (h' j) (e_sl P e i (tN (pc P fn.1)) (e_giv P e) j)) :
    CI dA c P mk w' (va_up G.1 (sN s + 1) qe, va_up G.2.1 (sN s + 1) qh, G.2.2.1, va_up G.2.2.2 (sN s + 1) A) (e_new P s e i fn) ∧ LEx c w G s w' (va_up G.1 (sN s + 1) qe, va_up G.2.1 (sN s + 1) qh, G.2.2.1, va_up G.2.2.2 (sN s + 1) A) (e_new P s e i fn) := by
  have hk : kp c w w' := by
    refine ⟨fun x y hx hm => hw x y hx (fun q => ?_), fun x ci fs hx => ?_⟩
    · subst q; rw [hE] at hx; cases hx; exact hm (Or.inl rfl)
    · by_cases hx0 : x = c 0
      · subst hx0; rw [hE] at hx; cases hx; exact ⟨_, hw0, rfl⟩
      · exact ⟨fs, hw _ _ hx hx0, rfl⟩
  have hga : ∀ i j x : Nat, ga G i j = some x → i ≤ sN s := h.2.2.2.2.2.1.2.2.2.2
  have hl : LEx c w G s w' (va_up G.1 (sN s + 1) qe, va_up G.2.1 (sN s + 1) qh, G.2.2.1, va_up G.2.2.2 (sN s + 1) A) (e_new P s e i fn) := by
    refine ⟨hk, fun i hi => ⟨va_up_ne _ _ (by omega), va_up_ne _ _ (by omega)⟩, fun _ _ => rfl, fun i j a ha => ?_, Nat.le_succ _, Nat.le_refl _⟩
    have := hga i j a ha
    show va_up G.2.2.2 (sN s + 1) A i j = some a
    rw [va_up_ne _ _ (by omega)]
    exact ha
  obtain ⟨a0, b0, q1, q2⟩ := id h.1
  rw [hE] at q1
  have hab : a = a0 ∧ b = b0 := by
    cases q1
    exact ⟨rfl, rfl⟩
  obtain ⟨rfl, rfl⟩ := hab
  have hge : ∀ i' : Nat, i' ≤ sN s → ge G i' ≠ qe := fun i' hi' q => by
    obtain ⟨ou, ca, hh, r1, r2, r3, r4⟩ := h.2.2.2.2.1 i' hi'
    rw [q, hqe] at r1; cases r1
  have hgh : ∀ i' : Nat, i' ≤ sN s → gh G i' ≠ qh := fun i' hi' q => by
    obtain ⟨ou, ca, hh, r1, r2, r3, r4⟩ := h.2.2.2.2.1 i' hi'
    rw [q, hqh] at r2; cases r2
  refine ⟨CI_mk h hl ⟨a, b, hw0.trans ?_, rEnd_le hl q2⟩ ?_ (fun i' hi' => ?_) ⟨fun x y hx hy hxy => ?_, fun x y hx hy hxy => ?_, h.2.2.2.2.2.1.2.2.1, fun i1 j1 i2 j2 x h1 h2 => ?_, fun i1 j1 x h1 => ?_⟩ (by show sN s + 1 ≤ 90; omega) h.2.2.2.2.2.2.2.1 (fun i1 j1 x h1 => ?_) (fun n hn => ?_), hl⟩
  · have e0 : ge (va_up G.1 (sN s + 1) qe, va_up G.2.1 (sN s + 1) qh, G.2.2.1, va_up G.2.2.2 (sN s + 1) A) 0 = ge G 0 := (hl.2.1 0 (Nat.zero_le _)).1
    unfold evF
    rw [e0]
    rfl
  · obtain ⟨n, b1, a1, x, F, p1, p2⟩ := h.2.2.2.1
    exact ⟨n, b1, a1, x, F, hw _ _ p1 (z_ne p1 hE (by intro q; cases q)), hw _ _ p2 (z_ne p2 hE (by intro q; cases q))⟩
  · by_cases h1 : i' = sN s + 1
    · subst h1
      have e1 : (e_new P s e i fn).1 (sN s + 1) = (e_sl P e i (tN (pc P fn.1)) (e_giv P e), some fn, e_giv P e, false) := va_up_self _ _ _
      refine ⟨.ref (ge G fn.2.1), ca, h', ?_, ?_, ?_, fun j hj => ?_⟩
      · rw [show ge (va_up G.1 (sN s + 1) qe, va_up G.2.1 (sN s + 1) qh, G.2.2.1, va_up G.2.2.2 (sN s + 1) A) (sN s + 1) = qe from va_up_self _ _ _, show gh (va_up G.1 (sN s + 1) qe, va_up G.2.1 (sN s + 1) qh, G.2.2.1, va_up G.2.2.2 (sN s + 1) A) (sN s + 1) = qh from va_up_self _ _ _, he1]
        unfold sG sO
        rw [e1]
        rfl
      · rw [show gh (va_up G.1 (sN s + 1) qe, va_up G.2.1 (sN s + 1) qh, G.2.2.1, va_up G.2.2.2 (sN s + 1) A) (sN s + 1) = qh from va_up_self _ _ _, he2]
      · have e2 : sC (e_new P s e i fn) (sN s + 1) = some fn := by unfold sC; rw [e1]
        rw [e2]
        exact ⟨by omega, by rw [(hl.2.1 _ hfn).1], rv_le hl hca⟩
      · have e2 : sL (e_new P s e i fn) (sN s + 1) j = e_sl P e i (tN (pc P fn.1)) (e_giv P e) j := by unfold sL; rw [e1]
        rw [e2]
        exact hs j hj
    · have hi2 : i' ≤ sN s := by
        have : i' ≤ sN s + 1 := hi'
        omega
      have hE' := h.2.2.2.2.1 i' hi2
      obtain ⟨ou1, ca1, hh, r1, r2, r3, r4⟩ := id hE'
      refine EN_le hl hi2 hE' (by rw [r1]; exact hw _ _ r1 (z_ne r1 hE (by intro q; cases q))) (by rw [r2]; exact hw _ _ r2 (z_ne r2 hE (by intro q; cases q))) (fun j x hx => ?_) (va_up_ne _ _ h1)
      obtain ⟨fs, r5, r6⟩ := h.2.2.2.2.2.2.2.2.1 i' j x hx
      rw [r5]; exact hw _ _ r5 (z_ne r5 hE (by intro q; cases q))
  · have hx' : x ≤ sN s + 1 := hx
    have hy' : y ≤ sN s + 1 := hy
    replace hxy : va_up G.1 (sN s + 1) qe x = va_up G.1 (sN s + 1) qe y := hxy
    by_cases h1 : x = sN s + 1
    · by_cases h2 : y = sN s + 1
      · omega
      · rw [h1, va_up_self, va_up_ne _ _ h2] at hxy
        exact absurd hxy.symm (hge y (by omega))
    · by_cases h2 : y = sN s + 1
      · rw [h2, va_up_self, va_up_ne _ _ h1] at hxy
        exact absurd hxy (hge x (by omega))
      · rw [va_up_ne _ _ h2, va_up_ne _ _ h1] at hxy
        exact h.2.2.2.2.2.1.1 x y (by omega) (by omega) hxy
  · have hx' : x ≤ sN s + 1 := hx
    have hy' : y ≤ sN s + 1 := hy
    replace hxy : va_up G.2.1 (sN s + 1) qh x = va_up G.2.1 (sN s + 1) qh y := hxy
    by_cases h1 : x = sN s + 1
    · by_cases h2 : y = sN s + 1
      · omega
      · rw [h1, va_up_self, va_up_ne _ _ h2] at hxy
        exact absurd hxy.symm (hgh y (by omega))
    · by_cases h2 : y = sN s + 1
      · rw [h2, va_up_self, va_up_ne _ _ h1] at hxy
        exact absurd hxy (hgh x (by omega))
      · rw [va_up_ne _ _ h2, va_up_ne _ _ h1] at hxy
        exact h.2.2.2.2.2.1.2.1 x y (by omega) (by omega) hxy
  · replace h1 : va_up G.2.2.2 (sN s + 1) A i1 j1 = some x := h1
    replace h2 : va_up G.2.2.2 (sN s + 1) A i2 j2 = some x := h2
    have hocc : ∀ i j : Nat, ga G i j = some x → w x ≠ none := fun i j hx q => by
      obtain ⟨fs, r5, r6⟩ := h.2.2.2.2.2.2.2.2.1 i j x hx
      rw [r5] at q; cases q
    by_cases h3 : i1 = sN s + 1
    · rw [h3, va_up_self] at h1
      by_cases h4 : i2 = sN s + 1
      · rw [h4, va_up_self] at h2
        exact ⟨by omega, hA2 _ _ _ h1 h2⟩
      · rw [va_up_ne _ _ h4] at h2
        exact absurd (hA0 _ _ h1) (hocc _ _ h2)
    · rw [va_up_ne _ _ h3] at h1
      by_cases h4 : i2 = sN s + 1
      · rw [h4, va_up_self] at h2
        exact absurd (hA0 _ _ h2) (hocc _ _ h1)
      · rw [va_up_ne _ _ h4] at h2
        exact h.2.2.2.2.2.1.2.2.2.1 _ _ _ _ _ h1 h2
  · replace h1 : va_up G.2.2.2 (sN s + 1) A i1 j1 = some x := h1
    show i1 ≤ sN s + 1
    by_cases h3 : i1 = sN s + 1
    · omega
    · rw [va_up_ne _ _ h3] at h1
      have := hga _ _ _ h1
      omega
  · replace h1 : va_up G.2.2.2 (sN s + 1) A i1 j1 = some x := h1
    by_cases h3 : i1 = sN s + 1
    · rw [h3, va_up_self] at h1
      exact hA1 _ _ h1
    · rw [va_up_ne _ _ h3] at h1
      obtain ⟨fs, r5, r6⟩ := h.2.2.2.2.2.2.2.2.1 i1 j1 x h1
      exact ⟨fs, hw _ _ r5 (z_ne r5 hE (by intro q; cases q)), r6⟩
  · obtain ⟨fs, r5⟩ := h.2.2.2.2.2.2.2.2.2 n hn
    exact ⟨fs, hw _ _ r5 (z_ne r5 hE (by intro q; cases q))⟩
end CK2
