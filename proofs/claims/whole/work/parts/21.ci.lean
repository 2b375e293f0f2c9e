/-! how the class's objects stand for the pure state -/
/-- an element: NA or a number in range -/
abbrev okI (x : Int32) : Prop := x = pNA ∨ (-1000000000 ≤ x ∧ x ≤ 1000000000)
def okX (xs : List Int32) : Prop := xs.length ≤ 16 ∧ ∀ j : Nat, j < xs.length → okI (p_at xs j)
/-- where things lie: environments, their rows, functions, arguments -/
abbrev gG : Type := (Nat → Nat) × (Nat → Nat) × (Nat → Nat) × (Nat → Nat → Option Nat)
def ge (G : gG) : Nat → Nat := G.1
def gh (G : gG) : Nat → Nat := G.2.1
def gf (G : gG) : Nat → Nat := G.2.2.1
def ga (G : gG) : Nat → Nat → Option Nat := G.2.2.2
/-- what may change in a run -/
def mtb (c : Nat → Nat) (a : Nat) : va_E → Prop
  | .inr x => x.1 = 2 ∨ x.1 = 3 ∨ x.1 = 4 ∨ x.1 = 8
  | .inl x => (a = c 4 ∧ ∃ f : Nat → Int32, x.2 = (16, .inl f)) ∨ (x.2.1 = 10 ∧ ∃ f : Nat → Option Nat, x.2.2 = .inr (.inr (.inr (.inr f))))
/-- no row of the places, nor another that is kept apart (c 9) -/
def nb (c : Nat → Nat) (q : Nat) : Prop := q ≠ c 4 ∧ q ≠ c 9
section CI
variable (dA : Nat → ClassId) (c : Nat → Nat) (P : aP) (mk : Nat)
abbrev hrow (h : Nat → Option Nat) : va_E := .inl (dA 4, 10, .inr (.inr (.inr (.inr h))))
abbrev irow (m : Nat) (f : Nat → Int32) : va_E := .inl (dA 0, m, .inl f)
/-- the value v stands for x -/
def rv (w : ww_W) (G : gG) (s : aS) (v : Value) : aV → Prop
  | .inl xs => ∃ (a q : Nat) (f : Nat → Int32), v = .ref a ∧ w a = some (.inr (C_Vector, [.ref q])) ∧ w q = some (.inl (dA 0, xs.length, .inl f)) ∧ p_row f xs ∧ nb c q ∧ okX xs
  | .inr fn => v = .ref (gf G fn.2.2) ∧ w (gf G fn.2.2) = some (.inr (C_Function, [.int (pa P fn.1), .int (pb P fn.1), .int (pc P fn.1), .ref (ge G fn.2.1)])) ∧ fn.2.1 ≤ sN s ∧ fn.2.2 < sF s ∧ fn.1 < mk ∧ kd P fn.1 = 19
def rvO (w : ww_W) (G : gG) (s : aS) (v : Value) : Option aV → Prop
  | none => v = .null
  | some x => rv dA c P mk w G s v x
/-- what lies in a row of an environment stands for the slot -/
def rs (w : ww_W) (G : gG) (s : aS) (i j : Nat) (e : Option Nat) : aL → Prop
  | none => e = none
  | some (.inl x) => ∃ a : Nat, e = some a ∧ rv dA c P mk w G s (.ref a) x
  | some (.inr x) => ∃ (a : Nat) (kv : Value), e = some a ∧ ga G i j = some a ∧ w a = some (.inr (C_Arg, [.int (nI x.1), .ref (ge G x.2.1), kv, .int (if x.2.2.1 then 1 else 0)])) ∧ rvO dA c P mk w G s kv x.2.2.2 ∧ x.2.1 ≤ sN s ∧ x.1 < mk
/-- the environment i -/
def EN (w : ww_W) (G : gG) (s : aS) (i : Nat) : Prop := ∃ (ou ca : Value) (h : Nat → Option Nat),
  w (ge G i) = some (.inr (C_Env, [.ref (gh G i), ou, ca, .int (nI (sG s i)), .int (if sO s i then 1 else 0)])) ∧ w (gh G i) = some (.inl (dA 4, 10, .inr (.inr (.inr (.inr h)))))
  ∧ (match sC s i with
    | none => ou = .null ∧ ca = .null
    | some fn => fn.2.1 < i ∧ ou = .ref (ge G fn.2.1) ∧ rv dA c P mk w G s ca (.inr fn))
  ∧ ∀ j : Nat, j < 10 → rs dA c P mk w G s i j (h j) (sL s i j)
/-- the program -/
def PI (w : ww_W) (G : gG) (s : aS) : Prop := ∃ h : Nat → Option Nat, w (c 1) = some (.inr (C_Program, [.ref (c 2), .int (nI mk)])) ∧ w (c 2) = some (.inl (dA 3, 120, .inr (.inr (.inr (.inr h))))) ∧ mk ≤ 120
  ∧ ∀ e : Nat, e < mk → okE e (kd P e) (pa P e) (pb P e) (pc P e) ∧ ∃ (x : Nat) (num : Value), h e = some x ∧ w x = some (.inr (C_Expr, [.int (kd P e), .int (pa P e), .int (pb P e), .int (pc P e), num])) ∧ (kd P e = 0 → rv dA c P mk w G s num (.inl [pa P e]))
def rEnd (w : ww_W) (G : gG) (s : aS) (a b : Value) : Option (Nat × aV) → Prop
  | none => a = .null ∧ b = .null
  | some x => a = .ref (ge G x.1) ∧ x.1 ≤ sN s ∧ rv dA c P mk w G s b x.2
abbrev evF (G : gG) (s : aS) (a b : Value) : List Value := [.ref (c 1), .ref (ge G 0), .int (nI (sN s)), .int (nI (sT s)), .int (nI (sA s)), .int (sX s), a, b, .ref (c 3), .ref (c 5), .ref (c 6), .ref (c 7), .ref (c 8)]
def EV (w : ww_W) (G : gG) (s : aS) : Prop := ∃ a b : Value, w (c 0) = some (.inr (C_Evaluator, evF c G s a b)) ∧ rEnd dA c P mk w G s a b (sR s)
def PL (w : ww_W) : Prop := ∃ (n b a x : Int32) (F : Nat → Int32), w (c 3) = some (.inr (C_Places, [.ref (c 4), .int n, .int b, .int a, .int x])) ∧ w (c 4) = some (.inl (dA 0, 16, .inl F))
def CK (w : ww_W) (G : gG) (s : aS) : Prop := rv dA c P mk w G s (.ref (c 5)) (.inl []) ∧ rv dA c P mk w G s (.ref (c 6)) (.inl [pNA]) ∧ rv dA c P mk w G s (.ref (c 7)) (.inl [0]) ∧ rv dA c P mk w G s (.ref (c 8)) (.inl [1]) ∧ ∃ e : va_E, w (c 9) = some e ∧ ¬ mtb c (c 9) e
/-- things of one sort lie apart -/
def DI (G : gG) (s : aS) : Prop := (∀ i i' : Nat, i ≤ sN s → i' ≤ sN s → ge G i = ge G i' → i = i') ∧ (∀ i i' : Nat, i ≤ sN s → i' ≤ sN s → gh G i = gh G i' → i = i') ∧ (∀ i i' : Nat, i < sF s → i' < sF s → gf G i = gf G i' → i = i') ∧ (∀ (i j i' j' a : Nat), ga G i j = some a → ga G i' j' = some a → i = i' ∧ j = j') ∧ (∀ i j a : Nat, ga G i j = some a → i ≤ sN s)
def CI (w : ww_W) (G : gG) (s : aS) : Prop := EV dA c P mk w G s ∧ PI dA c P mk w G s ∧ CK dA c P mk w G s ∧ PL dA c w ∧ (∀ i : Nat, i ≤ sN s → EN dA c P mk w G s i) ∧ DI G s ∧ sN s ≤ 90 ∧ (sT s ≤ 400 ∧ okI (sX s)) ∧ (∀ i j a : Nat, ga G i j = some a → ∃ fs : List Value, w a = some (.inr (C_Arg, fs)) ∧ fs.length = 4) ∧ ∀ n : Nat, n < sF s → ∃ fs : List Value, w (gf G n) = some (.inr (C_Function, fs))
def kp (w w' : ww_W) : Prop := (∀ (a : Nat) (e : va_E), w a = some e → ¬ mtb c a e → w' a = some e) ∧ ∀ (a ci : Nat) (fs : List Value), w a = some (.inr (ci, fs)) → ∃ fs' : List Value, w' a = some (.inr (ci, fs')) ∧ fs'.length = fs.length
def gx (G : gG) (s : aS) (G' : gG) (s' : aS) : Prop := (∀ i : Nat, i ≤ sN s → ge G' i = ge G i ∧ gh G' i = gh G i) ∧ (∀ i : Nat, i < sF s → gf G' i = gf G i) ∧ (∀ i j a : Nat, ga G i j = some a → ga G' i j = some a) ∧ sN s ≤ sN s' ∧ sF s ≤ sF s'
def LEx (w : ww_W) (G : gG) (s : aS) (w' : ww_W) (G' : gG) (s' : aS) : Prop := kp c w w' ∧ gx G s G' s'
end CI
theorem nb_new {w : ww_W} {c : Nat → Nat} {q : Nat} {x : va_E} (h4 : w (c 4) = some x) (h9 : ∃ e : va_E, w (c 9) = some e ∧ ¬ mtb c (c 9) e) (hq : w q = none) : nb c q := ⟨fun e => (by rw [e, h4] at hq; cases hq), fun e => (by obtain ⟨y, h9, _⟩ := h9; rw [e, h9] at hq; cases hq)⟩
section CJ
variable {dA : Nat → ClassId} {c : Nat → Nat} {P : aP} {mk : Nat} {w w' w'' : ww_W} {G G' G'' : gG} {s s' s'' : aS}
theorem kp_refl : kp c w w := ⟨fun _ _ h _ => h, fun _ _ fs h => ⟨fs, h, rfl⟩⟩
theorem kp_trans (h1 : kp c w w') (h2 : kp c w' w'') : kp c w w'' := ⟨fun a e h hm => h2.1 a e (h1.1 a e h hm) hm, fun a ci fs h => by
  obtain ⟨fs1, q1, q2⟩ := h1.2 a ci fs h
  obtain ⟨fs2, q3, q4⟩ := h2.2 a ci fs1 q1
  exact ⟨fs2, q3, q4.trans q2⟩⟩
theorem gx_refl : gx G s G s := ⟨fun _ _ => ⟨rfl, rfl⟩, fun _ _ => rfl, fun _ _ _ h => h, Nat.le_refl _, Nat.le_refl _⟩
theorem gx_of (h1 : sN s ≤ sN s') (h2 : sF s ≤ sF s') : gx G s G s' := ⟨fun _ _ => ⟨rfl, rfl⟩, fun _ _ => rfl, fun _ _ _ h => h, h1, h2⟩
theorem gx_trans (h1 : gx G s G' s') (h2 : gx G' s' G'' s'') : gx G s G'' s'' := ⟨fun i hi => ⟨((h2.1 i (Nat.le_trans hi h1.2.2.2.1)).1).trans (h1.1 i hi).1, ((h2.1 i (Nat.le_trans hi h1.2.2.2.1)).2).trans (h1.1 i hi).2⟩, fun i hi => (h2.2.1 i (Nat.lt_of_lt_of_le hi h1.2.2.2.2)).trans (h1.2.1 i hi), fun i j a h => h2.2.2.1 i j a (h1.2.2.1 i j a h), Nat.le_trans h1.2.2.2.1 h2.2.2.2.1, Nat.le_trans h1.2.2.2.2 h2.2.2.2.2⟩
theorem LE_refl : LEx c w G s w G s := ⟨kp_refl, gx_refl⟩
theorem LE_trans (h1 : LEx c w G s w' G' s') (h2 : LEx c w' G' s' w'' G'' s'') : LEx c w G s w'' G'' s'' := ⟨kp_trans h1.1 h2.1, gx_trans h1.2 h2.2⟩
/-- a new thing -/
theorem kp_new {q : Nat} {e : va_E} (h : w q = none) : kp c w (va_up w q (some e)) := ⟨fun a e' h1 _ => zup_at h h1, fun a ci fs h1 => ⟨fs, zup_at h h1, rfl⟩⟩
/-- a thing that may change has changed -/
theorem kp_obj {a ci : Nat} {fs fs' : List Value} (h : w a = some (.inr (ci, fs))) (hm : ci = 2 ∨ ci = 3 ∨ ci = 4 ∨ ci = 8) (hl : fs'.length = fs.length) : kp c w (va_up w a (some (.inr (ci, fs')))) := by
  refine ⟨fun b e h1 h2 => ?_, fun b ci' fs1 h1 => ?_⟩
  · have hne : b ≠ a := fun q => by subst q; rw [h] at h1; cases h1; exact h2 hm
    rw [va_up_ne _ _ hne]; exact h1
  · by_cases hb : b = a
    · subst hb; rw [h] at h1; cases h1; exact ⟨fs', va_up_self _ _ _, hl⟩
    · exact ⟨fs1, (va_up_ne _ _ hb).trans h1, rfl⟩
theorem kp_row {a : Nat} {cA cA' : ClassId} {h h' : Nat → Option Nat} (ha : w a = some (.inl (cA, 10, .inr (.inr (.inr (.inr h)))))) : kp c w (va_up w a (some (.inl (cA', 10, .inr (.inr (.inr (.inr h'))))))) := by
  refine ⟨fun b e h1 h2 => ?_, fun b ci' fs1 h1 => ?_⟩
  · have hne : b ≠ a := fun q => by subst q; rw [ha] at h1; cases h1; exact h2 (Or.inr ⟨rfl, h, rfl⟩)
    rw [va_up_ne _ _ hne]; exact h1
  · have hb : b ≠ a := fun q => by subst q; rw [ha] at h1; cases h1
    exact ⟨fs1, (va_up_ne _ _ hb).trans h1, rfl⟩
theorem kp_pr {e : va_E} {cA : ClassId} {f : Nat → Int32} (ha : w (c 4) = some (.inl (cA, 16, .inl f))) : kp c w (va_up w (c 4) (some e)) := by
  refine ⟨fun b e1 h1 h2 => ?_, fun b ci' fs1 h1 => ?_⟩
  · have hne : b ≠ c 4 := fun q => by
      subst q; rw [ha] at h1; cases h1; exact h2 (Or.inl ⟨rfl, f, rfl⟩)
    rw [va_up_ne _ _ hne]; exact h1
  · have hb : b ≠ c 4 := fun q => by subst q; rw [ha] at h1; cases h1
    exact ⟨fs1, (va_up_ne _ _ hb).trans h1, rfl⟩
theorem rv_le {v : Value} {x : aV} (h : LEx c w G s w' G' s') (hv : rv dA c P mk w G s v x) : rv dA c P mk w' G' s' v x := by
  cases x with
  | inl xs =>
    obtain ⟨a, q, f, h1, h2, h3, h4, h5, h6⟩ := hv
    exact ⟨a, q, f, h1, h.1.1 _ _ h2 (by intro q; rcases q with q | q | q | q <;> cases q), h.1.1 _ _ h3 (by
      intro q1
      rcases q1 with q1 | ⟨_, f', q1⟩
      · exact h5.1 q1.1
      · cases q1), h4, h5, h6⟩
  | inr fn =>
    obtain ⟨h1, h2, h3, h4, h5, h6⟩ := hv
    refine ⟨by rw [h.2.2.1 _ h4]; exact h1, ?_, Nat.le_trans h3 h.2.2.2.2.1, Nat.lt_of_lt_of_le h4 h.2.2.2.2.2, h5, h6⟩
    rw [h.2.2.1 _ h4, (h.2.1 _ h3).1]
    exact h.1.1 _ _ h2 (by intro q; rcases q with q | q | q | q <;> cases q)
theorem rvO_le {v : Value} {x : Option aV} (h : LEx c w G s w' G' s') (hv : rvO dA c P mk w G s v x) : rvO dA c P mk w' G' s' v x := by
  cases x with
  | none => exact hv
  | some x => exact rv_le h hv
theorem PI_le (h : LEx c w G s w' G' s') (hp : PI dA c P mk w G s) : PI dA c P mk w' G' s' := by
  obtain ⟨hh, h1, h2, h3, h4⟩ := hp
  refine ⟨hh, h.1.1 _ _ h1 (by intro q; rcases q with q | q | q | q <;> cases q), h.1.1 _ _ h2 ?_, h3, fun e he => ?_⟩
  · intro q
    rcases q with ⟨_, f, q⟩ | ⟨q, _⟩
    · cases q
    · cases q
  · obtain ⟨q0, x, num, q1, q2, q3⟩ := h4 e he
    exact ⟨q0, x, num, q1, h.1.1 _ _ q2 (by intro q; rcases q with q | q | q | q <;> cases q), fun hk => rv_le h (q3 hk)⟩
theorem CK_le (h : LEx c w G s w' G' s') (hk : CK dA c P mk w G s) : CK dA c P mk w' G' s' := ⟨rv_le h hk.1, rv_le h hk.2.1, rv_le h hk.2.2.1, rv_le h hk.2.2.2.1, by obtain ⟨e, h9, h10⟩ := hk.2.2.2.2; exact ⟨e, h.1.1 _ _ h9 h10, h10⟩⟩
theorem rEnd_le {a b : Value} {x : Option (Nat × aV)} (h : LEx c w G s w' G' s') (hr : rEnd dA c P mk w G s a b x) : rEnd dA c P mk w' G' s' a b x := by
  cases x with
  | none => exact hr
  | some x =>
    obtain ⟨h1, h2, h3⟩ := hr
    exact ⟨by rw [(h.2.1 _ h2).1]; exact h1, Nat.le_trans h2 h.2.2.2.2.1, rv_le h h3⟩
theorem rs_le {i j : Nat} {e : Option Nat} {x : aL} (h : LEx c w G s w' G' s') (hr : rs dA c P mk w G s i j e x) (h3 : ∀ (a : Nat) (y : aA), x = some (.inr y) → ga G i j = some a → w' a = w a) : rs dA c P mk w' G' s' i j e x := by
  cases x with
  | none => exact hr
  | some x =>
    cases x with
    | inl x =>
      obtain ⟨a, p1, p2⟩ := hr
      exact ⟨a, p1, rv_le h p2⟩
    | inr x =>
      obtain ⟨a, kv, p1, p2, p3, p4, p5, p6⟩ := hr
      exact ⟨a, kv, p1, h.2.2.2.1 _ _ _ p2, by rw [h3 a x rfl p2, (h.2.1 _ p5).1]; exact p3, rvO_le h p4, Nat.le_trans p5 h.2.2.2.2.1, p6⟩
/-- an environment that nothing has touched -/
theorem EN_le {i : Nat} (h : LEx c w G s w' G' s') (hi : i ≤ sN s) (hE : EN dA c P mk w G s i) (h1 : w' (ge G i) = w (ge G i)) (h2 : w' (gh G i) = w (gh G i)) (h3 : ∀ j a : Nat, ga G i j = some a → w' a = w a) (h4 : s'.1 i = s.1 i) : EN dA c P mk w' G' s' i := by
  obtain ⟨ou, ca, hh, q1, q2, q3, q4⟩ := hE
  refine ⟨ou, ca, hh, ?_, ?_, ?_, fun j hj => ?_⟩
  · have e1 : sG s' i = sG s i := by simp only [sG, h4]
    have e2 : sO s' i = sO s i := by simp only [sO, h4]
    rw [(h.2.1 i hi).1, (h.2.1 i hi).2, h1, q1, e1, e2]
  · rw [(h.2.1 i hi).2, h2, q2]
  · have e : sC s' i = sC s i := by simp only [sC, h4]
    rw [e]
    cases hc : sC s i with
    | none => rw [hc] at q3; exact q3
    | some fn =>
      rw [hc] at q3
      obtain ⟨p1, p2, p3⟩ := q3
      exact ⟨p1, by rw [(h.2.1 _ (by omega)).1]; exact p2, rv_le h p3⟩
  · have e : sL s' i j = sL s i j := by simp only [sL, h4]
    rw [e]
    exact rs_le h (q4 j hj) (fun a y _ hy => h3 j a hy)
/-- an environment of which only slots have changed -/
theorem EN_sl {i : Nat} {hh' : Nat → Option Nat} {ou ca : Value} (h : LEx c w G s w' G' s') (hi : i ≤ sN s) (hE : EN dA c P mk w G s i) (h1 : w (ge G i) = some (.inr (C_Env, [.ref (gh G i), ou, ca, .int (nI (sG s i)), .int (if sO s i then 1 else 0)]))) (h1' : w' (ge G i) = some (.inr (C_Env, [.ref (gh G i), ou, ca, .int (nI (sG s' i)), .int (if sO s' i then 1 else 0)]))) (h2 : w' (gh G i) = some (.inl (dA 4, 10, .inr (.inr (.inr (.inr hh')))))) (h4 : sC s' i = sC s i) (h5 : ∀ j : Nat, j < 10 → rs dA c P mk w' G' s' i j (hh' j) (sL s' i j)) : EN dA c P mk w' G' s' i := by
  obtain ⟨ou1, ca1, hh, q1, q2, q3, q4⟩ := hE
  rw [h1] at q1
  cases q1
  refine ⟨ou, ca, hh', ?_, ?_, ?_, h5⟩
  · rw [(h.2.1 i hi).1, (h.2.1 i hi).2, h1']
  · rw [(h.2.1 i hi).2, h2]
  · rw [h4]
    cases hc : sC s i with
    | none => rw [hc] at q3; exact q3
    | some fn =>
      rw [hc] at q3
      obtain ⟨p1, p2, p3⟩ := q3
      exact ⟨p1, by rw [(h.2.1 _ (by omega)).1]; exact p2, rv_le h p3⟩
end CJ
