/-! what the class's relation does not speak of may change: the main object, rows of longs -/
def cok : va_E → Prop
  | .inr x => ¬ x.1 = 0
  | .inl (_, _, .inr (.inl _)) => False
  | .inl _ => True
theorem cokO {i : Nat} {fs : List Value} (h : ¬ i = 0) : cok (.inr (i, fs)) := h
section CT
variable {dA : Nat → ClassId} {c : Nat → Nat} {P : aP} {mk z : Nat} {w W : ww_W} {G : gG} {s : aS}
theorem rv_to (hk : ∀ (a : Nat) (e : va_E), w a = some e → cok e → W a = some e) {v : Value} {x : aV} (h : rv dA c P mk w G s v x) : rv dA c P mk W G s v x := by
  cases x with
  | inl xs =>
    obtain ⟨a, q, f, h1, h2, h3, h4, h5, h6⟩ := h
    exact ⟨a, q, f, h1, hk _ _ h2 (cokO (by decide)), hk _ _ h3 trivial, h4, h5, h6⟩
  | inr fn =>
    obtain ⟨h1, h2, h3⟩ := h
    exact ⟨h1, hk _ _ h2 (cokO (by decide)), h3⟩
theorem rvO_to (hk : ∀ (a : Nat) (e : va_E), w a = some e → cok e → W a = some e) {v : Value} {x : Option aV} (h : rvO dA c P mk w G s v x) : rvO dA c P mk W G s v x := by
  cases x with
  | none => exact h
  | some x => exact rv_to hk h
theorem CI_to (hk : ∀ (a : Nat) (e : va_E), w a = some e → cok e → W a = some e) (h9 : ∃ e : va_E, W (c 9) = some e ∧ ¬ mtb c (c 9) e) (h : CI dA c P mk w G s) : CI dA c P mk W G s := by
  obtain ⟨⟨ea, eb, he, her⟩, ⟨hh, p1, p2, p3, p4⟩, ck, pl, en, di, c3, c4, c5, c6⟩ := h
  refine ⟨⟨ea, eb, hk _ _ he (cokO (by decide)), ?_⟩, ⟨hh, hk _ _ p1 (cokO (by decide)), hk _ _ p2 trivial, p3, fun e hlt => ?_⟩, ⟨rv_to hk ck.1, rv_to hk ck.2.1, rv_to hk ck.2.2.1, rv_to hk ck.2.2.2.1, h9⟩, ?_, fun i hi => ?_, di, c3, c4, fun i j a ha => ?_, fun n hn => ?_⟩
  · generalize sR s = o at her ⊢
    cases o with
    | none => exact her
    | some x => exact ⟨her.1, her.2.1, rv_to hk her.2.2⟩
  · obtain ⟨q0, x0, n0, q1, q2, q3⟩ := p4 e hlt
    exact ⟨q0, x0, n0, q1, hk _ _ q2 (cokO (by decide)), fun hk0 => rv_to hk (q3 hk0)⟩
  · obtain ⟨n, b1, a1, x, F, f1, f2⟩ := pl
    exact ⟨n, b1, a1, x, F, hk _ _ f1 (cokO (by decide)), hk _ _ f2 trivial⟩
  · obtain ⟨ou, ca, hrow, n1, n2, n3, n4⟩ := en i hi
    refine ⟨ou, ca, hrow, hk _ _ n1 (cokO (by decide)), hk _ _ n2 trivial, ?_, fun j hj => ?_⟩
    · cases hc : sC s i with
      | none => rw [hc] at n3; exact n3
      | some fn => rw [hc] at n3; exact ⟨n3.1, n3.2.1, rv_to hk n3.2.2⟩
    · have := n4 j hj
      generalize sL s i j = l at this ⊢
      match l, this with
      | none, h => exact h
      | some (.inl x), h =>
        obtain ⟨a, g1, g2⟩ := h
        exact ⟨a, g1, rv_to hk g2⟩
      | some (.inr x), h =>
        obtain ⟨a, kv, g1, g2, g3, g4, g5, g6⟩ := h
        exact ⟨a, kv, g1, g2, hk _ _ g3 (cokO (by decide)), rvO_to hk g4, g5, g6⟩
  · obtain ⟨fs, g1, g2⟩ := c5 i j a ha
    exact ⟨fs, hk _ _ g1 (cokO (by decide)), g2⟩
  · obtain ⟨fs, g1⟩ := c6 n hn
    exact ⟨fs, hk _ _ g1 (cokO (by decide))⟩
theorem CI_49 (h : CI dA c P mk w G s) : c 9 ≠ c 4 := by
  obtain ⟨_, _, ck, ⟨n, b1, a1, x, F, f1, f2⟩, _⟩ := h
  obtain ⟨e9, t1, t2⟩ := ck.2.2.2.2
  intro q
  rw [q, f2] at t1
  cases t1
  exact t2 (Or.inl ⟨q, F, rfl⟩)
/-- an entry that is changed is none that the relation speaks of -/
theorem cok_up {a : Nat} {e x : va_E} (ha : w a = some e) (hn : ¬ cok e) : ∀ (q : Nat) (y : va_E), w q = some y → cok y → va_up w a (some x) q = some y := by
  intro q y hq hy
  have : q ≠ a := fun e1 => by
    rw [e1, ha] at hq
    cases hq
    exact hn hy
  rw [va_up_ne _ _ this]
  exact hq
end CT
/-! the joint state: the class's part (v: the object, o: the row of one long) -/
abbrev orow (dA : Nat → ClassId) (f : Nat → Int64) : va_E := .inl (dA 1, 1, .inr (.inl f))
abbrev mrow (c : Nat → Nat) (la : Value) : va_E := .inr (C_Main, [.ref (c 1), .ref (c 0), la])
def JK (dA : Nat → ClassId) (c : Nat → Nat) (P : aP) (mk v o : Nat) (w : ww_W) (G : gG) (s : aS) (r : Option aV) : Prop := CI dA c P mk w G s ∧ (∃ la : Value, w v = some (mrow c la) ∧ rvO dA c P mk w G s la r) ∧ ∃ f : Nat → Int64, w o = some (orow dA f)
def JA (dA : Nat → ClassId) (v o m0 : Nat) (w : ww_W) (t : Nat) : Prop := ∃ (b c : Nat → Nat) (P : aP) (mk B : Nat) (G : gG) (s : aS) (S : mm) (res : rP), mB b ∧ b 0 = m0 ∧ c 9 = b 32 ∧ JK dA c P mk v o w G s res.1 ∧ mw dA b w S = w ∧ IDL P mk B res S s ∧ gl s ∧ sF s ≤ 400 * t
section JK
variable {dA : Nat → ClassId} {b c : Nat → Nat} {P P' : aP} {mk mk' B v o t : Nat} {w W : ww_W} {G : gG} {s : aS} {S S' : mm} {r : Option aV} {f f' : Nat → Int64} {la : Value} {res : rP}
theorem mw_mw (hb : mB b) : mw dA b (mw dA b w S) S = mw dA b w S := mw_same hb (fun _ hk => mw_at hb hk (mO_lt hk))
theorem mwE {d K N μ pc : Nat} {L : zV} {st : List Value} {k n : Nat} {Q : zQ} (hw : mw dA b w S = w) (h : zx dA d K N μ pc L st (mw dA b w S) k n Q) : zx dA d K N μ pc L st w k n Q := by
  rw [hw] at h
  exact h
theorem mw_e (hb : mB b) (hw : mw dA b w S = w) {k : Nat} (hk : mO k = true) : w (b k) = some (mE dA b S k) := by
  have h := mw_at (dA := dA) (w := w) (S := S) hb hk (mO_lt hk)
  rw [hw] at h
  exact h
theorem mw_to (hb : mB b) (hw : mw dA b w S = w) (hk : ∀ k : Nat, mO k = true → W (b k) = w (b k)) : mw dA b W S = W := mw_same hb (fun k h => (hk k h).trans (mw_e hb hw h))
theorem mE_main {k : Nat} {fs : List Value} : ¬ mE dA b S k = .inr (C_Main, fs) := by
  unfold mE
  intro q
  split at q
  · have e : C_Model = C_Main := congrArg (fun p : Nat × List Value => p.1) (Sum.inr.inj q)
    exact absurd e (by decide)
  · split at q
    · cases q
    · split at q <;> cases q
theorem mE_out {k : Nat} : ¬ mE dA b S k = orow dA f := by
  unfold mE
  intro q
  split at q
  · cases q
  · split at q
    · have e : (8000 : Nat) = 1 := congrArg (fun p : ClassId × vp_A => p.2.1) (Sum.inl.inj q)
      exact absurd e (by decide)
    · split at q
      · have e := congrArg (fun p : ClassId × vp_A => p.2.2) (Sum.inl.inj q)
        cases e
      · have e := congrArg (fun p : ClassId × vp_A => p.2.2) (Sum.inl.inj q)
        cases e
theorem mw_main (hb : mB b) (hw : mw dA b w S = w) {fs : List Value} {x : va_E} (hv : w v = some (.inr (C_Main, fs))) : mw dA b (va_up w v (some x)) S = va_up w v (some x) := mw_to hb hw (fun k hk => va_up_ne _ _ (fun e => by
  have h := mw_e hb hw hk
  rw [e, hv] at h
  exact mE_main (Option.some.inj h).symm))
theorem mw_orow (hb : mB b) (hw : mw dA b w S = w) {x : va_E} (ho : w o = some (orow dA f)) : mw dA b (va_up w o (some x)) S = va_up w o (some x) := mw_to hb hw (fun k hk => va_up_ne _ _ (fun e => by
  have h := mw_e hb hw hk
  rw [e, ho] at h
  exact mE_out (Option.some.inj h).symm))
theorem mk_l (hb : mB b) {a : Nat} (h : mw dA b w S a = some (orow dA f)) : mw dA b w S' a = some (orow dA f) := by
  have ha : ∀ j : Nat, mO j = true → a ≠ b j := by
    intro j hj q
    rw [q, mw_at hb hj (mO_lt hj)] at h
    exact mE_out (Option.some.inj h)
  rw [mw_out ha] at h ⊢
  exact h
/-- the reference changes -/
theorem JK_mw (hb : mB b) (h9 : c 9 = b 32) (hw : mw dA b w S = w) (h : JK dA c P mk v o w G s r) : JK dA c P mk v o (mw dA b w S') G s r := by
  obtain ⟨h1, ⟨la, h2, h3⟩, f, h4⟩ := h
  have h1' : CI dA c P mk (mw dA b w S) G s := by rw [hw]; exact h1
  have h2' : mw dA b w S v = some (mrow c la) := by rw [hw]; exact h2
  have h3' : rvO dA c P mk (mw dA b w S) G s la r := by rw [hw]; exact h3
  have h4' : mw dA b w S o = some (orow dA f) := by rw [hw]; exact h4
  exact ⟨CI_mw hb h9 h1', ⟨la, mk_o hb (by decide) h2', rvO_mw hb h9 h3'⟩, f, mk_l hb h4'⟩
/-- the row of one long changes -/
theorem JK_out (h : JK dA c P mk v o w G s r) (f' : Nat → Int64) : JK dA c P mk v o (va_up w o (some (orow dA f'))) G s r := by
  obtain ⟨h1, ⟨la, h2, h3⟩, f, h4⟩ := h
  have hk := cok_up (x := orow dA f') h4 (fun q : False => q)
  refine ⟨CI_to hk ?_ h1, ⟨la, ?_, rvO_to hk h3⟩, f', va_up_self _ _ _⟩
  · obtain ⟨e9, t1, t2⟩ := h1.2.2.1.2.2.2.2
    by_cases e : c 9 = o
    · refine ⟨orow dA f', by rw [e, va_up_self], ?_⟩
      intro q
      rcases q with ⟨_, g, q⟩ | ⟨q, _⟩
      · cases q
      · cases q
    · exact ⟨e9, (va_up_ne _ _ e).trans t1, t2⟩
  · have : v ≠ o := fun e => by rw [e, h4] at h2; cases h2
    exact (va_up_ne _ _ this).trans h2
/-- the main object's last value changes -/
theorem JK_main {va : Value} (h : CI dA c P mk w G s) (hv : w v = some (mrow c la)) (ho : w o = some (orow dA f)) (hr : rvO dA c P mk w G s va r) : JK dA c P mk v o (va_up w v (some (mrow c va))) G s r := by
  have hk := cok_up (x := mrow c va) hv (fun q : ¬ (0 : Nat) = 0 => q rfl)
  refine ⟨CI_to hk ?_ h, ⟨va, va_up_self _ _ _, rvO_to hk hr⟩, f, ?_⟩
  · obtain ⟨e9, t1, t2⟩ := h.2.2.1.2.2.2.2
    by_cases e : c 9 = v
    · refine ⟨mrow c va, by rw [e, va_up_self], ?_⟩
      intro q
      rcases q with q | q | q | q <;> cases q
    · exact ⟨e9, (va_up_ne _ _ e).trans t1, t2⟩
  · have : o ≠ v := fun e => by rw [e, hv] at ho; cases ho
    exact (va_up_ne _ _ this).trans ho
theorem JA_le {m0 t' : Nat} (h : JA dA v o m0 w t) (ht : t ≤ t') : JA dA v o m0 w t' := by
  obtain ⟨b, c, P, mk, B, G, s, S, res, h1, h2, h3, h4, h5, h6, h7, h8⟩ := h
  exact ⟨b, c, P, mk, B, G, s, S, res, h1, h2, h3, h4, h5, h6, h7, by omega⟩
theorem IDL_0j {z : Int32} (h : IDL P mk B res S s) : IDL P mk B res (jI S 0 z) s := by
  refine ⟨?_, h.2⟩
  rw [jI_I]
  exact h.1
/-- behind a run -/
theorem IDL_31 {x y : Int32} (h : MR P mk B res 1000 S [] none s) (hx : x = sX s) : IDL P mk B res (jI (jI S 31 x) 0 y) s := by
  refine ⟨?_, hx⟩
  rw [jI_I]
  obtain ⟨⟨a1, a2, a3, a4, a5, a6, a7, a8⟩, m2, ⟨c1, c2, c3, c4, c5⟩, m4, m5, m6, m7⟩ := h
  exact ⟨⟨a1, a2, a3, a4, a5, a6, a7, a8⟩, m2, ⟨c1, c2, c3, c4, rfl⟩, m4, m5, trivial, m7⟩
end JK
/-! the law's wrappers -/
section WR
variable {dA : Nat → ClassId} {U : yU} {c : Nat → Nat} {P : aP} {mk : Nat} {w : ww_W} {G : gG} {s : aS} {K N d v o : Nat} {Q : zQ} {k ka kb kc x : Int32} {la : Value} {r : Option aV} {f : Nat → Int64}
theorem w_count (hd : 9 ≤ d) (hK : 1 ≤ K) (hN : 6 ≤ N) (h : CI dA c P mk w G s) (hv : w v = some (mrow c la)) (ho : w o = some (orow dA f)) (h1 : (¬ k = 0 ∧ ¬ k = 1 ∧ ¬ k = 2 ∧ ¬ k = 3) → Q (.inl (some (.int 1))) w 1 6) (h2 : ∀ z : Nat, (k = 0 ∧ z = mk ∨ k = 1 ∧ z = sN s ∨ k = 2 ∧ z = sT s ∨ k = 3 ∧ z = sA s) → Q (.inl (some (.int 0))) (va_up w o (some (orow dA (vp_updL f 0 (nI z).toInt64)))) 0 0) : zy dA U d K N Y_wcount 0 (zargs 4 [.ref v, .int k, .ref o]) [] w 0 0 Q := by
  repeat refine y_i rfl rfl ?_
  refine y_hVk [.int k] [.int 0, .ref o] 8 1 6 rfl hv rfl rfl (Nat.le_of_ble_eq_true rfl) (Nat.le_of_ble_eq_true rfl) (by omega) (by omega) (by omega) (c_count (by omega) (by omega) (by omega) h hv (fun q => ⟨12, by decide, fun a => ?_⟩) (fun z q => ?_))
  · repeat refine y_i rfl rfl ?_
    exact y_retI rfl (by omega) (by omega) (h1 q)
  · show zy dA U d K N Y_wcount (4 + 3) _ _ _ _ _ _
    repeat refine y_i rfl rfl ?_
    refine y_last (j := 0) rfl ho rfl (by decide) (by decide) ?_
    refine y_j rfl ?_
    repeat refine y_i rfl rfl ?_
    exact y_retI rfl (by omega) (by omega) (h2 z q)
theorem w_element (hd : 9 ≤ d) (hK : 1 ≤ K) (hN : 6 ≤ N) (hv : w v = some (mrow c la)) (hr : rvO dA c P mk w G s la r) (ho : w o = some (orow dA f)) (h1 : (∀ xs, ¬ r = some (.inl xs)) → Q (.inl (some (.int 1))) w 1 6) (h2 : ∀ xs, r = some (.inl xs) → ¬ (∃ j : Nat, j < xs.length ∧ k = nI j) → Q (.inl (some (.int 2))) w 1 6) (h3 : ∀ (xs : List Int32) (j : Nat), r = some (.inl xs) → j < xs.length → k = nI j → Q (.inl (some (.int 0))) (va_up w o (some (orow dA (vp_updL f 0 (p_at xs j).toInt64)))) 0 0) : zy dA U d K N Y_welement 0 (zargs 4 [.ref v, .int k, .ref o]) [] w 0 0 Q := by
  repeat refine y_i rfl rfl ?_
  refine y_hVk [.int k] [.int 0, .ref o] 8 1 6 rfl hv rfl rfl (Nat.le_of_ble_eq_true rfl) (Nat.le_of_ble_eq_true rfl) (by omega) (by omega) (by omega) (c_element (by omega) (by omega) (by omega) hv hr (fun q => ⟨12, by decide, fun a => ?_⟩) (fun xs q1 q2 => ⟨15, by decide, fun a => ?_⟩) (fun xs j q1 q2 q3 => ?_))
  · repeat refine y_i rfl rfl ?_
    exact y_retI rfl (by omega) (by omega) (h1 q)
  · repeat refine y_i rfl rfl ?_
    exact y_retI rfl (by omega) (by omega) (h2 xs q1 q2)
  · show zy dA U d K N Y_welement (4 + 3) _ _ _ _ _ _
    repeat refine y_i rfl rfl ?_
    refine y_last (j := 0) rfl ho rfl (by decide) (by decide) ?_
    refine y_j rfl ?_
    repeat refine y_i rfl rfl ?_
    exact y_retI rfl (by omega) (by omega) (h3 xs j q1 q2 q3)
theorem w_variable (hd : 9 ≤ d) (hK : 1 ≤ K) (hN : 6 ≤ N) (h : CI dA c P mk w G s) (hg : gl s) (hv : w v = some (mrow c la)) (ho : w o = some (orow dA f)) (h1 : ¬ okV k → Q (.inl (some (.int 1))) w 1 6) (h2 : ∀ j : Nat, j < 10 → k = nI j → sL s 0 j = none → Q (.inl (some (.int 0))) (va_up w o (some (orow dA (vp_updL f 0 (Int32.toInt64 (-2)))))) 0 0) (h3 : ∀ (j : Nat) (z : aV), j < 10 → k = nI j → sL s 0 j = some (.inl z) → Q (.inl (some (.int 0))) (va_up w o (some (orow dA (vp_updL f 0 (vsz z).toInt64)))) 0 0) : zy dA U d K N Y_wvariable 0 (zargs 4 [.ref v, .int k, .ref o]) [] w 0 0 Q := by
  repeat refine y_i rfl rfl ?_
  refine y_hVk [.int k] [.int 0, .ref o] 8 1 6 rfl hv rfl rfl (Nat.le_of_ble_eq_true rfl) (Nat.le_of_ble_eq_true rfl) (by omega) (by omega) (by omega) (c_variable (by omega) (by omega) (by omega) h hg hv (fun q => ⟨12, by decide, fun a => ?_⟩) (fun j q1 q2 q3 => ?_) (fun j z q1 q2 q3 => ?_))
  · repeat refine y_i rfl rfl ?_
    exact y_retI rfl (by omega) (by omega) (h1 q)
  · show zy dA U d K N Y_wvariable (4 + 3) _ _ _ _ _ _
    repeat refine y_i rfl rfl ?_
    refine y_last (j := 0) rfl ho rfl (by decide) (by decide) ?_
    refine y_j rfl ?_
    repeat refine y_i rfl rfl ?_
    exact y_retI rfl (by omega) (by omega) (h2 j q1 q2 q3)
  · show zy dA U d K N Y_wvariable (4 + 3) _ _ _ _ _ _
    repeat refine y_i rfl rfl ?_
    refine y_last (j := 0) rfl ho rfl (by decide) (by decide) ?_
    refine y_j rfl ?_
    repeat refine y_i rfl rfl ?_
    exact y_retI rfl (by omega) (by omega) (h3 j z q1 q2 q3)
theorem w_value (hd : 9 ≤ d) (hK : 1 ≤ K) (hN : 6 ≤ N) (h : CI dA c P mk w G s) (hg : gl s) (hv : w v = some (mrow c la)) (ho : w o = some (orow dA f)) (h1 : ¬ okV ka → Q (.inl (some (.int 1))) w 1 6) (h2 : ∀ j : Nat, j < 10 → ka = nI j → ¬ (∃ (xs : List Int32) (t : Nat), sL s 0 j = some (.inl (.inl xs)) ∧ t < xs.length ∧ k = nI t) → Q (.inl (some (.int 2))) w 1 6) (h3 : ∀ (j : Nat) (xs : List Int32) (t : Nat), j < 10 → ka = nI j → sL s 0 j = some (.inl (.inl xs)) → t < xs.length → k = nI t → Q (.inl (some (.int 0))) (va_up w o (some (orow dA (vp_updL f 0 (p_at xs t).toInt64)))) 0 0) : zy dA U d K N Y_wvalue 0 (zargs 5 [.ref v, .int ka, .int k, .ref o]) [] w 0 0 Q := by
  repeat refine y_i rfl rfl ?_
  refine y_hVk [.int ka, .int k] [.int 0, .ref o] 8 1 6 rfl hv rfl rfl (Nat.le_of_ble_eq_true rfl) (Nat.le_of_ble_eq_true rfl) (by omega) (by omega) (by omega) (c_value (by omega) (by omega) (by omega) h hg hv (fun q => ⟨13, by decide, fun a => ?_⟩) (fun j q1 q2 q3 => ⟨17, by decide, fun a => ?_⟩) (fun j xs t q1 q2 q3 q4 q5 => ?_))
  · repeat refine y_i rfl rfl ?_
    exact y_retI rfl (by omega) (by omega) (h1 q)
  · repeat refine y_i rfl rfl ?_
    exact y_retI rfl (by omega) (by omega) (h2 j q1 q2 q3)
  · show zy dA U d K N Y_wvalue (5 + 3) _ _ _ _ _ _
    repeat refine y_i rfl rfl ?_
    refine y_last (j := 0) rfl ho rfl (by decide) (by decide) ?_
    refine y_j rfl ?_
    repeat refine y_i rfl rfl ?_
    exact y_retI rfl (by omega) (by omega) (h3 j xs t q1 q2 q3 q4 q5)
theorem w_expression (hd : 9 ≤ d) (hK : 4 ≤ K) (hN : 13 ≤ N) (h : CI dA c P mk w G s) (hv : w v = some (mrow c la)) (ho : w o = some (orow dA f)) (h1 : ¬ okE mk k ka kb kc → Q (.inl (some (.int 1))) w 4 13) (h2 : okE mk k ka kb kc → mk = 120 → Q (.inl (some (.int 2))) w 4 13)
    (h3 : okE mk k ka kb kc → mk < 120 → ∀ (W : ww_W) (kk nn : Nat), CI dA c (pAdd P mk k ka kb kc) (mk + 1) W G s → kA w W → W o = some (orow dA f) → kk ≤ 3 → nn ≤ 7 → Q (.inl (some (.int 0))) (va_up W o (some (orow dA (vp_updL f 0 (nI mk).toInt64)))) kk nn) : zy dA U d K N Y_wexpression 0 (zargs 7 [.ref v, .int k, .int ka, .int kb, .int kc, .ref o]) [] w 0 0 Q := by
  repeat refine y_i rfl rfl ?_
  refine y_hVk [.int k, .int ka, .int kb, .int kc] [.int 0, .ref o] 8 4 13 rfl hv rfl rfl (Nat.le_of_ble_eq_true rfl) (Nat.le_of_ble_eq_true rfl) (by omega) (by omega) (by omega) (c_expression (by omega) (by omega) (by omega) h hv (fun q => ⟨17, by decide, fun a => ?_⟩) (fun q1 q2 => ⟨21, by decide, fun a => ?_⟩) (fun q1 q2 W kk nn hc hk g1 g2 => ?_))
  · repeat refine y_i rfl rfl ?_
    exact y_retI rfl (by omega) (by omega) (h1 q)
  · repeat refine y_i rfl rfl ?_
    exact y_retI rfl (by omega) (by omega) (h2 q1 q2)
  · show zy dA U d K N Y_wexpression (9 + 3) _ _ _ _ _ _
    have ho' : W o = some (orow dA f) := hk _ _ ho (fun _ e => by cases e) (fun _ _ e => by
      have e1 := congrArg (fun p : ClassId × vp_A => p.2.2) (Sum.inl.inj e)
      cases e1)
    repeat refine y_i rfl rfl ?_
    refine y_last (j := 0) rfl ho' rfl (by decide) (by decide) ?_
    refine y_j rfl ?_
    repeat refine y_i rfl rfl ?_
    exact y_retI rfl (by omega) (by omega) (h3 q1 q2 W _ _ hc hk ho' (by omega) (by omega))
theorem yref_code (x : Int32) : ∃ h : Nat, (yref x, h) ∈ [((2 : Nat), (12 : Nat)), (3, 15), (1, 18), (4, 21), (5, 24)] ∧ (p_code x = 1 ∧ h = 12 ∨ p_code x = 2 ∧ h = 15 ∨ p_code x = 3 ∧ h = 18 ∨ p_code x = 4 ∧ h = 21 ∨ p_code x = 5 ∧ h = 24) := by
  unfold yref p_code
  by_cases k4 : x = 4
  · rw [if_pos k4, if_pos k4]; exact ⟨12, by decide, by decide⟩
  rw [if_neg k4, if_neg k4]
  by_cases k1 : x = 1
  · rw [if_pos k1, if_pos k1]; exact ⟨15, by decide, by decide⟩
  rw [if_neg k1, if_neg k1]
  by_cases k8 : x = 8
  · rw [if_pos k8, if_pos k8]; exact ⟨15, by decide, by decide⟩
  rw [if_neg k8, if_neg k8]
  by_cases k2 : x = 2
  · rw [if_pos k2, if_pos k2]; exact ⟨18, by decide, by decide⟩
  rw [if_neg k2, if_neg k2]
  by_cases k9 : x = 9
  · rw [if_pos k9, if_pos k9]; exact ⟨18, by decide, by decide⟩
  rw [if_neg k9, if_neg k9]
  by_cases k3 : x = 3
  · rw [if_pos k3, if_pos k3]; exact ⟨21, by decide, by decide⟩
  rw [if_neg k3, if_neg k3]
  by_cases k6 : x = 6
  · rw [if_pos k6, if_pos k6]; exact ⟨21, by decide, by decide⟩
  rw [if_neg k6, if_neg k6]
  exact ⟨24, by decide, by decide⟩
theorem w_run (hd : dD 40 + 3 ≤ d) (hK : 981 ≤ K) (hN : 8876 ≤ N) (h : CI dA c P mk w G s) (hv : w v = some (mrow c la)) (ho : w o = some (orow dA f)) (h0 : ¬ okH mk x → Q (.inl (some (.int 1))) w 981 8876)
    (h1 : ∀ (e : Nat) (z : aV) (s' : aS) (w' : ww_W) (G' : gG) (va : Value) (kk nn : Nat), e < mk → x = nI e → e_run P s e = (some z, s') → CI dA c P mk w' G' s' → rv dA c P mk w' G' s' va z → LEx c w G s w' G' s' → kk ≤ 980 → nn ≤ 8870 → Q (.inl (some (.int 0))) (va_up (va_up w' v (some (mrow c va))) o (some (orow dA (vp_updL f 0 (vsz z).toInt64)))) kk nn)
    (h2 : ∀ (e : Nat) (s' : aS) (w' : ww_W) (G' : gG), e < mk → x = nI e → e_run P s e = (none, s') → CI dA c P mk w' G' s' → LEx c w G s w' G' s' → Q (.inl (some (.int (p_code (sX s'))))) w' 981 8876) : zy dA U d K N Y_wrun 0 (zargs 4 [.ref v, .int x, .ref o]) [] w 0 0 Q := by
  have hD : dD 40 = 168 := rfl
  repeat refine y_i rfl rfl ?_
  refine y_hVk [.int x] [.int 0, .ref o] (dD 40 + 2) 981 8876 rfl hv rfl rfl (Nat.le_of_ble_eq_true rfl) (Nat.le_of_ble_eq_true rfl) (by omega) (by omega) (by omega) (c_run (by omega) (by omega) (by omega) h hv (fun q => ⟨12, by decide, fun a => ?_⟩) (fun e z s' w' G' va kk nn q1 q2 q3 q4 q5 q6 q7 q8 => ?_) (fun e s' w' G' q1 q2 q3 q4 q5 => ?_))
  · repeat refine y_i rfl rfl ?_
    exact y_retI rfl (by omega) (by omega) (h0 q)
  · show zy dA U d K N Y_wrun (4 + 3) _ _ _ _ _ _
    have ho' : w' o = some (orow dA f) := q6.1.1 _ _ ho (by
      intro q
      rcases q with ⟨_, g, q⟩ | ⟨q, _⟩
      · cases q
      · cases q)
    have hne : o ≠ v := fun e1 => by rw [e1, hv] at ho; cases ho
    repeat refine y_i rfl rfl ?_
    refine y_last (j := 0) rfl ((va_up_ne _ _ hne).trans ho') rfl (by decide) (by decide) ?_
    refine y_j rfl ?_
    repeat refine y_i rfl rfl ?_
    exact y_retI rfl (by omega) (by omega) (h1 e z s' w' G' va _ _ q1 q2 q3 q4 q5 q6 (by omega) (by omega))
  · have hq := h2 e s' w' G' q1 q2 q3 q4 q5
    obtain ⟨t, t1, t2⟩ := yref_code (sX s')
    refine ⟨t, t1, fun a => ?_⟩
    rcases t2 with ⟨g1, g2⟩ | ⟨g1, g2⟩ | ⟨g1, g2⟩ | ⟨g1, g2⟩ | ⟨g1, g2⟩ <;> (subst g2; rw [g1] at hq)
    · repeat refine y_i rfl rfl ?_
      exact y_retI rfl (by omega) (by omega) hq
    · repeat refine y_i rfl rfl ?_
      exact y_retI rfl (by omega) (by omega) hq
    · repeat refine y_i rfl rfl ?_
      exact y_retI rfl (by omega) (by omega) hq
    · repeat refine y_i rfl rfl ?_
      exact y_retI rfl (by omega) (by omega) hq
    · repeat refine y_i rfl rfl ?_
      exact y_retI rfl (by omega) (by omega) hq
end WR
