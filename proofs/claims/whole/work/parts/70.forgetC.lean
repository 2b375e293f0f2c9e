/-! the class forgets -/
section FG
variable {dA : Nat → ClassId} {c : Nat → Nat} {P : aP} {mk : Nat} {w : ww_W} {G : gG} {s : aS} {K N d : Nat} {Q : zQ}
theorem r_clear_loop {a q : Nat} {fs : List Value} (ha : w a = some (.inr (C_Env, .ref q :: fs))) (hq : w q = none ∨ ∃ h : Nat → Option Nat, w q = some (.inl (dA 4, 10, .inr (.inr (.inr (.inr h)))))) (hQ : ∀ h : Nat → Option Nat, (∀ j : Nat, j < 10 → h j = none) → Q (.inl none) (va_up w q (some (.inl (dA 4, 10, .inr (.inr (.inr (.inr h))))))) 0 0) : ∀ (r v : Nat) (h : Nat → Option Nat), v + r = 10 → (∀ j : Nat, j < v → h j = none) →
    zx dA d K N M_Environment_clear 2 [some (.ref a), some (.int (nI v))] [] (va_up w q (some (.inl (dA 4, 10, .inr (.inr (.inr (.inr h))))))) 0 0 Q := by
  have haq : a ≠ q := fun e => by
    rcases hq with g | ⟨h, g⟩
    · rw [e, g] at ha; cases ha
    · rw [e, g] at ha; cases ha
  intro r
  induction r with
  | zero =>
    intro v h hv hh
    refine z_i rfl rfl ?_
    refine z_i rfl rfl ?_
    refine z_bt rfl rfl (show nI 10 ≤ nI v from nI_le (by omega) (by omega)) ?_
    exact z_retV rfl (Nat.zero_le _) (Nat.zero_le _) (hQ h (fun j hj => hh j (by omega)))
  | succ r ih =>
    intro v h hv hh
    refine z_i rfl rfl ?_
    refine z_i rfl rfl ?_
    refine z_bf rfl rfl (show ¬ nI 10 ≤ nI v from nI_ge (by omega) (by omega)) ?_
    repeat refine z_i rfl rfl ?_
    refine z_get rfl ((va_up_ne _ _ haq).trans ha) rfl ?_
    repeat refine z_i rfl rfl ?_
    refine z_aast (j := v) 4 rfl rfl rfl (va_up_self _ _ _) rfl (by omega) (by omega) (fun b hb => by cases hb) ?_
    rw [bx_uu]
    refine z_i rfl rfl ?_
    refine z_j rfl ?_
    have := ih (v + 1) (va_up h v none) (by omega) (fun j hj => by
      by_cases hjv : j = v
      · subst hjv; exact va_up_self _ _ _
      · rw [va_up_ne _ _ hjv]; exact hh j (by omega))
    rw [← nI_1] at this
    exact this
theorem up_same {W : ww_W} {q : Nat} {e : va_E} (h : W q = some e) : va_up W q (some e) = W := by
  funext a
  by_cases ha : a = q
  · subst ha; rw [va_up_self, h]
  · exact va_up_ne _ _ ha
/-- a vector stays one while its object and its row do -/
theorem rv_vec {w' : ww_W} {G' : gG} {s' : aS} {v : Value} {xs : List Int32} (hk : ∀ (a : Nat) (e : va_E), w a = some e → (∀ fs : List Value, ¬ e = .inr (C_Evaluator, fs)) → (∀ (h : Nat → Option Nat), ¬ e = .inl (dA 4, 10, .inr (.inr (.inr (.inr h))))) → w' a = some e) (h : rv dA c P mk w G s v (.inl xs)) : rv dA c P mk w' G' s' v (.inl xs) := by
  obtain ⟨a, q, f, h1, h2, h3, h4, h5, h6⟩ := h
  exact ⟨a, q, f, h1, hk _ _ h2 (fun _ e => by cases e) (fun _ e => by cases e), hk _ _ h3 (fun _ e => by cases e) (fun _ e => by have e1 := congrArg (fun p : ClassId × vp_A => p.2.2) (Sum.inl.inj e); cases e1), h4, h5, h6⟩
def Grst (G : gG) : gG := (G.1, G.2.1, G.2.2.1, fun _ _ => none)
theorem r_forget (hd : 1 ≤ d) (h : CI dA c P mk w G s) (hR : sR s = none) (hQ : ∀ W : ww_W, CI dA c P mk W (Grst G) (e_rst s) → (∀ (a : Nat) (e : va_E), w a = some e → (∀ fs : List Value, ¬ e = .inr (C_Evaluator, fs)) → (∀ (h : Nat → Option Nat), ¬ e = .inl (dA 4, 10, .inr (.inr (.inr (.inr h))))) → W a = some e) → Q (.inl (some (.int (nI (sN s))))) W 0 0) : zx dA d 0 0 M_Evaluator_forget 0 (zargs 2 [.ref (c 0)]) [] w 0 0 Q := by
  obtain ⟨⟨ea, eb, he, her⟩, ⟨hh, p1, p2, p3, p4⟩, ck, pl, en, di, c3, c4, c5, c6⟩ := h
  obtain ⟨ou, ca, hrow, n1, n2, n3, n4⟩ := en 0 (Nat.zero_le _)
  rw [hR] at her
  obtain ⟨rfl, rfl⟩ := her
  have hne0 : ge G 0 ≠ c 0 := z_ne n1 he (by intro q; cases q)
  have hne1 : gh G 0 ≠ c 0 := fun e => by rw [e, he] at n2; cases n2
  repeat refine z_i rfl rfl ?_
  refine z_get rfl he rfl ?_
  repeat refine z_i rfl rfl ?_
  refine z_put rfl he (Nat.le_of_ble_eq_true rfl) ⟨rfl, rfl⟩ ?_
  repeat refine z_i rfl rfl ?_
  refine z_get rfl (va_up_self _ _ _) rfl ?_
  have hW1 : ∀ (a : Nat) (e : va_E), w a = some e → a ≠ c 0 → va_up w (c 0) (some (.inr (C_Evaluator, (evF c G s .null .null).set 2 (.int 0)))) a = some e := fun a e ha hn => (va_up_ne _ _ hn).trans ha
  refine z_cVk [] [] 0 0 0 rfl (hW1 _ _ n1 hne0) rfl rfl (Nat.le_of_ble_eq_true rfl) (Nat.le_of_ble_eq_true rfl) (by omega) (by omega) (by omega) ?_
  refine z_i rfl rfl ?_
  refine z_i rfl rfl ?_
  have hz := hW1 _ _ n2 hne1
  have key := r_clear_loop (dA := dA) (d := 0) (K := 0) (N := 0) (Q := zcont dA d 0 0 M_Evaluator_forget (5 + 1 + 1 + 3 + 1 + 3 + 3) [some (.ref (c 0)), some (.int (nI (sN s)))] [] 0 0 Q) (hW1 _ _ n1 hne0) (Or.inr ⟨hrow, hz⟩) (fun h' hh' => ⟨_, rfl, ?_⟩) 10 0 hrow (by omega) (fun j hj => by omega)
  · rw [up_same hz] at key
    exact key
  have hk : ∀ (a : Nat) (e : va_E), w a = some e → (∀ fs : List Value, ¬ e = .inr (C_Evaluator, fs)) → (∀ (h : Nat → Option Nat), ¬ e = .inl (dA 4, 10, .inr (.inr (.inr (.inr h))))) → va_up (va_up w (c 0) (some (.inr (C_Evaluator, (evF c G s .null .null).set 2 (.int 0))))) (gh G 0) (some (.inl (dA 4, 10, .inr (.inr (.inr (.inr h')))))) a = some e := by
    intro a e ha g1 g2
    have a1 : a ≠ c 0 := fun q => by
      rw [q, he] at ha
      cases ha
      exact g1 _ rfl
    have a2 : a ≠ gh G 0 := fun q => by
      rw [q, n2] at ha
      cases ha
      exact g2 _ rfl
    rw [va_up_ne _ _ a2, va_up_ne _ _ a1]
    exact ha
  repeat refine z_i rfl rfl ?_
  refine z_retI rfl (Nat.zero_le _) (Nat.zero_le _) (hQ _ ?_ hk)
  have nE : ∀ {ci : Nat} {fs : List Value}, ¬ ci = C_Evaluator → ∀ fs' : List Value, ¬ (Sum.inr (ci, fs) : va_E) = .inr (C_Evaluator, fs') := fun hn fs' e => by cases e; exact hn rfl
  have nR : ∀ {ci : Nat} {fs : List Value} (h : Nat → Option Nat), ¬ (Sum.inr (ci, fs) : va_E) = .inl (dA 4, 10, .inr (.inr (.inr (.inr h)))) := fun h e => by cases e
  refine ⟨⟨.null, .null, ?_, by show rEnd dA c P mk _ (Grst G) (e_rst s) .null .null (sR s); rw [hR]; exact ⟨rfl, rfl⟩⟩, ⟨hh, hk _ _ p1 (nE (by decide)) nR, hk _ _ p2 (fun _ e => by cases e) (fun _ e => by have e1 := congrArg (fun p : ClassId × vp_A => p.2) (Sum.inl.inj e); cases e1), p3, fun e he => ?_⟩, ⟨rv_vec hk ck.1, rv_vec hk ck.2.1, rv_vec hk ck.2.2.1, rv_vec hk ck.2.2.2.1, by obtain ⟨e9, t1, t2⟩ := ck.2.2.2.2; exact ⟨e9, hk _ _ t1 (fun fs e => t2 (by rw [e]; exact Or.inl rfl)) (fun h e => t2 (by rw [e]; exact Or.inr ⟨rfl, h, rfl⟩)), t2⟩⟩, ?_, fun i hi => ?_, ⟨fun i i' hi hi' _ => ?_, fun i i' hi hi' _ => ?_, fun i i' hi hi' e => di.2.2.1 i i' hi hi' e, fun i j i' j' a ha => (by cases ha), fun i j a ha => (by cases ha)⟩, Nat.zero_le _, c4, fun i j a ha => (by cases ha), fun n hn => ?_⟩
  · rw [va_up_ne _ _ (Ne.symm hne1), va_up_self]
    rfl
  · obtain ⟨q0, x, num, q1, q2, q3⟩ := p4 e he
    exact ⟨q0, x, num, q1, hk _ _ q2 (nE (by decide)) nR, fun hk0 => rv_vec hk (q3 hk0)⟩
  · obtain ⟨x1, x2, x3, x4, F, f1, f2⟩ := pl
    exact ⟨x1, x2, x3, x4, F, hk _ _ f1 (nE (by decide)) nR, hk _ _ f2 (fun _ e => by cases e) (fun _ e => by have e1 := congrArg (fun p : ClassId × vp_A => p.2) (Sum.inl.inj e); cases e1)⟩
  · have hi0 : i = 0 := Nat.le_zero.mp hi
    subst hi0
    have e1 : sC (e_rst s) 0 = sC s 0 := by unfold sC e_rst; simp only [va_up_self]
    have e2 : sG (e_rst s) 0 = sG s 0 := by unfold sG e_rst; simp only [va_up_self]
    have e3 : sO (e_rst s) 0 = sO s 0 := by unfold sO e_rst; simp only [va_up_self]
    refine ⟨ou, ca, h', ?_, va_up_self _ _ _, ?_, fun j hj => ?_⟩
    · rw [e2, e3]
      exact hk _ _ n1 (nE (by decide)) nR
    · rw [e1]
      cases hc : sC s 0 with
      | none => rw [hc] at n3; exact n3
      | some fn => rw [hc] at n3; exact absurd n3.1 (Nat.not_lt_zero _)
    · have e4 : sL (e_rst s) 0 j = none := by unfold sL e_rst; simp only [va_up_self]
      rw [e4]
      exact hh' j hj
  · have t1 : i = 0 := Nat.le_zero.mp hi
    have t2 : i' = 0 := Nat.le_zero.mp hi'
    omega
  · have t1 : i = 0 := Nat.le_zero.mp hi
    have t2 : i' = 0 := Nat.le_zero.mp hi'
    omega
  · obtain ⟨fs, g⟩ := c6 n hn
    exact ⟨fs, hk _ _ g (nE (by decide)) nR⟩
end FG
