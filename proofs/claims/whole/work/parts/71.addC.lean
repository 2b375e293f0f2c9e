/-! the class makes an expression -/
section AX
variable {dA : Nat → ClassId} {c : Nat → Nat} {P : aP} {mk : Nat} {w W : ww_W} {G : gG} {s : aS} {K N d : Nat} {Q : zQ} {k ka kb kc : Int32} {x : Nat}
theorem r_Expr_init (hd : 4 ≤ d) (hK : 2 ≤ K) (hN : 2 ≤ N) (hx : w x = some (.inr (C_Expr, dC6))) (hQ : ∀ (num : Value) (W : ww_W) (kk nn : Nat), kk ≤ 2 → nn ≤ 2 → W x = some (.inr (C_Expr, [.int k, .int ka, .int kb, .int kc, num])) → (∀ (a : Nat) (e : va_E), a ≠ x → w a = some e → W a = some e) → (k = 0 → ∃ v q : Nat, num = .ref v ∧ W v = some (.inr (C_Vector, [.ref q])) ∧ W q = some (.inl (dA 0, 1, .inl (upd (fun _ => 0) 0 ka))) ∧ w q = none) → Q (.inl none) W kk nn) : zx dA d K N M_Expression_init 0 (zargs 5 [.ref x, .int k, .int ka, .int kb, .int kc]) [] w 0 0 Q := by
  repeat refine z_i rfl rfl ?_
  refine z_obj rfl (Nat.le_of_ble_eq_true rfl) (by omega) ?_
  repeat refine z_i rfl rfl ?_
  refine z_put rfl hx (Nat.le_of_ble_eq_true rfl) ⟨rfl, rfl⟩ ?_
  repeat refine z_i rfl rfl ?_
  refine z_put rfl (va_up_self _ _ _) (Nat.le_of_ble_eq_true rfl) ⟨rfl, rfl⟩ ?_
  rw [bx_uu]
  repeat refine z_i rfl rfl ?_
  refine z_put rfl (va_up_self _ _ _) (Nat.le_of_ble_eq_true rfl) ⟨rfl, rfl⟩ ?_
  rw [bx_uu]
  repeat refine z_i rfl rfl ?_
  refine z_put rfl (va_up_self _ _ _) (Nat.le_of_ble_eq_true rfl) ⟨rfl, rfl⟩ ?_
  rw [bx_uu]
  repeat refine z_i rfl rfl ?_
  refine z_b rfl rfl (fun g => ?_) (fun g => ?_)
  · replace g : ¬ k = 0 := g
    repeat refine z_i rfl rfl ?_
    refine z_put rfl (va_up_self _ _ _) (Nat.le_of_ble_eq_true rfl) ⟨rfl, rfl⟩ ?_
    rw [bx_uu]
    exact z_retV rfl (by omega) (by omega) (hQ .null _ 0 0 (by omega) (by omega) (va_up_self _ _ _) (fun a e hn ha => (va_up_ne _ _ hn).trans ha) (fun q => absurd q g))
  · replace g : k = 0 := Classical.not_not.mp g
    refine z_new rfl (by omega) (by omega) (fun v hv => ?_)
    obtain ⟨hv1, hv2⟩ := zup_none hv
    repeat refine z_i rfl rfl ?_
    refine z_cIk [.int ka] [.ref v, .ref x] 3 1 1 rfl rfl rfl (Nat.le_of_ble_eq_true rfl) (Nat.le_of_ble_eq_true rfl) (by omega) (by omega) (by omega) (r_Vector_init_I (by omega) (by omega) (by omega) (va_up_self _ _ _) _ (fun q hq => ⟨_, rfl, ?_⟩))
    obtain ⟨hq1, hq2⟩ := zup_none hq
    obtain ⟨hq3, hq4⟩ := zup_none hq2
    refine z_j rfl ?_
    refine z_put (fs := [.int k, .int ka, .int kb, .int kc, .null]) rfl ?_ (Nat.le_of_ble_eq_true rfl) ⟨rfl, rfl⟩ ?_
    · rw [va_up_ne _ _ (Ne.symm hv1), va_up_ne _ _ (Ne.symm hq3), va_up_ne _ _ (Ne.symm hv1), va_up_self]
      rfl
    refine z_retV rfl (by omega) (by omega) (hQ (.ref v) _ _ _ (by omega) (by omega) (va_up_self _ _ _) (fun a e hn ha => ?_) (fun _ => ⟨v, q, rfl, ?_, ?_, hq4⟩))
    · have a1 : a ≠ v := fun e1 => by rw [e1, hv2] at ha; cases ha
      have a2 : a ≠ q := fun e1 => by rw [e1, hq4] at ha; cases ha
      rw [va_up_ne _ _ hn, va_up_ne _ _ a1, va_up_ne _ _ a2, va_up_ne _ _ a1, va_up_ne _ _ hn]
      exact ha
    · rw [va_up_ne _ _ hv1, va_up_self]
    · rw [va_up_ne _ _ hq3, va_up_ne _ _ hq1, va_up_self]
theorem r_add {h : Nat → Option Nat} (hp : w (c 1) = some (.inr (C_Program, [.ref (c 2), .int (nI mk)]))) (hr : w (c 2) = some (.inl (dA 3, 120, .inr (.inr (.inr (.inr h)))))) (hx : ∃ fs : List Value, w x = some (.inr (C_Expr, fs))) (hmk : mk < 120) (hQ : Q (.inl (some (.int (nI mk)))) (va_up (va_up w (c 2) (some (.inl (dA 3, 120, .inr (.inr (.inr (.inr (va_up h mk (some x)))))))))  (c 1) (some (.inr (C_Program, [.ref (c 2), .int (nI (mk + 1))])))) 0 0) : zx dA d K N M_Program_add 0 (zargs 2 [.ref (c 1), .ref x]) [] w 0 0 Q := by
  have hne : c 1 ≠ c 2 := fun e => by rw [e, hr] at hp; cases hp
  obtain ⟨fs, hx⟩ := hx
  repeat refine z_i rfl rfl ?_
  refine z_get rfl hp rfl ?_
  repeat refine z_i rfl rfl ?_
  refine z_get rfl hp rfl ?_
  repeat refine z_i rfl rfl ?_
  refine z_aast (j := mk) 3 rfl rfl rfl hr rfl (by omega) (by omega) (fun b hb => ⟨6, by simp, fs, by cases hb; exact hx⟩) ?_
  have hp2 := (va_up_ne (α := Option va_E) (f := w) (k := c 2) (v := some (.inl (dA 3, 120, .inr (.inr (.inr (.inr (va_up h mk (some x)))))))) hne).trans hp
  repeat refine z_i rfl rfl ?_
  refine z_get rfl hp2 rfl ?_
  repeat refine z_i rfl rfl ?_
  refine z_put rfl hp2 (Nat.le_of_ble_eq_true rfl) ⟨rfl, rfl⟩ ?_
  repeat refine z_i rfl rfl ?_
  refine z_get rfl (va_up_self _ _ _) rfl ?_
  repeat refine z_i rfl rfl ?_
  dsimp only
  rw [nI_1, nI_pred]
  exact z_retI rfl (Nat.zero_le _) (Nat.zero_le _) hQ
/-- what an expression's making leaves as it was -/
def kA (w W : ww_W) : Prop := ∀ (a : Nat) (e : va_E), w a = some e → (∀ fs : List Value, ¬ e = .inr (C_Program, fs)) → (∀ (t : ClassId) (h : Nat → Option Nat), ¬ e = .inl (t, 120, .inr (.inr (.inr (.inr h))))) → W a = some e
theorem kA_o (hk : kA w W) {a ci : Nat} {fs : List Value} (hn : ¬ ci = C_Program) (h : w a = some (.inr (ci, fs))) : W a = some (.inr (ci, fs)) := hk _ _ h (fun _ e => hn (by cases e; rfl)) (fun _ _ e => by cases e)
theorem kA_i (hk : kA w W) {a m : Nat} {t : ClassId} {f : Nat → Int32} (h : w a = some (.inl (t, m, .inl f))) : W a = some (.inl (t, m, .inl f)) := hk _ _ h (fun _ e => by cases e) (fun _ _ e => by have e1 := congrArg (fun p : ClassId × vp_A => p.2.2) (Sum.inl.inj e); cases e1)
theorem rv_add (hk : kA w W) {v : Value} {z : aV} (h : rv dA c P mk w G s v z) : rv dA c (pAdd P mk k ka kb kc) (mk + 1) W G s v z := by
  cases z with
  | inl xs =>
    obtain ⟨a, q, f, h1, h2, h3, h4, h5, h6⟩ := h
    exact ⟨a, q, f, h1, kA_o hk (by decide) h2, kA_i hk h3, h4, h5, h6⟩
  | inr fn =>
    obtain ⟨h1, h2, h3, h4, h5, h6⟩ := h
    obtain ⟨t1, t2, t3, t4⟩ := kd_add (P := P) (k := k) (ka := ka) (kb := kb) (kc := kc) h5
    exact ⟨h1, by rw [t2, t3, t4]; exact kA_o hk (by decide) h2, h3, h4, by omega, t1.trans h6⟩
theorem rvO_add (hk : kA w W) {v : Value} {z : Option aV} (h : rvO dA c P mk w G s v z) : rvO dA c (pAdd P mk k ka kb kc) (mk + 1) W G s v z := by
  cases z with
  | none => exact h
  | some z => exact rv_add hk h
theorem CI_add {h' : Nat → Option Nat} {num : Value} (h : CI dA c P mk w G s) (hk : kA w W) (h9 : ∃ e : va_E, W (c 9) = some e ∧ ¬ mtb c (c 9) e) (ho : okE mk k ka kb kc) (hmk : mk < 120) (h1 : W (c 1) = some (.inr (C_Program, [.ref (c 2), .int (nI (mk + 1))]))) (hr : ∀ hh : Nat → Option Nat, w (c 2) = some (.inl (dA 3, 120, .inr (.inr (.inr (.inr hh))))) → h' = va_up hh mk (some x)) (h2 : W (c 2) = some (.inl (dA 3, 120, .inr (.inr (.inr (.inr h')))))) (h3 : W x = some (.inr (C_Expr, [.int k, .int ka, .int kb, .int kc, num]))) (h4 : k = 0 → ∃ v q : Nat, num = .ref v ∧ W v = some (.inr (C_Vector, [.ref q])) ∧ W q = some (.inl (dA 0, 1, .inl (upd (fun _ => 0) 0 ka))) ∧ w q = none) : CI dA c (pAdd P mk k ka kb kc) (mk + 1) W G s := by
  obtain ⟨⟨ea, eb, he, her⟩, ⟨hh, p1, p2, p3, p4⟩, ck, pl, en, di, c3, c4, c5, c6⟩ := h
  have hh' := hr hh p2
  refine ⟨⟨ea, eb, kA_o hk (by decide) he, ?_⟩, ⟨h', h1, h2, by omega, fun e hlt => ?_⟩, ⟨rv_add hk ck.1, rv_add hk ck.2.1, rv_add hk ck.2.2.1, rv_add hk ck.2.2.2.1, h9⟩, ?_, fun i hi => ?_, di, c3, c4, fun i j a ha => ?_, fun n hn => ?_⟩
  · generalize sR s = o at her ⊢
    cases o with
    | none => exact her
    | some z => exact ⟨her.1, her.2.1, rv_add hk her.2.2⟩
  · by_cases hem : e = mk
    · subst hem
      have t : kd (pAdd P e k ka kb kc) e = k ∧ pa (pAdd P e k ka kb kc) e = ka ∧ pb (pAdd P e k ka kb kc) e = kb ∧ pc (pAdd P e k ka kb kc) e = kc := by
        unfold kd pa pb pc
        rw [pAdd_at]
        exact ⟨rfl, rfl, rfl, rfl⟩
      obtain ⟨t1, t2, t3, t4⟩ := t
      rw [t1, t2, t3, t4]
      refine ⟨ho, x, num, by rw [hh', va_up_self], h3, fun hk0 => ?_⟩
      obtain ⟨v, q, v1, v2, v3, v4⟩ := h4 hk0
      have hka : -1000000000 ≤ ka ∧ ka ≤ 1000000000 := ho.2.1 hk0
      obtain ⟨y1, y2, y3, y4, F, f1, f2⟩ := pl
      refine ⟨v, q, _, v1, v2, v3, fun j hj => ?_, nb_new f2 ck.2.2.2.2 v4, by show 1 ≤ 16; decide, fun j hj => ?_⟩
      · have : j = 0 := by simp at hj; omega
        subst this
        exact pk_us
      · have : j = 0 := by simp at hj; omega
        subst this
        exact Or.inr hka
    · have hlt2 : e < mk := by omega
      obtain ⟨t1, t2, t3, t4⟩ := kd_add (P := P) (k := k) (ka := ka) (kb := kb) (kc := kc) hlt2
      obtain ⟨q0, x0, n0, q1, q2, q3⟩ := p4 e hlt2
      rw [t1, t2, t3, t4]
      exact ⟨q0, x0, n0, by rw [hh', va_up_ne _ _ hem]; exact q1, kA_o hk (by decide) q2, fun hk0 => rv_add hk (q3 hk0)⟩
  · obtain ⟨y1, y2, y3, y4, F, f1, f2⟩ := pl
    exact ⟨y1, y2, y3, y4, F, kA_o hk (by decide) f1, kA_i hk f2⟩
  · obtain ⟨ou, ca, hrow, n1, n2, n3, n4⟩ := en i hi
    refine ⟨ou, ca, hrow, kA_o hk (by decide) n1, hk _ _ n2 (fun _ e => by cases e) (fun _ _ e => by have e1 := congrArg (fun p : ClassId × vp_A => p.2.1) (Sum.inl.inj e); exact absurd (show (10 : Nat) = 120 from e1) (by decide)), ?_, fun j hj => ?_⟩
    · cases hc : sC s i with
      | none => rw [hc] at n3; exact n3
      | some fn => rw [hc] at n3; exact ⟨n3.1, n3.2.1, rv_add hk n3.2.2⟩
    · have := n4 j hj
      generalize sL s i j = l at this ⊢
      match l, this with
      | none, h => exact h
      | some (.inl z), h =>
        obtain ⟨a, g1, g2⟩ := h
        exact ⟨a, g1, rv_add hk g2⟩
      | some (.inr z), h =>
        obtain ⟨a, kv, g1, g2, g3, g4, g5, g6⟩ := h
        exact ⟨a, kv, g1, g2, kA_o hk (by decide) g3, rvO_add hk g4, g5, by omega⟩
  · obtain ⟨fs, g1, g2⟩ := c5 i j a ha
    exact ⟨fs, kA_o hk (by decide) g1, g2⟩
  · obtain ⟨fs, g1⟩ := c6 n hn
    exact ⟨fs, kA_o hk (by decide) g1⟩
end AX
