/-! the reference's reset, expression-/
section RQ
variable {dA : Nat → ClassId} {b : Nat → Nat} {w : ww_W} {P : aP} {mk B : Nat} {res : rP} {S : mm} {s : aS} {d : Nat} {Q : zQ} {k ka kb kc : Int32}
/-- the global environment emptied, the others forgotten -/
def e_rst (s : aS) : aS := (va_up s.1 0 (fun _ => none, (s.1 0).2), 0, s.2.2)
theorem gl_rst : gl (e_rst s) := by
  intro j a q
  have : sL (e_rst s) 0 j = none := by unfold sL e_rst; simp only [va_up_self]
  rw [this] at q
  cases q
def jH (S : mm) (T : Nat → Int32) : mm := (S.1, S.2.1, S.2.2.1, va_up S.2.2.2 15 T)
theorem jH_A {T : Nat → Int32} {j : Nat} {t : Int32} : jA (jH S T) 15 j t = jH S (upd T j t) := by
  show (S.1, S.2.1, S.2.2.1, va_up (va_up S.2.2.2 15 T) 15 (upd (va_up S.2.2.2 15 T 15) j t)) = _
  rw [va_up_self, bx_uu]
  rfl
theorem jH_self : jH S (S.2.2.2 15) = S := by
  have : va_up S.2.2.2 15 (S.2.2.2 15) = S.2.2.2 := by
    funext k
    by_cases h : k = 15
    · subst h; exact va_up_self _ _ _
    · exact va_up_ne _ _ h
  show (S.1, S.2.1, S.2.2.1, va_up S.2.2.2 15 (S.2.2.2 15)) = S
  rw [this]
theorem r_reset_loop (hb : mB b) {n : Int32} (hQ : ∀ (T : Nat → Int32) (o2 : Option Value), (∀ j : Nat, j < 910 → T j = 0) → zx dA d 0 0 M_VectorLanguageModel_reset 37 [some (.ref (b 0)), some (.int n), o2] [] (mw dA b w (jH S T)) 0 0 Q) : ∀ (r v : Nat) (T : Nat → Int32), v + r = 910 → (∀ j : Nat, j < v → T j = 0) →
    zx dA d 0 0 M_VectorLanguageModel_reset 17 [some (.ref (b 0)), some (.int n), some (.int (nI v))] [] (mw dA b w (jH S T)) 0 0 Q := by
  intro r
  induction r with
  | zero =>
    intro v T hv hT
    refine z_i rfl rfl ?_
    refine z_i rfl rfl ?_
    refine z_bt rfl rfl (show nI 910 ≤ nI v from nI_le (by omega) (by omega)) ?_
    exact hQ T _ (fun j hj => hT j (by omega))
  | succ r ih =>
    intro v T hv hT
    refine z_i rfl rfl ?_
    refine z_i rfl rfl ?_
    refine z_bf rfl rfl (show ¬ nI 910 ≤ nI v from nI_ge (by omega) (by omega)) ?_
    repeat first | refine z_i rfl rfl ?_ | refine m_gt hb rfl rfl ?_
    refine m_st hb (j := v) rfl rfl rfl (show v < 910 by omega) ?_
    rw [jH_A]
    refine z_i rfl rfl ?_
    refine z_j rfl ?_
    have := ih (v + 1) (upd T v 0) (by omega) (fun j hj => by
      by_cases h : j = v
      · subst h; exact pk_us
      · rw [pk_un h]; exact hT j (by omega))
    rw [← nI_1] at this
    exact this
theorem r_resetR (hb : mB b) (h : IDL P mk B res S s) (hQ : ∀ S' : mm, IDL P mk B (none, -1) S' (e_rst s) → S'.1 0 = 0 → Q (.inl (some (.int (nI (sN s))))) (mw dA b w S') 0 0) : zx dA d 0 0 M_VectorLanguageModel_reset 0 (zargs 3 [.ref (b 0)]) [] (mw dA b w S) 0 0 Q := by
  obtain ⟨h, h31⟩ := h
  have a14 : S.1 14 = nI (sN s) := h.1.2.2.2.2.2.1
  repeat first | refine z_i rfl rfl ?_ | refine m_gt hb rfl rfl ?_
  refine m_pt hb rfl rfl ?_
  repeat first | refine z_i rfl rfl ?_ | refine m_gt hb rfl rfl ?_
  rw [show (jI S 0 0).1 14 = nI (sN s) from a14]
  repeat first | refine z_i rfl rfl ?_ | refine m_gt hb rfl rfl ?_
  refine m_pt hb rfl rfl ?_
  refine z_i rfl rfl ?_
  refine z_i rfl rfl ?_
  have key := r_reset_loop (S := jI (jI S 0 0) 14 0) (Q := Q) (d := d) (dA := dA) (w := w) (n := nI (sN s)) hb (fun T o2 hT => ?_) 910 0 (S.2.2.2 15) (by omega) (fun j hj => by omega)
  · rw [show jH (jI (jI S 0 0) 14 0) (S.2.2.2 15) = jI (jI S 0 0) 14 0 from jH_self] at key
    exact key
  repeat first | refine z_i rfl rfl ?_ | refine m_gt hb rfl rfl ?_
  refine m_pt hb rfl rfl ?_
  repeat first | refine z_i rfl rfl ?_ | refine m_gt hb rfl rfl ?_
  refine z_retI rfl (Nat.zero_le _) (Nat.zero_le _) (hQ _ ⟨?_, h31⟩ rfl)
  obtain ⟨⟨a1, a2, a3, a4, a5, a6, a7, a8⟩, m2, m3, m4, m5, m6, c1, c2, c3, c4, c5, c6, c7, c8, c9⟩ := h
  obtain ⟨z, z1, z2, z3, z4, z5⟩ := m3.2.1
  refine ⟨⟨a1, a2, a3, a4, a5, rfl, a7, a8⟩, m2, ⟨m3.1, ⟨z, z1, z2, z3, z4, z5⟩, rfl, rfl, rfl⟩, fun i hi => ?_, ⟨fun i j hi hj => ?_, fun k k1 k2 => hT k k2⟩, trivial, c1, c2, Nat.zero_le _, c4, c5, c6, fun i h1 h2 => ?_, ?_, fun i j hh => by cases hh⟩
  · have hi0 : i = 0 := Nat.le_zero.mp hi
    subst hi0
    have := m4 0 (Nat.zero_le _)
    have e1 : sC (e_rst s) 0 = sC s 0 := by unfold sC e_rst; simp only [va_up_self]
    have e2 : sG (e_rst s) 0 = sG s 0 := by unfold sG e_rst; simp only [va_up_self]
    rw [e1, e2]
    exact this
  · have hi0 : i = 0 := Nat.le_zero.mp hi
    subst hi0
    have e1 : sL (e_rst s) 0 j = none := by unfold sL e_rst; simp only [va_up_self]
    rw [e1]
    exact hT _ (by omega)
  · have : i ≤ 0 := h2
    omega
  · have e1 : sO (e_rst s) 0 = sO s 0 := by unfold sO e_rst; simp only [va_up_self]
    rw [e1]
    exact c8
/-- the program with one more -/
def pAdd (P : aP) (mk : Nat) (k a b c : Int32) : aP := fun e => if e = mk then (k, a, b, c) else P e
theorem pAdd_lt {e : Nat} (h : e < mk) : pAdd P mk k ka kb kc e = P e := by unfold pAdd; rw [if_neg (by omega)]
theorem pAdd_at : pAdd P mk k ka kb kc mk = (k, ka, kb, kc) := by unfold pAdd; rw [if_pos rfl]
theorem kd_add {e : Nat} (h : e < mk) : kd (pAdd P mk k ka kb kc) e = kd P e ∧ pa (pAdd P mk k ka kb kc) e = pa P e ∧ pb (pAdd P mk k ka kb kc) e = pb P e ∧ pc (pAdd P mk k ka kb kc) e = pc P e := by
  unfold kd pa pb pc
  rw [pAdd_lt h]
  exact ⟨rfl, rfl, rfl, rfl⟩
def exS (S : mm) (m : Nat) (k a b c : Int32) : mm := jI (jA (jA (jA (jA S 1 m k) 2 m a) 3 m b) 4 m c) 5 (nI (m + 1))
theorem VC_add {n z : Nat} {v : aV} (h : VC P mk n S z v) : VC (pAdd P mk k ka kb kc) (mk + 1) n S z v := by
  cases v with
  | inl xs => exact h
  | inr fn =>
    obtain ⟨h1, h2, h3, h4, h5, h6, h7, h8⟩ := h
    exact ⟨h1, h2, h3, h4, by omega, (kd_add h5).1.trans h6, h7, h8⟩
theorem VR_add {n q : Nat} {y : Int32} {v : aV} (h : VR P mk n q S y v) : VR (pAdd P mk k ka kb kc) (mk + 1) n q S y v := by
  obtain ⟨z, h1, h2, h3, h4, h5⟩ := h
  exact ⟨z, h1, h2, h3, h4, VC_add h5⟩
theorem MR_add (h : MR P mk B res 1000 S [] none s) : MR (pAdd P mk k ka kb kc) (mk + 1) B res 1000 (exS S mk k ka kb kc) [] none s := by
  obtain ⟨⟨a1, a2, a3, a4, a5, a6, a7, a8⟩, m2, m3, m4, m5, m6, m7⟩ := h
  have hV : ∀ {y : Int32} {v : aV}, VR P mk (sN s) 1000 S y v → VR (pAdd P mk k ka kb kc) (mk + 1) (sN s) 1000 (exS S mk k ka kb kc) y v := fun hv => VR_add hv
  refine ⟨⟨a1, a2, a3, a4, a5, a6, rfl, a8⟩, fun e he => ?_, ⟨m3.1, hV m3.2.1, ?_, m3.2.2.2.1, m3.2.2.2.2⟩, fun i hi => ?_, ⟨fun i j hi hj => ?_, m5.2⟩, trivial, m7⟩
  · by_cases hem : e = mk
    · subst hem
      have : kd (pAdd P e k ka kb kc) e = k ∧ pa (pAdd P e k ka kb kc) e = ka ∧ pb (pAdd P e k ka kb kc) e = kb ∧ pc (pAdd P e k ka kb kc) e = kc := by
        unfold kd pa pb pc
        rw [pAdd_at]
        exact ⟨rfl, rfl, rfl, rfl⟩
      obtain ⟨t1, t2, t3, t4⟩ := this
      rw [t1, t2, t3, t4]
      exact ⟨pk_us, pk_us, pk_us, pk_us⟩
    · obtain ⟨t1, t2, t3, t4⟩ := kd_add (P := P) (k := k) (ka := ka) (kb := kb) (kc := kc) (show e < mk by omega)
      obtain ⟨u1, u2, u3, u4⟩ := m2 e (by omega)
      rw [t1, t2, t3, t4]
      exact ⟨(pk_un hem).trans u1, (pk_un hem).trans u2, (pk_un hem).trans u3, (pk_un hem).trans u4⟩
  · obtain ⟨ro, rn⟩ := res
    cases ro with
    | none => exact m3.2.2.1
    | some v => exact hV m3.2.2.1
  · have := m4 i hi
    cases hc : sC s i with
    | none => rw [hc] at this; exact this
    | some fn =>
      rw [hc] at this
      obtain ⟨n1, n2, n3, n4, n5, n6, n7⟩ := this
      exact ⟨n1, n2, n3, by omega, (kd_add n4).1.trans n5, n6, n7⟩
  · have := m5.1 i j hi hj
    generalize sL s i j = l at this ⊢
    match l, this with
    | none, h => exact h
    | some (.inl v), h => exact ⟨h.1, hV h.2⟩
    | some (.inr (e, i, true, o)), h => exact ⟨h.1, h.2.1, h.2.2.1, h.2.2.2.1, Nat.lt_succ_of_lt h.2.2.2.2.1, h.2.2.2.2.2⟩
    | some (.inr (e, i, false, none)), h => exact ⟨h.1, h.2.1, h.2.2.1, Nat.lt_succ_of_lt h.2.2.2.1, h.2.2.2.2⟩
    | some (.inr (e, i, false, some v)), h => exact ⟨h.1, hV h.2⟩
theorem r_expressionR (hb : mB b) (hd : 3 ≤ d) (hmk : mk ≤ 120) (h : IDL P mk B res S s) (h1 : ¬ okE mk k ka kb kc → Q (.inl (some (.int 0))) (mw dA b w (jI S 0 1)) 0 0) (h2 : okE mk k ka kb kc → mk = 120 → Q (.inl (some (.int 0))) (mw dA b w (jI S 0 2)) 0 0) (h3 : okE mk k ka kb kc → mk < 120 → ∀ S' : mm, IDL (pAdd P mk k ka kb kc) (mk + 1) B res S' s → S'.1 0 = 0 → Q (.inl (some (.int (nI mk)))) (mw dA b w S') 0 0) : zx dA d 0 0 M_VectorLanguageModel_expression 0 (zargs 5 [.ref (b 0), .int k, .int ka, .int kb, .int kc]) [] (mw dA b w S) 0 0 Q := by
  obtain ⟨h, h31⟩ := h
  have a5 : S.1 5 = nI mk := h.1.2.2.2.2.2.2.1
  repeat first | refine z_i rfl rfl ?_ | refine m_gt hb rfl rfl ?_
  refine m_pt hb rfl rfl ?_
  repeat first | refine z_i rfl rfl ?_ | refine m_gt hb rfl rfl ?_
  refine z_cVk [.int k, .int ka, .int kb, .int kc] [] 2 0 0 rfl (m_obj hb) rfl rfl (Nat.le_of_ble_eq_true rfl) (Nat.le_of_ble_eq_true rfl) (by omega) (by omega) (by omega) (r_fits (S := jI S 0 0) hb (by omega) a5 hmk (fun ho => ⟨_, rfl, ?_⟩) (fun ho => ⟨_, rfl, ?_⟩))
  · refine z_bt rfl rfl (show ¬ (1 : Int32) = 0 by decide) ?_
    repeat first | refine z_i rfl rfl ?_ | refine m_gt hb rfl rfl ?_
    refine z_b rfl rfl (fun q => ?_) (fun q => ?_)
    · replace q : ¬ S.1 5 = nI 120 := q
      rw [a5, nI_eq (by omega) (by omega)] at q
      have hlt : mk < 120 := by omega
      repeat first | refine z_i rfl rfl ?_ | refine m_gt hb rfl rfl ?_
      refine m_st hb (j := mk) rfl rfl a5 hlt ?_
      repeat first | refine z_i rfl rfl ?_ | refine m_gt hb rfl rfl ?_
      refine m_st hb (j := mk) rfl rfl a5 hlt ?_
      repeat first | refine z_i rfl rfl ?_ | refine m_gt hb rfl rfl ?_
      refine m_st hb (j := mk) rfl rfl a5 hlt ?_
      repeat first | refine z_i rfl rfl ?_ | refine m_gt hb rfl rfl ?_
      refine m_st hb (j := mk) rfl rfl a5 hlt ?_
      repeat first | refine z_i rfl rfl ?_ | refine m_gt hb rfl rfl ?_
      dsimp only
      rw [show (jA (jA (jA (jA (jI S 0 0) 1 mk k) 2 mk ka) 3 mk kb) 4 mk kc).1 5 + 1 = nI (mk + 1) by
        show S.1 5 + 1 = _
        rw [a5, nI_1]]
      refine m_pt hb rfl rfl ?_
      repeat first | refine z_i rfl rfl ?_ | refine m_gt hb rfl rfl ?_
      dsimp only
      rw [show (jI (jA (jA (jA (jA (jI S 0 0) 1 mk k) 2 mk ka) 3 mk kb) 4 mk kc) 5 (nI (mk + 1))).1 5 - 1 = nI mk from nI_pred mk]
      exact z_retI rfl (Nat.zero_le _) (Nat.zero_le _) (h3 ho hlt (exS (jI S 0 0) mk k ka kb kc) ⟨by rw [show jI (exS (jI S 0 0) mk k ka kb kc) 0 0 = exS (jI S 0 0) mk k ka kb kc from jI_self rfl]; exact MR_add h, h31⟩ rfl)
    · replace q : S.1 5 = nI 120 := Classical.not_not.mp q
      rw [a5, nI_eq (by omega) (by omega)] at q
      repeat first | refine z_i rfl rfl ?_ | refine m_gt hb rfl rfl ?_
      refine z_cVk [.int 2] [] 0 0 0 rfl (m_obj hb) rfl rfl (Nat.le_of_ble_eq_true rfl) (Nat.le_of_ble_eq_true rfl) (by omega) (by omega) (by omega) (r_raise2 hb ⟨_, rfl, ?_⟩)
      rw [jI_I]
      exact z_retI rfl (Nat.zero_le _) (Nat.zero_le _) (h2 ho q)
  · refine z_bf rfl rfl (fun q => q rfl) ?_
    repeat first | refine z_i rfl rfl ?_ | refine m_gt hb rfl rfl ?_
    refine z_cVk [.int 1] [] 0 0 0 rfl (m_obj hb) rfl rfl (Nat.le_of_ble_eq_true rfl) (Nat.le_of_ble_eq_true rfl) (by omega) (by omega) (by omega) (r_raise2 hb ⟨_, rfl, ?_⟩)
    rw [jI_I]
    exact z_retI rfl (Nat.zero_le _) (Nat.zero_le _) (h1 ho)
end RQ
