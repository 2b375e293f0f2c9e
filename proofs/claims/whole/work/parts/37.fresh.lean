/-! fresh: a number of the table that nothing stands for -/
section MG
variable {dA : Nat → ClassId} {b : Nat → Nat} {w : ww_W} {S : mm} {d : Nat} {Q : zQ} {P : aP} {mk B n q : Nat} {res : rP} {F : List fF} {x : Option aV} {s : aS} {y : Int32}
theorem VR_okN {v : aV} (h : VR P mk n q S y v) : okN y := by
  obtain ⟨j, h1, h2, _⟩ := h
  exact Or.inr ⟨j, h2, h1⟩
theorem VO_okN {v : Option aV} (h : VO P mk n q S y v) : okN y := by
  cases v with
  | none => exact Or.inl h
  | some v => exact VR_okN h
theorem SL_okN {k : Nat} {l : aL} (h : SL P mk n q S k l) (hk : S.2.2.2 15 k = 1 ∨ S.2.2.2 15 k = 4) : okN (S.2.2.2 16 k) := by
  match l, h with
  | none, h => rw [show S.2.2.2 15 k = 0 from h] at hk; exact absurd hk (by decide)
  | some (.inl v), h => exact VR_okN h.2
  | some (.inr (e, i, true, o)), h => rw [h.1] at hk; exact absurd hk (by decide)
  | some (.inr (e, i, false, none)), h => rw [h.1] at hk; exact absurd hk (by decide)
  | some (.inr (e, i, false, some v)), h => exact VR_okN h.2
theorem MR_slot {k : Nat} (h : MR P mk B res q S F x s) (hk : k < 910) : (S.2.2.2 15 k = 0 ∧ 10 * (sN s + 1) ≤ k) ∨ (k / 10 ≤ sN s ∧ SL P mk (sN s) q S k (sL s (k / 10) (k % 10))) := by
  by_cases hh : 10 * (sN s + 1) ≤ k
  · exact Or.inl ⟨h.2.2.2.2.1.2 k hh hk, hh⟩
  · have := h.2.2.2.2.1.1 (k / 10) (k % 10) (by omega) (by omega)
    rw [show 10 * (k / 10) + k % 10 = k by omega] at this
    exact Or.inr ⟨by omega, this⟩
theorem FR1_okN {p : Nat} {f : fF} (h : FR1 P mk n q S p x f) : ∀ k : Nat, k = 22 ∨ k = 23 ∨ k = 24 → okN (S.2.2.2 k p) := by
  match f, h with
  | .inl (e, i, st, a, c), h =>
    rintro k (rfl | rfl | rfl)
    · exact VO_okN h.2.2.2.1
    · exact VO_okN h.2.2.2.2.1
    · exact VO_okN h.2.2.2.2.2.1
  | .inr (.inl (i, j)), h =>
    rintro k (rfl | rfl | rfl)
    · exact Or.inl h.2.2.1
    · exact Or.inl h.2.2.2.1
    · exact Or.inl h.2.2.2.2.1
  | .inr (.inr i), h =>
    rintro k (rfl | rfl | rfl)
    · exact Or.inl h.2.2.1
    · exact Or.inl h.2.2.2.1
    · exact Or.inl h.2.2.2.2.1
theorem FR_okN : ∀ (F : List fF) (x : Option aV), FR P mk n q S F x → ∀ p : Nat, p < F.length → ∀ k : Nat, k = 22 ∨ k = 23 ∨ k = 24 → okN (S.2.2.2 k p)
  | [], _, _, p, hp => by simp at hp
  | f :: F, x, h, p, hp => by
    by_cases hpF : p = F.length
    · subst hpF; exact FR1_okN h.1
    · exact FR_okN F none h.2 p (by simp at hp; omega)
theorem nvc_le (k p : Nat) : nvc S k p ≤ 1 := by unfold nvc; split <;> omega
theorem FR_cnt : ∀ (F : List fF) (x : Option aV), FR P mk n q S F x → nvC S F.length ≤ 2 * wk F + (if x = none then 0 else 1)
  | [], _, _ => by simp [nvC]
  | f :: F, x, h => by
    have ih := FR_cnt F none h.2
    rw [if_pos rfl] at ih
    show nvC S F.length + nvc S 22 F.length + nvc S 23 F.length + nvc S 24 F.length ≤ _
    have h22 := nvc_le (S := S) 22 F.length
    have h23 := nvc_le (S := S) 23 F.length
    have h24 := nvc_le (S := S) 24 F.length
    match f, h with
    | .inl (e, i, st, a, c), h =>
      show _ ≤ 2 * (wk F + 1) + _
      cases x with
      | none =>
        have : nvc S 24 F.length = 0 := by unfold nvc; rw [if_pos]; exact h.1.2.2.2.2.2.1
        simp only [if_true]
        omega
      | some v =>
        simp only [reduceCtorEq, if_false]
        omega
    | .inr (.inl (i, j)), h =>
      show _ ≤ 2 * wk F + _
      have g1 : nvc S 22 F.length = 0 := by unfold nvc; rw [if_pos h.1.2.2.1]
      have g2 : nvc S 23 F.length = 0 := by unfold nvc; rw [if_pos h.1.2.2.2.1]
      have g3 : nvc S 24 F.length = 0 := by unfold nvc; rw [if_pos h.1.2.2.2.2.1]
      omega
    | .inr (.inr i), h =>
      show _ ≤ 2 * wk F + _
      have g1 : nvc S 22 F.length = 0 := by unfold nvc; rw [if_pos h.1.2.2.1]
      have g2 : nvc S 23 F.length = 0 := by unfold nvc; rw [if_pos h.1.2.2.2.1]
      have g3 : nvc S 24 F.length = 0 := by unfold nvc; rw [if_pos h.1.2.2.2.2.1]
      omega
theorem bF_len : ∀ F : List fF, bF F → F.length ≤ 2 * wk F + 1
  | [], _ => by simp
  | _ :: _, h => h.1
theorem MR_len (h : MR P mk B res q S F x s) : F.length ≤ 81 := by
  have h1 := bF_len F h.2.2.2.2.2.2.1
  have h2 := h.2.2.2.2.2.2.2.1
  omega
theorem r_sweep (hb : mB b) (hd : 1 ≤ d) (h : MR P mk B res 1000 S F x s)
    (hQ : ∀ S' : mm, MR P mk B res 1000 S' F x s → (∃ j : Nat, 1 ≤ j ∧ j < 1000 ∧ S'.2.2.2 8 j = 0) → S'.1 9 = nI 1 → (∀ k : Nat, k ≠ 8 → S'.2.2.2 k = S.2.2.2 k) → kpI S S' → Q (.inl none) (mw dA b w S') 0 0) : zx dA d 0 0 M_VectorLanguageModel_sweep 0 (zargs 2 [.ref (b 0)]) [] (mw dA b w S) 0 0 Q := by
  have hlen := MR_len h
  have hu0 : S.2.2.2 8 0 = 1 := by
    obtain ⟨j, h1, h2, _, h4, _⟩ := h.2.2.1.2.1
    rw [← nI_0, nI_eq (by omega) (by omega)] at h1
    rw [h1]; exact h4
  refine z_i rfl rfl ?_
  refine z_i rfl rfl ?_
  have key := r_sweep1 (S := S) (Q := Q) (d := d) (dA := dA) (w := w) hb (fun U v hU0 hU1 => ?_) 999 1 (S.2.2.2 8) (by omega) (by omega) hu0 (fun j q1 q2 => by omega)
  · rw [jZ_self] at key
    exact key
  refine z_i rfl rfl ?_
  refine z_i rfl rfl ?_
  refine r_sweep2 (S := S) hb hd (fun k hk hh => ?_) (fun U2 v2 g1 g2 g3 => ?_) 910 0 U (by omega) hU0 ⟨[], by simp, fun j q1 q2 q3 => absurd (hU1 j q1 q2) q3⟩ (fun k' j q => by omega)
  · rcases MR_slot h hk with g | g
    · rw [g.1] at hh; exact absurd hh (by decide)
    · exact SL_okN g.2 hh
  refine z_i rfl rfl ?_
  refine z_i rfl rfl ?_
  refine r_sweep3 (S := S) (U0 := U2) hb hd h.1.1 (by omega) (FR_okN F x h.2.2.2.2.2.1) (fun U3 v3 k1 k2 k3 k4 => ?_) F.length 0 U2 (by omega) g1 g2 (fun j hj => hj) (fun p' q => by omega)
  repeat first | refine z_i rfl rfl ?_ | refine m_gt hb rfl rfl ?_
  refine z_cVk [.int (S.1 30)] [] 0 0 0 rfl (m_obj hb) rfl rfl (Nat.le_of_ble_eq_true rfl) (Nat.le_of_ble_eq_true rfl) (by omega) (by omega) (by omega) (r_mark hb (VO_okN h.2.2.1.2.2.1) ⟨_, rfl, ?_⟩)
  repeat first | refine z_i rfl rfl ?_ | refine m_gt hb rfl rfl ?_
  refine m_pt hb rfl rfl ?_
  refine z_retV rfl (Nat.zero_le _) (Nat.zero_le _) ?_
  have hcnt := FR_cnt F x h.2.2.2.2.2.1
  have hwk := h.2.2.2.2.2.2.2.1
  have hV : ∀ (y : Int32) (v : aV), (∀ j : Nat, y = nI j → j < 1000 → U3 j = 1) → VR P mk (sN s) 1000 S y v → VR P mk (sN s) 1000 (jI (jZ S (mkU U3 (S.1 30))) 9 1) y v := by
    intro y v hy hv
    obtain ⟨j, h1, h2, h3, h4, h5⟩ := hv
    exact ⟨j, h1, h2, h3, mkU_1 (hy j h1 h2), VC_mem (S := S) rfl (fun _ _ => rfl) h5⟩
  refine hQ _ (MR_mem h (fun k a1 a2 a3 => va_up_ne _ _ a2) ⟨rfl, fun k a1 => va_up_ne _ _ a1⟩ ⟨1, by omega, rfl⟩ (fun k hk hh v => hV _ v (fun j q1 q2 => k3 j (g3 k j hk hh q1 q2))) (fun p hp k hk v => hV _ v (fun j q1 q2 => k4 p hp k hk j q1 q2)) (fun v hv => ?_) (fun v => hV _ v (fun j q1 q2 => ?_))) ?_ rfl (fun k a2 => va_up_ne _ _ a2) ⟨rfl, fun k a1 => va_up_ne _ _ a1⟩
  · obtain ⟨j, h1, h2, h3, h4, h5⟩ := hv
    exact ⟨j, h1, h2, h3, by show mkU U3 (S.1 30) j = 1; rw [h1]; exact mkU_at h2, VC_mem (S := S) rfl (fun _ _ => rfl) h5⟩
  · rw [← nI_0, nI_eq (by omega) (by omega)] at q1
    rw [← q1]; exact k1
  · have := cov_hole (cov_le (mkU_cov (y := S.1 30) k2) (m' := 992) (by split <;> split at hcnt <;> omega)) (by omega)
    exact this
/-- what fresh leaves -/
def FS (S S' : mm) (q : Nat) (sz : Int32) : Prop := q < 1000 ∧ S'.2.2.2 7 q = sz ∧ S'.2.2.2 8 q = 1 ∧ (∀ k : Nat, k ≠ 7 → k ≠ 8 → S'.2.2.2 k = S.2.2.2 k) ∧ kpI S S'
theorem r_fresh0 (hb : mB b) {sz : Int32} {q : Nat} (hq : q < 1000) (hQ : ∀ S' : mm, mEq q S S' → FS S S' q sz → S'.1 9 = nI q → Q (.inl (some (.int (nI q)))) (mw dA b w S') 0 0) : ∀ (r k : Nat) (S' : mm), k + r = 8 → mEq q S S' → FS S S' q sz → S'.1 9 = nI q →
    zx dA d 0 0 M_VectorLanguageModel_fresh 96 [some (.ref (b 0)), some (.int sz), some (.int (nI k))] [] (mw dA b w S') 0 0 Q := by
  intro r
  induction r with
  | zero =>
    intro k S' hk h1 h2 h3
    refine z_i rfl rfl ?_
    refine z_i rfl rfl ?_
    refine z_bt rfl rfl (show nI 8 ≤ nI k from nI_le (by omega) (by omega)) ?_
    repeat first | refine z_i rfl rfl ?_ | refine m_gt hb rfl rfl ?_
    refine z_retI rfl (Nat.zero_le _) (Nat.zero_le _) ?_
    rw [h3]
    exact hQ S' h1 h2 h3
  | succ r ih =>
    intro k S' hk h1 h2 h3
    refine z_i rfl rfl ?_
    refine z_i rfl rfl ?_
    refine z_bf rfl rfl (show ¬ nI 8 ≤ nI k from nI_ge (by omega) (by omega)) ?_
    repeat first | refine z_i rfl rfl ?_ | refine m_gt hb rfl rfl ?_
    refine m_lst hb (j := 8 * q + k) rfl (by show nI 8 * S'.1 9 + nI k = _; rw [h3, pk_mul, nI_add]) (by omega) ?_
    refine z_i rfl rfl ?_
    refine z_j rfl ?_
    have := ih (k + 1) (jL S' (8 * q + k) 0) (by omega) (fun j q1 q2 => ⟨(h1 j q1 q2).1, (h1 j q1 q2).2.1, fun k' q3 => by
      rw [← (h1 j q1 q2).2.2 k' q3]
      exact pk_uLn (by omega)⟩) h2 h3
    rw [← nI_1] at this
    exact this
theorem r_fresh1 (hb : mB b) {sz : Int32} (hQ : ∀ m : Nat, m ≤ 1000 → (m < 1000 → S.2.2.2 8 m = 0) → zx dA d 0 0 M_VectorLanguageModel_fresh 35 [some (.ref (b 0)), some (.int sz), none] [] (mw dA b w (jI S 9 (nI m))) 0 0 Q) : ∀ (r m : Nat), m + r = 1000 →
    zx dA d 0 0 M_VectorLanguageModel_fresh 0 [some (.ref (b 0)), some (.int sz), none] [] (mw dA b w (jI S 9 (nI m))) 0 0 Q := by
  intro r
  induction r with
  | zero =>
    intro m hm
    repeat first | refine z_i rfl rfl ?_ | refine m_gt hb rfl rfl ?_
    refine z_bt rfl rfl (show nI 1000 ≤ nI m from nI_le (by omega) (by omega)) ?_
    exact hQ m (by omega) (fun q => by omega)
  | succ r ih =>
    intro m hm
    repeat first | refine z_i rfl rfl ?_ | refine m_gt hb rfl rfl ?_
    refine z_bf rfl rfl (show ¬ nI 1000 ≤ nI m from nI_ge (by omega) (by omega)) ?_
    repeat first | refine z_i rfl rfl ?_ | refine m_gt hb rfl rfl ?_
    refine m_zld hb (j := m) rfl rfl (by omega) ?_
    refine z_b rfl rfl (fun h => ?_) (fun h => ?_)
    · exact hQ m (by omega) (fun _ => h)
    · repeat first | refine z_i rfl rfl ?_ | refine m_gt hb rfl rfl ?_
      refine m_pt hb rfl rfl ?_
      refine z_j rfl ?_
      rw [jI_I]
      have := ih (m + 1) (by omega)
      rw [← nI_1] at this
      exact this
theorem r_fresh2 (hb : mB b) {sz : Int32} {m0 : Nat} (h0 : m0 < 1000) (hm0 : S.2.2.2 8 m0 = 0) (hQ : ∀ m : Nat, m < 1000 → S.2.2.2 8 m = 0 → zx dA d 0 0 M_VectorLanguageModel_fresh 74 [some (.ref (b 0)), some (.int sz), none] [] (mw dA b w (jI S 9 (nI m))) 0 0 Q) : ∀ (r m : Nat), m + r = m0 →
    zx dA d 0 0 M_VectorLanguageModel_fresh 49 [some (.ref (b 0)), some (.int sz), none] [] (mw dA b w (jI S 9 (nI m))) 0 0 Q := by
  intro r
  induction r with
  | zero =>
    intro m hm
    repeat first | refine z_i rfl rfl ?_ | refine m_gt hb rfl rfl ?_
    refine m_zld hb (j := m) rfl rfl (by omega) ?_
    have hmm : m = m0 := by omega
    subst hmm
    refine z_bt rfl rfl hm0 ?_
    exact hQ m h0 hm0
  | succ r ih =>
    intro m hm
    repeat first | refine z_i rfl rfl ?_ | refine m_gt hb rfl rfl ?_
    refine m_zld hb (j := m) rfl rfl (by omega) ?_
    refine z_b rfl rfl (fun h => ?_) (fun h => ?_)
    · exact hQ m (by omega) h
    · repeat first | refine z_i rfl rfl ?_ | refine m_gt hb rfl rfl ?_
      refine m_pt hb rfl rfl ?_
      refine z_j rfl ?_
      rw [jI_I]
      have := ih (m + 1) (by omega)
      rw [← nI_1] at this
      exact this
theorem r_fresh3 (hb : mB b) {sz : Int32} {q : Nat} (hq : q < 1000) (h : MR P mk B res 1000 S F x s) (h8 : S.2.2.2 8 q = 0) (hQ : ∀ S' : mm, MR P mk B res q S' F x s → FS S S' q sz → Q (.inl (some (.int (nI q)))) (mw dA b w S') 0 0) :
    zx dA d 0 0 M_VectorLanguageModel_fresh 74 [some (.ref (b 0)), some (.int sz), none] [] (mw dA b w (jI S 9 (nI q))) 0 0 Q := by
  repeat first | refine z_i rfl rfl ?_ | refine m_gt hb rfl rfl ?_
  refine m_zst hb (j := q) rfl (Or.inr rfl) rfl hq ?_
  repeat first | refine z_i rfl rfl ?_ | refine m_gt hb rfl rfl ?_
  refine m_st hb (j := q) rfl rfl rfl hq ?_
  refine z_i rfl rfl ?_
  refine z_i rfl rfl ?_
  have hmE : mEq q S (jA (jA (jI S 9 (nI q)) 8 q 1) 7 q sz) := fun j q1 q2 => ⟨pk_un q2, pk_un q2, fun _ _ => rfl⟩
  have hFS : FS S (jA (jA (jI S 9 (nI q)) 8 q 1) 7 q sz) q sz := ⟨hq, pk_us, pk_us, fun k a1 a2 => (va_up_ne _ _ a1).trans (va_up_ne _ _ a2), rfl, fun k a1 => va_up_ne _ _ a1⟩
  refine r_fresh0 (S := S) hb hq (fun S' g1 g2 g3 => hQ S' (MR_all h (fun k a1 a2 _ => g2.2.2.2.1 k a1 a2) g2.2.2.2.2 ⟨q, by omega, g3⟩ (fun y v hv => ?_)) g2) 8 0 _ (by omega) hmE hFS rfl
  obtain ⟨j, q1, q2, q3, q4, q5⟩ := hv
  have hjq : j ≠ q := fun e => by rw [e, h8] at q4; exact absurd q4 (by decide)
  obtain ⟨e1, e2, e3⟩ := g1 j q2 hjq
  exact ⟨j, q1, q2, hjq, e2.trans q4, VC_mem e1 e3 q5⟩
theorem r_fresh (hb : mB b) (hd : 2 ≤ d) {sz : Int32} (h : MR P mk B res 1000 S F x s) (hQ : ∀ (S' : mm) (q : Nat), MR P mk B res q S' F x s → FS S S' q sz → Q (.inl (some (.int (nI q)))) (mw dA b w S') 0 0) : zx dA d 0 0 M_VectorLanguageModel_fresh 0 (zargs 3 [.ref (b 0), .int sz]) [] (mw dA b w S) 0 0 Q := by
  obtain ⟨nx, hx1, hx2⟩ := h.2.2.1.1
  have h9 : ∀ m : Nat, m ≤ 1000 → MR P mk B res 1000 (jI S 9 (nI m)) F x s := fun m hm => MR_all h kpA_refl ⟨rfl, fun k a1 => va_up_ne _ _ a1⟩ ⟨m, hm, rfl⟩ (fun _ _ hv => hv)
  have key := r_fresh1 (S := S) (Q := Q) (d := d) (dA := dA) (w := w) (sz := sz) hb (fun m hm1 hm2 => ?_) (1000 - nx) nx (by omega)
  · rw [jI_self hx2] at key
    exact key
  repeat first | refine z_i rfl rfl ?_ | refine m_gt hb rfl rfl ?_
  refine z_b rfl rfl (fun hne => ?_) (fun he => ?_)
  · replace hne : ¬ nI m = nI 1000 := hne
    rw [nI_eq (by omega) (by omega)] at hne
    refine r_fresh2 (S := S) (m0 := m) hb (by omega) (hm2 (by omega)) (fun m' g1 g2 => r_fresh3 hb g1 h g2 (fun S' g3 g4 => hQ S' m' g3 g4)) 0 m (by omega)
  · replace he : nI m = nI 1000 := Classical.not_not.mp he
    rw [nI_eq (by omega) (by omega)] at he
    subst he
    repeat first | refine z_i rfl rfl ?_ | refine m_gt hb rfl rfl ?_
    refine z_cVk [] [] 1 0 0 rfl (m_obj hb) rfl rfl (Nat.le_of_ble_eq_true rfl) (Nat.le_of_ble_eq_true rfl) (by omega) (by omega) (by omega) (r_sweep hb (by omega) (h9 1000 (by omega)) (fun S1 g1 g2 g3 g4 g5 => ⟨_, rfl, ?_⟩))
    obtain ⟨m0, k1, k2, k3⟩ := g2
    have key2 := r_fresh2 (S := S1) (Q := Q) (d := d) (dA := dA) (w := w) (sz := sz) (m0 := m0) hb k2 k3 (fun m' e1 e2 => r_fresh3 hb e1 g1 e2 (fun S' e3 e4 => hQ S' m' e3 ?_)) (m0 - 1) 1 (by omega)
    · rw [jI_self g3] at key2
      exact key2
    · exact ⟨e4.1, e4.2.1, e4.2.2.1, fun k a1 a2 => (e4.2.2.2.1 k a1 a2).trans (g4 k a2), e4.2.2.2.2.1.trans g5.1, fun k a1 => (e4.2.2.2.2.2 k a1).trans ((g5.2 k a1).trans (va_up_ne _ _ a1))⟩
end MG
