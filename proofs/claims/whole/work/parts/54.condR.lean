/-! the reference's kinds: if, while -/
section KH
variable {dA : Nat → ClassId} {b : Nat → Nat} {w : ww_W} {CC GG : mm → Prop} {QU : zQ} {P : aP} {mk B n q : Nat} {res : rP} {S S' : mm} {F : List fF} {x : Option aV} {s : aS} {y : Int32} {d : Nat} {Q : zQ}
theorem r_holds (hb : mB b) (hd : 1 ≤ d) {a : Nat} {u : aV} (ha : a < 1000) (hA : VR P mk n 1000 S (nI a) u) (h29 : S.1 29 = 0) (h3 : ∀ f, u = .inr f → Q (.inl (some (.int 0))) (mw dA b w (jI S 29 3)) 0 0) (h7 : ∀ xs, u = .inl xs → p_fst xs.length (p_at xs) = pNA → Q (.inl (some (.int 0))) (mw dA b w (jI S 29 7)) 0 0) (hok : ∀ xs, u = .inl xs → ¬ p_fst xs.length (p_at xs) = pNA → Q (.inl (some (.int (if p_fst xs.length (p_at xs) = 0 then 0 else 1)))) (mw dA b w S) 0 0) : zx dA d 0 0 M_VectorLanguageModel_holds 0 (zargs 2 [.ref (b 0), .int (nI a)]) [] (mw dA b w S) 0 0 Q := by
  cases u with
  | inr f =>
    have h7a := (VR_j ha hA).1.1
    repeat first | refine z_i rfl rfl ?_ | refine m_gt hb rfl rfl ?_
    refine m_ldv hb (j := a) rfl rfl rfl ha h7a ?_
    refine z_bf rfl rfl (by decide) ?_
    repeat first | refine z_i rfl rfl ?_ | refine m_gt hb rfl rfl ?_
    refine m_pt hb rfl rfl ?_
    repeat first | refine z_i rfl rfl ?_ | refine m_gt hb rfl rfl ?_
    refine m_ldv hb (S := jI S 29 3) (j := a) rfl rfl rfl ha h7a ?_
    refine z_bf rfl rfl (show ¬ (-1 : Int32) = 0 by decide) ?_
    repeat first | refine z_i rfl rfl ?_ | refine m_gt hb rfl rfl ?_
    refine m_ldv hb (S := jI S 29 3) (j := a) rfl rfl rfl ha h7a ?_
    refine z_bt rfl rfl (by decide) ?_
    repeat first | refine z_i rfl rfl ?_ | refine m_gt hb rfl rfl ?_
    refine z_bt rfl rfl (show ¬ (3 : Int32) = 0 by decide) ?_
    repeat first | refine z_i rfl rfl ?_ | refine m_gt hb rfl rfl ?_
    exact z_retZ rfl (Or.inl rfl) (Nat.zero_le _) (Nat.zero_le _) (h3 f rfl)
  | inl xs =>
    obtain ⟨x1, x2, x3, x4⟩ := VR_inl ha hA
    have hx16 := x2.1
    have hna : p_fst xs.length (p_at xs) = pNA → zx dA d 0 0 M_VectorLanguageModel_holds 43 (zargs 2 [.ref (b 0), .int (nI a)]) [] (mw dA b w S) 0 0 Q := by
      intro hh
      repeat first | refine z_i rfl rfl ?_ | refine m_gt hb rfl rfl ?_
      refine m_pt hb rfl rfl ?_
      repeat first | refine z_i rfl rfl ?_ | refine m_gt hb rfl rfl ?_
      refine z_bt rfl rfl (show ¬ (7 : Int32) = 0 by decide) ?_
      repeat first | refine z_i rfl rfl ?_ | refine m_gt hb rfl rfl ?_
      exact z_retZ rfl (Or.inl rfl) (Nat.zero_le _) (Nat.zero_le _) (h7 xs rfl hh)
    repeat first | refine z_i rfl rfl ?_ | refine m_gt hb rfl rfl ?_
    refine m_ldv hb (j := a) rfl rfl rfl ha x1 ?_
    refine z_bt rfl rfl (nI_pos' (by omega)) ?_
    repeat first | refine z_i rfl rfl ?_ | refine m_gt hb rfl rfl ?_
    refine m_ldv hb (j := a) rfl rfl rfl ha x1 ?_
    refine z_b rfl rfl (fun g0 => hna ?_) (fun g0 => ?_)
    · unfold p_fst
      rw [if_pos ((nI_z (by omega)).mp g0)]
    have h0 : ¬ xs.length = 0 := fun q => g0 (by rw [q]; rfl)
    have e1 : p_fst xs.length (p_at xs) = p_at xs 0 := by unfold p_fst; rw [if_neg h0]
    rw [e1] at hna
    have hok' := hok xs rfl
    rw [e1] at hok'
    repeat first | refine z_i rfl rfl ?_ | refine m_gt hb rfl rfl ?_
    refine m_ldv hb (j := a) rfl rfl rfl ha x1 ?_
    refine z_bf rfl rfl (nI_nle (by omega) (by omega)) ?_
    repeat first | refine z_i rfl rfl ?_ | refine m_gt hb rfl rfl ?_
    refine z_cVk [.int (nI a), .int (nI 0)] [] 0 0 0 rfl (m_obj hb) rfl rfl (Nat.le_of_ble_eq_true rfl) (Nat.le_of_ble_eq_true rfl) (by omega) (by omega) (by omega) (r_atv hb (x3 0 (by omega)) ha (by omega) _ ⟨_, rfl, ?_⟩)
    repeat first | refine z_i rfl rfl ?_ | refine m_gt hb rfl rfl ?_
    refine z_b rfl rfl (fun g1 => ?_) (fun g1 => hna (Classical.not_not.mp g1))
    replace hok' := hok' g1
    repeat first | refine z_i rfl rfl ?_ | refine m_gt hb rfl rfl ?_
    refine z_bf rfl rfl (fun q => q h29) ?_
    repeat first | refine z_i rfl rfl ?_ | refine m_gt hb rfl rfl ?_
    refine z_cVk [.int (nI a), .int (nI 0)] [] 0 0 0 rfl (m_obj hb) rfl rfl (Nat.le_of_ble_eq_true rfl) (Nat.le_of_ble_eq_true rfl) (by omega) (by omega) (by omega) (r_atv hb (x3 0 (by omega)) ha (by omega) _ ⟨_, rfl, ?_⟩)
    refine z_b rfl rfl (fun g2 => ?_) (fun g2 => ?_)
    · rw [if_pos g2] at hok'
      repeat first | refine z_i rfl rfl ?_ | refine m_gt hb rfl rfl ?_
      exact z_retZ rfl (Or.inl rfl) (Nat.zero_le _) (Nat.zero_le _) hok'
    · rw [if_neg g2] at hok'
      repeat first | refine z_i rfl rfl ?_ | refine m_gt hb rfl rfl ?_
      refine z_j rfl ?_
      exact z_retZ rfl (Or.inr rfl) (Nat.zero_le _) (Nat.zero_le _) hok'
theorem MR_st {e i st st' : Nat} {a c : Option aV} (h : MR P mk B res 1000 S (fw e i st a c :: F) x s) (hs : st' ≤ 3) : MR P mk B res 1000 (jA S 21 F.length (nI st')) (fw e i st' a c :: F) x s := by
  obtain ⟨⟨a1, a2, a3, a4, a5, a6, a7, a8⟩, m2, m3, m4, m5, ⟨⟨f1, f2, f3, f4, f5, f6, f7, f8, f9⟩, m6⟩, c1, c2, c3, c4, c5, c6, c7, c8, c9⟩ := h
  refine ⟨⟨a1, a2, a3, a4, a5, a6, a7, a8⟩, m2, m3, m4, m5, ⟨⟨f1, f2, pk_us, f4, f5, f6, f7, f8, hs⟩, ?_⟩, c1, c2, c3, c4, c5, c6, fun i' h1 h2 => ?_, c8, fun i' j' hh => ?_⟩
  · exact FR_at (S := S) (S' := jA S 21 F.length (nI st')) (n := sN s) (q := 1000) (Nat.le_refl _) (fun _ _ hv => hv) F none (fun p hp k k1 k2 => by
      have hk' : k = 19 ∨ k = 20 ∨ k = 21 ∨ k = 22 ∨ k = 23 ∨ k = 24 := by omega
      rcases hk' with rfl | rfl | rfl | rfl | rfl | rfl <;> first | rfl | exact pk_un (by omega)) m6
  · refine (c7 i' h1 h2).trans ⟨fun q => ?_, fun q => ?_⟩
    · rcases List.mem_cons.mp q with q | q
      · cases q
      · exact List.mem_cons_of_mem _ q
    · rcases List.mem_cons.mp q with q | q
      · cases q
      · exact List.mem_cons_of_mem _ q
  · rcases List.mem_cons.mp hh with q | q
    · cases q
    · exact c9 i' j' (List.mem_cons_of_mem _ q)
theorem r_cond0 (hb : mB b) (hd : 2 ≤ d) {e i z : Nat} {a c : Option aV} (hmk : mk ≤ 120) (h : MR P mk B res 1000 S (fw e i 0 a c :: F) none s) (hz : pa P e = nI z) (hB : ∀ (d : Nat) (Q : zQ), 1 ≤ d → qC dA b w CC Q → zx dA d 0 0 M_VectorLanguageModel_begin 0 (zargs 3 [.ref (b 0), .int (nI z), .int (nI i)]) [] (mw dA b w S) 0 0 Q) (hq : qC dA b w CC Q) : zx dA d 0 0 M_VectorLanguageModel_condition 0 (zargs 6 [.ref (b 0), .int (nI F.length), .int (nI e)]) [] (mw dA b w S) 0 0 Q := by
  obtain ⟨he2, hF, h20, hi, hi90⟩ := e_at hmk h
  obtain ⟨g1, g2, g3, g4⟩ := h.2.1 e h.2.2.2.2.2.1.1.2.2.2.2.2.2.1
  have h21 := h.2.2.2.2.2.1.1.2.2.1
  rw [hz] at g2
  repeat first | refine z_i rfl rfl ?_ | refine m_gt hb rfl rfl ?_
  refine m_ldv hb (j := F.length) rfl rfl rfl hF h21 ?_
  repeat first | refine z_i rfl rfl ?_ | refine m_gt hb rfl rfl ?_
  refine z_bf rfl rfl (fun q => q rfl) ?_
  repeat first | refine z_i rfl rfl ?_ | refine m_gt hb rfl rfl ?_
  refine m_ldv hb (j := e) rfl rfl rfl he2 g2 ?_
  repeat first | refine z_i rfl rfl ?_ | refine m_gt hb rfl rfl ?_
  refine m_ldv hb (j := F.length) rfl rfl rfl hF h20 ?_
  refine z_cVk [.int (nI z), .int (nI i)] [] 1 0 0 rfl (m_obj hb) rfl rfl (Nat.le_of_ble_eq_true rfl) (Nat.le_of_ble_eq_true rfl) (by omega) (by omega) (by omega) (hB 1 _ (by omega) (fun S' hS' => ⟨_, rfl, ?_⟩))
  refine z_j rfl ?_
  exact z_retV rfl (Nat.zero_le _) (Nat.zero_le _) (hq _ hS')
theorem r_cond1 (hb : mB b) (hd : 2 ≤ d) {e i k z : Nat} {u : aV} {c : Option aV} (hmk : mk ≤ 120) (hkd : kd P e = nI k) (hk : k = 16 ∨ k = 17) (h : MR P mk B res 1000 S (fw e i 1 (some u) c :: F) none s) (hX : sX s = 0) (hz : pb P e = nI z) (hzm : z < mk) (hpc : k = 16 → pc P e = -1 ∨ ∃ z3 : Nat, z3 < mk ∧ pc P e = nI z3)
    (h3 : ∀ f, u = .inr f → CC (jI S 29 3)) (h7 : ∀ xs, u = .inl xs → p_fst xs.length (p_at xs) = pNA → CC (jI S 29 7))
    (hB1 : ∀ xs, u = .inl xs → ¬ p_fst xs.length (p_at xs) = pNA → ¬ p_fst xs.length (p_at xs) = 0 → ∀ (d : Nat) (Q : zQ), 1 ≤ d → qC dA b w CC Q → zx dA d 0 0 M_VectorLanguageModel_begin 0 (zargs 3 [.ref (b 0), .int (nI z), .int (nI i)]) [] (mw dA b w S) 0 0 Q)
    (hB0 : ∀ xs, u = .inl xs → ¬ p_fst xs.length (p_at xs) = pNA → p_fst xs.length (p_at xs) = 0 → k = 16 → ∀ z3 : Nat, z3 < mk → pc P e = nI z3 → ∀ (d : Nat) (Q : zQ), 1 ≤ d → qC dA b w CC Q → zx dA d 0 0 M_VectorLanguageModel_begin 0 (zargs 3 [.ref (b 0), .int (nI z3), .int (nI i)]) [] (mw dA b w S) 0 0 Q)
    (hO : ∀ xs, u = .inl xs → ¬ p_fst xs.length (p_at xs) = pNA → p_fst xs.length (p_at xs) = 0 → (k = 17 ∨ pc P e = -1) → ∀ (d : Nat) (Q : zQ), qC dA b w CC Q → zx dA d 0 0 M_VectorLanguageModel_over 0 (zargs 3 [.ref (b 0), .int 0]) [] (mw dA b w S) 0 0 Q)
    (hq : qC dA b w CC Q) : zx dA d 0 0 M_VectorLanguageModel_condition 0 (zargs 6 [.ref (b 0), .int (nI F.length), .int (nI e)]) [] (mw dA b w S) 0 0 Q := by
  obtain ⟨he2, hF, h20, hi, hi90⟩ := e_at hmk h
  obtain ⟨g1, g2, g3, g4⟩ := h.2.1 e h.2.2.2.2.2.1.1.2.2.2.2.2.2.1
  have h21 := h.2.2.2.2.2.1.1.2.2.1
  have h29 : S.1 29 = 0 := h.1.2.2.2.2.1.trans hX
  obtain ⟨a, ea, hA⟩ := top_va h
  rw [hkd] at g1
  rw [hz] at g3
  have hbeg : ∀ (z0 : Nat) (v3 v4 : Int32), z0 < 120 → (∀ (d : Nat) (Q : zQ), 1 ≤ d → qC dA b w CC Q → zx dA d 0 0 M_VectorLanguageModel_begin 0 (zargs 3 [.ref (b 0), .int (nI z0), .int (nI i)]) [] (mw dA b w S) 0 0 Q) → zx dA d 0 0 M_VectorLanguageModel_condition 129 [some (.ref (b 0)), some (.int (nI F.length)), some (.int (nI e)), some (.int v3), some (.int v4), none] [.int (nI z0)] (mw dA b w S) 0 0 Q := by
    intro z0 v3 v4 hz0 hB
    repeat first | refine z_i rfl rfl ?_ | refine m_gt hb rfl rfl ?_
    refine z_bt rfl rfl (nI_pos' (by omega)) ?_
    repeat first | refine z_i rfl rfl ?_ | refine m_gt hb rfl rfl ?_
    refine m_ldv hb (j := F.length) rfl rfl rfl hF h20 ?_
    refine z_cVk [.int (nI z0), .int (nI i)] [] 1 0 0 rfl (m_obj hb) rfl rfl (Nat.le_of_ble_eq_true rfl) (Nat.le_of_ble_eq_true rfl) (by omega) (by omega) (by omega) (hB 1 _ (by omega) (fun S' hS' => ⟨_, rfl, ?_⟩))
    exact z_retV rfl (Nat.zero_le _) (Nat.zero_le _) (hq _ hS')
  have hovr : ∀ (v3 v4 : Int32), (∀ (d : Nat) (Q : zQ), qC dA b w CC Q → zx dA d 0 0 M_VectorLanguageModel_over 0 (zargs 3 [.ref (b 0), .int 0]) [] (mw dA b w S) 0 0 Q) → zx dA d 0 0 M_VectorLanguageModel_condition 129 [some (.ref (b 0)), some (.int (nI F.length)), some (.int (nI e)), some (.int v3), some (.int v4), none] [.int (-1)] (mw dA b w S) 0 0 Q := by
    intro v3 v4 hB
    repeat first | refine z_i rfl rfl ?_ | refine m_gt hb rfl rfl ?_
    refine z_bf rfl rfl (show ¬ (0 : Int32) ≤ -1 by decide) ?_
    repeat first | refine z_i rfl rfl ?_ | refine m_gt hb rfl rfl ?_
    refine z_cVk [.int 0] [] 0 0 0 rfl (m_obj hb) rfl rfl (Nat.le_of_ble_eq_true rfl) (Nat.le_of_ble_eq_true rfl) (by omega) (by omega) (by omega) (hB 0 _ (fun S' hS' => ⟨_, rfl, ?_⟩))
    refine z_j rfl ?_
    exact z_retV rfl (Nat.zero_le _) (Nat.zero_le _) (hq _ hS')
  repeat first | refine z_i rfl rfl ?_ | refine m_gt hb rfl rfl ?_
  refine m_ldv hb (j := F.length) rfl rfl rfl hF h21 ?_
  repeat first | refine z_i rfl rfl ?_ | refine m_gt hb rfl rfl ?_
  refine z_bt rfl rfl (show ¬ nI 1 = 0 by decide) ?_
  repeat first | refine z_i rfl rfl ?_ | refine m_gt hb rfl rfl ?_
  refine z_bt rfl rfl (show ¬ nI 1 = nI 2 by decide) ?_
  repeat first | refine z_i rfl rfl ?_ | refine m_gt hb rfl rfl ?_
  refine z_bt rfl rfl (show ¬ nI 1 = nI 2 by decide) ?_
  repeat first | refine z_i rfl rfl ?_ | refine m_gt hb rfl rfl ?_
  refine m_ldv hb (j := F.length) rfl rfl rfl hF ea ?_
  refine z_cVk [.int (nI a)] [] 1 0 0 rfl (m_obj hb) rfl rfl (Nat.le_of_ble_eq_true rfl) (Nat.le_of_ble_eq_true rfl) (by omega) (by omega) (by omega) (r_holds hb (by omega) hA.1 (RT_0 h hA) h29 (fun f hf => ⟨_, rfl, ?_⟩) (fun xs hxs hx => ⟨_, rfl, ?_⟩) (fun xs hxs hx => ⟨_, rfl, ?_⟩))
  · repeat first | refine z_i rfl rfl ?_ | refine m_gt hb rfl rfl ?_
    refine z_bf rfl rfl (show ¬ (3 : Int32) = 0 by decide) ?_
    exact z_retV rfl (Nat.zero_le _) (Nat.zero_le _) (hq _ (h3 f hf))
  · repeat first | refine z_i rfl rfl ?_ | refine m_gt hb rfl rfl ?_
    refine z_bf rfl rfl (show ¬ (7 : Int32) = 0 by decide) ?_
    exact z_retV rfl (Nat.zero_le _) (Nat.zero_le _) (hq _ (h7 xs hxs hx))
  · by_cases h0 : p_fst xs.length (p_at xs) = 0
    · rw [if_pos h0]
      repeat first | refine z_i rfl rfl ?_ | refine m_gt hb rfl rfl ?_
      refine z_bt rfl rfl h29 ?_
      repeat first | refine z_i rfl rfl ?_ | refine m_gt hb rfl rfl ?_
      refine z_bt rfl rfl rfl ?_
      repeat first | refine z_i rfl rfl ?_ | refine m_gt hb rfl rfl ?_
      refine m_ldv hb (j := e) rfl rfl rfl he2 g1 ?_
      repeat first | refine z_i rfl rfl ?_ | refine m_gt hb rfl rfl ?_
      rcases hk with rfl | rfl
      · refine z_bf rfl rfl (fun q => q rfl) ?_
        repeat first | refine z_i rfl rfl ?_ | refine m_gt hb rfl rfl ?_
        rcases hpc rfl with hp | ⟨z3, hz3, hp⟩
        · rw [hp] at g4
          refine m_ldv hb (j := e) rfl rfl rfl he2 g4 ?_
          refine z_j rfl ?_
          exact hovr _ _ (hO xs hxs hx h0 (Or.inr hp))
        · rw [hp] at g4
          refine m_ldv hb (j := e) rfl rfl rfl he2 g4 ?_
          refine z_j rfl ?_
          exact hbeg z3 _ _ (by omega) (hB0 xs hxs hx h0 rfl z3 hz3 hp)
      · refine z_bt rfl rfl (show ¬ nI 17 = nI 16 by decide) ?_
        refine z_i rfl rfl ?_
        exact hovr _ _ (hO xs hxs hx h0 (Or.inl rfl))
    · rw [if_neg h0]
      repeat first | refine z_i rfl rfl ?_ | refine m_gt hb rfl rfl ?_
      refine z_bt rfl rfl h29 ?_
      repeat first | refine z_i rfl rfl ?_ | refine m_gt hb rfl rfl ?_
      refine z_bf rfl rfl (show ¬ (1 : Int32) = 0 by decide) ?_
      repeat first | refine z_i rfl rfl ?_ | refine m_gt hb rfl rfl ?_
      refine m_ldv hb (j := e) rfl rfl rfl he2 g3 ?_
      refine z_j rfl ?_
      exact hbeg z _ _ (by omega) (hB1 xs hxs hx h0)
set_option maxRecDepth 100000 in
theorem k_if (hb : mB b) (hc : Ctx dA b w CC GG QU) (hmk : mk ≤ 120) {e i z z2 d : Nat} (IH : SIM dA b w CC QU P mk B res d) (hkd : kd P e = nI 16) (hz : pa P e = nI z) (hzm : z < mk) (hz2 : pb P e = nI z2) (hzm2 : z2 < mk) (hpc : pc P e = -1 ∨ ∃ z3 : Nat, z3 < mk ∧ pc P e = nI z3) (h : MR P mk B res 1000 S (fw e i 0 none none :: F) none s) (hX : sX s = 0) (hwk : wk F + 1 + d = 40) (hK : KK dA b w CC QU P mk B res F (e_if P (e_ev P d) s e i)) : AD dA b w CC S := by
  have hzz : tN (pa P e) = z := by rw [hz]; exact nI_clamp (by omega)
  have hzz2 : tN (pb P e) = z2 := by rw [hz2]; exact nI_clamp (by omega)
  have h24 : ¬ kd P e = 24 := kd_ne hkd (by decide) (j := 24) (by decide) (by decide)
  obtain ⟨he2, hF, h20, hi, hi90⟩ := e_at hmk h
  unfold e_if e_cond e_bv at hK
  rw [hzz, hzz2] at hK
  refine ad_go hb hmk hkd (by decide) h (by decide) (fun Q hq => ?_)
  refine z_sw (t := 325) rfl (by decide) ?_
  repeat first | refine z_i rfl rfl ?_ | refine m_gt hb rfl rfl ?_
  refine z_cVk [.int (nI F.length), .int (nI e)] [] 2 0 0 rfl (m_obj hb) rfl rfl (Nat.le_of_ble_eq_true rfl) (Nat.le_of_ble_eq_true rfl) (by omega) (by omega) (by omega) (r_cond0 (CC := CC) hb (by omega) hmk h hz (IH _ s z i S h hX hwk hzm hi (K_sub hb hc hmk (by omega) (Or.inl h24) hK (fun u s2 S2 y2 _ hX2 hm hK2 => ?_))) (fun S' hS' => ⟨_, rfl, ?_⟩))
  · have hlast : ∀ (z0 : Nat), z0 < mk → KK dA b w CC QU P mk B res F (e_ev P d s2 z0 i) → ∀ (d' : Nat) (Q : zQ), 1 ≤ d' → qC dA b w CC Q → zx dA d' 0 0 M_VectorLanguageModel_begin 0 (zargs 3 [.ref (b 0), .int (nI z0), .int (nI i)]) [] (mw dA b w S2) 0 0 Q := by
      intro z0 hz0 hK0
      refine IH _ s2 z0 i S2 hm hX2 hwk hz0 (e_at hmk hm).2.2.2.1 (K_sub (g := fun v s => (some v, s)) hb hc hmk (by omega) (Or.inl h24) (by rw [e_bd_id]; exact hK0) (fun v s3 S3 y3 _ hX3 hm3 hK3 => ?_))
      obtain ⟨c, ec, hC⟩ := top_vb hm3
      have h21 := hm3.2.2.2.2.2.1.1.2.2.1
      obtain ⟨g1, g2, g3, g4⟩ := hm3.2.1 e hm3.2.2.2.2.2.1.1.2.2.2.2.2.2.1
      rw [hkd] at g1
      refine ad_go hb hmk hkd (by decide) hm3 (by decide) (fun Q hq => ?_)
      refine z_sw (t := 325) rfl (by decide) ?_
      repeat first | refine z_i rfl rfl ?_ | refine m_gt hb rfl rfl ?_
      refine z_cVk [.int (nI F.length), .int (nI e)] [] 2 0 0 rfl (m_obj hb) rfl rfl (Nat.le_of_ble_eq_true rfl) (Nat.le_of_ble_eq_true rfl) (by omega) (by omega) (by omega) (?_)
      repeat first | refine z_i rfl rfl ?_ | refine m_gt hb rfl rfl ?_
      refine m_ldv hb (j := F.length) rfl rfl rfl hF h21 ?_
      repeat first | refine z_i rfl rfl ?_ | refine m_gt hb rfl rfl ?_
      refine z_bt rfl rfl (show ¬ nI 2 = 0 by decide) ?_
      repeat first | refine z_i rfl rfl ?_ | refine m_gt hb rfl rfl ?_
      refine z_bf rfl rfl (fun q => q rfl) ?_
      repeat first | refine z_i rfl rfl ?_ | refine m_gt hb rfl rfl ?_
      refine m_ldv hb (j := e) rfl rfl rfl he2 g1 ?_
      repeat first | refine z_i rfl rfl ?_ | refine m_gt hb rfl rfl ?_
      refine z_bt rfl rfl (show ¬ nI 16 = nI 17 by decide) ?_
      repeat first | refine z_i rfl rfl ?_ | refine m_gt hb rfl rfl ?_
      refine z_bf rfl rfl (fun q => q rfl) ?_
      repeat first | refine z_i rfl rfl ?_ | refine m_gt hb rfl rfl ?_
      refine m_ldv hb (j := F.length) rfl rfl rfl hF ec ?_
      refine z_cVk [.int (nI c)] [] 0 0 0 rfl (m_obj hb) rfl rfl (Nat.le_of_ble_eq_true rfl) (Nat.le_of_ble_eq_true rfl) (by omega) (by omega) (by omega) (over_K hb hm3 hX3 hK3 (RT_0 hm3 hC) (fun S' hS' => ⟨_, rfl, ?_⟩))
      refine z_j rfl ?_
      refine z_retV rfl (Nat.zero_le _) (Nat.zero_le _) ⟨_, rfl, ?_⟩
      refine z_j rfl ?_
      exact z_retV rfl (Nat.zero_le _) (Nat.zero_le _) (hq _ hS')
    refine ad_go hb hmk hkd (by decide) hm (by decide) (fun Q hq => ?_)
    refine z_sw (t := 325) rfl (by decide) ?_
    repeat first | refine z_i rfl rfl ?_ | refine m_gt hb rfl rfl ?_
    refine z_cVk [.int (nI F.length), .int (nI e)] [] 2 0 0 rfl (m_obj hb) rfl rfl (Nat.le_of_ble_eq_true rfl) (Nat.le_of_ble_eq_true rfl) (by omega) (by omega) (by omega) (r_cond1 (CC := CC) hb (by omega) hmk hkd (Or.inl rfl) hm hX2 hz2 hzm2 (fun _ => hpc) (fun f hf => ?_) (fun xs hxs hx => ?_) (fun xs hxs hx h0 => hlast z2 hzm2 ?_) (fun xs hxs hx h0 _ z3 hz3 hp => hlast z3 hz3 ?_) (fun xs hxs hx h0 hp d' Q' hq' => ?_) (fun S' hS' => ⟨_, rfl, ?_⟩))
    · subst hf
      exact cc_fail hb hc hmk (MR_err hm 3) (show ¬ (3 : Int32) = 0 by decide) (Or.inl h24) hK2
    · subst hxs
      dsimp only [e_vec] at hK2
      rw [if_pos hx] at hK2
      exact cc_fail hb hc hmk (MR_err hm 7) (show ¬ (7 : Int32) = 0 by decide) (Or.inl h24) hK2
    · subst hxs
      dsimp only [e_vec] at hK2
      rw [if_neg hx, if_neg h0] at hK2
      exact hK2
    · subst hxs
      dsimp only [e_vec] at hK2
      rw [if_neg hx, if_pos h0, if_neg (by rw [hp]; exact nI_n1 (by omega)), show tN (pc P e) = z3 by rw [hp]; exact nI_clamp (by omega)] at hK2
      exact hK2
    · subst hxs
      have hp' : pc P e = -1 := by
        rcases hp with q | q
        · cases q
        · exact q
      dsimp only [e_vec] at hK2
      rw [if_neg hx, if_pos h0, if_pos hp'] at hK2
      exact over_K hb hm hX2 hK2 hm.2.2.1.2.1 hq'
    · refine z_j rfl ?_
      exact z_retV rfl (Nat.zero_le _) (Nat.zero_le _) (hq _ hS')
  · refine z_j rfl ?_
    exact z_retV rfl (Nat.zero_le _) (Nat.zero_le _) (hq _ hS')
set_option maxRecDepth 100000 in
theorem k_whl (hb : mB b) (hc : Ctx dA b w CC GG QU) (hmk : mk ≤ 120) {e i z z2 d : Nat} (IH : SIM dA b w CC QU P mk B res d) (hkd : kd P e = nI 17) (hz : pa P e = nI z) (hzm : z < mk) (hz2 : pb P e = nI z2) (hzm2 : z2 < mk) (hwk : wk F + 1 + d = 40) : ∀ (r : Nat) (s : aS) (S : mm) (a c : Option aV), 401 ≤ r + sT s → MR P mk B res 1000 S (fw e i 0 a c :: F) none s → sX s = 0 → KK dA b w CC QU P mk B res F (e_whl P (e_ev P d) e i r s) → AD dA b w CC S := by
  intro r
  have hzz : tN (pa P e) = z := by rw [hz]; exact nI_clamp (by omega)
  have hzz2 : tN (pb P e) = z2 := by rw [hz2]; exact nI_clamp (by omega)
  have h24 : ¬ kd P e = 24 := kd_ne hkd (by decide) (j := 24) (by decide) (by decide)
  induction r with
  | zero =>
    intro s S a c hr h
    have := h.2.2.2.2.2.2.2.2.2.1
    omega
  | succ r ih =>
    intro s S a c hr h hX hK
    obtain ⟨he2, hF, h20, hi, hi90⟩ := e_at hmk h
    unfold e_whl e_cond e_bv at hK
    rw [hzz, hzz2] at hK
    refine ad_go hb hmk hkd (by decide) h (by decide) (fun Q hq => ?_)
    refine z_sw (t := 325) rfl (by decide) ?_
    repeat first | refine z_i rfl rfl ?_ | refine m_gt hb rfl rfl ?_
    refine z_cVk [.int (nI F.length), .int (nI e)] [] 2 0 0 rfl (m_obj hb) rfl rfl (Nat.le_of_ble_eq_true rfl) (Nat.le_of_ble_eq_true rfl) (by omega) (by omega) (by omega) (r_cond0 (CC := CC) hb (by omega) hmk h hz (IH _ s z i S h hX hwk hzm hi (K_sub hb hc hmk (by omega) (Or.inl h24) hK (fun u s2 S2 y2 hev hX2 hm hK2 => ?_))) (fun S' hS' => ⟨_, rfl, ?_⟩))
    · have hT := T_ev1 hev
      refine ad_go hb hmk hkd (by decide) hm (by decide) (fun Q hq => ?_)
      refine z_sw (t := 325) rfl (by decide) ?_
      repeat first | refine z_i rfl rfl ?_ | refine m_gt hb rfl rfl ?_
      refine z_cVk [.int (nI F.length), .int (nI e)] [] 2 0 0 rfl (m_obj hb) rfl rfl (Nat.le_of_ble_eq_true rfl) (Nat.le_of_ble_eq_true rfl) (by omega) (by omega) (by omega) (r_cond1 (CC := CC) hb (by omega) hmk hkd (Or.inr rfl) hm hX2 hz2 hzm2 (fun q => by cases q) (fun f hf => ?_) (fun xs hxs hx => ?_) (fun xs hxs hx h0 => ?_) (fun xs hxs hx h0 q => by cases q) (fun xs hxs hx h0 hp d' Q' hq' => ?_) (fun S' hS' => ⟨_, rfl, ?_⟩))
      · subst hf
        exact cc_fail hb hc hmk (MR_err hm 3) (show ¬ (3 : Int32) = 0 by decide) (Or.inl h24) hK2
      · subst hxs
        dsimp only [e_vec] at hK2
        rw [if_pos hx] at hK2
        exact cc_fail hb hc hmk (MR_err hm 7) (show ¬ (7 : Int32) = 0 by decide) (Or.inl h24) hK2
      · subst hxs
        dsimp only [e_vec] at hK2
        rw [if_neg hx, if_neg h0] at hK2
        refine IH _ s2 z2 i S2 hm hX2 hwk hzm2 (e_at hmk hm).2.2.2.1 (K_sub hb hc hmk (by omega) (Or.inl h24) hK2 (fun v s3 S3 y3 hev3 hX3 hm3 hK3 => ?_))
        have hT3 := T_ev1 hev3
        have h21 := hm3.2.2.2.2.2.1.1.2.2.1
        obtain ⟨g1, g2, g3, g4⟩ := hm3.2.1 e hm3.2.2.2.2.2.1.1.2.2.2.2.2.2.1
        rw [hkd] at g1
        refine ad_go hb hmk hkd (by decide) hm3 (by decide) (fun Q hq => ?_)
        refine z_sw (t := 325) rfl (by decide) ?_
        repeat first | refine z_i rfl rfl ?_ | refine m_gt hb rfl rfl ?_
        refine z_cVk [.int (nI F.length), .int (nI e)] [] 2 0 0 rfl (m_obj hb) rfl rfl (Nat.le_of_ble_eq_true rfl) (Nat.le_of_ble_eq_true rfl) (by omega) (by omega) (by omega) (?_)
        repeat first | refine z_i rfl rfl ?_ | refine m_gt hb rfl rfl ?_
        refine m_ldv hb (j := F.length) rfl rfl rfl hF h21 ?_
        repeat first | refine z_i rfl rfl ?_ | refine m_gt hb rfl rfl ?_
        refine z_bt rfl rfl (show ¬ nI 2 = 0 by decide) ?_
        repeat first | refine z_i rfl rfl ?_ | refine m_gt hb rfl rfl ?_
        refine z_bf rfl rfl (fun q => q rfl) ?_
        repeat first | refine z_i rfl rfl ?_ | refine m_gt hb rfl rfl ?_
        refine m_ldv hb (j := e) rfl rfl rfl he2 g1 ?_
        repeat first | refine z_i rfl rfl ?_ | refine m_gt hb rfl rfl ?_
        refine z_bf rfl rfl (fun q => q rfl) ?_
        repeat first | refine z_i rfl rfl ?_ | refine m_gt hb rfl rfl ?_
        refine m_st hb (j := F.length) rfl rfl rfl hF ?_
        refine z_j rfl ?_
        refine z_retV rfl (Nat.zero_le _) (Nat.zero_le _) ⟨_, rfl, ?_⟩
        refine z_j rfl ?_
        refine z_retV rfl (Nat.zero_le _) (Nat.zero_le _) (hq _ ?_)
        have hm4 := MR_st (st' := 0) hm3 (by omega)
        have hlen4 := MR_len hm4
        obtain ⟨b1, _, _, _, b5, _⟩ := hm4.1
        rw [List.length_cons] at b1 hlen4
        show CC (jA S3 21 F.length (nI 0))
        exact hc.1 _ (fun _ => hc.2.1 _ (by rw [b1]; exact nI_nle (by omega) (by omega)) (ih s3 _ _ _ (by omega) hm4 hX3 hK3)) (fun q => absurd (b5.trans hX3) q)
      · subst hxs
        dsimp only [e_vec] at hK2
        rw [if_neg hx, if_pos h0] at hK2
        exact over_K hb hm hX2 hK2 hm.2.2.1.2.1 hq'
      · refine z_j rfl ?_
        exact z_retV rfl (Nat.zero_le _) (Nat.zero_le _) (hq _ hS')
    · refine z_j rfl ?_
      exact z_retV rfl (Nat.zero_le _) (Nat.zero_le _) (hq _ hS')
end KH
