/-! the reference's kinds: try, replace -/
section KL
variable {dA : Nat → ClassId} {b : Nat → Nat} {w : ww_W} {CC GG : mm → Prop} {QU : zQ} {P : aP} {mk B n q : Nat} {res : rP} {S S' : mm} {F : List fF} {x : Option aV} {s : aS} {y : Int32} {d : Nat} {Q : zQ}
/-- after the step, where it comes back into unwind -/
theorem U_back (hb : mB b) (hc : Ctx dA b w CC GG QU) (hcc : ∀ S : mm, CC S → (S.1 29 = 0 → GG S) ∧ (¬ S.1 29 = 0 → UU dA b w QU S)) (h : CC S) {o1 o2 o3 : Option Value} : zx dA 6 0 0 M_VectorLanguageModel_unwind 0 [some (.ref (b 0)), o1, o2, o3] [] (mw dA b w S) 0 0 QU := by
  by_cases h0 : S.1 29 = 0
  · refine z_i rfl rfl ?_
    refine m_gt hb rfl rfl ?_
    refine z_bt rfl rfl h0 ?_
    exact z_retV rfl (Nat.zero_le _) (Nat.zero_le _) (hc.2.2 S ((hcc S h).1 h0))
  · exact (hcc S h).2 h0 _ _ _
theorem U_catch (hb : mB b) (hc : Ctx dA b w CC GG QU) (hcc : ∀ S : mm, CC S → (S.1 29 = 0 → GG S) ∧ (¬ S.1 29 = 0 → UU dA b w QU S)) {e i z2 d : Nat} (IH : SIM dA b w CC QU P mk B res d) (hmk : mk ≤ 120) (hkd : kd P e = nI 24) (hz2 : pb P e = nI z2) (hzm2 : z2 < mk) (h : MR P mk B res 1000 S (fw e i 0 none none :: F) none s) (hX : ¬ sX s = 0) (h9 : ¬ sX s = 9) (ho : okI (sX s)) (hwk : wk F + 1 + d = 40)
    (hK : KK dA b w CC QU P mk B res (fw e i 1 none none :: F) (e_ev P d (uX (uL s i 9 (some (.inl (.inl [sX s])))) 0) z2 i)) : UU dA b w QU S := by
  intro o1 o2 o3
  have hlen := MR_len h
  obtain ⟨he2, hF, h20, hi, hi90⟩ := e_at hmk h
  obtain ⟨a1, _, _, _, a5, _⟩ := h.1
  rw [List.length_cons] at hlen a1
  have e25 : S.1 25 - 1 = nI F.length := by rw [a1, nI_pred]
  obtain ⟨h19, _, h21, _, _, _, he, _, _⟩ := h.2.2.2.2.2.1.1
  obtain ⟨g1, g2, g3, g4⟩ := h.2.1 e he
  rw [hkd] at g1
  rw [hz2] at g3
  refine z_i rfl rfl ?_
  refine m_gt hb rfl rfl ?_
  refine z_bf rfl rfl (show ¬ S.1 29 = 0 by rw [a5]; exact hX) ?_
  repeat first | refine z_i rfl rfl ?_ | refine m_gt hb rfl rfl ?_
  refine z_bf rfl rfl (show ¬ S.1 25 ≤ 0 by rw [a1]; exact nI_nle (by omega) (by omega)) ?_
  repeat first | refine z_i rfl rfl ?_ | refine m_gt hb rfl rfl ?_
  dsimp only
  rw [e25]
  repeat first | refine z_i rfl rfl ?_ | refine m_gt hb rfl rfl ?_
  refine m_ldv hb (j := F.length) rfl rfl rfl hF h19 ?_
  refine z_bf rfl rfl (nI_pos (by omega)) ?_
  repeat first | refine z_i rfl rfl ?_ | refine m_gt hb rfl rfl ?_
  refine m_ldv hb (j := F.length) rfl rfl rfl hF h19 ?_
  refine m_ldv hb (j := e) rfl rfl rfl he2 g1 ?_
  repeat first | refine z_i rfl rfl ?_ | refine m_gt hb rfl rfl ?_
  refine z_bf rfl rfl (fun q => q rfl) ?_
  repeat first | refine z_i rfl rfl ?_ | refine m_gt hb rfl rfl ?_
  refine m_ldv hb (j := F.length) rfl rfl rfl hF h21 ?_
  refine z_bf rfl rfl (fun q => q rfl) ?_
  repeat first | refine z_i rfl rfl ?_ | refine m_gt hb rfl rfl ?_
  refine z_bf rfl rfl (show ¬ S.1 29 = 9 by rw [a5]; exact h9) ?_
  refine z_i rfl rfl ?_
  refine z_j rfl ?_
  repeat first | refine z_i rfl rfl ?_ | refine m_gt hb rfl rfl ?_
  refine z_bt rfl rfl (show ¬ (1 : Int32) = 0 by decide) ?_
  repeat first | refine z_i rfl rfl ?_ | refine m_gt hb rfl rfl ?_
  rw [a5]
  repeat first | refine z_i rfl rfl ?_ | refine m_gt hb rfl rfl ?_
  refine m_pt hb rfl rfl ?_
  repeat first | refine z_i rfl rfl ?_ | refine m_gt hb rfl rfl ?_
  have h0 := MR_err h 0
  refine m_ldv hb (S := jI S 29 0) (j := F.length) rfl rfl rfl hF h20 ?_
  repeat first | refine z_i rfl rfl ?_ | refine m_gt hb rfl rfl ?_
  refine z_cVk [.int (sX s)] [.int 9, .int (nI i), .ref (b 0)] 3 0 0 rfl (m_obj hb) rfl rfl (Nat.le_of_ble_eq_true rfl) (Nat.le_of_ble_eq_true rfl) (by omega) (by omega) (by omega) (r_oneR hb (by omega) ho h0 (fun S1 y1 k1 k2 k3 k4 => ⟨_, rfl, ?_⟩))
  refine z_cVk [.int (nI i), .int (nI 9), .int y1] [] 0 0 0 rfl (m_obj hb) rfl rfl (Nat.le_of_ble_eq_true rfl) (Nat.le_of_ble_eq_true rfl) (by omega) (by omega) (by omega) (r_give hb (by omega) (by omega) ⟨_, rfl, ?_⟩)
  have hm1 := MR_give (i := i) (j := 9) k1 hi (by omega) k2
  repeat first | refine z_i rfl rfl ?_ | refine m_gt hb rfl rfl ?_
  refine m_st hb (j := F.length) rfl rfl rfl hF ?_
  have hm2 := MR_st (st' := 1) hm1 (by omega)
  obtain ⟨m19, m20, _⟩ := hm2.2.2.2.2.2.1.1
  obtain ⟨_, _, n3, _⟩ := hm2.2.1 e he
  rw [hz2] at n3
  repeat first | refine z_i rfl rfl ?_ | refine m_gt hb rfl rfl ?_
  refine m_ldv hb (S := jA (gvS S1 (10 * i + 9) y1) 21 F.length 1) (j := F.length) rfl rfl rfl hF m19 ?_
  refine m_ldv hb (S := jA (gvS S1 (10 * i + 9) y1) 21 F.length 1) (j := e) rfl rfl rfl he2 n3 ?_
  repeat first | refine z_i rfl rfl ?_ | refine m_gt hb rfl rfl ?_
  refine m_ldv hb (S := jA (gvS S1 (10 * i + 9) y1) 21 F.length 1) (j := F.length) rfl rfl rfl hF m20 ?_
  refine z_cVk [.int (nI z2), .int (nI i)] [] 1 0 0 rfl (m_obj hb) rfl rfl (Nat.le_of_ble_eq_true rfl) (Nat.le_of_ble_eq_true rfl) (by omega) (by omega) (by omega) (IH _ _ z2 i _ hm2 rfl hwk hzm2 hi hK 1 _ (by omega) (fun S' hS' => ⟨_, rfl, ?_⟩))
  refine z_j rfl ?_
  exact U_back hb hc hcc hS'
set_option maxRecDepth 100000 in
theorem k_try (hb : mB b) (hc : Ctx dA b w CC GG QU) (hcc : ∀ S : mm, CC S → (S.1 29 = 0 → GG S) ∧ (¬ S.1 29 = 0 → UU dA b w QU S)) (hmk : mk ≤ 120) {e i z z2 d : Nat} (IH : SIM dA b w CC QU P mk B res d) (hkd : kd P e = nI 24) (hz : pa P e = nI z) (hzm : z < mk) (hz2 : pb P e = nI z2) (hzm2 : z2 < mk) (h : MR P mk B res 1000 S (fw e i 0 none none :: F) none s) (hX : sX s = 0) (hwk : wk F + 1 + d = 40) (hok : ∀ s1 : aS, e_ev P d s z i = (none, s1) → okI (sX s1)) (hK : KK dA b w CC QU P mk B res F (e_try P (e_ev P d) s e i)) : AD dA b w CC S := by
  obtain ⟨hp0, _⟩ := p_part_ab hkd (by decide) (by decide) (by decide) (by decide)
  rw [hz] at hp0
  have hzz : tN (pa P e) = z := by rw [hz]; exact nI_clamp (by omega)
  have hzz2 : tN (pb P e) = z2 := by rw [hz2]; exact nI_clamp (by omega)
  obtain ⟨he2, hF, h20, hi, hi90⟩ := e_at hmk h
  unfold e_try at hK
  rw [hzz, hzz2] at hK
  have hend : ∀ (S2 : mm) (s2 : aS) (v : aV) (c : Option aV), sX s2 = 0 → MR P mk B res 1000 S2 (fw e i 1 (some v) c :: F) none s2 → KK dA b w CC QU P mk B res F (some v, s2) → AD dA b w CC S2 := by
    intro S2 s2 v c hX2 hm hK2
    obtain ⟨a, ea, hA⟩ := top_va hm
    have h21 := hm.2.2.2.2.2.1.1.2.2.1
    refine ad_go hb hmk hkd (by decide) hm (by decide) (fun Q hq => ?_)
    refine z_sw (t := 438) rfl (by decide) ?_
    repeat first | refine z_i rfl rfl ?_ | refine m_gt hb rfl rfl ?_
    refine m_ldv hb (j := F.length) rfl rfl rfl hF h21 ?_
    repeat first | refine z_i rfl rfl ?_ | refine m_gt hb rfl rfl ?_
    refine z_bt rfl rfl (show ¬ nI 1 = nI 2 by decide) ?_
    repeat first | refine z_i rfl rfl ?_ | refine m_gt hb rfl rfl ?_
    refine m_ldv hb (j := F.length) rfl rfl rfl hF ea ?_
    refine z_cVk [.int (nI a)] [] 0 0 0 rfl (m_obj hb) rfl rfl (Nat.le_of_ble_eq_true rfl) (Nat.le_of_ble_eq_true rfl) (by omega) (by omega) (by omega) (over_K hb hm hX2 hK2 (RT_0 hm hA) (fun S' hS' => ⟨_, rfl, ?_⟩))
    refine z_j rfl ?_
    exact z_retV rfl (Nat.zero_le _) (Nat.zero_le _) (hq _ hS')
  have hend2 : ∀ (S2 : mm) (s2 : aS) (v : aV) (a : Option aV), sX s2 = 0 → MR P mk B res 1000 S2 (fw e i 2 a (some v) :: F) none s2 → KK dA b w CC QU P mk B res F (some v, s2) → AD dA b w CC S2 := by
    intro S2 s2 v a hX2 hm hK2
    obtain ⟨c, ec, hC⟩ := top_vb hm
    have h21 := hm.2.2.2.2.2.1.1.2.2.1
    refine ad_go hb hmk hkd (by decide) hm (by decide) (fun Q hq => ?_)
    refine z_sw (t := 438) rfl (by decide) ?_
    repeat first | refine z_i rfl rfl ?_ | refine m_gt hb rfl rfl ?_
    refine m_ldv hb (j := F.length) rfl rfl rfl hF h21 ?_
    repeat first | refine z_i rfl rfl ?_ | refine m_gt hb rfl rfl ?_
    refine z_bf rfl rfl (fun q => q rfl) ?_
    repeat first | refine z_i rfl rfl ?_ | refine m_gt hb rfl rfl ?_
    refine m_ldv hb (j := F.length) rfl rfl rfl hF ec ?_
    refine z_j rfl ?_
    refine z_cVk [.int (nI c)] [] 0 0 0 rfl (m_obj hb) rfl rfl (Nat.le_of_ble_eq_true rfl) (Nat.le_of_ble_eq_true rfl) (by omega) (by omega) (by omega) (over_K hb hm hX2 hK2 (RT_0 hm hC) (fun S' hS' => ⟨_, rfl, ?_⟩))
    refine z_j rfl ?_
    exact z_retV rfl (Nat.zero_le _) (Nat.zero_le _) (hq _ hS')
  refine ad_part hb hmk hkd (by decide) h (by decide) hp0 (IH _ s z i S h hX hwk hzm hi ?_)
  refine ⟨fun v s2 hr hX2 S2 y2 hm hv d' Q hq => ?_, fun s2 hr hX2 S2 hm => ?_, fun s2 i' v hr hX2 hR S2 y2 hm hv hi' hO => ?_⟩
  · rw [hr] at hK
    have hm2 := MR_dv hm (by omega) hv
    refine r_over_w hb hmk hm (by omega) (hq _ (hc.1 _ (fun _ => hc.2.1 _ ?_ (hend _ s2 v none hX2 hm2 hK)) (fun q => absurd (hm2.1.2.2.2.2.1.trans hX2) q)))
    have hlen2 := MR_len hm2
    have a1 := hm2.1.1
    rw [List.length_cons] at a1 hlen2
    rw [a1]
    exact nI_nle (by omega) (by omega)
  · have hok2 := hok s2 hr
    rw [hr] at hK
    dsimp only at hK
    by_cases h9 : sX s2 = 9
    · rw [if_pos (Or.inr h9)] at hK
      exact U_w hb hmk hm hX2 (Or.inr (Or.inr h9)) (hK.2.1 s2 rfl hX2 _ (MR_dropW hm))
    · rw [if_neg (fun q => q.elim hX2 h9)] at hK
      exact U_catch hb hc hcc IH hmk hkd hz2 hzm2 hm hX2 h9 hok2 hwk (K_sub (g := fun v s => (some v, s)) hb hc hmk (by omega) (Or.inr (by decide)) (by rw [e_bd_id]; exact hK) (fun v s3 S3 y3 _ hX3 hm3 hK3 => hend2 S3 s3 v none hX3 hm3 hK3))
  · rw [hr] at hK
    dsimp only at hK
    rw [if_pos (Or.inl hX2)] at hK
    have hN := hm.2.2.2.2.2.2.2.2.1
    exact L_w hb (Nat.le_trans hi' hN) hmk hm (hK.2.2 s2 i' v rfl hX2 hR _ y2 (MR_dropW hm) hv hi' hO)
end KL
