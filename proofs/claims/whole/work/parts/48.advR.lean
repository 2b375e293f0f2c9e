/-! the reference's advance: its head, its parts; what is common to the kinds -/
def p_prt (k : Nat) : Nat := if k = 4 ∨ k = 5 ∨ k = 9 ∨ k = 14 ∨ k = 15 ∨ k = 20 ∨ k = 22 ∨ k = 23 ∨ k = 24 then 1 else if k = 6 ∨ k = 7 ∨ k = 8 ∨ k = 10 ∨ k = 11 ∨ k = 12 ∨ k = 13 ∨ k = 18 ∨ k = 25 then 2 else 0
def p_part (P : aP) (e st : Nat) : Int32 := if kd P e = 4 then pb P e else if kd P e = 5 then pb P e else if kd P e = 13 then (if st = 0 then pb P e else pc P e) else if st = 0 then pa P e else pb P e
theorem p_prt_le (k : Nat) : p_prt k ≤ 2 := by
  unfold p_prt
  repeat' split
  all_goals omega
section AV
variable {dA : Nat → ClassId} {b : Nat → Nat} {w : ww_W} {CC GG : mm → Prop} {QU : zQ} {P : aP} {mk B n q : Nat} {res : rP} {S S' : mm} {F : List fF} {x : Option aV} {s : aS} {y : Int32} {d : Nat} {Q : zQ}
theorem r_parts {k : Nat} (hk : k < 26) {w : ww_W} (hQ : Q (.inl (some (.int (nI (p_prt k))))) w 0 0) : zx dA d 0 0 M_VectorLanguageModel_parts 0 (zargs 1 [.int (nI k)]) [] w 0 0 Q := by
  refine z_i rfl rfl ?_
  have hk' : k = 0 ∨ k = 1 ∨ k = 2 ∨ k = 3 ∨ k = 4 ∨ k = 5 ∨ k = 6 ∨ k = 7 ∨ k = 8 ∨ k = 9 ∨ k = 10 ∨ k = 11 ∨ k = 12 ∨ k = 13 ∨ k = 14 ∨ k = 15 ∨ k = 16 ∨ k = 17 ∨ k = 18 ∨ k = 19 ∨ k = 20 ∨ k = 21 ∨ k = 22 ∨ k = 23 ∨ k = 24 ∨ k = 25 := by omega
  rcases hk' with rfl | rfl | rfl | rfl | rfl | rfl | rfl | rfl | rfl | rfl | rfl | rfl | rfl | rfl | rfl | rfl | rfl | rfl | rfl | rfl | rfl | rfl | rfl | rfl | rfl | rfl
  all_goals first | refine z_sw (t := 104) rfl (by decide) ?_ | refine z_sw (t := 106) rfl (by decide) ?_ | refine z_sw (t := 108) rfl (by decide) ?_
  all_goals refine z_i rfl rfl ?_
  all_goals exact z_retI rfl (Nat.zero_le _) (Nat.zero_le _) hQ
theorem r_part (hb : mB b) {e st : Nat} (hmk : mk ≤ 120) (he : e < mk) (hst : st ≤ 1) (h : MR P mk B res 1000 S F x s) (hQ : Q (.inl (some (.int (p_part P e st)))) (mw dA b w S) 0 0) : zx dA d 0 0 M_VectorLanguageModel_part 0 (zargs 4 [.ref (b 0), .int (nI e), .int (nI st)]) [] (mw dA b w S) 0 0 Q := by
  obtain ⟨g1, g2, g3, g4⟩ := h.2.1 e he
  have he2 : e < 120 := by omega
  unfold p_part at hQ
  have hb' : (kd P e = 4 ∨ kd P e = 5) → zx dA d 0 0 M_VectorLanguageModel_part 17 [some (.ref (b 0)), some (.int (nI e)), some (.int (nI st)), some (.int (kd P e))] [] (mw dA b w S) 0 0 Q := by
    intro hh
    have : (if kd P e = 4 then pb P e else if kd P e = 5 then pb P e else if kd P e = 13 then (if st = 0 then pb P e else pc P e) else if st = 0 then pa P e else pb P e) = pb P e := by
      rcases hh with q | q
      · rw [if_pos q]
      · by_cases q4 : kd P e = 4
        · rw [if_pos q4]
        · rw [if_neg q4, if_pos q]
    rw [this] at hQ
    repeat first | refine z_i rfl rfl ?_ | refine m_gt hb rfl rfl ?_
    refine m_ldv hb (j := e) rfl rfl rfl he2 g3 ?_
    exact z_retI rfl (Nat.zero_le _) (Nat.zero_le _) hQ
  repeat first | refine z_i rfl rfl ?_ | refine m_gt hb rfl rfl ?_
  refine m_ldv hb (j := e) rfl rfl rfl he2 g1 ?_
  repeat first | refine z_i rfl rfl ?_ | refine m_gt hb rfl rfl ?_
  refine z_b rfl rfl (fun k1 => hb' (Or.inl k1)) (fun k1 => ?_)
  replace k1 : ¬ kd P e = 4 := k1
  repeat first | refine z_i rfl rfl ?_ | refine m_gt hb rfl rfl ?_
  refine z_b rfl rfl (fun k2 => ?_) (fun k2 => hb' (Or.inr (Classical.not_not.mp k2)))
  replace k2 : ¬ kd P e = 5 := k2
  rw [if_neg k1, if_neg k2] at hQ
  repeat first | refine z_i rfl rfl ?_ | refine m_gt hb rfl rfl ?_
  refine z_b rfl rfl (fun k3 => ?_) (fun k3 => ?_)
  · replace k3 : ¬ kd P e = 13 := k3
    rw [if_neg k3] at hQ
    repeat first | refine z_i rfl rfl ?_ | refine m_gt hb rfl rfl ?_
    refine z_b rfl rfl (fun k4 => ?_) (fun k4 => ?_)
    · rw [if_neg (fun q => k4 (by rw [q]; rfl))] at hQ
      repeat first | refine z_i rfl rfl ?_ | refine m_gt hb rfl rfl ?_
      refine m_ldv hb (j := e) rfl rfl rfl he2 g3 ?_
      exact z_retI rfl (Nat.zero_le _) (Nat.zero_le _) hQ
    · rw [if_pos ((nI_z (by omega)).mp (Classical.not_not.mp k4))] at hQ
      repeat first | refine z_i rfl rfl ?_ | refine m_gt hb rfl rfl ?_
      refine m_ldv hb (j := e) rfl rfl rfl he2 g2 ?_
      refine z_j rfl ?_
      exact z_retI rfl (Nat.zero_le _) (Nat.zero_le _) hQ
  · rw [if_pos (Classical.not_not.mp k3)] at hQ
    repeat first | refine z_i rfl rfl ?_ | refine m_gt hb rfl rfl ?_
    refine z_b rfl rfl (fun k4 => ?_) (fun k4 => ?_)
    · rw [if_neg (fun q => k4 (by rw [q]; rfl))] at hQ
      repeat first | refine z_i rfl rfl ?_ | refine m_gt hb rfl rfl ?_
      refine m_ldv hb (j := e) rfl rfl rfl he2 g4 ?_
      exact z_retI rfl (Nat.zero_le _) (Nat.zero_le _) hQ
    · rw [if_pos ((nI_z (by omega)).mp (Classical.not_not.mp k4))] at hQ
      repeat first | refine z_i rfl rfl ?_ | refine m_gt hb rfl rfl ?_
      refine m_ldv hb (j := e) rfl rfl rfl he2 g3 ?_
      refine z_j rfl ?_
      exact z_retI rfl (Nat.zero_le _) (Nat.zero_le _) hQ
theorem ad_head (hb : mB b) {e i st k : Nat} {a c : Option aV} (hmk : mk ≤ 120) (hkd : kd P e = nI k) (hk : k < 26) (h : MR P mk B res 1000 S (fw e i st a c :: F) x s)
    (h1 : st < p_prt k → zx dA 6 0 0 M_VectorLanguageModel_advance 34 [some (.ref (b 0)), some (.int (nI F.length)), some (.int (nI e)), some (.int (nI k)), none] [] (mw dA b w S) 0 0 Q)
    (h2 : p_prt k ≤ st → zx dA 6 0 0 M_VectorLanguageModel_advance 57 [some (.ref (b 0)), some (.int (nI F.length)), some (.int (nI e)), some (.int (nI k)), none] [.int (nI k)] (mw dA b w S) 0 0 Q) : zx dA 6 0 0 M_VectorLanguageModel_advance 0 (zargs 5 [.ref (b 0)]) [] (mw dA b w S) 0 0 Q := by
  have hlen := MR_len h
  obtain ⟨a1, _⟩ := h.1
  rw [List.length_cons] at hlen a1
  have e25 : S.1 25 - 1 = nI F.length := by rw [a1, nI_pred]
  have hF : F.length < 450 := by omega
  obtain ⟨h19, _, h21, _, _, _, he, _, hst⟩ := h.2.2.2.2.2.1.1
  obtain ⟨g1, _⟩ := h.2.1 e he
  rw [hkd] at g1
  have hp2 := p_prt_le k
  repeat first | refine z_i rfl rfl ?_ | refine m_gt hb rfl rfl ?_
  dsimp only
  rw [e25]
  repeat first | refine z_i rfl rfl ?_ | refine m_gt hb rfl rfl ?_
  refine m_ldv hb (j := F.length) rfl rfl rfl hF h19 ?_
  repeat first | refine z_i rfl rfl ?_ | refine m_gt hb rfl rfl ?_
  refine m_ldv hb (j := e) rfl rfl rfl (show e < 120 by omega) g1 ?_
  repeat first | refine z_i rfl rfl ?_ | refine m_gt hb rfl rfl ?_
  refine m_ldv hb (j := F.length) rfl rfl rfl hF h21 ?_
  repeat first | refine z_i rfl rfl ?_ | refine m_gt hb rfl rfl ?_
  refine z_cSk [.int (nI k)] [.int (nI st)] 0 0 0 rfl rfl rfl (Nat.le_of_ble_eq_true rfl) (Nat.le_of_ble_eq_true rfl) (by omega) (by omega) (by omega) (r_parts hk ⟨_, rfl, ?_⟩)
  refine z_b rfl rfl (fun q => ?_) (fun q => ?_)
  · replace q : nI (p_prt k) ≤ nI st := q
    rw [nI_leI (by omega) (by omega)] at q
    refine z_i rfl rfl ?_
    exact h2 q
  · replace q : ¬ nI (p_prt k) ≤ nI st := q
    rw [nI_leI (by omega) (by omega)] at q
    exact h1 (by omega)
theorem ad_part (hb : mB b) {e i st k z : Nat} {a c : Option aV} (hmk : mk ≤ 120) (hkd : kd P e = nI k) (hk : k < 26) (h : MR P mk B res 1000 S (fw e i st a c :: F) none s) (hst : st < p_prt k) (hz : p_part P e st = nI z)
    (hB : ∀ (d : Nat) (Q : zQ), 1 ≤ d → qC dA b w CC Q → zx dA d 0 0 M_VectorLanguageModel_begin 0 (zargs 3 [.ref (b 0), .int (nI z), .int (nI i)]) [] (mw dA b w S) 0 0 Q) : AD dA b w CC S := by
  intro Q hq
  refine ad_head hb hmk hkd hk h (fun _ => ?_) (fun q => by omega)
  have hlen := MR_len h
  rw [List.length_cons] at hlen
  have hF : F.length < 450 := by omega
  obtain ⟨h19, h20, h21, _, _, _, he, _, _⟩ := h.2.2.2.2.2.1.1
  have hp2 := p_prt_le k
  repeat first | refine z_i rfl rfl ?_ | refine m_gt hb rfl rfl ?_
  refine m_ldv hb (j := F.length) rfl rfl rfl hF h21 ?_
  refine z_cVk [.int (nI e), .int (nI st)] [.ref (b 0)] 0 0 0 rfl (m_obj hb) rfl rfl (Nat.le_of_ble_eq_true rfl) (Nat.le_of_ble_eq_true rfl) (by omega) (by omega) (by omega) (r_part hb hmk he (by omega) h ⟨_, rfl, ?_⟩)
  rw [hz]
  repeat first | refine z_i rfl rfl ?_ | refine m_gt hb rfl rfl ?_
  refine m_ldv hb (j := F.length) rfl rfl rfl hF h20 ?_
  refine z_cVk [.int (nI z), .int (nI i)] [] 1 0 0 rfl (m_obj hb) rfl rfl (Nat.le_of_ble_eq_true rfl) (Nat.le_of_ble_eq_true rfl) (by omega) (by omega) (by omega) (hB 1 _ (by omega) (fun S' hS' => ⟨_, rfl, ?_⟩))
  exact z_retV rfl (Nat.zero_le _) (Nat.zero_le _) (hq _ hS')
/-- advance at a frame whose parts are there -/
theorem ad_go (hb : mB b) {e i st k : Nat} {a c : Option aV} (hmk : mk ≤ 120) (hkd : kd P e = nI k) (hk : k < 26) (h : MR P mk B res 1000 S (fw e i st a c :: F) x s) (hst : p_prt k ≤ st)
    (hQ : ∀ Q : zQ, qC dA b w CC Q → zx dA 6 0 0 M_VectorLanguageModel_advance 57 [some (.ref (b 0)), some (.int (nI F.length)), some (.int (nI e)), some (.int (nI k)), none] [.int (nI k)] (mw dA b w S) 0 0 Q) : AD dA b w CC S := fun Q hq => ad_head hb hmk hkd hk h (fun q => by omega) (fun _ => hQ Q hq)
theorem over_K (hb : mB b) {f : fW} {v : aV} (h : MR P mk B res 1000 S (.inl f :: F) x s) (hX : sX s = 0) (hK : KK dA b w CC QU P mk B res F (some v, s)) (hv : VR P mk (sN s) 1000 S y v) (hq : qC dA b w CC Q) : zx dA d 0 0 M_VectorLanguageModel_over 0 (zargs 3 [.ref (b 0), .int y]) [] (mw dA b w S) 0 0 Q :=
  r_over_head hb h (hK.1 v s rfl hX _ y (MR_dropW h) hv d Q hq)
theorem cc_fail (hb : mB b) (hc : Ctx dA b w CC GG QU) (hmk : mk ≤ 120) {f : fW} (h : MR P mk B res 1000 S (.inl f :: F) x s) (hX : ¬ sX s = 0) (hf : ¬ kd P f.1 = 24 ∨ ¬ f.2.2.1 = 0 ∨ sX s = 9) (hK : KK dA b w CC QU P mk B res F (none, s)) : CC S := by
  refine hc.1 S (fun q => absurd ?_ hX) (fun _ => U_w hb hmk h hX hf (hK.2.1 s rfl hX _ (MR_dropW h)))
  rw [← h.1.2.2.2.2.1]
  exact q
def SIM (dA : Nat → ClassId) (b : Nat → Nat) (w : ww_W) (CC : mm → Prop) (QU : zQ) (P : aP) (mk B : Nat) (res : rP) (d : Nat) : Prop := ∀ (F : List fF) (s : aS) (e i : Nat) (S : mm), MR P mk B res 1000 S F none s → sX s = 0 → wk F + d = 40 → e < mk → i ≤ sN s → KK dA b w CC QU P mk B res F (e_ev P d s e i) → ∀ (d' : Nat) (Q : zQ), 1 ≤ d' → qC dA b w CC Q → zx dA d' 0 0 M_VectorLanguageModel_begin 0 (zargs 3 [.ref (b 0), .int (nI e), .int (nI i)]) [] (mw dA b w S) 0 0 Q
theorem e_bd_id (r : aR) : e_bd r (fun v s => (some v, s)) = r := by
  obtain ⟨o, s⟩ := r
  cases o <;> rfl
theorem one_part (hb : mB b) (hc : Ctx dA b w CC GG QU) (hmk : mk ≤ 120) {e i k z d : Nat} {g : aV → aS → aR} (IH : SIM dA b w CC QU P mk B res d) (hkd : kd P e = nI k) (hk : k < 26) (hp : 1 ≤ p_prt k) (hz : p_part P e 0 = nI z) (hzm : z < mk) (h24 : ¬ k = 24) (h : MR P mk B res 1000 S (fw e i 0 none none :: F) none s) (hX : sX s = 0) (hwk : wk F + 1 + d = 40) (hK : KK dA b w CC QU P mk B res F (e_bd (e_ev P d s z i) g))
    (hg : ∀ (u : aV) (s2 : aS) (S2 : mm), sX s2 = 0 → MR P mk B res 1000 S2 (fw e i 1 (some u) none :: F) none s2 → KK dA b w CC QU P mk B res F (g u s2) → AD dA b w CC S2) : AD dA b w CC S := by
  obtain ⟨_, _, _, _, _, _, _, hi, _⟩ := h.2.2.2.2.2.1.1
  have hk24 : ¬ kd P e = 24 := fun q => by
    rw [hkd] at q
    exact h24 ((nI_eq (b := 24) (by omega) (by omega)).mp q)
  exact ad_part hb hmk hkd hk h (by omega) hz (IH _ s z i S h hX hwk hzm hi (K_sub hb hc hmk (by omega) (Or.inl hk24) hK (fun v s2 S2 y _ hX2 hm hK2 => hg v s2 S2 hX2 hm hK2)))
theorem two_parts (hb : mB b) (hc : Ctx dA b w CC GG QU) (hmk : mk ≤ 120) {e i k z z2 d : Nat} {g : aV → aV → aS → aR} (IH : SIM dA b w CC QU P mk B res d) (hkd : kd P e = nI k) (hk : k < 26) (hp : 2 ≤ p_prt k) (hz : p_part P e 0 = nI z) (hzm : z < mk) (hz2 : p_part P e 1 = nI z2) (hzm2 : z2 < mk) (h24 : ¬ k = 24) (h : MR P mk B res 1000 S (fw e i 0 none none :: F) none s) (hX : sX s = 0) (hwk : wk F + 1 + d = 40) (hK : KK dA b w CC QU P mk B res F (e_bd (e_ev P d s z i) (fun u s1 => e_bd (e_ev P d s1 z2 i) (fun v s2 => g u v s2))))
    (hg : ∀ (u v : aV) (s2 : aS) (S2 : mm), sX s2 = 0 → MR P mk B res 1000 S2 (fw e i 2 (some u) (some v) :: F) none s2 → KK dA b w CC QU P mk B res F (g u v s2) → AD dA b w CC S2) : AD dA b w CC S := by
  refine one_part hb hc hmk IH hkd hk (by omega) hz hzm h24 h hX hwk hK (fun u s1 S1 hX1 h1 hK1 => ?_)
  obtain ⟨_, _, _, _, _, _, _, hi, _⟩ := h1.2.2.2.2.2.1.1
  exact ad_part hb hmk hkd hk h1 (by omega) hz2 (IH _ s1 z2 i S1 h1 hX1 hwk hzm2 hi (K_sub hb hc hmk (by omega) (Or.inr (by decide)) hK1 (fun v s2 S2 y _ hX2 hm hK2 => hg u v s2 S2 hX2 hm hK2)))
end AV
