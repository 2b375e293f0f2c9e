/-! the reference's kinds: numbers, one part, assign, then -/
section KD
variable {dA : Nat → ClassId} {b : Nat → Nat} {w : ww_W} {CC GG : mm → Prop} {QU : zQ} {P : aP} {mk B n q : Nat} {res : rP} {S S' : mm} {F : List fF} {x : Option aV} {s : aS} {y : Int32} {d : Nat} {Q : zQ}
theorem e_at (hmk : mk ≤ 120) {e i st : Nat} {a c : Option aV} (h : MR P mk B res 1000 S (fw e i st a c :: F) x s) : e < 120 ∧ F.length < 450 ∧ S.2.2.2 20 F.length = nI i ∧ i ≤ sN s ∧ i ≤ 90 := by
  have hlen := MR_len h
  have hN := h.2.2.2.2.2.2.2.2.1
  rw [List.length_cons] at hlen
  obtain ⟨_, h20, _, _, _, _, he, hi, _⟩ := h.2.2.2.2.2.1.1
  exact ⟨by omega, by omega, h20, hi, by omega⟩
set_option maxRecDepth 100000 in
theorem k_num (hb : mB b) (hmk : mk ≤ 120) {e i : Nat} (hkd : kd P e = nI 0) (ho : okI (pa P e)) (h : MR P mk B res 1000 S (fw e i 0 none none :: F) none s) (hX : sX s = 0) (hK : KK dA b w CC QU P mk B res F (some (.inl [pa P e]), s)) : AD dA b w CC S := by
  obtain ⟨he2, hF, _⟩ := e_at hmk h
  obtain ⟨g1, g2, g3, g4⟩ := h.2.1 e h.2.2.2.2.2.1.1.2.2.2.2.2.2.1
  refine ad_go hb hmk hkd (by decide) h (by decide) (fun Q hq => ?_)
  refine z_sw (t := 172) rfl (by decide) ?_
  repeat first | refine z_i rfl rfl ?_ | refine m_gt hb rfl rfl ?_
  refine m_ldv hb (j := e) rfl rfl rfl he2 g2 ?_
  refine z_cVk [.int (pa P e)] [.ref (b 0)] 3 0 0 rfl (m_obj hb) rfl rfl (Nat.le_of_ble_eq_true rfl) (Nat.le_of_ble_eq_true rfl) (by omega) (by omega) (by omega) (r_oneR hb (by omega) ho h (fun S1 y1 k1 k2 k3 k4 => ⟨_, rfl, ?_⟩))
  refine z_cVk [.int y1] [] 0 0 0 rfl (m_obj hb) rfl rfl (Nat.le_of_ble_eq_true rfl) (Nat.le_of_ble_eq_true rfl) (by omega) (by omega) (by omega) (over_K hb k1 hX hK k2 (fun S' hS' => ⟨_, rfl, ?_⟩))
  refine z_j rfl ?_
  exact z_retV rfl (Nat.zero_le _) (Nat.zero_le _) (hq _ hS')
set_option maxRecDepth 100000 in
theorem k_na (hb : mB b) (hmk : mk ≤ 120) {e i : Nat} (hkd : kd P e = nI 1) (h : MR P mk B res 1000 S (fw e i 0 none none :: F) none s) (hX : sX s = 0) (hK : KK dA b w CC QU P mk B res F (some (.inl [pNA]), s)) : AD dA b w CC S := by
  refine ad_go hb hmk hkd (by decide) h (by decide) (fun Q hq => ?_)
  refine z_sw (t := 189) rfl (by decide) ?_
  repeat first | refine z_i rfl rfl ?_ | refine m_gt hb rfl rfl ?_
  refine z_cVk [.int pNA] [.ref (b 0)] 3 0 0 rfl (m_obj hb) rfl rfl (Nat.le_of_ble_eq_true rfl) (Nat.le_of_ble_eq_true rfl) (by omega) (by omega) (by omega) (r_oneR hb (by omega) (Or.inl rfl) h (fun S1 y1 k1 k2 k3 k4 => ⟨_, rfl, ?_⟩))
  refine z_cVk [.int y1] [] 0 0 0 rfl (m_obj hb) rfl rfl (Nat.le_of_ble_eq_true rfl) (Nat.le_of_ble_eq_true rfl) (by omega) (by omega) (by omega) (over_K hb k1 hX hK k2 (fun S' hS' => ⟨_, rfl, ?_⟩))
  refine z_j rfl ?_
  exact z_retV rfl (Nat.zero_le _) (Nat.zero_le _) (hq _ hS')
set_option maxRecDepth 100000 in
theorem k_nul (hb : mB b) (hmk : mk ≤ 120) {e i : Nat} (hkd : kd P e = nI 2) (h : MR P mk B res 1000 S (fw e i 0 none none :: F) none s) (hX : sX s = 0) (hK : KK dA b w CC QU P mk B res F (some (.inl []), s)) : AD dA b w CC S := by
  refine ad_go hb hmk hkd (by decide) h (by decide) (fun Q hq => ?_)
  refine z_sw (t := 202) rfl (by decide) ?_
  repeat first | refine z_i rfl rfl ?_ | refine m_gt hb rfl rfl ?_
  refine z_cVk [.int 0] [] 0 0 0 rfl (m_obj hb) rfl rfl (Nat.le_of_ble_eq_true rfl) (Nat.le_of_ble_eq_true rfl) (by omega) (by omega) (by omega) (over_K hb h hX hK h.2.2.1.2.1 (fun S' hS' => ⟨_, rfl, ?_⟩))
  refine z_j rfl ?_
  exact z_retV rfl (Nat.zero_le _) (Nat.zero_le _) (hq _ hS')
set_option maxRecDepth 100000 in
theorem k_then (hb : mB b) (hc : Ctx dA b w CC GG QU) (hmk : mk ≤ 120) {e i z z2 d : Nat} (IH : SIM dA b w CC QU P mk B res d) (hkd : kd P e = nI 18) (hz : pa P e = nI z) (hzm : z < mk) (hz2 : pb P e = nI z2) (hzm2 : z2 < mk) (h : MR P mk B res 1000 S (fw e i 0 none none :: F) none s) (hX : sX s = 0) (hwk : wk F + 1 + d = 40) (hK : KK dA b w CC QU P mk B res F (e_then P (e_ev P d) s e i)) : AD dA b w CC S := by
  obtain ⟨hp0, hp1⟩ := p_part_ab hkd (by decide) (by decide) (by decide) (by decide)
  rw [hz] at hp0
  rw [hz2] at hp1
  have hzz : tN (pa P e) = z := by rw [hz]; exact nI_clamp (by omega)
  have hzz2 : tN (pb P e) = z2 := by rw [hz2]; exact nI_clamp (by omega)
  unfold e_then at hK
  rw [hzz, hzz2] at hK
  have hK' : KK dA b w CC QU P mk B res F (e_bd (e_ev P d s z i) (fun u s1 => e_bd (e_ev P d s1 z2 i) (fun v s2 => (some v, s2)))) := by
    have : (fun (_ : aV) (s1 : aS) => e_ev P d s1 z2 i) = (fun u s1 => e_bd (e_ev P d s1 z2 i) (fun v s2 => (some v, s2))) := by
      funext u s1
      rw [e_bd_id]
    rw [← this]
    exact hK
  refine two_parts hb hc hmk IH hkd (by decide) (by decide) hp0 hzm hp1 hzm2 (by decide) h hX hwk hK' (fun u v s2 S2 hX2 hm hK2 => ?_)
  obtain ⟨c, ec, hC⟩ := top_vb hm
  obtain ⟨he2, hF, _⟩ := e_at hmk hm
  refine ad_go hb hmk hkd (by decide) hm (by decide) (fun Q hq => ?_)
  refine z_sw (t := 334) rfl (by decide) ?_
  repeat first | refine z_i rfl rfl ?_ | refine m_gt hb rfl rfl ?_
  refine m_ldv hb (j := F.length) rfl rfl rfl hF ec ?_
  refine z_cVk [.int (nI c)] [] 0 0 0 rfl (m_obj hb) rfl rfl (Nat.le_of_ble_eq_true rfl) (Nat.le_of_ble_eq_true rfl) (by omega) (by omega) (by omega) (over_K hb hm hX2 hK2 (RT_0 hm hC) (fun S' hS' => ⟨_, rfl, ?_⟩))
  refine z_j rfl ?_
  exact z_retV rfl (Nat.zero_le _) (Nat.zero_le _) (hq _ hS')
def e_o1 (k : Nat) (s : aS) : aV → aR
  | .inr _ => e_fail s 3
  | .inl xs => if k = 9 then (some (.inl (vg xs.length (fun j => p_not (p_at xs j)))), s) else if k = 14 then (some (.inl [nI xs.length]), s) else if k = 15 then (some (.inl [p_sumL (p_at xs) xs.length 0 0]), s) else e_fail s (p_rai (p_fst xs.length (p_at xs)))
theorem e_one_r {e : Nat} {u : aV} {k : Nat} (hkd : kd P e = nI k) (hk : k = 9 ∨ k = 14 ∨ k = 15 ∨ k = 23) : e_vec (fun xs s1 => if kd P e = 9 then (some (.inl (vg xs.length (fun j => p_not (p_at xs j)))), s1) else if kd P e = 14 then (some (.inl [nI xs.length]), s1) else if kd P e = 15 then (some (.inl [p_sumL (p_at xs) xs.length 0 0]), s1) else e_fail s1 (p_rai (p_fst xs.length (p_at xs)))) u s = (e_o1 k s u) := by
  cases u with
  | inr f => rfl
  | inl xs =>
    unfold e_vec
    rw [hkd]
    rcases hk with rfl | rfl | rfl | rfl <;> rfl
theorem r_worked1 (hb : mB b) (hd : 5 ≤ d) {e i k : Nat} {u : aV} (hmk : mk ≤ 120) (hkd : kd P e = nI k) (hk : k = 9 ∨ k = 14 ∨ k = 15) (h : MR P mk B res 1000 S (fw e i 1 (some u) none :: F) none s)
    (hQ : OR dA b w P mk B res S (fw e i 1 (some u) none :: F) none s Q (e_o1 k s u)) : zx dA d 0 0 M_VectorLanguageModel_worked 0 (zargs 5 [.ref (b 0), .int (nI F.length), .int (nI e)]) [] (mw dA b w S) 0 0 Q := by
  obtain ⟨a, ea, hA⟩ := top_va h
  obtain ⟨he2, hF, _⟩ := e_at hmk h
  have ec : S.2.2.2 23 F.length = -1 := h.2.2.2.2.2.1.1.2.2.2.2.1
  obtain ⟨g1, g2, g3, g4⟩ := h.2.1 e h.2.2.2.2.2.1.1.2.2.2.2.2.2.1
  rw [hkd] at g1
  have hk25 : k < 26 := by omega
  repeat first | refine z_i rfl rfl ?_ | refine m_gt hb rfl rfl ?_
  refine m_ldv hb (j := F.length) rfl rfl rfl hF ea ?_
  repeat first | refine z_i rfl rfl ?_ | refine m_gt hb rfl rfl ?_
  refine m_ldv hb (j := F.length) rfl rfl rfl hF ec ?_
  repeat first | refine z_i rfl rfl ?_ | refine m_gt hb rfl rfl ?_
  refine m_ldv hb (j := e) rfl rfl rfl he2 g1 ?_
  repeat first | refine z_i rfl rfl ?_ | refine m_gt hb rfl rfl ?_
  refine z_bt rfl rfl (show ¬ nI k = nI 25 by rw [nI_eq (by omega) (by omega)]; omega) ?_
  repeat first | refine z_i rfl rfl ?_ | refine m_gt hb rfl rfl ?_
  cases u with
  | inr f =>
    have := (VR_j hA.1 (RT_0 h hA)).1.1
    refine m_ldv hb (j := a) rfl rfl rfl hA.1 this ?_
    refine z_bt rfl rfl (by decide) ?_
    repeat first | refine z_i rfl rfl ?_ | refine m_gt hb rfl rfl ?_
    refine z_cVk [.int 3] [] 0 0 0 rfl (m_obj hb) rfl rfl (Nat.le_of_ble_eq_true rfl) (Nat.le_of_ble_eq_true rfl) (by omega) (by omega) (by omega) (r_failed hb ⟨_, rfl, ?_⟩)
    exact z_retI rfl (Nat.zero_le _) (Nat.zero_le _) (hQ _ (MR_err h 3))
  | inl xs =>
    obtain ⟨x1, x2, x3, x4⟩ := VR_inl hA.1 (RT_0 h hA)
    have hx16 := x2.1
    refine m_ldv hb (j := a) rfl rfl rfl hA.1 x1 ?_
    refine z_bf rfl rfl (nI_pos (by omega)) ?_
    repeat first | refine z_i rfl rfl ?_ | refine m_gt hb rfl rfl ?_
    refine z_bt rfl rfl (by decide) ?_
    repeat first | refine z_i rfl rfl ?_ | refine m_gt hb rfl rfl ?_
    refine m_ldv hb (j := e) rfl rfl rfl he2 g1 ?_
    rcases hk with rfl | rfl | rfl
    · refine z_sw (t := 152) rfl (by decide) ?_
      repeat first | refine z_i rfl rfl ?_ | refine m_gt hb rfl rfl ?_
      refine z_cVk [.int (nI a)] [] 3 0 0 rfl (m_obj hb) rfl rfl (Nat.le_of_ble_eq_true rfl) (Nat.le_of_ble_eq_true rfl) (by omega) (by omega) (by omega) (r_notR hb (by omega) h hA (fun S1 y1 k1 k2 k3 k4 => ⟨_, rfl, ?_⟩))
      exact z_retI rfl (Nat.zero_le _) (Nat.zero_le _) (hQ S1 y1 k1 k2 k3 k4)
    · refine z_sw (t := 182) rfl (by decide) ?_
      repeat first | refine z_i rfl rfl ?_ | refine m_gt hb rfl rfl ?_
      refine m_ldv hb (j := a) rfl rfl rfl hA.1 x1 ?_
      refine z_cVk [.int (nI xs.length)] [] 3 0 0 rfl (m_obj hb) rfl rfl (Nat.le_of_ble_eq_true rfl) (Nat.le_of_ble_eq_true rfl) (by omega) (by omega) (by omega) (r_oneR hb (by omega) (okI_nI (by omega)) h (fun S1 y1 k1 k2 k3 k4 => ⟨_, rfl, ?_⟩))
      exact z_retI rfl (Nat.zero_le _) (Nat.zero_le _) (hQ S1 y1 k1 k2 k3 k4)
    · refine z_sw (t := 193) rfl (by decide) ?_
      repeat first | refine z_i rfl rfl ?_ | refine m_gt hb rfl rfl ?_
      refine z_cVk [.int (nI a)] [] 4 0 0 rfl (m_obj hb) rfl rfl (Nat.le_of_ble_eq_true rfl) (Nat.le_of_ble_eq_true rfl) (by omega) (by omega) (by omega) (r_sumR hb (by omega) h hA (fun S1 y1 k1 k2 k3 k4 => ⟨_, rfl, ?_⟩))
      exact z_retI rfl (Nat.zero_le _) (Nat.zero_le _) (hQ S1 y1 k1 k2 k3 k4)
theorem rai_ne (z : Int32) : ¬ p_rai z = 0 := by
  unfold p_rai
  split
  · decide
  · split
    · decide
    · rename_i h1 h2
      intro q
      rw [Int32.lt_iff_toInt_lt, show (0 : Int32).toInt = 0 by decide] at h1
      rw [Int32.le_iff_toInt_le, show (100 : Int32).toInt = 100 by decide] at h2
      have := congrArg Int32.toInt q
      rw [i32_add (by rw [show (100 : Int32).toInt = 100 by decide]; omega) (by rw [show (100 : Int32).toInt = 100 by decide]; omega), show (100 : Int32).toInt = 100 by decide, show (0 : Int32).toInt = 0 by decide] at this
      omega
theorem r_complain (hb : mB b) (hd : 1 ≤ d) {a : Nat} {u : aV} (ha : a < 1000) (hA : VR P mk n 1000 S (nI a) u) (hQ : Q (.inl none) (mw dA b w (jI S 29 (match u with
    | .inr _ => 3
    | .inl xs => p_rai (p_fst xs.length (p_at xs))))) 0 0) : zx dA d 0 0 M_VectorLanguageModel_complain 0 (zargs 3 [.ref (b 0), .int (nI a)]) [] (mw dA b w S) 0 0 Q := by
  cases u with
  | inr f =>
    have := (VR_j ha hA).1.1
    repeat first | refine z_i rfl rfl ?_ | refine m_gt hb rfl rfl ?_
    refine m_ldv hb (j := a) rfl rfl rfl ha this ?_
    refine z_bf rfl rfl (by decide) ?_
    repeat first | refine z_i rfl rfl ?_ | refine m_gt hb rfl rfl ?_
    refine m_pt hb rfl rfl ?_
    exact z_retV rfl (Nat.zero_le _) (Nat.zero_le _) hQ
  | inl xs =>
    obtain ⟨x1, x2, x3, x4⟩ := VR_inl ha hA
    have hx16 := x2.1
    have hgo : zx dA d 0 0 M_VectorLanguageModel_complain 35 (zargs 3 [.ref (b 0), .int (nI a)]) [.int (p_fst xs.length (p_at xs))] (mw dA b w S) 0 0 Q := by
      replace hQ : Q (.inl none) (mw dA b w (jI S 29 (p_rai (p_fst xs.length (p_at xs))))) 0 0 := hQ
      generalize p_fst xs.length (p_at xs) = z at hQ ⊢
      repeat first | refine z_i rfl rfl ?_ | refine m_gt hb rfl rfl ?_
      refine z_cSk [.int z, .int 0, .int 99] [.int 100, .ref (b 0)] 0 0 0 rfl rfl rfl (Nat.le_of_ble_eq_true rfl) (Nat.le_of_ble_eq_true rfl) (by omega) (by omega) (by omega) (r_between dA 0 _ _ _ _ _ ⟨_, rfl, ?_⟩)
      have hcs : (z < 0 ∨ 100 ≤ z) ∧ p_btw z 0 99 = 0 ∧ p_rai z = 100 + 0 ∨ p_btw z 0 99 = 1 ∧ p_rai z = 100 + z := by
        unfold p_btw p_rai
        by_cases h1 : z < 0
        · rw [if_pos h1, if_pos h1]; exact Or.inl ⟨Or.inl h1, rfl, rfl⟩
        · rw [if_neg h1, if_neg h1]
          by_cases h2 : 100 ≤ z
          · rw [if_pos h2, if_pos (by rw [Int32.lt_iff_toInt_lt, show (99 : Int32).toInt = 99 by decide]; rw [Int32.le_iff_toInt_le, show (100 : Int32).toInt = 100 by decide] at h2; omega)]
            exact Or.inl ⟨Or.inr h2, rfl, rfl⟩
          · rw [if_neg h2, if_neg (by rw [Int32.lt_iff_toInt_lt, show (99 : Int32).toInt = 99 by decide]; rw [Int32.le_iff_toInt_le, show (100 : Int32).toInt = 100 by decide] at h2; omega)]
            exact Or.inr ⟨rfl, rfl⟩
      rcases hcs with ⟨_, k1, k2⟩ | ⟨k1, k2⟩
      · rw [k1]
        rw [k2] at hQ
        refine z_bt rfl rfl rfl ?_
        repeat first | refine z_i rfl rfl ?_ | refine m_gt hb rfl rfl ?_
        refine m_pt hb rfl rfl ?_
        exact z_retV rfl (Nat.zero_le _) (Nat.zero_le _) hQ
      · rw [k1]
        rw [k2] at hQ
        refine z_bf rfl rfl (show ¬ (1 : Int32) = 0 by decide) ?_
        repeat first | refine z_i rfl rfl ?_ | refine m_gt hb rfl rfl ?_
        refine z_j rfl ?_
        repeat first | refine z_i rfl rfl ?_ | refine m_gt hb rfl rfl ?_
        refine m_pt hb rfl rfl ?_
        exact z_retV rfl (Nat.zero_le _) (Nat.zero_le _) hQ
    repeat first | refine z_i rfl rfl ?_ | refine m_gt hb rfl rfl ?_
    refine m_ldv hb (j := a) rfl rfl rfl ha x1 ?_
    refine z_bt rfl rfl (nI_pos' (by omega)) ?_
    repeat first | refine z_i rfl rfl ?_ | refine m_gt hb rfl rfl ?_
    refine m_ldv hb (j := a) rfl rfl rfl ha x1 ?_
    refine z_b rfl rfl (fun h1 => ?_) (fun h1 => ?_)
    · have h0 : ¬ xs.length = 0 := fun q => h1 (by rw [q]; rfl)
      have e1 : p_fst xs.length (p_at xs) = p_at xs 0 := by unfold p_fst; rw [if_neg h0]
      rw [e1] at hgo
      repeat first | refine z_i rfl rfl ?_ | refine m_gt hb rfl rfl ?_
      refine z_cVk [.int (nI a), .int (nI 0)] [] 0 0 0 rfl (m_obj hb) rfl rfl (Nat.le_of_ble_eq_true rfl) (Nat.le_of_ble_eq_true rfl) (by omega) (by omega) (by omega) (r_atv hb (x3 0 (by omega)) ha (by omega) _ ⟨_, rfl, ?_⟩)
      exact hgo
    · have h0 : xs.length = 0 := (nI_z (by omega)).mp (Classical.not_not.mp h1)
      have e1 : p_fst xs.length (p_at xs) = pNA := by unfold p_fst; rw [if_pos h0]
      rw [e1] at hgo
      refine z_i rfl rfl ?_
      refine z_j rfl ?_
      exact hgo
set_option maxRecDepth 100000 in
theorem k_one (hb : mB b) (hc : Ctx dA b w CC GG QU) (hmk : mk ≤ 120) {e i k z d : Nat} (IH : SIM dA b w CC QU P mk B res d) (hkd : kd P e = nI k) (hk : k = 9 ∨ k = 14 ∨ k = 15 ∨ k = 23) (hz : pa P e = nI z) (hzm : z < mk) (h : MR P mk B res 1000 S (fw e i 0 none none :: F) none s) (hX : sX s = 0) (hwk : wk F + 1 + d = 40) (hK : KK dA b w CC QU P mk B res F (e_one P (e_ev P d) s e i)) : AD dA b w CC S := by
  obtain ⟨hp0, _⟩ := p_part_ab hkd (by omega) (by omega) (by omega) (by omega)
  rw [hz] at hp0
  have hzz : tN (pa P e) = z := by rw [hz]; exact nI_clamp (by omega)
  have h1 : p_prt k = 1 := by rcases hk with rfl | rfl | rfl | rfl <;> rfl
  have h24 : ¬ kd P e = 24 := kd_ne hkd (by omega) (j := 24) (by decide) (by omega)
  unfold e_one e_bv at hK
  rw [hzz] at hK
  refine one_part hb hc hmk IH hkd (by omega) (by omega) hp0 hzm (by omega) h hX hwk hK (fun u s2 S2 hX2 hm hK2 => ?_)
  rw [e_one_r hkd hk] at hK2
  obtain ⟨a, ea, hA⟩ := top_va hm
  obtain ⟨he2, hF, _⟩ := e_at hmk hm
  refine ad_go hb hmk hkd (by omega) hm (by omega) (fun Q hq => ?_)
  by_cases hk23 : k = 23
  · subst hk23
    refine z_sw (t := 425) rfl (by decide) ?_
    repeat first | refine z_i rfl rfl ?_ | refine m_gt hb rfl rfl ?_
    refine m_ldv hb (j := F.length) rfl rfl rfl hF ea ?_
    refine z_cVk [.int (nI a)] [] 1 0 0 rfl (m_obj hb) rfl rfl (Nat.le_of_ble_eq_true rfl) (Nat.le_of_ble_eq_true rfl) (by omega) (by omega) (by omega) (r_complain hb (by omega) hA.1 (RT_0 hm hA) ⟨_, rfl, ?_⟩)
    refine z_j rfl ?_
    refine z_retV rfl (Nat.zero_le _) (Nat.zero_le _) (hq _ ?_)
    cases u with
    | inr f => exact cc_fail hb hc hmk (MR_err hm 3) (show ¬ (3 : Int32) = 0 by decide) (Or.inl h24) hK2
    | inl xs => exact cc_fail hb hc hmk (MR_err hm _) (rai_ne _) (Or.inl h24) hK2
  · have hk3 : k = 9 ∨ k = 14 ∨ k = 15 := by omega
    have hsw := ad_wk (Q := Q) hb hc hmk hkd h24 hm hX2 hK2 (by
      cases u with
      | inr f => exact Or.inr ⟨3, by decide, rfl⟩
      | inl xs => rcases hk3 with rfl | rfl | rfl <;> exact Or.inl ⟨_, rfl⟩) (fun Q' hQ' => r_worked1 hb (by omega) hmk hkd hk3 hm hQ') hq
    rcases hk3 with rfl | rfl | rfl <;> exact z_sw (t := 470) rfl (by decide) hsw
end KD
