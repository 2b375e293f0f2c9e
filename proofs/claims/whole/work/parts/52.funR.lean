/-! the reference's kinds: read, function, missing, return -/
section KF
variable {dA : Nat → ClassId} {b : Nat → Nat} {w : ww_W} {CC GG : mm → Prop} {QU : zQ} {P : aP} {mk B n q : Nat} {res : rP} {S S' : mm} {F : List fF} {x : Option aV} {s : aS} {y : Int32} {d : Nat} {Q : zQ}
theorem VR_pos {v : aV} (h : VR P mk n q S y v) : 0 ≤ y := by
  obtain ⟨j, h1, h2, _⟩ := h
  rw [h1]
  exact nI_pos' (by omega)
theorem sf0_n {s : aS} {z : Int32} : e_fail s z = (none, uX s z) := rfl
theorem r_look3 (hb : mB b) (hc : Ctx dA b w CC GG QU) (hd : 3 ≤ d) {e i j d0 : Nat} (IH : SIM dA b w CC QU P mk B res d0) (hmk : mk ≤ 120) (hkd : kd P e = nI 3) (hj : j < 10) (hpa : pa P e = nI j) (h : MR P mk B res 1000 S (fw e i 0 none none :: F) none s) (hX : sX s = 0) (hwk : wk F + 1 + d0 = 40) (hK : KK dA b w CC QU P mk B res F (e_read P (e_ev P d0) s e i))
    (hK2 : ∀ r : aR, KK dA b w CC QU P mk B res F r → KK dA b w CC QU P mk B res (fw e i 0 none none :: F) r) (hq : qC dA b w CC Q) : zx dA d 0 0 M_VectorLanguageModel_look 0 (zargs 5 [.ref (b 0), .int (nI F.length), .int (nI e)]) [] (mw dA b w S) 0 0 Q := by
  obtain ⟨he2, hF, h20, hi, hi90⟩ := e_at hmk h
  obtain ⟨g1, g2, g3, g4⟩ := h.2.1 e h.2.2.2.2.2.1.1.2.2.2.2.2.2.1
  rw [hkd] at g1
  rw [hpa] at g2
  have hN := h.2.2.2.2.2.2.2.2.1
  have h24 : ¬ kd P e = 24 := kd_ne hkd (by decide) (j := 24) (by decide) (by decide)
  have hjj : tN (pa P e) = j := by rw [hpa]; exact nI_clamp (by omega)
  unfold e_read at hK
  rw [hjj] at hK
  repeat first | refine z_i rfl rfl ?_ | refine m_gt hb rfl rfl ?_
  refine m_ldv hb (j := F.length) rfl rfl rfl hF h20 ?_
  repeat first | refine z_i rfl rfl ?_ | refine m_gt hb rfl rfl ?_
  refine m_ldv hb (j := e) rfl rfl rfl he2 g2 ?_
  refine z_cVk [.int (nI i), .int (nI j)] [] 0 0 0 rfl (m_obj hb) rfl rfl (Nat.le_of_ble_eq_true rfl) (Nat.le_of_ble_eq_true rfl) (by omega) (by omega) (by omega) (r_place hb h hj hi (fun hn => ⟨_, rfl, ?_⟩) (fun i' hs hi' hsome => ⟨_, rfl, ?_⟩))
  · rw [hn] at hK
    repeat first | refine z_i rfl rfl ?_ | refine m_gt hb rfl rfl ?_
    refine z_bf rfl rfl (show ¬ (0 : Int32) ≤ -1 by decide) ?_
    repeat first | refine z_i rfl rfl ?_ | refine m_gt hb rfl rfl ?_
    refine m_ldv hb (j := e) rfl rfl rfl he2 g1 ?_
    repeat first | refine z_i rfl rfl ?_ | refine m_gt hb rfl rfl ?_
    refine z_bf rfl rfl (fun q => q rfl) ?_
    repeat first | refine z_i rfl rfl ?_ | refine m_gt hb rfl rfl ?_
    refine m_pt hb rfl rfl ?_
    refine z_j rfl ?_
    exact z_retV rfl (Nat.zero_le _) (Nat.zero_le _) (hq _ (cc_fail hb hc hmk (MR_err h 4) (show ¬ (4 : Int32) = 0 by decide) (Or.inl h24) hK))
  · rw [hs] at hK
    dsimp only at hK
    repeat first | refine z_i rfl rfl ?_ | refine m_gt hb rfl rfl ?_
    refine z_bt rfl rfl (nI_pos' (by omega)) ?_
    repeat first | refine z_i rfl rfl ?_ | refine m_gt hb rfl rfl ?_
    refine z_bt rfl rfl (nI_pos' (by omega)) ?_
    repeat first | refine z_i rfl rfl ?_ | refine m_gt hb rfl rfl ?_
    refine z_cVk [.int (nI (10 * i' + j))] [] 2 0 0 rfl (m_obj hb) rfl rfl (Nat.le_of_ble_eq_true rfl) (Nat.le_of_ble_eq_true rfl) (by omega) (by omega) (by omega) (r_wanted hb (by omega) IH hmk hi' hj h hX hwk hsome (hK2 _ hK) (fun y v hv1 hv2 => ⟨_, rfl, ?_⟩) (fun hf => ⟨_, rfl, ?_⟩) (fun S' hS' => ⟨_, rfl, ?_⟩))
    · rw [hv1] at hK
      repeat first | refine z_i rfl rfl ?_ | refine m_gt hb rfl rfl ?_
      refine z_bt rfl rfl (VR_pos hv2) ?_
      repeat first | refine z_i rfl rfl ?_ | refine m_gt hb rfl rfl ?_
      refine m_ldv hb (j := e) rfl rfl rfl he2 g1 ?_
      repeat first | refine z_i rfl rfl ?_ | refine m_gt hb rfl rfl ?_
      refine z_bf rfl rfl (fun q => q rfl) ?_
      repeat first | refine z_i rfl rfl ?_ | refine m_gt hb rfl rfl ?_
      refine z_cVk [.int y] [] 0 0 0 rfl (m_obj hb) rfl rfl (Nat.le_of_ble_eq_true rfl) (Nat.le_of_ble_eq_true rfl) (by omega) (by omega) (by omega) (over_K hb h hX hK hv2 (fun S' hS' => ⟨_, rfl, ?_⟩))
      refine z_j rfl ?_
      exact z_retV rfl (Nat.zero_le _) (Nat.zero_le _) (hq _ hS')
    · rw [hf] at hK
      repeat first | refine z_i rfl rfl ?_ | refine m_gt hb rfl rfl ?_
      refine z_bf rfl rfl (show ¬ (0 : Int32) ≤ -1 by decide) ?_
      exact z_retV rfl (Nat.zero_le _) (Nat.zero_le _) (hq _ (cc_fail hb hc hmk (MR_err h 2) (show ¬ (2 : Int32) = 0 by decide) (Or.inl h24) hK))
    · repeat first | refine z_i rfl rfl ?_ | refine m_gt hb rfl rfl ?_
      refine z_bf rfl rfl (show ¬ (0 : Int32) ≤ -1 by decide) ?_
      exact z_retV rfl (Nat.zero_le _) (Nat.zero_le _) (hq _ hS')
set_option maxRecDepth 100000 in
theorem k_read (hb : mB b) (hc : Ctx dA b w CC GG QU) (hmk : mk ≤ 120) {e i j d0 : Nat} (IH : SIM dA b w CC QU P mk B res d0) (hkd : kd P e = nI 3) (hj : j < 10) (hpa : pa P e = nI j) (h : MR P mk B res 1000 S (fw e i 0 none none :: F) none s) (hX : sX s = 0) (hwk : wk F + 1 + d0 = 40) (hK : KK dA b w CC QU P mk B res F (e_read P (e_ev P d0) s e i)) : AD dA b w CC S := by
  obtain ⟨he2, hF, h20, hi, hi90⟩ := e_at hmk h
  have h21 := h.2.2.2.2.2.1.1.2.2.1
  refine ad_go hb hmk hkd (by decide) h (by decide) (fun Q hq => ?_)
  refine z_sw (t := 210) rfl (by decide) ?_
  repeat first | refine z_i rfl rfl ?_ | refine m_gt hb rfl rfl ?_
  refine m_ldv hb (j := F.length) rfl rfl rfl hF h21 ?_
  repeat first | refine z_i rfl rfl ?_ | refine m_gt hb rfl rfl ?_
  refine z_bt rfl rfl (show ¬ nI 0 = nI 1 by decide) ?_
  repeat first | refine z_i rfl rfl ?_ | refine m_gt hb rfl rfl ?_
  refine z_cVk [.int (nI F.length), .int (nI e)] [] 3 0 0 rfl (m_obj hb) rfl rfl (Nat.le_of_ble_eq_true rfl) (Nat.le_of_ble_eq_true rfl) (by omega) (by omega) (by omega) (r_look3 hb hc (by omega) IH hmk hkd hj hpa h hX hwk hK (fun r hr => K_sub (g := fun v s => (some v, s)) hb hc hmk (by omega) (Or.inl (kd_ne hkd (by decide) (j := 24) (by decide) (by decide))) (by rw [e_bd_id]; exact hr) (fun v s2 S2 y2 _ hX2 hm hK2 => ?_)) (fun S' hS' => ⟨_, rfl, ?_⟩))
  · obtain ⟨a, ea, hA⟩ := top_va hm
    have h21' := hm.2.2.2.2.2.1.1.2.2.1
    refine ad_go hb hmk hkd (by decide) hm (by decide) (fun Q hq => ?_)
    refine z_sw (t := 210) rfl (by decide) ?_
    repeat first | refine z_i rfl rfl ?_ | refine m_gt hb rfl rfl ?_
    refine m_ldv hb (j := F.length) rfl rfl rfl hF h21' ?_
    repeat first | refine z_i rfl rfl ?_ | refine m_gt hb rfl rfl ?_
    refine z_bf rfl rfl (fun q => q rfl) ?_
    repeat first | refine z_i rfl rfl ?_ | refine m_gt hb rfl rfl ?_
    refine m_ldv hb (j := F.length) rfl rfl rfl hF ea ?_
    refine z_cVk [.int (nI a)] [] 0 0 0 rfl (m_obj hb) rfl rfl (Nat.le_of_ble_eq_true rfl) (Nat.le_of_ble_eq_true rfl) (by omega) (by omega) (by omega) (over_K hb hm hX2 hK2 (RT_0 hm hA) (fun S' hS' => ⟨_, rfl, ?_⟩))
    refine z_j rfl ?_
    exact z_retV rfl (Nat.zero_le _) (Nat.zero_le _) (hq _ hS')
  · refine z_j rfl ?_
    exact z_retV rfl (Nat.zero_le _) (Nat.zero_le _) (hq _ hS')
/-- a function laid at q -/
def fnS (S : mm) (q : Nat) (e i t : Int64) : mm := jQ (jL (jL (jL S (8 * q) e) (8 * q + 1) i) (8 * q + 2) t) (t + 1)
theorem MR_fun {q : Nat} (h : MR P mk B res q S F x s) (hsl : sF s + 401 ≤ B + sT s) {e i : Int64} : MR P mk B res q (fnS S q e i (lN (sF s))) F x (uF s (sF s + 1)) := by
  have h2 : MR P mk B res q (jL (jL (jL S (8 * q) e) (8 * q + 1) i) (8 * q + 2) (lN (sF s))) F x s := MR_all h kpA_refl kpI_refl h.2.2.1.1 (fun y v hv => VR_mem (S := S) (S' := jL (jL (jL S (8 * q) e) (8 * q + 1) i) (8 * q + 2) (lN (sF s))) (fun j q1 q2 => ⟨rfl, rfl, fun k q3 => (pk_uLn (by omega)).trans ((pk_uLn (by omega)).trans (pk_uLn (by omega)))⟩) hv)
  obtain ⟨⟨a1, a2, a3, a4, a5, a6, a7, a8⟩, m2, m3, m4, m5, m6, c1, c2, c3, c4, c5, c6, c7, c8, c9⟩ := h2
  refine ⟨⟨a1, a2, a3, a4, a5, a6, a7, ?_⟩, m2, m3, m4, m5, FR_of (S := jL (jL (jL S (8 * q) e) (8 * q + 1) i) (8 * q + 2) (lN (sF s))) (S' := fnS S q e i (lN (sF s))) (n := sN s) (q := q) (Nat.le_refl _) (fun _ _ _ _ => rfl) F x (fun _ _ _ _ _ hv => hv) m6, c1, c2, c3, c4, ?_, c6, c7, c8, c9⟩
  · show lN (sF s) + 1 = lN (sF s + 1)
    exact lN_add (sF s) 1
  · show sF s + 1 + 400 ≤ B + sT s ∧ B < 2 ^ 61
    omega
theorem r_functionR (hb : mB b) (hd : 3 ≤ d) {e i : Nat} (hmk : mk ≤ 120) (hkd : kd P e = nI 19) (h : MR P mk B res 1000 S (fw e i 0 none none :: F) none s) (hX : sX s = 0) (hsl : sF s + 401 ≤ B + sT s) (hK : KK dA b w CC QU P mk B res F (some (.inr (e, i, sF s)), uF s (sF s + 1))) (hq : qC dA b w CC Q) : zx dA d 0 0 M_VectorLanguageModel_function 0 (zargs 4 [.ref (b 0), .int (nI e), .int (nI i)]) [] (mw dA b w S) 0 0 Q := by
  obtain ⟨he2, hF, h20, hi, hi90⟩ := e_at hmk h
  have he := h.2.2.2.2.2.1.1.2.2.2.2.2.2.1
  repeat first | refine z_i rfl rfl ?_ | refine m_gt hb rfl rfl ?_
  refine z_cVk [.int (-1)] [] 2 0 0 rfl (m_obj hb) rfl rfl (Nat.le_of_ble_eq_true rfl) (Nat.le_of_ble_eq_true rfl) (by omega) (by omega) (by omega) (r_fresh hb (by omega) h (fun S1 q h1 hfs => ⟨_, rfl, ?_⟩))
  obtain ⟨q1, q2, q3, q4, q5⟩ := hfs
  have hser : S1.2.1 = lN (sF s) := h1.1.2.2.2.2.2.2.2
  repeat first | refine z_i rfl rfl ?_ | refine m_gt hb rfl rfl ?_
  refine m_lst hb (j := 8 * q) rfl (by show nI 8 * nI q = _; rw [pk_mul]) (by omega) ?_
  repeat first | refine z_i rfl rfl ?_ | refine m_gt hb rfl rfl ?_
  refine m_lst hb (j := 8 * q + 1) rfl (by show nI 8 * nI q + nI 1 = _; rw [pk_mul, nI_add]) (by omega) ?_
  repeat first | refine z_i rfl rfl ?_ | refine m_gt hb rfl rfl ?_
  refine m_lst hb (j := 8 * q + 2) rfl (by show nI 8 * nI q + nI 2 = _; rw [pk_mul, nI_add]) (by omega) ?_
  repeat first | refine z_i rfl rfl ?_ | refine m_gt hb rfl rfl ?_
  refine m_ptQ hb rfl ?_
  repeat first | refine z_i rfl rfl ?_ | refine m_gt hb rfl rfl ?_
  have hm := MR_fun (e := (nI e).toInt64) (i := (nI i).toInt64) h1 hsl
  have hm2 : MR P mk B res 1000 (fnS S1 q (nI e).toInt64 (nI i).toInt64 (lN (sF s))) (fw e i 0 none none :: F) none (uF s (sF s + 1)) := MR_q hm
  have hv : VR P mk (sN s) 1000 (fnS S1 q (nI e).toInt64 (nI i).toInt64 (lN (sF s))) (nI q) (.inr (e, i, sF s)) := by
    have c5 := h.2.2.2.2.2.2.2.2.2.2.1
    refine ⟨q, rfl, q1, by omega, q3, q2, ?_, ?_, ?_, he, hkd, hi, ?_⟩
    · show _ = lN e
      rw [← nI_l (n := e) (by omega)]
      exact (pk_uLn (by omega)).trans ((pk_uLn (by omega)).trans pk_uLs)
    · show _ = lN i
      rw [← nI_l (n := i) (by omega)]
      exact (pk_uLn (by omega)).trans pk_uLs
    · exact pk_uLs
    · have := h.2.2.2.2.2.2.2.2.2.1
      show sF s < 2 ^ 62
      omega
  have hfin : fnS S1 q (nI e).toInt64 (nI i).toInt64 (lN (sF s)) = jQ (jL (jL (jL S1 (8 * q) (nI e).toInt64) (8 * q + 1) (nI i).toInt64) (8 * q + 2) S1.2.1) (S1.2.1 + 1) := by rw [hser]; rfl
  rw [hfin] at hm2 hv
  refine z_cVk [.int (nI q)] [] 0 0 0 rfl (m_obj hb) rfl rfl (Nat.le_of_ble_eq_true rfl) (Nat.le_of_ble_eq_true rfl) (by omega) (by omega) (by omega) (over_K hb hm2 hX hK hv (fun S' hS' => ⟨_, rfl, ?_⟩))
  exact z_retV rfl (Nat.zero_le _) (Nat.zero_le _) (hq _ hS')
set_option maxRecDepth 100000 in
theorem k_fun (hb : mB b) (hmk : mk ≤ 120) {e i : Nat} (hkd : kd P e = nI 19) (h : MR P mk B res 1000 S (fw e i 0 none none :: F) none s) (hX : sX s = 0) (hsl : sF s + 401 ≤ B + sT s) (hK : KK dA b w CC QU P mk B res F (some (.inr (e, i, sF s)), uF s (sF s + 1))) : AD dA b w CC S := by
  obtain ⟨he2, hF, h20, hi, hi90⟩ := e_at hmk h
  refine ad_go hb hmk hkd (by decide) h (by decide) (fun Q hq => ?_)
  refine z_sw (t := 347) rfl (by decide) ?_
  repeat first | refine z_i rfl rfl ?_ | refine m_gt hb rfl rfl ?_
  refine m_ldv hb (j := F.length) rfl rfl rfl hF h20 ?_
  refine z_cVk [.int (nI e), .int (nI i)] [] 3 0 0 rfl (m_obj hb) rfl rfl (Nat.le_of_ble_eq_true rfl) (Nat.le_of_ble_eq_true rfl) (by omega) (by omega) (by omega) (r_functionR hb (by omega) hmk hkd h hX hsl hK (fun S' hS' => ⟨_, rfl, ?_⟩))
  refine z_j rfl ?_
  exact z_retV rfl (Nat.zero_le _) (Nat.zero_le _) (hq _ hS')
theorem r_missing (hb : mB b) (hc : Ctx dA b w CC GG QU) (hd : 4 ≤ d) {e i : Nat} (hmk : mk ≤ 120) (hkd : kd P e = nI 21) (h : MR P mk B res 1000 S (fw e i 0 none none :: F) none s) (hX : sX s = 0) (hK : KK dA b w CC QU P mk B res F (e_abs P s e i)) (hq : qC dA b w CC Q) : zx dA d 0 0 M_VectorLanguageModel_missing 0 (zargs 5 [.ref (b 0), .int (nI F.length), .int (pa P e)]) [] (mw dA b w S) 0 0 Q := by
  obtain ⟨he2, hF, h20, hi, hi90⟩ := e_at hmk h
  have hen := h.2.2.2.1 i hi
  have h24 : ¬ kd P e = 24 := kd_ne hkd (by decide) (j := 24) (by decide) (by decide)
  have hfail : ∀ o4 : Option Value, KK dA b w CC QU P mk B res F (e_fail s 6) → zx dA d 0 0 M_VectorLanguageModel_missing 49 [some (.ref (b 0)), some (.int (nI F.length)), some (.int (pa P e)), some (.int (nI i)), o4] [] (mw dA b w S) 0 0 Q := by
    intro o4 hK6
    repeat first | refine z_i rfl rfl ?_ | refine m_gt hb rfl rfl ?_
    refine m_pt hb rfl rfl ?_
    refine z_j rfl ?_
    exact z_retV rfl (Nat.zero_le _) (Nat.zero_le _) (hq _ (cc_fail hb hc hmk (MR_err h 6) (show ¬ (6 : Int32) = 0 by decide) (Or.inl h24) hK6))
  unfold e_abs at hK
  repeat first | refine z_i rfl rfl ?_ | refine m_gt hb rfl rfl ?_
  refine m_ldv hb (j := F.length) rfl rfl rfl hF h20 ?_
  repeat first | refine z_i rfl rfl ?_ | refine m_gt hb rfl rfl ?_
  cases hsc : sC s i with
  | none =>
    rw [hsc] at hK hen
    refine m_ld hb (j := i) rfl rfl rfl (show i < 91 by omega) ?_
    repeat first | refine z_i rfl rfl ?_ | refine m_gt hb rfl rfl ?_
    refine z_bt rfl rfl (by rw [hen.1]; rfl) ?_
    exact hfail _ hK
  | some fn =>
    rw [hsc] at hK hen
    obtain ⟨n1, n2, n3, n4, n5, n6, n7⟩ := hen
    obtain ⟨f1, f2, f3, f4⟩ := h.2.1 fn.1 n4
    have hfn : fn.1 < 120 := by omega
    refine m_ldv hb (j := i) rfl rfl rfl (show i < 91 by omega) n3 ?_
    repeat first | refine z_i rfl rfl ?_ | refine m_gt hb rfl rfl ?_
    refine z_bf rfl rfl (nI_ne0 (by omega) (by omega)) ?_
    dsimp only at hK
    repeat first | refine z_i rfl rfl ?_ | refine m_gt hb rfl rfl ?_
    refine m_ldv hb (j := fn.1) rfl rfl rfl hfn f4 ?_
    refine z_b rfl rfl (fun k1 => ?_) (fun k1 => ?_)
    · replace k1 : pa P e < pc P fn.1 := k1
      rw [if_pos k1] at hK
      exact hfail _ hK
    · replace k1 : ¬ pa P e < pc P fn.1 := k1
      rw [if_neg k1] at hK
      repeat first | refine z_i rfl rfl ?_ | refine m_gt hb rfl rfl ?_
      refine m_ldv hb (j := fn.1) rfl rfl rfl hfn f4 ?_
      repeat first | refine z_i rfl rfl ?_ | refine m_gt hb rfl rfl ?_
      refine m_ldv hb (j := fn.1) rfl rfl rfl hfn f3 ?_
      repeat first | refine z_i rfl rfl ?_ | refine m_gt hb rfl rfl ?_
      refine z_b rfl rfl (fun k2 => ?_) (fun k2 => ?_)
      · replace k2 : pa P e < pc P fn.1 + pb P fn.1 := k2
        rw [if_neg (Int32.not_le.mpr k2)] at hK
        repeat first | refine z_i rfl rfl ?_ | refine m_gt hb rfl rfl ?_
        refine m_ldv hb (j := fn.1) rfl rfl rfl hfn f4 ?_
        repeat first | refine z_i rfl rfl ?_ | refine m_gt hb rfl rfl ?_
        refine m_ldv hb (j := i) rfl rfl rfl (show i < 91 by omega) n6 ?_
        refine z_b rfl rfl (fun k3 => ?_) (fun k3 => ?_)
        · replace k3 : pa P e - pc P fn.1 < nI (sG s i) := k3
          rw [if_pos k3] at hK
          repeat first | refine z_i rfl rfl ?_ | refine m_gt hb rfl rfl ?_
          refine z_cVk [.int 0] [.ref (b 0)] 3 0 0 rfl (m_obj hb) rfl rfl (Nat.le_of_ble_eq_true rfl) (Nat.le_of_ble_eq_true rfl) (by omega) (by omega) (by omega) (r_oneR hb (by omega) (Or.inr (by decide)) h (fun S1 y1 m1 m2 m3 m4 => ⟨_, rfl, ?_⟩))
          refine z_cVk [.int y1] [] 0 0 0 rfl (m_obj hb) rfl rfl (Nat.le_of_ble_eq_true rfl) (Nat.le_of_ble_eq_true rfl) (by omega) (by omega) (by omega) (over_K hb m1 hX hK m2 (fun S' hS' => ⟨_, rfl, ?_⟩))
          exact z_retV rfl (Nat.zero_le _) (Nat.zero_le _) (hq _ hS')
        · replace k3 : ¬ pa P e - pc P fn.1 < nI (sG s i) := k3
          rw [if_neg k3] at hK
          repeat first | refine z_i rfl rfl ?_ | refine m_gt hb rfl rfl ?_
          refine z_j rfl ?_
          refine z_cVk [.int 1] [.ref (b 0)] 3 0 0 rfl (m_obj hb) rfl rfl (Nat.le_of_ble_eq_true rfl) (Nat.le_of_ble_eq_true rfl) (by omega) (by omega) (by omega) (r_oneR hb (by omega) (Or.inr (by decide)) h (fun S1 y1 m1 m2 m3 m4 => ⟨_, rfl, ?_⟩))
          refine z_cVk [.int y1] [] 0 0 0 rfl (m_obj hb) rfl rfl (Nat.le_of_ble_eq_true rfl) (Nat.le_of_ble_eq_true rfl) (by omega) (by omega) (by omega) (over_K hb m1 hX hK m2 (fun S' hS' => ⟨_, rfl, ?_⟩))
          exact z_retV rfl (Nat.zero_le _) (Nat.zero_le _) (hq _ hS')
      · replace k2 : ¬ pa P e < pc P fn.1 + pb P fn.1 := k2
        rw [if_pos (Int32.not_lt.mp k2)] at hK
        exact hfail _ hK
set_option maxRecDepth 100000 in
theorem k_abs (hb : mB b) (hc : Ctx dA b w CC GG QU) (hmk : mk ≤ 120) {e i : Nat} (hkd : kd P e = nI 21) (h : MR P mk B res 1000 S (fw e i 0 none none :: F) none s) (hX : sX s = 0) (hK : KK dA b w CC QU P mk B res F (e_abs P s e i)) : AD dA b w CC S := by
  obtain ⟨he2, hF, h20, hi, hi90⟩ := e_at hmk h
  obtain ⟨g1, g2, g3, g4⟩ := h.2.1 e h.2.2.2.2.2.1.1.2.2.2.2.2.2.1
  refine ad_go hb hmk hkd (by decide) h (by decide) (fun Q hq => ?_)
  refine z_sw (t := 392) rfl (by decide) ?_
  repeat first | refine z_i rfl rfl ?_ | refine m_gt hb rfl rfl ?_
  refine m_ldv hb (j := e) rfl rfl rfl he2 g2 ?_
  refine z_cVk [.int (nI F.length), .int (pa P e)] [] 4 0 0 rfl (m_obj hb) rfl rfl (Nat.le_of_ble_eq_true rfl) (Nat.le_of_ble_eq_true rfl) (by omega) (by omega) (by omega) (r_missing hb hc (by omega) hmk hkd h hX hK (fun S' hS' => ⟨_, rfl, ?_⟩))
  refine z_j rfl ?_
  exact z_retV rfl (Nat.zero_le _) (Nat.zero_le _) (hq _ hS')
end KF
