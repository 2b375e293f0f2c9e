/-! the reference's worked; the kinds that work on vectors-/
section WK
variable {dA : Nat → ClassId} {b : Nat → Nat} {w : ww_W} {CC GG : mm → Prop} {QU : zQ} {P : aP} {mk B n q : Nat} {res : rP} {S S' : mm} {F : List fF} {x : Option aV} {s : aS} {y : Int32} {d : Nat} {Q : zQ}
theorem kd_ne {e k j : Nat} (hkd : kd P e = nI k) (hk : k < 26) (hj : j < 26) (hn : ¬ k = j) : ¬ kd P e = nI j := fun q => hn ((nI_eq (by omega) (by omega)).mp (hkd.symm.trans q))
theorem p_part_ab {e k : Nat} (hkd : kd P e = nI k) (hk : k < 26) (h4 : ¬ k = 4) (h5 : ¬ k = 5) (h13 : ¬ k = 13) : p_part P e 0 = pa P e ∧ p_part P e 1 = pb P e := by
  have n4 : ¬ kd P e = 4 := kd_ne hkd hk (j := 4) (by decide) h4
  have n5 : ¬ kd P e = 5 := kd_ne hkd hk (j := 5) (by decide) h5
  have n13 : ¬ kd P e = 13 := kd_ne hkd hk (j := 13) (by decide) h13
  unfold p_part
  constructor
  · rw [if_neg n4, if_neg n5, if_neg n13, if_pos rfl]
  · rw [if_neg n4, if_neg n5, if_neg n13, if_neg (by decide)]
theorem top_va {e i st : Nat} {u : aV} {c : Option aV} (h : MR P mk B res 1000 S (fw e i st (some u) c :: F) x s) : ∃ a : Nat, S.2.2.2 22 F.length = nI a ∧ RT P mk B res S (fw e i st (some u) c :: F) x s a u := by
  obtain ⟨_, _, _, h22, _⟩ := h.2.2.2.2.2.1.1
  obtain ⟨a, g1, g2, _⟩ := h22
  refine ⟨a, g1, g2, fun S' q h' hA _ => ?_⟩
  obtain ⟨_, _, _, h22', _⟩ := h'.2.2.2.2.2.1.1
  rw [hA 22 (by decide) (by decide) (by decide), g1] at h22'
  exact h22'
theorem top_vb {e i st : Nat} {u : aV} {a : Option aV} (h : MR P mk B res 1000 S (fw e i st a (some u) :: F) x s) : ∃ c : Nat, S.2.2.2 23 F.length = nI c ∧ RT P mk B res S (fw e i st a (some u) :: F) x s c u := by
  obtain ⟨_, _, _, _, h23, _⟩ := h.2.2.2.2.2.1.1
  obtain ⟨c, g1, g2, _⟩ := h23
  refine ⟨c, g1, g2, fun S' q h' hA _ => ?_⟩
  obtain ⟨_, _, _, _, h23', _⟩ := h'.2.2.2.2.2.1.1
  rw [hA 23 (by decide) (by decide) (by decide), g1] at h23'
  exact h23'
theorem top_vc {e i st : Nat} {u : aV} {a c : Option aV} (h : MR P mk B res 1000 S (fw e i st a c :: F) (some u) s) : ∃ z : Nat, S.2.2.2 24 F.length = nI z ∧ RT P mk B res S (fw e i st a c :: F) (some u) s z u := by
  obtain ⟨_, _, _, _, _, h24, _⟩ := h.2.2.2.2.2.1.1
  obtain ⟨z, g1, g2, _⟩ := h24
  refine ⟨z, g1, g2, fun S' q h' hA _ => ?_⟩
  obtain ⟨_, _, _, _, _, h24', _⟩ := h'.2.2.2.2.2.1.1
  rw [hA 24 (by decide) (by decide) (by decide), g1] at h24'
  exact h24'
theorem nul_rt : RT P mk B res S F x s 0 (.inl []) := ⟨by decide, fun _ _ h' _ _ => h'.2.2.1.2.1⟩
/-- an end: what r says -/
def OR (dA : Nat → ClassId) (b : Nat → Nat) (w : ww_W) (P : aP) (mk B : Nat) (res : rP) (S : mm) (F : List fF) (x : Option aV) (s : aS) (Q : zQ) : aR → Prop
  | (some v, _) => OV dA b w P mk B res S F x s v Q
  | (none, s') => ∀ S' : mm, MR P mk B res 1000 S' F x s' → Q (.inl (some (.int 0))) (mw dA b w S') 0 0
theorem OU_of {o : List Int32 ⊕ Int32} (h : OR dA b w P mk B res S F x s Q (e_out o s)) : OU dA b w P mk B res S F x s Q o := by
  cases o with
  | inl xs => exact h
  | inr e => exact h
theorem e_cb_25 {e : Nat} {u v : aV} (hk : kd P e = 25) : e_cb P e u v s = (some (.inl (if e_sam u v = 0 then [0] else [1])), s) := by
  cases u with
  | inl xs =>
    cases v with
    | inl ys =>
      unfold e_cb e_comb
      rw [hk]
      rfl
    | inr g =>
      unfold e_cb
      rw [if_pos hk]
      rfl
  | inr f =>
    cases v with
    | inl ys =>
      unfold e_cb
      rw [if_pos hk]
      rfl
    | inr g =>
      unfold e_cb
      rw [if_pos hk]
      show ((if (if f.2.2 = g.2.2 then (1 : Int32) else 0) = 0 then some (Sum.inl [0]) else some (Sum.inl [1])), s) = (some (.inl (if (if f.2.2 = g.2.2 then (1 : Int32) else 0) = 0 then [0] else [1])), s)
      split <;> rfl
theorem e_cb_f {e : Nat} {u v : aV} (hk : ¬ kd P e = 25) (hn : (∃ f, u = .inr f) ∨ ∃ f, v = .inr f) : e_cb P e u v s = e_fail s 3 := by
  cases u with
  | inl xs =>
    cases v with
    | inl ys => rcases hn with ⟨f, q⟩ | ⟨f, q⟩ <;> cases q
    | inr g => unfold e_cb; rw [if_neg hk]
  | inr f =>
    cases v with
    | inl ys => unfold e_cb; rw [if_neg hk]
    | inr g => unfold e_cb; rw [if_neg hk]
theorem r_worked2 (hb : mB b) (hd : 5 ≤ d) {e i k : Nat} {u v : aV} (hmk : mk ≤ 120) (hkd : kd P e = nI k) (hk : k = 6 ∨ k = 7 ∨ k = 8 ∨ k = 10 ∨ k = 11 ∨ k = 12 ∨ k = 25) (hop : k = 6 → ∃ o : Nat, o ≤ 4 ∧ pc P e = nI o) (h : MR P mk B res 1000 S (fw e i 2 (some u) (some v) :: F) none s)
    (hQ : OR dA b w P mk B res S (fw e i 2 (some u) (some v) :: F) none s Q (e_cb P e u v s)) : zx dA d 0 0 M_VectorLanguageModel_worked 0 (zargs 5 [.ref (b 0), .int (nI F.length), .int (nI e)]) [] (mw dA b w S) 0 0 Q := by
  obtain ⟨a, ea, hA⟩ := top_va h
  obtain ⟨c, ec, hC⟩ := top_vb h
  have hlen := MR_len h
  rw [List.length_cons] at hlen
  have hF : F.length < 450 := by omega
  have he := h.2.2.2.2.2.1.1.2.2.2.2.2.2.1
  have he2 : e < 120 := by omega
  obtain ⟨g1, g2, g3, g4⟩ := h.2.1 e he
  rw [hkd] at g1
  have hk25 : k < 26 := by omega
  repeat first | refine z_i rfl rfl ?_ | refine m_gt hb rfl rfl ?_
  refine m_ldv hb (j := F.length) rfl rfl rfl hF ea ?_
  repeat first | refine z_i rfl rfl ?_ | refine m_gt hb rfl rfl ?_
  refine m_ldv hb (j := F.length) rfl rfl rfl hF ec ?_
  repeat first | refine z_i rfl rfl ?_ | refine m_gt hb rfl rfl ?_
  refine m_ldv hb (j := e) rfl rfl rfl he2 g1 ?_
  repeat first | refine z_i rfl rfl ?_ | refine m_gt hb rfl rfl ?_
  refine z_b rfl rfl (fun q => ?_) (fun q => ?_)
  · have hk1 : ¬ kd P e = 25 := by rw [hkd]; exact q
    have hfail : (∃ f, u = .inr f) ∨ (∃ f, v = .inr f) → zx dA d 0 0 M_VectorLanguageModel_worked 70 [some (.ref (b 0)), some (.int (nI F.length)), some (.int (nI e)), some (.int (nI a)), some (.int (nI c))] [] (mw dA b w S) 0 0 Q := by
      intro hn
      rw [e_cb_f hk1 hn] at hQ
      repeat first | refine z_i rfl rfl ?_ | refine m_gt hb rfl rfl ?_
      refine z_cVk [.int 3] [] 0 0 0 rfl (m_obj hb) rfl rfl (Nat.le_of_ble_eq_true rfl) (Nat.le_of_ble_eq_true rfl) (by omega) (by omega) (by omega) (r_failed hb ⟨_, rfl, ?_⟩)
      exact z_retI rfl (Nat.zero_le _) (Nat.zero_le _) (hQ _ (MR_err h 3))
    repeat first | refine z_i rfl rfl ?_ | refine m_gt hb rfl rfl ?_
    cases u with
    | inr f =>
      have := (VR_j hA.1 (RT_0 h hA)).1.1
      refine m_ldv hb (j := a) rfl rfl rfl hA.1 this ?_
      refine z_bt rfl rfl (by decide) ?_
      exact hfail (Or.inl ⟨f, rfl⟩)
    | inl xs =>
      obtain ⟨x1, x2, x3, x4⟩ := VR_inl hA.1 (RT_0 h hA)
      have hx16 := x2.1
      refine m_ldv hb (j := a) rfl rfl rfl hA.1 x1 ?_
      refine z_bf rfl rfl (nI_pos (by omega)) ?_
      repeat first | refine z_i rfl rfl ?_ | refine m_gt hb rfl rfl ?_
      refine z_bf rfl rfl (nI_pos (by have := hC.1; omega)) ?_
      repeat first | refine z_i rfl rfl ?_ | refine m_gt hb rfl rfl ?_
      cases v with
      | inr f =>
        have := (VR_j hC.1 (RT_0 h hC)).1.1
        refine m_ldv hb (j := c) rfl rfl rfl hC.1 this ?_
        refine z_bf rfl rfl (by decide) ?_
        exact hfail (Or.inr ⟨f, rfl⟩)
      | inl ys =>
        obtain ⟨y1, y2, y3, y4⟩ := VR_inl hC.1 (RT_0 h hC)
        have hy16 := y2.1
        refine m_ldv hb (j := c) rfl rfl rfl hC.1 y1 ?_
        refine z_bt rfl rfl (nI_pos' (by omega)) ?_
        repeat first | refine z_i rfl rfl ?_ | refine m_gt hb rfl rfl ?_
        refine m_ldv hb (j := e) rfl rfl rfl he2 g1 ?_
        replace hQ : OR dA b w P mk B res S (fw e i 2 (some (.inl xs)) (some (.inl ys)) :: F) none s Q (e_out (e_comb (nI k) (pc P e) xs ys) s) := by rw [← hkd]; exact hQ
        replace hQ := OU_of hQ
        have hpair : (k = 6 ∨ k = 7 ∨ k = 8) → zx dA d 0 0 M_VectorLanguageModel_worked 132 [some (.ref (b 0)), some (.int (nI F.length)), some (.int (nI e)), some (.int (nI a)), some (.int (nI c))] [] (mw dA b w S) 0 0 Q := by
          intro hk3
          have hOV : OV dA b w P mk B res S (fw e i 2 (some (.inl xs)) (some (.inl ys)) :: F) none s (.inl (e_pair (nI k) (pc P e) xs ys)) Q := by
            rcases hk3 with rfl | rfl | rfl <;> exact hQ
          repeat first | refine z_i rfl rfl ?_ | refine m_gt hb rfl rfl ?_
          refine m_ldv hb (j := e) rfl rfl rfl he2 g1 ?_
          repeat first | refine z_i rfl rfl ?_ | refine m_gt hb rfl rfl ?_
          refine m_ldv hb (j := e) rfl rfl rfl he2 g4 ?_
          repeat first | refine z_i rfl rfl ?_ | refine m_gt hb rfl rfl ?_
          refine z_cVk [.int (nI k), .int (pc P e), .int (nI a), .int (nI c)] [] 3 0 0 rfl (m_obj hb) rfl rfl (Nat.le_of_ble_eq_true rfl) (Nat.le_of_ble_eq_true rfl) (by omega) (by omega) (by omega) (r_pairwise hb (by omega) h (by rcases hk3 with rfl | rfl | rfl; exact Or.inl rfl; exact Or.inr (Or.inl rfl); exact Or.inr (Or.inr rfl)) (fun q6 => hop ((nI_eq (b := 6) (by omega) (by omega)).mp q6)) hA hC (fun S1 y1 k1 k2 k3 k4 => ⟨_, rfl, ?_⟩))
          exact z_retI rfl (Nat.zero_le _) (Nat.zero_le _) (hOV S1 y1 k1 k2 k3 k4)
        rcases hk with rfl | rfl | rfl | rfl | rfl | rfl | rfl
        · refine z_sw (t := 132) rfl (by decide) ?_
          exact hpair (by simp)
        · refine z_sw (t := 132) rfl (by decide) ?_
          exact hpair (by simp)
        · refine z_sw (t := 132) rfl (by decide) ?_
          exact hpair (by simp)
        · refine z_sw (t := 158) rfl (by decide) ?_
          replace hQ : OU dA b w P mk B res S (fw e i 2 (some (.inl xs)) (some (.inl ys)) :: F) none s Q (e_join xs ys) := hQ
          repeat first | refine z_i rfl rfl ?_ | refine m_gt hb rfl rfl ?_
          refine z_cVk [.int (nI a), .int (nI c)] [] 3 0 0 rfl (m_obj hb) rfl rfl (Nat.le_of_ble_eq_true rfl) (Nat.le_of_ble_eq_true rfl) (by omega) (by omega) (by omega) (r_joined hb (by omega) h hA hC ?_)
          cases ho : e_join xs ys with
          | inl l =>
            rw [ho] at hQ
            exact fun S1 y1 k1 k2 k3 k4 => ⟨_, rfl, z_retI rfl (Nat.zero_le _) (Nat.zero_le _) (hQ S1 y1 k1 k2 k3 k4)⟩
          | inr l =>
            rw [ho] at hQ
            exact fun S1 k1 => ⟨_, rfl, z_retI rfl (Nat.zero_le _) (Nat.zero_le _) (hQ S1 k1)⟩
        · refine z_sw (t := 166) rfl (by decide) ?_
          replace hQ : OU dA b w P mk B res S (fw e i 2 (some (.inl xs)) (some (.inl ys)) :: F) none s Q (e_rng (p_fst xs.length (p_at xs)) (p_fst ys.length (p_at ys))) := hQ
          repeat first | refine z_i rfl rfl ?_ | refine m_gt hb rfl rfl ?_
          refine z_cVk [.int (nI a), .int (nI c)] [] 3 0 0 rfl (m_obj hb) rfl rfl (Nat.le_of_ble_eq_true rfl) (Nat.le_of_ble_eq_true rfl) (by omega) (by omega) (by omega) (r_rangeR hb (by omega) h hA hC ?_)
          cases ho : e_rng (p_fst xs.length (p_at xs)) (p_fst ys.length (p_at ys)) with
          | inl l =>
            rw [ho] at hQ
            exact fun S1 y1 k1 k2 k3 k4 => ⟨_, rfl, z_retI rfl (Nat.zero_le _) (Nat.zero_le _) (hQ S1 y1 k1 k2 k3 k4)⟩
          | inr l =>
            rw [ho] at hQ
            exact fun S1 k1 => ⟨_, rfl, z_retI rfl (Nat.zero_le _) (Nat.zero_le _) (hQ S1 k1)⟩
        · refine z_sw (t := 174) rfl (by decide) ?_
          replace hQ : OU dA b w P mk B res S (fw e i 2 (some (.inl xs)) (some (.inl ys)) :: F) none s Q (e_pick xs ys) := hQ
          repeat first | refine z_i rfl rfl ?_ | refine m_gt hb rfl rfl ?_
          refine z_cVk [.int (nI a), .int (nI c)] [] 3 0 0 rfl (m_obj hb) rfl rfl (Nat.le_of_ble_eq_true rfl) (Nat.le_of_ble_eq_true rfl) (by omega) (by omega) (by omega) (r_picked hb (by omega) h hA hC ?_)
          cases ho : e_pick xs ys with
          | inl l =>
            rw [ho] at hQ
            exact fun S1 y1 k1 k2 k3 k4 => ⟨_, rfl, z_retI rfl (Nat.zero_le _) (Nat.zero_le _) (hQ S1 y1 k1 k2 k3 k4)⟩
          | inr l =>
            rw [ho] at hQ
            exact fun S1 k1 => ⟨_, rfl, z_retI rfl (Nat.zero_le _) (Nat.zero_le _) (hQ S1 k1)⟩
        · exact absurd rfl q
  · have hk1 : kd P e = 25 := by rw [hkd]; exact Classical.not_not.mp q
    rw [e_cb_25 hk1] at hQ
    repeat first | refine z_i rfl rfl ?_ | refine m_gt hb rfl rfl ?_
    refine z_cVk [.int (nI a), .int (nI c)] [.ref (b 0)] 1 0 0 rfl (m_obj hb) rfl rfl (Nat.le_of_ble_eq_true rfl) (Nat.le_of_ble_eq_true rfl) (by omega) (by omega) (by omega) (r_sameR hb (by omega) hA.1 hC.1 (RT_0 h hA) (RT_0 h hC) ⟨_, rfl, ?_⟩)
    refine z_b rfl rfl (fun g => ?_) (fun g => ?_)
    · replace g : e_sam u v = 0 := g
      rw [if_pos g] at hQ
      repeat first | refine z_i rfl rfl ?_ | refine m_gt hb rfl rfl ?_
      refine z_cVk [.int 0] [] 3 0 0 rfl (m_obj hb) rfl rfl (Nat.le_of_ble_eq_true rfl) (Nat.le_of_ble_eq_true rfl) (by omega) (by omega) (by omega) (r_oneR hb (by omega) (Or.inr (by decide)) h (fun S1 y1 k1 k2 k3 k4 => ⟨_, rfl, ?_⟩))
      exact z_retI rfl (Nat.zero_le _) (Nat.zero_le _) (hQ S1 y1 k1 k2 k3 k4)
    · replace g : ¬ e_sam u v = 0 := g
      rw [if_neg g] at hQ
      repeat first | refine z_i rfl rfl ?_ | refine m_gt hb rfl rfl ?_
      refine z_j rfl ?_
      refine z_cVk [.int 1] [] 3 0 0 rfl (m_obj hb) rfl rfl (Nat.le_of_ble_eq_true rfl) (Nat.le_of_ble_eq_true rfl) (by omega) (by omega) (by omega) (r_oneR hb (by omega) (Or.inr (by decide)) h (fun S1 y1 k1 k2 k3 k4 => ⟨_, rfl, ?_⟩))
      exact z_retI rfl (Nat.zero_le _) (Nat.zero_le _) (hQ S1 y1 k1 k2 k3 k4)
set_option maxRecDepth 100000 in
/-- behind worked -/
theorem ad_wk (hb : mB b) (hc : Ctx dA b w CC GG QU) (hmk : mk ≤ 120) {e i st k : Nat} {a c : Option aV} {r : aR} (hkd : kd P e = nI k) (h24 : ¬ kd P e = 24) (h : MR P mk B res 1000 S (fw e i st a c :: F) none s) (hX : sX s = 0) (hK : KK dA b w CC QU P mk B res F r) (hr : (∃ v : aV, r = (some v, s)) ∨ ∃ z : Int32, ¬ z = 0 ∧ r = (none, uX s z))
    (hW : ∀ Q : zQ, OR dA b w P mk B res S (fw e i st a c :: F) none s Q r → zx dA 5 0 0 M_VectorLanguageModel_worked 0 (zargs 5 [.ref (b 0), .int (nI F.length), .int (nI e)]) [] (mw dA b w S) 0 0 Q) (hq : qC dA b w CC Q) : zx dA 6 0 0 M_VectorLanguageModel_advance 470 [some (.ref (b 0)), some (.int (nI F.length)), some (.int (nI e)), some (.int (nI k)), none] [] (mw dA b w S) 0 0 Q := by
  repeat first | refine z_i rfl rfl ?_ | refine m_gt hb rfl rfl ?_
  refine z_cVk [.int (nI F.length), .int (nI e)] [] 5 0 0 rfl (m_obj hb) rfl rfl (Nat.le_of_ble_eq_true rfl) (Nat.le_of_ble_eq_true rfl) (by omega) (by omega) (by omega) (hW _ ?_)
  rcases hr with ⟨v, rfl⟩ | ⟨z, hz, rfl⟩
  · intro S1 y1 k1 k2 k3 k4
    refine ⟨_, rfl, ?_⟩
    repeat first | refine z_i rfl rfl ?_ | refine m_gt hb rfl rfl ?_
    refine z_bf rfl rfl (fun g => g ?_) ?_
    · show S1.1 29 = 0
      rw [k1.1.2.2.2.2.1, hX]
    repeat first | refine z_i rfl rfl ?_ | refine m_gt hb rfl rfl ?_
    refine z_cVk [.int y1] [] 0 0 0 rfl (m_obj hb) rfl rfl (Nat.le_of_ble_eq_true rfl) (Nat.le_of_ble_eq_true rfl) (by omega) (by omega) (by omega) (over_K hb k1 hX hK k2 (fun S' hS' => ⟨_, rfl, ?_⟩))
    exact z_retV rfl (Nat.zero_le _) (Nat.zero_le _) (hq _ hS')
  · intro S1 k1
    refine ⟨_, rfl, ?_⟩
    repeat first | refine z_i rfl rfl ?_ | refine m_gt hb rfl rfl ?_
    refine z_bt rfl rfl (show ¬ S1.1 29 = 0 by rw [k1.1.2.2.2.2.1]; exact hz) ?_
    exact z_retV rfl (Nat.zero_le _) (Nat.zero_le _) (hq _ (cc_fail hb hc hmk k1 hz (Or.inl h24) hK))
theorem e_cb_r {e : Nat} {u v : aV} : (∃ v' : aV, e_cb P e u v s = (some v', s)) ∨ ∃ z : Int32, ¬ z = 0 ∧ e_cb P e u v s = (none, uX s z) := by
  have ho : ∀ o : List Int32 ⊕ Int32, (∀ z, o = .inr z → ¬ z = 0) → (∃ v' : aV, e_out o s = (some v', s)) ∨ ∃ z : Int32, ¬ z = 0 ∧ e_out o s = (none, uX s z) := by
    intro o hz
    cases o with
    | inl xs => exact Or.inl ⟨_, rfl⟩
    | inr z => exact Or.inr ⟨z, hz z rfl, rfl⟩
  by_cases h25 : kd P e = 25
  · rw [e_cb_25 h25]
    exact Or.inl ⟨_, rfl⟩
  · cases u with
    | inr f => rw [e_cb_f h25 (Or.inl ⟨f, rfl⟩)]; exact Or.inr ⟨3, by decide, rfl⟩
    | inl xs =>
      cases v with
      | inr f => rw [e_cb_f h25 (Or.inr ⟨f, rfl⟩)]; exact Or.inr ⟨3, by decide, rfl⟩
      | inl ys =>
        refine ho _ (fun z hz => ?_)
        unfold e_comb e_join e_rng e_pick at hz
        repeat' split at hz
        all_goals first | (cases hz; decide) | (cases hz)
set_option maxRecDepth 100000 in
theorem k_two (hb : mB b) (hc : Ctx dA b w CC GG QU) (hmk : mk ≤ 120) {e i k z z2 d : Nat} (IH : SIM dA b w CC QU P mk B res d) (hkd : kd P e = nI k) (hk : k = 6 ∨ k = 7 ∨ k = 8 ∨ k = 10 ∨ k = 11 ∨ k = 12 ∨ k = 25) (hop : k = 6 → ∃ o : Nat, o ≤ 4 ∧ pc P e = nI o) (hz : pa P e = nI z) (hzm : z < mk) (hz2 : pb P e = nI z2) (hzm2 : z2 < mk) (h : MR P mk B res 1000 S (fw e i 0 none none :: F) none s) (hX : sX s = 0) (hwk : wk F + 1 + d = 40) (hK : KK dA b w CC QU P mk B res F (e_two P (e_ev P d) s e i)) : AD dA b w CC S := by
  have hne : ∀ j : Nat, j < 26 → ¬ k = j → ¬ kd P e = nI j := fun j hj hn q => hn ((nI_eq (by omega) (by omega)).mp (hkd.symm.trans q))
  obtain ⟨hp0, hp1⟩ := p_part_ab hkd (by omega) (by omega) (by omega) (by omega)
  rw [hz] at hp0
  rw [hz2] at hp1
  have h2 : p_prt k = 2 := by rcases hk with rfl | rfl | rfl | rfl | rfl | rfl | rfl <;> rfl
  have hzz : tN (pa P e) = z := by rw [hz]; exact nI_clamp (by omega)
  have hzz2 : tN (pb P e) = z2 := by rw [hz2]; exact nI_clamp (by omega)
  unfold e_two at hK
  rw [hzz, hzz2] at hK
  refine two_parts hb hc hmk IH hkd (by omega) (by omega) hp0 hzm hp1 hzm2 (by omega) h hX hwk hK (fun u v s2 S2 hX2 hm hK2 => ?_)
  refine ad_go hb hmk hkd (by omega) hm (by omega) (fun Q hq => ?_)
  have hsw : zx dA 6 0 0 M_VectorLanguageModel_advance 470 [some (.ref (b 0)), some (.int (nI F.length)), some (.int (nI e)), some (.int (nI k)), none] [] (mw dA b w S2) 0 0 Q := ad_wk hb hc hmk hkd (hne 24 (by decide) (by omega)) hm hX2 hK2 e_cb_r (fun Q' hQ' => r_worked2 hb (by omega) hmk hkd hk hop hm hQ') hq
  rcases hk with rfl | rfl | rfl | rfl | rfl | rfl | rfl <;> exact z_sw (t := 470) rfl (by decide) hsw
end WK
