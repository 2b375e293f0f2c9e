/-! failures are numbers in range; the reference's replace -/
section XM
variable {P : aP} {s : aS}
abbrev oX (s : aS) : Prop := okI (sX s)
def MX (f : aS → Nat → Nat → aR) : Prop := ∀ (s : aS) (e i : Nat), oX s → oX (f s e i).2
theorem X_n {z : Nat} (h : z ≤ 1000) : oX (uX s (nI z)) := okI_nI h
theorem X_bd {r : aR} {g : aV → aS → aR} (h : oX r.2) (hg : ∀ (v : aV) (s1 : aS), oX s1 → oX (g v s1).2) : oX (e_bd r g).2 := by
  obtain ⟨o, s1⟩ := r
  cases o with
  | none => exact h
  | some v => exact hg v s1 h
theorem X_vec {g : List Int32 → aS → aR} (hg : ∀ (v : List Int32) (s1 : aS), oX s1 → oX (g v s1).2) (v : aV) (s1 : aS) (h : oX s1) : oX (e_vec g v s1).2 := by
  cases v with
  | inl xs => exact hg xs s1 h
  | inr f => exact X_n (z := 3) (by decide)
theorem X_ct {v : Option aV} : sX (e_ct s v) = sX s := by cases v <;> rfl
variable {f : aS → Nat → Nat → aR}
theorem X_val (hf : MX f) (i j : Nat) (h : oX s) : oX (e_val f s i j).2 := by
  unfold e_val
  cases sL s i j with
  | none => exact h
  | some l =>
    cases l with
    | inl v => exact h
    | inr a =>
      obtain ⟨a1, a2, a3, a4⟩ := a
      cases a4 with
      | some v => exact h
      | none =>
        show oX (e_arg f s i j (a1, a2, a3, none)).2
        unfold e_arg
        split
        · exact X_n (z := 2) (by decide)
        · show okI (sX (e_ct _ _))
          rw [X_ct, (un_keep).2.1]
          exact hf (uL s i j (some (.inr (a1, a2, true, none)))) a1 a2 h
theorem X_ite {c : Prop} [Decidable c] {a b : aR} (ha : oX a.2) (hb : oX b.2) : oX (if c then a else b).2 := by
  split
  · exact ha
  · exact hb
theorem X_cond {r : aR} {g : Int32 → aS → aR} (h : oX r.2) (hg : ∀ (v : Int32) (s1 : aS), oX s1 → oX (g v s1).2) : oX (e_cond r g).2 := by
  unfold e_cond e_bv
  exact X_bd h (X_vec (fun xs s1 h1 => X_ite (X_n (z := 7) (by decide)) (hg _ _ h1)))
theorem X_whl (hf : MX f) (e i : Nat) : ∀ (r : Nat) (s : aS), oX s → oX (e_whl P f e i r s).2
  | 0, _, _ => X_n (z := 9) (by decide)
  | r + 1, s, h => by
    unfold e_whl
    exact X_cond (hf _ _ _ h) (fun x s1 h1 => X_ite h1 (X_bd (hf _ _ _ h1) (fun _ s2 h2 => X_whl hf e i r s2 h2)))
theorem X_take (i : Nat) (h : oX s) : oX (e_take s i).2 := by
  unfold e_take
  split
  · exact h
  · split <;> exact h
theorem X_cb (e : Nat) (u v : aV) (h : oX s) : oX (e_cb P e u v s).2 := by
  by_cases h25 : kd P e = 25
  · rw [e_cb_25 h25]; exact h
  · cases u with
    | inr g => rw [e_cb_f h25 (Or.inl ⟨g, rfl⟩)]; exact X_n (z := 3) (by decide)
    | inl xs =>
      cases v with
      | inr g => rw [e_cb_f h25 (Or.inr ⟨g, rfl⟩)]; exact X_n (z := 3) (by decide)
      | inl ys =>
        show oX (e_out (e_comb (kd P e) (pc P e) xs ys) s).2
        cases ho : e_comb (kd P e) (pc P e) xs ys with
        | inl l => exact h
        | inr z =>
          show okI z
          unfold e_comb e_join e_rng e_pick at ho
          repeat' split at ho
          all_goals first | (cases ho; exact okI_nI (n := 1) (by decide)) | (cases ho; exact okI_nI (n := 5) (by decide)) | (cases ho; exact okI_nI (n := 8) (by decide)) | (cases ho)
theorem X_sto {xs ys zs : List Int32} (i j : Nat) (h : oX s) : oX (e_sto xs ys zs s i j).2 := by
  unfold e_sto
  split
  · rename_i z hz
    show okI z
    unfold e_rep at hz
    repeat' split at hz
    all_goals first | (cases hz; exact okI_nI (n := 8) (by decide)) | (cases hz; exact okI_nI (n := 5) (by decide)) | (cases hz; exact okI_nI (n := 1) (by decide)) | (cases hz)
  · exact h
  · exact h
theorem X_rpl (hf : MX f) (e i : Nat) (u v : aV) (s : aS) (h : oX s) : oX (e_rpl P f e i u v s).2 := by
  cases u with
  | inr g => exact X_n (z := 3) (by decide)
  | inl ys =>
    cases v with
    | inr g => exact X_n (z := 3) (by decide)
    | inl zs =>
      show oX (e_bd (e_old P f e i s) (fun o s3 => e_rpo o ys zs s3 i (tN (pa P e)))).2
      refine X_bd ?_ (fun o s3 h3 => ?_)
      · unfold e_old
        split
        · exact h
        · exact X_val hf _ _ h
      · cases o with
        | inr g => exact X_n (z := 3) (by decide)
        | inl xs => exact X_sto i _ h3
theorem X_ent (hf : MX f) (s1 : aS) (e i : Nat) (fn : Nat × Nat × Nat) (h : oX s1) : oX (e_ent P f s1 e i fn).2 := by
  unfold e_ent
  refine X_ite (X_n (z := 6) (by decide)) (X_ite (X_n (z := 9) (by decide)) ?_)
  have := hf (e_new P s1 e i fn) (tN (pa P fn.1)) (sN s1 + 1) h
  split
  · exact this
  · exact X_take _ this
theorem X_try (hf : MX f) (s : aS) (e i : Nat) (h : oX s) : oX (e_try P f s e i).2 := by
  unfold e_try
  have h1 := hf s (tN (pa P e)) i h
  split
  · exact h1
  · exact X_ite h1 (hf (uX (uL (f s (tN (pa P e)) i).2 i 9 (some (.inl (.inl [sX (f s (tN (pa P e)) i).2])))) 0) _ _ (okI_nI (n := 0) (by decide)))
theorem X_abs (s : aS) (e i : Nat) (h : oX s) : oX (e_abs P s e i).2 := by
  unfold e_abs
  split
  · exact X_n (z := 6) (by decide)
  · exact X_ite (X_n (z := 6) (by decide)) (X_ite (X_n (z := 6) (by decide)) h)
theorem X_stp (hf : MX f) (s : aS) (e i : Nat) (h : oX s) : oX (e_stp P f s e i).2 := by
  unfold e_stp
  refine X_ite h (X_ite h (X_ite h (X_ite ?_ (X_ite ?_ (X_ite ?_ (X_ite ?_ (X_ite ?_ (X_ite (X_whl hf e i 401 s h) (X_ite ?_ (X_ite h (X_ite ?_ (X_ite (X_abs _ _ _ h) (X_ite ?_ (X_ite (X_try hf _ _ _ h) ?_))))))))))))))
  · unfold e_read
    split
    · exact X_n (z := 4) (by decide)
    · exact X_val hf _ _ h
  · unfold e_asg
    exact X_bd (hf _ _ _ h) (fun _ _ h1 => h1)
  · unfold e_one e_bv
    exact X_bd (hf _ _ _ h) (X_vec (fun xs s1 h1 => X_ite h1 (X_ite h1 (X_ite h1 (okI_rai _)))))
  · unfold e_repl
    exact X_bd (hf _ _ _ h) (fun u s1 h1 => X_bd (hf _ _ _ h1) (fun v s2 h2 => X_rpl hf e i u v s2 h2))
  · unfold e_if
    exact X_cond (hf _ _ _ h) (fun x s1 h1 => X_ite (X_ite h1 (hf _ _ _ h1)) (hf _ _ _ h1))
  · unfold e_then
    exact X_bd (hf _ _ _ h) (fun _ s1 h1 => hf _ _ _ h1)
  · unfold e_call
    refine X_bd (hf _ _ _ h) (fun v s1 h1 => ?_)
    cases v with
    | inl xs => exact X_n (z := 3) (by decide)
    | inr fn => exact X_ent hf s1 e i fn h1
  · unfold e_ret
    exact X_bd (hf _ _ _ h) (fun v s1 h1 => X_ite (X_n (z := 6) (by decide)) h1)
  · unfold e_two
    exact X_bd (hf _ _ _ h) (fun u s1 h1 => X_bd (hf _ _ _ h1) (fun v s2 h2 => X_cb e u v h2))
theorem X_ev : ∀ d : Nat, MX (e_ev P d)
  | 0 => fun _ _ _ _ => X_n (z := 9) (by decide)
  | d + 1 => fun s e i h => by
    unfold e_ev
    exact X_ite (X_n (z := 9) (by decide)) (X_stp (X_ev d) (uT s (sT s + 1)) e i h)
end XM
section KM
variable {dA : Nat → ClassId} {b : Nat → Nat} {w : ww_W} {CC GG : mm → Prop} {QU : zQ} {P : aP} {mk B n q : Nat} {res : rP} {S S' : mm} {F : List fF} {x : Option aV} {s : aS} {y : Int32} {d : Nat} {Q : zQ}
/-- the old value of a replacement -/
def oldO (x : Option aV) (o : aV) : Prop := x = some o ∨ x = none ∧ o = .inl []
theorem r_replR (hb : mB b) (hc : Ctx dA b w CC GG QU) (hd : 4 ≤ d) {e i j : Nat} {o : aV} {ys zs : List Int32} (hmk : mk ≤ 120) (hkd : kd P e = nI 13) (hj : j < 10) (hpa : pa P e = nI j) (h : MR P mk B res 1000 S (fw e i 3 (some (.inl ys)) (some (.inl zs)) :: F) x s) (hX : sX s = 0) (ho : oldO x o) (hK : KK dA b w CC QU P mk B res F (e_rpo o ys zs s i j)) (hq : qC dA b w CC Q) : zx dA d 0 0 M_VectorLanguageModel_replace 0 (zargs 5 [.ref (b 0), .int (nI F.length), .int (nI e)]) [] (mw dA b w S) 0 0 Q := by
  obtain ⟨a, ea, hA⟩ := top_va h
  obtain ⟨c, ec, hC⟩ := top_vb h
  obtain ⟨he2, hF, h20, hi, hi90⟩ := e_at hmk h
  obtain ⟨g1, g2, g3, g4⟩ := h.2.1 e h.2.2.2.2.2.1.1.2.2.2.2.2.2.1
  rw [hpa] at g2
  have h24 : ¬ kd P e = 24 := kd_ne hkd (by decide) (j := 24) (by decide) (by decide)
  have hgo : ∀ z : Nat, RT P mk B res S (fw e i 3 (some (.inl ys)) (some (.inl zs)) :: F) x s z o → zx dA d 0 0 M_VectorLanguageModel_replace 19 (zargs 5 [.ref (b 0), .int (nI F.length), .int (nI e)]) [.int (nI z)] (mw dA b w S) 0 0 Q := by
    intro z hZ
    have hz := hZ.1
    repeat first | refine z_i rfl rfl ?_ | refine m_gt hb rfl rfl ?_
    cases o with
    | inr f =>
      have := (VR_j hZ.1 (RT_0 h hZ)).1.1
      refine m_ldv hb (j := z) rfl rfl rfl hz this ?_
      refine z_bf rfl rfl (by decide) ?_
      repeat first | refine z_i rfl rfl ?_ | refine m_gt hb rfl rfl ?_
      refine m_pt hb rfl rfl ?_
      exact z_retV rfl (Nat.zero_le _) (Nat.zero_le _) (hq _ (cc_fail hb hc hmk (MR_err h 3) (show ¬ (3 : Int32) = 0 by decide) (Or.inl h24) hK))
    | inl xs =>
      obtain ⟨x1, x2, x3, x4⟩ := VR_inl hz (RT_0 h hZ)
      have hx16 := x2.1
      replace hK : KK dA b w CC QU P mk B res F (e_sto xs ys zs s i j) := hK
      refine m_ldv hb (j := z) rfl rfl rfl hz x1 ?_
      refine z_bt rfl rfl (nI_pos' (by omega)) ?_
      repeat first | refine z_i rfl rfl ?_ | refine m_gt hb rfl rfl ?_
      refine m_ldv hb (j := F.length) rfl rfl rfl hF ea ?_
      repeat first | refine z_i rfl rfl ?_ | refine m_gt hb rfl rfl ?_
      refine m_ldv hb (j := F.length) rfl rfl rfl hF ec ?_
      have hend : ∀ (S2 : mm) (s2 : aS) (y4 : Int32), sX s2 = 0 → MR P mk B res 1000 S2 (fw e i 3 (some (.inl ys)) (some (.inl zs)) :: F) x s2 → KK dA b w CC QU P mk B res F (some (.inl zs), s2) → zx dA d 0 0 M_VectorLanguageModel_replace 85 [some (.ref (b 0)), some (.int (nI F.length)), some (.int (nI e)), some (.int (nI z)), some (.int y4)] [] (mw dA b w S2) 0 0 Q := by
        intro S2 s2 y4 hX2 hm hK2
        obtain ⟨c2, ec2, hC2⟩ := top_vb hm
        repeat first | refine z_i rfl rfl ?_ | refine m_gt hb rfl rfl ?_
        refine m_ldv hb (j := F.length) rfl rfl rfl hF ec2 ?_
        refine z_cVk [.int (nI c2)] [] 0 0 0 rfl (m_obj hb) rfl rfl (Nat.le_of_ble_eq_true rfl) (Nat.le_of_ble_eq_true rfl) (by omega) (by omega) (by omega) (over_K hb hm hX2 hK2 (RT_0 hm hC2) (fun S' hS' => ⟨_, rfl, ?_⟩))
        exact z_retV rfl (Nat.zero_le _) (Nat.zero_le _) (hq _ hS')
      refine z_cVk [.int (nI z), .int (nI a), .int (nI c)] [] 3 0 0 rfl (m_obj hb) rfl rfl (Nat.le_of_ble_eq_true rfl) (Nat.le_of_ble_eq_true rfl) (by omega) (by omega) (by omega) (r_replacedR hb (by omega) h hX hZ hA hC ?_)
      unfold e_sto at hK
      cases hr : e_rep xs ys zs with
      | inr t =>
        rw [hr] at hK
        intro ht S2 hm
        refine ⟨_, rfl, ?_⟩
        repeat first | refine z_i rfl rfl ?_ | refine m_gt hb rfl rfl ?_
        refine z_bf rfl rfl (show ¬ S2.1 29 = 0 by rw [hm.1.2.2.2.2.1]; exact ht) ?_
        exact z_retV rfl (Nat.zero_le _) (Nat.zero_le _) (hq _ (cc_fail hb hc hmk hm ht (Or.inl h24) hK))
      | inl t =>
        cases t with
        | none =>
          rw [hr] at hK
          intro S2 hm _ _
          refine ⟨_, rfl, ?_⟩
          repeat first | refine z_i rfl rfl ?_ | refine m_gt hb rfl rfl ?_
          refine z_bt rfl rfl (show S2.1 29 = 0 by rw [hm.1.2.2.2.2.1]; exact hX) ?_
          repeat first | refine z_i rfl rfl ?_ | refine m_gt hb rfl rfl ?_
          refine z_bt rfl rfl (by decide) ?_
          exact hend S2 s _ hX hm hK
        | some l =>
          rw [hr] at hK
          intro S2 y2 hm hv k3 k4
          refine ⟨_, rfl, ?_⟩
          obtain ⟨_, m20, _⟩ := hm.2.2.2.2.2.1.1
          obtain ⟨_, n2, _⟩ := hm.2.1 e h.2.2.2.2.2.1.1.2.2.2.2.2.2.1
          rw [hpa] at n2
          repeat first | refine z_i rfl rfl ?_ | refine m_gt hb rfl rfl ?_
          refine z_bt rfl rfl (show S2.1 29 = 0 by rw [hm.1.2.2.2.2.1]; exact hX) ?_
          repeat first | refine z_i rfl rfl ?_ | refine m_gt hb rfl rfl ?_
          refine z_bf rfl rfl (Int32.not_lt.mpr (VR_pos hv)) ?_
          repeat first | refine z_i rfl rfl ?_ | refine m_gt hb rfl rfl ?_
          refine m_ldv hb (j := F.length) rfl rfl rfl hF m20 ?_
          repeat first | refine z_i rfl rfl ?_ | refine m_gt hb rfl rfl ?_
          refine m_ldv hb (j := e) rfl rfl rfl he2 n2 ?_
          repeat first | refine z_i rfl rfl ?_ | refine m_gt hb rfl rfl ?_
          refine z_cVk [.int (nI i), .int (nI j), .int y2] [] 0 0 0 rfl (m_obj hb) rfl rfl (Nat.le_of_ble_eq_true rfl) (Nat.le_of_ble_eq_true rfl) (by omega) (by omega) (by omega) (r_give hb (by omega) hj ⟨_, rfl, ?_⟩)
          exact hend _ (uL s i j (some (.inl (.inl l)))) _ hX (MR_give hm hi hj hv) hK
  repeat first | refine z_i rfl rfl ?_ | refine m_gt hb rfl rfl ?_
  rcases ho with rfl | ⟨rfl, rfl⟩
  · obtain ⟨z, ez, hZ⟩ := top_vc h
    have hz := hZ.1
    refine m_ldv hb (j := F.length) rfl rfl rfl hF ez ?_
    refine z_bt rfl rfl (nI_pos' (by omega)) ?_
    repeat first | refine z_i rfl rfl ?_ | refine m_gt hb rfl rfl ?_
    refine m_ldv hb (j := F.length) rfl rfl rfl hF ez ?_
    exact hgo z hZ
  · have ez : S.2.2.2 24 F.length = -1 := h.2.2.2.2.2.1.1.2.2.2.2.2.1
    refine m_ldv hb (j := F.length) rfl rfl rfl hF ez ?_
    refine z_bf rfl rfl (by decide) ?_
    refine z_i rfl rfl ?_
    refine z_j rfl ?_
    exact hgo 0 nul_rt
set_option maxRecDepth 100000 in
theorem ad_3 (hb : mB b) (hc : Ctx dA b w CC GG QU) {e i j : Nat} {o : aV} {ys zs : List Int32} (hmk : mk ≤ 120) (hkd : kd P e = nI 13) (hj : j < 10) (hpa : pa P e = nI j) (h : MR P mk B res 1000 S (fw e i 3 (some (.inl ys)) (some (.inl zs)) :: F) x s) (hX : sX s = 0) (ho : oldO x o) (hK : KK dA b w CC QU P mk B res F (e_rpo o ys zs s i j)) : AD dA b w CC S := by
  obtain ⟨he2, hF, h20, hi, hi90⟩ := e_at hmk h
  have h21 := h.2.2.2.2.2.1.1.2.2.1
  refine ad_go hb hmk hkd (by decide) h (by decide) (fun Q hq => ?_)
  refine z_sw (t := 251) rfl (by decide) ?_
  repeat first | refine z_i rfl rfl ?_ | refine m_gt hb rfl rfl ?_
  refine m_ldv hb (j := F.length) rfl rfl rfl hF h21 ?_
  repeat first | refine z_i rfl rfl ?_ | refine m_gt hb rfl rfl ?_
  refine z_bt rfl rfl (show ¬ nI 3 = nI 2 by decide) ?_
  repeat first | refine z_i rfl rfl ?_ | refine m_gt hb rfl rfl ?_
  refine m_ldv hb (j := F.length) rfl rfl rfl hF h21 ?_
  repeat first | refine z_i rfl rfl ?_ | refine m_gt hb rfl rfl ?_
  refine z_bt rfl rfl (show ¬ nI 3 = nI 2 by decide) ?_
  repeat first | refine z_i rfl rfl ?_ | refine m_gt hb rfl rfl ?_
  refine z_cVk [.int (nI F.length), .int (nI e)] [] 4 0 0 rfl (m_obj hb) rfl rfl (Nat.le_of_ble_eq_true rfl) (Nat.le_of_ble_eq_true rfl) (by omega) (by omega) (by omega) (r_replR hb hc (by omega) hmk hkd hj hpa h hX ho hK (fun S' hS' => ⟨_, rfl, ?_⟩))
  refine z_j rfl ?_
  exact z_retV rfl (Nat.zero_le _) (Nat.zero_le _) (hq _ hS')
theorem cc_go (hc : Ctx dA b w CC GG QU) {f : fF} (h : MR P mk B res 1000 S (f :: F) x s) (hX : sX s = 0) (hA : AD dA b w CC S) : CC S := by
  have hlen := MR_len h
  have a1 := h.1.1
  rw [List.length_cons] at a1 hlen
  exact hc.1 _ (fun _ => hc.2.1 _ (by rw [a1]; exact nI_nle (by omega) (by omega)) hA) (fun q => absurd (h.1.2.2.2.2.1.trans hX) q)
theorem MR_vc {e i st : Nat} {a c : Option aV} {v : aV} (h : MR P mk B res 1000 S (fw e i st a c :: F) none s) (hv : VR P mk (sN s) 1000 S y v) : MR P mk B res 1000 (jA (jA S 21 F.length 3) 24 F.length y) (fw e i 3 a c :: F) (some v) s := by
  have h1 := MR_st (st' := 3) h (by omega)
  obtain ⟨m1, m2, m3, m4, m5, ⟨⟨f1, f2, f3, f4, f5, f6, f7, f8, f9⟩, m6⟩, m7⟩ := h1
  refine ⟨m1, m2, m3, m4, m5, ⟨⟨f1, f2, f3, f4, f5, ?_, f7, f8, f9⟩, ?_⟩, m7⟩
  · rw [show (jA (jA S 21 F.length 3) 24 F.length y).2.2.2 24 F.length = y from pk_us]
    exact hv
  · exact FR_at (S := jA S 21 F.length (nI 3)) (S' := jA (jA S 21 F.length 3) 24 F.length y) (n := sN s) (q := 1000) (Nat.le_refl _) (fun _ _ hv => hv) F none (fun p hp k k1 k2 => by
      have hk' : k = 19 ∨ k = 20 ∨ k = 21 ∨ k = 22 ∨ k = 23 ∨ k = 24 := by omega
      rcases hk' with rfl | rfl | rfl | rfl | rfl | rfl <;> first | rfl | exact pk_un (by omega)) m6
theorem r_look13 (hb : mB b) (hc : Ctx dA b w CC GG QU) (hd : 3 ≤ d) {e i j d0 : Nat} {ys zs : List Int32} (IH : SIM dA b w CC QU P mk B res d0) (hmk : mk ≤ 120) (hkd : kd P e = nI 13) (hj : j < 10) (hpa : pa P e = nI j) (h : MR P mk B res 1000 S (fw e i 2 (some (.inl ys)) (some (.inl zs)) :: F) none s) (hX : sX s = 0) (hwk : wk F + 1 + d0 = 40) (hK : KK dA b w CC QU P mk B res F (e_bd (e_old P (e_ev P d0) e i s) (fun o s3 => e_rpo o ys zs s3 i j))) (hq : qC dA b w CC Q) : zx dA d 0 0 M_VectorLanguageModel_look 0 (zargs 5 [.ref (b 0), .int (nI F.length), .int (nI e)]) [] (mw dA b w S) 0 0 Q := by
  obtain ⟨he2, hF, h20, hi, hi90⟩ := e_at hmk h
  obtain ⟨g1, g2, g3, g4⟩ := h.2.1 e h.2.2.2.2.2.1.1.2.2.2.2.2.2.1
  rw [hkd] at g1
  rw [hpa] at g2
  have hN := h.2.2.2.2.2.2.2.2.1
  have h24 : ¬ kd P e = 24 := kd_ne hkd (by decide) (j := 24) (by decide) (by decide)
  have hjj : tN (pa P e) = j := by rw [hpa]; exact nI_clamp (by omega)
  unfold e_old at hK
  rw [hjj] at hK
  repeat first | refine z_i rfl rfl ?_ | refine m_gt hb rfl rfl ?_
  refine m_ldv hb (j := F.length) rfl rfl rfl hF h20 ?_
  repeat first | refine z_i rfl rfl ?_ | refine m_gt hb rfl rfl ?_
  refine m_ldv hb (j := e) rfl rfl rfl he2 g2 ?_
  refine z_cVk [.int (nI i), .int (nI j)] [] 0 0 0 rfl (m_obj hb) rfl rfl (Nat.le_of_ble_eq_true rfl) (Nat.le_of_ble_eq_true rfl) (by omega) (by omega) (by omega) (r_place hb h hj hi (fun hn => ⟨_, rfl, ?_⟩) (fun i' hs hi' hsome => ⟨_, rfl, ?_⟩))
  · rw [hn] at hK
    replace hK : KK dA b w CC QU P mk B res F (e_rpo (.inl []) ys zs s i j) := hK
    repeat first | refine z_i rfl rfl ?_ | refine m_gt hb rfl rfl ?_
    refine z_bf rfl rfl (show ¬ (0 : Int32) ≤ -1 by decide) ?_
    repeat first | refine z_i rfl rfl ?_ | refine m_gt hb rfl rfl ?_
    refine m_ldv hb (j := e) rfl rfl rfl he2 g1 ?_
    repeat first | refine z_i rfl rfl ?_ | refine m_gt hb rfl rfl ?_
    refine z_bt rfl rfl (show ¬ nI 13 = nI 3 by decide) ?_
    repeat first | refine z_i rfl rfl ?_ | refine m_gt hb rfl rfl ?_
    refine z_bf rfl rfl (show ¬ (0 : Int32) ≤ -1 by decide) ?_
    repeat first | refine z_i rfl rfl ?_ | refine m_gt hb rfl rfl ?_
    refine m_st hb (j := F.length) rfl rfl rfl hF ?_
    refine z_j rfl ?_
    have hm := MR_st (st' := 3) h (by omega)
    exact z_retV rfl (Nat.zero_le _) (Nat.zero_le _) (hq _ (cc_go hc hm hX (ad_3 hb hc hmk hkd hj hpa hm hX (Or.inr ⟨rfl, rfl⟩) hK)))
  · rw [hs] at hK
    dsimp only at hK
    repeat first | refine z_i rfl rfl ?_ | refine m_gt hb rfl rfl ?_
    refine z_bt rfl rfl (nI_pos' (by omega)) ?_
    repeat first | refine z_i rfl rfl ?_ | refine m_gt hb rfl rfl ?_
    refine z_bt rfl rfl (nI_pos' (by omega)) ?_
    repeat first | refine z_i rfl rfl ?_ | refine m_gt hb rfl rfl ?_
    refine z_cVk [.int (nI (10 * i' + j))] [] 2 0 0 rfl (m_obj hb) rfl rfl (Nat.le_of_ble_eq_true rfl) (Nat.le_of_ble_eq_true rfl) (by omega) (by omega) (by omega) (r_wanted hb (by omega) IH hmk hi' hj h hX hwk hsome (K_sub hb hc hmk (by omega) (Or.inl h24) hK (fun o s3 S3 y3 _ hX3 hm3 hK3 => ad_3 hb hc hmk hkd hj hpa hm3 hX3 (Or.inl rfl) hK3)) (fun y v hv1 hv2 => ⟨_, rfl, ?_⟩) (fun hf => ⟨_, rfl, ?_⟩) (fun S' hS' => ⟨_, rfl, ?_⟩))
    · rw [hv1] at hK
      replace hK : KK dA b w CC QU P mk B res F (e_rpo v ys zs s i j) := hK
      repeat first | refine z_i rfl rfl ?_ | refine m_gt hb rfl rfl ?_
      refine z_bt rfl rfl (VR_pos hv2) ?_
      repeat first | refine z_i rfl rfl ?_ | refine m_gt hb rfl rfl ?_
      refine m_ldv hb (j := e) rfl rfl rfl he2 g1 ?_
      repeat first | refine z_i rfl rfl ?_ | refine m_gt hb rfl rfl ?_
      refine z_bt rfl rfl (show ¬ nI 13 = nI 3 by decide) ?_
      repeat first | refine z_i rfl rfl ?_ | refine m_gt hb rfl rfl ?_
      refine m_st hb (j := F.length) rfl rfl rfl hF ?_
      repeat first | refine z_i rfl rfl ?_ | refine m_gt hb rfl rfl ?_
      refine m_st hb (j := F.length) rfl rfl rfl hF ?_
      have hm := MR_vc h hv2
      exact z_retV rfl (Nat.zero_le _) (Nat.zero_le _) (hq _ (cc_go hc hm hX (ad_3 hb hc hmk hkd hj hpa hm hX (Or.inl rfl) hK)))
    · rw [hf] at hK
      repeat first | refine z_i rfl rfl ?_ | refine m_gt hb rfl rfl ?_
      refine z_bf rfl rfl (show ¬ (0 : Int32) ≤ -1 by decide) ?_
      exact z_retV rfl (Nat.zero_le _) (Nat.zero_le _) (hq _ (cc_fail hb hc hmk (MR_err h 2) (show ¬ (2 : Int32) = 0 by decide) (Or.inl h24) hK))
    · repeat first | refine z_i rfl rfl ?_ | refine m_gt hb rfl rfl ?_
      refine z_bf rfl rfl (show ¬ (0 : Int32) ≤ -1 by decide) ?_
      exact z_retV rfl (Nat.zero_le _) (Nat.zero_le _) (hq _ hS')
set_option maxRecDepth 100000 in
theorem k_repl (hb : mB b) (hc : Ctx dA b w CC GG QU) (hmk : mk ≤ 120) {e i j z z2 d : Nat} (IH : SIM dA b w CC QU P mk B res d) (hkd : kd P e = nI 13) (hj : j < 10) (hpa : pa P e = nI j) (hz : pb P e = nI z) (hzm : z < mk) (hz2 : pc P e = nI z2) (hzm2 : z2 < mk) (h : MR P mk B res 1000 S (fw e i 0 none none :: F) none s) (hX : sX s = 0) (hwk : wk F + 1 + d = 40) (hK : KK dA b w CC QU P mk B res F (e_repl P (e_ev P d) s e i)) : AD dA b w CC S := by
  have n4 : ¬ kd P e = 4 := kd_ne hkd (by decide) (j := 4) (by decide) (by decide)
  have n5 : ¬ kd P e = 5 := kd_ne hkd (by decide) (j := 5) (by decide) (by decide)
  have h24 : ¬ kd P e = 24 := kd_ne hkd (by decide) (j := 24) (by decide) (by decide)
  have hp0 : p_part P e 0 = nI z := by unfold p_part; rw [if_neg n4, if_neg n5, if_pos (show kd P e = 13 from hkd), if_pos rfl, hz]
  have hp1 : p_part P e 1 = nI z2 := by unfold p_part; rw [if_neg n4, if_neg n5, if_pos (show kd P e = 13 from hkd), if_neg (by decide), hz2]
  have hzz : tN (pb P e) = z := by rw [hz]; exact nI_clamp (by omega)
  have hzz2 : tN (pc P e) = z2 := by rw [hz2]; exact nI_clamp (by omega)
  have hjj : tN (pa P e) = j := by rw [hpa]; exact nI_clamp (by omega)
  unfold e_repl at hK
  rw [hzz, hzz2] at hK
  refine two_parts hb hc hmk IH hkd (by decide) (by decide) hp0 hzm hp1 hzm2 (by decide) h hX hwk hK (fun u v s2 S2 hX2 hm hK2 => ?_)
  obtain ⟨he2, hF, h20, hi, hi90⟩ := e_at hmk hm
  obtain ⟨a, ea, hA⟩ := top_va hm
  obtain ⟨c, ec, hC⟩ := top_vb hm
  have h21 := hm.2.2.2.2.2.1.1.2.2.1
  refine ad_go hb hmk hkd (by decide) hm (by decide) (fun Q hq => ?_)
  refine z_sw (t := 251) rfl (by decide) ?_
  have hfail : KK dA b w CC QU P mk B res F (e_fail s2 3) → zx dA 6 0 0 M_VectorLanguageModel_advance 289 [some (.ref (b 0)), some (.int (nI F.length)), some (.int (nI e)), some (.int (nI 13)), none] [] (mw dA b w S2) 0 0 Q := by
    intro hK3
    repeat first | refine z_i rfl rfl ?_ | refine m_gt hb rfl rfl ?_
    refine m_pt hb rfl rfl ?_
    refine z_j rfl ?_
    exact z_retV rfl (Nat.zero_le _) (Nat.zero_le _) (hq _ (cc_fail hb hc hmk (MR_err hm 3) (show ¬ (3 : Int32) = 0 by decide) (Or.inl h24) hK3))
  repeat first | refine z_i rfl rfl ?_ | refine m_gt hb rfl rfl ?_
  refine m_ldv hb (j := F.length) rfl rfl rfl hF h21 ?_
  repeat first | refine z_i rfl rfl ?_ | refine m_gt hb rfl rfl ?_
  refine z_bf rfl rfl (fun q => q rfl) ?_
  repeat first | refine z_i rfl rfl ?_ | refine m_gt hb rfl rfl ?_
  refine m_ldv hb (j := F.length) rfl rfl rfl hF ea ?_
  cases u with
  | inr f =>
    have := (VR_j hA.1 (RT_0 hm hA)).1.1
    refine m_ldv hb (j := a) rfl rfl rfl hA.1 this ?_
    refine z_bt rfl rfl (by decide) ?_
    exact hfail hK2
  | inl ys =>
    obtain ⟨x1, x2, x3, x4⟩ := VR_inl hA.1 (RT_0 hm hA)
    have hx16 := x2.1
    refine m_ldv hb (j := a) rfl rfl rfl hA.1 x1 ?_
    refine z_bf rfl rfl (nI_pos (by omega)) ?_
    repeat first | refine z_i rfl rfl ?_ | refine m_gt hb rfl rfl ?_
    refine m_ldv hb (j := F.length) rfl rfl rfl hF ec ?_
    cases v with
    | inr f =>
      have := (VR_j hC.1 (RT_0 hm hC)).1.1
      refine m_ldv hb (j := c) rfl rfl rfl hC.1 this ?_
      refine z_bf rfl rfl (by decide) ?_
      exact hfail hK2
    | inl zs =>
      obtain ⟨y1, y2, y3, y4⟩ := VR_inl hC.1 (RT_0 hm hC)
      have hy16 := y2.1
      replace hK2 : KK dA b w CC QU P mk B res F (e_bd (e_old P (e_ev P d) e i s2) (fun o s3 => e_rpo o ys zs s3 i (tN (pa P e)))) := hK2
      rw [hjj] at hK2
      refine m_ldv hb (j := c) rfl rfl rfl hC.1 y1 ?_
      refine z_bt rfl rfl (nI_pos' (by omega)) ?_
      repeat first | refine z_i rfl rfl ?_ | refine m_gt hb rfl rfl ?_
      refine m_ldv hb (j := F.length) rfl rfl rfl hF h21 ?_
      repeat first | refine z_i rfl rfl ?_ | refine m_gt hb rfl rfl ?_
      refine z_bf rfl rfl (fun q => q rfl) ?_
      repeat first | refine z_i rfl rfl ?_ | refine m_gt hb rfl rfl ?_
      refine z_cVk [.int (nI F.length), .int (nI e)] [] 3 0 0 rfl (m_obj hb) rfl rfl (Nat.le_of_ble_eq_true rfl) (Nat.le_of_ble_eq_true rfl) (by omega) (by omega) (by omega) (r_look13 hb hc (by omega) IH hmk hkd hj hpa hm hX2 hwk hK2 (fun S' hS' => ⟨_, rfl, ?_⟩))
      refine z_j rfl ?_
      exact z_retV rfl (Nat.zero_le _) (Nat.zero_le _) (hq _ hS')
end KM
