/-! steps only grow; the reference's return, if, while -/
section TM
variable {P : aP} {s : aS}
def MT (f : aS → Nat → Nat → aR) : Prop := ∀ (s : aS) (e i : Nat), sT s ≤ sT (f s e i).2
theorem T_bd {r : aR} {g : aV → aS → aR} {t : Nat} (h : t ≤ sT r.2) (hg : ∀ (v : aV) (s1 : aS), sT s1 ≤ sT (g v s1).2) : t ≤ sT (e_bd r g).2 := by
  obtain ⟨o, s1⟩ := r
  cases o with
  | none => exact h
  | some v => exact Nat.le_trans h (hg v s1)
theorem T_vec {g : List Int32 → aS → aR} (hg : ∀ (v : List Int32) (s1 : aS), sT s1 ≤ sT (g v s1).2) (v : aV) (s1 : aS) : sT s1 ≤ sT (e_vec g v s1).2 := by
  cases v with
  | inl xs => exact hg xs s1
  | inr f => exact Nat.le_refl _
theorem T_un {i j : Nat} {v : Option aV} : sT (e_un s i j v) = sT s := by
  unfold e_un
  cases sL s i j with
  | none => rfl
  | some l => cases l <;> rfl
theorem T_ct {v : Option aV} : sT (e_ct s v) = sT s := by cases v <;> rfl
variable {f : aS → Nat → Nat → aR}
theorem T_val (hf : MT f) (i j : Nat) : sT s ≤ sT (e_val f s i j).2 := by
  unfold e_val
  cases sL s i j with
  | none => exact Nat.le_refl _
  | some l =>
    cases l with
    | inl v => exact Nat.le_refl _
    | inr a =>
      obtain ⟨a1, a2, a3, a4⟩ := a
      cases a4 with
      | some v => exact Nat.le_refl _
      | none =>
        show sT s ≤ sT (e_arg f s i j (a1, a2, a3, none)).2
        unfold e_arg
        split
        · exact Nat.le_refl _
        · show sT s ≤ sT (e_ct _ _)
          rw [T_ct, T_un]
          exact hf (uL s i j (some (.inr (a1, a2, true, none)))) a1 a2
theorem T_read (hf : MT f) (e i : Nat) : sT s ≤ sT (e_read P f s e i).2 := by
  unfold e_read
  split
  · exact Nat.le_refl _
  · exact T_val hf _ _
theorem T_cond {r : aR} {g : Int32 → aS → aR} {t : Nat} (h : t ≤ sT r.2) (hg : ∀ (v : Int32) (s1 : aS), sT s1 ≤ sT (g v s1).2) : t ≤ sT (e_cond r g).2 := by
  unfold e_cond e_bv
  refine T_bd h (T_vec (fun xs s1 => ?_))
  split
  · exact Nat.le_refl _
  · exact hg _ _
theorem T_whl (hf : MT f) (e i : Nat) : ∀ (r : Nat) (s : aS), sT s ≤ sT (e_whl P f e i r s).2
  | 0, _ => Nat.le_refl _
  | r + 1, s => by
    unfold e_whl
    refine T_cond (hf _ _ _) (fun x s1 => ?_)
    split
    · exact Nat.le_refl _
    · exact T_bd (hf _ _ _) (fun _ s2 => T_whl hf e i r s2)
theorem T_take (i : Nat) : sT (e_take s i).2 = sT s := by
  unfold e_take
  split
  · rfl
  · split <;> rfl
theorem T_two (e : Nat) (u v : aV) : sT (e_cb P e u v s).2 = sT s := by
  rcases e_cb_r (P := P) (s := s) (e := e) (u := u) (v := v) with ⟨v', h⟩ | ⟨z, _, h⟩ <;> rw [h] <;> rfl
theorem T_rpl (hf : MT f) (e i : Nat) (u v : aV) (s : aS) : sT s ≤ sT (e_rpl P f e i u v s).2 := by
  cases u with
  | inr g => exact Nat.le_refl _
  | inl ys =>
    cases v with
    | inr g => exact Nat.le_refl _
    | inl zs =>
      show sT s ≤ sT (e_bd (e_old P f e i s) (fun o s3 => e_rpo o ys zs s3 i (tN (pa P e)))).2
      refine T_bd ?_ (fun o s3 => ?_)
      · unfold e_old
        split
        · exact Nat.le_refl _
        · exact T_val hf _ _
      · cases o with
        | inr g => exact Nat.le_refl _
        | inl xs =>
          show sT s3 ≤ sT (e_sto xs ys zs s3 i (tN (pa P e))).2
          unfold e_sto
          split
          · exact Nat.le_refl _
          · exact Nat.le_refl _
          · exact Nat.le_refl _
theorem T_ite {c : Prop} [Decidable c] {a b : aR} {t : Nat} (ha : t ≤ sT a.2) (hb : t ≤ sT b.2) : t ≤ sT (if c then a else b).2 := by
  split
  · exact ha
  · exact hb
theorem T_ent (hf : MT f) (s1 : aS) (e i : Nat) (fn : Nat × Nat × Nat) : sT s1 ≤ sT (e_ent P f s1 e i fn).2 := by
  unfold e_ent
  refine T_ite (Nat.le_refl _) (T_ite (Nat.le_refl _) ?_)
  have := hf (e_new P s1 e i fn) (tN (pa P fn.1)) (sN s1 + 1)
  split
  · exact this
  · rw [T_take]
    exact this
theorem T_try (hf : MT f) (s : aS) (e i : Nat) : sT s ≤ sT (e_try P f s e i).2 := by
  unfold e_try
  have h1 := hf s (tN (pa P e)) i
  split
  · exact h1
  · refine T_ite h1 ?_
    exact Nat.le_trans h1 (hf (uX (uL (f s (tN (pa P e)) i).2 i 9 (some (.inl (.inl [sX (f s (tN (pa P e)) i).2])))) 0) _ _)
theorem T_abs (s : aS) (e i : Nat) : sT s ≤ sT (e_abs P s e i).2 := by
  unfold e_abs
  split
  · exact Nat.le_refl _
  · exact T_ite (Nat.le_refl _) (T_ite (Nat.le_refl _) (Nat.le_refl _))
theorem T_stp (hf : MT f) (s : aS) (e i : Nat) : sT s ≤ sT (e_stp P f s e i).2 := by
  unfold e_stp
  refine T_ite (Nat.le_refl _) (T_ite (Nat.le_refl _) (T_ite (Nat.le_refl _) (T_ite (T_read hf _ _) (T_ite ?_ (T_ite ?_ (T_ite ?_ (T_ite ?_ (T_ite (T_whl hf e i 401 s) (T_ite ?_ (T_ite (Nat.le_refl _) (T_ite ?_ (T_ite (T_abs _ _ _) (T_ite ?_ (T_ite (T_try hf _ _ _) ?_))))))))))))))
  · unfold e_asg
    exact T_bd (hf _ _ _) (fun _ _ => Nat.le_refl _)
  · unfold e_one e_bv
    exact T_bd (hf _ _ _) (T_vec (fun xs s1 => T_ite (Nat.le_refl _) (T_ite (Nat.le_refl _) (T_ite (Nat.le_refl _) (Nat.le_refl _)))))
  · unfold e_repl
    exact T_bd (hf _ _ _) (fun u s1 => T_bd (hf _ _ _) (fun v s2 => T_rpl hf e i u v s2))
  · unfold e_if
    exact T_cond (hf _ _ _) (fun x s1 => T_ite (T_ite (Nat.le_refl _) (hf _ _ _)) (hf _ _ _))
  · unfold e_then
    exact T_bd (hf _ _ _) (fun _ s1 => hf _ _ _)
  · unfold e_call
    refine T_bd (hf _ _ _) (fun v s1 => ?_)
    cases v with
    | inl xs => exact Nat.le_refl _
    | inr fn => exact T_ent hf s1 e i fn
  · unfold e_ret
    exact T_bd (hf _ _ _) (fun v s1 => T_ite (Nat.le_refl _) (Nat.le_refl _))
  · unfold e_two
    exact T_bd (hf _ _ _) (fun u s1 => T_bd (hf _ _ _) (fun v s2 => by rw [T_two]; exact Nat.le_refl _))
theorem T_ev : ∀ d : Nat, MT (e_ev P d)
  | 0 => fun _ _ _ => Nat.le_refl _
  | d + 1 => fun s e i => by
    unfold e_ev
    split
    · exact Nat.le_refl _
    · exact Nat.le_trans (Nat.le_succ _) (T_stp (T_ev d) (uT s (sT s + 1)) e i)
theorem T_ev1 {d e i : Nat} {v : aV} {s1 : aS} (h : e_ev P d s e i = (some v, s1)) : sT s + 1 ≤ sT s1 := by
  cases d with
  | zero => cases h
  | succ d =>
    unfold e_ev at h
    split at h
    · cases h
    · have := T_stp (P := P) (f := e_ev P d) (T_ev d) (uT s (sT s + 1)) e i
      rw [h] at this
      exact this
end TM
section KG
variable {dA : Nat → ClassId} {b : Nat → Nat} {w : ww_W} {CC GG : mm → Prop} {QU : zQ} {P : aP} {mk B n q : Nat} {res : rP} {S S' : mm} {F : List fF} {x : Option aV} {s : aS} {y : Int32} {d : Nat} {Q : zQ}
theorem FR_get : ∀ (F : List fF) (x : Option aV), FR P mk n q S F x → ∀ p : Nat, p < F.length → ∃ f : fF, f ∈ F ∧ ∃ x' : Option aV, FR1 P mk n q S p x' f
  | [], _, _, p, hp => by simp at hp
  | f :: F, x, h, p, hp => by
    by_cases hpF : p = F.length
    · subst hpF
      exact ⟨f, List.mem_cons_self, x, h.1⟩
    · obtain ⟨f', g1, g2⟩ := FR_get F none h.2 p (by simp at hp; omega)
      exact ⟨f', List.mem_cons_of_mem _ g1, g2⟩
theorem FR_pos : ∀ (F : List fF) (x : Option aV), FR P mk n q S F x → ∀ f : fF, f ∈ F → ∃ p : Nat, p < F.length ∧ ∃ x' : Option aV, FR1 P mk n q S p x' f
  | [], _, _, f, hf => by cases hf
  | g :: F, x, h, f, hf => by
    rcases List.mem_cons.mp hf with rfl | hf
    · exact ⟨F.length, by simp, x, h.1⟩
    · obtain ⟨p, g1, g2⟩ := FR_pos F none h.2 f hf
      exact ⟨p, by simp; omega, g2⟩
theorem FR1_call {p i : Nat} {f : fF} {x' : Option aV} (hmk : mk ≤ 120) (hn : n ≤ 90) (hi : i ≤ 90) (h : FR1 P mk n q S p x' f) (h1 : S.2.2.2 19 p = -2) (h2 : S.2.2.2 20 p = nI i) : f = fc i := by
  match f, h with
  | .inl (e, i', st, a, c), h =>
    have he := h.2.2.2.2.2.2.1
    rw [h.1] at h1
    exact absurd (show nI e < 0 by rw [h1]; decide) (nI_pos (by omega))
  | .inr (.inl (i', j)), h => rw [h.1] at h1; exact absurd h1 (by decide)
  | .inr (.inr i'), h =>
    have hi' := h.2.2.2.2.2.2
    rw [h.2.1, nI_eq (by omega) (by omega)] at h2
    rw [h2]
theorem r_leave_loop (hb : mB b) {i : Nat} (hi0 : 0 < i) (hi : i ≤ 90) {t : Nat} (ht : S.1 25 = nI t) (ht2 : t < 450) (hQ : ∀ (th : Int32) (o4 : Option Value), (th = 0 ∧ ¬ (∃ p : Nat, p < t ∧ S.2.2.2 19 p = -2 ∧ S.2.2.2 20 p = nI i) ∨ th = 1 ∧ ∃ p : Nat, p < t ∧ S.2.2.2 19 p = -2 ∧ S.2.2.2 20 p = nI i) → zx dA d 0 0 M_VectorLanguageModel_leave 55 [some (.ref (b 0)), some (.int (nI i)), some (.int y), some (.int th), o4] [] (mw dA b w S) 0 0 Q) : ∀ (r k : Nat) (th : Int32), k + r = t → (th = 0 ∧ ¬ (∃ p : Nat, p < k ∧ S.2.2.2 19 p = -2 ∧ S.2.2.2 20 p = nI i) ∨ th = 1 ∧ ∃ p : Nat, p < k ∧ S.2.2.2 19 p = -2 ∧ S.2.2.2 20 p = nI i) →
    zx dA d 0 0 M_VectorLanguageModel_leave 5 [some (.ref (b 0)), some (.int (nI i)), some (.int y), some (.int th), some (.int (nI k))] [] (mw dA b w S) 0 0 Q := by
  intro r
  induction r with
  | zero =>
    intro k th hk hth
    repeat first | refine z_i rfl rfl ?_ | refine m_gt hb rfl rfl ?_
    refine z_bt rfl rfl (show S.1 25 ≤ nI k by rw [ht]; exact nI_le (by omega) (by omega)) ?_
    have : k = t := by omega
    subst this
    exact hQ th _ hth
  | succ r ih =>
    intro k th hk hth
    have h01 : th = 0 ∨ th = 1 := hth.elim (fun q => Or.inl q.1) (fun q => Or.inr q.1)
    have hno : ¬ (S.2.2.2 19 k = -2 ∧ S.2.2.2 20 k = nI i) → zx dA d 0 0 M_VectorLanguageModel_leave 46 [some (.ref (b 0)), some (.int (nI i)), some (.int y), some (.int th), some (.int (nI k))] [.int th] (mw dA b w S) 0 0 Q := by
      intro hn
      refine z_i rfl rfl ?_
      refine z_i rfl rfl ?_
      refine z_i rfl rfl ?_
      refine z_i rfl rfl ?_
      refine z_j rfl ?_
      dsimp only
      rw [or_0 h01]
      have := ih (k + 1) th (by omega) (by
        rcases hth with ⟨q1, q2⟩ | ⟨q1, p, q2, q3⟩
        · refine Or.inl ⟨q1, fun ⟨p, p1, p2⟩ => ?_⟩
          by_cases hpk : p = k
          · subst hpk; exact hn p2
          · exact q2 ⟨p, by omega, p2⟩
        · exact Or.inr ⟨q1, p, by omega, q3⟩)
      rw [← nI_1] at this
      exact this
    repeat first | refine z_i rfl rfl ?_ | refine m_gt hb rfl rfl ?_
    refine z_bf rfl rfl (show ¬ S.1 25 ≤ nI k by rw [ht]; exact nI_ge (by omega) (by omega)) ?_
    repeat first | refine z_i rfl rfl ?_ | refine m_gt hb rfl rfl ?_
    refine z_bf rfl rfl (nI_nle hi0 (by omega)) ?_
    repeat first | refine z_i rfl rfl ?_ | refine m_gt hb rfl rfl ?_
    refine m_ld hb (j := k) rfl rfl rfl (show k < 450 by omega) ?_
    repeat first | refine z_i rfl rfl ?_ | refine m_gt hb rfl rfl ?_
    refine z_b rfl rfl (fun g1 => hno (fun q => g1 q.1)) (fun g1 => ?_)
    repeat first | refine z_i rfl rfl ?_ | refine m_gt hb rfl rfl ?_
    refine m_ld hb (j := k) rfl rfl rfl (show k < 450 by omega) ?_
    repeat first | refine z_i rfl rfl ?_ | refine m_gt hb rfl rfl ?_
    refine z_b rfl rfl (fun g2 => hno (fun q => g2 q.2)) (fun g2 => ?_)
    refine z_i rfl rfl ?_
    refine z_j rfl ?_
    refine z_i rfl rfl ?_
    refine z_i rfl rfl ?_
    refine z_i rfl rfl ?_
    refine z_j rfl ?_
    dsimp only
    rw [or_1 h01]
    have := ih (k + 1) 1 (by omega) (Or.inr ⟨rfl, k, by omega, Classical.not_not.mp g1, Classical.not_not.mp g2⟩)
    rw [← nI_1] at this
    exact this
theorem r_leave (hb : mB b) (hd : 1 ≤ d) {i : Nat} (hmk : mk ≤ 120) (h : MR P mk B res 1000 S F x s) (hF0 : 0 < F.length) (hi : i ≤ sN s) (h6 : sO s i = true → CC (jI S 29 6)) (hL : sO s i = false → LV dA b w CC i y S) (hq : qC dA b w CC Q) : zx dA d 0 0 M_VectorLanguageModel_leave 0 (zargs 5 [.ref (b 0), .int (nI i), .int y]) [] (mw dA b w S) 0 0 Q := by
  have hN := h.2.2.2.2.2.2.2.2.1
  have hlen := MR_len h
  have a1 := h.1.1
  obtain ⟨c7, c8, _⟩ := h.2.2.2.2.2.2.2.2.2.2.2.2
  refine z_i rfl rfl ?_
  refine z_i rfl rfl ?_
  refine z_i rfl rfl ?_
  refine z_i rfl rfl ?_
  by_cases hi0 : i = 0
  · subst hi0
    repeat first | refine z_i rfl rfl ?_ | refine m_gt hb rfl rfl ?_
    refine z_bf rfl rfl (show ¬ S.1 25 ≤ nI 0 by rw [a1]; exact nI_ge (by omega) (by omega)) ?_
    repeat first | refine z_i rfl rfl ?_ | refine m_gt hb rfl rfl ?_
    refine z_bt rfl rfl (by decide) ?_
    repeat first | refine z_i rfl rfl ?_ | refine m_gt hb rfl rfl ?_
    refine z_bt rfl rfl (by decide) ?_
    exact hL c8 d Q _ hd hq
  · refine r_leave_loop hb (by omega) (by omega) a1 (by omega) (fun th o4 hth => ?_) F.length 0 0 (by omega) (Or.inl ⟨rfl, fun ⟨p, p1, _⟩ => by omega⟩)
    have hiff : (∃ p : Nat, p < F.length ∧ S.2.2.2 19 p = -2 ∧ S.2.2.2 20 p = nI i) ↔ fc i ∈ F := by
      constructor
      · rintro ⟨p, p1, p2, p3⟩
        obtain ⟨f, g1, x', g2⟩ := FR_get F x h.2.2.2.2.2.1 p p1
        rw [FR1_call hmk hN (by omega) g2 p2 p3] at g1
        exact g1
      · intro hm
        obtain ⟨p, p1, x', p2⟩ := FR_pos F x h.2.2.2.2.2.1 _ hm
        exact ⟨p, p1, p2.1, p2.2.1⟩
    rw [hiff] at hth
    repeat first | refine z_i rfl rfl ?_ | refine m_gt hb rfl rfl ?_
    refine z_bf rfl rfl (nI_nle (by omega) (by omega)) ?_
    repeat first | refine z_i rfl rfl ?_ | refine m_gt hb rfl rfl ?_
    rcases hth with ⟨rfl, hm⟩ | ⟨rfl, hm⟩
    · refine z_bf rfl rfl (fun q => q rfl) ?_
      repeat first | refine z_i rfl rfl ?_ | refine m_gt hb rfl rfl ?_
      refine m_pt hb rfl rfl ?_
      refine z_retV rfl (Nat.zero_le _) (Nat.zero_le _) (hq _ (h6 ?_))
      cases ho : sO s i with
      | true => rfl
      | false => exact absurd ((c7 i (by omega) hi).mp ho) hm
    · refine z_bt rfl rfl (show ¬ (1 : Int32) = 0 by decide) ?_
      have := hL ((c7 i (by omega) hi).mpr hm) d Q o4 hd hq
      rw [if_neg hi0] at this
      exact this
theorem uR_self (h : sR s = none) : uR s none = s := by
  obtain ⟨a1, a2, a3, a4, a5, a6, a7⟩ := s
  replace h : a7 = none := h
  subst h
  rfl
set_option maxRecDepth 100000 in
theorem k_ret (hb : mB b) (hc : Ctx dA b w CC GG QU) (hmk : mk ≤ 120) {e i z d : Nat} (IH : SIM dA b w CC QU P mk B res d) (hkd : kd P e = nI 22) (hz : pa P e = nI z) (hzm : z < mk) (h : MR P mk B res 1000 S (fw e i 0 none none :: F) none s) (hX : sX s = 0) (hwk : wk F + 1 + d = 40) (hK : KK dA b w CC QU P mk B res F (e_ret P (e_ev P d) s e i)) : AD dA b w CC S := by
  obtain ⟨hp0, _⟩ := p_part_ab hkd (by decide) (by decide) (by decide) (by decide)
  rw [hz] at hp0
  have hzz : tN (pa P e) = z := by rw [hz]; exact nI_clamp (by omega)
  have h24 : ¬ kd P e = 24 := kd_ne hkd (by decide) (j := 24) (by decide) (by decide)
  unfold e_ret at hK
  rw [hzz] at hK
  refine one_part hb hc hmk IH hkd (by decide) (by decide) hp0 hzm (by decide) h hX hwk hK (fun u s2 S2 hX2 hm hK2 => ?_)
  obtain ⟨a, ea, hA⟩ := top_va hm
  obtain ⟨he2, hF, h20, hi, hi90⟩ := e_at hmk hm
  refine ad_go hb hmk hkd (by decide) hm (by decide) (fun Q hq => ?_)
  refine z_sw (t := 406) rfl (by decide) ?_
  repeat first | refine z_i rfl rfl ?_ | refine m_gt hb rfl rfl ?_
  refine m_ldv hb (j := F.length) rfl rfl rfl hF h20 ?_
  repeat first | refine z_i rfl rfl ?_ | refine m_gt hb rfl rfl ?_
  refine m_ldv hb (j := F.length) rfl rfl rfl hF ea ?_
  refine z_cVk [.int (nI i), .int (nI a)] [] 1 0 0 rfl (m_obj hb) rfl rfl (Nat.le_of_ble_eq_true rfl) (Nat.le_of_ble_eq_true rfl) (by omega) (by omega) (by omega) (r_leave (CC := CC) hb (by omega) hmk hm (by simp) hi (fun hO => ?_) (fun hO => ?_) (fun S' hS' => ⟨_, rfl, ?_⟩))
  · rw [if_pos hO] at hK2
    exact cc_fail hb hc hmk (MR_err hm 6) (show ¬ (6 : Int32) = 0 by decide) (Or.inl h24) hK2
  · rw [if_neg (by rw [hO]; decide)] at hK2
    have hva : VR P mk (sN s2) 1000 S2 (nI a) u := RT_0 hm hA
    refine L_w hb hi90 hmk hm (hK2.2.2 (uR s2 (some (i, u))) i u rfl hX2 rfl (drW S2) (nI a) ?_ hva hi hO)
    have hd := MR_dropW hm
    have hR : sR s2 = none := hm.2.2.2.2.2.2.2.2.2.2.2.1
    rw [← uR_self hR] at hd
    exact hd
  · refine z_j rfl ?_
    exact z_retV rfl (Nat.zero_le _) (Nat.zero_le _) (hq _ hS')
end KG
