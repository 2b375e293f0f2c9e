/-! the reference's kinds: assign, read-/
section KE
variable {dA : Nat → ClassId} {b : Nat → Nat} {w : ww_W} {CC GG : mm → Prop} {QU : zQ} {P : aP} {mk B n q : Nat} {res : rP} {S S' : mm} {F : List fF} {x : Option aV} {s : aS} {y : Int32} {d : Nat} {Q : zQ}
/-- where an assignment around goes: by the nearest slot, or to the global environment -/
theorem e_na_pl {v : Nat} (h : mEn P mk S s) : ∀ (r i : Nat), i ≤ sN s → i < r → e_na s v r i = (e_pl s v r i).getD 0 := by
  intro r
  induction r with
  | zero => intro i _ hr; omega
  | succ r ih =>
    intro i hi hr
    have hen := h i hi
    unfold e_na e_pl
    cases hc : sC s i with
    | none =>
      rw [hc] at hen
      dsimp only
      split
      · rfl
      · exact hen.1
    | some fn =>
      rw [hc] at hen
      dsimp only
      split
      · rfl
      · exact ih fn.2.1 (by have := hen.1; omega) (by have := hen.1; omega)
theorem e_pl_le {v : Nat} (h : mEn P mk S s) : ∀ (r i i' : Nat), i ≤ sN s → e_pl s v r i = some i' → i' ≤ sN s := by
  intro r
  induction r with
  | zero => intro i i' _ hq; cases hq
  | succ r ih =>
    intro i i' hi hq
    have hen := h i hi
    unfold e_pl at hq
    split at hq
    · cases hq; exact hi
    · cases hc : sC s i with
      | none => rw [hc] at hq; cases hq
      | some fn =>
        rw [hc] at hq hen
        exact ih fn.2.1 i' (by have := hen.1; omega) hq
theorem r_assign2 (hb : mB b) (hd : 1 ≤ d) {e i k j : Nat} {u : aV} (hmk : mk ≤ 120) (hkd : kd P e = nI k) (hk : k = 4 ∨ k = 5) (hj : j < 10) (hpa : pa P e = nI j) (h : MR P mk B res 1000 S (fw e i 1 (some u) none :: F) none s) (hX : sX s = 0)
    (hK : KK dA b w CC QU P mk B res F (some u, uL s (if kd P e = 4 then i else e_ar s j i) j (some (.inl u)))) (hq : qC dA b w CC Q) : zx dA d 0 0 M_VectorLanguageModel_assign 0 (zargs 5 [.ref (b 0), .int (nI F.length), .int (nI e)]) [] (mw dA b w S) 0 0 Q := by
  obtain ⟨a, ea, hA⟩ := top_va h
  obtain ⟨he2, hF, h20, hi, hi90⟩ := e_at hmk h
  obtain ⟨g1, g2, g3, g4⟩ := h.2.1 e h.2.2.2.2.2.1.1.2.2.2.2.2.2.1
  rw [hkd] at g1
  rw [hpa] at g2
  have hN := h.2.2.2.2.2.2.2.2.1
  have hgo : ∀ (i2 : Nat) (o4 : Option Value), i2 ≤ sN s → i2 = (if kd P e = 4 then i else e_ar s j i) → zx dA d 0 0 M_VectorLanguageModel_assign 58 [some (.ref (b 0)), some (.int (nI F.length)), some (.int (nI e)), some (.int (nI i2)), o4] [] (mw dA b w S) 0 0 Q := by
    intro i2 o4 hi2 he
    rw [← he] at hK
    repeat first | refine z_i rfl rfl ?_ | refine m_gt hb rfl rfl ?_
    refine m_ldv hb (j := e) rfl rfl rfl he2 g2 ?_
    repeat first | refine z_i rfl rfl ?_ | refine m_gt hb rfl rfl ?_
    refine m_ldv hb (j := F.length) rfl rfl rfl hF ea ?_
    refine z_cVk [.int (nI i2), .int (nI j), .int (nI a)] [] 0 0 0 rfl (m_obj hb) rfl rfl (Nat.le_of_ble_eq_true rfl) (Nat.le_of_ble_eq_true rfl) (by omega) (by omega) (by omega) (r_give hb (by omega) hj ⟨_, rfl, ?_⟩)
    have hva : VR P mk (sN s) 1000 S (nI a) u := RT_0 h hA
    have hm := MR_give h hi2 hj hva
    repeat first | refine z_i rfl rfl ?_ | refine m_gt hb rfl rfl ?_
    refine m_ldv hb (j := F.length) rfl rfl rfl hF ea ?_
    refine z_cVk [.int (nI a)] [] 0 0 0 rfl (m_obj hb) rfl rfl (Nat.le_of_ble_eq_true rfl) (Nat.le_of_ble_eq_true rfl) (by omega) (by omega) (by omega) (over_K hb hm hX hK hva (fun S' hS' => ⟨_, rfl, ?_⟩))
    exact z_retV rfl (Nat.zero_le _) (Nat.zero_le _) (hq _ hS')
  repeat first | refine z_i rfl rfl ?_ | refine m_gt hb rfl rfl ?_
  refine m_ldv hb (j := F.length) rfl rfl rfl hF h20 ?_
  repeat first | refine z_i rfl rfl ?_ | refine m_gt hb rfl rfl ?_
  refine m_ldv hb (j := e) rfl rfl rfl he2 g1 ?_
  repeat first | refine z_i rfl rfl ?_ | refine m_gt hb rfl rfl ?_
  refine z_b rfl rfl (fun q5 => ?_) (fun q5 => ?_)
  · have hk4 : k = 4 := by
      rcases hk with q | q
      · exact q
      · subst q; exact absurd rfl q5
    exact hgo i _ hi (by rw [if_pos (by rw [hkd, hk4]; rfl)])
  · have hk5 : k = 5 := (nI_eq (b := 5) (by omega) (by omega)).mp (Classical.not_not.mp q5)
    have hne4 : ¬ kd P e = 4 := kd_ne hkd (by omega) (j := 4) (by decide) (by omega)
    rw [if_neg hne4] at hgo
    have hpl : ∀ i1 : Nat, i1 ≤ sN s → e_ar s j i = (e_pl s j 91 i1).getD 0 → zx dA d 0 0 M_VectorLanguageModel_assign 32 [some (.ref (b 0)), some (.int (nI F.length)), some (.int (nI e)), some (.int (nI i)), none] [.int (nI i1), .ref (b 0)] (mw dA b w S) 0 0 Q := by
      intro i1 hi1 he
      repeat first | refine z_i rfl rfl ?_ | refine m_gt hb rfl rfl ?_
      refine m_ldv hb (j := e) rfl rfl rfl he2 g2 ?_
      refine z_cVk [.int (nI i1), .int (nI j)] [] 0 0 0 rfl (m_obj hb) rfl rfl (Nat.le_of_ble_eq_true rfl) (Nat.le_of_ble_eq_true rfl) (by omega) (by omega) (by omega) (r_place hb h hj hi1 (fun hn => ⟨_, rfl, ?_⟩) (fun i' hs hi' _ => ⟨_, rfl, ?_⟩))
      · repeat first | refine z_i rfl rfl ?_ | refine m_gt hb rfl rfl ?_
        refine z_bf rfl rfl (show ¬ (0 : Int32) ≤ -1 by decide) ?_
        refine z_i rfl rfl ?_
        refine z_j rfl ?_
        refine z_i rfl rfl ?_
        rw [hn] at he
        exact hgo 0 _ (by omega) he.symm
      · repeat first | refine z_i rfl rfl ?_ | refine m_gt hb rfl rfl ?_
        refine z_bt rfl rfl (nI_pos' (by omega)) ?_
        repeat first | refine z_i rfl rfl ?_ | refine m_gt hb rfl rfl ?_
        refine z_dv rfl (by decide) ?_
        rw [show (10 : Int32) = nI 10 from rfl, pk_div (by omega) (by decide) (by decide), show (10 * i' + j) / 10 = i' by omega]
        refine z_i rfl rfl ?_
        rw [hs] at he
        exact hgo i' _ hi' he.symm
    have hen := h.2.2.2.1 i hi
    repeat first | refine z_i rfl rfl ?_ | refine m_gt hb rfl rfl ?_
    refine z_b rfl rfl (fun q0 => ?_) (fun q0 => ?_)
    · have hi0 : ¬ i = 0 := fun q => q0 (by rw [q]; rfl)
      repeat first | refine z_i rfl rfl ?_ | refine m_gt hb rfl rfl ?_
      cases hc : sC s i with
      | none => rw [hc] at hen; exact absurd hen.1 hi0
      | some fn =>
        rw [hc] at hen
        refine m_ldv hb (j := i) rfl rfl rfl (show i < 91 by omega) hen.2.1 ?_
        refine hpl fn.2.1 (by have := hen.1; omega) ?_
        unfold e_ar
        rw [hc]
        exact e_na_pl h.2.2.2.1 91 fn.2.1 (by have := hen.1; omega) (by have := hen.1; omega)
    · have hi0 : i = 0 := (nI_z (by omega)).mp (Classical.not_not.mp q0)
      refine z_i rfl rfl ?_
      refine z_j rfl ?_
      refine hpl 0 (by omega) ?_
      have hs0 : sC s 0 = none := by
        cases hc : sC s 0 with
        | none => rfl
        | some fn => rw [hi0, hc] at hen; have := hen.1; omega
      unfold e_ar
      rw [hi0, hs0]
      unfold e_pl
      rw [hs0]
      dsimp only
      split <;> rfl
set_option maxRecDepth 100000 in
theorem k_asg (hb : mB b) (hc : Ctx dA b w CC GG QU) (hmk : mk ≤ 120) {e i k z j d : Nat} (IH : SIM dA b w CC QU P mk B res d) (hkd : kd P e = nI k) (hk : k = 4 ∨ k = 5) (hj : j < 10) (hpa : pa P e = nI j) (hz : pb P e = nI z) (hzm : z < mk) (h : MR P mk B res 1000 S (fw e i 0 none none :: F) none s) (hX : sX s = 0) (hwk : wk F + 1 + d = 40) (hK : KK dA b w CC QU P mk B res F (e_asg P (e_ev P d) s e i)) : AD dA b w CC S := by
  have hp0 : p_part P e 0 = nI z := by
    unfold p_part
    rcases hk with rfl | rfl
    · rw [if_pos (show kd P e = 4 from hkd), hz]
    · rw [if_neg (show ¬ kd P e = 4 from kd_ne hkd (by decide) (j := 4) (by decide) (by decide)), if_pos (show kd P e = 5 from hkd), hz]
  have hzz : tN (pb P e) = z := by rw [hz]; exact nI_clamp (by omega)
  have hjj : tN (pa P e) = j := by rw [hpa]; exact nI_clamp (by omega)
  have h1 : p_prt k = 1 := by rcases hk with rfl | rfl <;> rfl
  unfold e_asg at hK
  rw [hzz, hjj] at hK
  refine one_part hb hc hmk IH hkd (by omega) (by omega) hp0 hzm (by omega) h hX hwk hK (fun u s2 S2 hX2 hm hK2 => ?_)
  refine ad_go hb hmk hkd (by omega) hm (by omega) (fun Q hq => ?_)
  have hgo : zx dA 6 0 0 M_VectorLanguageModel_advance 242 [some (.ref (b 0)), some (.int (nI F.length)), some (.int (nI e)), some (.int (nI k)), none] [] (mw dA b w S2) 0 0 Q := by
    repeat first | refine z_i rfl rfl ?_ | refine m_gt hb rfl rfl ?_
    refine z_cVk [.int (nI F.length), .int (nI e)] [] 1 0 0 rfl (m_obj hb) rfl rfl (Nat.le_of_ble_eq_true rfl) (Nat.le_of_ble_eq_true rfl) (by omega) (by omega) (by omega) (r_assign2 hb (by omega) hmk hkd hk hj hpa hm hX2 hK2 (fun S' hS' => ⟨_, rfl, ?_⟩))
    refine z_j rfl ?_
    exact z_retV rfl (Nat.zero_le _) (Nat.zero_le _) (hq _ hS')
  rcases hk with rfl | rfl <;> exact z_sw (t := 242) rfl (by decide) hgo
theorem un_keep {i j : Nat} {v : Option aV} : sN (e_un s i j v) = sN s ∧ sX (e_un s i j v) = sX s ∧ sR (e_un s i j v) = sR s ∧ (∀ i' : Nat, sO (e_un s i j v) i' = sO s i') ∧ uR (e_un s i j v) none = e_un (uR s none) i j v := by
  unfold e_un
  have : sL (uR s none) i j = sL s i j := rfl
  rw [this]
  cases sL s i j with
  | none => exact ⟨rfl, rfl, rfl, fun _ => rfl, rfl⟩
  | some l =>
    cases l with
    | inl l => exact ⟨rfl, rfl, rfl, fun _ => rfl, rfl⟩
    | inr a => exact ⟨rfl, rfl, rfl, fun _ => sO_uL, rfl⟩
/-- an argument's link: its end goes on as e_arg says -/
theorem K_arg (hb : mB b) (hmk : mk ≤ 120) {i j : Nat} {r : aR} (hnot : fa i j ∉ F) (hK : KK dA b w CC QU P mk B res F (r.1, e_ct (e_un r.2 i j r.1) r.1)) : KK dA b w CC QU P mk B res (fa i j :: F) r := by
  refine ⟨fun v s hr hX S y h hv d Q hq => ?_, fun s hr hX S h => ?_, fun s i' v hr hX hR S y h hv hi hO => ?_⟩
  · subst hr
    obtain ⟨u1, u2, u3, u4, u5⟩ := un_keep (s := s) (i := i) (j := j) (v := some v)
    exact r_over_a hb h hv hnot (fun S' h' hv' => hK.1 v _ rfl (u2.trans hX) S' y h' (show VR P mk (sN (e_un s i j (some v))) 1000 S' y v by rw [u1]; exact hv') d Q hq)
  · subst hr
    obtain ⟨u1, u2, u3, u4, u5⟩ := un_keep (s := s) (i := i) (j := j) (v := none)
    exact U_a hb hmk h hX hnot (fun S' h' => hK.2.1 _ rfl (show ¬ sX (e_un s i j none) = 0 by rw [u2]; exact hX) S' h')
  · subst hr
    obtain ⟨u1, u2, u3, u4, u5⟩ := un_keep (s := s) (i := i) (j := j) (v := none)
    have hN := h.2.2.2.2.2.2.2.2.1
    refine L_a hb (Nat.le_trans hi hN) hmk h hv hnot (fun S' h' hv' => hK.2.2 _ i' v rfl (show sX (e_un s i j none) = 0 by rw [u2]; exact hX) (show sR (e_un s i j none) = _ by rw [u3]; exact hR) S' y ?_ (show VR P mk (sN (e_un s i j none)) 1000 S' y v by rw [u1]; exact hv') (show i' ≤ sN (e_un s i j none) by rw [u1]; exact hi) (show sO (e_un s i j none) i' = false by rw [u4]; exact hO))
    show MR P mk B res 1000 S' F none (uR (e_un s i j none) none)
    rw [u5]
    exact h'
theorem MR_pushA {f : fW} {i j : Nat} (h : MR P mk B res 1000 S (.inl f :: F) none s) (hi : i ≤ sN s) (hj : j < 10) (hl : lOK (sL s i j)) : MR P mk B res 1000 (plL S (F.length + 1) (-1) 0 (nI (10 * i + j))) (fa i j :: .inl f :: F) none s := by
  obtain ⟨⟨a1, a2, a3, a4, a5, a6, a7, a8⟩, m2, m3, m4, m5, m6, c1, c2, c3, c4, c5, c6, c7, c8, c9⟩ := h
  refine ⟨⟨?_, a2, a3, a4, a5, a6, a7, a8⟩, m2, m3, m4, m5, ⟨⟨pk_us, pk_us, pk_us, pk_us, pk_us, hi, hj⟩, ?_⟩, ⟨?_, c1⟩, c2, c3, c4, c5, c6, fun i' h1 h2 => ?_, c8, fun i' j' hh => ?_⟩
  · show S.1 25 + 1 = nI (F.length + 1 + 1)
    rw [a1, List.length_cons, nI_1]
  · exact FR_at (S := S) (S' := plL S (F.length + 1) (-1) 0 (nI (10 * i + j))) (n := sN s) (q := 1000) (Nat.le_refl _) (fun _ _ hv => hv) (.inl f :: F) none (fun p hp k k1 k2 => pl0_lt (p := F.length + 1) (a := -1) (i := 0) (h := nI (10 * i + j)) (by rw [List.length_cons] at hp; omega) k1 k2) m6
  · have := bF_len F c1.2
    show F.length + 1 + 1 ≤ 2 * (wk F + 1) + 1
    omega
  · refine (c7 i' h1 h2).trans ⟨fun q => List.mem_cons_of_mem _ q, fun q => ?_⟩
    rcases List.mem_cons.mp q with q | q
    · cases q
    · exact q
  · rcases List.mem_cons.mp hh with q | q
    · cases q; exact hl
    · exact c9 i' j' q
/-- what wanted does with a slot -/
theorem r_wanted (hb : mB b) (hd : 2 ≤ d) {f : fW} {i j d0 : Nat} (IH : SIM dA b w CC QU P mk B res d0) (hmk : mk ≤ 120) (hi : i ≤ sN s) (hj : j < 10) (h : MR P mk B res 1000 S (.inl f :: F) none s) (hX : sX s = 0) (hwk : wk F + 1 + d0 = 40) (hsome : (sL s i j).isSome = true)
    (hK : KK dA b w CC QU P mk B res (.inl f :: F) (e_val (e_ev P d0) s i j))
    (h1 : ∀ (y : Int32) (v : aV), e_val (e_ev P d0) s i j = (some v, s) → VR P mk (sN s) 1000 S y v → Q (.inl (some (.int y))) (mw dA b w S) 0 0)
    (h2 : e_val (e_ev P d0) s i j = e_fail s 2 → Q (.inl (some (.int (-1)))) (mw dA b w (jI S 29 2)) 0 0)
    (h3 : ∀ S' : mm, CC S' → Q (.inl (some (.int (-1)))) (mw dA b w S') 0 0) : zx dA d 0 0 M_VectorLanguageModel_wanted 0 (zargs 2 [.ref (b 0), .int (nI (10 * i + j))]) [] (mw dA b w S) 0 0 Q := by
  have hN := h.2.2.2.2.2.2.2.2.1
  have hlen := MR_len h
  have hs := h.2.2.2.2.1.1 i j hi hj
  have hkk : 10 * i + j < 910 := by omega
  obtain ⟨a1, _⟩ := h.1
  rw [List.length_cons] at hlen a1
  unfold e_val at hK h1 h2
  cases hl : sL s i j with
  | none => rw [hl] at hsome; cases hsome
  | some l =>
    rw [hl] at hK h1 h2 hs
    match l, hs with
    | .inl v, hs =>
      repeat first | refine z_i rfl rfl ?_ | refine m_gt hb rfl rfl ?_
      refine m_ldv hb (j := 10 * i + j) rfl rfl rfl hkk hs.1 ?_
      repeat first | refine z_i rfl rfl ?_ | refine m_gt hb rfl rfl ?_
      refine z_bt rfl rfl rfl ?_
      repeat first | refine z_i rfl rfl ?_ | refine m_gt hb rfl rfl ?_
      refine m_ld hb (j := 10 * i + j) rfl rfl rfl hkk ?_
      exact z_retI rfl (Nat.zero_le _) (Nat.zero_le _) (h1 _ v rfl hs.2)
    | .inr (e2, h2', false, some v), hs =>
      repeat first | refine z_i rfl rfl ?_ | refine m_gt hb rfl rfl ?_
      refine m_ldv hb (j := 10 * i + j) rfl rfl rfl hkk hs.1 ?_
      repeat first | refine z_i rfl rfl ?_ | refine m_gt hb rfl rfl ?_
      refine z_bf rfl rfl (show ¬ (4 : Int32) = 1 by decide) ?_
      repeat first | refine z_i rfl rfl ?_ | refine m_gt hb rfl rfl ?_
      refine m_ldv hb (j := 10 * i + j) rfl rfl rfl hkk hs.1 ?_
      repeat first | refine z_i rfl rfl ?_ | refine m_gt hb rfl rfl ?_
      refine z_bf rfl rfl (fun q => q rfl) ?_
      repeat first | refine z_i rfl rfl ?_ | refine m_gt hb rfl rfl ?_
      refine m_ld hb (j := 10 * i + j) rfl rfl rfl hkk ?_
      exact z_retI rfl (Nat.zero_le _) (Nat.zero_le _) (h1 _ v rfl hs.2)
    | .inr (e2, h2', true, o), hs =>
      obtain ⟨k1, k2, _⟩ := hs
      subst k2
      repeat first | refine z_i rfl rfl ?_ | refine m_gt hb rfl rfl ?_
      refine m_ldv hb (j := 10 * i + j) rfl rfl rfl hkk k1 ?_
      repeat first | refine z_i rfl rfl ?_ | refine m_gt hb rfl rfl ?_
      refine z_bf rfl rfl (show ¬ (3 : Int32) = 1 by decide) ?_
      repeat first | refine z_i rfl rfl ?_ | refine m_gt hb rfl rfl ?_
      refine m_ldv hb (j := 10 * i + j) rfl rfl rfl hkk k1 ?_
      repeat first | refine z_i rfl rfl ?_ | refine m_gt hb rfl rfl ?_
      refine z_bt rfl rfl (show ¬ (3 : Int32) = 4 by decide) ?_
      repeat first | refine z_i rfl rfl ?_ | refine m_gt hb rfl rfl ?_
      refine m_ldv hb (j := 10 * i + j) rfl rfl rfl hkk k1 ?_
      repeat first | refine z_i rfl rfl ?_ | refine m_gt hb rfl rfl ?_
      refine z_bf rfl rfl (fun q => q rfl) ?_
      repeat first | refine z_i rfl rfl ?_ | refine m_gt hb rfl rfl ?_
      refine m_pt hb rfl rfl ?_
      refine z_j rfl ?_
      repeat first | refine z_i rfl rfl ?_ | refine m_gt hb rfl rfl ?_
      exact z_retI rfl (Nat.zero_le _) (Nat.zero_le _) (h2 rfl)
    | .inr (e2, h2', false, none), hs =>
      obtain ⟨k1, k2, k3, k4, k5⟩ := hs
      repeat first | refine z_i rfl rfl ?_ | refine m_gt hb rfl rfl ?_
      refine m_ldv hb (j := 10 * i + j) rfl rfl rfl hkk k1 ?_
      repeat first | refine z_i rfl rfl ?_ | refine m_gt hb rfl rfl ?_
      refine z_bf rfl rfl (show ¬ (2 : Int32) = 1 by decide) ?_
      repeat first | refine z_i rfl rfl ?_ | refine m_gt hb rfl rfl ?_
      refine m_ldv hb (j := 10 * i + j) rfl rfl rfl hkk k1 ?_
      repeat first | refine z_i rfl rfl ?_ | refine m_gt hb rfl rfl ?_
      refine z_bt rfl rfl (show ¬ (2 : Int32) = 4 by decide) ?_
      repeat first | refine z_i rfl rfl ?_ | refine m_gt hb rfl rfl ?_
      refine m_ldv hb (j := 10 * i + j) rfl rfl rfl hkk k1 ?_
      repeat first | refine z_i rfl rfl ?_ | refine m_gt hb rfl rfl ?_
      refine z_bt rfl rfl (show ¬ (2 : Int32) = 3 by decide) ?_
      repeat first | refine z_i rfl rfl ?_ | refine m_gt hb rfl rfl ?_
      refine m_st hb (j := 10 * i + j) rfl rfl rfl hkk ?_
      have hm1 : MR P mk B res 1000 (jA S 15 (10 * i + j) 3) (.inl f :: F) none (uL s i j (some (.inr (e2, h2', true, none)))) := MR_slotU h hi hj (fun k hk => ⟨pk_un hk, rfl, rfl, rfl⟩) (fun k k1 _ _ _ => va_up_ne _ _ k1) ⟨rfl, rfl, rfl⟩ ⟨pk_us, rfl, k2, k3, k4, k5⟩ (fun _ => rfl)
      have hm2 := MR_pushA hm1 hi hj (by rw [sL_uL, if_pos ⟨rfl, rfl⟩]; exact rfl)
      have hnot : fa i j ∉ (.inl f :: F : List fF) := fun q => by
        have := h.2.2.2.2.2.2.2.2.2.2.2.2.2.2 i j q
        rw [hl] at this
        cases this
      repeat first | refine z_i rfl rfl ?_ | refine m_gt hb rfl rfl ?_
      refine z_cVk [.int (-1), .int 0, .int (nI (10 * i + j))] [] 0 0 0 rfl (m_obj hb) rfl rfl (Nat.le_of_ble_eq_true rfl) (Nat.le_of_ble_eq_true rfl) (by omega) (by omega) (by omega) (r_pileL (S := jA S 15 (10 * i + j) 3) hb a1 (by omega) (by decide) ⟨_, rfl, ?_⟩)
      repeat first | refine z_i rfl rfl ?_ | refine m_gt hb rfl rfl ?_
      refine m_ldv hb (S := plL (jA S 15 (10 * i + j) 3) (F.length + 1) (-1) 0 (nI (10 * i + j))) (j := 10 * i + j) rfl rfl rfl hkk k2 ?_
      repeat first | refine z_i rfl rfl ?_ | refine m_gt hb rfl rfl ?_
      refine m_ldv hb (S := plL (jA S 15 (10 * i + j) 3) (F.length + 1) (-1) 0 (nI (10 * i + j))) (j := 10 * i + j) rfl rfl rfl hkk k3 ?_
      refine z_cVk [.int (nI e2), .int (nI h2')] [] 1 0 0 rfl (m_obj hb) rfl rfl (Nat.le_of_ble_eq_true rfl) (Nat.le_of_ble_eq_true rfl) (by omega) (by omega) (by omega) (IH _ _ e2 h2' _ hm2 hX hwk k4 k5 (K_arg hb hmk hnot hK) 1 _ (by omega) (fun S' hS' => ⟨_, rfl, ?_⟩))
      repeat first | refine z_i rfl rfl ?_ | refine m_gt hb rfl rfl ?_
      exact z_retI rfl (Nat.zero_le _) (Nat.zero_le _) (h3 S' hS')
end KE
