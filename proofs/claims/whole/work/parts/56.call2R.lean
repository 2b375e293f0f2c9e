/-! the reference's kinds: call, try -/
section KJ
variable {dA : Nat → ClassId} {b : Nat → Nat} {w : ww_W} {CC GG : mm → Prop} {QU : zQ} {P : aP} {mk B n q : Nat} {res : rP} {S S' : mm} {F : List fF} {x : Option aV} {s : aS} {y : Int32} {d : Nat} {Q : zQ}
theorem r_call_zero (hb : mB b) {m g v1 v2 v3 : Nat} {L5 : Int32} {fn : Nat × Nat × Nat} (hm : m ≤ 90) (hQ : ∀ (S2 : mm) (o6 : Option Value), AR P mk S S2 m fn g (fun _ => none) → zx dA d 0 0 M_VectorLanguageModel_call 190 [some (.ref (b 0)), some (.int (nI v1)), some (.int (nI v2)), some (.int (nI v3)), some (.int (nI g)), some (.int L5), o6] [] (mw dA b w S2) 0 0 Q) : ∀ (r k : Nat) (S' : mm), k + r = 10 → CL S S' m → (S'.2.2.2 11 m = nI fn.2.1 ∧ S'.2.2.2 12 m = nI fn.1 ∧ S'.2.2.2 13 m = nI g) → (∀ j : Nat, j < k → S'.2.2.2 15 (10 * m + j) = 0) →
    zx dA d 0 0 M_VectorLanguageModel_call 161 [some (.ref (b 0)), some (.int (nI v1)), some (.int (nI v2)), some (.int (nI v3)), some (.int (nI g)), some (.int L5), some (.int (nI k))] [] (mw dA b w S') 0 0 Q := by
  intro r
  induction r with
  | zero =>
    intro k S' hk hC h2 h3
    refine z_i rfl rfl ?_
    refine z_i rfl rfl ?_
    refine z_bt rfl rfl (show nI 10 ≤ nI k from nI_le (by omega) (by omega)) ?_
    exact hQ S' _ ⟨hC, h2, fun j hj => h3 j (by omega)⟩
  | succ r ih =>
    intro k S' hk hC h2 h3
    have e14 : nI 10 * S'.1 14 + nI k = nI (10 * m + k) := by rw [hC.2.2.1, pk_mul, nI_add]
    refine z_i rfl rfl ?_
    refine z_i rfl rfl ?_
    refine z_bf rfl rfl (show ¬ nI 10 ≤ nI k from nI_ge (by omega) (by omega)) ?_
    repeat first | refine z_i rfl rfl ?_ | refine m_gt hb rfl rfl ?_
    refine m_st hb (j := 10 * m + k) rfl rfl e14 (show 10 * m + k < 910 by omega) ?_
    refine z_i rfl rfl ?_
    refine z_j rfl ?_
    obtain ⟨c0, c1, c2, c3, c4, c5⟩ := hC
    have := ih (k + 1) (jA S' 15 (10 * m + k) 0) (by omega) ⟨c0, c1, c2, fun k k1 k2 k3 k4 k5 k6 => (va_up_ne _ _ k4).trans (c3 k k1 k2 k3 k4 k5 k6), c4, fun p hp => ⟨(pk_un (by omega)).trans (c5 p hp).1, (c5 p hp).2⟩⟩ h2 (fun j hj => by
      by_cases hjk : j = k
      · subst hjk; exact pk_us
      · exact (pk_un (by omega)).trans (h3 j (by omega)))
    rw [← nI_1] at this
    exact this
theorem e_sl_0 {e i fi : Nat} : e_sl P e i fi 0 = fun _ => none := by
  funext j
  unfold e_sl
  rw [if_neg (by omega), if_neg (by omega)]
theorem e_sl_1 {e i fi : Nat} : e_sl P e i fi 1 = va_up (fun _ => none) fi (some (.inr (tN (pb P e), i, false, none))) := by
  funext j
  unfold e_sl
  rw [if_neg (by omega)]
  by_cases h : j = fi
  · subst h; rw [va_up_self, if_pos ⟨rfl, by omega⟩]
  · rw [va_up_ne _ _ h, if_neg (fun q => h q.1)]
theorem e_sl_2 {e i fi : Nat} : e_sl P e i fi 2 = va_up (va_up (fun _ => none) fi (some (.inr (tN (pb P e), i, false, none)))) (fi + 1) (some (.inr (tN (pc P e), i, false, none))) := by
  funext j
  unfold e_sl
  by_cases h1 : j = fi + 1
  · subst h1; rw [va_up_self, if_pos ⟨rfl, by omega⟩]
  · rw [va_up_ne _ _ h1, if_neg (fun q => h1 q.1)]
    by_cases h : j = fi
    · subst h; rw [va_up_self, if_pos ⟨rfl, by omega⟩]
    · rw [va_up_ne _ _ h, if_neg (fun q => h q.1)]
/-- how the arguments of a call stand -/
def okC (P : aP) (mk e : Nat) : Prop := (pb P e = -1 ∧ pc P e = -1) ∨ ∃ z2 : Nat, z2 < mk ∧ pb P e = nI z2 ∧ (pc P e = -1 ∨ ∃ z3 : Nat, z3 < mk ∧ pc P e = nI z3)
def okF (P : aP) (mk e : Nat) : Prop := (∃ z : Nat, z < mk ∧ pa P e = nI z) ∧ ∃ p : Nat, p ≤ 2 ∧ pb P e = nI p ∧ (p = 0 ∨ ∃ f : Nat, f + p ≤ 10 ∧ pc P e = nI f)
set_option maxRecDepth 100000 in
theorem r_callR (hb : mB b) (hc : Ctx dA b w CC GG QU) (hd : 2 ≤ d) {e i d0 : Nat} {u : aV} (IH : SIM dA b w CC QU P mk B res d0) (hmk : mk ≤ 120) (hF19 : ∀ e : Nat, e < mk → kd P e = 19 → okF P mk e) (hkd : kd P e = nI 20) (hC : okC P mk e) (h : MR P mk B res 1000 S (fw e i 1 (some u) none :: F) none s) (hX : sX s = 0) (hwk : wk F + 1 + d0 = 40) (hK : KK dA b w CC QU P mk B res F (e_cal P (e_ev P d0) e i u s))
    (hK2 : ∀ r : aR, KK dA b w CC QU P mk B res F r → KK dA b w CC QU P mk B res (fw e i 1 (some u) none :: F) r) (hq : qC dA b w CC Q) : zx dA d 0 0 M_VectorLanguageModel_call 0 (zargs 7 [.ref (b 0), .int (nI F.length)]) [] (mw dA b w S) 0 0 Q := by
  obtain ⟨a, ea, hA⟩ := top_va h
  obtain ⟨he2, hF, h20, hi, hi90⟩ := e_at hmk h
  have he := h.2.2.2.2.2.1.1.2.2.2.2.2.2.1
  have h19 := h.2.2.2.2.2.1.1.1
  have hN := h.2.2.2.2.2.2.2.2.1
  have hlen := MR_len h
  rw [List.length_cons] at hlen
  have a14 := h.1.2.2.2.2.2.1
  obtain ⟨g1, g2, g3, g4⟩ := h.2.1 e he
  have ha := hA.1
  have h24 : ¬ kd P e = 24 := kd_ne hkd (by decide) (j := 24) (by decide) (by decide)
  have hfail : ∀ z : Int32, ¬ z = 0 → KK dA b w CC QU P mk B res F (e_fail s z) → CC (jI S 29 z) := fun z hz hKz => cc_fail hb hc hmk (MR_err h z) hz (Or.inl h24) hKz
  have hgo : zx dA d 0 0 M_VectorLanguageModel_call 41 [some (.ref (b 0)), some (.int (nI F.length)), some (.int (nI a)), some (.int (nI e)), none, none, none] [.int (nI (e_giv P e))] (mw dA b w S) 0 0 Q := by
    repeat first | refine z_i rfl rfl ?_ | refine m_gt hb rfl rfl ?_
    cases u with
    | inl xs =>
      obtain ⟨x1, x2, x3, x4⟩ := VR_inl ha (RT_0 h hA)
      have hx16 := x2.1
      refine m_ldv hb (j := a) rfl rfl rfl ha x1 ?_
      refine z_bf rfl rfl (nI_pos (by omega)) ?_
      repeat first | refine z_i rfl rfl ?_ | refine m_gt hb rfl rfl ?_
      refine m_pt hb rfl rfl ?_
      exact z_retV rfl (Nat.zero_le _) (Nat.zero_le _) (hq _ (hfail 3 (by decide) hK))
    | inr fn =>
      obtain ⟨v1, v2, v3, v4, v5, v6, v7, v8⟩ := (VR_j ha (RT_0 h hA)).1
      obtain ⟨f1, f2, f3, f4⟩ := h.2.1 fn.1 v5
      obtain ⟨⟨zb, hzb, hpa⟩, p, hp2, hpb, hpc⟩ := hF19 fn.1 v5 v6
      have hfn : fn.1 < 120 := by omega
      have hg2 := e_giv_le (P := P) e
      replace hK : KK dA b w CC QU P mk B res F (e_ent P (e_ev P d0) s e i fn) := hK
      unfold e_ent at hK
      rw [hpb] at hK f3
      rw [hpa] at f2
      refine m_ldv hb (j := a) rfl rfl rfl ha v1 ?_
      refine z_bt rfl rfl (by decide) ?_
      repeat first | refine z_i rfl rfl ?_ | refine m_gt hb rfl rfl ?_
      refine m_lld hb (j := 8 * a) rfl (by show nI 8 * nI a = _; rw [pk_mul]) (by omega) ?_
      rw [v2]
      repeat first | refine z_i rfl rfl ?_ | refine m_gt hb rfl rfl ?_
      rw [lN_i]
      repeat first | refine z_i rfl rfl ?_ | refine m_gt hb rfl rfl ?_
      refine m_ldv hb (j := fn.1) rfl rfl rfl hfn f3 ?_
      refine z_b rfl rfl (fun k1 => ?_) (fun k1 => ?_)
      · replace k1 : nI (e_giv P e) ≤ nI p := k1
        rw [nI_leI (by omega) (by omega)] at k1
        rw [if_neg (nI_nlt k1 (by omega))] at hK
        repeat first | refine z_i rfl rfl ?_ | refine m_gt hb rfl rfl ?_
        refine z_b rfl rfl (fun k2 => ?_) (fun k2 => ?_)
        · replace k2 : ¬ S.1 14 = nI 90 := k2
          rw [a14, nI_eq (by omega) (by omega)] at k2
          rw [if_neg (by omega)] at hK
          have e14 : S.1 14 + 1 = nI (sN s + 1) := by rw [a14, nI_1]
          repeat first | refine z_i rfl rfl ?_ | refine m_gt hb rfl rfl ?_
          dsimp only
          rw [e14]
          refine m_pt hb rfl rfl ?_
          repeat first | refine z_i rfl rfl ?_ | refine m_gt hb rfl rfl ?_
          refine m_st hb (j := sN s + 1) rfl rfl rfl (show sN s + 1 < 91 by omega) ?_
          repeat first | refine z_i rfl rfl ?_ | refine m_gt hb rfl rfl ?_
          refine m_lld hb (j := 8 * a + 1) rfl (by show nI 8 * nI a + nI 1 = _; rw [pk_mul, nI_add]) (by omega) ?_
          rw [show (jA (jI S 14 (nI (sN s + 1))) 13 (sN s + 1) (nI (e_giv P e))).2.2.1 (8 * a + 1) = lN fn.2.1 from v3]
          repeat first | refine z_i rfl rfl ?_ | refine m_gt hb rfl rfl ?_
          rw [lN_i]
          refine m_st hb (j := sN s + 1) rfl rfl rfl (show sN s + 1 < 91 by omega) ?_
          repeat first | refine z_i rfl rfl ?_ | refine m_gt hb rfl rfl ?_
          refine m_st hb (j := sN s + 1) rfl rfl rfl (show sN s + 1 < 91 by omega) ?_
          refine z_i rfl rfl ?_
          refine z_i rfl rfl ?_
          have hCL : CL S (jA (jA (jA (jI S 14 (nI (sN s + 1))) 13 (sN s + 1) (nI (e_giv P e))) 11 (sN s + 1) (nI fn.2.1)) 12 (sN s + 1) (nI fn.1)) (sN s + 1) := by
            refine ⟨⟨rfl, rfl⟩, fun k k1 => va_up_ne _ _ k1, rfl, fun k k1 k2 k3 _ _ _ => (va_up_ne _ _ k2).trans ((va_up_ne _ _ k1).trans (va_up_ne _ _ k3)), fun i' hi' => ⟨pk_un hi', pk_un hi', pk_un hi'⟩, fun _ _ => ⟨rfl, rfl, rfl⟩⟩
          refine r_call_zero (S := S) (P := P) (mk := mk) (fn := fn) hb (by omega) (fun S2 o6 hAR => ?_) 10 0 _ (by omega) hCL ⟨pk_us, pk_us, pk_us⟩ (fun j hj => by omega)
          have hkeep : ∀ (S3 : mm) (l : Nat → aL), AR P mk S S3 (sN s + 1) fn (e_giv P e) l → S3.2.2.2 4 fn.1 = pc P fn.1 ∧ S3.2.2.2 3 e = pb P e ∧ S3.2.2.2 4 e = pc P e ∧ S3.2.2.2 20 F.length = nI i ∧ S3.2.2.2 2 fn.1 = nI zb ∧ S3.1 14 = nI (sN s + 1) ∧ S3.1 25 = nI (F.length + 1) := by
            intro S3 l hR
            obtain ⟨⟨_, c1, c2, c3, _, _⟩, _⟩ := hR
            rw [c3 4 (by decide) (by decide) (by decide) (by decide) (by decide) (by decide), c3 3 (by decide) (by decide) (by decide) (by decide) (by decide) (by decide), c3 20 (by decide) (by decide) (by decide) (by decide) (by decide) (by decide), c3 2 (by decide) (by decide) (by decide) (by decide) (by decide) (by decide), c1 25 (by decide), h.1.1, List.length_cons]
            exact ⟨f4, g3, g4, h20, f2, c2, rfl⟩
          have hlast : ∀ (S3 : mm) (o6 : Option Value), AR P mk S S3 (sN s + 1) fn (e_giv P e) (e_sl P e i (tN (pc P fn.1)) (e_giv P e)) → zx dA d 0 0 M_VectorLanguageModel_call 257 [some (.ref (b 0)), some (.int (nI F.length)), some (.int (nI a)), some (.int (nI e)), some (.int (nI (e_giv P e))), some (.int (nI fn.1)), o6] [] (mw dA b w S3) 0 0 Q := by
            intro S3 o6 hR
            obtain ⟨j1, j2, j3, j4, j5, j6, j7⟩ := hkeep S3 _ hR
            have hmc := MR_call h (by omega) ⟨v7, v5, v6⟩ hR
            have hnot : fc (sN s + 1) ∉ (fw e i 1 (some (.inr fn)) none :: F) := fun q => by
              have := (FR_mem_le h.2.2.2.2.2.1).1 _ q
              omega
            repeat first | refine z_i rfl rfl ?_ | refine m_gt hb rfl rfl ?_
            rw [j6]
            refine z_cVk [.int (-2), .int (nI (sN s + 1)), .int 0] [] 0 0 0 rfl (m_obj hb) rfl rfl (Nat.le_of_ble_eq_true rfl) (Nat.le_of_ble_eq_true rfl) (by omega) (by omega) (by omega) (r_pileL (S := S3) hb j7 (by omega) (by decide) ⟨_, rfl, ?_⟩)
            repeat first | refine z_i rfl rfl ?_ | refine m_gt hb rfl rfl ?_
            refine m_ldv hb (S := plL S3 (F.length + 1) (-2) (nI (sN s + 1)) 0) (j := fn.1) rfl rfl rfl hfn j5 ?_
            repeat first | refine z_i rfl rfl ?_ | refine m_gt hb rfl rfl ?_
            rw [show (plL S3 (F.length + 1) (-2) (nI (sN s + 1)) 0).1 14 = nI (sN s + 1) from j6]
            refine z_cVk [.int (nI zb), .int (nI (sN s + 1))] [] 1 0 0 rfl (m_obj hb) rfl rfl (Nat.le_of_ble_eq_true rfl) (Nat.le_of_ble_eq_true rfl) (by omega) (by omega) (by omega) (IH _ _ zb (sN s + 1) _ hmc hX hwk hzb (Nat.le_refl _) (K_call hb hmk hnot (hK2 _ hK) (fun v s' hr => ?_) (fun s' hr => ?_)) 1 _ (by omega) (fun S' hS' => ⟨_, rfl, ?_⟩))
            · rw [show tN (pa P fn.1) = zb by rw [hpa]; exact nI_clamp (by omega), hr]
            · rw [show tN (pa P fn.1) = zb by rw [hpa]; exact nI_clamp (by omega), hr]
            · exact z_retV rfl (Nat.zero_le _) (Nat.zero_le _) (hq _ hS')
          rcases hC with ⟨q1, q2⟩ | ⟨z2, hz2, q1, q2⟩
          · have hg0 : e_giv P e = 0 := by unfold e_giv; rw [if_pos q1, if_pos q2]
            rw [hg0, e_sl_0] at hlast
            rw [hg0] at hAR ⊢
            repeat first | refine z_i rfl rfl ?_ | refine m_gt hb rfl rfl ?_
            refine z_bt rfl rfl (by decide) ?_
            repeat first | refine z_i rfl rfl ?_ | refine m_gt hb rfl rfl ?_
            refine z_bt rfl rfl (by decide) ?_
            exact hlast S2 _ hAR
          · have hzz2 : tN (pb P e) = z2 := by rw [q1]; exact nI_clamp (by omega)
            have hb1 : ¬ pb P e = -1 := by rw [q1]; exact nI_n1 (by omega)
            have hgpos : 1 ≤ e_giv P e := by unfold e_giv; rw [if_neg hb1]; omega
            obtain ⟨fi, hfi, hpcf⟩ := hpc.resolve_left (by omega)
            have hfii : tN (pc P fn.1) = fi := by rw [hpcf]; exact nI_clamp (by omega)
            rw [hfii] at hlast
            obtain ⟨j1, j2, j3, j4, j5, j6, j7⟩ := hkeep S2 _ hAR
            rw [hpcf] at j1
            rw [q1] at j2
            repeat first | refine z_i rfl rfl ?_ | refine m_gt hb rfl rfl ?_
            refine z_bf rfl rfl (nI_nle hgpos (by omega)) ?_
            repeat first | refine z_i rfl rfl ?_ | refine m_gt hb rfl rfl ?_
            refine m_ldv hb (j := fn.1) rfl rfl rfl hfn j1 ?_
            repeat first | refine z_i rfl rfl ?_ | refine m_gt hb rfl rfl ?_
            refine m_ldv hb (j := e) rfl rfl rfl he2 j2 ?_
            repeat first | refine z_i rfl rfl ?_ | refine m_gt hb rfl rfl ?_
            refine m_ldv hb (j := F.length) rfl rfl rfl hF j4 ?_
            rw [j6]
            refine z_cVk [.int (nI (sN s + 1)), .int (nI fi), .int (nI z2), .int (nI i)] [] 0 0 0 rfl (m_obj hb) rfl rfl (Nat.le_of_ble_eq_true rfl) (Nat.le_of_ble_eq_true rfl) (by omega) (by omega) (by omega) (r_argue (m := sN s + 1) (v := fi) hb (by omega) (by omega) hz2 hmk (by omega) hAR (fun S3 hAR3 => ⟨_, rfl, ?_⟩))
            rcases q2 with q2 | ⟨z3, hz3, q2⟩
            · have hg1 : e_giv P e = 1 := by unfold e_giv; rw [if_neg hb1, if_pos q2]
              rw [hg1, e_sl_1, hzz2] at hlast
              rw [hg1] at hAR3 ⊢
              repeat first | refine z_i rfl rfl ?_ | refine m_gt hb rfl rfl ?_
              refine z_bt rfl rfl (by decide) ?_
              exact hlast S3 _ hAR3
            · have hzz3 : tN (pc P e) = z3 := by rw [q2]; exact nI_clamp (by omega)
              have hg1 : e_giv P e = 2 := by unfold e_giv; rw [if_neg hb1, if_neg (by rw [q2]; exact nI_n1 (by omega))]
              have hfi2 : fi + 1 < 10 := by omega
              obtain ⟨j1, j2, j3, j4, j5, j6, j7⟩ := hkeep S3 _ hAR3
              rw [hpcf] at j1
              rw [q2] at j3
              rw [hg1, e_sl_2, hzz2, hzz3] at hlast
              rw [hg1] at hAR3 ⊢
              repeat first | refine z_i rfl rfl ?_ | refine m_gt hb rfl rfl ?_
              refine z_bf rfl rfl (by decide) ?_
              repeat first | refine z_i rfl rfl ?_ | refine m_gt hb rfl rfl ?_
              refine m_ldv hb (j := fn.1) rfl rfl rfl hfn j1 ?_
              repeat first | refine z_i rfl rfl ?_ | refine m_gt hb rfl rfl ?_
              refine m_ldv hb (j := e) rfl rfl rfl he2 j3 ?_
              repeat first | refine z_i rfl rfl ?_ | refine m_gt hb rfl rfl ?_
              refine m_ldv hb (j := F.length) rfl rfl rfl hF j4 ?_
              dsimp only
              rw [j6, nI_1]
              refine z_cVk [.int (nI (sN s + 1)), .int (nI (fi + 1)), .int (nI z3), .int (nI i)] [] 0 0 0 rfl (m_obj hb) rfl rfl (Nat.le_of_ble_eq_true rfl) (Nat.le_of_ble_eq_true rfl) (by omega) (by omega) (by omega) (r_argue (m := sN s + 1) (v := fi + 1) hb (by omega) hfi2 hz3 hmk (by omega) hAR3 (fun S4 hAR4 => ⟨_, rfl, ?_⟩))
              exact hlast S4 _ hAR4
        · replace k2 : S.1 14 = nI 90 := Classical.not_not.mp k2
          rw [a14, nI_eq (by omega) (by omega)] at k2
          rw [if_pos (by omega)] at hK
          repeat first | refine z_i rfl rfl ?_ | refine m_gt hb rfl rfl ?_
          refine m_pt hb rfl rfl ?_
          exact z_retV rfl (Nat.zero_le _) (Nat.zero_le _) (hq _ (hfail 9 (by decide) hK))
      · replace k1 : ¬ nI (e_giv P e) ≤ nI p := k1
        rw [nI_leI (by omega) (by omega)] at k1
        rw [if_pos (nI_lt (by omega) (by omega))] at hK
        repeat first | refine z_i rfl rfl ?_ | refine m_gt hb rfl rfl ?_
        refine m_pt hb rfl rfl ?_
        exact z_retV rfl (Nat.zero_le _) (Nat.zero_le _) (hq _ (hfail 6 (by decide) hK))
  repeat first | refine z_i rfl rfl ?_ | refine m_gt hb rfl rfl ?_
  refine m_ldv hb (j := F.length) rfl rfl rfl hF ea ?_
  repeat first | refine z_i rfl rfl ?_ | refine m_gt hb rfl rfl ?_
  refine m_ldv hb (j := F.length) rfl rfl rfl hF h19 ?_
  repeat first | refine z_i rfl rfl ?_ | refine m_gt hb rfl rfl ?_
  rcases hC with ⟨q1, q2⟩ | ⟨z2, hz2, q1, q2⟩
  · have hg0 : e_giv P e = 0 := by unfold e_giv; rw [if_pos q1, if_pos q2]
    rw [hg0] at hgo
    rw [q1] at g3
    refine m_ldv hb (j := e) rfl rfl rfl he2 g3 ?_
    refine z_bf rfl rfl (by decide) ?_
    refine z_i rfl rfl ?_
    refine z_j rfl ?_
    exact hgo
  · have hb1 : ¬ pb P e = -1 := by rw [q1]; exact nI_n1 (by omega)
    rw [q1] at g3
    refine m_ldv hb (j := e) rfl rfl rfl he2 g3 ?_
    refine z_bt rfl rfl (nI_pos' (by omega)) ?_
    repeat first | refine z_i rfl rfl ?_ | refine m_gt hb rfl rfl ?_
    rcases q2 with q2 | ⟨z3, hz3, q2⟩
    · have hg1 : e_giv P e = 1 := by unfold e_giv; rw [if_neg hb1, if_pos q2]
      rw [hg1] at hgo
      rw [q2] at g4
      refine m_ldv hb (j := e) rfl rfl rfl he2 g4 ?_
      refine z_bf rfl rfl (by decide) ?_
      refine z_i rfl rfl ?_
      refine z_j rfl ?_
      exact hgo
    · have hg1 : e_giv P e = 2 := by unfold e_giv; rw [if_neg hb1, if_neg (by rw [q2]; exact nI_n1 (by omega))]
      rw [hg1] at hgo
      rw [q2] at g4
      refine m_ldv hb (j := e) rfl rfl rfl he2 g4 ?_
      refine z_bt rfl rfl (nI_pos' (by omega)) ?_
      refine z_i rfl rfl ?_
      exact hgo
set_option maxRecDepth 100000 in
theorem k_call (hb : mB b) (hc : Ctx dA b w CC GG QU) (hmk : mk ≤ 120) {e i z d : Nat} (IH : SIM dA b w CC QU P mk B res d) (hF19 : ∀ e : Nat, e < mk → kd P e = 19 → okF P mk e) (hkd : kd P e = nI 20) (hC : okC P mk e) (hz : pa P e = nI z) (hzm : z < mk) (h : MR P mk B res 1000 S (fw e i 0 none none :: F) none s) (hX : sX s = 0) (hwk : wk F + 1 + d = 40) (hK : KK dA b w CC QU P mk B res F (e_call P (e_ev P d) s e i)) : AD dA b w CC S := by
  obtain ⟨hp0, _⟩ := p_part_ab hkd (by decide) (by decide) (by decide) (by decide)
  rw [hz] at hp0
  have hzz : tN (pa P e) = z := by rw [hz]; exact nI_clamp (by omega)
  have h24 : ¬ kd P e = 24 := kd_ne hkd (by decide) (j := 24) (by decide) (by decide)
  unfold e_call at hK
  rw [hzz] at hK
  refine one_part hb hc hmk IH hkd (by decide) (by decide) hp0 hzm (by decide) h hX hwk hK (fun u s2 S2 hX2 hm hK2 => ?_)
  obtain ⟨he2, hF, h20, hi, hi90⟩ := e_at hmk hm
  have h21 := hm.2.2.2.2.2.1.1.2.2.1
  refine ad_go hb hmk hkd (by decide) hm (by decide) (fun Q hq => ?_)
  refine z_sw (t := 361) rfl (by decide) ?_
  repeat first | refine z_i rfl rfl ?_ | refine m_gt hb rfl rfl ?_
  refine m_ldv hb (j := F.length) rfl rfl rfl hF h21 ?_
  repeat first | refine z_i rfl rfl ?_ | refine m_gt hb rfl rfl ?_
  refine z_bt rfl rfl (show ¬ nI 1 = nI 2 by decide) ?_
  repeat first | refine z_i rfl rfl ?_ | refine m_gt hb rfl rfl ?_
  refine z_cVk [.int (nI F.length)] [] 2 0 0 rfl (m_obj hb) rfl rfl (Nat.le_of_ble_eq_true rfl) (Nat.le_of_ble_eq_true rfl) (by omega) (by omega) (by omega) (r_callR hb hc (by omega) IH hmk hF19 hkd hC hm hX2 hwk hK2 (fun r hr => K_sub (g := fun v s => (some v, s)) hb hc hmk (by omega) (Or.inl h24) (by rw [e_bd_id]; exact hr) (fun v s3 S3 y3 _ hX3 hm3 hK3 => ?_)) (fun S' hS' => ⟨_, rfl, ?_⟩))
  · obtain ⟨c, ec, hC3⟩ := top_vb hm3
    have h21' := hm3.2.2.2.2.2.1.1.2.2.1
    refine ad_go hb hmk hkd (by decide) hm3 (by decide) (fun Q hq => ?_)
    refine z_sw (t := 361) rfl (by decide) ?_
    repeat first | refine z_i rfl rfl ?_ | refine m_gt hb rfl rfl ?_
    refine m_ldv hb (j := F.length) rfl rfl rfl hF h21' ?_
    repeat first | refine z_i rfl rfl ?_ | refine m_gt hb rfl rfl ?_
    refine z_bf rfl rfl (fun q => q rfl) ?_
    repeat first | refine z_i rfl rfl ?_ | refine m_gt hb rfl rfl ?_
    refine m_ldv hb (j := F.length) rfl rfl rfl hF ec ?_
    refine z_cVk [.int (nI c)] [] 0 0 0 rfl (m_obj hb) rfl rfl (Nat.le_of_ble_eq_true rfl) (Nat.le_of_ble_eq_true rfl) (by omega) (by omega) (by omega) (over_K hb hm3 hX3 hK3 (RT_0 hm3 hC3) (fun S' hS' => ⟨_, rfl, ?_⟩))
    refine z_j rfl ?_
    exact z_retV rfl (Nat.zero_le _) (Nat.zero_le _) (hq _ hS')
  · refine z_j rfl ?_
    exact z_retV rfl (Nat.zero_le _) (Nat.zero_le _) (hq _ hS')
end KJ
