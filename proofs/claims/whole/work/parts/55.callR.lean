/-! the reference's kinds: call -/
section KI
variable {dA : Nat → ClassId} {b : Nat → Nat} {w : ww_W} {CC GG : mm → Prop} {QU : zQ} {P : aP} {mk B n q : Nat} {res : rP} {S S' : mm} {F : List fF} {x : Option aV} {s : aS} {y : Int32} {d : Nat} {Q : zQ}
/-- the state with the environment m begun -/
def CL (S S' : mm) (m : Nat) : Prop := (S'.2.1 = S.2.1 ∧ S'.2.2.1 = S.2.2.1) ∧ (∀ k : Nat, k ≠ 14 → S'.1 k = S.1 k) ∧ S'.1 14 = nI m ∧ (∀ k : Nat, k ≠ 11 → k ≠ 12 → k ≠ 13 → k ≠ 15 → k ≠ 17 → k ≠ 18 → S'.2.2.2 k = S.2.2.2 k) ∧ (∀ i : Nat, i ≠ m → S'.2.2.2 11 i = S.2.2.2 11 i ∧ S'.2.2.2 12 i = S.2.2.2 12 i ∧ S'.2.2.2 13 i = S.2.2.2 13 i) ∧ (∀ p : Nat, p < 10 * m ∨ 10 * m + 10 ≤ p → S'.2.2.2 15 p = S.2.2.2 15 p ∧ S'.2.2.2 17 p = S.2.2.2 17 p ∧ S'.2.2.2 18 p = S.2.2.2 18 p)
def AR (P : aP) (mk : Nat) (S S' : mm) (m : Nat) (fn : Nat × Nat × Nat) (g : Nat) (l : Nat → aL) : Prop := CL S S' m ∧ (S'.2.2.2 11 m = nI fn.2.1 ∧ S'.2.2.2 12 m = nI fn.1 ∧ S'.2.2.2 13 m = nI g) ∧ ∀ j : Nat, j < 10 → SL P mk m 1000 S' (10 * m + j) (l j)
theorem r_argue (hb : mB b) {m v e i g : Nat} {fn : Nat × Nat × Nat} {l : Nat → aL} (hm : m ≤ 90) (hv : v < 10) (he : e < mk) (hmk : mk ≤ 120) (hi : i ≤ m) (h : AR P mk S S' m fn g l) (hQ : ∀ S2 : mm, AR P mk S S2 m fn g (va_up l v (some (.inr (e, i, false, none)))) → Q (.inl none) (mw dA b w S2) 0 0) : zx dA d 0 0 M_VectorLanguageModel_argue 0 (zargs 5 [.ref (b 0), .int (nI m), .int (nI v), .int (nI e), .int (nI i)]) [] (mw dA b w S') 0 0 Q := by
  have e1 : nI 10 * nI m + nI v = nI (10 * m + v) := by rw [pk_mul, nI_add]
  have hk : 10 * m + v < 910 := by omega
  repeat first | refine z_i rfl rfl ?_ | refine m_gt hb rfl rfl ?_
  refine z_bt rfl rfl (nI_pos' (by omega)) ?_
  repeat first | refine z_i rfl rfl ?_ | refine m_gt hb rfl rfl ?_
  refine m_st hb (j := 10 * m + v) rfl rfl e1 hk ?_
  repeat first | refine z_i rfl rfl ?_ | refine m_gt hb rfl rfl ?_
  refine m_st hb (j := 10 * m + v) rfl rfl e1 hk ?_
  repeat first | refine z_i rfl rfl ?_ | refine m_gt hb rfl rfl ?_
  refine m_st hb (j := 10 * m + v) rfl rfl e1 hk ?_
  refine z_retV rfl (Nat.zero_le _) (Nat.zero_le _) (hQ _ ?_)
  obtain ⟨⟨c0, c1, c2, c3, c4, c5⟩, h2, h3⟩ := h
  refine ⟨⟨c0, c1, c2, fun k k1 k2 k3 k4 k5 k6 => ?_, c4, fun p hp => ?_⟩, h2, fun j hj => ?_⟩
  · exact (va_up_ne _ _ k6).trans ((va_up_ne _ _ k5).trans ((va_up_ne _ _ k4).trans (c3 k k1 k2 k3 k4 k5 k6)))
  · obtain ⟨g1, g2, g3⟩ := c5 p hp
    have hpv : p ≠ 10 * m + v := by omega
    exact ⟨(pk_un hpv).trans g1, (pk_un hpv).trans g2, (pk_un hpv).trans g3⟩
  · by_cases hjv : j = v
    · subst hjv
      rw [va_up_self]
      exact ⟨pk_us, pk_us, pk_us, he, hi⟩
    · rw [va_up_ne _ _ hjv]
      have hne : 10 * m + j ≠ 10 * m + v := by omega
      exact SL_at (S := S') (Nat.le_refl _) (pk_un hne) rfl (pk_un hne) (pk_un hne) (fun _ _ hv => hv) (h3 j hj)
theorem e1_new {e i i' : Nat} {fn : Nat × Nat × Nat} : (e_new P s e i fn).1 i' = if i' = sN s + 1 then (e_sl P e i (tN (pc P fn.1)) (e_giv P e), some fn, e_giv P e, false) else s.1 i' := by
  unfold e_new
  by_cases h : i' = sN s + 1
  · subst h; simp only [va_up_self, if_true]
  · simp only [va_up_ne _ _ h, if_neg h]
theorem e_giv_le (e : Nat) : e_giv P e ≤ 2 := by
  unfold e_giv
  split <;> split <;> omega
theorem FR_mem_le (h : FR P mk n q S F x) : (∀ i : Nat, fc i ∈ F → i ≤ n) ∧ ∀ i j : Nat, fa i j ∈ F → i ≤ n := by
  constructor
  · intro i hm
    obtain ⟨p, p1, x', p2⟩ := FR_pos F x h _ hm
    exact p2.2.2.2.2.2.2
  · intro i j hm
    obtain ⟨p, p1, x', p2⟩ := FR_pos F x h _ hm
    exact p2.2.2.2.2.2.1
theorem MR_call {f : fW} {e i : Nat} {fn : Nat × Nat × Nat} (h : MR P mk B res 1000 S (.inl f :: F) none s) (hN : sN s < 90) (hfn : fn.2.1 ≤ sN s ∧ fn.1 < mk ∧ kd P fn.1 = 19) (hA : AR P mk S S' (sN s + 1) fn (e_giv P e) (e_sl P e i (tN (pc P fn.1)) (e_giv P e))) : MR P mk B res 1000 (plL S' (F.length + 1) (-2) (nI (sN s + 1)) 0) (fc (sN s + 1) :: .inl f :: F) none (e_new P s e i fn) := by
  obtain ⟨⟨c0, d1, d2, d3, d4, d5⟩, d6, d7⟩ := hA
  have hV : ∀ (y : Int32) (v : aV), VR P mk (sN s) 1000 S y v → VR P mk (sN s + 1) 1000 S' y v := by
    intro y v hv
    obtain ⟨z, h1, h2, h3, h4, h5⟩ := hv
    exact ⟨z, h1, h2, h3, by rw [d3 8 (by decide) (by decide) (by decide) (by decide) (by decide) (by decide)]; exact h4, VC_n (Nat.le_succ _) (VC_mem (by rw [d3 7 (by decide) (by decide) (by decide) (by decide) (by decide) (by decide)]) (fun _ _ => by rw [c0.2]) h5)⟩
  have hmem := FR_mem_le h.2.2.2.2.2.1
  obtain ⟨⟨a1, a2, a3, a4, a5, a6, a7, a8⟩, m2, m3, m4, m5, m6, c1, c2, c3, c4, c5, c6, c7, c8, c9⟩ := h
  have hk : ∀ k : Nat, k ≠ 11 → k ≠ 12 → k ≠ 13 → k ≠ 15 → k ≠ 17 → k ≠ 18 → k < 19 ∨ 24 < k → (plL S' (F.length + 1) (-2) (nI (sN s + 1)) 0).2.2.2 k = S.2.2.2 k := by
    intro k k1 k2 k3 k4 k5 k6 k7
    have e1 : (plL S' (F.length + 1) (-2) (nI (sN s + 1)) 0).2.2.2 k = S'.2.2.2 k := by
      show (pl0 S' (F.length + 1) (-2) (nI (sN s + 1)) 0).2.2.2 k = _
      unfold pl0 jA
      simp only
      rw [va_up_ne _ _ (by omega), va_up_ne _ _ (by omega), va_up_ne _ _ (by omega), va_up_ne _ _ (by omega), va_up_ne _ _ (by omega), va_up_ne _ _ (by omega)]
    exact e1.trans (d3 k k1 k2 k3 k4 k5 k6)
  have hsc : ∀ i' : Nat, i' ≤ sN s → sC (e_new P s e i fn) i' = sC s i' ∧ sG (e_new P s e i fn) i' = sG s i' ∧ sO (e_new P s e i fn) i' = sO s i' ∧ ∀ j : Nat, sL (e_new P s e i fn) i' j = sL s i' j := by
    intro i' hi'
    have : (e_new P s e i fn).1 i' = s.1 i' := by rw [e1_new, if_neg (by omega)]
    exact ⟨by unfold sC; rw [this], by unfold sG; rw [this], by unfold sO; rw [this], fun j => by unfold sL; rw [this]⟩
  have hn1 : (e_new P s e i fn).1 (sN s + 1) = (e_sl P e i (tN (pc P fn.1)) (e_giv P e), some fn, e_giv P e, false) := by rw [e1_new, if_pos rfl]
  refine ⟨⟨?_, ?_, ?_, ?_, ?_, ?_, ?_, ?_⟩, ?_, ⟨?_, hV _ _ m3.2.1, ?_⟩, fun i' hi' => ?_, ⟨fun i' j' hi' hj' => ?_, fun k k1 k2 => ?_⟩, ⟨⟨pk_us, pk_us, pk_us, pk_us, pk_us, by omega, Nat.le_refl _⟩, ?_⟩, ⟨?_, c1⟩, c2, ?_, c4, c5, c6, fun i' h1 h2 => ?_, ?_, fun i' j' hh => ?_⟩
  · show S'.1 25 + 1 = nI (F.length + 1 + 1)
    rw [d1 25 (by decide), a1, List.length_cons, nI_1]
  · show S'.1 26 = nI (wk F + 1)
    rw [d1 26 (by decide)]
    exact a2
  · show S'.1 27 = nI (sT s)
    rw [d1 27 (by decide)]
    exact a3
  · show S'.1 28 = nI (sA s)
    rw [d1 28 (by decide)]
    exact a4
  · show S'.1 29 = sX s
    rw [d1 29 (by decide)]
    exact a5
  · exact d2
  · show S'.1 5 = nI mk
    rw [d1 5 (by decide)]
    exact a7
  · show S'.2.1 = lN (sF s)
    rw [c0.1]
    exact a8
  · intro e0 he0
    rw [hk 1 (by decide) (by decide) (by decide) (by decide) (by decide) (by decide) (by decide), hk 2 (by decide) (by decide) (by decide) (by decide) (by decide) (by decide) (by decide), hk 3 (by decide) (by decide) (by decide) (by decide) (by decide) (by decide) (by decide), hk 4 (by decide) (by decide) (by decide) (by decide) (by decide) (by decide) (by decide)]
    exact m2 e0 he0
  · show ∃ x : Nat, x ≤ 1000 ∧ S'.1 9 = nI x
    rw [d1 9 (by decide)]
    exact m3.1
  · show VO P mk (sN s + 1) 1000 S' (S'.1 30) res.1 ∧ S'.1 30 = res.2 ∧ S'.1 0 = 0
    rw [d1 30 (by decide), d1 0 (by decide)]
    exact ⟨VO_of (hV _) m3.2.2.1, m3.2.2.2⟩
  · have hi2 : i' ≤ sN s + 1 := hi'
    by_cases hin : i' = sN s + 1
    · subst hin
      have e2 : sC (e_new P s e i fn) (sN s + 1) = some fn := by unfold sC; rw [hn1]
      have e3 : sG (e_new P s e i fn) (sN s + 1) = e_giv P e := by unfold sG; rw [hn1]
      rw [e2, e3]
      exact ⟨by omega, d6.1, d6.2.1, hfn.2.1, hfn.2.2, d6.2.2, e_giv_le e⟩
    · obtain ⟨q1, q2, _, _⟩ := hsc i' (by omega)
      have := m4 i' (by omega)
      obtain ⟨g1, g2, g3⟩ := d4 i' hin
      rw [q1, q2]
      show match sC s i' with
        | none => i' = 0 ∧ S'.2.2.2 11 i' = -1
        | some fn => fn.2.1 < i' ∧ S'.2.2.2 11 i' = nI fn.2.1 ∧ S'.2.2.2 12 i' = nI fn.1 ∧ fn.1 < mk ∧ kd P fn.1 = 19 ∧ S'.2.2.2 13 i' = nI (sG s i') ∧ sG s i' ≤ 2
      rw [g1, g2, g3]
      exact this
  · have hi2 : i' ≤ sN s + 1 := hi'
    show SL P mk (sN s + 1) 1000 (plL S' (F.length + 1) (-2) (nI (sN s + 1)) 0) (10 * i' + j') (sL (e_new P s e i fn) i' j')
    by_cases hin : i' = sN s + 1
    · subst hin
      have e2 : sL (e_new P s e i fn) (sN s + 1) j' = e_sl P e i (tN (pc P fn.1)) (e_giv P e) j' := by unfold sL; rw [hn1]
      rw [e2]
      exact SL_at (S := S') (n := sN s + 1) (q := 1000) (Nat.le_refl _) rfl rfl rfl rfl (fun _ _ hv => hv) (d7 j' hj')
    · rw [(hsc i' (by omega)).2.2.2 j']
      obtain ⟨g1, g2, g3⟩ := d5 (10 * i' + j') (Or.inl (by omega))
      exact SL_at (S := S) (n := sN s) (q := 1000) (Nat.le_succ _) g1 (by rw [hk 16 (by decide) (by decide) (by decide) (by decide) (by decide) (by decide) (by decide)]) g2 g3 hV (m5.1 i' j' (by omega) hj')
  · have k1' : 10 * (sN s + 1 + 1) ≤ k := k1
    show S'.2.2.2 15 k = 0
    rw [(d5 k (Or.inr (by omega))).1]
    exact m5.2 k (by omega) k2
  · refine FR_at (S := S) (S' := plL S' (F.length + 1) (-2) (nI (sN s + 1)) 0) (n := sN s) (n' := sN s + 1) (q := 1000) (Nat.le_succ _) hV (.inl f :: F) none (fun p hp k k1 k2 => ?_) m6
    rw [← d3 k (by omega) (by omega) (by omega) (by omega) (by omega) (by omega)]
    exact pl0_lt (p := F.length + 1) (a := -2) (i := nI (sN s + 1)) (h := 0) (by rw [List.length_cons] at hp; omega) k1 k2
  · have := bF_len F c1.2
    show F.length + 1 + 1 ≤ 2 * (wk F + 1) + 1
    omega
  · show sN s + 1 ≤ 90
    omega
  · have h2' : i' ≤ sN s + 1 := h2
    by_cases hin : i' = sN s + 1
    · subst hin
      have e2 : sO (e_new P s e i fn) (sN s + 1) = false := by unfold sO; rw [hn1]
      exact ⟨fun _ => List.mem_cons_self, fun _ => e2⟩
    · rw [(hsc i' (by omega)).2.2.1]
      refine (c7 i' h1 (by omega)).trans ⟨fun q => List.mem_cons_of_mem _ q, fun q => ?_⟩
      rcases List.mem_cons.mp q with q | q
      · exact absurd (by cases q; rfl) hin
      · exact q
  · rw [(hsc 0 (by omega)).2.2.1]
    exact c8
  · rcases List.mem_cons.mp hh with q | q
    · cases q
    · rw [(hsc i' (hmem.2 i' j' q)).2.2.2 j']
      exact c9 i' j' q
/-- a call's link: its end goes on as e_ent says -/
theorem K_call (hb : mB b) (hmk : mk ≤ 120) {m : Nat} {r r' : aR} (hnot : fc m ∉ F) (hK : KK dA b w CC QU P mk B res F r') (h1 : ∀ (v : aV) (s : aS), r = (some v, s) → r' = (some v, uO s m true)) (h2 : ∀ s : aS, r = (none, s) → r' = e_take (uO s m true) m) : KK dA b w CC QU P mk B res (fc m :: F) r := by
  refine ⟨fun v s hr hX S y h hv d Q hq => ?_, fun s hr hX S h => ?_, fun s i' v hr hX hR S y h hv hi hO => ?_⟩
  · rw [h1 v s hr] at hK
    exact r_over_c hb h (hK.1 v _ rfl hX _ y (MR_popC h hnot) hv d Q hq)
  · rw [h2 s hr] at hK
    have hR : sR s = none := h.2.2.2.2.2.2.2.2.2.2.2.1
    have e1 : e_take (uO s m true) m = (none, uO s m true) := by
      unfold e_take
      rw [show sR (uO s m true) = sR s from rfl, hR]
    rw [e1] at hK
    exact U_c hb hmk h hX hnot (hK.2.1 _ rfl hX _ (MR_popC h hnot))
  · rw [h2 s hr] at hK
    have hN := h.2.2.2.2.2.2.2.2.1
    by_cases him : i' = m
    · have e1 : e_take (uO s m true) m = (some v, uR (uO s m true) none) := by
        unfold e_take
        rw [show sR (uO s m true) = sR s from rfl, hR]
        exact if_pos him
      rw [e1] at hK
      subst him
      have hpd := MR_pd (a := 0) (i := 0) (h0 := 0) h
      refine L_hit hb (Nat.le_trans hi hN) h (fun d Q hq => ?_)
      exact r_over_c hb hpd (hK.1 v _ rfl hX _ y (MR_popC hpd hnot) hv d Q hq)
    · have e1 : e_take (uO s m true) m = (none, uO s m true) := by
        unfold e_take
        rw [show sR (uO s m true) = sR s from rfl, hR]
        exact if_neg him
      rw [e1] at hK
      exact L_c hb (Nat.le_trans hi hN) hmk h (fun q => him q.symm) hnot (hK.2.2 _ i' v rfl hX hR _ y (MR_popC h hnot) hv hi (by rw [sO_uO, if_neg him]; exact hO))
end KI
